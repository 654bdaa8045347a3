/-! THE CONSTRUCTORS: the simulation, one step more -/
theorem zd_gi_v {L : zi_L} {i : Nat} {x : Int32} (h : zd_gi L i = some x) : L[i]? = some (some (.inl x)) := by
  unfold zd_gi at h; split at h
  · next e => cases h; exact e
  · cases h
theorem zd_ga_v {L : zi_L} {i x : Nat} (h : zd_ga L i = some x) : L[i]? = some (some (.inr (.inr (0, some x)))) := by
  unfold zd_ga at h; split at h
  · next e => cases h; exact e
  · cases h
theorem zd_to_v {pc : Nat} {off : Int} {t : Nat} (h : zd_to pc off = some t) : (pc : Int) + off = (t : Int) := by
  unfold zd_to at h; split at h
  · next e => cases h; exact e
  · cases h
theorem zd_rv_v {v : zi_V} {x : Nat} (h : zd_rv v = some x) : v = .inr (.inr (0, some x)) := by
  unfold zd_rv at h; split at h
  · cases h; rfl
  · cases h
theorem zd_vt {n : Nat} {a : zi_V} {S : zi_S} (g : ∀ v ∈ a :: S, zd_vl n v) : ∀ v ∈ S, zd_vl n v := (List.forall_mem_cons.mp g).2
theorem zd_vh {n : Nat} {a : zi_V} {S : zi_S} (g : ∀ v ∈ a :: S, zd_vl n v) : zd_vl n a := (List.forall_mem_cons.mp g).1
theorem zd_vk {n : Nat} {a : zi_V} {S : zi_S} (h : zd_vl n a) (g : ∀ v ∈ S, zd_vl n v) : ∀ v ∈ a :: S, zd_vl n v := List.forall_mem_cons.mpr ⟨h, g⟩
theorem zd_vL1 {n : Nat} {L : zi_L} {i : Nat} {v : zi_V} (h : ∀ (j : Nat) (u : zi_V), L[j]? = some (some u) → zd_vl n u) (hv : zd_vl n v) : ∀ (j : Nat) (u : zi_V), ((zi_dl L i).set i (some v))[j]? = some (some u) → zd_vl n u := by
  intro j u hj
  by_cases hji : i = j
  · subst hji
    rw [List.getElem?_set] at hj
    simp only [if_true] at hj
    split at hj
    · cases hj; exact hv
    · cases hj
  · rw [List.getElem?_set_ne hji] at hj
    exact h j u (zi_dlg hj).1
theorem zd_Lr_ag {adr adr' : Nat → Nat} {n k : Nat} {ls : Array Slot} {L : zi_L} (hag : ∀ i, i < n → adr' i = adr i) (hv : ∀ (i : Nat) (v : zi_V), L[i]? = some (some v) → zd_vl n v) (h : zi_Lr (fun _ => adr) ls k L) : zi_Lr (fun _ => adr') ls k L := ⟨h.1, h.2.1, h.2.2.1, fun i v hi => by
  rw [h.2.2.2 i v hi]
  exact congrArg (fun x => some (Slot.val x)) (zd_cv_ag hag (hv i v hi)).symm⟩
theorem zd_map_ag {adr adr' : Nat → Nat} {n : Nat} {S : zi_S} (hag : ∀ i, i < n → adr' i = adr i) (hv : ∀ v ∈ S, zd_vl n v) : S.map (zd_cv adr') = S.map (zd_cv adr) := List.map_congr_left (fun v h => zd_cv_ag hag (hv v h))
theorem zd_aoc {c t : Nat} (h : zd_ao c = some t) : ∃ rc : vw_C, vwCl[c]? = some rc ∧ zd_ft t = .object rc.1 ∧ 4 ≤ t := by
  have hm := zi_at_mem _ _ h
  simp only [List.mem_cons, Prod.mk.injEq, List.not_mem_nil, or_false] at hm
  rcases hm with ⟨rfl, rfl⟩ | ⟨rfl, rfl⟩ | ⟨rfl, rfl⟩ | ⟨rfl, rfl⟩
  · exact ⟨_, rfl, by decide +kernel, by decide⟩
  · exact ⟨_, rfl, by decide +kernel, by decide⟩
  · exact ⟨_, rfl, by decide +kernel, by decide⟩
  · exact ⟨_, rfl, by decide +kernel, by decide⟩
theorem zd_bv (n c : Nat) : ∀ v ∈ zd_bl c, zd_vl n v := by
  intro v hv
  obtain ⟨t, -, rfl⟩ := List.mem_map.mp hv
  split
  · trivial
  · split <;> trivial
theorem zd_nnest {w idx : Nat} {q : Nat × Nat × Nat × Bool × Nat} (h : zi_fl w idx = some q) (hw : w = q.1) : ¬ q.2.2.2.1 = true := by
  have hm := zi_at_mem _ _ h
  have hall : ∀ x ∈ zi_fls, ∀ e ∈ x.2, e.2.1 = x.1 → e.2.2.2.2.1 = false := by decide +kernel
  cases hz : zi_at zi_fls w with
  | none => rw [hz] at hm; cases hm
  | some l =>
    rw [hz] at hm
    have := hall _ (zi_at_mem _ _ hz) _ hm hw.symm
    dsimp only at this
    rw [this]
    decide
theorem zd_cnn {ci : Nat} {C : String} {T : u_T} {N : Nat} (h : vwCl[ci]? = some (C, T, N)) : C = zi_cn ci := by
  match ci, h with
  | 0, h => cases h; decide +kernel
  | 1, h => cases h; decide +kernel
  | 2, h => cases h; decide +kernel
  | 3, h => cases h; decide +kernel
  | 4, h => cases h; decide +kernel
  | 5, h => cases h; decide +kernel
  | 6, h => cases h; decide +kernel
  | 7, h => cases h; decide +kernel
  | 8, h => cases h; decide +kernel
  | 9, h => cases h; decide +kernel
  | 10, h => cases h; decide +kernel
  | k + 11, h => simp at h
def zd_isR (t : FieldType) : Bool := match t with
  | .object _ => true
  | .array _ => true
  | _ => false
theorem zd_fty2 {ci : Nat} {C : String} {T : u_T} {N s : Nat} (h : vwCl[ci]? = some (C, T, N)) (hs : s < N) (h2 : (zi_ftl ci)[s]? = some 2) : ∃ ty, parseFieldDescriptor (T s).2.2.1 = some ty ∧ ((∃ C2, ty = .object C2) ∨ ∃ t2, ty = .array t2) := by
  have key : ∀ {ty : FieldType}, parseFieldDescriptor (T s).2.2.1 = some ty → zd_isR ty = true → ∃ ty, parseFieldDescriptor (T s).2.2.1 = some ty ∧ ((∃ C2, ty = .object C2) ∨ ∃ t2, ty = .array t2) := by
    intro ty h1 h3
    refine ⟨ty, h1, ?_⟩
    cases ty <;> first | (cases h3; done) | exact Or.inl ⟨_, rfl⟩ | exact Or.inr ⟨_, rfl⟩
  match ci, h with
  | 0, h =>
    cases h
    have hall : ∀ s, s < 3 → (zi_ftl 0)[s]? = some 2 → zd_isR (tyX0 s) = true := by decide +kernel
    exact key (tyX0_ok s hs) (hall s hs h2)
  | 1, h =>
    cases h
    have hall : ∀ s, s < 4 → (zi_ftl 1)[s]? = some 2 → zd_isR (tyX1 s) = true := by decide +kernel
    exact key (tyX1_ok s hs) (hall s hs h2)
  | 2, h =>
    cases h
    have hall : ∀ s, s < 5 → (zi_ftl 2)[s]? = some 2 → zd_isR (tyX2 s) = true := by decide +kernel
    exact key (tyX2_ok s hs) (hall s hs h2)
  | 3, h =>
    cases h
    have hall : ∀ s, s < 4 → (zi_ftl 3)[s]? = some 2 → zd_isR (tyX3 s) = true := by decide +kernel
    exact key (tyX3_ok s hs) (hall s hs h2)
  | 4, h =>
    cases h
    have hall : ∀ s, s < 4 → (zi_ftl 4)[s]? = some 2 → zd_isR (tyX4 s) = true := by decide +kernel
    exact key (tyX4_ok s hs) (hall s hs h2)
  | 5, h =>
    cases h
    have hall : ∀ s, s < 2 → (zi_ftl 5)[s]? = some 2 → zd_isR (tyX5 s) = true := by decide +kernel
    exact key (tyX5_ok s hs) (hall s hs h2)
  | 6, h =>
    cases h
    have hall : ∀ s, s < 7 → (zi_ftl 6)[s]? = some 2 → zd_isR (tyX6 s) = true := by decide +kernel
    exact key (tyX6_ok s hs) (hall s hs h2)
  | 7, h =>
    cases h
    have hall : ∀ s, s < 6 → (zi_ftl 7)[s]? = some 2 → zd_isR (tyX7 s) = true := by decide +kernel
    exact key (tyX7_ok s hs) (hall s hs h2)
  | 8, h =>
    cases h
    have hall : ∀ s, s < 5 → (zi_ftl 8)[s]? = some 2 → zd_isR (tyX8 s) = true := by decide +kernel
    exact key (tyX8_ok s hs) (hall s hs h2)
  | 9, h =>
    cases h
    have hall : ∀ s, s < 16 → (zi_ftl 9)[s]? = some 2 → zd_isR (tyX9 s) = true := by decide +kernel
    exact key (tyX9_ok s hs) (hall s hs h2)
  | 10, h =>
    cases h
    have hall : ∀ s, s < 39 → (zi_ftl 10)[s]? = some 2 → zd_isR (tyX10 s) = true := by decide +kernel
    exact key (tyX10_ok s hs) (hall s hs h2)
  | k + 11, h => simp at h
set_option maxHeartbeats 8000000 in
set_option maxRecDepth 20000 in
theorem zd_sim1 {l : Launch} {D : va_G} {ct : FieldType → ClassId} {A : Nat → Prop} {n : Nat} (hs : zd_Sim l D ct A n) : zd_Sim l D ct A (n + 1) := by
  intro d r pc L S M b L' M' hgo p e R s m args below meth c H locs ls Q adr n0 s0 hn0 hs0 hRc hRs hC hD hend
  obtain ⟨hx, hb, hml, hown, hg, hdk, hK, hA, hnm, hR1, hR2⟩ := id hC
  obtain ⟨hH, hS, hL, vL, vS⟩ := hD
  have nxt : ∀ {t : Nat} {L2 : zi_L} {S2 : zi_S} {M2 : zd_M} {adr2 : Nat → Nat} {ls2 : Array Slot} {H2 : Heap} {locs2 : List Loc}, zd_go n d r t L2 S2 M2 = some (b, L', M') → M.1 ≤ M2.1 → zd_sz M ≤ zd_sz M2 → (∀ i, i < M.1 → adr2 i = adr i) → zd_H D ct adr2 A M2 s H2 → va_S A s.heap H2 locs2 → zi_Lr (fun _ => adr2) ls2 (zi_ml r) L2 → (∀ (i : Nat) (v : zi_V), L2[i]? = some (some v) → zd_vl M2.1 v) → (∀ v ∈ S2, zd_vl M2.1 v) → W p l e R s m args below meth c H2 locs2 (M2.1 - n0) (zd_sz M2 - s0) Q (F0 m t ls2 (S2.map (zd_cv adr2))) := by
    intro t L2 S2 M2 adr2 ls2 H2 locs2 h1 h2 h3 h4 h5 h6 h7 h8 h9
    exact hs d r t L2 S2 M2 b L' M' h1 p e R s m args below meth c H2 locs2 ls2 Q adr2 n0 s0 (Nat.le_trans hn0 h2) (Nat.le_trans hs0 h3) hRc hRs hC ⟨h5, h6, h7, h8, h9⟩ (fun adr' H' locs' pc' ls' g1 g2 g3 g4 g5 => hend adr' H' locs' pc' ls' (fun i hi => (g1 i (Nat.lt_of_lt_of_le hi h2)).trans (h4 i hi)) g2 g3 g4 g5)
  have nx0 : ∀ {t : Nat} {L2 : zi_L} {S2 : zi_S} {ls2 : Array Slot}, zd_go n d r t L2 S2 M = some (b, L', M') → zi_Lr (fun _ => adr) ls2 (zi_ml r) L2 → (∀ (i : Nat) (v : zi_V), L2[i]? = some (some v) → zd_vl M.1 v) → (∀ v ∈ S2, zd_vl M.1 v) → W p l e R s m args below meth c H locs (M.1 - n0) (zd_sz M - s0) Q (F0 m t ls2 (S2.map (zd_cv adr))) := fun h1 h7 h8 h9 => nxt h1 (Nat.le_refl _) (Nat.le_refl _) (fun _ _ => rfl) hH hS h7 h8 h9
  have nxa : ∀ {t : Nat} {S2 : zi_S} {cl : zd_C} {q : Nat} {H2 : Heap}, zd_go n d r t L (.inr (.inr (0, some M.1)) :: S2) (zd_ad M cl) = some (b, L', M') → zd_vc M.1 cl → (∀ x, cl = .inr x → ArrOfT s (ct (zd_ft x.1)) (zd_ft x.1) ∧ va_RA s (ct (zd_ft x.1)) (zd_ft x.1)) → va_P D vwCl (zd_wl ct adr M ++ [(q, zd_ent ct adr cl)]) H2 → va_D A (zd_wl ct adr M ++ [(q, zd_ent ct adr cl)]) → va_S A s.heap H2 locs → (∀ v ∈ S2, zd_vl M.1 v) → W p l e R s m args below meth c H2 locs (M.1 - n0 + 1) (zd_sz M - s0 + zd_cs cl) Q (F0 m t ls (.ref q :: S2.map (zd_cv adr))) := by
    intro t S2 cl q H2 h1 h2 h2a h3 h4 h5 h6
    rw [zd_add hH.2.2.2 h2] at h3 h4
    have hag : ∀ i, i < M.1 → va_up adr M.1 q i = adr i := fun i hi => va_up_ne _ _ (by omega)
    have h9 := nxt (adr2 := va_up adr M.1 q) (ls2 := ls) (locs2 := locs) h1 (Nat.le_succ _) (by rw [zd_sz_ad]; omega) hag ⟨h3, h4, fun i x hi hx => by
        have hi : i < M.1 + 1 := hi
        by_cases hm : i = M.1
        · subst hm; rw [zd_ad_s] at hx; exact h2a x hx
        · rw [zd_ad_n hm] at hx; exact hH.2.2.1 i x (by omega) hx, zd_vm_ad hH.2.2.2 h2⟩ h5 (zd_Lr_ag hag vL hL) (fun i v hi => zd_vl_m (Nat.le_succ _) (vL i v hi)) (zd_vk (Nat.lt_succ_self M.1) (fun v hv => zd_vl_m (Nat.le_succ _) (h6 v hv)))
    have e1 : (zd_ad M cl).1 - n0 = M.1 - n0 + 1 := by show M.1 + 1 - n0 = _; omega
    have e2 : zd_sz (zd_ad M cl) - s0 = zd_sz M - s0 + zd_cs cl := by rw [zd_sz_ad]; omega
    rw [e1, e2] at h9
    have e3 : (.inr (.inr (0, some M.1)) :: S2 : zi_S).map (zd_cv (va_up adr M.1 q)) = .ref q :: S2.map (zd_cv adr) := by
      show va_rf (some (va_up adr M.1 q M.1)) :: S2.map (zd_cv (va_up adr M.1 q)) = _
      rw [va_up_self, zd_map_ag hag h6]
      rfl
    rw [e3] at h9
    exact h9
  have roomA : ∀ {t : Nat} {L2 : zi_L} {S2 : zi_S} {cl : zd_C}, zd_go n d r t L2 S2 (zd_ad M cl) = some (b, L', M') → M.1 - n0 + 1 ≤ R.cells ∧ zd_sz M - s0 + zd_cs cl ≤ R.slots := by
    intro t L2 S2 cl h
    obtain ⟨g1, g2⟩ := zd_grow n _ _ _ _ _ _ _ _ _ h
    rw [zd_sz_ad] at g2
    have g1 : M.1 + 1 ≤ M'.1 := g1
    omega
  change zd_F (zd_go n) d r pc L S M = some (b, L', M') at hgo
  unfold zd_F at hgo
  split at hgo
  · split at hgo
    · cases hgo
      exact hend adr H locs pc ls (fun _ _ => rfl) hH hS (fun h => by cases h) (fun t ht => by cases ht; exact ⟨rfl, hL⟩)
    · cases hgo
  · next i hi =>
    have hd := zd_dec hdk hi
    cases i with
    | iconst x =>
      simp only [zd_st] at hgo
      exact lv_iconst hx hb hd rfl (nx0 hgo hL vL (zd_vk True.intro vS))
    | bipush x =>
      simp only [zd_st] at hgo
      exact lv_bipush hx hb hd rfl (nx0 hgo hL vL (zd_vk True.intro vS))
    | sipush x =>
      simp only [zd_st] at hgo
      exact lv_sipush hx hb hd rfl (nx0 hgo hL vL (zd_vk True.intro vS))
    | lconst x =>
      simp only [zd_st] at hgo
      exact lv_lconst hx hb hd rfl (nx0 hgo hL vL (zd_vk True.intro vS))
    | iload_n k =>
      simp only [zd_st] at hgo
      replace hgo := zd_op_v hgo
      obtain ⟨x, ho, h⟩ := hgo
      exact lv_iload_n hx hb hd rfl (hL.2.2.2 _ _ (zd_gi_v ho)) (nx0 h hL vL (zd_vk True.intro vS))
    | aload_n k =>
      simp only [zd_st] at hgo
      replace hgo := zd_op_v hgo
      obtain ⟨x, ho, h⟩ := hgo
      exact lv_aload_n hx hb hd rfl (hL.2.2.2 _ _ (zd_ga_v ho)) (nx0 h hL vL (zd_vk (vL _ _ (zd_ga_v ho)) vS))
    | istore_n k =>
      simp only [zd_st] at hgo
      replace hgo := zd_op_v hgo
      obtain ⟨q, hq, h⟩ := hgo
      replace h := zd_if_v h
      obtain ⟨hlt, h⟩ := h
      have hq := zd_pi_v hq
      subst hq
      rw [Nat.blt_eq] at hlt
      exact lv_istore_n hx hb hd rfl (zi_lvh hL) (by rw [← hL.2.1]; exact hlt) rfl (fun ls' hl' => nx0 h (zi_st1 (v := .inl q.1) hL hlt hl') (zd_vL1 vL True.intro) (zd_vt vS))
    | astore_n k =>
      simp only [zd_st] at hgo
      replace hgo := zd_op_v hgo
      obtain ⟨q, hq, h⟩ := hgo
      replace h := zd_if_v h
      obtain ⟨hlt, h⟩ := h
      have hq := zd_pr_v hq
      subst hq
      rw [Nat.blt_eq] at hlt
      exact lv_astore_n hx hb hd rfl (zi_lvh hL) (by rw [← hL.2.1]; exact hlt) rfl (fun ls' hl' => nx0 h (zi_st1 (v := .inr (.inr (0, some q.1))) hL hlt hl') (zd_vL1 vL (zd_vh vS)) (zd_vt vS))
    | iinc k x0 =>
      simp only [zd_st] at hgo
      replace hgo := zd_op_v hgo
      obtain ⟨x, ho, h⟩ := hgo
      replace h := zd_if_v h
      obtain ⟨hlt, h⟩ := h
      rw [Nat.blt_eq] at hlt
      obtain ⟨k', hk'⟩ := List.getElem?_of_mem (zi_prs_in (ad := fun _ => adr) (zd_gi_v ho))
      exact lv_iinc hx hb hd (zi_lvh hL) hk' rfl (by rw [← hL.2.1]; exact hlt) rfl (fun ls' hl' => nx0 h (zi_st1 (v := .inl (x + Int32.ofInt x0)) hL hlt hl') (zd_vL1 vL True.intro) vS)
    | dup =>
      simp only [zd_st] at hgo
      replace hgo := zd_op_v hgo
      obtain ⟨q, hq, h⟩ := hgo
      have hq := zd_pr_v hq
      subst hq
      exact lv_dup hx hb hd rfl (nx0 h hL vL (zd_vk (zd_vh vS) vS))
    | goto off =>
      simp only [zd_st] at hgo
      replace hgo := zd_op_v hgo
      obtain ⟨t, ht, h⟩ := hgo
      exact lv_goto hx hb hd (zd_to_v ht) (nx0 h hL vL vS)
    | if_icmp cd off =>
      cases cd with
      | ge =>
        simp only [zd_st] at hgo
        replace hgo := zd_op_v hgo
        obtain ⟨y, hy, h⟩ := hgo
        replace h := zd_op_v h
        obtain ⟨x, hx2, h⟩ := h
        replace h := zd_op_v h
        obtain ⟨t, ht, h⟩ := h
        have hy := zd_pi_v hy
        have hx2 := zd_pi_v hx2
        rw [hx2] at hy
        subst hy
        exact lv_icmp_ge hx hb hd (zd_to_v ht) (fun hc => nx0 ((if_pos hc).symm.trans h) hL vL (zd_vt (zd_vt vS))) (fun hc => nx0 ((if_neg hc).symm.trans h) hL vL (zd_vt (zd_vt vS)))
      | gt =>
        simp only [zd_st] at hgo
        replace hgo := zd_op_v hgo
        obtain ⟨y, hy, h⟩ := hgo
        replace h := zd_op_v h
        obtain ⟨x, hx2, h⟩ := h
        replace h := zd_op_v h
        obtain ⟨t, ht, h⟩ := h
        have hy := zd_pi_v hy
        have hx2 := zd_pi_v hx2
        rw [hx2] at hy
        subst hy
        exact lv_icmp_gt hx hb hd (zd_to_v ht) (fun hc => nx0 ((if_pos hc).symm.trans h) hL vL (zd_vt (zd_vt vS))) (fun hc => nx0 ((if_neg hc).symm.trans h) hL vL (zd_vt (zd_vt vS)))
      | _ => simp only [zd_st] at hgo; cases hgo
    | new idx =>
      simp only [zd_st] at hgo
      replace hgo := zd_op_v hgo
      obtain ⟨q, hq, h⟩ := hgo
      obtain ⟨C, T, N, hc, hcl, hinst, hini, ⟨ty, hty, hdf⟩, hN, -⟩ := zd_clok hq
      dsimp only at hc hcl hdf hN
      obtain ⟨r1, r2⟩ := roomA h
      have hcs : zd_cs (.inl (q.1, zd_bl q.1)) = N := hN
      rw [hcs] at r2
      refine va_new hx hb hg (zi_clok hc).1 ty hty hown (hg _ hcl) (hg _ hinst) (hg _ hini) hK.1 hH.1 hH.2.1 hS hA hc (hdf adr) r1 r2 hd (fun q2 H1 g1 g2 g3 => ?_)
      have h9 := nxa h (zd_bv M.1 q.1) (fun x hx => by cases hx) g1 g2 g3 vS
      rw [hcs] at h9
      exact h9
    | newarray t =>
      simp only [zd_st] at hgo
      replace hgo := zd_op_v hgo
      obtain ⟨ty, hty, h⟩ := hgo
      replace h := zd_op_v h
      obtain ⟨q, hq, h⟩ := h
      replace h := zd_if_v h
      obtain ⟨hbb, h⟩ := h
      have hq := zd_pi_v hq
      subst hq
      rw [Bool.and_eq_true, decide_eq_true_eq, Nat.ble_eq] at hbb
      obtain ⟨r1, r2⟩ := roomA h
      have vS := zd_vt vS
      cases t <;> first | (cases hty; done) | skip
      · cases hty
        refine va_newa (atype := .boolean) (ty := .boolean) (a0 := (q.1.toNatClampNeg, .inl (fun _ => 0))) hx hb (hg _ zd_acZ) rfl hK.1 hH.1 hH.2.1 hS hA (fun cA => rfl) hbb.1 rfl (by show _ * 1 ≤ _; omega) r1 r2 hd (fun q2 cA H1 g0 g1 g2 g3 => ?_)
        have hca := g0.2 0 (cA, .boolean) rfl
        have hce := hK.2.2.1 cA .boolean hca.2
        subst hce
        exact nxa h (fun e he => by cases he) (fun x hx => by cases hx; exact hca) g1 g2 g3 vS
      · cases hty
        refine va_newa (atype := .int) (ty := .int) (a0 := (q.1.toNatClampNeg, .inl (fun _ => 0))) hx hb (hg _ zd_acI) rfl hK.1 hH.1 hH.2.1 hS hA (fun cA => rfl) hbb.1 rfl (by show _ * 4 ≤ _; omega) r1 r2 hd (fun q2 cA H1 g0 g1 g2 g3 => ?_)
        have hca := g0.2 0 (cA, .int) rfl
        have hce := hK.2.2.1 cA .int hca.2
        subst hce
        exact nxa h (fun e he => by cases he) (fun x hx => by cases hx; exact hca) g1 g2 g3 vS
      · cases hty
        refine va_newa (atype := .long) (ty := .long) (a0 := (q.1.toNatClampNeg, .inr (.inl (fun _ => 0)))) hx hb (hg _ zd_acJ) rfl hK.1 hH.1 hH.2.1 hS hA (fun cA => rfl) hbb.1 rfl (by show _ * 8 ≤ _; omega) r1 r2 hd (fun q2 cA H1 g0 g1 g2 g3 => ?_)
        have hca := g0.2 0 (cA, .long) rfl
        have hce := hK.2.2.1 cA .long hca.2
        subst hce
        exact nxa h (fun e he => by cases he) (fun x hx => by cases hx; exact hca) g1 g2 g3 vS
    | anewarray idx =>
      simp only [zd_st] at hgo
      replace hgo := zd_op_v hgo
      obtain ⟨q0, hq0, h⟩ := hgo
      replace h := zd_op_v h
      obtain ⟨ty, hty, h⟩ := h
      replace h := zd_op_v h
      obtain ⟨q, hq, h⟩ := h
      replace h := zd_if_v h
      obtain ⟨hbb, h⟩ := h
      have hq := zd_pi_v hq
      subst hq
      rw [Bool.and_eq_true, decide_eq_true_eq, Nat.ble_eq] at hbb
      obtain ⟨r1, r2⟩ := roomA h
      have vS := zd_vt vS
      obtain ⟨C, T, N, hc, hcl, -, -, -, -, hao⟩ := zd_clok hq0
      dsimp only at hc hcl hao
      obtain ⟨hft, h4, h8⟩ := hao ty hty
      refine va_newq hx hb hown (hg _ hcl) (hK.2.2.2 ty h4 h8 C hft) hK.1 hH.1 hH.2.1 hS hA hbb.1 rfl (by omega) r1 r2 hd (fun q2 cA H1 g0 g1 g2 g3 => ?_)
      have hca := g0.2 0 (cA, .object C) rfl
      have hce := hK.2.2.1 cA (.object C) hca.2
      subst hce
      have hE : (.inl (ct (.object C), q.1.toNatClampNeg, .inr (.inr (.inr (.inr (fun _ => none))))) : va_E) = zd_ent ct adr (.inr (ty, q.1.toNatClampNeg, [], [])) := by
        show _ = (.inl (ct (zd_ft ty), q.1.toNatClampNeg, zd_con adr ty [] []) : va_E)
        unfold zd_con
        rw [hft, if_neg (by omega), if_neg (by omega)]
        rfl
      rw [hE] at g1 g2
      exact nxa h (fun e he => by cases he) (fun x hx => by cases hx; rw [hft]; exact hca) g1 g2 g3 vS
    | getfield idx =>
      simp only [zd_st] at hgo
      replace hgo := zd_op_v hgo
      obtain ⟨q, hq, h⟩ := hgo
      replace h := zd_op_v h
      obtain ⟨k, hk, h⟩ := h
      replace h := zd_if_v h
      obtain ⟨hkl, h⟩ := h
      replace h := zd_op_v h
      obtain ⟨o, ho, h⟩ := h
      replace h := zd_if_v h
      obtain ⟨hoc, h⟩ := h
      replace h := zd_op_v h
      obtain ⟨x, hxx, h⟩ := h
      have hk := zd_pr_v hk
      subst hk
      rw [Nat.blt_eq] at hkl
      rw [Nat.beq_eq] at hoc
      have ho := zd_ob_v ho
      obtain ⟨v, hv, hvx⟩ := Option.bind_eq_some_iff.mp hxx
      have hvx := zd_rv_v hvx
      subst hvx
      obtain ⟨C, T, N, hc, hkN, hN, hft, hT1, hl, hln, -, -, -, -, -, h11⟩ := zi_flok hq
      dsimp only at hc hkN hT1 hl hln
      have he := zd_wg (ct := ct) (adr := adr) (M := M) hkl
      rw [ho] at he
      have hc' : vwCl[o.1]? = some (C, T, N) := by rw [hoc]; exact hc
      have hfv : (o.2.map (zd_cv adr))[q.2.1]? = some (.ref (adr x)) := by rw [List.getElem?_map, hv]; rfl
      have hvx2 : zd_vl M.1 (.inr (.inr (0, some x))) := by
        have := hH.2.2.2 k.1 hkl
        rw [ho] at this
        exact this _ (List.mem_of_getElem? hv)
      cases hne : q.2.2.2.1 with
      | false => exact va_get hx hb hg (zi_clok hc).1 hown hK.1 hH.1 k.1 he hc' q.2.1 hkN (hg _ (hl hne)) (fun x h => by rw [hT1] at h; exact h) hfv hd (nx0 h hL vL (zd_vk hvx2 (zd_vt vS)))
      | true => exact va_getN hx hb hg (zi_clok hc).1 hown hK.1 hH.1 k.1 he hc' q.2.1 hkN (va_Nw.use rfl (hK.2.1 _ (hln hne) rfl)) (fun x h => by rw [hT1] at h; exact h) hfv hd (nx0 h hL vL (zd_vk hvx2 (zd_vt vS)))
    | putfield idx =>
      simp only [zd_st] at hgo
      replace hgo := zd_op_v hgo
      obtain ⟨q, hq, h⟩ := hgo
      replace h := zd_op_v h
      obtain ⟨v, hv, h⟩ := h
      replace h := zd_if_v h
      obtain ⟨hfi, h⟩ := h
      replace h := zd_op_v h
      obtain ⟨k, hk, h⟩ := h
      replace h := zd_if_v h
      obtain ⟨hkl, h⟩ := h
      replace h := zd_op_v h
      obtain ⟨o, ho, h⟩ := h
      replace h := zd_if_v h
      obtain ⟨hoc, h⟩ := h
      have hv := zd_pv_v hv
      have hk := zd_pr_v hk
      rw [hk] at hv
      subst hv
      rw [Nat.blt_eq] at hkl
      rw [Bool.and_eq_true, Bool.and_eq_true, Bool.and_eq_true, Nat.beq_eq, Nat.beq_eq, Nat.blt_eq, Bool.not_eq_true'] at hoc
      obtain ⟨hoc, hwq, hlen, hscf⟩ := hoc
      have ho := zd_ob_v ho
      obtain ⟨C, T, N, hc, hkN, hN, hft, hT1, hl, hln, hi0, hi1, hi3, h4, -, h11⟩ := zi_flok hq
      dsimp only at hc hkN hN hft hT1 hl hln hi0 hi1
      have he := zd_wg (ct := ct) (adr := adr) (M := M) hkl
      rw [ho] at he
      have hc' : vwCl[o.1]? = some (C, T, N) := by rw [hoc]; exact hc
      obtain ⟨hin, ⟨ty0, hty0⟩, hnm0⟩ := zi_clok hc
      have hvk : zd_vl M.1 v.1 := zd_vh vS
      have hcell : zd_vc M.1 (.inl (o.1, o.2.set q.2.1 v.1)) := by
        have h0 := hH.2.2.2 k.1 hkl
        rw [ho] at h0
        intro u hu
        rcases List.mem_or_eq_of_mem_set hu with h1 | h1
        · exact h0 u h1
        · rw [h1]; exact hvk
      have hE : (.inr (o.1, (o.2.map (zd_cv adr)).set q.2.1 (zd_cv adr v.1)) : va_E) = zd_ent ct adr (.inl (o.1, o.2.set q.2.1 v.1)) := by
        show _ = (.inr (o.1, (o.2.set q.2.1 v.1).map (zd_cv adr)) : va_E)
        rw [List.map_set]
      have hl2 : q.2.1 < (o.2.map (zd_cv adr)).length := by rw [List.length_map]; exact hlen
      have go : ∀ (H1 : Heap) (locs1 : List Loc), va_P D vwCl ((zd_wl ct adr M).set k.1 (adr k.1, .inr (o.1, (o.2.map (zd_cv adr)).set q.2.1 (zd_cv adr v.1)))) H1 → va_D A ((zd_wl ct adr M).set k.1 (adr k.1, .inr (o.1, (o.2.map (zd_cv adr)).set q.2.1 (zd_cv adr v.1)))) → va_S A s.heap H1 locs1 → W p l e R s m args below meth c H1 locs1 (M.1 - n0) (zd_sz M - s0) Q (F0 m (pc + 3) ls (k.2.map (zd_cv adr))) := by
        intro H1 locs1 g1 g2 g3
        rw [hE, zd_set hkl] at g1 g2
        have hsz : zd_sz (zd_up M k.1 (.inl (o.1, o.2.set q.2.1 v.1))) = zd_sz M := zd_sz_up (by rw [ho]; simp [zd_cs])
        have h9 := nxt (adr2 := adr) (ls2 := ls) h (Nat.le_refl _) (by rw [hsz]; exact Nat.le_refl _) (fun _ _ => rfl) ⟨g1, g2, fun i x hi hx => by
            by_cases hm : i = k.1
            · subst hm; rw [zd_up_s] at hx; cases hx
            · rw [zd_up_n hm] at hx; exact hH.2.2.1 i x hi hx, zd_vm_up hH.2.2.2 hcell⟩ g3 hL vL (zd_vt (zd_vt vS))
        rw [hsz] at h9
        exact h9
      obtain ⟨ty, hpd, hnar, hfit⟩ : ∃ ty, parseFieldDescriptor (T q.2.1).2.2.1 = some ty ∧ narrow ty (zd_cv adr v.1) = zd_cv adr v.1 ∧ fits ty (zd_cv adr v.1) = true := by
        obtain ⟨v0, vr⟩ := v
        rcases v0 with x | x | ⟨cc0, oo⟩
        · have h0 : q.2.2.1 = 0 := by have := hfi; simp only [zd_fi, Nat.beq_eq] at this; exact this
          exact ⟨.int, (hi0 h0).1, rfl, rfl⟩
        · have h1 : q.2.2.1 = 1 := by have := hfi; simp only [zd_fi, Nat.beq_eq] at this; exact this
          exact ⟨.long, (hi1 h1).1, rfl, rfl⟩
        · have h2 : q.2.2.1 = 2 := by have := hfi; simp only [zd_fi, Nat.beq_eq] at this; exact this
          obtain ⟨ty, h5, h6⟩ := zd_fty2 hc hkN (by rw [hft, h2])
          refine ⟨ty, h5, ?_, ?_⟩
          · rcases h6 with ⟨C2, rfl⟩ | ⟨t2, rfl⟩ <;> (cases oo <;> rfl)
          · rcases h6 with ⟨C2, rfl⟩ | ⟨t2, rfl⟩ <;> (cases oo <;> rfl)
      by_cases hfin : (T q.2.1).2.2.2 = true
      · have hdecl : (T q.2.1).1 = zi_cn (zi_w r) := by
          rw [hT1, hwq]
          exact zd_cnn hc
        cases hne : q.2.2.2.1 with
        | false => exact va_putF hx hb hg hin ty0 hty0 hnm0 hown hK.1 hH.1 hH.2.1 hS k.1 he hc' q.2.1 hkN (hg _ (hl hne)) (fun x h => by rw [hT1] at h; exact h) hfin (hnm hscf) hdecl hpd hnar hfit hl2 hd go
        | true => exact absurd hne (zd_nnest hq hwq)
      · have hfin : (T q.2.1).2.2.2 = false := by
          cases hq : (T q.2.1).2.2.2 with
          | false => rfl
          | true => exact absurd hq hfin
        cases hne : q.2.2.2.1 with
        | false => exact va_put hx hb hg hin ty0 hty0 hnm0 hown hK.1 hH.1 hH.2.1 hS k.1 he hc' q.2.1 hkN (hg _ (hl hne)) (fun x h => by rw [hT1] at h; exact h) hfin hpd hnar hfit hl2 hd go
        | true => exact va_putN hx hb hg hin ty0 hty0 hnm0 hown hK.1 hH.1 hH.2.1 hS k.1 he hc' q.2.1 hkN (va_Nw.use rfl (hK.2.1 _ (hln hne) rfl)) (fun x h => by rw [hT1] at h; exact h) hfin hpd hnar hfit hl2 hd go
    | aastore =>
      simp only [zd_st] at hgo
      replace hgo := zd_op_v hgo
      obtain ⟨v, hv, h⟩ := hgo
      replace h := zd_op_v h
      obtain ⟨x, hx2, h⟩ := h
      replace h := zd_op_v h
      obtain ⟨k, hk, h⟩ := h
      replace h := zd_if_v h
      obtain ⟨hlt, h⟩ := h
      replace h := zd_op_v h
      obtain ⟨a, ha, h⟩ := h
      replace h := zd_op_v h
      obtain ⟨o, ho, h⟩ := h
      replace h := zd_if_v h
      obtain ⟨hbb, h⟩ := h
      have hv := zd_pr_v hv
      have hx2 := zd_pi_v hx2
      have hk := zd_pr_v hk
      rw [hk] at hx2
      rw [hx2] at hv
      subst hv
      have ha := zd_ar_v ha
      have ho := zd_ob_v ho
      rw [Bool.and_eq_true, Nat.blt_eq, Nat.blt_eq] at hlt
      rw [Bool.and_eq_true, Bool.and_eq_true, decide_eq_true_eq, Nat.blt_eq] at hbb
      obtain ⟨hx0, hxn, hao⟩ := hbb
      have hao : zd_ao o.1 = some a.1 := eq_of_beq hao
      have he := zd_wg (ct := ct) (adr := adr) (M := M) hlt.1
      rw [ha] at he
      have hev := zd_wg (ct := ct) (adr := adr) (M := M) hlt.2
      rw [ho] at hev
      obtain ⟨rc, hrc, hft, h4⟩ := zd_aoc hao
      have hcon : zd_con adr a.1 a.2.2.1 a.2.2.2 = .inr (.inr (.inr (.inr (fun j => (zi_at a.2.2.2 j).map adr)))) := by
        unfold zd_con
        rw [if_neg (by omega), if_neg (by omega)]
      have he2 : (zd_wl ct adr M)[k.1]? = some (adr k.1, .inl (ct (zd_ft a.1), a.2.1, .inr (.inr (.inr (.inr (fun j => (zi_at a.2.2.2 j).map adr)))))) := by
        rw [he]
        show some (adr k.1, (.inl (ct (zd_ft a.1), a.2.1, zd_con adr a.1 a.2.2.1 a.2.2.2) : va_E)) = _
        rw [hcon]
      have hAr := hH.2.2.1 k.1 a hlt.1 ha
      have hK1 : va_K D vwCl [(ct (zd_ft a.1), .object rc.1)] s := ⟨hK.1.1, fun i q hi => by
        have hz : i < 1 := (List.getElem?_eq_some_iff.mp hi).1
        rw [show i = 0 by omega] at hi
        cases hi
        rw [← hft]
        exact hAr⟩
      refine va_astq hx hb hK1 hH.1 hH.2.1 hS k.1 0 v.1 o.1 he2 rfl hev hrc (fun hh => hh.elim hx0 (fun hh => by omega)) hd (fun H1 locs1 g1 g2 g3 => ?_)
      have hE : (.inl (ct (zd_ft a.1), a.2.1, .inr (.inr (.inr (.inr (va_up (fun j => (zi_at a.2.2.2 j).map adr) x.1.toNatClampNeg (some (adr v.1))))))) : va_E) = zd_ent ct adr (.inr (a.1, a.2.1, a.2.2.1, (x.1.toNatClampNeg, v.1) :: a.2.2.2)) := by
        show _ = (.inl (ct (zd_ft a.1), a.2.1, zd_con adr a.1 a.2.2.1 ((x.1.toNatClampNeg, v.1) :: a.2.2.2)) : va_E)
        unfold zd_con
        rw [if_neg (by omega), if_neg (by omega)]
        congr 7
        funext j
        by_cases hj : j = x.1.toNatClampNeg
        · subst hj
          rw [va_up_self]
          simp [zi_at]
        · rw [va_up_ne _ _ hj]
          have hb2 : Nat.beq x.1.toNatClampNeg j = false := by
            cases hq : Nat.beq x.1.toNatClampNeg j with
            | false => rfl
            | true => exact absurd (Nat.eq_of_beq_eq_true hq).symm hj
          simp [zi_at, hb2]
      rw [hE, zd_set hlt.1] at g1 g2
      have hcell : zd_vc M.1 (.inr (a.1, a.2.1, a.2.2.1, (x.1.toNatClampNeg, v.1) :: a.2.2.2)) := by
        have h0 := hH.2.2.2 k.1 hlt.1
        rw [ha] at h0
        intro u hu
        rcases List.mem_cons.mp hu with rfl | h1
        · exact hlt.2
        · exact h0 u h1
      have hsz : zd_sz (zd_up M k.1 (.inr (a.1, a.2.1, a.2.2.1, (x.1.toNatClampNeg, v.1) :: a.2.2.2))) = zd_sz M := zd_sz_up (by rw [ha]; rfl)
      have h9 := nxt (adr2 := adr) (ls2 := ls) h (Nat.le_refl _) (by rw [hsz]; exact Nat.le_refl _) (fun _ _ => rfl) ⟨g1, g2, fun i y hi hy => by
          by_cases hm : i = k.1
          · subst hm; rw [zd_up_s] at hy; cases hy; exact hAr
          · rw [zd_up_n hm] at hy; exact hH.2.2.1 i y hi hy, zd_vm_up hH.2.2.2 hcell⟩ g3 hL vL (zd_vt (zd_vt (zd_vt vS)))
      rw [hsz] at h9
      exact h9
    | iastore =>
      simp only [zd_st] at hgo
      replace hgo := zd_op_v hgo
      obtain ⟨v, hv, h⟩ := hgo
      replace h := zd_op_v h
      obtain ⟨x, hx2, h⟩ := h
      replace h := zd_op_v h
      obtain ⟨k, hk, h⟩ := h
      replace h := zd_if_v h
      obtain ⟨hlt, h⟩ := h
      replace h := zd_op_v h
      obtain ⟨a, ha, h⟩ := h
      replace h := zd_if_v h
      obtain ⟨hbb, h⟩ := h
      have hv := zd_pi_v hv
      have hx2 := zd_pi_v hx2
      have hk := zd_pr_v hk
      rw [hk] at hx2
      rw [hx2] at hv
      subst hv
      have ha := zd_ar_v ha
      rw [Nat.blt_eq] at hlt
      rw [Bool.and_eq_true, Bool.and_eq_true, decide_eq_true_eq, Nat.blt_eq, Nat.beq_eq] at hbb
      obtain ⟨hx0, hxn, hty0⟩ := hbb
      have he := zd_wg (ct := ct) (adr := adr) (M := M) hlt
      rw [ha] at he
      have hAr := hH.2.2.1 k.1 a hlt ha
      obtain ⟨ta, na, iw, rw'⟩ := a
      dsimp only at hty0 hxn h hAr he
      subst hty0
      have hK1 : va_K D vwCl [(ct .int, .int)] s := ⟨hK.1.1, fun i q hi => by
        have hz : i < 1 := (List.getElem?_eq_some_iff.mp hi).1
        rw [show i = 0 by omega] at hi
        cases hi
        exact hAr⟩
      have he2 : (zd_wl ct adr M)[k.1]? = some (adr k.1, .inl (ct .int, na, .inl (fun j => (zi_at iw j).getD 0))) := he
      refine va_iast hx hb hK1 hH.1 hH.2.1 hS k.1 0 he2 rfl (fun hh => hh.elim hx0 (fun hh => by omega)) hd (fun H1 locs1 g1 g2 g3 => ?_)
      have hE : (.inl (ct .int, na, .inl (upd (fun j => (zi_at iw j).getD 0) x.1.toNatClampNeg v.1)) : va_E) = zd_ent ct adr (.inr (0, na, (x.1.toNatClampNeg, v.1) :: iw, rw')) := by
        show _ = (.inl (ct .int, na, .inl (fun j => (zi_at ((x.1.toNatClampNeg, v.1) :: iw) j).getD 0)) : va_E)
        congr 4
        funext j
        by_cases hj : j = x.1.toNatClampNeg
        · subst hj
          simp [upd, zi_at]
        · have hb2 : Nat.beq x.1.toNatClampNeg j = false := by
            cases hq : Nat.beq x.1.toNatClampNeg j with
            | false => rfl
            | true => exact absurd (Nat.eq_of_beq_eq_true hq).symm hj
          simp [upd, zi_at, hb2, hj]
      rw [hE, zd_set hlt] at g1 g2
      have hcell : zd_vc M.1 (.inr (0, na, (x.1.toNatClampNeg, v.1) :: iw, rw')) := by
        have h0 := hH.2.2.2 k.1 hlt
        rw [ha] at h0
        exact h0
      have hsz : zd_sz (zd_up M k.1 (.inr (0, na, (x.1.toNatClampNeg, v.1) :: iw, rw'))) = zd_sz M := zd_sz_up (by rw [ha]; rfl)
      have h9 := nxt (adr2 := adr) (ls2 := ls) h (Nat.le_refl _) (by rw [hsz]; exact Nat.le_refl _) (fun _ _ => rfl) ⟨g1, g2, fun i y hi hy => by
          by_cases hm : i = k.1
          · subst hm; rw [zd_up_s] at hy; cases hy; exact hAr
          · rw [zd_up_n hm] at hy; exact hH.2.2.1 i y hi hy, zd_vm_up hH.2.2.2 hcell⟩ g3 hL vL (zd_vt (zd_vt (zd_vt vS)))
      rw [hsz] at h9
      exact h9
    | invokestatic idx =>
      simp only [zd_st] at hgo
      replace hgo := zd_if_v hgo
      obtain ⟨hmx, h⟩ := hgo
      replace h := zd_op_v h
      obtain ⟨y, hy, h⟩ := h
      replace h := zd_op_v h
      obtain ⟨x, hx2, h⟩ := h
      replace h := zd_if_v h
      obtain ⟨hrs, h⟩ := h
      have hy := zd_pi_v hy
      have hx2 := zd_pi_v hx2
      rw [hx2] at hy
      subst hy
      rw [Nat.ble_eq] at hrs
      have hmx : zi_mx (zi_w r) idx = some 1 := eq_of_beq hmx
      obtain ⟨g1, g2⟩ := zd_grow n _ _ _ _ _ _ _ _ _ h
      exact va_mmax hx hb (hml.trans hL.1.symm) hown (hg _ ((zi_mxok hmx).2.1 rfl)) (hg _ zx_smax) (hg _ zx_ini) (hg _ zx_cmax) (by omega) (by rw [zi_cats]; omega) (by omega) (by omega) hd (nx0 h hL vL (zd_vk True.intro (zd_vt (zd_vt vS))))
    | invokespecial idx =>
      simp only [zd_st] at hgo
      split at hgo
      · next pl hoi =>
        replace hgo := zd_op_v hgo
        obtain ⟨q, hq, h⟩ := hgo
        replace h := zd_if_v h
        obtain ⟨hrs, h⟩ := h
        have hq := zd_pr_v hq
        subst hq
        rw [Nat.ble_eq] at hrs
        exact W.objInit hx hb hown (hg _ (zd_oiok hoi)) (hg _ zd_oiI) (hg _ zd_oiC) rfl (hL.1.trans hml.symm) rfl hd (by omega) (by
          show 2 * 0 + _ + 12 ≤ _
          rw [zi_cats]
          omega) (nx0 h hL vL (zd_vt vS))
      · replace hgo := zd_op_v hgo
        obtain ⟨q, hq, h⟩ := hgo
        replace h := zd_op_v h
        obtain ⟨a, ha, h⟩ := h
        replace h := zd_op_v h
        obtain ⟨k, hk, h⟩ := h
        replace h := zd_if_v h
        obtain ⟨hbb, h⟩ := h
        split at h
        · next L2 M2 hc =>
          split at hc
          · cases hc
          · next d' =>
            replace hc := zd_if_v hc
            obtain ⟨hfit, hc⟩ := hc
            obtain ⟨as, hlen, hSe, hae⟩ := zd_pp_v _ _ _ _ ha
            rw [List.append_nil] at hae
            have hk := zd_pr_v hk
            rw [hk] at hSe
            subst hSe
            rw [Bool.and_eq_true, Nat.blt_eq, Nat.ble_eq] at hbb
            obtain ⟨hok, hl, hln⟩ := zd_ilok hq
            dsimp only at hok hl hln
            obtain ⟨hpl, hcode, hrt0, hini, hmh, hpd, hin, hnm1, hcn, hml30, hsc, hdk1⟩ := id hok
            have hva : ∀ x ∈ a.1, zd_vl M.1 x := fun x hx' => vS x (List.mem_append_left _ (List.mem_reverse.mpr (by rw [← hae]; exact hx')))
            have hvr : ∀ x ∈ (.inr (.inr (0, some k.1)) :: k.2 : zi_S), zd_vl M.1 x := fun x hx' => vS x (List.mem_append_right _ hx')
            have hM := zd_met (adr := adr) hs hok hc (Nat.le_of_ble_eq_true hfit) (zd_vk (zd_vh hvr) hva)
            obtain ⟨g1, g2⟩ := zd_grow n _ _ _ _ _ _ _ _ _ hc
            obtain ⟨g3, g4⟩ := zd_grow n _ _ _ _ _ _ _ _ _ h
            have hpre : ∀ U : State, U.heap = H → s.WarmedH U.vm → va_Pc ((.inr (.inr (0, some k.1)) :: a.1 : List zi_V).map (zd_cv adr)) (zd_P D ct adr A M) (Value.ref (adr k.1) :: a.1.map (zd_cv adr)).toArray U := fun U hU hW => ⟨rfl, zd_P_mk hW hU hH hS hK hA⟩
            have hRR : (zd_rm d' (M2.1 - M.1) (zd_sz M2 - zd_sz M)).frames + 1 ≤ R.frames ∧ 8 + (zi_ml q.1 + 11) + (zd_rm d' (M2.1 - M.1) (zd_sz M2 - zd_sz M)).locals ≤ R.locals := by
              refine ⟨?_, ?_⟩
              · show d' + 1 + 1 ≤ _
                exact hR1
              · show 8 + (zi_ml q.1 + 11) + 60 * (d' + 1) ≤ _
                omega
            have hrsv : 2 * (F0 m pc ls ((a.1.map (zd_cv adr)).reverse ++ .ref (adr k.1) :: k.2.map (zd_cv adr))).monitorRoom + ((k.2.map (zd_cv adr)).map fun v => v.category).sum ≤ 8 := lv_room (by rw [zi_cats]; exact hbb.2)
            have hlen2 : (a.1.map (zd_cv adr)).length = zi_na q.1 := by rw [List.length_map, hae]; exact hlen
            have hcells : M.1 - n0 + (M2.1 - M.1) ≤ R.cells ∧ zd_sz M - s0 + (zd_sz M2 - zd_sz M) ≤ R.slots := by omega
            have kk : ∀ (adr' : Nat → Nat) (H1 : Heap) (locs1 : List Loc), (∀ i, i < M.1 → adr' i = adr i) → zd_H D ct adr' A M2 s H1 → va_S A s.heap H1 locs1 → W p l e R s m args below meth c H1 locs1 (M.1 - n0 + (M2.1 - M.1)) (zd_sz M - s0 + (zd_sz M2 - zd_sz M)) Q (F0 m (pc + 3) ls (k.2.map (zd_cv adr))) := by
              intro adr' H1 locs1 q1 q2 q3
              have h9 := nxt (adr2 := adr') (ls2 := ls) h g1 g2 q1 q2 q3 (zd_Lr_ag q1 vL hL) (fun i v hi => zd_vl_m g1 (vL i v hi)) (fun v hv => zd_vl_m g1 (zd_vt hvr v hv))
              rw [zd_map_ag q1 (zd_vt hvr)] at h9
              rw [show M.1 - n0 + (M2.1 - M.1) = M2.1 - n0 by omega, show zd_sz M - s0 + (zd_sz M2 - zd_sz M) = zd_sz M2 - s0 by omega]
              exact h9
            have hret : zi_rt q.1 = none := hrt0
            have hws : zi_ws q.1 = Cond.code (zi_y q.1) (zi_by q.1) (zi_ml q.1) none :: zi_gw := by unfold zi_ws; rw [hret]
            rw [hws] at hM
            rw [List.map_append, List.map_reverse]
            show W p l e R s m args below meth c H locs (M.1 - n0) (zd_sz M - s0) Q (F0 m pc ls ((as.map (zd_cv adr)).reverse ++ .ref (adr k.1) :: k.2.map (zd_cv adr)))
            rw [← hae]
            cases hne : q.2.1 with
            | false => exact zd_callk (va_runI (As := a.1.map (zd_cv adr)) (rest := k.2.map (zd_cv adr)) ⟨hx, hb, hml, hown, hg⟩ hM (cwI (zi_na q.1) hg (zi_good hcode) rfl rfl rfl (hg _ hini) (hg _ (hl hne)) (hg _ hin) hnm1 ⟨hmh.1, hmh.2, hpd⟩ hRR) ⟨zd_fb, hpre⟩ rfl hlen2 hL.1 rfl hrsv hd hcells) hS kk
            | true => exact zd_callk (va_runIN (As := a.1.map (zd_cv adr)) (rest := k.2.map (zd_cv adr)) ⟨hx, hb, hml, hown, hg⟩ hM ⟨va_cnB (zi_na q.1) hg (zi_good hcode) rfl rfl rfl (hK.2.1 _ (hln hne) rfl) (hg _ hini) ⟨hmh.1, hmh.2, hpd⟩ hRR, hnm1, hg _ hin⟩ ⟨zd_fb, hpre⟩ rfl hlen2 hL.1 rfl hrsv hd hcells) hS kk
        · cases h
    | return_ =>
      simp only [zd_st] at hgo
      split at hgo
      · cases hgo
        exact hend adr H locs pc ls (fun _ _ => rfl) hH hS (fun _ => hd) (fun t ht => by cases ht)
      · cases hgo
    | _ => simp only [zd_st] at hgo; cases hgo
theorem zd_sim (l : Launch) (D : va_G) (ct : FieldType → ClassId) (A : Nat → Prop) : ∀ n, zd_Sim l D ct A n
  | 0 => by
    intro d r pc L S M b L' M' h
    cases h
  | n + 1 => zd_sim1 (zd_sim l D ct A n)
