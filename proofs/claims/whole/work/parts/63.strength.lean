/-! THE PURE PART: strength -/
def zs_mf (acc : Option Nat) (c : Nat) : Option Nat := match acc with
  | none => some c
  | some m => some (min m c)
def zs_v (acc : Option Nat) : Int32 := match acc with
  | none => -9
  | some m => nI (40 - m)
theorem zs_max {acc : Option Nat} {c : Nat} (hc : c ≤ 40) (ha : ∀ m, acc = some m → m ≤ 40) : zi_max (zs_v acc) (nI (40 - c)) = zs_v (zs_mf acc c) := by
  cases acc with
  | none =>
    show zi_max (-9) (nI (40 - c)) = nI (40 - c)
    have h : (-9 : Int32) < nI (40 - c) := by
      rw [Int32.lt_iff_toInt_lt, nI_toInt (by omega), show (-9 : Int32).toInt = -9 from by decide]; omega
    rw [zi_max, if_pos h]
  | some m =>
    have hm := ha m rfl
    show zi_max (nI (40 - m)) (nI (40 - c)) = nI (40 - min m c)
    by_cases h : c < m
    · rw [zi_max, if_pos (nI_lt (by omega) (by omega)), Nat.min_eq_right (by omega)]
    · rw [zi_max, if_neg (nI_nlt (by omega) (by omega)), Nat.min_eq_left (by omega)]
theorem zs_fold : ∀ (L : List Nat) (acc : Option Nat), (∀ c, c ∈ L → c ≤ 36) → (∀ m, acc = some m → m ≤ 40) → (L.map (fun c => nI (40 - c))).foldl zi_max (zs_v acc) = zs_v (L.foldl zs_mf acc) := by
  intro L
  induction L with
  | nil => intro acc _ _; rfl
  | cons c L ih =>
    intro acc hL ha
    have hc := hL c (by simp)
    simp only [List.map_cons, List.foldl_cons]
    rw [zs_max (by omega) ha]
    refine ih _ (fun x hx => hL x (by simp [hx])) (fun m hm => ?_)
    cases acc with
    | none => cases hm; omega
    | some q => cases hm; have := ha q rfl; omega
/-- the least -/
def zs_isMin (L : List Nat) (acc : Option Nat) : Prop := match acc with
  | none => L = []
  | some m => m ∈ L ∧ ∀ c, c ∈ L → m ≤ c
theorem zs_minF : ∀ (L L0 : List Nat) (acc : Option Nat), zs_isMin L0 acc → zs_isMin (L0 ++ L) (L.foldl zs_mf acc) := by
  intro L
  induction L with
  | nil => intro L0 acc h; rw [List.append_nil]; exact h
  | cons c L ih =>
    intro L0 acc h
    have := ih (L0 ++ [c]) (zs_mf acc c) (by
      cases acc with
      | none =>
        have e : L0 = [] := h
        subst e
        exact ⟨by simp, fun x hx => by simp at hx; omega⟩
      | some m =>
        obtain ⟨h1, h2⟩ := h
        refine ⟨?_, fun x hx => ?_⟩
        · by_cases q : m ≤ c
          · rw [Nat.min_eq_left q]; simp [h1]
          · rw [Nat.min_eq_right (by omega)]; simp
        · rcases List.mem_append.mp hx with hx | hx
          · have := h2 x hx; omega
          · rw [List.mem_singleton.mp hx]; omega)
    rw [List.append_assoc] at this
    exact this
theorem zw_lea_none {P : Nat → Bool} : ∀ (k v : Nat), (∀ u, v ≤ u → u < v + k → P u = false) → zw_lea P v k = -9 := by
  intro k
  induction k with
  | zero => intro v _; rfl
  | succ k ih => intro v h; rw [zw_lea, h v (Nat.le_refl v) (by omega), if_neg (by decide)]; exact ih (v + 1) (fun u h1 h2 => h u (by omega) (by omega))
theorem zw_lea_at {P : Nat → Bool} {m : Nat} (hm : P m = true) : ∀ (k v : Nat), v ≤ m → m < v + k → (∀ u, v ≤ u → u < m → P u = false) → zw_lea P v k = nI m := by
  intro k
  induction k with
  | zero => intro v h1 h2; omega
  | succ k ih =>
    intro v h1 h2 h3
    by_cases e : v = m
    · subst e; rw [zw_lea, hm, if_pos rfl]
    · rw [zw_lea, h3 v (Nat.le_refl v) (by omega), if_neg (by decide)]
      exact ih (v + 1) (by omega) (by omega) (fun u hu hu2 => h3 u (by omega) hu2)
theorem zs_least {E : zf_E} {l : Nat} (hl : l ≤ 3) (hE : E.2.2.2.1 = nI l) (t : zf_S) : zw_lea (fun v => zw_has E (zs_sh t (nI v))) 0 41 = (if (zw_ways E 6 (zs_sh t (nI 40))).foldl (fun x w => zi_max x (zw_end (zs_sh t (nI 40)) w).2.2.1) (-9) = -9 then -9 else 40 - (zw_ways E 6 (zs_sh t (nI 40))).foldl (fun x w => zi_max x (zw_end (zs_sh t (nI 40)) w).2.2.1) (-9)) := by
  have h36 := zs_C_le E hl 6 t
  have e1 : (zw_ways E 6 (zs_sh t (nI 40))).foldl (fun x w => zi_max x (zw_end (zs_sh t (nI 40)) w).2.2.1) (-9) = zs_v ((zs_C E l 6 t).foldl zs_mf none) := by
    have h1 := zs_end E hl hE 6 t 40 (by omega) (by omega)
    have h2 := zs_fold (zs_C E l 6 t) none (fun c hc => by have := h36 c hc; omega) (fun m hm => by cases hm)
    rw [← h1, List.foldl_map] at h2
    exact h2
  rw [e1]
  have hmin := zs_minF (zs_C E l 6 t) [] none rfl
  rw [List.nil_append] at hmin
  cases hm : (zs_C E l 6 t).foldl zs_mf none with
  | none =>
    rw [hm] at hmin
    have e : zs_C E l 6 t = [] := hmin
    rw [if_pos (show zs_v none = -9 from rfl)]
    refine zw_lea_none 41 0 (fun u _ hu => ?_)
    cases hh : zw_has E (zs_sh t (nI u)) with
    | false => rfl
    | true =>
      obtain ⟨c, c1, c2⟩ := (zs_has E hl hE 6 t u (by omega)).mp ((zw_hasE _ _).mp hh)
      rw [e] at c1; cases c1
  | some m =>
    rw [hm] at hmin
    obtain ⟨q1, q2⟩ := hmin
    have q3 := h36 m q1
    have ev : zs_v (some m) = nI (40 - m) := rfl
    have hne : ¬ nI (40 - m) = -9 := by rw [zp_e9 (by omega)]; exact fun x => x
    rw [ev, if_neg hne, show (40 : Int32) = nI 40 from rfl, pk_sub (by omega), show 40 - (40 - m) = m from by omega]
    refine zw_lea_at ?_ 41 0 (Nat.zero_le m) (by omega) (fun u _ hu => ?_)
    · exact (zw_hasE _ _).mpr ((zs_has E hl hE 6 t m (by omega)).mpr ⟨m, q1, Nat.le_refl m⟩)
    · cases hh : zw_has E (zs_sh t (nI u)) with
      | false => rfl
      | true =>
        obtain ⟨c, c1, c2⟩ := (zs_has E hl hE 6 t u (by omega)).mp ((zw_hasE _ _).mp hh)
        have := q2 c c1; omega
/-- the start of a walk with another strength -/
theorem zc_setOut3 (d : Nat) {M : zi_M} {A : zf_A} {K : zf_K} (hS : zq_sky M A K) {i : Nat} (hi : i < K.2.1) (hf : (zf_sp K i).2.2.2.2.2 = 0) : ∃ M1 M', zi_run (d + 2) zm_X9_setOut 0 [some (.inr (.inr (9, some 0))), some (.inr (.inr (1, some i)))] [] M = some (none, M1) ∧ (∀ e, zi_run e zm_X8_strengthen 0 [some (.inr (.inr (8, some 0))), some (.inl 40)] [] M1 = some (none, M')) ∧ zq_nb M M' ∧ M'.2 = M.2 ∧ zw_I M' (zf_en A K i) (zs_sh (zf_sp K i) (nI 40)) (zw_ways (zf_en A K i) 6 (zs_sh (zf_sp K i) (nI 40))) := by
  obtain ⟨hE, hok, hsp⟩ := zq_fl hS hi
  have k0 : M.1 6 0 5 = K.1 := hS.2.2.2.1.1
  have hs : zf_is ((zp_bd M (zf_en A K i)).1 7 i) (zf_sp K i) := zp_bd_is hsp
  have f : zw_fr (zp_bd M (zf_en A K i)) (zi_sI (zi_sI (zi_sI (zp_sp (zp_bd M (zf_en A K i)) 20 (zf_sp K i)) 17 0 0 (-1)) 8 0 3 0) 8 0 4 1) := zw_fr_8 (zw_fr_8 (zw_fr_17 (zw_fr_sp (zw_fr_rfl _) (by omega) (by omega) _) _ _) _ _) _ _
  have f2 : zw_fr (zp_bd M (zf_en A K i)) (zi_sI (zi_sI (zi_sI (zi_sI (zp_sp (zp_bd M (zf_en A K i)) 20 (zf_sp K i)) 17 0 0 (-1)) 8 0 3 0) 8 0 4 1) 7 20 2 40) := ⟨f.1, fun c k j a b e => by
    rw [zp_sI1]
    by_cases h7 : c = 7
    · by_cases hj : j = 2
      · by_cases hk : k = 20
        · exact absurd ⟨h7, by omega, by omega⟩ e
        · rw [if_pos h7, if_pos hj, if_neg hk]; exact f.2 c k j a b e
      · rw [if_pos h7, if_neg hj]; exact f.2 c k j a b e
    · rw [if_neg h7]; exact f.2 c k j a b e⟩
  refine ⟨zi_sI (zi_sI (zi_sI (zp_sp (zp_bd M (zf_en A K i)) 20 (zf_sp K i)) 17 0 0 (-1)) 8 0 3 0) 8 0 4 1, _, ?_, fun e => ?_, zq_nb_tr (zq_nb_bd (zq_nb_rfl M) _) (zw_fr_nb f2), f2.1.trans (zp_bd2 M _), hE, zf_cE_fr f2 (zp_bd_E hS.2.2.1), ?_, hok.1, hok.2.1, Or.inl ⟨by simp [zp_sI1], by simp [zp_sI1], by simp [zp_sI1], rfl⟩⟩
  · rw [ze_X9_setOut_0]
    simp (disch := omega) only [↓zp_dn, ↓zp_hV, ↓zp_hI, ↓zp_hL, ↓zp_hR, ↓zp_hX, zp_eV, zp_eI, zp_eL, zp_eR, zp_eX, zp_eXl, zp_iV, zp_iI, zp_iL, zp_iR, ↓zp_sm, ↓zp_nls, ↓zp_nln, zp_bo0, zp_bo1, zp_okE, zp_ok2E, zp_rfE, ↓reduceIte, if_true, if_false, k0, zc_board _ hS hi, ze_X8_start_0, zc_take _ (zp_bd M (zf_en A K i)) (20 + 0) i hs]
  · rw [ze_X8_strengthen_0]
    simp (disch := omega) only [↓zp_dn, ↓zp_hV, ↓zp_hI, ↓zp_hL, ↓zp_hR, ↓zp_hX, zp_eV, zp_eI, zp_eL, zp_eR, zp_eX, zp_eXl, zp_iV, zp_iI, zp_iL, zp_iR, ↓zp_sm, ↓zp_nls, ↓zp_nln, zp_bo0, zp_bo1, zp_okE, zp_ok2E, zp_rfE, ↓reduceIte, if_true, if_false]
  · obtain ⟨a0, a1, a2, a3, a4, a5⟩ := zp_sp_is (zp_bd M (zf_en A K i)) 20 (zf_sp K i)
    refine ⟨by simpa [zp_sI1, zs_sh] using a0, by simpa [zp_sI1, zs_sh] using a1, by simp [zp_sI1, zs_sh]; rfl, by simpa [zp_sI1, zs_sh] using a3, by simpa [zp_sI1, zs_sh] using a4, ?_⟩
    rw [hf] at a5
    simpa [zp_sI1, zs_sh] using a5
theorem zc_strL (d : Nat) {E : zf_E} {s0 : zf_S} : ∀ (ws : List zw_w) (n : Nat) (M : zi_M) (x : Int32), zw_I M E s0 ws → n + ws.length ≤ 729 → ∃ M', zi_run (d + 4) zm_X9_strength 48 [some (.inr (.inr (9, some 0))), none, none, some (.inl x), some (.inl (nI n))] [] M = zi_run (d + 4) zm_X9_strength 87 [none, none, none, some (.inl (ws.foldl (fun x w => zi_max x (zw_end s0 w).2.2.1) x)), none] [] M' ∧ zw_fr M M' := by
  intro ws
  induction ws with
  | nil =>
    intro n M x h hn
    by_cases h9 : n = 729
    · subst h9
      refine ⟨M, ?_, zw_fr_rfl M⟩
      rw [ze_X9_strength_48]
      simp (disch := omega) only [↓zp_dn, ↓zp_hV, ↓zp_hI, ↓zp_hL, ↓zp_hR, ↓zp_hX, zp_eV, zp_eI, zp_eL, zp_eR, zp_eX, zp_eXl, zp_iV, zp_iI, zp_iL, zp_iR, ↓zp_sm, ↓zp_nls, ↓zp_nln, zp_bo0, zp_bo1, zp_okE, zp_ok2E, zp_rfE, ↓reduceIte, if_true, if_false, zp_leT, zp_leF, zp_ltT, zp_ltF, zp_eqT, zp_eqF, zp_leTl, zp_leFl, zp_ltTl, zp_ltFl, zp_leTr, zp_leFr, zp_ltTr, zp_ltFr, zp_eqTr, zp_eqFr, zp_eqTl, zp_eqFl, zp_eqFll, eq_self, zp_addl, zp_addr, zp_mull, zp_mulr, zp_subr, zp_subl, nI_add, pk_mul, List.foldl_nil]
    · obtain ⟨M', e1, e2⟩ := zw_next d h
      simp only [List.length_nil, Nat.add_zero] at hn
      refine ⟨M', ?_, e2⟩
      rw [ze_X9_strength_48]
      simp (disch := omega) only [↓zp_dn, ↓zp_hV, ↓zp_hI, ↓zp_hL, ↓zp_hR, ↓zp_hX, zp_eV, zp_eI, zp_eL, zp_eR, zp_eX, zp_eXl, zp_iV, zp_iI, zp_iL, zp_iR, ↓zp_sm, ↓zp_nls, ↓zp_nln, zp_bo0, zp_bo1, zp_okE, zp_ok2E, zp_rfE, ↓reduceIte, if_true, if_false, zp_leT, zp_leF, zp_ltT, zp_ltF, zp_eqT, zp_eqF, zp_leTl, zp_leFl, zp_ltTl, zp_ltFl, zp_leTr, zp_leFr, zp_ltTr, zp_ltFr, zp_eqTr, zp_eqFr, zp_eqTl, zp_eqFl, zp_eqFll, eq_self, zp_addl, zp_addr, zp_mull, zp_mulr, zp_subr, zp_subl, nI_add, pk_mul, e1, List.foldl_nil]
  | cons w ws ih =>
    intro n M x h hn
    simp only [List.length_cons] at hn
    obtain ⟨M1, e1, e2, e3, e4⟩ := zw_next d h
    have hst : M1.1 7 (20 + w.length) 2 = (zw_end s0 w).2.2.1 := (zw_cur_end e4).2.2.1
    obtain ⟨M', f1, f2⟩ := ih (n + 1) M1 (zi_max x (zw_end s0 w).2.2.1) e3 (by omega)
    refine ⟨M', ?_, zw_fr_tr e2 f2⟩
    rw [ze_X9_strength_48, List.foldl_cons, ← f1]
    simp (disch := omega) only [↓zp_dn, ↓zp_hV, ↓zp_hI, ↓zp_hL, ↓zp_hR, ↓zp_hX, zp_eV, zp_eI, zp_eL, zp_eR, zp_eX, zp_eXl, zp_iV, zp_iI, zp_iL, zp_iR, ↓zp_sm, ↓zp_nls, ↓zp_nln, zp_bo0, zp_bo1, zp_okE, zp_ok2E, zp_rfE, ↓reduceIte, if_true, if_false, zp_leT, zp_leF, zp_ltT, zp_ltF, zp_eqT, zp_eqF, zp_leTl, zp_leFl, zp_ltTl, zp_ltFl, zp_leTr, zp_leFr, zp_ltTr, zp_ltFr, zp_eqTr, zp_eqFr, zp_eqTl, zp_eqFl, zp_eqFll, eq_self, zp_addl, zp_addr, zp_mull, zp_mulr, zp_subr, zp_subl, nI_add, pk_mul, e1, zp_1n0, zc_end _ e4, hst]
theorem zo_strength (d : Nat) {n : Nat} {xs : Nat → Int32} {M : zi_M} (hI : zq_inv n xs M) (i : Int32) : zp_ok (zi_run (d + 7) zm_X9_strength 0 [some (.inr (.inr (9, some 0))), some (.inl i), none, none, none] [] M) (zp_rf (d + 7) zm_X10_strength [some (.inr (.inr (10, some 0))), some (.inl i)]) (zq_inv n xs) := by
  obtain ⟨A, K, hS⟩ := hI.2.2.2.2.1
  have h4 := hS.2.1.1
  have hR := hS.2.2.2.2.2.1
  rcases zp_int i with hi | ⟨i, hi, rfl⟩
  · simp (disch := omega) only [ze_X9_strength_0, ze_X10_strength_0, zc_birdN _ hi, zr_flyerN _ hi, ze_X5_room_0, ze_X5_size_0, ze_X5_isThere_0, ze_X5_has_0, ze_X5_hasRun_0, ze_X5_get_0, ze_X5_set_0, ze_X5_drop_0, ze_X5_takeRun_0, ze_X9_rowAt_0, ze_X9_textAt_0, ze_X9_refuse_0, ze_X10_isRow_0, ze_X10_isText_0, ze_X10_finds_0, ze_X10_tells_0, zp_in_0_5, zp_in_0_3, zp_in_0_7, zp_in_1_5, zp_in_0_9, zp_in_0_2, zp_in_48_57, zp_in_0_12, zp_in_1_4, zp_in_1_9, zp_in_1_2147483646, zp_in_0_8, zp_in_0, ↓zp_dn, ↓zp_hV, ↓zp_hI, ↓zp_hL, ↓zp_hR, ↓zp_hX, zp_eV, zp_eI, zp_eL, zp_eR, zp_eX, zp_eXl, zp_iV, zp_iI, zp_iL, zp_iR, ↓zp_sm, ↓zp_nls, ↓zp_nln, zp_bo0, zp_bo1, zp_okE, zp_ok2E, zp_rfE, ↓reduceIte, if_true, if_false, zp_ofn, zp_sI1, zp_w1, zp_sL1, zp_sR1, zp_l1, zp_leT, zp_leF, zp_ltT, zp_ltF, zp_eqT, zp_eqF, zp_leTl, zp_leFl, zp_ltTl, zp_ltFl, zp_leTr, zp_leFr, zp_ltTr, zp_ltFr, zp_eqTr, zp_eqFr, zp_eqTl, zp_eqFl, zp_eqFll, eq_self, zp_addl, zp_addr, zp_mull, zp_mulr, zp_subr, zp_subl, nI_add, pk_mul, Nat.reduceEqDiff, Nat.reduceLT, Nat.reduceLeDiff, Nat.reduceAdd, Nat.reduceMul, Nat.reduceSub, reduceCtorEq, Int32.reduceLT, Int32.reduceLE, not_true_eq_false, not_false_eq_true, and_true, true_and, and_false, false_and, or_true, true_or, or_false, false_or]; exact hI
  by_cases hiF : i < K.2.1
  case neg => simp (disch := omega) only [ze_X9_strength_0, ze_X10_strength_0, zc_birdF _ hS (Nat.le_of_not_lt hiF) hi, zr_flyerF _ hR (Nat.le_of_not_lt hiF) hi h4, ze_X5_room_0, ze_X5_size_0, ze_X5_isThere_0, ze_X5_has_0, ze_X5_hasRun_0, ze_X5_get_0, ze_X5_set_0, ze_X5_drop_0, ze_X5_takeRun_0, ze_X9_rowAt_0, ze_X9_textAt_0, ze_X9_refuse_0, ze_X10_isRow_0, ze_X10_isText_0, ze_X10_finds_0, ze_X10_tells_0, zp_in_0_5, zp_in_0_3, zp_in_0_7, zp_in_1_5, zp_in_0_9, zp_in_0_2, zp_in_48_57, zp_in_0_12, zp_in_1_4, zp_in_1_9, zp_in_1_2147483646, zp_in_0_8, zp_in_0, ↓zp_dn, ↓zp_hV, ↓zp_hI, ↓zp_hL, ↓zp_hR, ↓zp_hX, zp_eV, zp_eI, zp_eL, zp_eR, zp_eX, zp_eXl, zp_iV, zp_iI, zp_iL, zp_iR, ↓zp_sm, ↓zp_nls, ↓zp_nln, zp_bo0, zp_bo1, zp_okE, zp_ok2E, zp_rfE, ↓reduceIte, if_true, if_false, zp_ofn, zp_sI1, zp_w1, zp_sL1, zp_sR1, zp_l1, zp_leT, zp_leF, zp_ltT, zp_ltF, zp_eqT, zp_eqF, zp_leTl, zp_leFl, zp_ltTl, zp_ltFl, zp_leTr, zp_leFr, zp_ltTr, zp_ltFr, zp_eqTr, zp_eqFr, zp_eqTl, zp_eqFl, zp_eqFll, eq_self, zp_addl, zp_addr, zp_mull, zp_mulr, zp_subr, zp_subl, nI_add, pk_mul, Nat.reduceEqDiff, Nat.reduceLT, Nat.reduceLeDiff, Nat.reduceAdd, Nat.reduceMul, Nat.reduceSub, reduceCtorEq, Int32.reduceLT, Int32.reduceLE, not_true_eq_false, not_false_eq_true, and_true, true_and, and_false, false_and, or_true, true_or, or_false, false_or]; exact hI
  obtain ⟨hE, hok, hsp⟩ := zq_fl hS hiF
  have h5 : M.1 7 i 5 = (zf_sp K i).2.2.2.2.2 := hsp.2.2.2.2.2
  by_cases hf : (zf_sp K i).2.2.2.2.2 = 0
  case neg => simp (disch := omega) only [ze_X9_strength_0, ze_X10_strength_0, zc_bird _ hS hiF, zr_flyer _ hR hiF h4, zr_fallen _ hR hiF h4, h5, if_neg hf, ze_X5_room_0, ze_X5_size_0, ze_X5_isThere_0, ze_X5_has_0, ze_X5_hasRun_0, ze_X5_get_0, ze_X5_set_0, ze_X5_drop_0, ze_X5_takeRun_0, ze_X9_rowAt_0, ze_X9_textAt_0, ze_X9_refuse_0, ze_X10_isRow_0, ze_X10_isText_0, ze_X10_finds_0, ze_X10_tells_0, zp_in_0_5, zp_in_0_3, zp_in_0_7, zp_in_1_5, zp_in_0_9, zp_in_0_2, zp_in_48_57, zp_in_0_12, zp_in_1_4, zp_in_1_9, zp_in_1_2147483646, zp_in_0_8, zp_in_0, ↓zp_dn, ↓zp_hV, ↓zp_hI, ↓zp_hL, ↓zp_hR, ↓zp_hX, zp_eV, zp_eI, zp_eL, zp_eR, zp_eX, zp_eXl, zp_iV, zp_iI, zp_iL, zp_iR, ↓zp_sm, ↓zp_nls, ↓zp_nln, zp_bo0, zp_bo1, zp_okE, zp_ok2E, zp_rfE, ↓reduceIte, if_true, if_false, zp_ofn, zp_sI1, zp_w1, zp_sL1, zp_sR1, zp_l1, zp_leT, zp_leF, zp_ltT, zp_ltF, zp_eqT, zp_eqF, zp_leTl, zp_leFl, zp_ltTl, zp_ltFl, zp_leTr, zp_leFr, zp_ltTr, zp_ltFr, zp_eqTr, zp_eqFr, zp_eqTl, zp_eqFl, zp_eqFll, eq_self, zp_addl, zp_addr, zp_mull, zp_mulr, zp_subr, zp_subl, nI_add, pk_mul, Nat.reduceEqDiff, Nat.reduceLT, Nat.reduceLeDiff, Nat.reduceAdd, Nat.reduceMul, Nat.reduceSub, reduceCtorEq, Int32.reduceLT, Int32.reduceLE, not_true_eq_false, not_false_eq_true, and_true, true_and, and_false, false_and, or_true, true_or, or_false, false_or]; exact hI
  obtain ⟨l, hl, hlE⟩ := (hS.2.1.2.2.1 i hiF).2
  obtain ⟨M1, M2, s1, s2, s3, s4, s5⟩ := zc_setOut3 (d + 4) hS hiF hf
  have hlen := zw_len729 (zf_en A K i) (zs_sh (zf_sp K i) (nI 40))
  obtain ⟨M3, l1, l2⟩ := zc_strL (d + 3) _ 0 M2 (-9) s5 (by omega)
  have nb1 : zq_nb M M3 := zq_nb_tr s3 (zw_fr_nb l2)
  have e28 := zq_nb_28 nb1
  have hA2 : zf_rA (M3.1 28 0) A := by rw [e28]; exact hS.2.2.2.2.1
  have hR2 : zf_rK (M3.1 28 0) K := by rw [e28]; exact hR
  obtain ⟨M4, q1, q2, q3⟩ := zr_leastL d hE hA2 hR2 hiF h4 hok 3 (N := 40) (by omega) 41 0 M3 (by omega) (zq_nb_rfl M3) rfl
  have ef : (fun v => zw_has (zw_Em (zf_en A K i) 3 (nI v)) (zw_Sm (zf_sp K i) 3 (nI v))) = (fun v => zw_has (zf_en A K i) (zs_sh (zf_sp K i) (nI v))) := by
    funext v
    have : zw_Sm (zf_sp K i) 3 (nI v) = zs_sh (zf_sp K i) (nI v) := by
      simp only [zw_Sm, zs_sh, if_true]; rw [← hf]
    rw [this]; simp [zw_Em]
  rw [ef, zs_least (E := zf_en A K i) hl hlE] at q1
  have q1' := (ze_X10_least_0 (d + 6) (nI i) 3 40 M3).trans q1
  rw [ze_X9_strength_0]
  simp (disch := omega) only [zc_bird _ hS hiF, h5, if_pos hf, s1, s2, ↓zp_dn, ↓zp_hV, ↓zp_hI, ↓zp_hL, ↓zp_hR, ↓zp_hX, zp_eV, zp_eI, zp_eL, zp_eR, zp_eX, zp_eXl, zp_iV, zp_iI, zp_iL, zp_iR, ↓zp_sm, ↓zp_nls, ↓zp_nln, zp_bo0, zp_bo1, zp_okE, zp_ok2E, zp_rfE, ↓reduceIte, if_true, if_false]
  refine Eq.mpr (congrArg (fun o => zp_ok o _ _) l1) ?_
  rw [ze_X9_strength_87]
  generalize (zw_ways (zf_en A K i) 6 (zs_sh (zf_sp K i) (nI 40))).foldl (fun x w => zi_max x (zw_end (zs_sh (zf_sp K i) (nI 40)) w).2.2.1) (-9) = z at q1'
  by_cases hz : z = -9
  · rw [if_pos hz] at q1' ⊢
    rw [zp_okE, zp_rfE, ze_X10_strength_0]
    simp (disch := omega) only [zr_flyer _ hR2 hiF h4, zr_fallen _ hR2 hiF h4, if_pos hf, q1', ze_X5_room_0, ze_X5_size_0, ze_X5_isThere_0, ze_X5_has_0, ze_X5_hasRun_0, ze_X5_get_0, ze_X5_set_0, ze_X5_drop_0, ze_X5_takeRun_0, ze_X9_rowAt_0, ze_X9_textAt_0, ze_X9_refuse_0, ze_X10_isRow_0, ze_X10_isText_0, ze_X10_finds_0, ze_X10_tells_0, zp_in_0_5, zp_in_0_3, zp_in_0_7, zp_in_1_5, zp_in_0_9, zp_in_0_2, zp_in_48_57, zp_in_0_12, zp_in_1_4, zp_in_1_9, zp_in_1_2147483646, zp_in_0_8, zp_in_0, ↓zp_dn, ↓zp_hV, ↓zp_hI, ↓zp_hL, ↓zp_hR, ↓zp_hX, zp_eV, zp_eI, zp_eL, zp_eR, zp_eX, zp_eXl, zp_iV, zp_iI, zp_iL, zp_iR, ↓zp_sm, ↓zp_nls, ↓zp_nln, zp_bo0, zp_bo1, zp_okE, zp_ok2E, zp_rfE, ↓reduceIte, if_true, if_false, zp_ofn, zp_sI1, zp_w1, zp_sL1, zp_sR1, zp_l1, zp_leT, zp_leF, zp_ltT, zp_ltF, zp_eqT, zp_eqF, zp_leTl, zp_leFl, zp_ltTl, zp_ltFl, zp_leTr, zp_leFr, zp_ltTr, zp_ltFr, zp_eqTr, zp_eqFr, zp_eqTl, zp_eqFl, zp_eqFll, eq_self, zp_addl, zp_addr, zp_mull, zp_mulr, zp_subr, zp_subl, nI_add, pk_mul, Nat.reduceEqDiff, Nat.reduceLT, Nat.reduceLeDiff, Nat.reduceAdd, Nat.reduceMul, Nat.reduceSub, reduceCtorEq, Int32.reduceLT, Int32.reduceLE, not_true_eq_false, not_false_eq_true, and_true, true_and, and_false, false_and, or_true, true_or, or_false, false_or]
    exact zq_okI hI nb1 (l2.1.trans s4) q2 q3
  · rw [if_neg hz] at q1' ⊢
    rw [zp_okE, zp_rfE, ze_X10_strength_0]
    simp (disch := omega) only [zr_flyer _ hR2 hiF h4, zr_fallen _ hR2 hiF h4, if_pos hf, q1', ze_X5_room_0, ze_X5_size_0, ze_X5_isThere_0, ze_X5_has_0, ze_X5_hasRun_0, ze_X5_get_0, ze_X5_set_0, ze_X5_drop_0, ze_X5_takeRun_0, ze_X9_rowAt_0, ze_X9_textAt_0, ze_X9_refuse_0, ze_X10_isRow_0, ze_X10_isText_0, ze_X10_finds_0, ze_X10_tells_0, zp_in_0_5, zp_in_0_3, zp_in_0_7, zp_in_1_5, zp_in_0_9, zp_in_0_2, zp_in_48_57, zp_in_0_12, zp_in_1_4, zp_in_1_9, zp_in_1_2147483646, zp_in_0_8, zp_in_0, ↓zp_dn, ↓zp_hV, ↓zp_hI, ↓zp_hL, ↓zp_hR, ↓zp_hX, zp_eV, zp_eI, zp_eL, zp_eR, zp_eX, zp_eXl, zp_iV, zp_iI, zp_iL, zp_iR, ↓zp_sm, ↓zp_nls, ↓zp_nln, zp_bo0, zp_bo1, zp_okE, zp_ok2E, zp_rfE, ↓reduceIte, if_true, if_false, zp_ofn, zp_sI1, zp_w1, zp_sL1, zp_sR1, zp_l1, zp_leT, zp_leF, zp_ltT, zp_ltF, zp_eqT, zp_eqF, zp_leTl, zp_leFl, zp_ltTl, zp_ltFl, zp_leTr, zp_leFr, zp_ltTr, zp_ltFr, zp_eqTr, zp_eqFr, zp_eqTl, zp_eqFl, zp_eqFll, eq_self, zp_addl, zp_addr, zp_mull, zp_mulr, zp_subr, zp_subl, nI_add, pk_mul, Nat.reduceEqDiff, Nat.reduceLT, Nat.reduceLeDiff, Nat.reduceAdd, Nat.reduceMul, Nat.reduceSub, reduceCtorEq, Int32.reduceLT, Int32.reduceLE, not_true_eq_false, not_false_eq_true, and_true, true_and, and_false, false_and, or_true, true_or, or_false, false_or]
    exact zq_okI hI nb1 (l2.1.trans s4) q2 q3
