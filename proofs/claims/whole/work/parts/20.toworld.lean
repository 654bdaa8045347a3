/-! FROM THE CONSTRUCTORS' CELLS TO THE WORLD OF PART 08 -/
def zd_ada (adr : Nat → Nat) (b t1 t2 : Nat) (c k : Nat) : Nat := if c = 90 then b else if c = 91 then t1 else if c = 92 then t2 else adr (zd_ix c k)
def zd_ca (ct : FieldType → ClassId) (c : Nat) : ClassId := ct (zd_ft (zd_kt c))
theorem zd_ev2 {M : zd_M} (h : zd_run2 = some M) : M.1 = 333 ∧ zd_sz M = 5260 ∧ ∀ q ∈ zi_all, zd_ck M q.1 q.2 = true := by
  have h1 := zd_ev
  rw [h] at h1
  simp only [Bool.and_eq_true, Nat.beq_eq] at h1
  exact ⟨h1.1, h1.2.1, List.all_eq_true.mp h1.2.2⟩
theorem zd_m0 {n : Nat} {xs : Nat → Int32} {c : Nat} (h : c < 90) (k s : Nat) : (zi_M0 n xs).1 c k s = (zi_M0 0 (fun _ => 0)).1 c k s := by
  simp only [zi_M0]
  rw [if_neg (show ¬ c = 90 by omega), if_neg (show ¬ c = 90 by omega)]
theorem zd_fk90 : ∀ c, c < 11 → ∀ s, s < 40 → zi_fk c s < 90 := by decide +kernel
theorem zd_ek90 : ∀ c, c < 44 → zi_ek c < 90 := by decide +kernel
theorem zd_ad90 {adr : Nat → Nat} {b t1 t2 c k : Nat} (h : c < 90) : zd_ada adr b t1 t2 c k = adr (zd_ix c k) := by
  unfold zd_ada
  rw [if_neg (by omega), if_neg (by omega), if_neg (by omega)]
theorem zd_ktt : ∀ c, c < 44 → 11 ≤ c → (zd_kt c = 1 → zi_aty c = 1) ∧ (4 ≤ zd_kt c → zi_aty c = 2) ∧ (zd_kt c < 4 → zd_kt c ≠ 1 → zi_aty c = 0 ∨ zi_aty c = 3) := by decide +kernel
theorem zd_len40 : ∀ c, c < 11 → (zi_ftl c).length < 40 := by decide +kernel
theorem zd_arr {cA : ClassId} {n : Nat} {f g : Nat → Value} (h : ∀ j, j < n → f j = g j) : arrV cA n f = arrV cA n g := by
  unfold arrV
  congr 1
  apply Array.ext
  · simp
  · intro i h1 h2
    simp only [Array.size_ofFn] at h1
    simp only [Array.getElem_ofFn]
    exact h i h1
theorem zd_atH {D : va_G} {ct : FieldType → ClassId} {adr : Nat → Nat} {M : zd_M} {H : Heap} {b t1 t2 n : Nat} {xs : Nat → Int32} {c k : Nat} (hc44 : c < 44) (hck : zd_ck M c k = true) (hP : va_P D vwCl (zd_wl ct adr M) H) : va_at D vwCl (zd_ada adr b t1 t2 c k, zi_ent (zd_ca ct) (zd_ada adr b t1 t2) (zi_M0 n xs) c k) H := by
  unfold zd_ck at hck
  rw [Bool.and_eq_true, Nat.blt_eq] at hck
  obtain ⟨hlt, hck⟩ := hck
  have hat := hP _ _ (zd_wg (ct := ct) (adr := adr) (M := M) hlt)
  rw [zd_ad90 (by omega)]
  cases hcell : M.2 (zd_ix c k) with
  | inl q =>
    rw [hcell] at hck hat
    simp only [Bool.and_eq_true, Nat.blt_eq, Nat.beq_eq] at hck
    obtain ⟨h11, hqc, hlen, hall⟩ := hck
    rw [zi_entO h11]
    have e : q.2.map (zd_cv adr) = zi_fs (zd_ada adr b t1 t2) (zi_M0 n xs) c k := by
      apply List.ext_getElem?
      intro s
      by_cases hs : s < (zi_ftl c).length
      · have h1 := List.all_eq_true.mp hall s (List.mem_range.mpr hs)
        cases hty : (zi_ftl c)[s]? with
        | none => rw [List.getElem?_eq_none_iff] at hty; omega
        | some ty =>
          cases hv : q.2[s]? with
          | none => rw [List.getElem?_eq_none_iff] at hv; omega
          | some v =>
            rw [hty, hv] at h1
            simp only at h1
            rw [zi_fsg hty, List.getElem?_map, hv]
            simp only [Option.map_some]
            congr 1
            rcases v with x | x | ⟨c1, o⟩
            · simp only [zd_cf, Bool.and_eq_true, Bool.or_eq_true, Nat.beq_eq, decide_eq_true_eq] at h1
              obtain ⟨h2, h3⟩ := h1
              rw [← zd_m0 (n := n) (xs := xs) (by omega)] at h3
              rcases h2 with rfl | rfl
              · show Value.int x = Value.int _; rw [h3]
              · show Value.int x = Value.int _; rw [h3]
            · simp only [zd_cf, Bool.and_eq_true, Nat.beq_eq, decide_eq_true_eq] at h1
              obtain ⟨rfl, h3⟩ := h1
              show Value.long x = Value.long _
              rw [h3]; rfl
            · cases o with
              | none =>
                simp only [zd_cf, Bool.and_eq_true, Nat.beq_eq] at h1
                obtain ⟨rfl, h3⟩ := h1
                show Value.null = va_rf ((zi_gr (zi_M0 n xs) c k s).map _)
                unfold zi_gr
                rw [h3]
                rfl
              | some j =>
                simp only [zd_cf, Bool.and_eq_true, Nat.beq_eq, Bool.not_eq_true'] at h1
                obtain ⟨rfl, h3, rfl⟩ := h1
                show Value.ref (adr (zd_ix (zi_fk c s) (zi_rf c k s))) = va_rf ((zi_gr (zi_M0 n xs) c k s).map _)
                unfold zi_gr
                rw [h3]
                show _ = Value.ref (zd_ada adr b t1 t2 (zi_fk c s) (zi_rf c k s))
                rw [zd_ad90 (zd_fk90 c h11 s (by have := zd_len40 c h11; omega))]
      · rw [List.getElem?_eq_none (by rw [List.length_map]; omega), List.getElem?_eq_none (by rw [zi_fsl]; omega)]
    rw [← e]
    have h9 : va_at D vwCl (adr (zd_ix c k), .inr (q.1, q.2.map (zd_cv adr))) H := hat
    rw [hqc] at h9
    exact h9
  | inr q =>
    rw [hcell] at hck hat
    simp only [Bool.and_eq_true, Nat.ble_eq, Nat.beq_eq] at hck
    obtain ⟨h11, hqt, hqn, hall⟩ := hck
    rw [zi_entA h11]
    have hat : H[adr (zd_ix c k)]? = some (vp_cell (ct (zd_ft q.1)) (q.2.1, zd_con adr q.1 q.2.2.1 q.2.2.2)) := hat
    show H[adr (zd_ix c k)]? = some (vp_cell (zd_ca ct c) (zi_ln c k, zi_con (zd_ada adr b t1 t2) (zi_M0 n xs) c k))
    rw [hat, ← hqn]
    have hca : zd_ca ct c = ct (zd_ft q.1) := by unfold zd_ca; rw [hqt]
    rw [hca]
    congr 1
    obtain ⟨k1, k2, k3⟩ := zd_ktt c hc44 h11
    rw [← hqt] at k1 k2 k3
    by_cases h1 : q.1 = 1
    · have ht := k1 h1
      unfold zd_con zi_con
      rw [if_pos h1, if_pos ht]
      exact zd_arr (fun j hj => by
        show Value.long 0 = Value.long ((zi_M0 n xs).2.1 c k j)
        simp only [zi_M0]
        rw [if_neg (show ¬ c = 9 by omega), if_neg (show ¬ c = 10 by omega)])
    · by_cases h4 : q.1 < 4
      · have ht := k3 h4 h1
        rw [zi_conI ht]
        unfold zd_con
        rw [if_neg h1, if_pos h4]
        have hb : Nat.blt q.1 4 = true := by rw [Nat.blt_eq]; exact h4
        rw [hb] at hall
        simp only at hall
        rw [vp_cell_i, vp_cell_i]
        refine zd_arr (fun j hj => ?_)
        have h2 := List.all_eq_true.mp hall j (List.mem_range.mpr hj)
        rw [Bool.or_eq_true, Nat.beq_eq, decide_eq_true_eq] at h2
        rcases h2 with h2 | h2
        · exact absurd h2 h1
        · exact congrArg Value.int (h2.trans (zd_m0 (by omega) k j).symm)
      · have ht := k2 (by omega)
        rw [zi_conR ht]
        unfold zd_con
        rw [if_neg h1, if_neg h4]
        have hb : Nat.blt q.1 4 = false := by
          cases hq : Nat.blt q.1 4 with
          | false => rfl
          | true => rw [Nat.blt_eq] at hq; omega
        rw [hb] at hall
        simp only at hall
        rw [vp_cell_q, vp_cell_q]
        refine zd_arr (fun j hj => ?_)
        have h2 := List.all_eq_true.mp hall j (List.mem_range.mpr hj)
        have h2 := eq_of_beq h2
        show va_rf ((zi_at q.2.2.2 j).map adr) = Value.ref (zd_ada adr b t1 t2 (zi_ek c) (zi_rf c k j))
        rw [h2, zd_ad90 (zd_ek90 c hc44)]
        rfl
theorem zd_ixn : va_nd (zi_all.map (fun q => zd_ix q.1 q.2)) = true := by decide +kernel
theorem zd_toH {D : va_G} {ct : FieldType → ClassId} {adr : Nat → Nat} {A : Nat → Prop} {M : zd_M} {s : State} {H : Heap} {b t1 t2 n : Nat} {xs : Nat → Int32} (hM : zd_run2 = some M) (hH : zd_H D ct adr A M s H) : va_P D vwCl (zi_wl (zd_ca ct) (zd_ada adr b t1 t2) (zi_M0 n xs)) H ∧ va_D A (zi_wl (zd_ca ct) (zd_ada adr b t1 t2) (zi_M0 n xs)) := by
  obtain ⟨h333, -, hck⟩ := zd_ev2 hM
  have hlt : ∀ {i : Nat} {q : Nat × Nat}, zi_all[i]? = some q → zd_ix q.1 q.2 < M.1 := by
    intro i q hi
    have := hck q (List.mem_of_getElem? hi)
    unfold zd_ck at this
    rw [Bool.and_eq_true, Nat.blt_eq] at this
    exact this.1
  have inv : ∀ {i : Nat} {q : Nat × va_E}, (zi_wl (zd_ca ct) (zd_ada adr b t1 t2) (zi_M0 n xs))[i]? = some q → ∃ x : Nat × Nat, zi_all[i]? = some x ∧ q = (zd_ada adr b t1 t2 x.1 x.2, zi_ent (zd_ca ct) (zd_ada adr b t1 t2) (zi_M0 n xs) x.1 x.2) := by
    intro i q hi
    unfold zi_wl at hi
    rw [List.getElem?_map] at hi
    cases hx : zi_all[i]? with
    | none => rw [hx] at hi; cases hi
    | some x => rw [hx] at hi; cases hi; exact ⟨x, rfl, rfl⟩
  refine ⟨fun i q hi => ?_, fun i j x y hi hj hxy => ?_, fun i q hi => ?_⟩
  · obtain ⟨x, hx, rfl⟩ := inv hi
    exact zd_atH (zi_alt (c := x.1) (k := x.2) hx).1 (hck x (List.mem_of_getElem? hx)) hH.1
  · obtain ⟨x1, hx1, rfl⟩ := inv hi
    obtain ⟨x2, hx2, rfl⟩ := inv hj
    dsimp only at hxy
    rw [zd_ad90 (by have := (zi_alt (c := x1.1) (k := x1.2) hx1).1; omega), zd_ad90 (by have := (zi_alt (c := x2.1) (k := x2.2) hx2).1; omega)] at hxy
    have h1 := hH.2.1.1 _ _ _ _ (zd_wg (ct := ct) (adr := adr) (hlt hx1)) (zd_wg (ct := ct) (adr := adr) (hlt hx2)) hxy
    exact va_nd_inj _ zd_ixn i j (zd_ix x1.1 x1.2) (by rw [List.getElem?_map, hx1]; rfl) (by rw [List.getElem?_map, hx2, h1]; rfl)
  · obtain ⟨x, hx, rfl⟩ := inv hi
    dsimp only
    rw [zd_ad90 (by have := (zi_alt (c := x.1) (k := x.2) hx).1; omega)]
    exact hH.2.1.2 _ _ (zd_wg (ct := ct) (adr := adr) (hlt hx))
theorem zd_tyk : ∀ i, i < 33 → ∃ c ty, zi_tyl[i]? = some (c, ty) ∧ c < 44 ∧ zi_ex c 0 = true ∧ 11 ≤ c ∧ zd_ft (zd_kt c) = ty := by
  have h : ∀ i, i < 33 → (match zi_tyl[i]? with | some q => Nat.blt q.1 44 && (zi_ex q.1 0 && (Nat.ble 11 q.1 && decide (zd_ft (zd_kt q.1) = q.2))) | none => false) = true := by decide +kernel
  intro i hi
  have h1 := h i hi
  cases hq : zi_tyl[i]? with
  | none => rw [hq] at h1; cases h1
  | some q =>
    rw [hq] at h1
    simp only [Bool.and_eq_true, Nat.blt_eq, Nat.ble_eq, decide_eq_true_eq] at h1
    exact ⟨q.1, q.2, rfl, h1.1, h1.2.1, h1.2.2.1, h1.2.2.2⟩
theorem zd_toK {D : va_G} {ct : FieldType → ClassId} {adr : Nat → Nat} {A : Nat → Prop} {M : zd_M} {s : State} {H : Heap} (hM : zd_run2 = some M) (hH : zd_H D ct adr A M s H) (hK : va_K D vwCl [] s) : va_K D vwCl (zi_tys (zd_ca ct)) s := by
  obtain ⟨h333, -, hck⟩ := zd_ev2 hM
  refine ⟨hK.1, fun i q hi => ?_⟩
  have hl : i < 33 := by
    have := (List.getElem?_eq_some_iff.mp hi).1
    simpa [zi_tys, zi_tyl] using this
  obtain ⟨c, ty, h1, h2, h3, h4, h5⟩ := zd_tyk i hl
  unfold zi_tys at hi
  rw [List.getElem?_map, h1] at hi
  cases hi
  obtain ⟨j, hj⟩ := zi_in (by omega) h3
  have hc := hck (c, 0) (List.mem_of_getElem? hj)
  unfold zd_ck at hc
  rw [Bool.and_eq_true, Nat.blt_eq] at hc
  obtain ⟨hlt, hc⟩ := hc
  cases hcell : M.2 (zd_ix c 0) with
  | inl x =>
    rw [hcell] at hc
    simp only [Bool.and_eq_true, Nat.blt_eq] at hc
    omega
  | inr x =>
    rw [hcell] at hc
    simp only [Bool.and_eq_true, Nat.ble_eq, Nat.beq_eq] at hc
    have h6 := hH.2.2.1 _ x hlt hcell
    rw [hc.2.1] at h6
    dsimp only
    unfold zd_ca
    rw [h5] at h6 ⊢
    exact h6
