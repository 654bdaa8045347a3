/-! THE PURE PART: the class's fly and the reference's canBeat, moves, settles -/
theorem zp_pV {p : Prop} [Decidable p] (M : zi_M) (c k s : Nat) (x y : Int32) : (if p then some ((none : Option zi_V), zi_sI M c k s x) else some (none, zi_sI M c k s y)) = some (none, zi_sI M c k s (if p then x else y)) := by split <;> rfl
theorem zp_h1 {c k' k : Nat} (h : ¬ (c = 7 ∧ k' = k)) (a b : Int32) : (if c = 7 then (if k' = k then a else b) else b) = b := by
  by_cases h1 : c = 7
  · by_cases h2 : k' = k
    · exact absurd ⟨h1, h2⟩ h
    · simp [h2]
  · simp [h1]
/-- a place written in one cell: elsewhere all is as it was -/
theorem zp_o1 {M : zi_M} {c k c' k' s s' : Nat} {x : Int32} (h : ¬ (c' = c ∧ k' = k)) : (zi_sI M c k s x).1 c' k' s' = M.1 c' k' s' := by
  rw [zp_sI1]
  by_cases h1 : c' = c
  · by_cases h2 : k' = k
    · exact absurd ⟨h1, h2⟩ h
    · simp [h2]
  · simp [h1]
theorem zp_o2 {M : zi_M} {c k s s' : Nat} {x : Int32} (h : s' ≠ s) (c' k' : Nat) : (zi_sI M c k s x).1 c' k' s' = M.1 c' k' s' := by
  rw [zp_sI1]; simp [h]
theorem zc_take (d : Nat) (M : zi_M) (k0 k1 : Nat) {s : zf_S} (hs : zf_is (M.1 7 k1) s) : zi_run d zm_X7_take 0 [some (.inr (.inr (7, some k0))), some (.inr (.inr (7, some k1)))] [] M = some (none, zp_sp M k0 s) := by
  rw [ze_X7_take_0]
  congr 2
  obtain ⟨a0, a1, a2, a3, a4, a5⟩ := hs
  refine zp_sp_eq rfl (fun c k' j h => ?_) ?_ (fun j hj => ?_)
  · rw [zp_o1 h, zp_o1 h, zp_o1 h, zp_o1 h, zp_o1 h, zp_o1 h]
  · simp [zf_is, zp_sI1, a0, a1, a2, a3, a4, a5]
  · rw [zp_o2 (by omega), zp_o2 (by omega), zp_o2 (by omega), zp_o2 (by omega), zp_o2 (by omega), zp_o2 (by omega)]
theorem zc_isOver (d : Nat) {M : zi_M} {A : zf_A} (hA : zf_okE A) (hC : zf_cA M 0 A) {k : Nat} {s : zf_S} (hs : M.1 7 k 0 = nI s.1) (hc : s.1 < A.1) : zi_run d zm_X2_isOver 0 [some (.inr (.inr (2, some 0))), some (.inr (.inr (7, some k)))] [] M = if zf_over A s then some (some (.inl 1), M) else some (some (.inl 0), M) := by
  obtain ⟨a1, a2, a3, a4⟩ := hA
  rw [ze_X2_isOver_0, hs, hC.1]
  by_cases h : A.1 ≤ s.1 + 1
  · rw [if_pos (show zf_over A s from h)]
    simp (disch := omega) only [↓zp_dn, ↓zp_hV, ↓zp_hI, ↓zp_hL, ↓zp_hR, ↓zp_hX, zp_eV, zp_eI, zp_eL, zp_eR, zp_eX, zp_eXl, zp_iV, zp_iI, zp_iL, zp_iR, ↓zp_sm, ↓zp_nls, ↓zp_nln, zp_bo0, zp_bo1, zp_okE, zp_ok2E, zp_rfE, ↓reduceIte, if_true, if_false, zp_leT, zp_leF, zp_ltT, zp_ltF, zp_eqT, zp_eqF, zp_leTl, zp_leFl, zp_ltTl, zp_ltFl, zp_leTr, zp_leFr, zp_ltTr, zp_ltFr, zp_eqTr, zp_eqFr, zp_eqTl, zp_eqFl, zp_eqFll, eq_self, zp_addl, zp_addr, zp_mull, zp_mulr, zp_subr, zp_subl, nI_add, pk_mul]
  · rw [if_neg (show ¬ zf_over A s from h)]
    simp (disch := omega) only [↓zp_dn, ↓zp_hV, ↓zp_hI, ↓zp_hL, ↓zp_hR, ↓zp_hX, zp_eV, zp_eI, zp_eL, zp_eR, zp_eX, zp_eXl, zp_iV, zp_iI, zp_iL, zp_iR, ↓zp_sm, ↓zp_nls, ↓zp_nln, zp_bo0, zp_bo1, zp_okE, zp_ok2E, zp_rfE, ↓reduceIte, if_true, if_false, zp_leT, zp_leF, zp_ltT, zp_ltF, zp_eqT, zp_eqF, zp_leTl, zp_leFl, zp_ltTl, zp_ltFl, zp_leTr, zp_leFr, zp_ltTr, zp_ltFr, zp_eqTr, zp_eqFr, zp_eqTl, zp_eqFl, zp_eqFll, eq_self, zp_addl, zp_addr, zp_mull, zp_mulr, zp_subr, zp_subl, nI_add, pk_mul]

theorem zc_move59 (d : Nat) {M : zi_M} {E : zf_E} (hA : zf_okE E.1) (hE : zf_cE M E) {k1 k3 : Nat} {s : zf_S} (hs : zf_is (M.1 7 k1) s) (hc : s.1 < E.1.1) (hh : s.2.1 < E.1.2.1) {b w : Nat} (hb : b < 3) (hw : w < 3) {ww : Int32} (hww : ww = nI w) (cell : Int32) : zi_run (d + 1) zm_X2_move 59 [some (.inr (.inr (2, some 0))), some (.inr (.inr (7, some k1))), some (.inl (nI b)), some (.inr (.inr (7, some k3))), some (.inl cell), some (.inl (nI (s.2.1 + b) - 1)), none] [.inl ww, .inl (nI s.1)] M = if 1 ≤ s.2.1 + b ∧ s.2.1 + b - 1 < E.1.2.1 ∧ zf_at E.1 (min (s.1 + w) (E.1.1 - 1)) (s.2.1 + b - 1) ≠ 5 then some (some (.inl 1), zp_sp M k3 (min (s.1 + w) (E.1.1 - 1), s.2.1 + b - 1, (if cell = 3 then s.2.2.1 else s.2.2.1 - zf_cost E.2.1 E.2.2.2.1 b), s.2.2.2.1, s.2.2.2.2.1, s.2.2.2.2.2)) else some (some (.inl 0), M) := by
  have hA' := hA
  obtain ⟨a1, a2, a3, a4⟩ := hA'
  obtain ⟨hC, f1, f2, f3, f4⟩ := hE
  have hC' := hC
  obtain ⟨e1, e2, _⟩ := hC'
  have hm : min (s.1 + w) (E.1.1 - 1) < E.1.1 := by omega
  rw [ze_X2_move_59, e1, hww]
  by_cases h0 : s.2.1 + b = 0
  · rw [if_neg (by omega)]
    simp (disch := omega) only [↓zp_dn, ↓zp_hV, ↓zp_hI, ↓zp_hL, ↓zp_hR, ↓zp_hX, zp_eV, zp_eI, zp_eL, zp_eR, zp_eX, zp_eXl, zp_iV, zp_iI, zp_iL, zp_iR, ↓zp_sm, ↓zp_nls, ↓zp_nln, zp_bo0, zp_bo1, zp_okE, zp_ok2E, zp_rfE, ↓reduceIte, if_true, if_false, zp_leT, zp_leF, zp_ltT, zp_ltF, zp_eqT, zp_eqF, zp_leTl, zp_leFl, zp_ltTl, zp_ltFl, zp_leTr, zp_leFr, zp_ltTr, zp_ltFr, zp_eqTr, zp_eqFr, zp_eqTl, zp_eqFl, zp_eqFll, eq_self, zp_addl, zp_addr, zp_mull, zp_mulr, zp_subr, zp_subl, nI_add, pk_mul, zp_minN, zp_m1 h0, zc_lookN _ hA hC hm]
  · by_cases h1 : s.2.1 + b - 1 < E.1.2.1
    · by_cases h5 : zf_at E.1 (min (s.1 + w) (E.1.1 - 1)) (s.2.1 + b - 1) = 5
      · rw [if_neg (fun h => h.2.2 h5)]
        simp (disch := omega) only [↓zp_dn, ↓zp_hV, ↓zp_hI, ↓zp_hL, ↓zp_hR, ↓zp_hX, zp_eV, zp_eI, zp_eL, zp_eR, zp_eX, zp_eXl, zp_iV, zp_iI, zp_iL, zp_iR, ↓zp_sm, ↓zp_nls, ↓zp_nln, zp_bo0, zp_bo1, zp_okE, zp_ok2E, zp_rfE, ↓reduceIte, if_true, if_false, zp_leT, zp_leF, zp_ltT, zp_ltF, zp_eqT, zp_eqF, zp_leTl, zp_leFl, zp_ltTl, zp_ltFl, zp_leTr, zp_leFr, zp_ltTr, zp_ltFr, zp_eqTr, zp_eqFr, zp_eqTl, zp_eqFl, zp_eqFll, eq_self, zp_addl, zp_addr, zp_mull, zp_mulr, zp_subr, zp_subl, nI_add, pk_mul, zp_minN, zc_look _ hA hC hm h1, h5]
      · rw [if_pos ⟨by omega, h1, h5⟩]
        by_cases h3 : cell = 3
        · simp (disch := omega) only [↓zp_dn, ↓zp_hV, ↓zp_hI, ↓zp_hL, ↓zp_hR, ↓zp_hX, zp_eV, zp_eI, zp_eL, zp_eR, zp_eX, zp_eXl, zp_iV, zp_iI, zp_iL, zp_iR, ↓zp_sm, ↓zp_nls, ↓zp_nln, zp_bo0, zp_bo1, zp_okE, zp_ok2E, zp_rfE, ↓reduceIte, if_true, if_false, zp_leT, zp_leF, zp_ltT, zp_ltF, zp_eqT, zp_eqF, zp_leTl, zp_leFl, zp_ltTl, zp_ltFl, zp_leTr, zp_leFr, zp_ltTr, zp_ltFr, zp_eqTr, zp_eqFr, zp_eqTl, zp_eqFl, zp_eqFll, eq_self, zp_addl, zp_addr, zp_mull, zp_mulr, zp_subr, zp_subl, nI_add, pk_mul, zp_minN, zc_look _ hA hC hm h1, if_neg h5, if_pos h3, zc_take _ M k3 k1 hs]
          congr 2
          refine zp_sp_eq rfl (fun c k' j h => ?_) ?_ (fun j hj => ?_)
          · rw [zp_o1 h, zp_o1 h, zp_sp1, zp_h1 h]
          · simp [zf_is, zp_sI1, zp_sp1, zf_wr]
          · rw [zp_o2 (by omega), zp_o2 (by omega), zp_sp1, if_pos rfl, if_pos rfl]
            simp only [zf_wr]; rw [if_neg (by omega), if_neg (by omega), if_neg (by omega), if_neg (by omega), if_neg (by omega), if_neg (by omega)]
        · simp (disch := omega) only [↓zp_dn, ↓zp_hV, ↓zp_hI, ↓zp_hL, ↓zp_hR, ↓zp_hX, zp_eV, zp_eI, zp_eL, zp_eR, zp_eX, zp_eXl, zp_iV, zp_iI, zp_iL, zp_iR, ↓zp_sm, ↓zp_nls, ↓zp_nln, zp_bo0, zp_bo1, zp_okE, zp_ok2E, zp_rfE, ↓reduceIte, if_true, if_false, zp_leT, zp_leF, zp_ltT, zp_ltF, zp_eqT, zp_eqF, zp_leTl, zp_leFl, zp_ltTl, zp_ltFl, zp_leTr, zp_leFr, zp_ltTr, zp_ltFr, zp_eqTr, zp_eqFr, zp_eqTl, zp_eqFl, zp_eqFll, eq_self, zp_addl, zp_addr, zp_mull, zp_mulr, zp_subr, zp_subl, nI_add, pk_mul, zp_minN, zc_look _ hA hC hm h1, if_neg h5, if_neg h3, zc_take _ M k3 k1 hs, zc_cost, zp_sI1, zp_sp1, Nat.reduceEqDiff, Nat.reduceLT, Nat.reduceLeDiff, Nat.reduceAdd, Nat.reduceMul, Nat.reduceSub, reduceCtorEq, Int32.reduceLT, Int32.reduceLE, not_true_eq_false, not_false_eq_true, and_true, true_and, and_false, false_and, or_true, true_or, or_false, false_or, f1, f3]
          congr 2
          refine zp_sp_eq rfl (fun c k' j h => ?_) ?_ (fun j hj => ?_)
          · rw [zp_o1 h, zp_o1 h, zp_o1 h, zp_sp1, zp_h1 h]
          · simp [zf_is, zp_sI1, zp_sp1, zf_wr]
          · rw [zp_o2 (by omega), zp_o2 (by omega), zp_o2 (by omega), zp_sp1, if_pos rfl, if_pos rfl]
            simp only [zf_wr]; rw [if_neg (by omega), if_neg (by omega), if_neg (by omega), if_neg (by omega), if_neg (by omega), if_neg (by omega)]
    · rw [if_neg (fun h => h1 h.2.1)]
      simp (disch := omega) only [↓zp_dn, ↓zp_hV, ↓zp_hI, ↓zp_hL, ↓zp_hR, ↓zp_hX, zp_eV, zp_eI, zp_eL, zp_eR, zp_eX, zp_eXl, zp_iV, zp_iI, zp_iL, zp_iR, ↓zp_sm, ↓zp_nls, ↓zp_nln, zp_bo0, zp_bo1, zp_okE, zp_ok2E, zp_rfE, ↓reduceIte, if_true, if_false, zp_leT, zp_leF, zp_ltT, zp_ltF, zp_eqT, zp_eqF, zp_leTl, zp_leFl, zp_ltTl, zp_ltFl, zp_leTr, zp_leFr, zp_ltTr, zp_ltFr, zp_eqTr, zp_eqFr, zp_eqTl, zp_eqFl, zp_eqFll, eq_self, zp_addl, zp_addr, zp_mull, zp_mulr, zp_subr, zp_subl, nI_add, pk_mul, zp_minN, zc_lookF _ hA hC hm (h := s.2.1 + b - 1)]
theorem zc_move (d : Nat) {M : zi_M} {E : zf_E} (hA : zf_okE E.1) (hE : zf_cE M E) {k1 k3 : Nat} {s : zf_S} (hs : zf_is (M.1 7 k1) s) (hc : s.1 < E.1.1) (hh : s.2.1 < E.1.2.1) {b : Nat} (hb : b < 3) : zi_run (d + 1) zm_X2_move 0 [some (.inr (.inr (2, some 0))), some (.inr (.inr (7, some k1))), some (.inl (nI b)), some (.inr (.inr (7, some k3))), none, none, none] [] M = if zf_can E.1 s b then some (some (.inl 1), zp_sp M k3 (zf_mv E s b)) else some (some (.inl 0), M) := by
  have hs' := hs
  obtain ⟨s0, s1, s2, s3, s4, s5⟩ := hs'
  rw [ze_X2_move_0, s5]
  by_cases hf : s.2.2.2.2.2 = 0
  · rw [if_pos hf]
    by_cases ho : E.1.1 ≤ s.1 + 1
    · rw [if_neg (show ¬ zf_can E.1 s b from fun h => by have := h.2.1; omega)]
      simp (disch := omega) only [↓zp_dn, ↓zp_hV, ↓zp_hI, ↓zp_hL, ↓zp_hR, ↓zp_hX, zp_eV, zp_eI, zp_eL, zp_eR, zp_eX, zp_eXl, zp_iV, zp_iI, zp_iL, zp_iR, ↓zp_sm, ↓zp_nls, ↓zp_nln, zp_bo0, zp_bo1, zp_okE, zp_ok2E, zp_rfE, ↓reduceIte, if_true, if_false, zp_leT, zp_leF, zp_ltT, zp_ltF, zp_eqT, zp_eqF, zp_leTl, zp_leFl, zp_ltTl, zp_ltFl, zp_leTr, zp_leFr, zp_ltTr, zp_ltFr, zp_eqTr, zp_eqFr, zp_eqTl, zp_eqFl, zp_eqFll, eq_self, zp_addl, zp_addr, zp_mull, zp_mulr, zp_subr, zp_subl, nI_add, pk_mul, zc_isOver _ hA hE.1 s0 hc, ho]
    · by_cases h4 : zf_at E.1 s.1 s.2.1 = 4
      · simp (disch := omega) only [↓zp_dn, ↓zp_hV, ↓zp_hI, ↓zp_hL, ↓zp_hR, ↓zp_hX, zp_eV, zp_eI, zp_eL, zp_eR, zp_eX, zp_eXl, zp_iV, zp_iI, zp_iL, zp_iR, ↓zp_sm, ↓zp_nls, ↓zp_nln, zp_bo0, zp_bo1, zp_okE, zp_ok2E, zp_rfE, ↓reduceIte, if_true, if_false, zp_leT, zp_leF, zp_ltT, zp_ltF, zp_eqT, zp_eqF, zp_leTl, zp_leFl, zp_ltTl, zp_ltFl, zp_leTr, zp_leFr, zp_ltTr, zp_ltFr, zp_eqTr, zp_eqFr, zp_eqTl, zp_eqFl, zp_eqFll, eq_self, zp_addl, zp_addr, zp_mull, zp_mulr, zp_subr, zp_subl, nI_add, pk_mul, zc_isOver _ hA hE.1 s0 hc, if_neg ho, s0, s1, zc_look _ hA hE.1 hc hh, if_pos h4]
        rw [zc_move59 _ hA hE hs hc hh hb (w := 2) (by omega) (ww := 2) rfl]
        simp only [zf_can, zf_mv, zf_col, h4, hf, ↓zp_dn, ↓zp_hV, ↓zp_hI, ↓zp_hL, ↓zp_hR, ↓zp_hX, zp_eV, zp_eI, zp_eL, zp_eR, zp_eX, zp_eXl, zp_iV, zp_iI, zp_iL, zp_iR, ↓zp_sm, ↓zp_nls, ↓zp_nln, zp_bo0, zp_bo1, zp_okE, zp_ok2E, zp_rfE, ↓reduceIte, if_true, if_false, show s.1 + 1 < E.1.1 from by omega, true_and]
      · simp (disch := omega) only [↓zp_dn, ↓zp_hV, ↓zp_hI, ↓zp_hL, ↓zp_hR, ↓zp_hX, zp_eV, zp_eI, zp_eL, zp_eR, zp_eX, zp_eXl, zp_iV, zp_iI, zp_iL, zp_iR, ↓zp_sm, ↓zp_nls, ↓zp_nln, zp_bo0, zp_bo1, zp_okE, zp_ok2E, zp_rfE, ↓reduceIte, if_true, if_false, zp_leT, zp_leF, zp_ltT, zp_ltF, zp_eqT, zp_eqF, zp_leTl, zp_leFl, zp_ltTl, zp_ltFl, zp_leTr, zp_leFr, zp_ltTr, zp_ltFr, zp_eqTr, zp_eqFr, zp_eqTl, zp_eqFl, zp_eqFll, eq_self, zp_addl, zp_addr, zp_mull, zp_mulr, zp_subr, zp_subl, nI_add, pk_mul, zc_isOver _ hA hE.1 s0 hc, if_neg ho, s0, s1, zc_look _ hA hE.1 hc hh, if_neg h4]
        rw [zc_move59 _ hA hE hs hc hh hb (w := 1) (by omega) (ww := 1) rfl]
        simp only [zf_can, zf_mv, zf_col, if_neg h4, hf, ↓zp_dn, ↓zp_hV, ↓zp_hI, ↓zp_hL, ↓zp_hR, ↓zp_hX, zp_eV, zp_eI, zp_eL, zp_eR, zp_eX, zp_eXl, zp_iV, zp_iI, zp_iL, zp_iR, ↓zp_sm, ↓zp_nls, ↓zp_nln, zp_bo0, zp_bo1, zp_okE, zp_ok2E, zp_rfE, ↓reduceIte, if_true, if_false, show s.1 + 1 < E.1.1 from by omega, true_and]
  · rw [if_neg hf, if_neg (fun h => hf h.1)]
theorem zc_settle (d : Nat) {M : zi_M} {E : zf_E} (hA : zf_okE E.1) (hE : zf_cE M E) {k : Nat} {s : zf_S} (hs : zf_is (M.1 7 k) s) (hc : s.1 < E.1.1) (hh : s.2.1 < E.1.2.1) : zi_run (d + 1) zm_X2_settle 0 [some (.inr (.inr (2, some 0))), some (.inr (.inr (7, some k))), none, none] [] M = some (none, zp_sp M k (zf_st E s)) := by
  have hs' := hs
  obtain ⟨s0, s1, s2, s3, s4, s5⟩ := hs'
  obtain ⟨hC, f1, f2, f3, f4⟩ := hE
  have h31 : s.2.1 < 2 ^ 31 := by have := hA.2.2.2; omega
  have hh0 : (nI s.2.1 = 0) = (s.2.1 = 0) := propext (nI_eq (b := 0) h31 (by decide))
  have fin : ∀ x y z : Int32, x = zf_heat E s → y = zf_clog E s → z = zf_fell E s → some ((none : Option zi_V), zi_sI (zi_sI (zi_sI M 7 k 3 x) 7 k 4 y) 7 k 5 z) = some (none, zp_sp M k (zf_st E s)) := by
    intro x y z hx hy hz
    congr 2
    refine zp_sp_eq rfl (fun c k' j h => ?_) ?_ (fun j hj => ?_)
    · rw [zp_o1 h, zp_o1 h, zp_o1 h]
    · simp [zf_is, zp_sI1, zf_st, hx, hy, hz, s0, s1, s2]
    · rw [zp_o2 (by omega), zp_o2 (by omega), zp_o2 (by omega)]
  by_cases c1 : zf_at E.1 s.1 s.2.1 = 1
  · have c2 : ¬ zf_at E.1 s.1 s.2.1 = 2 := by rw [c1]; decide
    by_cases z : s.2.1 = 0
    · simp (disch := omega) only [ze_X2_settle_0, ze_X2_settle_48, ze_X2_settle_63, ze_X2_settle_68, ze_X2_settle_93, ze_X2_settle_136, ze_X2_warmth_0, s0, s1, zc_look _ hA hC hc hh, hh0, ↓zp_dn, ↓zp_hV, ↓zp_hI, ↓zp_hL, ↓zp_hR, ↓zp_hX, zp_eV, zp_eI, zp_eL, zp_eR, zp_eX, zp_eXl, zp_iV, zp_iI, zp_iL, zp_iR, ↓zp_sm, ↓zp_nls, ↓zp_nln, zp_bo0, zp_bo1, zp_okE, zp_ok2E, zp_rfE, ↓reduceIte, if_true, if_false, zp_leT, zp_leF, zp_ltT, zp_ltF, zp_eqT, zp_eqF, zp_leTl, zp_leFl, zp_ltTl, zp_ltFl, zp_leTr, zp_leFr, zp_ltTr, zp_ltFr, zp_eqTr, zp_eqFr, zp_eqTl, zp_eqFl, zp_eqFll, eq_self, zp_addl, zp_addr, zp_mull, zp_mulr, zp_subr, zp_subl, nI_add, pk_mul, Nat.reduceEqDiff, Nat.reduceLT, Nat.reduceLeDiff, Nat.reduceAdd, Nat.reduceMul, Nat.reduceSub, reduceCtorEq, Int32.reduceLT, Int32.reduceLE, not_true_eq_false, not_false_eq_true, and_true, true_and, and_false, false_and, or_true, true_or, or_false, false_or, zp_sI1, zp_w1, zp_sL1, zp_sR1, s2, s3, s4, f1, f2, f4, zp_pV, if_pos c1, if_pos z]
      refine fin _ _ _ ?_ ?_ ?_ <;> simp only [zf_heat, zf_clog, zf_fell, zf_warm, if_pos c1, if_pos z, ↓reduceIte]
    · simp (disch := omega) only [ze_X2_settle_0, ze_X2_settle_48, ze_X2_settle_63, ze_X2_settle_68, ze_X2_settle_93, ze_X2_settle_136, ze_X2_warmth_0, s0, s1, zc_look _ hA hC hc hh, hh0, ↓zp_dn, ↓zp_hV, ↓zp_hI, ↓zp_hL, ↓zp_hR, ↓zp_hX, zp_eV, zp_eI, zp_eL, zp_eR, zp_eX, zp_eXl, zp_iV, zp_iI, zp_iL, zp_iR, ↓zp_sm, ↓zp_nls, ↓zp_nln, zp_bo0, zp_bo1, zp_okE, zp_ok2E, zp_rfE, ↓reduceIte, if_true, if_false, zp_leT, zp_leF, zp_ltT, zp_ltF, zp_eqT, zp_eqF, zp_leTl, zp_leFl, zp_ltTl, zp_ltFl, zp_leTr, zp_leFr, zp_ltTr, zp_ltFr, zp_eqTr, zp_eqFr, zp_eqTl, zp_eqFl, zp_eqFll, eq_self, zp_addl, zp_addr, zp_mull, zp_mulr, zp_subr, zp_subl, nI_add, pk_mul, Nat.reduceEqDiff, Nat.reduceLT, Nat.reduceLeDiff, Nat.reduceAdd, Nat.reduceMul, Nat.reduceSub, reduceCtorEq, Int32.reduceLT, Int32.reduceLE, not_true_eq_false, not_false_eq_true, and_true, true_and, and_false, false_and, or_true, true_or, or_false, false_or, zp_sI1, zp_w1, zp_sL1, zp_sR1, s2, s3, s4, f1, f2, f4, zp_pV, if_pos c1, if_neg z, if_neg c2]
      refine fin _ _ _ ?_ ?_ ?_ <;> simp only [zf_heat, zf_clog, zf_fell, zf_warm, if_pos c1, if_neg z, if_neg c2, ↓reduceIte]
  · by_cases k4 : E.2.1 = 4
    · by_cases z : s.2.1 = 0
      · simp (disch := omega) only [ze_X2_settle_0, ze_X2_settle_48, ze_X2_settle_63, ze_X2_settle_68, ze_X2_settle_93, ze_X2_settle_136, ze_X2_warmth_0, s0, s1, zc_look _ hA hC hc hh, hh0, ↓zp_dn, ↓zp_hV, ↓zp_hI, ↓zp_hL, ↓zp_hR, ↓zp_hX, zp_eV, zp_eI, zp_eL, zp_eR, zp_eX, zp_eXl, zp_iV, zp_iI, zp_iL, zp_iR, ↓zp_sm, ↓zp_nls, ↓zp_nln, zp_bo0, zp_bo1, zp_okE, zp_ok2E, zp_rfE, ↓reduceIte, if_true, if_false, zp_leT, zp_leF, zp_ltT, zp_ltF, zp_eqT, zp_eqF, zp_leTl, zp_leFl, zp_ltTl, zp_ltFl, zp_leTr, zp_leFr, zp_ltTr, zp_ltFr, zp_eqTr, zp_eqFr, zp_eqTl, zp_eqFl, zp_eqFll, eq_self, zp_addl, zp_addr, zp_mull, zp_mulr, zp_subr, zp_subl, nI_add, pk_mul, Nat.reduceEqDiff, Nat.reduceLT, Nat.reduceLeDiff, Nat.reduceAdd, Nat.reduceMul, Nat.reduceSub, reduceCtorEq, Int32.reduceLT, Int32.reduceLE, not_true_eq_false, not_false_eq_true, and_true, true_and, and_false, false_and, or_true, true_or, or_false, false_or, zp_sI1, zp_w1, zp_sL1, zp_sR1, s2, s3, s4, f1, f2, f4, zp_pV, if_neg c1, if_pos k4, if_pos z]
        refine fin _ _ _ ?_ ?_ ?_ <;> simp only [zf_heat, zf_clog, zf_fell, zf_warm, if_neg c1, if_pos k4, if_pos z, ↓reduceIte]
      · by_cases c2 : zf_at E.1 s.1 s.2.1 = 2
        · simp (disch := omega) only [ze_X2_settle_0, ze_X2_settle_48, ze_X2_settle_63, ze_X2_settle_68, ze_X2_settle_93, ze_X2_settle_136, ze_X2_warmth_0, s0, s1, zc_look _ hA hC hc hh, hh0, ↓zp_dn, ↓zp_hV, ↓zp_hI, ↓zp_hL, ↓zp_hR, ↓zp_hX, zp_eV, zp_eI, zp_eL, zp_eR, zp_eX, zp_eXl, zp_iV, zp_iI, zp_iL, zp_iR, ↓zp_sm, ↓zp_nls, ↓zp_nln, zp_bo0, zp_bo1, zp_okE, zp_ok2E, zp_rfE, ↓reduceIte, if_true, if_false, zp_leT, zp_leF, zp_ltT, zp_ltF, zp_eqT, zp_eqF, zp_leTl, zp_leFl, zp_ltTl, zp_ltFl, zp_leTr, zp_leFr, zp_ltTr, zp_ltFr, zp_eqTr, zp_eqFr, zp_eqTl, zp_eqFl, zp_eqFll, eq_self, zp_addl, zp_addr, zp_mull, zp_mulr, zp_subr, zp_subl, nI_add, pk_mul, Nat.reduceEqDiff, Nat.reduceLT, Nat.reduceLeDiff, Nat.reduceAdd, Nat.reduceMul, Nat.reduceSub, reduceCtorEq, Int32.reduceLT, Int32.reduceLE, not_true_eq_false, not_false_eq_true, and_true, true_and, and_false, false_and, or_true, true_or, or_false, false_or, zp_sI1, zp_w1, zp_sL1, zp_sR1, s2, s3, s4, f1, f2, f4, zp_pV, if_neg c1, if_pos k4, if_neg z, if_pos c2]
          refine fin _ _ _ ?_ ?_ ?_ <;> simp only [zf_heat, zf_clog, zf_fell, zf_warm, if_neg c1, if_pos k4, if_neg z, if_pos c2, ↓reduceIte]
        · simp (disch := omega) only [ze_X2_settle_0, ze_X2_settle_48, ze_X2_settle_63, ze_X2_settle_68, ze_X2_settle_93, ze_X2_settle_136, ze_X2_warmth_0, s0, s1, zc_look _ hA hC hc hh, hh0, ↓zp_dn, ↓zp_hV, ↓zp_hI, ↓zp_hL, ↓zp_hR, ↓zp_hX, zp_eV, zp_eI, zp_eL, zp_eR, zp_eX, zp_eXl, zp_iV, zp_iI, zp_iL, zp_iR, ↓zp_sm, ↓zp_nls, ↓zp_nln, zp_bo0, zp_bo1, zp_okE, zp_ok2E, zp_rfE, ↓reduceIte, if_true, if_false, zp_leT, zp_leF, zp_ltT, zp_ltF, zp_eqT, zp_eqF, zp_leTl, zp_leFl, zp_ltTl, zp_ltFl, zp_leTr, zp_leFr, zp_ltTr, zp_ltFr, zp_eqTr, zp_eqFr, zp_eqTl, zp_eqFl, zp_eqFll, eq_self, zp_addl, zp_addr, zp_mull, zp_mulr, zp_subr, zp_subl, nI_add, pk_mul, Nat.reduceEqDiff, Nat.reduceLT, Nat.reduceLeDiff, Nat.reduceAdd, Nat.reduceMul, Nat.reduceSub, reduceCtorEq, Int32.reduceLT, Int32.reduceLE, not_true_eq_false, not_false_eq_true, and_true, true_and, and_false, false_and, or_true, true_or, or_false, false_or, zp_sI1, zp_w1, zp_sL1, zp_sR1, s2, s3, s4, f1, f2, f4, zp_pV, if_neg c1, if_pos k4, if_neg z, if_neg c2]
          refine fin _ _ _ ?_ ?_ ?_ <;> simp only [zf_heat, zf_clog, zf_fell, zf_warm, if_neg c1, if_pos k4, if_neg z, if_neg c2, ↓reduceIte]
    · by_cases k2 : E.2.1 = 2
      · by_cases z : s.2.1 = 0
        · simp (disch := omega) only [ze_X2_settle_0, ze_X2_settle_48, ze_X2_settle_63, ze_X2_settle_68, ze_X2_settle_93, ze_X2_settle_136, ze_X2_warmth_0, s0, s1, zc_look _ hA hC hc hh, hh0, ↓zp_dn, ↓zp_hV, ↓zp_hI, ↓zp_hL, ↓zp_hR, ↓zp_hX, zp_eV, zp_eI, zp_eL, zp_eR, zp_eX, zp_eXl, zp_iV, zp_iI, zp_iL, zp_iR, ↓zp_sm, ↓zp_nls, ↓zp_nln, zp_bo0, zp_bo1, zp_okE, zp_ok2E, zp_rfE, ↓reduceIte, if_true, if_false, zp_leT, zp_leF, zp_ltT, zp_ltF, zp_eqT, zp_eqF, zp_leTl, zp_leFl, zp_ltTl, zp_ltFl, zp_leTr, zp_leFr, zp_ltTr, zp_ltFr, zp_eqTr, zp_eqFr, zp_eqTl, zp_eqFl, zp_eqFll, eq_self, zp_addl, zp_addr, zp_mull, zp_mulr, zp_subr, zp_subl, nI_add, pk_mul, Nat.reduceEqDiff, Nat.reduceLT, Nat.reduceLeDiff, Nat.reduceAdd, Nat.reduceMul, Nat.reduceSub, reduceCtorEq, Int32.reduceLT, Int32.reduceLE, not_true_eq_false, not_false_eq_true, and_true, true_and, and_false, false_and, or_true, true_or, or_false, false_or, zp_sI1, zp_w1, zp_sL1, zp_sR1, s2, s3, s4, f1, f2, f4, zp_pV, if_neg c1, if_neg k4, if_pos k2, if_pos z]
          refine fin _ _ _ ?_ ?_ ?_ <;> simp only [zf_heat, zf_clog, zf_fell, zf_warm, if_neg c1, if_neg k4, if_pos k2, if_pos z, ↓reduceIte]
        · by_cases c2 : zf_at E.1 s.1 s.2.1 = 2
          · simp (disch := omega) only [ze_X2_settle_0, ze_X2_settle_48, ze_X2_settle_63, ze_X2_settle_68, ze_X2_settle_93, ze_X2_settle_136, ze_X2_warmth_0, s0, s1, zc_look _ hA hC hc hh, hh0, ↓zp_dn, ↓zp_hV, ↓zp_hI, ↓zp_hL, ↓zp_hR, ↓zp_hX, zp_eV, zp_eI, zp_eL, zp_eR, zp_eX, zp_eXl, zp_iV, zp_iI, zp_iL, zp_iR, ↓zp_sm, ↓zp_nls, ↓zp_nln, zp_bo0, zp_bo1, zp_okE, zp_ok2E, zp_rfE, ↓reduceIte, if_true, if_false, zp_leT, zp_leF, zp_ltT, zp_ltF, zp_eqT, zp_eqF, zp_leTl, zp_leFl, zp_ltTl, zp_ltFl, zp_leTr, zp_leFr, zp_ltTr, zp_ltFr, zp_eqTr, zp_eqFr, zp_eqTl, zp_eqFl, zp_eqFll, eq_self, zp_addl, zp_addr, zp_mull, zp_mulr, zp_subr, zp_subl, nI_add, pk_mul, Nat.reduceEqDiff, Nat.reduceLT, Nat.reduceLeDiff, Nat.reduceAdd, Nat.reduceMul, Nat.reduceSub, reduceCtorEq, Int32.reduceLT, Int32.reduceLE, not_true_eq_false, not_false_eq_true, and_true, true_and, and_false, false_and, or_true, true_or, or_false, false_or, zp_sI1, zp_w1, zp_sL1, zp_sR1, s2, s3, s4, f1, f2, f4, zp_pV, if_neg c1, if_neg k4, if_pos k2, if_neg z, if_pos c2]
            refine fin _ _ _ ?_ ?_ ?_ <;> simp only [zf_heat, zf_clog, zf_fell, zf_warm, if_neg c1, if_neg k4, if_pos k2, if_neg z, if_pos c2, ↓reduceIte]
          · simp (disch := omega) only [ze_X2_settle_0, ze_X2_settle_48, ze_X2_settle_63, ze_X2_settle_68, ze_X2_settle_93, ze_X2_settle_136, ze_X2_warmth_0, s0, s1, zc_look _ hA hC hc hh, hh0, ↓zp_dn, ↓zp_hV, ↓zp_hI, ↓zp_hL, ↓zp_hR, ↓zp_hX, zp_eV, zp_eI, zp_eL, zp_eR, zp_eX, zp_eXl, zp_iV, zp_iI, zp_iL, zp_iR, ↓zp_sm, ↓zp_nls, ↓zp_nln, zp_bo0, zp_bo1, zp_okE, zp_ok2E, zp_rfE, ↓reduceIte, if_true, if_false, zp_leT, zp_leF, zp_ltT, zp_ltF, zp_eqT, zp_eqF, zp_leTl, zp_leFl, zp_ltTl, zp_ltFl, zp_leTr, zp_leFr, zp_ltTr, zp_ltFr, zp_eqTr, zp_eqFr, zp_eqTl, zp_eqFl, zp_eqFll, eq_self, zp_addl, zp_addr, zp_mull, zp_mulr, zp_subr, zp_subl, nI_add, pk_mul, Nat.reduceEqDiff, Nat.reduceLT, Nat.reduceLeDiff, Nat.reduceAdd, Nat.reduceMul, Nat.reduceSub, reduceCtorEq, Int32.reduceLT, Int32.reduceLE, not_true_eq_false, not_false_eq_true, and_true, true_and, and_false, false_and, or_true, true_or, or_false, false_or, zp_sI1, zp_w1, zp_sL1, zp_sR1, s2, s3, s4, f1, f2, f4, zp_pV, if_neg c1, if_neg k4, if_pos k2, if_neg z, if_neg c2]
            refine fin _ _ _ ?_ ?_ ?_ <;> simp only [zf_heat, zf_clog, zf_fell, zf_warm, if_neg c1, if_neg k4, if_pos k2, if_neg z, if_neg c2, ↓reduceIte]
      · by_cases z : s.2.1 = 0
        · simp (disch := omega) only [ze_X2_settle_0, ze_X2_settle_48, ze_X2_settle_63, ze_X2_settle_68, ze_X2_settle_93, ze_X2_settle_136, ze_X2_warmth_0, s0, s1, zc_look _ hA hC hc hh, hh0, ↓zp_dn, ↓zp_hV, ↓zp_hI, ↓zp_hL, ↓zp_hR, ↓zp_hX, zp_eV, zp_eI, zp_eL, zp_eR, zp_eX, zp_eXl, zp_iV, zp_iI, zp_iL, zp_iR, ↓zp_sm, ↓zp_nls, ↓zp_nln, zp_bo0, zp_bo1, zp_okE, zp_ok2E, zp_rfE, ↓reduceIte, if_true, if_false, zp_leT, zp_leF, zp_ltT, zp_ltF, zp_eqT, zp_eqF, zp_leTl, zp_leFl, zp_ltTl, zp_ltFl, zp_leTr, zp_leFr, zp_ltTr, zp_ltFr, zp_eqTr, zp_eqFr, zp_eqTl, zp_eqFl, zp_eqFll, eq_self, zp_addl, zp_addr, zp_mull, zp_mulr, zp_subr, zp_subl, nI_add, pk_mul, Nat.reduceEqDiff, Nat.reduceLT, Nat.reduceLeDiff, Nat.reduceAdd, Nat.reduceMul, Nat.reduceSub, reduceCtorEq, Int32.reduceLT, Int32.reduceLE, not_true_eq_false, not_false_eq_true, and_true, true_and, and_false, false_and, or_true, true_or, or_false, false_or, zp_sI1, zp_w1, zp_sL1, zp_sR1, s2, s3, s4, f1, f2, f4, zp_pV, if_neg c1, if_neg k4, if_neg k2, if_pos z]
          refine fin _ _ _ ?_ ?_ ?_ <;> simp only [zf_heat, zf_clog, zf_fell, zf_warm, if_neg c1, if_neg k4, if_neg k2, if_pos z, ↓reduceIte]
        · by_cases c2 : zf_at E.1 s.1 s.2.1 = 2
          · simp (disch := omega) only [ze_X2_settle_0, ze_X2_settle_48, ze_X2_settle_63, ze_X2_settle_68, ze_X2_settle_93, ze_X2_settle_136, ze_X2_warmth_0, s0, s1, zc_look _ hA hC hc hh, hh0, ↓zp_dn, ↓zp_hV, ↓zp_hI, ↓zp_hL, ↓zp_hR, ↓zp_hX, zp_eV, zp_eI, zp_eL, zp_eR, zp_eX, zp_eXl, zp_iV, zp_iI, zp_iL, zp_iR, ↓zp_sm, ↓zp_nls, ↓zp_nln, zp_bo0, zp_bo1, zp_okE, zp_ok2E, zp_rfE, ↓reduceIte, if_true, if_false, zp_leT, zp_leF, zp_ltT, zp_ltF, zp_eqT, zp_eqF, zp_leTl, zp_leFl, zp_ltTl, zp_ltFl, zp_leTr, zp_leFr, zp_ltTr, zp_ltFr, zp_eqTr, zp_eqFr, zp_eqTl, zp_eqFl, zp_eqFll, eq_self, zp_addl, zp_addr, zp_mull, zp_mulr, zp_subr, zp_subl, nI_add, pk_mul, Nat.reduceEqDiff, Nat.reduceLT, Nat.reduceLeDiff, Nat.reduceAdd, Nat.reduceMul, Nat.reduceSub, reduceCtorEq, Int32.reduceLT, Int32.reduceLE, not_true_eq_false, not_false_eq_true, and_true, true_and, and_false, false_and, or_true, true_or, or_false, false_or, zp_sI1, zp_w1, zp_sL1, zp_sR1, s2, s3, s4, f1, f2, f4, zp_pV, if_neg c1, if_neg k4, if_neg k2, if_neg z, if_pos c2]
            refine fin _ _ _ ?_ ?_ ?_ <;> simp only [zf_heat, zf_clog, zf_fell, zf_warm, if_neg c1, if_neg k4, if_neg k2, if_neg z, if_pos c2, ↓reduceIte]
          · simp (disch := omega) only [ze_X2_settle_0, ze_X2_settle_48, ze_X2_settle_63, ze_X2_settle_68, ze_X2_settle_93, ze_X2_settle_136, ze_X2_warmth_0, s0, s1, zc_look _ hA hC hc hh, hh0, ↓zp_dn, ↓zp_hV, ↓zp_hI, ↓zp_hL, ↓zp_hR, ↓zp_hX, zp_eV, zp_eI, zp_eL, zp_eR, zp_eX, zp_eXl, zp_iV, zp_iI, zp_iL, zp_iR, ↓zp_sm, ↓zp_nls, ↓zp_nln, zp_bo0, zp_bo1, zp_okE, zp_ok2E, zp_rfE, ↓reduceIte, if_true, if_false, zp_leT, zp_leF, zp_ltT, zp_ltF, zp_eqT, zp_eqF, zp_leTl, zp_leFl, zp_ltTl, zp_ltFl, zp_leTr, zp_leFr, zp_ltTr, zp_ltFr, zp_eqTr, zp_eqFr, zp_eqTl, zp_eqFl, zp_eqFll, eq_self, zp_addl, zp_addr, zp_mull, zp_mulr, zp_subr, zp_subl, nI_add, pk_mul, Nat.reduceEqDiff, Nat.reduceLT, Nat.reduceLeDiff, Nat.reduceAdd, Nat.reduceMul, Nat.reduceSub, reduceCtorEq, Int32.reduceLT, Int32.reduceLE, not_true_eq_false, not_false_eq_true, and_true, true_and, and_false, false_and, or_true, true_or, or_false, false_or, zp_sI1, zp_w1, zp_sL1, zp_sR1, s2, s3, s4, f1, f2, f4, zp_pV, if_neg c1, if_neg k4, if_neg k2, if_neg z, if_neg c2]
            refine fin _ _ _ ?_ ?_ ?_ <;> simp only [zf_heat, zf_clog, zf_fell, zf_warm, if_neg c1, if_neg k4, if_neg k2, if_neg z, if_neg c2, ↓reduceIte]
theorem zc_fly (d : Nat) {M : zi_M} {E : zf_E} (hA : zf_okE E.1) (hE : zf_cE M E) {k1 k3 : Nat} {s : zf_S} (hs : zf_is (M.1 7 k1) s) (hc : s.1 < E.1.1) (hh : s.2.1 < E.1.2.1) {b : Nat} (hb : b < 3) : zi_run (d + 2) zm_X2_fly 0 [some (.inr (.inr (2, some 0))), some (.inr (.inr (7, some k1))), some (.inl (nI b)), some (.inr (.inr (7, some k3)))] [] M = if zf_can E.1 s b then some (some (.inl (zf_fell E (zf_mv E s b))), zp_sp M k3 (zf_st E (zf_mv E s b))) else some (some (.inl (-1)), M) := by
  rw [ze_X2_fly_0]
  by_cases h : zf_can E.1 s b
  · have hm1 : (zf_mv E s b).1 < E.1.1 := by
      have := hA.1; simp only [zf_mv, zf_col]; omega
    have hm2 : (zf_mv E s b).2.1 < E.1.2.1 := h.2.2.2.1
    have hE2 : zf_cE (zp_sp M k3 (zf_mv E s b)) E := by
      obtain ⟨⟨e1, e2, e3⟩, f1, f2, f3, f4⟩ := hE
      exact ⟨⟨by simp [zp_sp1, e1], by simp [zp_sp1, e2], fun h c h1 h2 => by simp [zp_sp1]; exact e3 h c h1 h2⟩, by simp [zp_sp1, f1], by simp [zp_sp1, f2], by simp [zp_sp1, f3], by simp [zp_sp1, f4]⟩
    simp (disch := omega) only [↓zp_dn, ↓zp_hV, ↓zp_hI, ↓zp_hL, ↓zp_hR, ↓zp_hX, zp_eV, zp_eI, zp_eL, zp_eR, zp_eX, zp_eXl, zp_iV, zp_iI, zp_iL, zp_iR, ↓zp_sm, ↓zp_nls, ↓zp_nln, zp_bo0, zp_bo1, zp_okE, zp_ok2E, zp_rfE, ↓reduceIte, if_true, if_false, zp_leT, zp_leF, zp_ltT, zp_ltF, zp_eqT, zp_eqF, zp_leTl, zp_leFl, zp_ltTl, zp_ltFl, zp_leTr, zp_leFr, zp_ltTr, zp_ltFr, zp_eqTr, zp_eqFr, zp_eqTl, zp_eqFl, zp_eqFll, eq_self, zp_addl, zp_addr, zp_mull, zp_mulr, zp_subr, zp_subl, nI_add, pk_mul, zc_move _ hA hE hs hc hh hb, if_pos h, zc_settle _ hA hE2 (zp_sp_is M k3 (zf_mv E s b)) hm1 hm2, zp_sp_sp]
    simp [zp_sp1, zf_wr, zf_st]
  · simp (disch := omega) only [↓zp_dn, ↓zp_hV, ↓zp_hI, ↓zp_hL, ↓zp_hR, ↓zp_hX, zp_eV, zp_eI, zp_eL, zp_eR, zp_eX, zp_eXl, zp_iV, zp_iI, zp_iL, zp_iR, ↓zp_sm, ↓zp_nls, ↓zp_nln, zp_bo0, zp_bo1, zp_okE, zp_ok2E, zp_rfE, ↓reduceIte, if_true, if_false, zp_leT, zp_leF, zp_ltT, zp_ltF, zp_eqT, zp_eqF, zp_leTl, zp_leFl, zp_ltTl, zp_ltFl, zp_leTr, zp_leFr, zp_ltTr, zp_ltFr, zp_eqTr, zp_eqFr, zp_eqTl, zp_eqFl, zp_eqFll, eq_self, zp_addl, zp_addr, zp_mull, zp_mulr, zp_subr, zp_subl, nI_add, pk_mul, zc_move _ hA hE hs hc hh hb, if_neg h]
