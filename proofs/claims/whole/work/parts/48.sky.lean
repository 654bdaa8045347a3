/-! THE PURE PART: flyers, what both sides read of them -/
theorem zr_settles (d : Nat) {M : zi_M} {E : zf_E} (hA : zf_okE E.1) (hE : zf_rE M E) {s : zf_S} (hs : zf_rs M s) (hc : s.1 < E.1.1) (hh : s.2.1 < E.1.2.1) : zi_run (d + 1) zm_X10_settles 0 [some (.inr (.inr (10, some 0))), none, none] [] M = some (none, zp_rp M (zf_st E s)) := by
  obtain ⟨hC, f1, f2, f3, f4⟩ := hE
  have h18 : M.1 10 0 18 = nI s.1 := hs.1
  have h19 : M.1 10 0 19 = nI s.2.1 := hs.2.1
  have h20 : M.1 10 0 20 = s.2.2.1 := hs.2.2.1
  have h21 : M.1 10 0 21 = s.2.2.2.1 := hs.2.2.2.1
  have h22 : M.1 10 0 22 = s.2.2.2.2.1 := hs.2.2.2.2.1
  have h31 : s.2.1 < 2 ^ 31 := by have := hA.2.2.2; omega
  have hh0 : (nI s.2.1 = 0) = (s.2.1 = 0) := propext (nI_eq (b := 0) h31 (by decide))
  have fin : ∀ x y z : Int32, x = zf_heat E s → y = zf_clog E s → z = zf_fell E s → some ((none : Option zi_V), zi_sI (zi_sI (zi_sI M 10 0 21 x) 10 0 22 y) 10 0 23 z) = some (none, zp_rp M (zf_st E s)) := by
    intro x y z hx hy hz
    congr 2
    refine zp_rp_eq rfl (fun c k' j h => ?_) ?_ (fun j hj => ?_)
    · rw [zp_o1 h, zp_o1 h, zp_o1 h]
    · simp only [zf_rs, zf_is, zp_sI1, Nat.reduceEqDiff, Nat.reduceLT, Nat.reduceLeDiff, Nat.reduceAdd, Nat.reduceMul, Nat.reduceSub, reduceCtorEq, Int32.reduceLT, Int32.reduceLE, not_true_eq_false, not_false_eq_true, and_true, true_and, and_false, false_and, or_true, true_or, or_false, false_or, ↓reduceIte, h18, h19, h20]
      exact ⟨rfl, rfl, rfl, hx, hy, hz⟩
    · rw [zp_o2 (by omega), zp_o2 (by omega), zp_o2 (by omega)]
  by_cases c1 : zf_at E.1 s.1 s.2.1 = 1
  · have c2 : ¬ zf_at E.1 s.1 s.2.1 = 2 := by rw [c1]; decide
    by_cases k4 : E.2.1 = 4
    · have k2 : ¬ E.2.1 = 2 := by rw [k4]; decide
      by_cases z : s.2.1 = 0
      · simp (disch := omega) only [ze_X10_settles_0, ze_X10_settles_56, ze_X10_settles_82, ze_X10_settles_98, ze_X10_settles_117, ze_X10_settles_160, zr_more, h18, h19, h20, h21, h22, zr_airAt _ hA hC hc hh, hh0, ↓zp_dn, ↓zp_hV, ↓zp_hI, ↓zp_hL, ↓zp_hR, ↓zp_hX, zp_eV, zp_eI, zp_eL, zp_eR, zp_eX, zp_eXl, zp_iV, zp_iI, zp_iL, zp_iR, ↓zp_sm, ↓zp_nls, ↓zp_nln, zp_bo0, zp_bo1, zp_okE, zp_ok2E, zp_rfE, ↓reduceIte, if_true, if_false, zp_leT, zp_leF, zp_ltT, zp_ltF, zp_eqT, zp_eqF, zp_leTl, zp_leFl, zp_ltTl, zp_ltFl, zp_leTr, zp_leFr, zp_ltTr, zp_ltFr, zp_eqTr, zp_eqFr, zp_eqTl, zp_eqFl, zp_eqFll, eq_self, zp_addl, zp_addr, zp_mull, zp_mulr, zp_subr, zp_subl, nI_add, pk_mul, Nat.reduceEqDiff, Nat.reduceLT, Nat.reduceLeDiff, Nat.reduceAdd, Nat.reduceMul, Nat.reduceSub, reduceCtorEq, Int32.reduceLT, Int32.reduceLE, not_true_eq_false, not_false_eq_true, and_true, true_and, and_false, false_and, or_true, true_or, or_false, false_or, zp_sI1, zp_w1, zp_sL1, zp_sR1, f1, f2, f4, zp_pV, if_pos k4, if_pos c1, if_pos z, if_neg k2]
        refine fin _ _ _ ?_ ?_ ?_ <;> simp only [zf_heat, zf_clog, zf_fell, zf_warm, if_pos k4, if_pos c1, if_pos z, ↓reduceIte]
      · simp (disch := omega) only [ze_X10_settles_0, ze_X10_settles_56, ze_X10_settles_82, ze_X10_settles_98, ze_X10_settles_117, ze_X10_settles_160, zr_more, h18, h19, h20, h21, h22, zr_airAt _ hA hC hc hh, hh0, ↓zp_dn, ↓zp_hV, ↓zp_hI, ↓zp_hL, ↓zp_hR, ↓zp_hX, zp_eV, zp_eI, zp_eL, zp_eR, zp_eX, zp_eXl, zp_iV, zp_iI, zp_iL, zp_iR, ↓zp_sm, ↓zp_nls, ↓zp_nln, zp_bo0, zp_bo1, zp_okE, zp_ok2E, zp_rfE, ↓reduceIte, if_true, if_false, zp_leT, zp_leF, zp_ltT, zp_ltF, zp_eqT, zp_eqF, zp_leTl, zp_leFl, zp_ltTl, zp_ltFl, zp_leTr, zp_leFr, zp_ltTr, zp_ltFr, zp_eqTr, zp_eqFr, zp_eqTl, zp_eqFl, zp_eqFll, eq_self, zp_addl, zp_addr, zp_mull, zp_mulr, zp_subr, zp_subl, nI_add, pk_mul, Nat.reduceEqDiff, Nat.reduceLT, Nat.reduceLeDiff, Nat.reduceAdd, Nat.reduceMul, Nat.reduceSub, reduceCtorEq, Int32.reduceLT, Int32.reduceLE, not_true_eq_false, not_false_eq_true, and_true, true_and, and_false, false_and, or_true, true_or, or_false, false_or, zp_sI1, zp_w1, zp_sL1, zp_sR1, f1, f2, f4, zp_pV, if_pos k4, if_pos c1, if_neg z, if_neg c2, if_neg k2]
        refine fin _ _ _ ?_ ?_ ?_ <;> simp only [zf_heat, zf_clog, zf_fell, zf_warm, if_pos k4, if_pos c1, if_neg z, if_neg c2, ↓reduceIte]
    · by_cases k2 : E.2.1 = 2
      · by_cases z : s.2.1 = 0
        · simp (disch := omega) only [ze_X10_settles_0, ze_X10_settles_56, ze_X10_settles_82, ze_X10_settles_98, ze_X10_settles_117, ze_X10_settles_160, zr_more, h18, h19, h20, h21, h22, zr_airAt _ hA hC hc hh, hh0, ↓zp_dn, ↓zp_hV, ↓zp_hI, ↓zp_hL, ↓zp_hR, ↓zp_hX, zp_eV, zp_eI, zp_eL, zp_eR, zp_eX, zp_eXl, zp_iV, zp_iI, zp_iL, zp_iR, ↓zp_sm, ↓zp_nls, ↓zp_nln, zp_bo0, zp_bo1, zp_okE, zp_ok2E, zp_rfE, ↓reduceIte, if_true, if_false, zp_leT, zp_leF, zp_ltT, zp_ltF, zp_eqT, zp_eqF, zp_leTl, zp_leFl, zp_ltTl, zp_ltFl, zp_leTr, zp_leFr, zp_ltTr, zp_ltFr, zp_eqTr, zp_eqFr, zp_eqTl, zp_eqFl, zp_eqFll, eq_self, zp_addl, zp_addr, zp_mull, zp_mulr, zp_subr, zp_subl, nI_add, pk_mul, Nat.reduceEqDiff, Nat.reduceLT, Nat.reduceLeDiff, Nat.reduceAdd, Nat.reduceMul, Nat.reduceSub, reduceCtorEq, Int32.reduceLT, Int32.reduceLE, not_true_eq_false, not_false_eq_true, and_true, true_and, and_false, false_and, or_true, true_or, or_false, false_or, zp_sI1, zp_w1, zp_sL1, zp_sR1, f1, f2, f4, zp_pV, if_neg k4, if_pos k2, if_pos c1, if_pos z]
          refine fin _ _ _ ?_ ?_ ?_ <;> simp only [zf_heat, zf_clog, zf_fell, zf_warm, if_neg k4, if_pos k2, if_pos c1, if_pos z, ↓reduceIte]
        · simp (disch := omega) only [ze_X10_settles_0, ze_X10_settles_56, ze_X10_settles_82, ze_X10_settles_98, ze_X10_settles_117, ze_X10_settles_160, zr_more, h18, h19, h20, h21, h22, zr_airAt _ hA hC hc hh, hh0, ↓zp_dn, ↓zp_hV, ↓zp_hI, ↓zp_hL, ↓zp_hR, ↓zp_hX, zp_eV, zp_eI, zp_eL, zp_eR, zp_eX, zp_eXl, zp_iV, zp_iI, zp_iL, zp_iR, ↓zp_sm, ↓zp_nls, ↓zp_nln, zp_bo0, zp_bo1, zp_okE, zp_ok2E, zp_rfE, ↓reduceIte, if_true, if_false, zp_leT, zp_leF, zp_ltT, zp_ltF, zp_eqT, zp_eqF, zp_leTl, zp_leFl, zp_ltTl, zp_ltFl, zp_leTr, zp_leFr, zp_ltTr, zp_ltFr, zp_eqTr, zp_eqFr, zp_eqTl, zp_eqFl, zp_eqFll, eq_self, zp_addl, zp_addr, zp_mull, zp_mulr, zp_subr, zp_subl, nI_add, pk_mul, Nat.reduceEqDiff, Nat.reduceLT, Nat.reduceLeDiff, Nat.reduceAdd, Nat.reduceMul, Nat.reduceSub, reduceCtorEq, Int32.reduceLT, Int32.reduceLE, not_true_eq_false, not_false_eq_true, and_true, true_and, and_false, false_and, or_true, true_or, or_false, false_or, zp_sI1, zp_w1, zp_sL1, zp_sR1, f1, f2, f4, zp_pV, if_neg k4, if_pos k2, if_pos c1, if_neg z, if_neg c2]
          refine fin _ _ _ ?_ ?_ ?_ <;> simp only [zf_heat, zf_clog, zf_fell, zf_warm, if_neg k4, if_pos k2, if_pos c1, if_neg z, if_neg c2, ↓reduceIte]
      · by_cases z : s.2.1 = 0
        · simp (disch := omega) only [ze_X10_settles_0, ze_X10_settles_56, ze_X10_settles_82, ze_X10_settles_98, ze_X10_settles_117, ze_X10_settles_160, zr_more, h18, h19, h20, h21, h22, zr_airAt _ hA hC hc hh, hh0, ↓zp_dn, ↓zp_hV, ↓zp_hI, ↓zp_hL, ↓zp_hR, ↓zp_hX, zp_eV, zp_eI, zp_eL, zp_eR, zp_eX, zp_eXl, zp_iV, zp_iI, zp_iL, zp_iR, ↓zp_sm, ↓zp_nls, ↓zp_nln, zp_bo0, zp_bo1, zp_okE, zp_ok2E, zp_rfE, ↓reduceIte, if_true, if_false, zp_leT, zp_leF, zp_ltT, zp_ltF, zp_eqT, zp_eqF, zp_leTl, zp_leFl, zp_ltTl, zp_ltFl, zp_leTr, zp_leFr, zp_ltTr, zp_ltFr, zp_eqTr, zp_eqFr, zp_eqTl, zp_eqFl, zp_eqFll, eq_self, zp_addl, zp_addr, zp_mull, zp_mulr, zp_subr, zp_subl, nI_add, pk_mul, Nat.reduceEqDiff, Nat.reduceLT, Nat.reduceLeDiff, Nat.reduceAdd, Nat.reduceMul, Nat.reduceSub, reduceCtorEq, Int32.reduceLT, Int32.reduceLE, not_true_eq_false, not_false_eq_true, and_true, true_and, and_false, false_and, or_true, true_or, or_false, false_or, zp_sI1, zp_w1, zp_sL1, zp_sR1, f1, f2, f4, zp_pV, if_neg k4, if_neg k2, if_pos c1, if_pos z]
          refine fin _ _ _ ?_ ?_ ?_ <;> simp only [zf_heat, zf_clog, zf_fell, zf_warm, if_neg k4, if_neg k2, if_pos c1, if_pos z, ↓reduceIte]
        · simp (disch := omega) only [ze_X10_settles_0, ze_X10_settles_56, ze_X10_settles_82, ze_X10_settles_98, ze_X10_settles_117, ze_X10_settles_160, zr_more, h18, h19, h20, h21, h22, zr_airAt _ hA hC hc hh, hh0, ↓zp_dn, ↓zp_hV, ↓zp_hI, ↓zp_hL, ↓zp_hR, ↓zp_hX, zp_eV, zp_eI, zp_eL, zp_eR, zp_eX, zp_eXl, zp_iV, zp_iI, zp_iL, zp_iR, ↓zp_sm, ↓zp_nls, ↓zp_nln, zp_bo0, zp_bo1, zp_okE, zp_ok2E, zp_rfE, ↓reduceIte, if_true, if_false, zp_leT, zp_leF, zp_ltT, zp_ltF, zp_eqT, zp_eqF, zp_leTl, zp_leFl, zp_ltTl, zp_ltFl, zp_leTr, zp_leFr, zp_ltTr, zp_ltFr, zp_eqTr, zp_eqFr, zp_eqTl, zp_eqFl, zp_eqFll, eq_self, zp_addl, zp_addr, zp_mull, zp_mulr, zp_subr, zp_subl, nI_add, pk_mul, Nat.reduceEqDiff, Nat.reduceLT, Nat.reduceLeDiff, Nat.reduceAdd, Nat.reduceMul, Nat.reduceSub, reduceCtorEq, Int32.reduceLT, Int32.reduceLE, not_true_eq_false, not_false_eq_true, and_true, true_and, and_false, false_and, or_true, true_or, or_false, false_or, zp_sI1, zp_w1, zp_sL1, zp_sR1, f1, f2, f4, zp_pV, if_neg k4, if_neg k2, if_pos c1, if_neg z, if_neg c2]
          refine fin _ _ _ ?_ ?_ ?_ <;> simp only [zf_heat, zf_clog, zf_fell, zf_warm, if_neg k4, if_neg k2, if_pos c1, if_neg z, if_neg c2, ↓reduceIte]
  · by_cases k4 : E.2.1 = 4
    · have k2 : ¬ E.2.1 = 2 := by rw [k4]; decide
      by_cases z : s.2.1 = 0
      · simp (disch := omega) only [ze_X10_settles_0, ze_X10_settles_56, ze_X10_settles_82, ze_X10_settles_98, ze_X10_settles_117, ze_X10_settles_160, zr_more, h18, h19, h20, h21, h22, zr_airAt _ hA hC hc hh, hh0, ↓zp_dn, ↓zp_hV, ↓zp_hI, ↓zp_hL, ↓zp_hR, ↓zp_hX, zp_eV, zp_eI, zp_eL, zp_eR, zp_eX, zp_eXl, zp_iV, zp_iI, zp_iL, zp_iR, ↓zp_sm, ↓zp_nls, ↓zp_nln, zp_bo0, zp_bo1, zp_okE, zp_ok2E, zp_rfE, ↓reduceIte, if_true, if_false, zp_leT, zp_leF, zp_ltT, zp_ltF, zp_eqT, zp_eqF, zp_leTl, zp_leFl, zp_ltTl, zp_ltFl, zp_leTr, zp_leFr, zp_ltTr, zp_ltFr, zp_eqTr, zp_eqFr, zp_eqTl, zp_eqFl, zp_eqFll, eq_self, zp_addl, zp_addr, zp_mull, zp_mulr, zp_subr, zp_subl, nI_add, pk_mul, Nat.reduceEqDiff, Nat.reduceLT, Nat.reduceLeDiff, Nat.reduceAdd, Nat.reduceMul, Nat.reduceSub, reduceCtorEq, Int32.reduceLT, Int32.reduceLE, not_true_eq_false, not_false_eq_true, and_true, true_and, and_false, false_and, or_true, true_or, or_false, false_or, zp_sI1, zp_w1, zp_sL1, zp_sR1, f1, f2, f4, zp_pV, if_pos k4, if_neg c1, if_pos z, if_neg k2]
        refine fin _ _ _ ?_ ?_ ?_ <;> simp only [zf_heat, zf_clog, zf_fell, zf_warm, if_pos k4, if_neg c1, if_pos z, ↓reduceIte]
      · by_cases c2 : zf_at E.1 s.1 s.2.1 = 2
        · simp (disch := omega) only [ze_X10_settles_0, ze_X10_settles_56, ze_X10_settles_82, ze_X10_settles_98, ze_X10_settles_117, ze_X10_settles_160, zr_more, h18, h19, h20, h21, h22, zr_airAt _ hA hC hc hh, hh0, ↓zp_dn, ↓zp_hV, ↓zp_hI, ↓zp_hL, ↓zp_hR, ↓zp_hX, zp_eV, zp_eI, zp_eL, zp_eR, zp_eX, zp_eXl, zp_iV, zp_iI, zp_iL, zp_iR, ↓zp_sm, ↓zp_nls, ↓zp_nln, zp_bo0, zp_bo1, zp_okE, zp_ok2E, zp_rfE, ↓reduceIte, if_true, if_false, zp_leT, zp_leF, zp_ltT, zp_ltF, zp_eqT, zp_eqF, zp_leTl, zp_leFl, zp_ltTl, zp_ltFl, zp_leTr, zp_leFr, zp_ltTr, zp_ltFr, zp_eqTr, zp_eqFr, zp_eqTl, zp_eqFl, zp_eqFll, eq_self, zp_addl, zp_addr, zp_mull, zp_mulr, zp_subr, zp_subl, nI_add, pk_mul, Nat.reduceEqDiff, Nat.reduceLT, Nat.reduceLeDiff, Nat.reduceAdd, Nat.reduceMul, Nat.reduceSub, reduceCtorEq, Int32.reduceLT, Int32.reduceLE, not_true_eq_false, not_false_eq_true, and_true, true_and, and_false, false_and, or_true, true_or, or_false, false_or, zp_sI1, zp_w1, zp_sL1, zp_sR1, f1, f2, f4, zp_pV, if_pos k4, if_neg c1, if_neg z, if_pos c2, if_neg k2]
          refine fin _ _ _ ?_ ?_ ?_ <;> simp only [zf_heat, zf_clog, zf_fell, zf_warm, if_pos k4, if_neg c1, if_neg z, if_pos c2, ↓reduceIte]
        · simp (disch := omega) only [ze_X10_settles_0, ze_X10_settles_56, ze_X10_settles_82, ze_X10_settles_98, ze_X10_settles_117, ze_X10_settles_160, zr_more, h18, h19, h20, h21, h22, zr_airAt _ hA hC hc hh, hh0, ↓zp_dn, ↓zp_hV, ↓zp_hI, ↓zp_hL, ↓zp_hR, ↓zp_hX, zp_eV, zp_eI, zp_eL, zp_eR, zp_eX, zp_eXl, zp_iV, zp_iI, zp_iL, zp_iR, ↓zp_sm, ↓zp_nls, ↓zp_nln, zp_bo0, zp_bo1, zp_okE, zp_ok2E, zp_rfE, ↓reduceIte, if_true, if_false, zp_leT, zp_leF, zp_ltT, zp_ltF, zp_eqT, zp_eqF, zp_leTl, zp_leFl, zp_ltTl, zp_ltFl, zp_leTr, zp_leFr, zp_ltTr, zp_ltFr, zp_eqTr, zp_eqFr, zp_eqTl, zp_eqFl, zp_eqFll, eq_self, zp_addl, zp_addr, zp_mull, zp_mulr, zp_subr, zp_subl, nI_add, pk_mul, Nat.reduceEqDiff, Nat.reduceLT, Nat.reduceLeDiff, Nat.reduceAdd, Nat.reduceMul, Nat.reduceSub, reduceCtorEq, Int32.reduceLT, Int32.reduceLE, not_true_eq_false, not_false_eq_true, and_true, true_and, and_false, false_and, or_true, true_or, or_false, false_or, zp_sI1, zp_w1, zp_sL1, zp_sR1, f1, f2, f4, zp_pV, if_pos k4, if_neg c1, if_neg z, if_neg c2, if_neg k2]
          refine fin _ _ _ ?_ ?_ ?_ <;> simp only [zf_heat, zf_clog, zf_fell, zf_warm, if_pos k4, if_neg c1, if_neg z, if_neg c2, ↓reduceIte]
    · by_cases k2 : E.2.1 = 2
      · by_cases z : s.2.1 = 0
        · simp (disch := omega) only [ze_X10_settles_0, ze_X10_settles_56, ze_X10_settles_82, ze_X10_settles_98, ze_X10_settles_117, ze_X10_settles_160, zr_more, h18, h19, h20, h21, h22, zr_airAt _ hA hC hc hh, hh0, ↓zp_dn, ↓zp_hV, ↓zp_hI, ↓zp_hL, ↓zp_hR, ↓zp_hX, zp_eV, zp_eI, zp_eL, zp_eR, zp_eX, zp_eXl, zp_iV, zp_iI, zp_iL, zp_iR, ↓zp_sm, ↓zp_nls, ↓zp_nln, zp_bo0, zp_bo1, zp_okE, zp_ok2E, zp_rfE, ↓reduceIte, if_true, if_false, zp_leT, zp_leF, zp_ltT, zp_ltF, zp_eqT, zp_eqF, zp_leTl, zp_leFl, zp_ltTl, zp_ltFl, zp_leTr, zp_leFr, zp_ltTr, zp_ltFr, zp_eqTr, zp_eqFr, zp_eqTl, zp_eqFl, zp_eqFll, eq_self, zp_addl, zp_addr, zp_mull, zp_mulr, zp_subr, zp_subl, nI_add, pk_mul, Nat.reduceEqDiff, Nat.reduceLT, Nat.reduceLeDiff, Nat.reduceAdd, Nat.reduceMul, Nat.reduceSub, reduceCtorEq, Int32.reduceLT, Int32.reduceLE, not_true_eq_false, not_false_eq_true, and_true, true_and, and_false, false_and, or_true, true_or, or_false, false_or, zp_sI1, zp_w1, zp_sL1, zp_sR1, f1, f2, f4, zp_pV, if_neg k4, if_pos k2, if_neg c1, if_pos z]
          refine fin _ _ _ ?_ ?_ ?_ <;> simp only [zf_heat, zf_clog, zf_fell, zf_warm, if_neg k4, if_pos k2, if_neg c1, if_pos z, ↓reduceIte]
        · by_cases c2 : zf_at E.1 s.1 s.2.1 = 2
          · simp (disch := omega) only [ze_X10_settles_0, ze_X10_settles_56, ze_X10_settles_82, ze_X10_settles_98, ze_X10_settles_117, ze_X10_settles_160, zr_more, h18, h19, h20, h21, h22, zr_airAt _ hA hC hc hh, hh0, ↓zp_dn, ↓zp_hV, ↓zp_hI, ↓zp_hL, ↓zp_hR, ↓zp_hX, zp_eV, zp_eI, zp_eL, zp_eR, zp_eX, zp_eXl, zp_iV, zp_iI, zp_iL, zp_iR, ↓zp_sm, ↓zp_nls, ↓zp_nln, zp_bo0, zp_bo1, zp_okE, zp_ok2E, zp_rfE, ↓reduceIte, if_true, if_false, zp_leT, zp_leF, zp_ltT, zp_ltF, zp_eqT, zp_eqF, zp_leTl, zp_leFl, zp_ltTl, zp_ltFl, zp_leTr, zp_leFr, zp_ltTr, zp_ltFr, zp_eqTr, zp_eqFr, zp_eqTl, zp_eqFl, zp_eqFll, eq_self, zp_addl, zp_addr, zp_mull, zp_mulr, zp_subr, zp_subl, nI_add, pk_mul, Nat.reduceEqDiff, Nat.reduceLT, Nat.reduceLeDiff, Nat.reduceAdd, Nat.reduceMul, Nat.reduceSub, reduceCtorEq, Int32.reduceLT, Int32.reduceLE, not_true_eq_false, not_false_eq_true, and_true, true_and, and_false, false_and, or_true, true_or, or_false, false_or, zp_sI1, zp_w1, zp_sL1, zp_sR1, f1, f2, f4, zp_pV, if_neg k4, if_pos k2, if_neg c1, if_neg z, if_pos c2]
            refine fin _ _ _ ?_ ?_ ?_ <;> simp only [zf_heat, zf_clog, zf_fell, zf_warm, if_neg k4, if_pos k2, if_neg c1, if_neg z, if_pos c2, ↓reduceIte]
          · simp (disch := omega) only [ze_X10_settles_0, ze_X10_settles_56, ze_X10_settles_82, ze_X10_settles_98, ze_X10_settles_117, ze_X10_settles_160, zr_more, h18, h19, h20, h21, h22, zr_airAt _ hA hC hc hh, hh0, ↓zp_dn, ↓zp_hV, ↓zp_hI, ↓zp_hL, ↓zp_hR, ↓zp_hX, zp_eV, zp_eI, zp_eL, zp_eR, zp_eX, zp_eXl, zp_iV, zp_iI, zp_iL, zp_iR, ↓zp_sm, ↓zp_nls, ↓zp_nln, zp_bo0, zp_bo1, zp_okE, zp_ok2E, zp_rfE, ↓reduceIte, if_true, if_false, zp_leT, zp_leF, zp_ltT, zp_ltF, zp_eqT, zp_eqF, zp_leTl, zp_leFl, zp_ltTl, zp_ltFl, zp_leTr, zp_leFr, zp_ltTr, zp_ltFr, zp_eqTr, zp_eqFr, zp_eqTl, zp_eqFl, zp_eqFll, eq_self, zp_addl, zp_addr, zp_mull, zp_mulr, zp_subr, zp_subl, nI_add, pk_mul, Nat.reduceEqDiff, Nat.reduceLT, Nat.reduceLeDiff, Nat.reduceAdd, Nat.reduceMul, Nat.reduceSub, reduceCtorEq, Int32.reduceLT, Int32.reduceLE, not_true_eq_false, not_false_eq_true, and_true, true_and, and_false, false_and, or_true, true_or, or_false, false_or, zp_sI1, zp_w1, zp_sL1, zp_sR1, f1, f2, f4, zp_pV, if_neg k4, if_pos k2, if_neg c1, if_neg z, if_neg c2]
            refine fin _ _ _ ?_ ?_ ?_ <;> simp only [zf_heat, zf_clog, zf_fell, zf_warm, if_neg k4, if_pos k2, if_neg c1, if_neg z, if_neg c2, ↓reduceIte]
      · by_cases z : s.2.1 = 0
        · simp (disch := omega) only [ze_X10_settles_0, ze_X10_settles_56, ze_X10_settles_82, ze_X10_settles_98, ze_X10_settles_117, ze_X10_settles_160, zr_more, h18, h19, h20, h21, h22, zr_airAt _ hA hC hc hh, hh0, ↓zp_dn, ↓zp_hV, ↓zp_hI, ↓zp_hL, ↓zp_hR, ↓zp_hX, zp_eV, zp_eI, zp_eL, zp_eR, zp_eX, zp_eXl, zp_iV, zp_iI, zp_iL, zp_iR, ↓zp_sm, ↓zp_nls, ↓zp_nln, zp_bo0, zp_bo1, zp_okE, zp_ok2E, zp_rfE, ↓reduceIte, if_true, if_false, zp_leT, zp_leF, zp_ltT, zp_ltF, zp_eqT, zp_eqF, zp_leTl, zp_leFl, zp_ltTl, zp_ltFl, zp_leTr, zp_leFr, zp_ltTr, zp_ltFr, zp_eqTr, zp_eqFr, zp_eqTl, zp_eqFl, zp_eqFll, eq_self, zp_addl, zp_addr, zp_mull, zp_mulr, zp_subr, zp_subl, nI_add, pk_mul, Nat.reduceEqDiff, Nat.reduceLT, Nat.reduceLeDiff, Nat.reduceAdd, Nat.reduceMul, Nat.reduceSub, reduceCtorEq, Int32.reduceLT, Int32.reduceLE, not_true_eq_false, not_false_eq_true, and_true, true_and, and_false, false_and, or_true, true_or, or_false, false_or, zp_sI1, zp_w1, zp_sL1, zp_sR1, f1, f2, f4, zp_pV, if_neg k4, if_neg k2, if_neg c1, if_pos z]
          refine fin _ _ _ ?_ ?_ ?_ <;> simp only [zf_heat, zf_clog, zf_fell, zf_warm, if_neg k4, if_neg k2, if_neg c1, if_pos z, ↓reduceIte]
        · by_cases c2 : zf_at E.1 s.1 s.2.1 = 2
          · simp (disch := omega) only [ze_X10_settles_0, ze_X10_settles_56, ze_X10_settles_82, ze_X10_settles_98, ze_X10_settles_117, ze_X10_settles_160, zr_more, h18, h19, h20, h21, h22, zr_airAt _ hA hC hc hh, hh0, ↓zp_dn, ↓zp_hV, ↓zp_hI, ↓zp_hL, ↓zp_hR, ↓zp_hX, zp_eV, zp_eI, zp_eL, zp_eR, zp_eX, zp_eXl, zp_iV, zp_iI, zp_iL, zp_iR, ↓zp_sm, ↓zp_nls, ↓zp_nln, zp_bo0, zp_bo1, zp_okE, zp_ok2E, zp_rfE, ↓reduceIte, if_true, if_false, zp_leT, zp_leF, zp_ltT, zp_ltF, zp_eqT, zp_eqF, zp_leTl, zp_leFl, zp_ltTl, zp_ltFl, zp_leTr, zp_leFr, zp_ltTr, zp_ltFr, zp_eqTr, zp_eqFr, zp_eqTl, zp_eqFl, zp_eqFll, eq_self, zp_addl, zp_addr, zp_mull, zp_mulr, zp_subr, zp_subl, nI_add, pk_mul, Nat.reduceEqDiff, Nat.reduceLT, Nat.reduceLeDiff, Nat.reduceAdd, Nat.reduceMul, Nat.reduceSub, reduceCtorEq, Int32.reduceLT, Int32.reduceLE, not_true_eq_false, not_false_eq_true, and_true, true_and, and_false, false_and, or_true, true_or, or_false, false_or, zp_sI1, zp_w1, zp_sL1, zp_sR1, f1, f2, f4, zp_pV, if_neg k4, if_neg k2, if_neg c1, if_neg z, if_pos c2]
            refine fin _ _ _ ?_ ?_ ?_ <;> simp only [zf_heat, zf_clog, zf_fell, zf_warm, if_neg k4, if_neg k2, if_neg c1, if_neg z, if_pos c2, ↓reduceIte]
          · simp (disch := omega) only [ze_X10_settles_0, ze_X10_settles_56, ze_X10_settles_82, ze_X10_settles_98, ze_X10_settles_117, ze_X10_settles_160, zr_more, h18, h19, h20, h21, h22, zr_airAt _ hA hC hc hh, hh0, ↓zp_dn, ↓zp_hV, ↓zp_hI, ↓zp_hL, ↓zp_hR, ↓zp_hX, zp_eV, zp_eI, zp_eL, zp_eR, zp_eX, zp_eXl, zp_iV, zp_iI, zp_iL, zp_iR, ↓zp_sm, ↓zp_nls, ↓zp_nln, zp_bo0, zp_bo1, zp_okE, zp_ok2E, zp_rfE, ↓reduceIte, if_true, if_false, zp_leT, zp_leF, zp_ltT, zp_ltF, zp_eqT, zp_eqF, zp_leTl, zp_leFl, zp_ltTl, zp_ltFl, zp_leTr, zp_leFr, zp_ltTr, zp_ltFr, zp_eqTr, zp_eqFr, zp_eqTl, zp_eqFl, zp_eqFll, eq_self, zp_addl, zp_addr, zp_mull, zp_mulr, zp_subr, zp_subl, nI_add, pk_mul, Nat.reduceEqDiff, Nat.reduceLT, Nat.reduceLeDiff, Nat.reduceAdd, Nat.reduceMul, Nat.reduceSub, reduceCtorEq, Int32.reduceLT, Int32.reduceLE, not_true_eq_false, not_false_eq_true, and_true, true_and, and_false, false_and, or_true, true_or, or_false, false_or, zp_sI1, zp_w1, zp_sL1, zp_sR1, f1, f2, f4, zp_pV, if_neg k4, if_neg k2, if_neg c1, if_neg z, if_neg c2]
            refine fin _ _ _ ?_ ?_ ?_ <;> simp only [zf_heat, zf_clog, zf_fell, zf_warm, if_neg k4, if_neg k2, if_neg c1, if_neg z, if_neg c2, ↓reduceIte]
theorem zf_rE_rp {M : zi_M} {E : zf_E} (h : zf_rE M E) (s : zf_S) : zf_rE (zp_rp M s) E := by
  obtain ⟨hC, f1, f2, f3, f4⟩ := h
  exact ⟨hC, by simp [zp_rp1, zf_wr, f1], by simp [zp_rp1, zf_wr, f2], by simp [zp_rp1, zf_wr, f3], by simp [zp_rp1, zf_wr, f4]⟩
/-- what a BEAT makes of one -/
abbrev zf_bt (E : zf_E) (s : zf_S) (b : Nat) : zf_S := zf_st E (zf_mv E s b)
theorem zf_bt1 {E : zf_E} (hA : zf_okE E.1) {s : zf_S} {b : Nat} (h : zf_can E.1 s b) : (zf_bt E s b).1 < E.1.1 ∧ (zf_bt E s b).2.1 < E.1.2.1 := ⟨zf_col_lt hA s, h.2.2.2.1⟩
theorem zr_beats (d : Nat) {M : zi_M} {E : zf_E} (hA : zf_okE E.1) (hE : zf_rE M E) {s : zf_S} (hs : zf_rs M s) (hc : s.1 < E.1.1) (hh : s.2.1 < E.1.2.1) {b : Nat} (hb : b < 3) (h : zf_can E.1 s b) : zi_run (d + 3) zm_X10_beats 0 [some (.inr (.inr (10, some 0))), some (.inl (nI b))] [] M = some (none, zp_rp M (zf_bt E s b)) := by
  rw [ze_X10_beats_0]
  simp only [↓zp_dn, ↓zp_hV, ↓zp_hI, ↓zp_hL, ↓zp_hR, ↓zp_hX, zp_eV, zp_eI, zp_eL, zp_eR, zp_eX, zp_eXl, zp_iV, zp_iI, zp_iL, zp_iR, ↓zp_sm, ↓zp_nls, ↓zp_nln, zp_bo0, zp_bo1, zp_okE, zp_ok2E, zp_rfE, ↓reduceIte, if_true, if_false, zr_moves _ hA hE hs hc hh hb h.2.2.1, zr_settles _ hA (zf_rE_rp hE (zf_mv E s b)) (zp_rp_is M (zf_mv E s b)) (zf_col_lt hA s) h.2.2.2.1, zp_rp_rp]
/-- the reference's fields of a flyer -/
def zp_rt (M : zi_M) (E : zf_E) (s : zf_S) : zi_M := zp_w M 10 0 (fun j => if j = 17 then E.2.1 else if j = 24 then E.2.2.1 else if j = 25 then E.2.2.2.1 else if j = 26 then E.2.2.2.2 else zf_wr 18 s (M.1 10 0) j)
theorem zp_rt1 (M : zi_M) (E : zf_E) (s : zf_S) (c k j : Nat) : (zp_rt M E s).1 c k j = if c = 10 then (if k = 0 then (if j = 17 then E.2.1 else if j = 24 then E.2.2.1 else if j = 25 then E.2.2.2.1 else if j = 26 then E.2.2.2.2 else zf_wr 18 s (M.1 10 0) j) else M.1 c k j) else M.1 c k j := (rfl)
theorem zp_rt2 (M : zi_M) (E : zf_E) (s : zf_S) : (zp_rt M E s).2 = M.2 := (rfl)
theorem zp_rt_is (M : zi_M) (E : zf_E) (s : zf_S) : zf_rs (zp_rt M E s) s := by simp [zf_rs, zf_is, zp_rt1, zf_wr]
theorem zp_rt_E {M : zi_M} {E : zf_E} (h : zf_rA (M.1 28 0) E.1) (s : zf_S) : zf_rE (zp_rt M E s) E := ⟨h, by simp [zp_rt1], by simp [zp_rt1], by simp [zp_rt1], by simp [zp_rt1]⟩
theorem zp_rt_rp (M : zi_M) (E : zf_E) (s t : zf_S) : zp_rp (zp_rt M E s) t = zp_rt M E t := by
  symm
  refine zp_rp_eq (by rw [zp_rt2, zp_rt2]) (fun c k' j h => ?_) (zp_rt_is M E t) (fun j hj => ?_)
  · have h' : ∀ a b : Int32, (if c = 10 then (if k' = 0 then a else b) else b) = b := fun a b => by
      by_cases h1 : c = 10
      · by_cases h2 : k' = 0
        · exact absurd ⟨h1, h2⟩ h
        · simp [h2]
      · simp [h1]
    rw [zp_rt1, h', zp_rt1, h']
  · have e : ∀ (s : zf_S) (f : Nat → Int32), zf_wr 18 s f j = f j := fun s f => by
      simp only [zf_wr]; rw [if_neg (by omega), if_neg (by omega), if_neg (by omega), if_neg (by omega), if_neg (by omega), if_neg (by omega)]
    simp only [zp_rt1, ↓reduceIte, e]
theorem zp_rt_rt (M : zi_M) (E F : zf_E) (s t : zf_S) : zp_rt (zp_rt M E s) F t = zp_rt M F t := by
  unfold zp_rt
  rw [zp_ww]
  refine zp_wU _ _ _ (fun j => ?_)
  by_cases h1 : j = 17
  · simp [h1]
  by_cases h2 : j = 24
  · simp [h2]
  by_cases h3 : j = 25
  · simp [h3]
  by_cases h4 : j = 26
  · simp [h4]
  rcases zp_six 18 j with e | e | e | e | e | e | e
  all_goals simp [zf_wr, zp_w1, e, h1, h2, h3, h4]
/-- the flyer on board -/
def zp_bd (M : zi_M) (E : zf_E) : zi_M := zi_sI (zi_sI (zi_sI (zi_sI M 2 0 1 E.2.1) 2 0 2 E.2.2.1) 2 0 3 E.2.2.2.1) 2 0 4 E.2.2.2.2
theorem zp_bd1 (M : zi_M) (E : zf_E) {c : Nat} (h : c ≠ 2) (k j : Nat) : (zp_bd M E).1 c k j = M.1 c k j := by
  simp [zp_bd, zp_sI1, h]
theorem zp_bd2 (M : zi_M) (E : zf_E) : (zp_bd M E).2 = M.2 := (rfl)
theorem zp_bd_E {M : zi_M} {E : zf_E} (h : zf_cA M 0 E.1) : zf_cE (zp_bd M E) E := by
  refine ⟨?_, by simp [zp_bd, zp_sI1], by simp [zp_bd, zp_sI1], by simp [zp_bd, zp_sI1], by simp [zp_bd, zp_sI1]⟩
  obtain ⟨a, b, c⟩ := h
  exact ⟨by rw [zp_bd1 _ _ (by decide), a], by rw [zp_bd1 _ _ (by decide), b], fun x y hx hy => by rw [zp_bd1 _ _ (by decide), c x y hx hy]⟩
/-- flyer i of a sky -/
abbrev zf_en (A : zf_A) (K : zf_K) (i : Nat) : zf_E := (A, (K.2.2.1 i).1, (K.2.2.1 i).2.1, (K.2.2.1 i).2.2.1, K.1)
abbrev zf_sp (K : zf_K) (i : Nat) : zf_S := (K.2.2.1 i).2.2.2
theorem zq_fl {M : zi_M} {A : zf_A} {K : zf_K} (h : zq_sky M A K) {i : Nat} (hi : i < K.2.1) : zf_okE A ∧ zf_okS A (zf_sp K i) ∧ zf_is (M.1 7 i) (zf_sp K i) := by
  obtain ⟨a1, a2, a3, a4, a5, a6, a7⟩ := h
  have b := (a2.2.2.1 i hi).1
  have c := (a4.2.2.2.1 i hi).2.2.2
  rw [Nat.mul_zero, Nat.zero_add] at c
  refine ⟨?_, b, c⟩
  rcases a1 with e | e
  · have := b.1; omega
  · exact e
theorem zc_bird (d : Nat) {M : zi_M} {A : zf_A} {K : zf_K} (h : zq_sky M A K) {i : Nat} (hi : i < K.2.1) : zi_run d zm_X6_birdAt 0 [some (.inr (.inr (6, some 0))), some (.inl (nI i))] [] M = some (some (.inr (.inr (1, some i))), M) := by
  have h4 := h.2.1.1
  rw [ze_X6_birdAt_0, h.2.2.2.1.2.1]
  simp (disch := omega) only [↓zp_dn, ↓zp_hV, ↓zp_hI, ↓zp_hL, ↓zp_hR, ↓zp_hX, zp_eV, zp_eI, zp_eL, zp_eR, zp_eX, zp_eXl, zp_iV, zp_iI, zp_iL, zp_iR, ↓zp_sm, ↓zp_nls, ↓zp_nln, zp_bo0, zp_bo1, zp_okE, zp_ok2E, zp_rfE, ↓reduceIte, if_true, if_false, zp_leT, zp_leF, zp_ltT, zp_ltF, zp_eqT, zp_eqF, zp_leTl, zp_leFl, zp_ltTl, zp_ltFl, zp_leTr, zp_leFr, zp_ltTr, zp_ltFr, zp_eqTr, zp_eqFr, zp_eqTl, zp_eqFl, zp_eqFll, eq_self, zp_addl, zp_addr, zp_mull, zp_mulr, zp_subr, zp_subl, nI_add, pk_mul, Nat.mul_zero, Nat.zero_add]
theorem zc_birdF (d : Nat) {M : zi_M} {A : zf_A} {K : zf_K} (h : zq_sky M A K) {i : Nat} (hi : K.2.1 ≤ i) (h31 : i < 2 ^ 31) : zi_run d zm_X6_birdAt 0 [some (.inr (.inr (6, some 0))), some (.inl (nI i))] [] M = some (some (.inr (.inr (1, none))), M) := by
  have h4 := h.2.1.1
  rw [ze_X6_birdAt_0, h.2.2.2.1.2.1]
  simp (disch := omega) only [↓zp_dn, ↓zp_hV, ↓zp_hI, ↓zp_hL, ↓zp_hR, ↓zp_hX, zp_eV, zp_eI, zp_eL, zp_eR, zp_eX, zp_eXl, zp_iV, zp_iI, zp_iL, zp_iR, ↓zp_sm, ↓zp_nls, ↓zp_nln, zp_bo0, zp_bo1, zp_okE, zp_ok2E, zp_rfE, ↓reduceIte, if_true, if_false, zp_leT, zp_leF, zp_ltT, zp_ltF, zp_eqT, zp_eqF, zp_leTl, zp_leFl, zp_ltTl, zp_ltFl, zp_leTr, zp_leFr, zp_ltTr, zp_ltFr, zp_eqTr, zp_eqFr, zp_eqTl, zp_eqFl, zp_eqFll, eq_self, zp_addl, zp_addr, zp_mull, zp_mulr, zp_subr, zp_subl, nI_add, pk_mul]
theorem zc_birdN (d : Nat) {M : zi_M} {x : Int32} (hx : x < 0) : zi_run d zm_X6_birdAt 0 [some (.inr (.inr (6, some 0))), some (.inl x)] [] M = some (some (.inr (.inr (1, none))), M) := by
  rw [ze_X6_birdAt_0, if_pos hx]
theorem zc_board (d : Nat) {M : zi_M} {A : zf_A} {K : zf_K} (h : zq_sky M A K) {i : Nat} (hi : i < K.2.1) : zi_run d zm_X2_board 0 [some (.inr (.inr (2, some 0))), some (.inr (.inr (1, some i))), some (.inl K.1)] [] M = some (none, zp_bd M (zf_en A K i)) := by
  obtain ⟨b1, b2, b3, _⟩ := h.2.2.2.1.2.2.2.1 i hi
  rw [Nat.mul_zero, Nat.zero_add] at b1 b2 b3
  rw [ze_X2_board_0, b1, b2, b3]; rfl
theorem zr_flyer (d : Nat) {M : zi_M} {K : zf_K} (h : zf_rK (M.1 28 0) K) {i : Nat} (hi : i < K.2.1) (h4 : K.2.1 ≤ 4) : zi_run (d + 1) zm_X10_isFlyer 0 [some (.inr (.inr (10, some 0))), some (.inl (nI i))] [] M = some (some (.inl 1), M) := by
  have e := h.2.1
  rw [ze_X10_isFlyer_0]
  simp (disch := omega) only [↓zp_dn, ↓zp_hV, ↓zp_hI, ↓zp_hL, ↓zp_hR, ↓zp_hX, zp_eV, zp_eI, zp_eL, zp_eR, zp_eX, zp_eXl, zp_iV, zp_iI, zp_iL, zp_iR, ↓zp_sm, ↓zp_nls, ↓zp_nln, zp_bo0, zp_bo1, zp_okE, zp_ok2E, zp_rfE, ↓reduceIte, if_true, if_false, zp_leT, zp_leF, zp_ltT, zp_ltF, zp_eqT, zp_eqF, zp_leTl, zp_leFl, zp_ltTl, zp_ltFl, zp_leTr, zp_leFr, zp_ltTr, zp_ltFr, zp_eqTr, zp_eqFr, zp_eqTl, zp_eqFl, zp_eqFll, eq_self, zp_addl, zp_addr, zp_mull, zp_mulr, zp_subr, zp_subl, nI_add, pk_mul, zp_in_0, e]
theorem zr_flyerF (d : Nat) {M : zi_M} {K : zf_K} (h : zf_rK (M.1 28 0) K) {i : Nat} (hi : K.2.1 ≤ i) (h31 : i < 2 ^ 31) (h4 : K.2.1 ≤ 4) : zi_run (d + 1) zm_X10_isFlyer 0 [some (.inr (.inr (10, some 0))), some (.inl (nI i))] [] M = some (some (.inl 0), M) := by
  have e := h.2.1
  rw [ze_X10_isFlyer_0]
  rcases Nat.eq_zero_or_pos K.2.1 with h0 | h0
  · simp (disch := omega) only [↓zp_dn, ↓zp_hV, ↓zp_hI, ↓zp_hL, ↓zp_hR, ↓zp_hX, zp_eV, zp_eI, zp_eL, zp_eR, zp_eX, zp_eXl, zp_iV, zp_iI, zp_iL, zp_iR, ↓zp_sm, ↓zp_nls, ↓zp_nln, zp_bo0, zp_bo1, zp_okE, zp_ok2E, zp_rfE, ↓reduceIte, if_true, if_false, zp_leT, zp_leF, zp_ltT, zp_ltF, zp_eqT, zp_eqF, zp_leTl, zp_leFl, zp_ltTl, zp_ltFl, zp_leTr, zp_leFr, zp_ltTr, zp_ltFr, zp_eqTr, zp_eqFr, zp_eqTl, zp_eqFl, zp_eqFll, eq_self, zp_addl, zp_addr, zp_mull, zp_mulr, zp_subr, zp_subl, nI_add, pk_mul, zp_in_0, e, zp_m1, zp_m1lt]
  · simp (disch := omega) only [↓zp_dn, ↓zp_hV, ↓zp_hI, ↓zp_hL, ↓zp_hR, ↓zp_hX, zp_eV, zp_eI, zp_eL, zp_eR, zp_eX, zp_eXl, zp_iV, zp_iI, zp_iL, zp_iR, ↓zp_sm, ↓zp_nls, ↓zp_nln, zp_bo0, zp_bo1, zp_okE, zp_ok2E, zp_rfE, ↓reduceIte, if_true, if_false, zp_leT, zp_leF, zp_ltT, zp_ltF, zp_eqT, zp_eqF, zp_leTl, zp_leFl, zp_ltTl, zp_ltFl, zp_leTr, zp_leFr, zp_ltTr, zp_ltFr, zp_eqTr, zp_eqFr, zp_eqTl, zp_eqFl, zp_eqFll, eq_self, zp_addl, zp_addr, zp_mull, zp_mulr, zp_subr, zp_subl, nI_add, pk_mul, zp_in_0, e]
theorem zr_flyerN (d : Nat) {M : zi_M} {x : Int32} (hx : x < 0) : zi_run (d + 1) zm_X10_isFlyer 0 [some (.inr (.inr (10, some 0))), some (.inl x)] [] M = some (some (.inl 0), M) := by
  rw [ze_X10_isFlyer_0]
  simp (disch := omega) only [↓zp_dn, ↓zp_hV, ↓zp_hI, ↓zp_hL, ↓zp_hR, ↓zp_hX, zp_eV, zp_eI, zp_eL, zp_eR, zp_eX, zp_eXl, zp_iV, zp_iI, zp_iL, zp_iR, ↓zp_sm, ↓zp_nls, ↓zp_nln, zp_bo0, zp_bo1, zp_okE, zp_ok2E, zp_rfE, ↓reduceIte, if_true, if_false, zp_leT, zp_leF, zp_ltT, zp_ltF, zp_eqT, zp_eqF, zp_leTl, zp_leFl, zp_ltTl, zp_ltFl, zp_leTr, zp_leFr, zp_ltTr, zp_ltFr, zp_eqTr, zp_eqFr, zp_eqTl, zp_eqFl, zp_eqFll, eq_self, zp_addl, zp_addr, zp_mull, zp_mulr, zp_subr, zp_subl, nI_add, pk_mul, zp_in_0, zp_n0 hx, zp_n1 hx, zp_n2 hx, zp_n3 hx, zp_n4 hx, zp_n3l hx, zp_n4l hx]
theorem zr_takes (d : Nat) {M : zi_M} {A : zf_A} {K : zf_K} (h : zf_rK (M.1 28 0) K) {i : Nat} (hi : i < K.2.1) (h4 : K.2.1 ≤ 4) : zi_run d zm_X10_takes 0 [some (.inr (.inr (10, some 0))), some (.inl (nI i)), none] [] M = some (none, zp_rt M (zf_en A K i) (zf_sp K i)) := by
  obtain ⟨e1, e2, e3, e4, e5⟩ := h
  obtain ⟨b1, b2, b3, b4⟩ := e4 i hi
  rw [ze_X10_takes_0]
  simp (disch := omega) only [↓zp_dn, ↓zp_hV, ↓zp_hI, ↓zp_hL, ↓zp_hR, ↓zp_hX, zp_eV, zp_eI, zp_eL, zp_eR, zp_eX, zp_eXl, zp_iV, zp_iI, zp_iL, zp_iR, ↓zp_sm, ↓zp_nls, ↓zp_nln, zp_bo0, zp_bo1, zp_okE, zp_ok2E, zp_rfE, ↓reduceIte, if_true, if_false, zp_leT, zp_leF, zp_ltT, zp_ltF, zp_eqT, zp_eqF, zp_leTl, zp_leFl, zp_ltTl, zp_ltFl, zp_leTr, zp_leFr, zp_ltTr, zp_ltFr, zp_eqTr, zp_eqFr, zp_eqTl, zp_eqFl, zp_eqFll, eq_self, zp_addl, zp_addr, zp_mull, zp_mulr, zp_subr, zp_subl, nI_add, pk_mul]
  congr 2
  obtain ⟨c0, c1, c2, c3, c4, c5⟩ := b4
  simp only [↓reduceIte, Nat.reduceEqDiff, Nat.reduceLT, Nat.reduceLeDiff, Nat.reduceAdd, Nat.reduceMul, Nat.reduceSub, reduceCtorEq, Int32.reduceLT, Int32.reduceLE, not_true_eq_false, not_false_eq_true, and_true, true_and, and_false, false_and, or_true, true_or, or_false, false_or, Nat.add_zero, Nat.zero_add] at c0 c1 c2 c3 c4 c5
  rw [b1, b2, b3, c0, c1, c2, c3, c4, c5, e1]
  refine zp_ext (fun c k j => ?_) rfl
  rw [zp_rt1]
  by_cases hc : c = 10
  · by_cases hk : k = 0
    · subst hc; subst hk
      simp only [zp_sI1, ↓reduceIte]
      by_cases h1 : j = 17
      · simp [h1]
      by_cases h2 : j = 24
      · simp [h2]
      by_cases h3 : j = 25
      · simp [h3]
      by_cases h4 : j = 26
      · simp [h4]
      rcases zp_six 18 j with e | e | e | e | e | e | e
      all_goals simp [zf_wr, e, h1, h2, h3, h4]
    · simp [zp_sI1, hc, hk]
  · simp [zp_sI1, hc]
theorem zr_fallen (d : Nat) {M : zi_M} {K : zf_K} (h : zf_rK (M.1 28 0) K) {i : Nat} (hi : i < K.2.1) (h4 : K.2.1 ≤ 4) : zi_run d zm_X10_hasFallen 0 [some (.inr (.inr (10, some 0))), some (.inl (nI i))] [] M = if (zf_sp K i).2.2.2.2.2 = 0 then some (some (.inl 0), M) else some (some (.inl 1), M) := by
  obtain ⟨e1, e2, e3, e4, e5⟩ := h
  obtain ⟨b1, b2, b3, b4⟩ := e4 i hi
  have c5 : M.1 28 0 (40 + 9 * i + 7) = (zf_sp K i).2.2.2.2.2 := b4.2.2.2.2.2
  rw [ze_X10_hasFallen_0]
  simp (disch := omega) only [↓zp_dn, ↓zp_hV, ↓zp_hI, ↓zp_hL, ↓zp_hR, ↓zp_hX, zp_eV, zp_eI, zp_eL, zp_eR, zp_eX, zp_eXl, zp_iV, zp_iI, zp_iL, zp_iR, ↓zp_sm, ↓zp_nls, ↓zp_nln, zp_bo0, zp_bo1, zp_okE, zp_ok2E, zp_rfE, ↓reduceIte, if_true, if_false, zp_leT, zp_leF, zp_ltT, zp_ltF, zp_eqT, zp_eqF, zp_leTl, zp_leFl, zp_ltTl, zp_ltFl, zp_leTr, zp_leFr, zp_ltTr, zp_ltFr, zp_eqTr, zp_eqFr, zp_eqTl, zp_eqFl, zp_eqFll, eq_self, zp_addl, zp_addr, zp_mull, zp_mulr, zp_subr, zp_subl, nI_add, pk_mul, c5]
