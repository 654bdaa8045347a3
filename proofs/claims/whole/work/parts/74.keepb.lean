/-! THE PURE PART: keep, on, both sides -/
theorem zf_rA_i {g g' : Nat → Int32} {A : zf_A} (h : zf_rA g A) (hA : zf_okA A) (e : ∀ j, j < 356 → g' j = g j) : zf_rA g' A := by
  obtain ⟨h7, h5⟩ := zf_okA7 hA
  exact zf_rA_c h h7 h5 (e 0 (by omega)) (e 1 (by omega)) (fun j _ hj => e j (by omega))
theorem zf_rK_i {g g' : Nat → Int32} {K : zf_K} (h : zf_rK g K) (h4 : K.2.1 ≤ 4) (h40 : K.2.2.2.1 ≤ 40) (e : ∀ j, j < 356 → g' j = g j) : zf_rK g' K := by
  obtain ⟨a, b, c, f, l⟩ := h
  exact ⟨(e 2 (by omega)).trans a, (e 3 (by omega)).trans b, (e 4 (by omega)).trans c, fun i hi => zf_rb_c (fun j _ hj => e j (by omega)) (f i hi), fun n hn => zf_rl_c (fun j _ hj => e j (by omega)) (l n hn)⟩
theorem zf_cK_sk {M M' : zi_M} {K : zf_K} {s : Nat} (h4 : K.2.1 ≤ 4) (h40 : K.2.2.2.1 ≤ 40) (h6 : ∀ j, M'.1 6 s j = M.1 6 s j) (h1 : ∀ q j, q < 4 → M'.1 1 (4 * s + q) j = M.1 1 (4 * s + q) j) (h7 : ∀ q j, q < 4 → M'.1 7 (4 * s + q) j = M.1 7 (4 * s + q) j) (hp : ∀ q j, q < 40 → M'.1 7 (100 + 40 * s + q) j = M.1 7 (100 + 40 * s + q) j) (h14 : ∀ j, M'.1 14 s j = M.1 14 s j) (h : zf_cK M s K) : zf_cK M' s K := by
  obtain ⟨a1, a2, a3, a4, a5⟩ := h
  refine ⟨by rw [h6, a1], by rw [h6, a2], by rw [h6, a3], fun i hi => ?_, fun n hn => ?_⟩
  · rw [h1 i 1 (by omega), h1 i 2 (by omega), h1 i 3 (by omega), show M'.1 7 (4 * s + i) = M.1 7 (4 * s + i) from funext fun j => h7 i j (by omega)]; exact a4 i hi
  · rw [h14, show M'.1 7 (100 + 40 * s + n) = M.1 7 (100 + 40 * s + n) from funext fun j => hp n j (by omega)]; exact a5 n hn
theorem zr_keepL (d : Nat) {M : zi_M} {k : Nat} (hk : k < 3) : zi_run d zm_X10_keep 28 [some (.inr (.inr (10, some 0))), some (.inl (nI k)), some (.inl 0)] [] M = some (some (.inl (M.1 28 0 4)), zi_sI (zp_l M 29 0 (356 * k) 356 (fun j => M.1 28 0 j)) 30 0 k 1) := by
  refine Eq.trans ?_ (zp_for (fun i => zi_run d zm_X10_keep 28 [some (.inr (.inr (10, some 0))), some (.inl (nI k)), some (.inl (nI i))] [] (zp_l M 29 0 (356 * k) i (fun j => M.1 28 0 j))) 356 (some (some (.inl (M.1 28 0 4)), zi_sI (zp_l M 29 0 (356 * k) 356 (fun j => M.1 28 0 j)) 30 0 k 1)) ?_ ?_ 0 (Nat.zero_le _))
  · simp only [zp_l0]; rfl
  · rw [ze_X10_keep_28]
    simp (disch := omega) only [↓zp_dn, ↓zp_hV, ↓zp_hI, ↓zp_hL, ↓zp_hR, ↓zp_hX, zp_eV, zp_eI, zp_eL, zp_eR, zp_eX, zp_eXl, zp_iV, zp_iI, zp_iL, zp_iR, ↓zp_sm, ↓zp_nls, ↓zp_nln, zp_bo0, zp_bo1, zp_okE, zp_ok2E, zp_rfE, ↓reduceIte, if_true, if_false, zp_leT, zp_leF, zp_ltT, zp_ltF, zp_eqT, zp_eqF, zp_leTl, zp_leFl, zp_ltTl, zp_ltFl, zp_leTr, zp_leFr, zp_ltTr, zp_ltFr, zp_eqTr, zp_eqFr, zp_eqTl, zp_eqFl, zp_eqFll, eq_self, zp_addl, zp_addr, zp_mull, zp_mulr, zp_subr, zp_subl, nI_add, pk_mul, zp_l1, Nat.reduceEqDiff, Nat.reduceLT, Nat.reduceLeDiff, Nat.reduceAdd, Nat.reduceMul, Nat.reduceSub, reduceCtorEq, Int32.reduceLT, Int32.reduceLE, not_true_eq_false, not_false_eq_true, and_true, true_and, and_false, false_and, or_true, true_or, or_false, false_or]
  · intro i hi
    rw [ze_X10_keep_28]
    simp (disch := omega) only [↓zp_dn, ↓zp_hV, ↓zp_hI, ↓zp_hL, ↓zp_hR, ↓zp_hX, zp_eV, zp_eI, zp_eL, zp_eR, zp_eX, zp_eXl, zp_iV, zp_iI, zp_iL, zp_iR, ↓zp_sm, ↓zp_nls, ↓zp_nln, zp_bo0, zp_bo1, zp_okE, zp_ok2E, zp_rfE, ↓reduceIte, if_true, if_false, zp_leT, zp_leF, zp_ltT, zp_ltF, zp_eqT, zp_eqF, zp_leTl, zp_leFl, zp_ltTl, zp_ltFl, zp_leTr, zp_leFr, zp_ltTr, zp_ltFr, zp_eqTr, zp_eqFr, zp_eqTl, zp_eqFl, zp_eqFll, eq_self, zp_addl, zp_addr, zp_mull, zp_mulr, zp_subr, zp_subl, nI_add, pk_mul, zp_l1, Nat.reduceEqDiff, Nat.reduceLT, Nat.reduceLeDiff, Nat.reduceAdd, Nat.reduceMul, Nat.reduceSub, reduceCtorEq, Int32.reduceLT, Int32.reduceLE, not_true_eq_false, not_false_eq_true, and_true, true_and, and_false, false_and, or_true, true_or, or_false, false_or]
    rw [zp_lS _ _ _ _ _ _ _ rfl]
theorem zr_onL (d : Nat) {M : zi_M} {k : Nat} (hk : k < 3) : zi_run d zm_X10_on 31 [some (.inr (.inr (10, some 0))), some (.inl (nI k)), some (.inl 0)] [] M = some (some (.inl (M.1 29 0 (356 * k + 4))), zp_l M 28 0 0 356 (fun j => M.1 29 0 (356 * k + j))) := by
  refine Eq.trans ?_ (zp_for (fun i => zi_run d zm_X10_on 31 [some (.inr (.inr (10, some 0))), some (.inl (nI k)), some (.inl (nI i))] [] (zp_l M 28 0 0 i (fun j => M.1 29 0 (356 * k + j)))) 356 (some (some (.inl (M.1 29 0 (356 * k + 4))), zp_l M 28 0 0 356 (fun j => M.1 29 0 (356 * k + j)))) ?_ ?_ 0 (Nat.zero_le _))
  · simp only [zp_l0]; rfl
  · rw [ze_X10_on_31]
    simp (disch := omega) only [↓zp_dn, ↓zp_hV, ↓zp_hI, ↓zp_hL, ↓zp_hR, ↓zp_hX, zp_eV, zp_eI, zp_eL, zp_eR, zp_eX, zp_eXl, zp_iV, zp_iI, zp_iL, zp_iR, ↓zp_sm, ↓zp_nls, ↓zp_nln, zp_bo0, zp_bo1, zp_okE, zp_ok2E, zp_rfE, ↓reduceIte, if_true, if_false, zp_leT, zp_leF, zp_ltT, zp_ltF, zp_eqT, zp_eqF, zp_leTl, zp_leFl, zp_ltTl, zp_ltFl, zp_leTr, zp_leFr, zp_ltTr, zp_ltFr, zp_eqTr, zp_eqFr, zp_eqTl, zp_eqFl, zp_eqFll, eq_self, zp_addl, zp_addr, zp_mull, zp_mulr, zp_subr, zp_subl, nI_add, pk_mul, zp_l1, Nat.reduceEqDiff, Nat.reduceLT, Nat.reduceLeDiff, Nat.reduceAdd, Nat.reduceMul, Nat.reduceSub, reduceCtorEq, Int32.reduceLT, Int32.reduceLE, not_true_eq_false, not_false_eq_true, and_true, true_and, and_false, false_and, or_true, true_or, or_false, false_or, Nat.sub_zero]
  · intro i hi
    rw [ze_X10_on_31]
    simp (disch := omega) only [↓zp_dn, ↓zp_hV, ↓zp_hI, ↓zp_hL, ↓zp_hR, ↓zp_hX, zp_eV, zp_eI, zp_eL, zp_eR, zp_eX, zp_eXl, zp_iV, zp_iI, zp_iL, zp_iR, ↓zp_sm, ↓zp_nls, ↓zp_nln, zp_bo0, zp_bo1, zp_okE, zp_ok2E, zp_rfE, ↓reduceIte, if_true, if_false, zp_leT, zp_leF, zp_ltT, zp_ltF, zp_eqT, zp_eqF, zp_leTl, zp_leFl, zp_ltTl, zp_ltFl, zp_leTr, zp_leFr, zp_ltTr, zp_ltFr, zp_eqTr, zp_eqFr, zp_eqTl, zp_eqFl, zp_eqFll, eq_self, zp_addl, zp_addr, zp_mull, zp_mulr, zp_subr, zp_subl, nI_add, pk_mul, zp_l1, Nat.reduceEqDiff, Nat.reduceLT, Nat.reduceLeDiff, Nat.reduceAdd, Nat.reduceMul, Nat.reduceSub, reduceCtorEq, Int32.reduceLT, Int32.reduceLE, not_true_eq_false, not_false_eq_true, and_true, true_and, and_false, false_and, or_true, true_or, or_false, false_or]
    rw [zp_lS0 _ _ _ _ _ _ rfl]
theorem zo_keep (d : Nat) {n : Nat} {xs : Nat → Int32} {M : zi_M} (hI : zq_inv n xs M) (k : Int32) : zp_ok (zi_run (d + 5) zm_X9_keep 0 [some (.inr (.inr (9, some 0))), some (.inl k)] [] M) (zp_rf (d + 5) zm_X10_keep [some (.inr (.inr (10, some 0))), some (.inl k), none]) (zq_inv n xs) := by
  obtain ⟨A, K, hS⟩ := hI.2.2.2.2.1
  have hc1 := hS.2.2.1.1
  have hr1 := hS.2.2.2.2.1.1
  have hR := hS.2.2.2.2.2.1
  obtain ⟨h7, h5⟩ := zf_okA7 hS.1
  rcases zp_int k with hk | ⟨k, hk, rfl⟩
  · simp (disch := omega) only [ze_X9_keep_0, ze_X10_keep_0, ze_X5_room_0, ze_X5_size_0, ze_X5_isThere_0, ze_X5_has_0, ze_X5_hasRun_0, ze_X5_get_0, ze_X5_set_0, ze_X5_drop_0, ze_X5_takeRun_0, ze_X9_rowAt_0, ze_X9_textAt_0, ze_X9_refuse_0, ze_X10_isRow_0, ze_X10_isText_0, ze_X10_finds_0, ze_X10_tells_0, zp_in_0_5, zp_in_0_3, zp_in_0_7, zp_in_1_5, zp_in_0_9, zp_in_0_2, zp_in_48_57, zp_in_0_12, zp_in_1_4, zp_in_1_9, zp_in_1_2147483646, zp_in_0_8, zp_in_0, ↓zp_dn, ↓zp_hV, ↓zp_hI, ↓zp_hL, ↓zp_hR, ↓zp_hX, zp_eV, zp_eI, zp_eL, zp_eR, zp_eX, zp_eXl, zp_iV, zp_iI, zp_iL, zp_iR, ↓zp_sm, ↓zp_nls, ↓zp_nln, zp_bo0, zp_bo1, zp_okE, zp_ok2E, zp_rfE, ↓reduceIte, if_true, if_false, zp_ofn, zp_sI1, zp_w1, zp_sL1, zp_sR1, zp_l1, zp_leT, zp_leF, zp_ltT, zp_ltF, zp_eqT, zp_eqF, zp_leTl, zp_leFl, zp_ltTl, zp_ltFl, zp_leTr, zp_leFr, zp_ltTr, zp_ltFr, zp_eqTr, zp_eqFr, zp_eqTl, zp_eqFl, zp_eqFll, eq_self, zp_addl, zp_addr, zp_mull, zp_mulr, zp_subr, zp_subl, nI_add, pk_mul, Nat.reduceEqDiff, Nat.reduceLT, Nat.reduceLeDiff, Nat.reduceAdd, Nat.reduceMul, Nat.reduceSub, reduceCtorEq, Int32.reduceLT, Int32.reduceLE, not_true_eq_false, not_false_eq_true, and_true, true_and, and_false, false_and, or_true, true_or, or_false, false_or, zp_n0 hk, zp_n1 hk, zp_n2 hk, zp_n3 hk, zp_n4 hk, zp_n3l hk, zp_n4l hk]; exact hI
  by_cases hk3 : k < 3
  case neg => simp (disch := omega) only [ze_X9_keep_0, ze_X10_keep_0, ze_X5_room_0, ze_X5_size_0, ze_X5_isThere_0, ze_X5_has_0, ze_X5_hasRun_0, ze_X5_get_0, ze_X5_set_0, ze_X5_drop_0, ze_X5_takeRun_0, ze_X9_rowAt_0, ze_X9_textAt_0, ze_X9_refuse_0, ze_X10_isRow_0, ze_X10_isText_0, ze_X10_finds_0, ze_X10_tells_0, zp_in_0_5, zp_in_0_3, zp_in_0_7, zp_in_1_5, zp_in_0_9, zp_in_0_2, zp_in_48_57, zp_in_0_12, zp_in_1_4, zp_in_1_9, zp_in_1_2147483646, zp_in_0_8, zp_in_0, ↓zp_dn, ↓zp_hV, ↓zp_hI, ↓zp_hL, ↓zp_hR, ↓zp_hX, zp_eV, zp_eI, zp_eL, zp_eR, zp_eX, zp_eXl, zp_iV, zp_iI, zp_iL, zp_iR, ↓zp_sm, ↓zp_nls, ↓zp_nln, zp_bo0, zp_bo1, zp_okE, zp_ok2E, zp_rfE, ↓reduceIte, if_true, if_false, zp_ofn, zp_sI1, zp_w1, zp_sL1, zp_sR1, zp_l1, zp_leT, zp_leF, zp_ltT, zp_ltF, zp_eqT, zp_eqF, zp_leTl, zp_leFl, zp_ltTl, zp_ltFl, zp_leTr, zp_leFr, zp_ltTr, zp_ltFr, zp_eqTr, zp_eqFr, zp_eqTl, zp_eqFl, zp_eqFll, eq_self, zp_addl, zp_addr, zp_mull, zp_mulr, zp_subr, zp_subl, nI_add, pk_mul, Nat.reduceEqDiff, Nat.reduceLT, Nat.reduceLeDiff, Nat.reduceAdd, Nat.reduceMul, Nat.reduceSub, reduceCtorEq, Int32.reduceLT, Int32.reduceLE, not_true_eq_false, not_false_eq_true, and_true, true_and, and_false, false_and, or_true, true_or, or_false, false_or]; exact hI
  by_cases h0 : A.1 = 0
  · simp (disch := omega) only [ze_X9_keep_0, ze_X10_keep_0, hc1, hr1, ze_X5_room_0, ze_X5_size_0, ze_X5_isThere_0, ze_X5_has_0, ze_X5_hasRun_0, ze_X5_get_0, ze_X5_set_0, ze_X5_drop_0, ze_X5_takeRun_0, ze_X9_rowAt_0, ze_X9_textAt_0, ze_X9_refuse_0, ze_X10_isRow_0, ze_X10_isText_0, ze_X10_finds_0, ze_X10_tells_0, zp_in_0_5, zp_in_0_3, zp_in_0_7, zp_in_1_5, zp_in_0_9, zp_in_0_2, zp_in_48_57, zp_in_0_12, zp_in_1_4, zp_in_1_9, zp_in_1_2147483646, zp_in_0_8, zp_in_0, ↓zp_dn, ↓zp_hV, ↓zp_hI, ↓zp_hL, ↓zp_hR, ↓zp_hX, zp_eV, zp_eI, zp_eL, zp_eR, zp_eX, zp_eXl, zp_iV, zp_iI, zp_iL, zp_iR, ↓zp_sm, ↓zp_nls, ↓zp_nln, zp_bo0, zp_bo1, zp_okE, zp_ok2E, zp_rfE, ↓reduceIte, if_true, if_false, zp_ofn, zp_sI1, zp_w1, zp_sL1, zp_sR1, zp_l1, zp_leT, zp_leF, zp_ltT, zp_ltF, zp_eqT, zp_eqF, zp_leTl, zp_leFl, zp_ltTl, zp_ltFl, zp_leTr, zp_leFr, zp_ltTr, zp_ltFr, zp_eqTr, zp_eqFr, zp_eqTl, zp_eqFl, zp_eqFll, eq_self, zp_addl, zp_addr, zp_mull, zp_mulr, zp_subr, zp_subl, nI_add, pk_mul, Nat.reduceEqDiff, Nat.reduceLT, Nat.reduceLeDiff, Nat.reduceAdd, Nat.reduceMul, Nat.reduceSub, reduceCtorEq, Int32.reduceLT, Int32.reduceLE, not_true_eq_false, not_false_eq_true, and_true, true_and, and_false, false_and, or_true, true_or, or_false, false_or]; exact hI
  obtain ⟨M1, t1, t2, t3, t4⟩ := zc_skyTake (d + 2) (k0 := 1 + k) (k1 := 0) (by omega) (by omega) (by omega) hS.2.1.1 hS.2.1.2.1 hS.2.2.2.1
  have b6 : M1.1 6 0 6 = nI K.2.2.2.1 := (t2.2 6 0 6 (by omega) (by omega) (by omega) (by omega)).trans hS.2.2.2.1.2.2.1
  have e28 : M1.1 28 0 = M.1 28 0 := funext fun j => t2.2 28 0 j (by omega) (by omega) (by omega) (by omega)
  have r0 : M1.1 28 0 0 = nI A.1 := by rw [e28]; exact hr1
  have r4 : M1.1 28 0 4 = nI K.2.2.2.1 := by rw [e28]; exact hR.2.2.1
  rw [ze_X9_keep_0]
  simp (disch := omega) only [hc1, t1, b6, ↓zp_dn, ↓zp_hV, ↓zp_hI, ↓zp_hL, ↓zp_hR, ↓zp_hX, zp_eV, zp_eI, zp_eL, zp_eR, zp_eX, zp_eXl, zp_iV, zp_iI, zp_iL, zp_iR, ↓zp_sm, ↓zp_nls, ↓zp_nln, zp_bo0, zp_bo1, zp_okE, zp_ok2E, zp_rfE, ↓reduceIte, if_true, if_false, zp_leT, zp_leF, zp_ltT, zp_ltF, zp_eqT, zp_eqF, zp_leTl, zp_leFl, zp_ltTl, zp_ltFl, zp_leTr, zp_leFr, zp_ltTr, zp_ltFr, zp_eqTr, zp_eqFr, zp_eqTl, zp_eqFl, zp_eqFll, eq_self, zp_addl, zp_addr, zp_mull, zp_mulr, zp_subr, zp_subl, nI_add, pk_mul]
  rw [ze_X10_keep_0]
  simp (disch := omega) only [r0, zr_keepL _ hk3, r4, ze_X5_room_0, ze_X5_size_0, ze_X5_isThere_0, ze_X5_has_0, ze_X5_hasRun_0, ze_X5_get_0, ze_X5_set_0, ze_X5_drop_0, ze_X5_takeRun_0, ze_X9_rowAt_0, ze_X9_textAt_0, ze_X9_refuse_0, ze_X10_isRow_0, ze_X10_isText_0, ze_X10_finds_0, ze_X10_tells_0, zp_in_0_5, zp_in_0_3, zp_in_0_7, zp_in_1_5, zp_in_0_9, zp_in_0_2, zp_in_48_57, zp_in_0_12, zp_in_1_4, zp_in_1_9, zp_in_1_2147483646, zp_in_0_8, zp_in_0, ↓zp_dn, ↓zp_hV, ↓zp_hI, ↓zp_hL, ↓zp_hR, ↓zp_hX, zp_eV, zp_eI, zp_eL, zp_eR, zp_eX, zp_eXl, zp_iV, zp_iI, zp_iL, zp_iR, ↓zp_sm, ↓zp_nls, ↓zp_nln, zp_bo0, zp_bo1, zp_okE, zp_ok2E, zp_rfE, ↓reduceIte, if_true, if_false, zp_ofn, zp_sI1, zp_w1, zp_sL1, zp_sR1, zp_l1, zp_leT, zp_leF, zp_ltT, zp_ltF, zp_eqT, zp_eqF, zp_leTl, zp_leFl, zp_ltTl, zp_ltFl, zp_leTr, zp_leFr, zp_ltTr, zp_ltFr, zp_eqTr, zp_eqFr, zp_eqTl, zp_eqFl, zp_eqFll, eq_self, zp_addl, zp_addr, zp_mull, zp_mulr, zp_subr, zp_subl, nI_add, pk_mul, Nat.reduceEqDiff, Nat.reduceLT, Nat.reduceLeDiff, Nat.reduceAdd, Nat.reduceMul, Nat.reduceSub, reduceCtorEq, Int32.reduceLT, Int32.reduceLE, not_true_eq_false, not_false_eq_true, and_true, true_and, and_false, false_and, or_true, true_or, or_false, false_or]
  have fr2 : ∀ c j q, c ≠ 29 → c ≠ 30 → (zi_sI (zp_l M1 29 0 (356 * k) 356 (fun j => M1.1 28 0 j)) 30 0 k 1).1 c j q = M1.1 c j q := fun c j q a b => by rw [zp_sI1, if_neg b, zp_l1, if_neg a]
  generalize hM2 : zi_sI (zp_l M1 29 0 (356 * k) 356 (fun j => M1.1 28 0 j)) 30 0 k 1 = M2 at fr2
  have u2 : M2.2 = M.2 := by rw [← hM2]; exact t2.1
  have ag : ∀ g, g ≠ 0 → g ≠ 6 → zq_ag g M M2 := fun g ga gb c q j e => by
    have hc : c ≠ 29 := fun z => gb (by rw [← e, z]; simp [zq_gp])
    have hc' : c ≠ 30 := fun z => gb (by rw [← e, z]; simp [zq_gp])
    rw [fr2 c q j hc hc']
    refine t2.2 c q j (fun z => gb ?_) (fun z => gb ?_) (fun z => gb ?_) (fun z => gb ?_)
    · rw [← e, z.1, z.2]; simp [zq_gp, show ¬ 1 + k = 0 from by omega, show 1 + k < 4 from by omega]
    · rw [← e, z.1]; exact zq_g1k (by omega) (by omega) j
    · rw [← e, z.1, z.2]; simp [zq_gp, show ¬ 1 + k = 0 from by omega, show 1 + k < 4 from by omega]
    · rw [← e, z.1]
      rcases z.2 with y | y
      · exact zq_g7k (by omega) (by omega) j
      · exact zq_g7q (by omega) j
  have e28' : M2.1 28 0 = M.1 28 0 := funext fun j => ag 4 (by decide) (by decide) 28 0 j (by simp [zq_gp])
  refine zq_mk2 (A := A) (K := K) hI (ag 1 (by decide) (by decide)) (ag 2 (by decide) (by decide)) (ag 3 (by decide) (by decide)) (ag 5 (by decide) (by decide)) (fun a => by simp only [zq_longs, u2] at a ⊢; exact a) ⟨hS.1, hS.2.1, zf_cA_ag (ag 4 (by decide) (by decide)) hS.2.2.1, zf_cK_ag (ag 4 (by decide) (by decide)) (by omega) rfl hS.2.1.1 hS.2.1.2.1 hS.2.2.2.1, by rw [e28']; exact hS.2.2.2.2.1, by rw [e28']; exact hR, fun q hq => ?_⟩
  by_cases e : q = k
  · subst e
    have im : ∀ j, j < 356 → M2.1 29 0 (356 * q + j) = M.1 28 0 j := fun j hj => by
      rw [← hM2]
      simp only [zp_sI1, zp_l1, Nat.reduceEqDiff, Nat.reduceLT, Nat.reduceLeDiff, Nat.reduceAdd, Nat.reduceMul, Nat.reduceSub, reduceCtorEq, Int32.reduceLT, Int32.reduceLE, not_true_eq_false, not_false_eq_true, and_true, true_and, and_false, false_and, or_true, true_or, or_false, false_or, ↓reduceIte]
      rw [if_pos (by omega), show 356 * q + j - 356 * q = j from by omega, e28]
    refine Or.inr ⟨(fr2 6 _ _ (by decide) (by decide)).trans t4, by rw [← hM2]; simp [zp_sI1], K, hS.2.1, zf_cK_k (fun c q j hc => fr2 c q j (by omega) (by omega)) t3, zf_rA_i hS.2.2.2.2.1 hS.1 im, zf_rK_i hR hS.2.1.1 hS.2.1.2.1 im⟩
  · have f : ∀ c a j, c ≠ 29 → c ≠ 30 → ¬ (c = 6 ∧ a = 1 + k) → ¬ (c = 1 ∧ 4 * (1 + k) ≤ a ∧ a < 4 * (1 + k) + 4) → ¬ (c = 14 ∧ a = 1 + k) → ¬ (c = 7 ∧ ((4 * (1 + k) ≤ a ∧ a < 4 * (1 + k) + 4) ∨ (100 + 40 * (1 + k) ≤ a ∧ a < 140 + 40 * (1 + k)))) → M2.1 c a j = M.1 c a j := fun c a j h29 h30 x y z w => (fr2 c a j h29 h30).trans (t2.2 c a j x y z w)
    have im : ∀ j, j < 356 → M2.1 29 0 (356 * q + j) = M.1 29 0 (356 * q + j) := fun j hj => by
      rw [← hM2]
      simp only [zp_sI1, zp_l1, Nat.reduceEqDiff, Nat.reduceLT, Nat.reduceLeDiff, Nat.reduceAdd, Nat.reduceMul, Nat.reduceSub, reduceCtorEq, Int32.reduceLT, Int32.reduceLE, not_true_eq_false, not_false_eq_true, and_true, true_and, and_false, false_and, or_true, true_or, or_false, false_or, ↓reduceIte]
      rw [if_neg (by omega)]
      exact t2.2 29 0 _ (by omega) (by omega) (by omega) (by omega)
    have e30 : M2.1 30 0 q = M.1 30 0 q := by
      rw [← hM2]
      simp only [zp_sI1, zp_l1, Nat.reduceEqDiff, Nat.reduceLT, Nat.reduceLeDiff, Nat.reduceAdd, Nat.reduceMul, Nat.reduceSub, reduceCtorEq, Int32.reduceLT, Int32.reduceLE, not_true_eq_false, not_false_eq_true, and_true, true_and, and_false, false_and, or_true, true_or, or_false, false_or, ↓reduceIte, if_neg e]
      exact t2.2 30 0 _ (by omega) (by omega) (by omega) (by omega)
    have e6 : ∀ j, M2.1 6 (1 + q) j = M.1 6 (1 + q) j := fun j => f 6 _ j (by decide) (by decide) (by omega) (by omega) (by omega) (by omega)
    rcases hS.2.2.2.2.2.2 q hq with ⟨b1, b2⟩ | ⟨b1, b2, K', b3, b4, b5, b6'⟩
    · exact Or.inl ⟨by rw [e6, b1], by rw [e30, b2]⟩
    · refine Or.inr ⟨by rw [e6, b1], by rw [e30, b2], K', b3, zf_cK_sk b3.1 b3.2.1 e6 (fun a j ha => f 1 _ j (by decide) (by decide) (by omega) (by omega) (by omega) (by omega)) (fun a j ha => f 7 _ j (by decide) (by decide) (by omega) (by omega) (by omega) (by omega)) (fun a j ha => f 7 _ j (by decide) (by decide) (by omega) (by omega) (by omega) (by omega)) (fun j => f 14 _ j (by decide) (by decide) (by omega) (by omega) (by omega) (by omega)) b4, zf_rA_i b5 hS.1 im, zf_rK_i b6' b3.1 b3.2.1 im⟩
theorem zo_on (d : Nat) {n : Nat} {xs : Nat → Int32} {M : zi_M} (hI : zq_inv n xs M) (k : Int32) : zp_ok (zi_run (d + 5) zm_X9_on 0 [some (.inr (.inr (9, some 0))), some (.inl k)] [] M) (zp_rf (d + 5) zm_X10_on [some (.inr (.inr (10, some 0))), some (.inl k), none]) (zq_inv n xs) := by
  obtain ⟨A, K, hS⟩ := hI.2.2.2.2.1
  obtain ⟨h7, h5⟩ := zf_okA7 hS.1
  rcases zp_int k with hk | ⟨k, hk, rfl⟩
  · simp (disch := omega) only [ze_X9_on_0, ze_X10_on_0, ze_X5_room_0, ze_X5_size_0, ze_X5_isThere_0, ze_X5_has_0, ze_X5_hasRun_0, ze_X5_get_0, ze_X5_set_0, ze_X5_drop_0, ze_X5_takeRun_0, ze_X9_rowAt_0, ze_X9_textAt_0, ze_X9_refuse_0, ze_X10_isRow_0, ze_X10_isText_0, ze_X10_finds_0, ze_X10_tells_0, zp_in_0_5, zp_in_0_3, zp_in_0_7, zp_in_1_5, zp_in_0_9, zp_in_0_2, zp_in_48_57, zp_in_0_12, zp_in_1_4, zp_in_1_9, zp_in_1_2147483646, zp_in_0_8, zp_in_0, ↓zp_dn, ↓zp_hV, ↓zp_hI, ↓zp_hL, ↓zp_hR, ↓zp_hX, zp_eV, zp_eI, zp_eL, zp_eR, zp_eX, zp_eXl, zp_iV, zp_iI, zp_iL, zp_iR, ↓zp_sm, ↓zp_nls, ↓zp_nln, zp_bo0, zp_bo1, zp_okE, zp_ok2E, zp_rfE, ↓reduceIte, if_true, if_false, zp_ofn, zp_sI1, zp_w1, zp_sL1, zp_sR1, zp_l1, zp_leT, zp_leF, zp_ltT, zp_ltF, zp_eqT, zp_eqF, zp_leTl, zp_leFl, zp_ltTl, zp_ltFl, zp_leTr, zp_leFr, zp_ltTr, zp_ltFr, zp_eqTr, zp_eqFr, zp_eqTl, zp_eqFl, zp_eqFll, eq_self, zp_addl, zp_addr, zp_mull, zp_mulr, zp_subr, zp_subl, nI_add, pk_mul, Nat.reduceEqDiff, Nat.reduceLT, Nat.reduceLeDiff, Nat.reduceAdd, Nat.reduceMul, Nat.reduceSub, reduceCtorEq, Int32.reduceLT, Int32.reduceLE, not_true_eq_false, not_false_eq_true, and_true, true_and, and_false, false_and, or_true, true_or, or_false, false_or, zp_n0 hk, zp_n1 hk, zp_n2 hk, zp_n3 hk, zp_n4 hk, zp_n3l hk, zp_n4l hk]; exact hI
  by_cases hk3 : k < 3
  case neg => simp (disch := omega) only [ze_X9_on_0, ze_X10_on_0, ze_X5_room_0, ze_X5_size_0, ze_X5_isThere_0, ze_X5_has_0, ze_X5_hasRun_0, ze_X5_get_0, ze_X5_set_0, ze_X5_drop_0, ze_X5_takeRun_0, ze_X9_rowAt_0, ze_X9_textAt_0, ze_X9_refuse_0, ze_X10_isRow_0, ze_X10_isText_0, ze_X10_finds_0, ze_X10_tells_0, zp_in_0_5, zp_in_0_3, zp_in_0_7, zp_in_1_5, zp_in_0_9, zp_in_0_2, zp_in_48_57, zp_in_0_12, zp_in_1_4, zp_in_1_9, zp_in_1_2147483646, zp_in_0_8, zp_in_0, ↓zp_dn, ↓zp_hV, ↓zp_hI, ↓zp_hL, ↓zp_hR, ↓zp_hX, zp_eV, zp_eI, zp_eL, zp_eR, zp_eX, zp_eXl, zp_iV, zp_iI, zp_iL, zp_iR, ↓zp_sm, ↓zp_nls, ↓zp_nln, zp_bo0, zp_bo1, zp_okE, zp_ok2E, zp_rfE, ↓reduceIte, if_true, if_false, zp_ofn, zp_sI1, zp_w1, zp_sL1, zp_sR1, zp_l1, zp_leT, zp_leF, zp_ltT, zp_ltF, zp_eqT, zp_eqF, zp_leTl, zp_leFl, zp_ltTl, zp_ltFl, zp_leTr, zp_leFr, zp_ltTr, zp_ltFr, zp_eqTr, zp_eqFr, zp_eqTl, zp_eqFl, zp_eqFll, eq_self, zp_addl, zp_addr, zp_mull, zp_mulr, zp_subr, zp_subl, nI_add, pk_mul, Nat.reduceEqDiff, Nat.reduceLT, Nat.reduceLeDiff, Nat.reduceAdd, Nat.reduceMul, Nat.reduceSub, reduceCtorEq, Int32.reduceLT, Int32.reduceLE, not_true_eq_false, not_false_eq_true, and_true, true_and, and_false, false_and, or_true, true_or, or_false, false_or]; exact hI
  rcases hS.2.2.2.2.2.2 k hk3 with ⟨b1, b2⟩ | ⟨b1, b2, K', b3, b4, b5, b6⟩
  · simp (disch := omega) only [ze_X9_on_0, ze_X10_on_0, b1, b2, ze_X5_room_0, ze_X5_size_0, ze_X5_isThere_0, ze_X5_has_0, ze_X5_hasRun_0, ze_X5_get_0, ze_X5_set_0, ze_X5_drop_0, ze_X5_takeRun_0, ze_X9_rowAt_0, ze_X9_textAt_0, ze_X9_refuse_0, ze_X10_isRow_0, ze_X10_isText_0, ze_X10_finds_0, ze_X10_tells_0, zp_in_0_5, zp_in_0_3, zp_in_0_7, zp_in_1_5, zp_in_0_9, zp_in_0_2, zp_in_48_57, zp_in_0_12, zp_in_1_4, zp_in_1_9, zp_in_1_2147483646, zp_in_0_8, zp_in_0, ↓zp_dn, ↓zp_hV, ↓zp_hI, ↓zp_hL, ↓zp_hR, ↓zp_hX, zp_eV, zp_eI, zp_eL, zp_eR, zp_eX, zp_eXl, zp_iV, zp_iI, zp_iL, zp_iR, ↓zp_sm, ↓zp_nls, ↓zp_nln, zp_bo0, zp_bo1, zp_okE, zp_ok2E, zp_rfE, ↓reduceIte, if_true, if_false, zp_ofn, zp_sI1, zp_w1, zp_sL1, zp_sR1, zp_l1, zp_leT, zp_leF, zp_ltT, zp_ltF, zp_eqT, zp_eqF, zp_leTl, zp_leFl, zp_ltTl, zp_ltFl, zp_leTr, zp_leFr, zp_ltTr, zp_ltFr, zp_eqTr, zp_eqFr, zp_eqTl, zp_eqFl, zp_eqFll, eq_self, zp_addl, zp_addr, zp_mull, zp_mulr, zp_subr, zp_subl, nI_add, pk_mul, Nat.reduceEqDiff, Nat.reduceLT, Nat.reduceLeDiff, Nat.reduceAdd, Nat.reduceMul, Nat.reduceSub, reduceCtorEq, Int32.reduceLT, Int32.reduceLE, not_true_eq_false, not_false_eq_true, and_true, true_and, and_false, false_and, or_true, true_or, or_false, false_or]
    exact zq_find hI 1 1
  obtain ⟨M1, t1, t2, t3, t4⟩ := zc_skyTake (d + 2) (k0 := 0) (k1 := 1 + k) (by omega) (by omega) (by omega) b3.1 b3.2.1 b4
  have c6 : M1.1 6 0 6 = nI K'.2.2.2.1 := t3.2.2.1
  have e29 : ∀ j, M1.1 29 0 j = M.1 29 0 j := fun j => t2.2 29 0 j (by omega) (by omega) (by omega) (by omega)
  have r30 : M1.1 30 0 k = 1 := (t2.2 30 0 k (by omega) (by omega) (by omega) (by omega)).trans b2
  have r4 : M1.1 29 0 (356 * k + 4) = nI K'.2.2.2.1 := (e29 _).trans b6.2.2.1
  rw [ze_X9_on_0]
  simp (disch := omega) only [b1, zp_1n0, t1, c6, ↓zp_dn, ↓zp_hV, ↓zp_hI, ↓zp_hL, ↓zp_hR, ↓zp_hX, zp_eV, zp_eI, zp_eL, zp_eR, zp_eX, zp_eXl, zp_iV, zp_iI, zp_iL, zp_iR, ↓zp_sm, ↓zp_nls, ↓zp_nln, zp_bo0, zp_bo1, zp_okE, zp_ok2E, zp_rfE, ↓reduceIte, if_true, if_false, zp_leT, zp_leF, zp_ltT, zp_ltF, zp_eqT, zp_eqF, zp_leTl, zp_leFl, zp_ltTl, zp_ltFl, zp_leTr, zp_leFr, zp_ltTr, zp_ltFr, zp_eqTr, zp_eqFr, zp_eqTl, zp_eqFl, zp_eqFll, eq_self, zp_addl, zp_addr, zp_mull, zp_mulr, zp_subr, zp_subl, nI_add, pk_mul]
  rw [ze_X10_on_0]
  simp (disch := omega) only [r30, zp_1n0, zr_onL _ hk3, r4, ze_X5_room_0, ze_X5_size_0, ze_X5_isThere_0, ze_X5_has_0, ze_X5_hasRun_0, ze_X5_get_0, ze_X5_set_0, ze_X5_drop_0, ze_X5_takeRun_0, ze_X9_rowAt_0, ze_X9_textAt_0, ze_X9_refuse_0, ze_X10_isRow_0, ze_X10_isText_0, ze_X10_finds_0, ze_X10_tells_0, zp_in_0_5, zp_in_0_3, zp_in_0_7, zp_in_1_5, zp_in_0_9, zp_in_0_2, zp_in_48_57, zp_in_0_12, zp_in_1_4, zp_in_1_9, zp_in_1_2147483646, zp_in_0_8, zp_in_0, ↓zp_dn, ↓zp_hV, ↓zp_hI, ↓zp_hL, ↓zp_hR, ↓zp_hX, zp_eV, zp_eI, zp_eL, zp_eR, zp_eX, zp_eXl, zp_iV, zp_iI, zp_iL, zp_iR, ↓zp_sm, ↓zp_nls, ↓zp_nln, zp_bo0, zp_bo1, zp_okE, zp_ok2E, zp_rfE, ↓reduceIte, if_true, if_false, zp_ofn, zp_sI1, zp_w1, zp_sL1, zp_sR1, zp_l1, zp_leT, zp_leF, zp_ltT, zp_ltF, zp_eqT, zp_eqF, zp_leTl, zp_leFl, zp_ltTl, zp_ltFl, zp_leTr, zp_leFr, zp_ltTr, zp_ltFr, zp_eqTr, zp_eqFr, zp_eqTl, zp_eqFl, zp_eqFll, eq_self, zp_addl, zp_addr, zp_mull, zp_mulr, zp_subr, zp_subl, nI_add, pk_mul, Nat.reduceEqDiff, Nat.reduceLT, Nat.reduceLeDiff, Nat.reduceAdd, Nat.reduceMul, Nat.reduceSub, reduceCtorEq, Int32.reduceLT, Int32.reduceLE, not_true_eq_false, not_false_eq_true, and_true, true_and, and_false, false_and, or_true, true_or, or_false, false_or]
  have fr2 : ∀ c j q, c ≠ 28 → (zp_l M1 28 0 0 356 (fun j => M1.1 29 0 (356 * k + j))).1 c j q = M1.1 c j q := fun c j q a => by rw [zp_l1, if_neg a]
  have im : ∀ j, j < 356 → (zp_l M1 28 0 0 356 (fun j => M1.1 29 0 (356 * k + j))).1 28 0 j = M.1 29 0 (356 * k + j) := fun j hj => by
    simp only [zp_l1, ↓reduceIte]
    rw [if_pos (by omega), Nat.sub_zero, e29]
  generalize hM2 : zp_l M1 28 0 0 356 (fun j => M1.1 29 0 (356 * k + j)) = M2 at fr2 im
  have u2 : M2.2 = M.2 := by rw [← hM2]; exact t2.1
  have ag : ∀ g, g ≠ 0 → g ≠ 4 → zq_ag g M M2 := fun g ga gb c q j e => by
    have hc : c ≠ 28 := fun z => gb (by rw [← e, z]; simp [zq_gp])
    rw [fr2 c q j hc]
    refine t2.2 c q j (fun z => gb ?_) (fun z => gb ?_) (fun z => gb ?_) (fun z => gb ?_)
    · rw [← e, z.1, z.2]; simp [zq_gp]
    · rw [← e, z.1]; exact zq_g1 (by omega) j
    · rw [← e, z.1, z.2]; simp [zq_gp]
    · rw [← e, z.1]
      rcases z.2 with y | y
      · exact zq_g7 (by omega) j
      · exact zq_g7p (by omega) (by omega) j
  refine zq_mk2 (A := A) (K := K') hI (ag 1 (by decide) (by decide)) (ag 2 (by decide) (by decide)) (ag 3 (by decide) (by decide)) (ag 5 (by decide) (by decide)) (fun a => by simp only [zq_longs, u2] at a ⊢; exact a) (zq_sky_mk hS (ag 6 (by decide) (by decide)) b3 ?_ ?_ (zf_rA_i b5 hS.1 im) (zf_rK_i b6 b3.1 b3.2.1 im))
  · exact zf_cA_k (fun c q j hc => (fr2 c q j (by omega)).trans (t2.2 c q j (by omega) (by omega) (by omega) (by omega))) hS.2.2.1
  · exact zf_cK_k (fun c q j hc => fr2 c q j (by omega)) t3
