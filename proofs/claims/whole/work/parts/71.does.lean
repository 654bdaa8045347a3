/-! THE PURE PART: does; beat -/
def zy_fR (M M' : zi_M) : Prop := M'.2 = M.2 ∧ ∀ c k j, c ≠ 28 → ¬ (c = 10 ∧ 17 ≤ j ∧ j < 27) → M'.1 c k j = M.1 c k j
theorem zy_fR_rfl (M : zi_M) : zy_fR M M := ⟨rfl, fun _ _ _ _ _ => rfl⟩
theorem zy_fR_tr {M M1 M2 : zi_M} (h : zy_fR M M1) (h2 : zy_fR M1 M2) : zy_fR M M2 := ⟨h2.1.trans h.1, fun c k j a b => (h2.2 c k j a b).trans (h.2 c k j a b)⟩
theorem zy_fR_28 {M M1 : zi_M} (h : zy_fR M M1) (s : Nat) (x : Int32) : zy_fR M (zi_sI M1 28 0 s x) := ⟨h.1, fun c k j a b => by rw [zp_sI1, if_neg a]; exact h.2 c k j a b⟩
theorem zy_fR_rt (M : zi_M) (E : zf_E) (s : zf_S) : zy_fR M (zp_rt M E s) := ⟨rfl, fun c k j a b => by
  rw [zp_rt1]
  by_cases h1 : c = 10
  · rw [if_pos h1]
    by_cases h2 : k = 0
    · have hj : ¬ (17 ≤ j ∧ j < 27) := fun q => b ⟨h1, q⟩
      subst h1; subst h2
      rw [if_pos rfl, if_neg (by omega), if_neg (by omega), if_neg (by omega), if_neg (by omega)]
      simp only [zf_wr]
      rw [if_neg (by omega), if_neg (by omega), if_neg (by omega), if_neg (by omega), if_neg (by omega), if_neg (by omega)]
    · rw [if_neg h2]
  · rw [if_neg h1]⟩
theorem zy_fR_rp {M M1 : zi_M} (h : zy_fR M M1) (s : zf_S) : zy_fR M (zp_rp M1 s) := ⟨h.1, fun c k j a b => by
  rw [zp_rp1]
  by_cases h1 : c = 10
  · rw [if_pos h1]
    by_cases h2 : k = 0
    · have hj : ¬ (17 ≤ j ∧ j < 27) := fun q => b ⟨h1, q⟩
      subst h1; subst h2
      rw [if_pos rfl]
      simp only [zf_wr]
      rw [if_neg (by omega), if_neg (by omega), if_neg (by omega), if_neg (by omega), if_neg (by omega), if_neg (by omega)]
      exact h.2 10 0 j a b
    · rw [if_neg h2]; exact h.2 c k j a b
  · rw [if_neg h1]; exact h.2 c k j a b⟩
theorem zr_does (d : Nat) {M : zi_M} {A : zf_A} {K : zf_K} (hA : zf_okE A) (hok : zf_okK A K) (hRA : zf_rA (M.1 28 0) A) (hR : zf_rK (M.1 28 0) K) {i : Nat} (hi : i < K.2.1) {b : Nat} (hb : b < 3) (hcan : zf_can A (zf_sp K i) b) (h40 : K.2.2.2.1 < 40) : ∃ M', zi_run (d + 4) zm_X10_does 0 [some (.inr (.inr (10, some 0))), some (.inl (nI i)), some (.inl (nI b)), none] [] M = some (none, M') ∧ zy_fR M M' ∧ M'.1 10 0 23 = zf_fell (zf_en A K i) (zf_mv (zf_en A K i) (zf_sp K i) b) ∧ zf_rA (M'.1 28 0) A ∧ zf_rK (M'.1 28 0) (zf_do A K i b) := by
  have h4 := hok.1
  obtain ⟨⟨o1, o2, _⟩, _⟩ := hok.2.2.1 i hi
  have r4 : M.1 28 0 4 = nI K.2.2.2.1 := hR.2.2.1
  generalize hE : zf_en A K i = E
  generalize hs : zf_sp K i = s at *
  generalize hn : K.2.2.2.1 = n at *
  have hEA : E.1 = A := by rw [← hE]
  have o1' : s.1 < A.1 := by rw [← hs]; exact o1
  have o2' : s.2.1 < A.2.1 := by rw [← hs]; exact o2
  have hrs := zp_rt_is M E s
  obtain ⟨s0, s1, s2, s3, s4, s5⟩ := hrs
  simp only [Nat.reduceEqDiff, Nat.reduceLT, Nat.reduceLeDiff, Nat.reduceAdd, Nat.reduceMul, Nat.reduceSub, reduceCtorEq, Int32.reduceLT, Int32.reduceLE, not_true_eq_false, not_false_eq_true, and_true, true_and, and_false, false_and, or_true, true_or, or_false, false_or] at s0 s1 s2 s3 s4 s5
  let Mx := zi_sI (zi_sI (zi_sI (zi_sI (zi_sI (zi_sI (zi_sI (zp_rt M E s) 28 0 (76 + 7 * n) (nI i)) 28 0 (76 + 7 * n + 1) (nI s.1)) 28 0 (76 + 7 * n + 2) (nI s.2.1)) 28 0 (76 + 7 * n + 3) s.2.2.1) 28 0 (76 + 7 * n + 4) s.2.2.2.1) 28 0 (76 + 7 * n + 5) s.2.2.2.2.1) 28 0 (76 + 7 * n + 6) s.2.2.2.2.2
  have hMx : Mx = zi_sI (zi_sI (zi_sI (zi_sI (zi_sI (zi_sI (zi_sI (zp_rt M E s) 28 0 (76 + 7 * n) (nI i)) 28 0 (76 + 7 * n + 1) (nI s.1)) 28 0 (76 + 7 * n + 2) (nI s.2.1)) 28 0 (76 + 7 * n + 3) s.2.2.1) 28 0 (76 + 7 * n + 4) s.2.2.2.1) 28 0 (76 + 7 * n + 5) s.2.2.2.2.1) 28 0 (76 + 7 * n + 6) s.2.2.2.2.2 := rfl
  have x28 : ∀ j, (j < 76 + 7 * n ∨ 76 + 7 * n + 6 < j) → Mx.1 28 0 j = M.1 28 0 j := fun j hj => by
    rw [hMx]
    simp (disch := omega) only [zp_sI1, zp_rt1, Nat.reduceEqDiff, Nat.reduceLT, Nat.reduceLeDiff, Nat.reduceAdd, Nat.reduceMul, Nat.reduceSub, reduceCtorEq, Int32.reduceLT, Int32.reduceLE, not_true_eq_false, not_false_eq_true, and_true, true_and, and_false, false_and, or_true, true_or, or_false, false_or, ↓reduceIte, if_neg]
  have hAx : zf_rA (Mx.1 28 0) A := zf_rA_c hRA (by have := hA.2.1; omega) (by have := hA.2.2.2; omega) (x28 0 (by omega)) (x28 1 (by omega)) (fun j h1 h2 => x28 j (by omega))
  have hRx : zf_rE Mx E := ⟨by rw [hEA]; exact hAx, by rw [hMx]; simp [zp_sI1, zp_rt1], by rw [hMx]; simp [zp_sI1, zp_rt1], by rw [hMx]; simp [zp_sI1, zp_rt1], by rw [hMx]; simp [zp_sI1, zp_rt1]⟩
  have hsx : zf_rs Mx s := by
    have := zp_rt_is M E s
    simpa [zf_rs, zf_is, hMx, zp_sI1] using this
  have hbt : ∀ D, zi_run (D + 3) zm_X10_beats 0 [some (.inr (.inr (10, some 0))), some (.inl (nI b))] [] Mx = some (none, zp_rp Mx (zf_bt E s b)) := fun D => zr_beats D (by rw [hEA]; exact hA) hRx hsx (by rw [hEA]; exact o1') (by rw [hEA]; exact o2') hb (by rw [hEA]; exact hcan)
  obtain ⟨t0, t1, t2, t3, t4, t5⟩ := zp_rp_is Mx (zf_bt E s b)
  simp only [Nat.reduceEqDiff, Nat.reduceLT, Nat.reduceLeDiff, Nat.reduceAdd, Nat.reduceMul, Nat.reduceSub, reduceCtorEq, Int32.reduceLT, Int32.reduceLE, not_true_eq_false, not_false_eq_true, and_true, true_and, and_false, false_and, or_true, true_or, or_false, false_or] at t0 t1 t2 t3 t4 t5
  generalize hMy : zp_rp Mx (zf_bt E s b) = My at *
  have y28 : My.1 28 0 = Mx.1 28 0 := by rw [← hMy]; rfl
  have fy : zy_fR M My := by
    rw [← hMy, hMx]
    exact zy_fR_rp (zy_fR_28 (zy_fR_28 (zy_fR_28 (zy_fR_28 (zy_fR_28 (zy_fR_28 (zy_fR_28 (zy_fR_rt M E s) _ _) _ _) _ _) _ _) _ _) _ _) _ _) _
  refine ⟨zi_sI (zi_sI (zi_sI (zi_sI (zi_sI (zi_sI (zi_sI My 28 0 (40 + 9 * i + 1) (nI (zf_bt E s b).1)) 28 0 (40 + 9 * i + 2) (nI (zf_bt E s b).2.1)) 28 0 (40 + 9 * i + 3) (zf_bt E s b).2.2.1) 28 0 (40 + 9 * i + 4) (zf_bt E s b).2.2.2.1) 28 0 (40 + 9 * i + 5) (zf_bt E s b).2.2.2.2.1) 28 0 (40 + 9 * i + 7) (zf_bt E s b).2.2.2.2.2) 28 0 4 (nI (n + 1)), ?_, ?_, ?_, ?_, ?_⟩
  · rw [ze_X10_does_0]
    have tk : ∀ D, zi_run D zm_X10_takes 0 [some (.inr (.inr (10, some 0))), some (.inl (nI i)), none] [] M = some (none, zp_rt M E s) := fun D => by rw [← hE, ← hs]; exact zr_takes D hR hi h4
    simp (disch := omega) only [↓zp_dn, ↓zp_hV, ↓zp_hI, ↓zp_hL, ↓zp_hR, ↓zp_hX, zp_eV, zp_eI, zp_eL, zp_eR, zp_eX, zp_eXl, zp_iV, zp_iI, zp_iL, zp_iR, ↓zp_sm, ↓zp_nls, ↓zp_nln, zp_bo0, zp_bo1, zp_okE, zp_ok2E, zp_rfE, ↓reduceIte, if_true, if_false, zp_leT, zp_leF, zp_ltT, zp_ltF, zp_eqT, zp_eqF, zp_leTl, zp_leFl, zp_ltTl, zp_ltFl, zp_leTr, zp_leFr, zp_ltTr, zp_ltFr, zp_eqTr, zp_eqFr, zp_eqTl, zp_eqFl, zp_eqFll, eq_self, zp_addl, zp_addr, zp_mull, zp_mulr, zp_subr, zp_subl, nI_add, pk_mul, r4, tk, s0, s1, s2, s3, s4, s5, ← hMx, hbt, hMy, ze_X10_keeps_0, t0, t1, t2, t3, t4, t5]
    have r4' : My.1 28 0 4 = nI n := by rw [y28, x28 4 (by omega)]; exact r4
    simp (disch := omega) only [zp_sI1, Nat.reduceEqDiff, Nat.reduceLT, Nat.reduceLeDiff, Nat.reduceAdd, Nat.reduceMul, Nat.reduceSub, reduceCtorEq, Int32.reduceLT, Int32.reduceLE, not_true_eq_false, not_false_eq_true, and_true, true_and, and_false, false_and, or_true, true_or, or_false, false_or, ↓reduceIte, if_neg, r4', nI_1]
  · exact zy_fR_28 (zy_fR_28 (zy_fR_28 (zy_fR_28 (zy_fR_28 (zy_fR_28 (zy_fR_28 fy _ _) _ _) _ _) _ _) _ _) _ _) _ _
  · simp only [zp_sI1, Nat.reduceEqDiff, Nat.reduceLT, Nat.reduceLeDiff, Nat.reduceAdd, Nat.reduceMul, Nat.reduceSub, reduceCtorEq, Int32.reduceLT, Int32.reduceLE, not_true_eq_false, not_false_eq_true, and_true, true_and, and_false, false_and, or_true, true_or, or_false, false_or, ↓reduceIte]; exact t5
  · refine zf_rA_c hAx (by have := hA.2.1; omega) (by have := hA.2.2.2; omega) ?_ ?_ (fun j h1 h2 => ?_)
    · simp (disch := omega) only [zp_sI1, Nat.reduceEqDiff, Nat.reduceLT, Nat.reduceLeDiff, Nat.reduceAdd, Nat.reduceMul, Nat.reduceSub, reduceCtorEq, Int32.reduceLT, Int32.reduceLE, not_true_eq_false, not_false_eq_true, and_true, true_and, and_false, false_and, or_true, true_or, or_false, false_or, ↓reduceIte, if_neg]; rw [y28]
    · simp (disch := omega) only [zp_sI1, Nat.reduceEqDiff, Nat.reduceLT, Nat.reduceLeDiff, Nat.reduceAdd, Nat.reduceMul, Nat.reduceSub, reduceCtorEq, Int32.reduceLT, Int32.reduceLE, not_true_eq_false, not_false_eq_true, and_true, true_and, and_false, false_and, or_true, true_or, or_false, false_or, ↓reduceIte, if_neg]; rw [y28]
    · simp (disch := omega) only [zp_sI1, Nat.reduceEqDiff, Nat.reduceLT, Nat.reduceLeDiff, Nat.reduceAdd, Nat.reduceMul, Nat.reduceSub, reduceCtorEq, Int32.reduceLT, Int32.reduceLE, not_true_eq_false, not_false_eq_true, and_true, true_and, and_false, false_and, or_true, true_or, or_false, false_or, ↓reduceIte, if_neg]; rw [y28]
  · have g : ∀ j, j ≠ 4 → j ≠ 40 + 9 * i + 1 → j ≠ 40 + 9 * i + 2 → j ≠ 40 + 9 * i + 3 → j ≠ 40 + 9 * i + 4 → j ≠ 40 + 9 * i + 5 → j ≠ 40 + 9 * i + 7 → (zi_sI (zi_sI (zi_sI (zi_sI (zi_sI (zi_sI (zi_sI My 28 0 (40 + 9 * i + 1) (nI (zf_bt E s b).1)) 28 0 (40 + 9 * i + 2) (nI (zf_bt E s b).2.1)) 28 0 (40 + 9 * i + 3) (zf_bt E s b).2.2.1) 28 0 (40 + 9 * i + 4) (zf_bt E s b).2.2.2.1) 28 0 (40 + 9 * i + 5) (zf_bt E s b).2.2.2.2.1) 28 0 (40 + 9 * i + 7) (zf_bt E s b).2.2.2.2.2) 28 0 4 (nI (n + 1))).1 28 0 j = Mx.1 28 0 j := fun j h1 h2 h3 h4 h5 h6 h7 => by
      simp (disch := omega) only [zp_sI1, Nat.reduceEqDiff, Nat.reduceLT, Nat.reduceLeDiff, Nat.reduceAdd, Nat.reduceMul, Nat.reduceSub, reduceCtorEq, Int32.reduceLT, Int32.reduceLE, not_true_eq_false, not_false_eq_true, and_true, true_and, and_false, false_and, or_true, true_or, or_false, false_or, ↓reduceIte, if_neg]; rw [y28]
    obtain ⟨a, b', c, e, f⟩ := hR
    refine ⟨?_, ?_, ?_, fun q hq => ?_, fun q hq => ?_⟩
    · rw [g 2 (by omega) (by omega) (by omega) (by omega) (by omega) (by omega) (by omega), x28 2 (by omega)]; exact a
    · rw [g 3 (by omega) (by omega) (by omega) (by omega) (by omega) (by omega) (by omega), x28 3 (by omega)]; exact b'
    · simp only [zp_sI1, Nat.reduceEqDiff, Nat.reduceLT, Nat.reduceLeDiff, Nat.reduceAdd, Nat.reduceMul, Nat.reduceSub, reduceCtorEq, Int32.reduceLT, Int32.reduceLE, not_true_eq_false, not_false_eq_true, and_true, true_and, and_false, false_and, or_true, true_or, or_false, false_or, ↓reduceIte, zf_do, hn]
    · have hq' : q < K.2.1 := hq
      by_cases e1 : q = i
      · subst e1
        obtain ⟨u1, u2, u3, _⟩ := e q hq'
        simp only [zf_do, ↓reduceIte]
        rw [hE, hs]
        refine ⟨?_, ?_, ?_, ?_, ?_, ?_, ?_, ?_, ?_⟩
        · rw [g _ (by omega) (by omega) (by omega) (by omega) (by omega) (by omega) (by omega), x28 _ (by omega)]; exact u1
        · rw [g _ (by omega) (by omega) (by omega) (by omega) (by omega) (by omega) (by omega), x28 _ (by omega)]; exact u2
        · rw [g _ (by omega) (by omega) (by omega) (by omega) (by omega) (by omega) (by omega), x28 _ (by omega)]; exact u3
        · simp (disch := omega) only [zp_sI1, Nat.reduceEqDiff, Nat.reduceLT, Nat.reduceLeDiff, Nat.reduceAdd, Nat.reduceMul, Nat.reduceSub, reduceCtorEq, Int32.reduceLT, Int32.reduceLE, not_true_eq_false, not_false_eq_true, and_true, true_and, and_false, false_and, or_true, true_or, or_false, false_or, ↓reduceIte, if_neg, if_pos]
        · simp (disch := omega) only [zp_sI1, Nat.reduceEqDiff, Nat.reduceLT, Nat.reduceLeDiff, Nat.reduceAdd, Nat.reduceMul, Nat.reduceSub, reduceCtorEq, Int32.reduceLT, Int32.reduceLE, not_true_eq_false, not_false_eq_true, and_true, true_and, and_false, false_and, or_true, true_or, or_false, false_or, ↓reduceIte, if_neg, if_pos]
        · simp (disch := omega) only [zp_sI1, Nat.reduceEqDiff, Nat.reduceLT, Nat.reduceLeDiff, Nat.reduceAdd, Nat.reduceMul, Nat.reduceSub, reduceCtorEq, Int32.reduceLT, Int32.reduceLE, not_true_eq_false, not_false_eq_true, and_true, true_and, and_false, false_and, or_true, true_or, or_false, false_or, ↓reduceIte, if_neg, if_pos]
        · simp (disch := omega) only [zp_sI1, Nat.reduceEqDiff, Nat.reduceLT, Nat.reduceLeDiff, Nat.reduceAdd, Nat.reduceMul, Nat.reduceSub, reduceCtorEq, Int32.reduceLT, Int32.reduceLE, not_true_eq_false, not_false_eq_true, and_true, true_and, and_false, false_and, or_true, true_or, or_false, false_or, ↓reduceIte, if_neg, if_pos]
        · simp (disch := omega) only [zp_sI1, Nat.reduceEqDiff, Nat.reduceLT, Nat.reduceLeDiff, Nat.reduceAdd, Nat.reduceMul, Nat.reduceSub, reduceCtorEq, Int32.reduceLT, Int32.reduceLE, not_true_eq_false, not_false_eq_true, and_true, true_and, and_false, false_and, or_true, true_or, or_false, false_or, ↓reduceIte, if_neg, if_pos]
        · simp (disch := omega) only [zp_sI1, Nat.reduceEqDiff, Nat.reduceLT, Nat.reduceLeDiff, Nat.reduceAdd, Nat.reduceMul, Nat.reduceSub, reduceCtorEq, Int32.reduceLT, Int32.reduceLE, not_true_eq_false, not_false_eq_true, and_true, true_and, and_false, false_and, or_true, true_or, or_false, false_or, ↓reduceIte, if_neg, if_pos]
      · simp only [zf_do, if_neg e1]
        exact zf_rb_c (fun j h1 h2 => by rw [g j (by omega) (by omega) (by omega) (by omega) (by omega) (by omega) (by omega), x28 j (by omega)]) (e q hq')
    · have hq' : q < n + 1 := by have : q < K.2.2.2.1 + 1 := hq; omega
      by_cases e1 : q = n
      · subst e1
        simp only [zf_do, hn, ↓reduceIte]
        rw [hs]
        have gx : ∀ j, j < 7 → (zi_sI (zi_sI (zi_sI (zi_sI (zi_sI (zi_sI (zi_sI My 28 0 (40 + 9 * i + 1) (nI (zf_bt E s b).1)) 28 0 (40 + 9 * i + 2) (nI (zf_bt E s b).2.1)) 28 0 (40 + 9 * i + 3) (zf_bt E s b).2.2.1) 28 0 (40 + 9 * i + 4) (zf_bt E s b).2.2.2.1) 28 0 (40 + 9 * i + 5) (zf_bt E s b).2.2.2.2.1) 28 0 (40 + 9 * i + 7) (zf_bt E s b).2.2.2.2.2) 28 0 4 (nI (q + 1))).1 28 0 (76 + 7 * q + j) = Mx.1 28 0 (76 + 7 * q + j) := fun j hj => g _ (by omega) (by omega) (by omega) (by omega) (by omega) (by omega) (by omega)
        refine ⟨?_, ?_, ?_, ?_, ?_, ?_, ?_⟩
        · rw [show 76 + 7 * q = 76 + 7 * q + 0 from rfl, gx 0 (by omega), hMx]; simp (disch := omega) only [zp_sI1, Nat.reduceEqDiff, Nat.reduceLT, Nat.reduceLeDiff, Nat.reduceAdd, Nat.reduceMul, Nat.reduceSub, reduceCtorEq, Int32.reduceLT, Int32.reduceLE, not_true_eq_false, not_false_eq_true, and_true, true_and, and_false, false_and, or_true, true_or, or_false, false_or, ↓reduceIte, if_neg, if_pos]
        · refine Eq.trans (gx 1 (by omega)) ?_; rw [hMx]; simp (disch := omega) only [zp_sI1, Nat.reduceEqDiff, Nat.reduceLT, Nat.reduceLeDiff, Nat.reduceAdd, Nat.reduceMul, Nat.reduceSub, reduceCtorEq, Int32.reduceLT, Int32.reduceLE, not_true_eq_false, not_false_eq_true, and_true, true_and, and_false, false_and, or_true, true_or, or_false, false_or, ↓reduceIte, if_neg, if_pos]
        · refine Eq.trans (gx 2 (by omega)) ?_; rw [hMx]; simp (disch := omega) only [zp_sI1, Nat.reduceEqDiff, Nat.reduceLT, Nat.reduceLeDiff, Nat.reduceAdd, Nat.reduceMul, Nat.reduceSub, reduceCtorEq, Int32.reduceLT, Int32.reduceLE, not_true_eq_false, not_false_eq_true, and_true, true_and, and_false, false_and, or_true, true_or, or_false, false_or, ↓reduceIte, if_neg, if_pos]
        · refine Eq.trans (gx 3 (by omega)) ?_; rw [hMx]; simp (disch := omega) only [zp_sI1, Nat.reduceEqDiff, Nat.reduceLT, Nat.reduceLeDiff, Nat.reduceAdd, Nat.reduceMul, Nat.reduceSub, reduceCtorEq, Int32.reduceLT, Int32.reduceLE, not_true_eq_false, not_false_eq_true, and_true, true_and, and_false, false_and, or_true, true_or, or_false, false_or, ↓reduceIte, if_neg, if_pos]
        · refine Eq.trans (gx 4 (by omega)) ?_; rw [hMx]; simp (disch := omega) only [zp_sI1, Nat.reduceEqDiff, Nat.reduceLT, Nat.reduceLeDiff, Nat.reduceAdd, Nat.reduceMul, Nat.reduceSub, reduceCtorEq, Int32.reduceLT, Int32.reduceLE, not_true_eq_false, not_false_eq_true, and_true, true_and, and_false, false_and, or_true, true_or, or_false, false_or, ↓reduceIte, if_neg, if_pos]
        · refine Eq.trans (gx 5 (by omega)) ?_; rw [hMx]; simp (disch := omega) only [zp_sI1, Nat.reduceEqDiff, Nat.reduceLT, Nat.reduceLeDiff, Nat.reduceAdd, Nat.reduceMul, Nat.reduceSub, reduceCtorEq, Int32.reduceLT, Int32.reduceLE, not_true_eq_false, not_false_eq_true, and_true, true_and, and_false, false_and, or_true, true_or, or_false, false_or, ↓reduceIte, if_neg, if_pos]
        · refine Eq.trans (gx 6 (by omega)) ?_; rw [hMx]; simp (disch := omega) only [zp_sI1, Nat.reduceEqDiff, Nat.reduceLT, Nat.reduceLeDiff, Nat.reduceAdd, Nat.reduceMul, Nat.reduceSub, reduceCtorEq, Int32.reduceLT, Int32.reduceLE, not_true_eq_false, not_false_eq_true, and_true, true_and, and_false, false_and, or_true, true_or, or_false, false_or, ↓reduceIte, if_neg, if_pos]
      · simp only [zf_do, hn, if_neg e1]
        exact zf_rl_c (fun j h1 h2 => by rw [g j (by omega) (by omega) (by omega) (by omega) (by omega) (by omega) (by omega), x28 j (by omega)]) (f q (by omega))
theorem zy_fC_ag {M M' : zi_M} (h : zy_fC M M') {g : Nat} (h0 : g ≠ 0) (h4 : g ≠ 4) : zq_ag g M M' := fun c k j e => h.2 c k j (fun q => by
  obtain ⟨q1, q2⟩ := q; subst q1; subst q2; exact h4 (by rw [← e]; simp [zq_gp])) (fun q => by
  obtain ⟨q1, q2⟩ := q; subst q1
  rcases q2 with q2 | q2 | q2
  · exact h4 (by rw [← e]; exact zq_g7 q2 j)
  · exact h0 (by rw [← e]; exact zq_g7n (by omega) (by omega) j)
  · exact h4 (by rw [← e]; exact zq_g7p (by omega) (by omega) j)) (fun q => by
  obtain ⟨q1, q2, q3⟩ := q; subst q1; subst q2; exact h4 (by rw [← e]; simp [zq_gp]))
theorem zy_fR_ag {M M' : zi_M} (h : zy_fR M M') {g : Nat} (h0 : g ≠ 0) (h4 : g ≠ 4) : zq_ag g M M' := fun c k j e => h.2 c k j (fun q => by
  subst q; exact h4 (by rw [← e]; simp [zq_gp])) (fun q => by
  obtain ⟨q1, q2, q3⟩ := q; subst q1; exact h0 (by rw [← e]; simp [zq_gp, show ¬ j = 8 from by omega, show ¬ j = 9 from by omega]))
theorem zf_cA_k {M M' : zi_M} {A : zf_A} (h : ∀ c k j, c = 0 ∨ c = 11 → M'.1 c k j = M.1 c k j) {a : Nat} (hr : zf_cA M a A) : zf_cA M' a A := by
  obtain ⟨p, q, c⟩ := hr
  exact ⟨by rw [h 0 a 1 (by omega), p], by rw [h 0 a 2 (by omega), q], fun x y hx hy => by rw [h 11 a _ (by omega)]; exact c x y hx hy⟩
theorem zf_cK_k {M M' : zi_M} {K : zf_K} (h : ∀ c k j, c = 1 ∨ c = 6 ∨ c = 7 ∨ c = 14 → M'.1 c k j = M.1 c k j) {s : Nat} (hr : zf_cK M s K) : zf_cK M' s K := by
  obtain ⟨a1, a2, a3, a4, a5⟩ := hr
  have e7 : ∀ k, M'.1 7 k = M.1 7 k := fun k => funext fun j => h 7 k j (by omega)
  refine ⟨by rw [h 6 s 5 (by omega), a1], by rw [h 6 s 4 (by omega), a2], by rw [h 6 s 6 (by omega), a3], fun i hi => ?_, fun n hn => ?_⟩
  · rw [h 1 _ 1 (by omega), h 1 _ 2 (by omega), h 1 _ 3 (by omega), e7]; exact a4 i hi
  · rw [h 14 _ _ (by omega), e7]; exact a5 n hn
theorem zy_fin {n : Nat} {xs : Nat → Int32} {M M1 M2 : zi_M} {A : zf_A} {K K' : zf_K} (hI : zq_inv n xs M) (hS : zq_sky M A K) (h1 : zy_fC M M1) (hk : zf_cK M1 0 K') (hok : zf_okK A K') (h2 : zy_fR M1 M2) (hRA : zf_rA (M2.1 28 0) A) (hR : zf_rK (M2.1 28 0) K') : zq_inv n xs M2 := by
  have ag : ∀ g, g ≠ 0 → g ≠ 4 → zq_ag g M M2 := fun g a b => zq_ag_tr (zy_fC_ag h1 a b) (zy_fR_ag h2 a b)
  refine zq_mk2 hI (ag 1 (by decide) (by decide)) (ag 2 (by decide) (by decide)) (ag 3 (by decide) (by decide)) (ag 5 (by decide) (by decide)) (fun a => ?_) (zq_sky_mk hS (ag 6 (by decide) (by decide)) hok ?_ ?_ hRA hR)
  · simp only [zq_longs, h2.1.trans h1.1] at a ⊢; exact a
  · exact zf_cA_k (fun c k j hc => h2.2 c k j (by omega) (by omega)) (zf_cA_fC h1 hS.2.2.1)
  · exact zf_cK_k (fun c k j hc => h2.2 c k j (by omega) (by omega)) hk
theorem zq_nb_vI {n : Nat} {xs : Nat → Int32} {M M2 : zi_M} (hI : zq_inv n xs M) (h : zq_nb M M2) (hl : M2.2 = M.2) : zq_inv n xs M2 := zq_inv_nb h (fun a => by
  simp only [zq_longs, hl] at a ⊢; exact a) hI
theorem zo_beat (d : Nat) {n : Nat} {xs : Nat → Int32} {M : zi_M} (hI : zq_inv n xs M) (i b : Int32) : zp_ok (zi_run (d + 5) zm_X9_beat 0 [some (.inr (.inr (9, some 0))), some (.inl i), some (.inl b), none] [] M) (zp_rf (d + 5) zm_X10_beat [some (.inr (.inr (10, some 0))), some (.inl i), some (.inl b)]) (zq_inv n xs) := by
  obtain ⟨A, K, hS⟩ := hI.2.2.2.2.1
  have h4 := hS.2.1.1
  have hR := hS.2.2.2.2.2.1
  rcases zp_int i with hi | ⟨i, hi, rfl⟩
  · simp (disch := omega) only [ze_X9_beat_0, ze_X10_beat_0, zc_birdN _ hi, zr_flyerN _ hi, ze_X5_room_0, ze_X5_size_0, ze_X5_isThere_0, ze_X5_has_0, ze_X5_hasRun_0, ze_X5_get_0, ze_X5_set_0, ze_X5_drop_0, ze_X5_takeRun_0, ze_X9_rowAt_0, ze_X9_textAt_0, ze_X9_refuse_0, ze_X10_isRow_0, ze_X10_isText_0, ze_X10_finds_0, ze_X10_tells_0, zp_in_0_5, zp_in_0_3, zp_in_0_7, zp_in_1_5, zp_in_0_9, zp_in_0_2, zp_in_48_57, zp_in_0_12, zp_in_1_4, zp_in_1_9, zp_in_1_2147483646, zp_in_0_8, zp_in_0, ↓zp_dn, ↓zp_hV, ↓zp_hI, ↓zp_hL, ↓zp_hR, ↓zp_hX, zp_eV, zp_eI, zp_eL, zp_eR, zp_eX, zp_eXl, zp_iV, zp_iI, zp_iL, zp_iR, ↓zp_sm, ↓zp_nls, ↓zp_nln, zp_bo0, zp_bo1, zp_okE, zp_ok2E, zp_rfE, ↓reduceIte, if_true, if_false, zp_ofn, zp_sI1, zp_w1, zp_sL1, zp_sR1, zp_l1, zp_leT, zp_leF, zp_ltT, zp_ltF, zp_eqT, zp_eqF, zp_leTl, zp_leFl, zp_ltTl, zp_ltFl, zp_leTr, zp_leFr, zp_ltTr, zp_ltFr, zp_eqTr, zp_eqFr, zp_eqTl, zp_eqFl, zp_eqFll, eq_self, zp_addl, zp_addr, zp_mull, zp_mulr, zp_subr, zp_subl, nI_add, pk_mul, Nat.reduceEqDiff, Nat.reduceLT, Nat.reduceLeDiff, Nat.reduceAdd, Nat.reduceMul, Nat.reduceSub, reduceCtorEq, Int32.reduceLT, Int32.reduceLE, not_true_eq_false, not_false_eq_true, and_true, true_and, and_false, false_and, or_true, true_or, or_false, false_or]; exact hI
  by_cases hiF : i < K.2.1
  case neg => simp (disch := omega) only [ze_X9_beat_0, ze_X10_beat_0, zc_birdF _ hS (Nat.le_of_not_lt hiF) hi, zr_flyerF _ hR (Nat.le_of_not_lt hiF) hi h4, ze_X5_room_0, ze_X5_size_0, ze_X5_isThere_0, ze_X5_has_0, ze_X5_hasRun_0, ze_X5_get_0, ze_X5_set_0, ze_X5_drop_0, ze_X5_takeRun_0, ze_X9_rowAt_0, ze_X9_textAt_0, ze_X9_refuse_0, ze_X10_isRow_0, ze_X10_isText_0, ze_X10_finds_0, ze_X10_tells_0, zp_in_0_5, zp_in_0_3, zp_in_0_7, zp_in_1_5, zp_in_0_9, zp_in_0_2, zp_in_48_57, zp_in_0_12, zp_in_1_4, zp_in_1_9, zp_in_1_2147483646, zp_in_0_8, zp_in_0, ↓zp_dn, ↓zp_hV, ↓zp_hI, ↓zp_hL, ↓zp_hR, ↓zp_hX, zp_eV, zp_eI, zp_eL, zp_eR, zp_eX, zp_eXl, zp_iV, zp_iI, zp_iL, zp_iR, ↓zp_sm, ↓zp_nls, ↓zp_nln, zp_bo0, zp_bo1, zp_okE, zp_ok2E, zp_rfE, ↓reduceIte, if_true, if_false, zp_ofn, zp_sI1, zp_w1, zp_sL1, zp_sR1, zp_l1, zp_leT, zp_leF, zp_ltT, zp_ltF, zp_eqT, zp_eqF, zp_leTl, zp_leFl, zp_ltTl, zp_ltFl, zp_leTr, zp_leFr, zp_ltTr, zp_ltFr, zp_eqTr, zp_eqFr, zp_eqTl, zp_eqFl, zp_eqFll, eq_self, zp_addl, zp_addr, zp_mull, zp_mulr, zp_subr, zp_subl, nI_add, pk_mul, Nat.reduceEqDiff, Nat.reduceLT, Nat.reduceLeDiff, Nat.reduceAdd, Nat.reduceMul, Nat.reduceSub, reduceCtorEq, Int32.reduceLT, Int32.reduceLE, not_true_eq_false, not_false_eq_true, and_true, true_and, and_false, false_and, or_true, true_or, or_false, false_or]; exact hI
  obtain ⟨hE, hok, hsp⟩ := zq_fl hS hiF
  rcases zp_int b with hb | ⟨b, hb, rfl⟩
  · simp (disch := omega) only [ze_X9_beat_0, ze_X10_beat_0, ze_X9_isBeat_0, zc_bird _ hS hiF, zr_flyer _ hR hiF h4, ze_X5_room_0, ze_X5_size_0, ze_X5_isThere_0, ze_X5_has_0, ze_X5_hasRun_0, ze_X5_get_0, ze_X5_set_0, ze_X5_drop_0, ze_X5_takeRun_0, ze_X9_rowAt_0, ze_X9_textAt_0, ze_X9_refuse_0, ze_X10_isRow_0, ze_X10_isText_0, ze_X10_finds_0, ze_X10_tells_0, zp_in_0_5, zp_in_0_3, zp_in_0_7, zp_in_1_5, zp_in_0_9, zp_in_0_2, zp_in_48_57, zp_in_0_12, zp_in_1_4, zp_in_1_9, zp_in_1_2147483646, zp_in_0_8, zp_in_0, ↓zp_dn, ↓zp_hV, ↓zp_hI, ↓zp_hL, ↓zp_hR, ↓zp_hX, zp_eV, zp_eI, zp_eL, zp_eR, zp_eX, zp_eXl, zp_iV, zp_iI, zp_iL, zp_iR, ↓zp_sm, ↓zp_nls, ↓zp_nln, zp_bo0, zp_bo1, zp_okE, zp_ok2E, zp_rfE, ↓reduceIte, if_true, if_false, zp_ofn, zp_sI1, zp_w1, zp_sL1, zp_sR1, zp_l1, zp_leT, zp_leF, zp_ltT, zp_ltF, zp_eqT, zp_eqF, zp_leTl, zp_leFl, zp_ltTl, zp_ltFl, zp_leTr, zp_leFr, zp_ltTr, zp_ltFr, zp_eqTr, zp_eqFr, zp_eqTl, zp_eqFl, zp_eqFll, eq_self, zp_addl, zp_addr, zp_mull, zp_mulr, zp_subr, zp_subl, nI_add, pk_mul, Nat.reduceEqDiff, Nat.reduceLT, Nat.reduceLeDiff, Nat.reduceAdd, Nat.reduceMul, Nat.reduceSub, reduceCtorEq, Int32.reduceLT, Int32.reduceLE, not_true_eq_false, not_false_eq_true, and_true, true_and, and_false, false_and, or_true, true_or, or_false, false_or, zp_n0 hb, zp_n1 hb, zp_n2 hb, zp_n3 hb, zp_n4 hb, zp_n3l hb, zp_n4l hb]; exact hI
  by_cases hb3 : b < 3
  case neg => simp (disch := omega) only [ze_X9_beat_0, ze_X10_beat_0, ze_X9_isBeat_0, zc_bird _ hS hiF, zr_flyer _ hR hiF h4, ze_X5_room_0, ze_X5_size_0, ze_X5_isThere_0, ze_X5_has_0, ze_X5_hasRun_0, ze_X5_get_0, ze_X5_set_0, ze_X5_drop_0, ze_X5_takeRun_0, ze_X9_rowAt_0, ze_X9_textAt_0, ze_X9_refuse_0, ze_X10_isRow_0, ze_X10_isText_0, ze_X10_finds_0, ze_X10_tells_0, zp_in_0_5, zp_in_0_3, zp_in_0_7, zp_in_1_5, zp_in_0_9, zp_in_0_2, zp_in_48_57, zp_in_0_12, zp_in_1_4, zp_in_1_9, zp_in_1_2147483646, zp_in_0_8, zp_in_0, ↓zp_dn, ↓zp_hV, ↓zp_hI, ↓zp_hL, ↓zp_hR, ↓zp_hX, zp_eV, zp_eI, zp_eL, zp_eR, zp_eX, zp_eXl, zp_iV, zp_iI, zp_iL, zp_iR, ↓zp_sm, ↓zp_nls, ↓zp_nln, zp_bo0, zp_bo1, zp_okE, zp_ok2E, zp_rfE, ↓reduceIte, if_true, if_false, zp_ofn, zp_sI1, zp_w1, zp_sL1, zp_sR1, zp_l1, zp_leT, zp_leF, zp_ltT, zp_ltF, zp_eqT, zp_eqF, zp_leTl, zp_leFl, zp_ltTl, zp_ltFl, zp_leTr, zp_leFr, zp_ltTr, zp_ltFr, zp_eqTr, zp_eqFr, zp_eqTl, zp_eqFl, zp_eqFll, eq_self, zp_addl, zp_addr, zp_mull, zp_mulr, zp_subr, zp_subl, nI_add, pk_mul, Nat.reduceEqDiff, Nat.reduceLT, Nat.reduceLeDiff, Nat.reduceAdd, Nat.reduceMul, Nat.reduceSub, reduceCtorEq, Int32.reduceLT, Int32.reduceLE, not_true_eq_false, not_false_eq_true, and_true, true_and, and_false, false_and, or_true, true_or, or_false, false_or]; exact hI
  have k0 : M.1 6 0 5 = K.1 := hS.2.2.2.1.1
  have nbd : zq_nb M (zp_bd M (zf_en A K i)) := zq_nb_bd (zq_nb_rfl M) _
  have hS1 := zq_sky_nb nbd hS
  have pf : ∀ D, zi_run (D + 3) zm_X9_perform 0 [some (.inr (.inr (9, some 0))), some (.inl (nI i)), some (.inr (.inr (1, some i))), some (.inl (nI b)), none] [] (zp_bd M (zf_en A K i)) = _ := fun D => zc_perform D hE hS1.2.1 hS1.2.2.2.1 hiF (zp_bd_E (E := zf_en A K i) hS.2.2.1) hb3
  have r4 : M.1 28 0 4 = nI K.2.2.2.1 := hR.2.2.1
  have h40 := hS.2.1.2.1
  by_cases hcan : zf_can A (zf_sp K i) b
  case neg =>
    rw [ze_X9_beat_0]
    simp (disch := omega) only [zc_bird _ hS hiF, ze_X9_isBeat_0, k0, zc_board _ hS hiF, pf, if_neg hcan, ↓zp_dn, ↓zp_hV, ↓zp_hI, ↓zp_hL, ↓zp_hR, ↓zp_hX, zp_eV, zp_eI, zp_eL, zp_eR, zp_eX, zp_eXl, zp_iV, zp_iI, zp_iL, zp_iR, ↓zp_sm, ↓zp_nls, ↓zp_nln, zp_bo0, zp_bo1, zp_okE, zp_ok2E, zp_rfE, ↓reduceIte, if_true, if_false, zp_leT, zp_leF, zp_ltT, zp_ltF, zp_eqT, zp_eqF, zp_leTl, zp_leFl, zp_ltTl, zp_ltFl, zp_leTr, zp_leFr, zp_ltTr, zp_ltFr, zp_eqTr, zp_eqFr, zp_eqTl, zp_eqFl, zp_eqFll, eq_self, zp_addl, zp_addr, zp_mull, zp_mulr, zp_subr, zp_subl, nI_add, pk_mul]
    rw [ze_X10_beat_0]
    have hE1 := zp_rt_E (M := zp_bd M (zf_en A K i)) (E := zf_en A K i) hS1.2.2.2.2.1 (zf_sp K i)
    have hs1 := zp_rt_is (zp_bd M (zf_en A K i)) (zf_en A K i) (zf_sp K i)
    simp (disch := omega) only [zr_flyer _ hS1.2.2.2.2.2.1 hiF h4, zr_takes (A := A) _ hS1.2.2.2.2.2.1 hiF h4, zr_canBeat (E := zf_en A K i) _ hE hE1 hs1 hok.1 hok.2.1 hb3, if_neg hcan, ze_X5_room_0, ze_X5_size_0, ze_X5_isThere_0, ze_X5_has_0, ze_X5_hasRun_0, ze_X5_get_0, ze_X5_set_0, ze_X5_drop_0, ze_X5_takeRun_0, ze_X9_rowAt_0, ze_X9_textAt_0, ze_X9_refuse_0, ze_X10_isRow_0, ze_X10_isText_0, ze_X10_finds_0, ze_X10_tells_0, zp_in_0_5, zp_in_0_3, zp_in_0_7, zp_in_1_5, zp_in_0_9, zp_in_0_2, zp_in_48_57, zp_in_0_12, zp_in_1_4, zp_in_1_9, zp_in_1_2147483646, zp_in_0_8, zp_in_0, ↓zp_dn, ↓zp_hV, ↓zp_hI, ↓zp_hL, ↓zp_hR, ↓zp_hX, zp_eV, zp_eI, zp_eL, zp_eR, zp_eX, zp_eXl, zp_iV, zp_iI, zp_iL, zp_iR, ↓zp_sm, ↓zp_nls, ↓zp_nln, zp_bo0, zp_bo1, zp_okE, zp_ok2E, zp_rfE, ↓reduceIte, if_true, if_false, zp_ofn, zp_sI1, zp_w1, zp_sL1, zp_sR1, zp_l1, zp_leT, zp_leF, zp_ltT, zp_ltF, zp_eqT, zp_eqF, zp_leTl, zp_leFl, zp_ltTl, zp_ltFl, zp_leTr, zp_leFr, zp_ltTr, zp_ltFr, zp_eqTr, zp_eqFr, zp_eqTl, zp_eqFl, zp_eqFll, eq_self, zp_addl, zp_addr, zp_mull, zp_mulr, zp_subr, zp_subl, nI_add, pk_mul, Nat.reduceEqDiff, Nat.reduceLT, Nat.reduceLeDiff, Nat.reduceAdd, Nat.reduceMul, Nat.reduceSub, reduceCtorEq, Int32.reduceLT, Int32.reduceLE, not_true_eq_false, not_false_eq_true, and_true, true_and, and_false, false_and, or_true, true_or, or_false, false_or]
    exact zq_nb_vI hI (zq_nb_rt nbd _ _) rfl
  by_cases hlt : K.2.2.2.1 < 40
  case neg =>
    have hnb : zq_nb M (zp_sp (zp_bd M (zf_en A K i)) 40 (zf_bt (zf_en A K i) (zf_sp K i) b)) := zq_nb_sp nbd (by omega) (by omega) _
    have hS2 := zq_sky_nb hnb hS
    rw [ze_X9_beat_0]
    simp (disch := omega) only [zc_bird _ hS hiF, ze_X9_isBeat_0, k0, zc_board _ hS hiF, pf, if_pos hcan, if_neg hlt, ↓zp_dn, ↓zp_hV, ↓zp_hI, ↓zp_hL, ↓zp_hR, ↓zp_hX, zp_eV, zp_eI, zp_eL, zp_eR, zp_eX, zp_eXl, zp_iV, zp_iI, zp_iL, zp_iR, ↓zp_sm, ↓zp_nls, ↓zp_nln, zp_bo0, zp_bo1, zp_okE, zp_ok2E, zp_rfE, ↓reduceIte, if_true, if_false, zp_leT, zp_leF, zp_ltT, zp_ltF, zp_eqT, zp_eqF, zp_leTl, zp_leFl, zp_ltTl, zp_ltFl, zp_leTr, zp_leFr, zp_ltTr, zp_ltFr, zp_eqTr, zp_eqFr, zp_eqTl, zp_eqFl, zp_eqFll, eq_self, zp_addl, zp_addr, zp_mull, zp_mulr, zp_subr, zp_subl, nI_add, pk_mul]
    rw [ze_X10_beat_0]
    have hE1 := zp_rt_E (M := zp_sp (zp_bd M (zf_en A K i)) 40 (zf_bt (zf_en A K i) (zf_sp K i) b)) (E := zf_en A K i) hS2.2.2.2.2.1 (zf_sp K i)
    have hs1 := zp_rt_is (zp_sp (zp_bd M (zf_en A K i)) 40 (zf_bt (zf_en A K i) (zf_sp K i) b)) (zf_en A K i) (zf_sp K i)
    have r42 : (zp_rt (zp_sp (zp_bd M (zf_en A K i)) 40 (zf_bt (zf_en A K i) (zf_sp K i) b)) (zf_en A K i) (zf_sp K i)).1 28 0 4 = nI K.2.2.2.1 := hS2.2.2.2.2.2.1.2.2.1
    simp (disch := omega) only [zr_flyer _ hS2.2.2.2.2.2.1 hiF h4, zr_takes (A := A) _ hS2.2.2.2.2.2.1 hiF h4, zr_canBeat (E := zf_en A K i) _ hE hE1 hs1 hok.1 hok.2.1 hb3, if_pos hcan, zp_1n0, r42, ze_X5_room_0, ze_X5_size_0, ze_X5_isThere_0, ze_X5_has_0, ze_X5_hasRun_0, ze_X5_get_0, ze_X5_set_0, ze_X5_drop_0, ze_X5_takeRun_0, ze_X9_rowAt_0, ze_X9_textAt_0, ze_X9_refuse_0, ze_X10_isRow_0, ze_X10_isText_0, ze_X10_finds_0, ze_X10_tells_0, zp_in_0_5, zp_in_0_3, zp_in_0_7, zp_in_1_5, zp_in_0_9, zp_in_0_2, zp_in_48_57, zp_in_0_12, zp_in_1_4, zp_in_1_9, zp_in_1_2147483646, zp_in_0_8, zp_in_0, ↓zp_dn, ↓zp_hV, ↓zp_hI, ↓zp_hL, ↓zp_hR, ↓zp_hX, zp_eV, zp_eI, zp_eL, zp_eR, zp_eX, zp_eXl, zp_iV, zp_iI, zp_iL, zp_iR, ↓zp_sm, ↓zp_nls, ↓zp_nln, zp_bo0, zp_bo1, zp_okE, zp_ok2E, zp_rfE, ↓reduceIte, if_true, if_false, zp_ofn, zp_sI1, zp_w1, zp_sL1, zp_sR1, zp_l1, zp_leT, zp_leF, zp_ltT, zp_ltF, zp_eqT, zp_eqF, zp_leTl, zp_leFl, zp_ltTl, zp_ltFl, zp_leTr, zp_leFr, zp_ltTr, zp_ltFr, zp_eqTr, zp_eqFr, zp_eqTl, zp_eqFl, zp_eqFll, eq_self, zp_addl, zp_addr, zp_mull, zp_mulr, zp_subr, zp_subl, nI_add, pk_mul, Nat.reduceEqDiff, Nat.reduceLT, Nat.reduceLeDiff, Nat.reduceAdd, Nat.reduceMul, Nat.reduceSub, reduceCtorEq, Int32.reduceLT, Int32.reduceLE, not_true_eq_false, not_false_eq_true, and_true, true_and, and_false, false_and, or_true, true_or, or_false, false_or]
    exact zq_nb_vI hI (zq_nb_rt hnb _ _) rfl
  have fC1 := zy_fM (zp_bd M (zf_en A K i)) (K := K) (i := i) (by omega) hlt (zf_bt (zf_en A K i) (zf_sp K i) b)
  have cK1 := zy_M_cK hS1.2.1 hS1.2.2.2.1 hiF b hlt
  generalize hM1 : zy_M (zp_bd M (zf_en A K i)) K i (zf_bt (zf_en A K i) (zf_sp K i) b) = M1 at fC1 cK1
  have e28 : M1.1 28 0 = M.1 28 0 := funext fun j => fC1.2 28 0 j (by omega) (by omega) (by omega)
  have hA2 : zf_rA (M1.1 28 0) A := by rw [e28]; exact hS.2.2.2.2.1
  have hR2 : zf_rK (M1.1 28 0) K := by rw [e28]; exact hR
  have hA3 : zf_rA ((zp_rt M1 (zf_en A K i) (zf_sp K i)).1 28 0) A := hA2
  have hR3 : zf_rK ((zp_rt M1 (zf_en A K i) (zf_sp K i)).1 28 0) K := hR2
  obtain ⟨M2, q1, q2, q3, q4, q5⟩ := zr_does d hE hS.2.1 hA3 hR3 hiF hb3 hcan hlt
  have hE1 := zp_rt_E (M := M1) (E := zf_en A K i) hA2 (zf_sp K i)
  have hs1 := zp_rt_is M1 (zf_en A K i) (zf_sp K i)
  have r42 : (zp_rt M1 (zf_en A K i) (zf_sp K i)).1 28 0 4 = nI K.2.2.2.1 := hR2.2.2.1
  rw [ze_X9_beat_0]
  simp (disch := omega) only [zc_bird _ hS hiF, ze_X9_isBeat_0, k0, zc_board _ hS hiF, pf, if_pos hcan, if_pos hlt, hM1, ↓zp_dn, ↓zp_hV, ↓zp_hI, ↓zp_hL, ↓zp_hR, ↓zp_hX, zp_eV, zp_eI, zp_eL, zp_eR, zp_eX, zp_eXl, zp_iV, zp_iI, zp_iL, zp_iR, ↓zp_sm, ↓zp_nls, ↓zp_nln, zp_bo0, zp_bo1, zp_okE, zp_ok2E, zp_rfE, ↓reduceIte, if_true, if_false, zp_leT, zp_leF, zp_ltT, zp_ltF, zp_eqT, zp_eqF, zp_leTl, zp_leFl, zp_ltTl, zp_ltFl, zp_leTr, zp_leFr, zp_ltTr, zp_ltFr, zp_eqTr, zp_eqFr, zp_eqTl, zp_eqFl, zp_eqFll, eq_self, zp_addl, zp_addr, zp_mull, zp_mulr, zp_subr, zp_subl, nI_add, pk_mul]
  rw [ze_X10_beat_0]
  simp (disch := omega) only [zr_flyer _ hR2 hiF h4, zr_takes (A := A) _ hR2 hiF h4, zr_canBeat (E := zf_en A K i) _ hE hE1 hs1 hok.1 hok.2.1 hb3, if_pos hcan, zp_1n0, r42, q1, q3, ze_X5_room_0, ze_X5_size_0, ze_X5_isThere_0, ze_X5_has_0, ze_X5_hasRun_0, ze_X5_get_0, ze_X5_set_0, ze_X5_drop_0, ze_X5_takeRun_0, ze_X9_rowAt_0, ze_X9_textAt_0, ze_X9_refuse_0, ze_X10_isRow_0, ze_X10_isText_0, ze_X10_finds_0, ze_X10_tells_0, zp_in_0_5, zp_in_0_3, zp_in_0_7, zp_in_1_5, zp_in_0_9, zp_in_0_2, zp_in_48_57, zp_in_0_12, zp_in_1_4, zp_in_1_9, zp_in_1_2147483646, zp_in_0_8, zp_in_0, ↓zp_dn, ↓zp_hV, ↓zp_hI, ↓zp_hL, ↓zp_hR, ↓zp_hX, zp_eV, zp_eI, zp_eL, zp_eR, zp_eX, zp_eXl, zp_iV, zp_iI, zp_iL, zp_iR, ↓zp_sm, ↓zp_nls, ↓zp_nln, zp_bo0, zp_bo1, zp_okE, zp_ok2E, zp_rfE, ↓reduceIte, if_true, if_false, zp_ofn, zp_sI1, zp_w1, zp_sL1, zp_sR1, zp_l1, zp_leT, zp_leF, zp_ltT, zp_ltF, zp_eqT, zp_eqF, zp_leTl, zp_leFl, zp_ltTl, zp_ltFl, zp_leTr, zp_leFr, zp_ltTr, zp_ltFr, zp_eqTr, zp_eqFr, zp_eqTl, zp_eqFl, zp_eqFll, eq_self, zp_addl, zp_addr, zp_mull, zp_mulr, zp_subr, zp_subl, nI_add, pk_mul, Nat.reduceEqDiff, Nat.reduceLT, Nat.reduceLeDiff, Nat.reduceAdd, Nat.reduceMul, Nat.reduceSub, reduceCtorEq, Int32.reduceLT, Int32.reduceLE, not_true_eq_false, not_false_eq_true, and_true, true_and, and_false, false_and, or_true, true_or, or_false, false_or]
  exact zy_fin (zq_nb_vI hI nbd rfl) hS1 fC1 cK1 (zf_do_ok hE hS.2.1 hiF hb3 hcan hlt) (zy_fR_tr (zy_fR_rt M1 _ _) q2) q4 q5
