/-! THE PURE PART: the class's Walker gives the WAYS one by one -/
theorem zp_p1 (a : Nat) : nI (a + 1) - 1 = nI a := pk_sub (a := a + 1) (b := 1) (by omega)
def zw_st (M : zi_M) (E : zf_E) (m : Nat) (sp : Nat → zf_S) (nb : Nat → Nat) : Prop := zf_cE M E ∧ M.1 8 0 3 = nI m - 1 ∧ m ≤ 7 ∧ ∀ j, j < m → zf_is (M.1 7 (20 + j)) (sp j) ∧ (sp j).1 < E.1.1 ∧ (sp j).2.1 < E.1.2.1 ∧ nb j ≤ 3 ∧ M.1 17 0 j = nI (nb j) - 1 ∧ (j + 1 < m → 1 ≤ nb j)
/-- what the walker may change -/
def zw_fr (M M' : zi_M) : Prop := M'.2 = M.2 ∧ ∀ c k j, c ≠ 8 → c ≠ 17 → ¬ (c = 7 ∧ 20 ≤ k ∧ k < 27) → M'.1 c k j = M.1 c k j
theorem zw_fr_rfl (M : zi_M) : zw_fr M M := ⟨rfl, fun _ _ _ _ _ _ => rfl⟩
theorem zw_fr_tr {M M1 M2 : zi_M} (h : zw_fr M M1) (h2 : zw_fr M1 M2) : zw_fr M M2 := ⟨h2.1.trans h.1, fun c k j a b e => (h2.2 c k j a b e).trans (h.2 c k j a b e)⟩
theorem zw_fr_8 {M M1 : zi_M} (h : zw_fr M M1) (s : Nat) (x : Int32) : zw_fr M (zi_sI M1 8 0 s x) := ⟨h.1, fun c k j a b e => by rw [zp_sI1, if_neg a]; exact h.2 c k j a b e⟩
theorem zw_fr_17 {M M1 : zi_M} (h : zw_fr M M1) (s : Nat) (x : Int32) : zw_fr M (zi_sI M1 17 0 s x) := ⟨h.1, fun c k j a b e => by rw [zp_sI1, if_neg b]; exact h.2 c k j a b e⟩
theorem zw_fr_sp {M M1 : zi_M} (h : zw_fr M M1) {k : Nat} (h1 : 20 ≤ k) (h2 : k < 27) (s : zf_S) : zw_fr M (zp_sp M1 k s) := ⟨h.1, fun c k' j a b e => by
  rw [zp_sp1]
  by_cases h7 : c = 7
  · by_cases hk : k' = k
    · exact absurd ⟨h7, by omega, by omega⟩ e
    · rw [if_pos h7, if_neg hk]; exact h.2 c k' j a b e
  · rw [if_neg h7]; exact h.2 c k' j a b e⟩
theorem zf_cE_fr {M M' : zi_M} {E : zf_E} (h : zw_fr M M') (hE : zf_cE M E) : zf_cE M' E := by
  obtain ⟨⟨e1, e2, e3⟩, f1, f2, f3, f4⟩ := hE
  have e : ∀ c k j, c = 0 ∨ c = 2 ∨ c = 11 → M'.1 c k j = M.1 c k j := fun c k j hc => h.2 c k j (by omega) (by omega) (by omega)
  exact ⟨⟨by rw [e 0 0 1 (by omega), e1], by rw [e 0 0 2 (by omega), e2], fun x y hx hy => by rw [e 11 _ _ (by omega)]; exact e3 x y hx hy⟩, by rw [e 2 0 1 (by omega), f1], by rw [e 2 0 2 (by omega), f2], by rw [e 2 0 3 (by omega), f3], by rw [e 2 0 4 (by omega), f4]⟩
theorem zw_fr_nb {M M' : zi_M} (h : zw_fr M M') : zq_nb M M' := by
  intro c k s e
  refine h.2 c k s ?_ ?_ ?_
  · intro hc; subst hc; exact e (by simp [zq_gp])
  · intro hc; subst hc; exact e (by simp [zq_gp])
  · intro hc; obtain ⟨a, b, c'⟩ := hc; subst a; exact e (zq_g7n (by omega) (by omega) s)
/-- pc 34, no place on the trail -/
theorem zw_s0 (d cnt : Nat) {M : zi_M} (h8 : M.1 8 0 3 = -1) (hc : cnt < 100000) : zi_run (d + 3) zm_X8_findNext 34 [some (.inr (.inr (8, some 0))), none, some (.inl (nI cnt))] [] M = some (some (.inl 0), M) := by
  rw [ze_X8_findNext_34]
  simp (disch := omega) only [↓zp_dn, ↓zp_hV, ↓zp_hI, ↓zp_hL, ↓zp_hR, ↓zp_hX, zp_eV, zp_eI, zp_eL, zp_eR, zp_eX, zp_eXl, zp_iV, zp_iI, zp_iL, zp_iR, ↓zp_sm, ↓zp_nls, ↓zp_nln, zp_bo0, zp_bo1, zp_okE, zp_ok2E, zp_rfE, ↓reduceIte, if_true, if_false, zp_leT, zp_leF, zp_ltT, zp_ltF, zp_eqT, zp_eqF, zp_leTl, zp_leFl, zp_ltTl, zp_ltFl, zp_leTr, zp_leFr, zp_ltTr, zp_ltFr, zp_eqTr, zp_eqFr, zp_eqTl, zp_eqFl, zp_eqFll, eq_self, zp_addl, zp_addr, zp_mull, zp_mulr, zp_subr, zp_subl, nI_add, pk_mul, h8, zp_m10]
theorem zw_s1 (d cnt : Nat) {M : zi_M} {E : zf_E} {m : Nat} {sp : Nat → zf_S} {nb : Nat → Nat} (hA : zf_okE E.1) (h : zw_st M E (m + 1) sp nb) (hc : cnt < 100000) (hp : 6 ≤ m ∨ nb m = 3 ∨ zf_over E.1 (sp m)) : zi_run (d + 3) zm_X8_findNext 34 [some (.inr (.inr (8, some 0))), none, some (.inl (nI cnt))] [] M = zi_run (d + 3) zm_X8_findNext 34 [some (.inr (.inr (8, some 0))), none, some (.inl (nI (cnt + 1)))] [] (zi_sI M 8 0 3 (nI m - 1)) := by
  obtain ⟨hE, h8, h7, hj⟩ := h
  rw [zp_p1] at h8
  obtain ⟨i1, i2, i3, i4, i5, _⟩ := hj m (by omega)
  rw [ze_X8_findNext_34]
  by_cases h6 : 6 ≤ m
  · simp (disch := omega) only [↓zp_dn, ↓zp_hV, ↓zp_hI, ↓zp_hL, ↓zp_hR, ↓zp_hX, zp_eV, zp_eI, zp_eL, zp_eR, zp_eX, zp_eXl, zp_iV, zp_iI, zp_iL, zp_iR, ↓zp_sm, ↓zp_nls, ↓zp_nln, zp_bo0, zp_bo1, zp_okE, zp_ok2E, zp_rfE, ↓reduceIte, if_true, if_false, zp_leT, zp_leF, zp_ltT, zp_ltF, zp_eqT, zp_eqF, zp_leTl, zp_leFl, zp_ltTl, zp_ltFl, zp_leTr, zp_leFr, zp_ltTr, zp_ltFr, zp_eqTr, zp_eqFr, zp_eqTl, zp_eqFl, zp_eqFll, eq_self, zp_addl, zp_addr, zp_mull, zp_mulr, zp_subr, zp_subl, nI_add, pk_mul, h8, ze_X8_findNext_88, ze_X8_findNext_197]
  · by_cases h3 : nb m = 3
    · have hb : 2 ≤ M.1 17 0 m := by rw [i5, h3]; decide
      simp (disch := omega) only [↓zp_dn, ↓zp_hV, ↓zp_hI, ↓zp_hL, ↓zp_hR, ↓zp_hX, zp_eV, zp_eI, zp_eL, zp_eR, zp_eX, zp_eXl, zp_iV, zp_iI, zp_iL, zp_iR, ↓zp_sm, ↓zp_nls, ↓zp_nln, zp_bo0, zp_bo1, zp_okE, zp_ok2E, zp_rfE, ↓reduceIte, if_true, if_false, zp_leT, zp_leF, zp_ltT, zp_ltF, zp_eqT, zp_eqF, zp_leTl, zp_leFl, zp_ltTl, zp_ltFl, zp_leTr, zp_leFr, zp_ltTr, zp_ltFr, zp_eqTr, zp_eqFr, zp_eqTl, zp_eqFl, zp_eqFll, eq_self, zp_addl, zp_addr, zp_mull, zp_mulr, zp_subr, zp_subl, nI_add, pk_mul, h8, ze_X8_findNext_88, ze_X8_findNext_197, if_pos hb]
    · have ho : zf_over E.1 (sp m) := by rcases hp with e | e | e
                                         · exact absurd e h6
                                         · exact absurd e h3
                                         · exact e
      by_cases hb : 2 ≤ M.1 17 0 m
      · simp (disch := omega) only [↓zp_dn, ↓zp_hV, ↓zp_hI, ↓zp_hL, ↓zp_hR, ↓zp_hX, zp_eV, zp_eI, zp_eL, zp_eR, zp_eX, zp_eXl, zp_iV, zp_iI, zp_iL, zp_iR, ↓zp_sm, ↓zp_nls, ↓zp_nln, zp_bo0, zp_bo1, zp_okE, zp_ok2E, zp_rfE, ↓reduceIte, if_true, if_false, zp_leT, zp_leF, zp_ltT, zp_ltF, zp_eqT, zp_eqF, zp_leTl, zp_leFl, zp_ltTl, zp_ltFl, zp_leTr, zp_leFr, zp_ltTr, zp_ltFr, zp_eqTr, zp_eqFr, zp_eqTl, zp_eqFl, zp_eqFll, eq_self, zp_addl, zp_addr, zp_mull, zp_mulr, zp_subr, zp_subl, nI_add, pk_mul, h8, ze_X8_findNext_88, ze_X8_findNext_197, if_pos hb]
      · simp (disch := omega) only [↓zp_dn, ↓zp_hV, ↓zp_hI, ↓zp_hL, ↓zp_hR, ↓zp_hX, zp_eV, zp_eI, zp_eL, zp_eR, zp_eX, zp_eXl, zp_iV, zp_iI, zp_iL, zp_iR, ↓zp_sm, ↓zp_nls, ↓zp_nln, zp_bo0, zp_bo1, zp_okE, zp_ok2E, zp_rfE, ↓reduceIte, if_true, if_false, zp_leT, zp_leF, zp_ltT, zp_ltF, zp_eqT, zp_eqF, zp_leTl, zp_leFl, zp_ltTl, zp_ltFl, zp_leTr, zp_leFr, zp_ltTr, zp_ltFr, zp_eqTr, zp_eqFr, zp_eqTl, zp_eqFl, zp_eqFll, eq_self, zp_addl, zp_addr, zp_mull, zp_mulr, zp_subr, zp_subl, nI_add, pk_mul, h8, if_neg hb, zc_isOver _ hA hE.1 i1.1 i2, if_pos ho, ze_X8_findNext_88, ze_X8_findNext_197]
theorem zw_pop {M : zi_M} {E : zf_E} {m : Nat} {sp : Nat → zf_S} {nb : Nat → Nat} (h : zw_st M E (m + 1) sp nb) : zw_st (zi_sI M 8 0 3 (nI m - 1)) E m sp nb := by
  obtain ⟨hE, h8, h7, hj⟩ := h
  refine ⟨zf_cE_fr (zw_fr_8 (zw_fr_rfl M) _ _) hE, by simp [zp_sI1], by omega, fun j hjm => ?_⟩
  obtain ⟨i1, i2, i3, i4, i5, i6⟩ := hj j (by omega)
  exact ⟨by simpa [zf_is, zp_sI1] using i1, i2, i3, i4, by simpa [zp_sI1] using i5, fun _ => i6 (by omega)⟩
/-- the place before a BEAT that is tried -/
theorem zw_mb {M : zi_M} {E : zf_E} {m : Nat} {sp : Nat → zf_S} {nb : Nat → Nat} (h : zw_st M E (m + 1) sp nb) (hn : nb m < 3) : zw_st (zi_sI M 17 0 m (nI (nb m))) E (m + 1) sp (zw_n1 nb m) := by
  obtain ⟨hE, h8, h7, hj⟩ := h
  refine ⟨zf_cE_fr (zw_fr_17 (zw_fr_rfl M) _ _) hE, by simp [zp_sI1, h8], by omega, fun j hjm => ?_⟩
  obtain ⟨i1, i2, i3, i4, i5, i6⟩ := hj j hjm
  by_cases e : j = m
  · subst e
    refine ⟨by simpa [zf_is, zp_sI1] using i1, i2, i3, by simp only [zw_n1, if_true]; omega, ?_, fun h => by omega⟩
    simp only [zp_sI1, zw_n1, if_true, zp_p1]
  · refine ⟨by simpa [zf_is, zp_sI1] using i1, i2, i3, by simp only [zw_n1, if_neg e]; exact i4, ?_, fun h => by simp only [zw_n1, if_neg e]; exact i6 h⟩
    simp only [zp_sI1, zw_n1, if_neg e, if_true]; exact i5
theorem zw_mf {M : zi_M} {E : zf_E} {m : Nat} {sp : Nat → zf_S} {nb : Nat → Nat} (h : zw_st M E (m + 1) sp nb) (hm : m < 6) (t : zf_S) : zw_st (zp_sp M (20 + (m + 1)) t) E (m + 1) sp nb := by
  obtain ⟨hE, h8, h7, hj⟩ := h
  refine ⟨zf_cE_fr (zw_fr_sp (zw_fr_rfl M) (by omega) (by omega) _) hE, by simp [zp_sp1, h8], h7, fun j hjm => ?_⟩
  obtain ⟨i1, i2, i3, i4, i5, i6⟩ := hj j hjm
  exact ⟨by simpa [zf_is, zp_sp1, show ¬ j = m + 1 from by omega] using i1, i2, i3, i4, by simpa [zp_sp1] using i5, i6⟩
theorem zw_m2 {M : zi_M} {E : zf_E} {m : Nat} {sp : Nat → zf_S} {nb : Nat → Nat} {t : zf_S} (h : zw_st M E (m + 1) sp (zw_n1 nb m)) (hm : m < 6) (ht : zf_is (M.1 7 (20 + (m + 1))) t) (h1 : t.1 < E.1.1) (h2 : t.2.1 < E.1.2.1) : zw_st (zi_sI (zi_sI M 8 0 3 (nI (m + 1))) 17 0 (m + 1) (-1)) E (m + 2) (zw_s2 sp m t) (zw_n2 nb m) := by
  obtain ⟨hE, h8, h7, hj⟩ := h
  refine ⟨zf_cE_fr (zw_fr_17 (zw_fr_8 (zw_fr_rfl M) _ _) _ _) hE, by simp only [zp_sI1, Nat.reduceEqDiff, Nat.reduceLT, Nat.reduceLeDiff, Nat.reduceAdd, Nat.reduceMul, Nat.reduceSub, reduceCtorEq, Int32.reduceLT, Int32.reduceLE, not_true_eq_false, not_false_eq_true, and_true, true_and, and_false, false_and, or_true, true_or, or_false, false_or, ↓reduceIte]; exact (zp_p1 (m + 1)).symm, by omega, fun j hjm => ?_⟩
  by_cases e : j = m + 1
  · subst e
    refine ⟨by simpa [zf_is, zp_sI1, zw_s2] using ht, by simpa [zw_s2] using h1, by simpa [zw_s2] using h2, by simp [zw_n2], ?_, fun h => by omega⟩
    simp only [zp_sI1, zw_n2, ↓reduceIte]; decide
  · obtain ⟨i1, i2, i3, i4, i5, i6⟩ := hj j (by omega)
    refine ⟨by simpa [zf_is, zp_sI1, zw_s2, e] using i1, by simpa [zw_s2, e] using i2, by simpa [zw_s2, e] using i3, by simpa [zw_n2, e] using i4, by simpa [zp_sI1, zw_n2, e] using i5, fun _ => ?_⟩
    simp only [zw_n2, if_neg e, zw_n1]
    by_cases e2 : j = m
    · simp [e2]
    · rw [if_neg e2]
      have := i6 (by omega)
      simpa [zw_n1, e2] using this
/-- pc 34, a BEAT is tried -/
theorem zw_s2r (d cnt : Nat) {M : zi_M} {E : zf_E} {m : Nat} {sp : Nat → zf_S} {nb : Nat → Nat} (hA : zf_okE E.1) (h : zw_st M E (m + 1) sp nb) (hc : cnt < 100000) (hm : m < 6) (hn : nb m < 3) (ho : ¬ zf_over E.1 (sp m)) : zi_run (d + 3) zm_X8_findNext 34 [some (.inr (.inr (8, some 0))), none, some (.inl (nI cnt))] [] M = if zf_can E.1 (sp m) (nb m) then (if zf_fell E (zf_mv E (sp m) (nb m)) = 0 then (if zf_over E.1 (zf_bt E (sp m) (nb m)) then some (some (.inl 1), zi_sI (zi_sI (zp_sp (zi_sI M 17 0 m (nI (nb m))) (20 + (m + 1)) (zf_bt E (sp m) (nb m))) 8 0 3 (nI (m + 1))) 17 0 (m + 1) (-1)) else zi_run (d + 3) zm_X8_findNext 34 [some (.inr (.inr (8, some 0))), none, some (.inl (nI (cnt + 1)))] [] (zi_sI (zi_sI (zp_sp (zi_sI M 17 0 m (nI (nb m))) (20 + (m + 1)) (zf_bt E (sp m) (nb m))) 8 0 3 (nI (m + 1))) 17 0 (m + 1) (-1))) else zi_run (d + 3) zm_X8_findNext 34 [some (.inr (.inr (8, some 0))), none, some (.inl (nI (cnt + 1)))] [] (zp_sp (zi_sI M 17 0 m (nI (nb m))) (20 + (m + 1)) (zf_bt E (sp m) (nb m)))) else zi_run (d + 3) zm_X8_findNext 34 [some (.inr (.inr (8, some 0))), none, some (.inl (nI (cnt + 1)))] [] (zi_sI M 17 0 m (nI (nb m))) := by
  have hb1 := zw_mb h hn
  obtain ⟨hE, h8, h7, hj⟩ := h
  rw [zp_p1] at h8
  obtain ⟨i1, i2, i3, i4, i5, _⟩ := hj m (by omega)
  obtain ⟨j1, j2, j3, _⟩ := hb1.2.2.2 m (by omega)
  have hcs : nb m = 0 ∨ nb m = 1 ∨ nb m = 2 := by omega
  have hb : ¬ 2 ≤ M.1 17 0 m := by rw [i5]; rcases hcs with e | e | e <;> rw [e] <;> decide
  have hinc : M.1 17 0 m + 1 = nI (nb m) := by rw [i5]; rcases hcs with e | e | e <;> rw [e] <;> decide
  have hm1 : nI m + 1 = nI (m + 1) := nI_1 m
  have hz : ¬ (-1 : Int32) = 0 := by decide
  rw [ze_X8_findNext_34]
  by_cases hcan : zf_can E.1 (sp m) (nb m)
  · rw [if_pos hcan]
    have hbt := zf_bt1 hA hcan
    by_cases hf : zf_fell E (zf_mv E (sp m) (nb m)) = 0
    · rw [if_pos hf]
      have hE2 : zf_cA (zi_sI (zi_sI (zp_sp (zi_sI M 17 0 m (nI (nb m))) (20 + (m + 1)) (zf_bt E (sp m) (nb m))) 8 0 3 (nI (m + 1))) 17 0 (m + 1) (-1)) 0 E.1 := (zf_cE_fr (zw_fr_17 (zw_fr_8 (zw_fr_sp (zw_fr_17 (zw_fr_rfl M) _ _) (by omega) (by omega) _) _ _) _ _) hE).1
      have hi2 : (zi_sI (zi_sI (zp_sp (zi_sI M 17 0 m (nI (nb m))) (20 + (m + 1)) (zf_bt E (sp m) (nb m))) 8 0 3 (nI (m + 1))) 17 0 (m + 1) (-1)).1 7 (20 + (m + 1)) 0 = nI (zf_bt E (sp m) (nb m)).1 := by
        simp only [zp_sI1, zp_sp1, Nat.reduceEqDiff, Nat.reduceLT, Nat.reduceLeDiff, Nat.reduceAdd, Nat.reduceMul, Nat.reduceSub, reduceCtorEq, Int32.reduceLT, Int32.reduceLE, not_true_eq_false, not_false_eq_true, and_true, true_and, and_false, false_and, or_true, true_or, or_false, false_or, ↓reduceIte]; exact (zf_wr0 _ _).1
      by_cases ho2 : zf_over E.1 (zf_bt E (sp m) (nb m))
      · rw [if_pos ho2]
        simp (disch := omega) only [↓zp_dn, ↓zp_hV, ↓zp_hI, ↓zp_hL, ↓zp_hR, ↓zp_hX, zp_eV, zp_eI, zp_eL, zp_eR, zp_eX, zp_eXl, zp_iV, zp_iI, zp_iL, zp_iR, ↓zp_sm, ↓zp_nls, ↓zp_nln, zp_bo0, zp_bo1, zp_okE, zp_ok2E, zp_rfE, ↓reduceIte, if_true, if_false, zp_leT, zp_leF, zp_ltT, zp_ltF, zp_eqT, zp_eqF, zp_leTl, zp_leFl, zp_ltTl, zp_ltFl, zp_leTr, zp_leFr, zp_ltTr, zp_ltFr, zp_eqTr, zp_eqFr, zp_eqTl, zp_eqFl, zp_eqFll, eq_self, zp_addl, zp_addr, zp_mull, zp_mulr, zp_subr, zp_subl, nI_add, pk_mul, zp_sI1, zp_w1, zp_sL1, zp_sR1, Nat.reduceEqDiff, Nat.reduceLT, Nat.reduceLeDiff, Nat.reduceAdd, Nat.reduceMul, Nat.reduceSub, reduceCtorEq, Int32.reduceLT, Int32.reduceLE, not_true_eq_false, not_false_eq_true, and_true, true_and, and_false, false_and, or_true, true_or, or_false, false_or, h8, if_neg hb, zc_isOver _ hA hE.1 i1.1 i2, if_neg ho, hinc, hm1, zc_fly _ hA hb1.1 j1 j2 j3 hn, if_pos hcan, if_pos hf, zp_sp1, zc_isOver _ hA hE2 hi2 hbt.1, if_pos ho2]
      · rw [if_neg ho2]
        simp (disch := omega) only [↓zp_dn, ↓zp_hV, ↓zp_hI, ↓zp_hL, ↓zp_hR, ↓zp_hX, zp_eV, zp_eI, zp_eL, zp_eR, zp_eX, zp_eXl, zp_iV, zp_iI, zp_iL, zp_iR, ↓zp_sm, ↓zp_nls, ↓zp_nln, zp_bo0, zp_bo1, zp_okE, zp_ok2E, zp_rfE, ↓reduceIte, if_true, if_false, zp_leT, zp_leF, zp_ltT, zp_ltF, zp_eqT, zp_eqF, zp_leTl, zp_leFl, zp_ltTl, zp_ltFl, zp_leTr, zp_leFr, zp_ltTr, zp_ltFr, zp_eqTr, zp_eqFr, zp_eqTl, zp_eqFl, zp_eqFll, eq_self, zp_addl, zp_addr, zp_mull, zp_mulr, zp_subr, zp_subl, nI_add, pk_mul, zp_sI1, zp_w1, zp_sL1, zp_sR1, Nat.reduceEqDiff, Nat.reduceLT, Nat.reduceLeDiff, Nat.reduceAdd, Nat.reduceMul, Nat.reduceSub, reduceCtorEq, Int32.reduceLT, Int32.reduceLE, not_true_eq_false, not_false_eq_true, and_true, true_and, and_false, false_and, or_true, true_or, or_false, false_or, h8, if_neg hb, zc_isOver _ hA hE.1 i1.1 i2, if_neg ho, hinc, hm1, zc_fly _ hA hb1.1 j1 j2 j3 hn, if_pos hcan, if_pos hf, zp_sp1, zc_isOver _ hA hE2 hi2 hbt.1, if_neg ho2, ze_X8_findNext_197]
    · rw [if_neg hf]
      simp (disch := omega) only [↓zp_dn, ↓zp_hV, ↓zp_hI, ↓zp_hL, ↓zp_hR, ↓zp_hX, zp_eV, zp_eI, zp_eL, zp_eR, zp_eX, zp_eXl, zp_iV, zp_iI, zp_iL, zp_iR, ↓zp_sm, ↓zp_nls, ↓zp_nln, zp_bo0, zp_bo1, zp_okE, zp_ok2E, zp_rfE, ↓reduceIte, if_true, if_false, zp_leT, zp_leF, zp_ltT, zp_ltF, zp_eqT, zp_eqF, zp_leTl, zp_leFl, zp_ltTl, zp_ltFl, zp_leTr, zp_leFr, zp_ltTr, zp_ltFr, zp_eqTr, zp_eqFr, zp_eqTl, zp_eqFl, zp_eqFll, eq_self, zp_addl, zp_addr, zp_mull, zp_mulr, zp_subr, zp_subl, nI_add, pk_mul, zp_sI1, zp_w1, zp_sL1, zp_sR1, Nat.reduceEqDiff, Nat.reduceLT, Nat.reduceLeDiff, Nat.reduceAdd, Nat.reduceMul, Nat.reduceSub, reduceCtorEq, Int32.reduceLT, Int32.reduceLE, not_true_eq_false, not_false_eq_true, and_true, true_and, and_false, false_and, or_true, true_or, or_false, false_or, h8, if_neg hb, zc_isOver _ hA hE.1 i1.1 i2, if_neg ho, hinc, hm1, zc_fly _ hA hb1.1 j1 j2 j3 hn, if_pos hcan, if_neg hf, ze_X8_findNext_197]
  · rw [if_neg hcan]
    simp (disch := omega) only [↓zp_dn, ↓zp_hV, ↓zp_hI, ↓zp_hL, ↓zp_hR, ↓zp_hX, zp_eV, zp_eI, zp_eL, zp_eR, zp_eX, zp_eXl, zp_iV, zp_iI, zp_iL, zp_iR, ↓zp_sm, ↓zp_nls, ↓zp_nln, zp_bo0, zp_bo1, zp_okE, zp_ok2E, zp_rfE, ↓reduceIte, if_true, if_false, zp_leT, zp_leF, zp_ltT, zp_ltF, zp_eqT, zp_eqF, zp_leTl, zp_leFl, zp_ltTl, zp_ltFl, zp_leTr, zp_leFr, zp_ltTr, zp_ltFr, zp_eqTr, zp_eqFr, zp_eqTl, zp_eqFl, zp_eqFll, eq_self, zp_addl, zp_addr, zp_mull, zp_mulr, zp_subr, zp_subl, nI_add, pk_mul, zp_sI1, zp_w1, zp_sL1, zp_sR1, Nat.reduceEqDiff, Nat.reduceLT, Nat.reduceLeDiff, Nat.reduceAdd, Nat.reduceMul, Nat.reduceSub, reduceCtorEq, Int32.reduceLT, Int32.reduceLE, not_true_eq_false, not_false_eq_true, and_true, true_and, and_false, false_and, or_true, true_or, or_false, false_or, h8, if_neg hb, zc_isOver _ hA hE.1 i1.1 i2, if_neg ho, hinc, hm1, zc_fly _ hA hb1.1 j1 j2 j3 hn, if_neg hcan, if_neg hz, ze_X8_findNext_197]
/-- what findNext answers -/
def zw_out (M : zi_M) (E : zf_E) (s0 : zf_S) (ws : List zw_w) (o : zi_O) : Prop := match ws with
  | [] => ∃ M', o = some (some (.inl 0), M') ∧ zw_fr M M'
  | w :: ws' => ∃ M' m sp nb, o = some (some (.inl 1), M') ∧ zw_fr M M' ∧ M'.1 8 0 4 = M.1 8 0 4 ∧ zw_st M' E (m + 1) sp nb ∧ sp 0 = s0 ∧ zw_pa sp nb m = w ∧ zw_re E sp nb (m + 1) = ws' ∧ zw_mu nb (m + 1) ≤ 2185
theorem zw_out_fr {M M1 : zi_M} {E : zf_E} {s0 : zf_S} {ws : List zw_w} {o : zi_O} (h : zw_fr M M1) (h4 : M1.1 8 0 4 = M.1 8 0 4) (ho : zw_out M1 E s0 ws o) : zw_out M E s0 ws o := by
  cases ws with
  | nil => obtain ⟨M', a, b⟩ := ho; exact ⟨M', a, zw_fr_tr h b⟩
  | cons w ws => obtain ⟨M', m, sp, nb, a, b, c, e⟩ := ho; exact ⟨M', m, sp, nb, a, zw_fr_tr h b, c.trans h4, e⟩
theorem zw_loop (d : Nat) {E : zf_E} (hA : zf_okE E.1) {s0 : zf_S} : ∀ (N cnt : Nat) (M : zi_M) (m : Nat) (sp : Nat → zf_S) (nb : Nat → Nat), zw_st M E m sp nb → sp 0 = s0 → zw_mu nb m ≤ N → N ≤ 2185 → cnt + N < 100000 → zw_out M E s0 (zw_re E sp nb m) (zi_run (d + 3) zm_X8_findNext 34 [some (.inr (.inr (8, some 0))), none, some (.inl (nI cnt))] [] M) := by
  intro N
  induction N with
  | zero =>
    intro cnt M m sp nb h _ hmu _ hc
    cases m with
    | zero => exact ⟨M, zw_s0 d cnt (h.2.1.trans (by decide)) (by omega), zw_fr_rfl M⟩
    | succ m => have := zw_mu_pop nb m; omega
  | succ N ih =>
    intro cnt M m sp nb h hs hmu hN hc
    cases m with
    | zero => exact ⟨M, zw_s0 d cnt (h.2.1.trans (by decide)) (by omega), zw_fr_rfl M⟩
    | succ m =>
      obtain ⟨i1, i2, i3, i4, i5, _⟩ := h.2.2.2 m (by omega)
      by_cases hp : 6 ≤ m ∨ nb m = 3 ∨ zf_over E.1 (sp m)
      · rw [zw_s1 d cnt hA h (by omega) hp]
        have e : zw_fm E (sp m) (nb m) m = [] := by
          rcases hp with e | e | e
          · exact zw_fm_six e _
          · exact zw_fm_three (by omega) _
          · exact zw_fm_over e _ _
        rw [zw_re_pop e]
        have := zw_mu_pop nb m
        exact zw_out_fr (zw_fr_8 (zw_fr_rfl M) _ _) (by simp [zp_sI1]) (ih (cnt + 1) _ m sp nb (zw_pop h) hs (by omega) (by omega) (by omega))
      · have hm : m < 6 := by omega
        have hn : nb m < 3 := by omega
        have ho : ¬ zf_over E.1 (sp m) := fun e => hp (Or.inr (Or.inr e))
        have hb1 := zw_mb h hn
        rw [zw_s2r d cnt hA h (by omega) hm hn ho]
        have mu1 := zw_mu_fail hm hn
        have mu2 := zw_mu_push hm hn
        by_cases hcan : zf_can E.1 (sp m) (nb m)
        · rw [if_pos hcan]
          have hbt := zf_bt1 hA hcan
          have hf1 := zw_mf hb1 hm (zf_bt E (sp m) (nb m))
          by_cases hf : zf_fell E (zf_mv E (sp m) (nb m)) = 0
          · rw [if_pos hf]
            have h2 := zw_m2 hf1 hm (zp_sp_is _ _ _) hbt.1 hbt.2
            by_cases ho2 : zf_over E.1 (zf_bt E (sp m) (nb m))
            · rw [if_pos ho2, zw_re_hit ho hm hn ⟨hcan, hf⟩ ho2]
              exact ⟨_, m + 1, _, _, rfl, zw_fr_17 (zw_fr_8 (zw_fr_sp (zw_fr_17 (zw_fr_rfl M) _ _) (by omega) (by omega) _) _ _) _ _, by simp [zp_sI1, zp_sp1], h2, by simpa [zw_s2] using hs, rfl, rfl, by
                have q : zw_mu (zw_n2 nb m) (m + 1 + 1) + 1 ≤ zw_mu nb (m + 1) := mu2
                omega⟩
            · rw [if_neg ho2, zw_re_push ho hm hn ⟨hcan, hf⟩ ho2]
              exact zw_out_fr (zw_fr_17 (zw_fr_8 (zw_fr_sp (zw_fr_17 (zw_fr_rfl M) _ _) (by omega) (by omega) _) _ _) _ _) (by simp [zp_sI1, zp_sp1]) (ih (cnt + 1) _ (m + 2) _ _ h2 (by simpa [zw_s2] using hs) (by omega) (by omega) (by omega))
          · rw [if_neg hf, zw_re_fail ho hm hn (fun e => hf e.2)]
            exact zw_out_fr (zw_fr_sp (zw_fr_17 (zw_fr_rfl M) _ _) (by omega) (by omega) _) (by simp [zp_sI1, zp_sp1]) (ih (cnt + 1) _ (m + 1) _ _ hf1 hs (by omega) (by omega) (by omega))
        · rw [if_neg hcan, zw_re_fail ho hm hn (fun e => hcan e.1)]
          exact zw_out_fr (zw_fr_17 (zw_fr_rfl M) _ _) (by simp [zp_sI1]) (ih (cnt + 1) _ (m + 1) _ _ hb1 hs (by omega) (by omega) (by omega))
/-- the walker will give these WAYS -/
def zw_I (M : zi_M) (E : zf_E) (s0 : zf_S) (ws : List zw_w) : Prop := zf_okE E.1 ∧ zf_cE M E ∧ zf_is (M.1 7 20) s0 ∧ s0.1 < E.1.1 ∧ s0.2.1 < E.1.2.1 ∧ ((M.1 8 0 4 = 1 ∧ M.1 8 0 3 = 0 ∧ M.1 17 0 0 = -1 ∧ ws = zw_ways E 6 s0) ∨ (M.1 8 0 4 = 0 ∧ ∃ m sp nb, zw_st M E (m + 1) sp nb ∧ sp 0 = s0 ∧ zw_mu nb (m + 1) ≤ 2185 ∧ zw_re E sp nb (m + 1) = ws))
/-- the WAY at which it stands -/
def zw_cur (M : zi_M) (s0 : zf_S) (w : zw_w) : Prop := M.1 8 0 3 = nI w.length ∧ w.length ≤ 6 ∧ zf_is (M.1 7 20) s0 ∧ ∀ j q, w[j]? = some q → M.1 17 0 j = nI q.1 ∧ zf_is (M.1 7 (20 + (j + 1))) q.2
theorem zw_st_cur {M : zi_M} {E : zf_E} {m : Nat} {sp : Nat → zf_S} {nb : Nat → Nat} (h : zw_st M E (m + 1) sp nb) : zw_cur M (sp 0) (zw_pa sp nb m) := by
  obtain ⟨hE, h8, h7, hj⟩ := h
  rw [zp_p1] at h8
  refine ⟨by rw [zw_pa_len]; exact h8, by rw [zw_pa_len]; omega, (hj 0 (by omega)).1, fun j q hq => ?_⟩
  have hjm : j < m := by
    have := (List.getElem?_eq_some_iff.mp hq).1
    rw [zw_pa_len] at this; exact this
  rw [zw_pa_at sp nb m j hjm] at hq
  cases hq
  obtain ⟨_, _, _, _, i5, i6⟩ := hj j (by omega)
  have h1 := i6 (by omega)
  refine ⟨?_, (hj (j + 1) (by omega)).1⟩
  rw [i5]; exact pk_sub h1
theorem zw_I_of {M M' : zi_M} {E : zf_E} {s0 : zf_S} {m : Nat} {sp : Nat → zf_S} {nb : Nat → Nat} (hA : zf_okE E.1) (h4 : M'.1 8 0 4 = 0) (h : zw_st M' E (m + 1) sp nb) (hs : sp 0 = s0) (hmu : zw_mu nb (m + 1) ≤ 2185) : zw_I M' E s0 (zw_re E sp nb (m + 1)) := by
  obtain ⟨i1, i2, i3, _⟩ := h.2.2.2 0 (by omega)
  rw [hs] at i1 i2 i3
  exact ⟨hA, h.1, i1, i2, i3, Or.inr ⟨h4, m, sp, nb, h, hs, hmu, rfl⟩⟩
def zw_nx (M : zi_M) (E : zf_E) (s0 : zf_S) (ws : List zw_w) (o : zi_O) : Prop := match ws with
  | [] => ∃ M', o = some (some (.inl 0), M') ∧ zw_fr M M'
  | w :: ws' => ∃ M', o = some (some (.inl 1), M') ∧ zw_fr M M' ∧ zw_I M' E s0 ws' ∧ zw_cur M' s0 w
theorem zw_out_nx {M : zi_M} {E : zf_E} {s0 : zf_S} {ws : List zw_w} {o : zi_O} (hA : zf_okE E.1) (h4 : M.1 8 0 4 = 0) (h : zw_out M E s0 ws o) : zw_nx M E s0 ws o := by
  cases ws with
  | nil => exact h
  | cons w ws =>
    obtain ⟨M', m, sp, nb, a, b, c, e1, e2, e3, e4, e5⟩ := h
    refine ⟨M', a, b, ?_, ?_⟩
    · rw [← e4]; exact zw_I_of (M := M) hA (c.trans h4) e1 e2 e5
    · rw [← e3, ← e2]; exact zw_st_cur e1
theorem zw_nx_fr {M M1 : zi_M} {E : zf_E} {s0 : zf_S} {ws : List zw_w} {o : zi_O} (h : zw_fr M M1) (ho : zw_nx M1 E s0 ws o) : zw_nx M E s0 ws o := by
  cases ws with
  | nil => obtain ⟨M', a, b⟩ := ho; exact ⟨M', a, zw_fr_tr h b⟩
  | cons w ws => obtain ⟨M', a, b, c⟩ := ho; exact ⟨M', a, zw_fr_tr h b, c⟩
theorem zw_st4 {M : zi_M} {E : zf_E} {m : Nat} {sp : Nat → zf_S} {nb : Nat → Nat} (h : zw_st M E m sp nb) (x : Int32) : zw_st (zi_sI M 8 0 4 x) E m sp nb := by
  obtain ⟨hE, h8, h7, hj⟩ := h
  refine ⟨zf_cE_fr (zw_fr_8 (zw_fr_rfl M) _ _) hE, by simp [zp_sI1, h8], h7, fun j hjm => ?_⟩
  obtain ⟨i1, i2, i3, i4, i5, i6⟩ := hj j hjm
  exact ⟨by simpa [zf_is, zp_sI1] using i1, i2, i3, i4, by simpa [zp_sI1] using i5, i6⟩
theorem zw_next (d : Nat) {M : zi_M} {E : zf_E} {s0 : zf_S} {ws : List zw_w} (h : zw_I M E s0 ws) : zw_nx M E s0 ws (zi_run (d + 3) zm_X8_findNext 0 [some (.inr (.inr (8, some 0))), none, none] [] M) := by
  obtain ⟨hA, hE, h20, hc, hh, h⟩ := h
  have f4 : zw_fr M (zi_sI M 8 0 4 0) := zw_fr_8 (zw_fr_rfl M) _ _
  have z4 : (zi_sI M 8 0 4 0).1 8 0 4 = 0 := by simp [zp_sI1]
  refine zw_nx_fr f4 ?_
  rcases h with ⟨a1, a2, a3, a4⟩ | ⟨a1, m, sp, nb, a2, a3, a4, a5⟩
  · have st1 : zw_st (zi_sI M 8 0 4 0) E 1 (fun _ => s0) (fun _ => 0) := by
      refine zw_st4 ⟨hE, a2.trans (by decide), by omega, fun j hj => ?_⟩ 0
      have e : j = 0 := by omega
      subst e
      exact ⟨h20, hc, hh, by omega, a3.trans (by decide), fun h => by omega⟩
    have mu1 : zw_mu (fun _ => 0) 1 ≤ 2185 := by decide
    have n1 : ¬ (1 : Int32) = 0 := by decide
    rw [ze_X8_findNext_0, a1, if_neg n1]
    have hE4 := zf_cE_fr f4 hE
    have h20' : (zi_sI M 8 0 4 0).1 7 (20 + 0) 0 = nI s0.1 := by simpa [zp_sI1] using h20.1
    by_cases ho : zf_over E.1 s0
    · simp (disch := omega) only [↓zp_dn, ↓zp_hV, ↓zp_hI, ↓zp_hL, ↓zp_hR, ↓zp_hX, zp_eV, zp_eI, zp_eL, zp_eR, zp_eX, zp_eXl, zp_iV, zp_iI, zp_iL, zp_iR, ↓zp_sm, ↓zp_nls, ↓zp_nln, zp_bo0, zp_bo1, zp_okE, zp_ok2E, zp_rfE, ↓reduceIte, if_true, if_false, zp_leT, zp_leF, zp_ltT, zp_ltF, zp_eqT, zp_eqF, zp_leTl, zp_leFl, zp_ltTl, zp_ltFl, zp_leTr, zp_leFr, zp_ltTr, zp_ltFr, zp_eqTr, zp_eqFr, zp_eqTl, zp_eqFl, zp_eqFll, eq_self, zp_addl, zp_addr, zp_mull, zp_mulr, zp_subr, zp_subl, nI_add, pk_mul, zc_isOver _ hA hE4.1 h20' hc, if_pos ho]
      rw [a4, zw_ways_over E 6 s0 ho]
      refine ⟨_, rfl, zw_fr_rfl _, ?_, ?_⟩
      · have := zw_I_of (M := M) (m := 0) hA z4 st1 rfl mu1
        have e : zw_re E (fun _ => s0) (fun _ => 0) (0 + 1) = [] := by simp only [zw_re, zw_fm_over ho]; rfl
        rw [e] at this; exact this
      · exact zw_st_cur (m := 0) st1
    · simp (disch := omega) only [↓zp_dn, ↓zp_hV, ↓zp_hI, ↓zp_hL, ↓zp_hR, ↓zp_hX, zp_eV, zp_eI, zp_eL, zp_eR, zp_eX, zp_eXl, zp_iV, zp_iI, zp_iL, zp_iR, ↓zp_sm, ↓zp_nls, ↓zp_nln, zp_bo0, zp_bo1, zp_okE, zp_ok2E, zp_rfE, ↓reduceIte, if_true, if_false, zp_leT, zp_leF, zp_ltT, zp_ltF, zp_eqT, zp_eqF, zp_leTl, zp_leFl, zp_ltTl, zp_ltFl, zp_leTr, zp_leFr, zp_ltTr, zp_ltFr, zp_eqTr, zp_eqFr, zp_eqTl, zp_eqFl, zp_eqFll, eq_self, zp_addl, zp_addr, zp_mull, zp_mulr, zp_subr, zp_subl, nI_add, pk_mul, zc_isOver _ hA hE4.1 h20' hc, if_neg ho, ze_X8_findNext_32]
      have e : zw_re E (fun _ => s0) (fun _ => 0) 1 = ws := by
        rw [a4]
        have w6 : zw_ways E (5 + 1) s0 = zw_fm E s0 0 0 := by
          rw [zw_ways, if_neg ho, zw_fm, if_neg ho, if_neg (by omega), if_pos (by omega), if_pos (by omega), if_pos (by omega)]
        have w7 : zw_re E (fun _ => s0) (fun _ => 0) 1 = zw_fm E s0 0 0 := by
          simp [zw_re, zw_pa]
        rw [w7]; exact w6.symm
      rw [← e]
      exact zw_out_nx hA z4 (zw_loop d hA 2185 0 _ 1 _ _ st1 rfl mu1 (by omega) (by omega))
  · rw [ze_X8_findNext_0, a1]
    simp only [↓reduceIte, ze_X8_findNext_32]
    rw [← a5]
    exact zw_out_nx hA z4 (zw_loop d hA 2185 0 _ (m + 1) sp nb (zw_st4 a2 0) a3 a4 (by omega) (by omega))
