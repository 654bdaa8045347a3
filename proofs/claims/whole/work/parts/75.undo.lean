/-! THE PURE PART: undo -/
def zu_s (K : zf_K) (j : Nat) : zf_K := (K.1, K.2.1, (fun q => if q = (K.2.2.2.2 j).1 then ((K.2.2.1 q).1, (K.2.2.1 q).2.1, (K.2.2.1 q).2.2.1, (K.2.2.2.2 j).2) else K.2.2.1 q), j, K.2.2.2.2)
def zu_l : Nat → zf_K → zf_K
  | 0, K => K
  | k + 1, K => zu_l k (zu_s K (K.2.2.2.1 - 1))
theorem zu_s_ok {A : zf_A} {K : zf_K} (hok : zf_okK A K) {j : Nat} (hj : j < K.2.2.2.1) : zf_okK A (zu_s K j) := by
  refine ⟨hok.1, by show j ≤ 40; have := hok.2.1; omega, fun q hq => ?_, fun q hq => hok.2.2.2 q (by have : q < j := hq; omega)⟩
  have h1 := hok.2.2.1 q hq
  by_cases e : q = (K.2.2.2.2 j).1
  · simp only [zu_s, if_pos e]
    exact ⟨(hok.2.2.2 j hj).2, h1.2⟩
  · simp only [zu_s, if_neg e]; exact h1
/-- in the class the number of BEATS comes last -/
theorem zc_undoL (d : Nat) {A : zf_A} {B n : Nat} (hB : B ≤ 40) : ∀ (k : Nat) (K : zf_K) (M : zi_M), n + k = K.2.2.2.1 → K.2.2.2.1 ≤ B → zf_okK A K → M.1 6 0 6 = nI B → zf_cK (zi_sI M 6 0 6 (nI K.2.2.2.1)) 0 K → ∃ M', zi_run (d + 1) zm_X6_goBack 14 [some (.inr (.inr (6, some 0))), some (.inl (nI n)), some (.inl (nI (B - K.2.2.2.1))), some (.inl (nI K.2.2.2.1 - 1)), none] [] M = some (some (.inl (nI (B - n))), M') ∧ zy_fC M M' ∧ zf_cK M' 0 (zu_l k K) ∧ zf_okK A (zu_l k K) := by
  intro k
  induction k with
  | zero =>
    intro K M hn hKB hok h6 hcK
    have e : K.2.2.2.1 = n := by omega
    refine ⟨zi_sI M 6 0 6 (nI n), ?_, ⟨rfl, fun c k j _ _ h => ?_⟩, by rw [← e]; exact hcK, hok⟩
    · rw [e, ze_X6_goBack_14]
      rcases Nat.eq_zero_or_pos n with e0 | e0
      · subst e0
        simp (disch := omega) only [↓zp_dn, ↓zp_hV, ↓zp_hI, ↓zp_hL, ↓zp_hR, ↓zp_hX, zp_eV, zp_eI, zp_eL, zp_eR, zp_eX, zp_eXl, zp_iV, zp_iI, zp_iL, zp_iR, ↓zp_sm, ↓zp_nls, ↓zp_nln, zp_bo0, zp_bo1, zp_okE, zp_ok2E, zp_rfE, ↓reduceIte, if_true, if_false, zp_leT, zp_leF, zp_ltT, zp_ltF, zp_eqT, zp_eqF, zp_leTl, zp_leFl, zp_ltTl, zp_ltFl, zp_leTr, zp_leFr, zp_ltTr, zp_ltFr, zp_eqTr, zp_eqFr, zp_eqTl, zp_eqFl, zp_eqFll, eq_self, zp_addl, zp_addr, zp_mull, zp_mulr, zp_subr, zp_subl, nI_add, pk_mul, zp_0m1, zp_m10, ze_X6_goBack_63, h6, Nat.sub_zero]
        rw [pk_sub (Nat.le_refl B), Nat.sub_self]
      · have em : nI n - 1 = nI (n - 1) := pk_sub (b := 1) e0
        simp (disch := omega) only [↓zp_dn, ↓zp_hV, ↓zp_hI, ↓zp_hL, ↓zp_hR, ↓zp_hX, zp_eV, zp_eI, zp_eL, zp_eR, zp_eX, zp_eXl, zp_iV, zp_iI, zp_iL, zp_iR, ↓zp_sm, ↓zp_nls, ↓zp_nln, zp_bo0, zp_bo1, zp_okE, zp_ok2E, zp_rfE, ↓reduceIte, if_true, if_false, zp_leT, zp_leF, zp_ltT, zp_ltF, zp_eqT, zp_eqF, zp_leTl, zp_leFl, zp_ltTl, zp_ltFl, zp_leTr, zp_leFr, zp_ltTr, zp_ltFr, zp_eqTr, zp_eqFr, zp_eqTl, zp_eqFl, zp_eqFll, eq_self, zp_addl, zp_addr, zp_mull, zp_mulr, zp_subr, zp_subl, nI_add, pk_mul, ze_X6_goBack_63, h6]
        rw [pk_sub (by omega), show B - (B - n) = n from by omega]
    · rw [zp_sI1]
      by_cases q1 : c = 6
      · by_cases q2 : j = 6
        · by_cases q3 : k = 0
          · exact absurd ⟨q1, q3, q2⟩ h
          · simp [q3]
        · simp [q2]
      · simp [q1]
  | succ k ih =>
    intro K M hn hKB hok h6 hcK
    obtain ⟨a1, a2, a3, a4, a5⟩ := hcK
    have hb : K.2.2.2.1 - 1 < K.2.2.2.1 := by omega
    obtain ⟨w1, w2⟩ := a5 (K.2.2.2.1 - 1) hb
    have hwK := (hok.2.2.2 (K.2.2.2.1 - 1) hb).1
    have h4 := hok.1
    rw [Nat.mul_zero, Nat.add_zero] at w2
    have w1' : M.1 14 0 (K.2.2.2.1 - 1) = nI (K.2.2.2.2 (K.2.2.2.1 - 1)).1 := w1
    have w2' : zf_is (M.1 7 (100 + (K.2.2.2.1 - 1))) (K.2.2.2.2 (K.2.2.2.1 - 1)).2 := w2
    have f4 : M.1 6 0 4 = nI K.2.1 := a2
    have em : nI K.2.2.2.1 - 1 = nI (K.2.2.2.1 - 1) := pk_sub (b := 1) (by omega)
    have fr : zy_fC M (zp_sp M (K.2.2.2.2 (K.2.2.2.1 - 1)).1 (K.2.2.2.2 (K.2.2.2.1 - 1)).2) := ⟨rfl, fun c q j _ b _ => by rw [zp_sp1, zp_h1 (fun z => b ⟨z.1, by omega⟩)]⟩
    have hcK2 : zf_cK (zi_sI (zp_sp M (K.2.2.2.2 (K.2.2.2.1 - 1)).1 (K.2.2.2.2 (K.2.2.2.1 - 1)).2) 6 0 6 (nI (K.2.2.2.1 - 1))) 0 (zu_s K (K.2.2.2.1 - 1)) := by
      refine ⟨by simpa [zp_sI1, zp_sp1, zu_s] using a1, by simpa [zp_sI1, zp_sp1, zu_s] using a2, by simp [zp_sI1, zu_s], fun q hq => ?_, fun q hq => ?_⟩
      · have hq' : q < K.2.1 := hq
        obtain ⟨b1, b2, b3, b4⟩ := a4 q hq'
        rw [Nat.mul_zero, Nat.zero_add] at b1 b2 b3 b4 ⊢
        by_cases e : q = (K.2.2.2.2 (K.2.2.2.1 - 1)).1
        · simp only [zu_s, if_pos e]
          refine ⟨b1, b2, b3, ?_⟩
          rw [e]
          exact zp_sp_is M _ _
        · simp only [zu_s, if_neg e]
          refine ⟨b1, b2, b3, ?_⟩
          have e7 : (zi_sI (zp_sp M (K.2.2.2.2 (K.2.2.2.1 - 1)).1 (K.2.2.2.2 (K.2.2.2.1 - 1)).2) 6 0 6 (nI (K.2.2.2.1 - 1))).1 7 q = M.1 7 q := funext fun j => by
            rw [zp_sI1, if_neg (by decide), zp_sp1, zp_h1 (fun z => e z.2)]
          rw [e7]; exact b4
      · have hq' : q < K.2.2.2.1 - 1 := hq
        obtain ⟨b1, b2⟩ := a5 q (by omega)
        rw [Nat.mul_zero, Nat.add_zero] at b2 ⊢
        refine ⟨b1, ?_⟩
        have e7 : (zi_sI (zp_sp M (K.2.2.2.2 (K.2.2.2.1 - 1)).1 (K.2.2.2.2 (K.2.2.2.1 - 1)).2) 6 0 6 (nI (K.2.2.2.1 - 1))).1 7 (100 + q) = M.1 7 (100 + q) := funext fun j => by
          rw [zp_sI1, if_neg (by decide), zp_sp1, zp_h1 (fun z => by have := z.2; omega)]
        rw [e7]; exact b2
    obtain ⟨M', g1, g2, g3, g4⟩ := ih (zu_s K (K.2.2.2.1 - 1)) (zp_sp M (K.2.2.2.2 (K.2.2.2.1 - 1)).1 (K.2.2.2.2 (K.2.2.2.1 - 1)).2) (by show n + k = K.2.2.2.1 - 1; omega) (by show K.2.2.2.1 - 1 ≤ B; omega) (zu_s_ok hok hb) h6 hcK2
    refine ⟨M', ?_, zy_fC_tr fr g2, g3, g4⟩
    have tk := zc_take d M (K.2.2.2.2 (K.2.2.2.1 - 1)).1 (100 + (K.2.2.2.1 - 1)) w2'
    have em2 : nI (K.2.2.2.1 - 1) + (-1) = nI (K.2.2.2.1 - 1) - 1 := by rw [Int32.sub_eq_add_neg]
    refine Eq.trans ?_ g1
    rw [em, ze_X6_goBack_14]
    simp (disch := omega) only [↓zp_dn, ↓zp_hV, ↓zp_hI, ↓zp_hL, ↓zp_hR, ↓zp_hX, zp_eV, zp_eI, zp_eL, zp_eR, zp_eX, zp_eXl, zp_iV, zp_iI, zp_iL, zp_iR, ↓zp_sm, ↓zp_nls, ↓zp_nln, zp_bo0, zp_bo1, zp_okE, zp_ok2E, zp_rfE, ↓reduceIte, if_true, if_false, zp_leT, zp_leF, zp_ltT, zp_ltF, zp_eqT, zp_eqF, zp_leTl, zp_leFl, zp_ltTl, zp_ltFl, zp_leTr, zp_leFr, zp_ltTr, zp_ltFr, zp_eqTr, zp_eqFr, zp_eqTl, zp_eqFl, zp_eqFll, eq_self, zp_addl, zp_addr, zp_mull, zp_mulr, zp_subr, zp_subl, nI_add, pk_mul, ze_X6_birdAt_0, w1', f4, Nat.mul_zero, Nat.zero_add, Nat.add_zero, tk, ze_X6_goBack_54, em2]
    rw [show B - K.2.2.2.1 + 1 = B - (K.2.2.2.1 - 1) from by omega]
    rfl
theorem zr_undoS (d : Nat) {M : zi_M} {A : zf_A} {K : zf_K} (hA : zf_okA A) (hok : zf_okK A K) (hRA : zf_rA (M.1 28 0) A) (hR : zf_rK (M.1 28 0) K) {n : Nat} (hn : n < K.2.2.2.1) (x2 : Int32) : ∃ M', zi_run (d + 1) zm_X10_undo 27 [some (.inr (.inr (10, some 0))), some (.inl (nI n)), some (.inl x2), none] [] M = zi_run (d + 1) zm_X10_undo 27 [some (.inr (.inr (10, some 0))), some (.inl (nI n)), some (.inl x2), none] [] M' ∧ zy_fR M M' ∧ zf_rA (M'.1 28 0) A ∧ zf_rK (M'.1 28 0) (zu_s K (K.2.2.2.1 - 1)) := by
  have h4 := hok.1
  have h40 := hok.2.1
  obtain ⟨h7, h5⟩ := zf_okA7 hA
  have hb : K.2.2.2.1 - 1 < K.2.2.2.1 := by omega
  obtain ⟨a, b', c, e, f⟩ := hR
  have hwK := (hok.2.2.2 (K.2.2.2.1 - 1) hb).1
  obtain ⟨w1, t0, t1, t2, t3, t4, t5⟩ := f (K.2.2.2.1 - 1) hb
  generalize hw : (K.2.2.2.2 (K.2.2.2.1 - 1)).1 = w at *
  generalize ht : (K.2.2.2.2 (K.2.2.2.1 - 1)).2 = t at *
  generalize hj : K.2.2.2.1 - 1 = j at *
  have eB : K.2.2.2.1 = j + 1 := by omega
  have c' : M.1 28 0 4 = nI (j + 1) := by rw [← eB]; exact c
  have em : nI (j + 1) - 1 = nI j := zp_p1 j
  let Mx := zi_sI (zi_sI (zi_sI (zi_sI (zi_sI (zi_sI (zi_sI M 28 0 4 (nI j)) 10 0 18 (nI t.1)) 10 0 19 (nI t.2.1)) 10 0 20 t.2.2.1) 10 0 21 t.2.2.2.1) 10 0 22 t.2.2.2.2.1) 10 0 23 t.2.2.2.2.2
  have hMx : Mx = zi_sI (zi_sI (zi_sI (zi_sI (zi_sI (zi_sI (zi_sI M 28 0 4 (nI j)) 10 0 18 (nI t.1)) 10 0 19 (nI t.2.1)) 10 0 20 t.2.2.1) 10 0 21 t.2.2.2.1) 10 0 22 t.2.2.2.2.1) 10 0 23 t.2.2.2.2.2 := rfl
  have x28 : ∀ q, q ≠ 4 → Mx.1 28 0 q = M.1 28 0 q := fun q hq => by rw [hMx]; simp only [zp_sI1, Nat.reduceEqDiff, Nat.reduceLT, Nat.reduceLeDiff, Nat.reduceAdd, Nat.reduceMul, Nat.reduceSub, reduceCtorEq, Int32.reduceLT, Int32.reduceLE, not_true_eq_false, not_false_eq_true, and_true, true_and, and_false, false_and, or_true, true_or, or_false, false_or, ↓reduceIte, if_neg hq]
  have x18 : Mx.1 10 0 18 = nI t.1 := by rw [hMx]; simp [zp_sI1]
  have x19 : Mx.1 10 0 19 = nI t.2.1 := by rw [hMx]; simp [zp_sI1]
  have x20 : Mx.1 10 0 20 = t.2.2.1 := by rw [hMx]; simp [zp_sI1]
  have x21 : Mx.1 10 0 21 = t.2.2.2.1 := by rw [hMx]; simp [zp_sI1]
  have x22 : Mx.1 10 0 22 = t.2.2.2.2.1 := by rw [hMx]; simp [zp_sI1]
  have x23 : Mx.1 10 0 23 = t.2.2.2.2.2 := by rw [hMx]; simp [zp_sI1]
  have r10 : ∀ (N : zi_M) (s : Nat) (x : Int32), (18 ≤ s ∧ s < 24) → zy_fR M N → zy_fR M (zi_sI N 10 0 s x) := fun N s x hs h => ⟨h.1, fun c k q p1 p2 => by
    rw [zp_sI1]
    by_cases z1 : c = 10
    · by_cases z2 : q = s
      · exact absurd ⟨z1, by omega, by omega⟩ p2
      · rw [if_pos z1, if_neg z2]; exact h.2 c k q p1 p2
    · rw [if_neg z1]; exact h.2 c k q p1 p2⟩
  have fx : zy_fR M Mx := by
    rw [hMx]
    exact r10 _ _ _ (by omega) (r10 _ _ _ (by omega) (r10 _ _ _ (by omega) (r10 _ _ _ (by omega) (r10 _ _ _ (by omega) (r10 _ _ _ (by omega) (zy_fR_28 (zy_fR_rfl M) _ _))))))
  have s4 : Mx.1 28 0 4 = nI j := by rw [hMx]; simp [zp_sI1]
  refine ⟨zi_sI (zi_sI (zi_sI (zi_sI (zi_sI (zi_sI Mx 28 0 (40 + 9 * w + 1) (nI t.1)) 28 0 (40 + 9 * w + 2) (nI t.2.1)) 28 0 (40 + 9 * w + 3) t.2.2.1) 28 0 (40 + 9 * w + 4) t.2.2.2.1) 28 0 (40 + 9 * w + 5) t.2.2.2.2.1) 28 0 (40 + 9 * w + 7) t.2.2.2.2.2, ?_, zy_fR_28 (zy_fR_28 (zy_fR_28 (zy_fR_28 (zy_fR_28 (zy_fR_28 fx _ _) _ _) _ _) _ _) _ _) _ _, ?_, ?_⟩
  · have t0' : M.1 28 0 (76 + 7 * j + 1) = nI t.1 := t0
    have t1' : M.1 28 0 (76 + 7 * j + 2) = nI t.2.1 := t1
    have t2' : M.1 28 0 (76 + 7 * j + 3) = t.2.2.1 := t2
    have t3' : M.1 28 0 (76 + 7 * j + 4) = t.2.2.2.1 := t3
    have t4' : M.1 28 0 (76 + 7 * j + 5) = t.2.2.2.2.1 := t4
    have t5' : M.1 28 0 (76 + 7 * j + 6) = t.2.2.2.2.2 := t5
    have rd : ∀ q, q ≠ 4 → (zi_sI M 28 0 4 (nI j)).1 28 0 q = M.1 28 0 q := fun q hq => by simp only [zp_sI1, ↓reduceIte, if_neg hq]
    have rd4 : (zi_sI M 28 0 4 (nI j)).1 28 0 4 = nI j := by simp [zp_sI1]
    rw [ze_X10_undo_27]
    simp (disch := omega) only [↓zp_dn, ↓zp_hV, ↓zp_hI, ↓zp_hL, ↓zp_hR, ↓zp_hX, zp_eV, zp_eI, zp_eL, zp_eR, zp_eX, zp_eXl, zp_iV, zp_iI, zp_iL, zp_iR, ↓zp_sm, ↓zp_nls, ↓zp_nln, zp_bo0, zp_bo1, zp_okE, zp_ok2E, zp_rfE, ↓reduceIte, if_true, if_false, zp_leT, zp_leF, zp_ltT, zp_ltF, zp_eqT, zp_eqF, zp_leTl, zp_leFl, zp_ltTl, zp_ltFl, zp_leTr, zp_leFr, zp_ltTr, zp_ltFr, zp_eqTr, zp_eqFr, zp_eqTl, zp_eqFl, zp_eqFll, eq_self, zp_addl, zp_addr, zp_mull, zp_mulr, zp_subr, zp_subl, nI_add, pk_mul, c', em, rd4, rd, w1, t0', t1', t2', t3', t4', t5', ← hMx, ze_X10_keeps_0, x18, x19, x20, x21, x22, x23]
  · refine zf_rA_c hRA h7 h5 ?_ ?_ (fun q h1 h2 => ?_)
    · simp (disch := omega) only [zp_sI1, Nat.reduceEqDiff, Nat.reduceLT, Nat.reduceLeDiff, Nat.reduceAdd, Nat.reduceMul, Nat.reduceSub, reduceCtorEq, Int32.reduceLT, Int32.reduceLE, not_true_eq_false, not_false_eq_true, and_true, true_and, and_false, false_and, or_true, true_or, or_false, false_or, ↓reduceIte, if_neg]; exact x28 0 (by omega)
    · simp (disch := omega) only [zp_sI1, Nat.reduceEqDiff, Nat.reduceLT, Nat.reduceLeDiff, Nat.reduceAdd, Nat.reduceMul, Nat.reduceSub, reduceCtorEq, Int32.reduceLT, Int32.reduceLE, not_true_eq_false, not_false_eq_true, and_true, true_and, and_false, false_and, or_true, true_or, or_false, false_or, ↓reduceIte, if_neg]; exact x28 1 (by omega)
    · simp (disch := omega) only [zp_sI1, Nat.reduceEqDiff, Nat.reduceLT, Nat.reduceLeDiff, Nat.reduceAdd, Nat.reduceMul, Nat.reduceSub, reduceCtorEq, Int32.reduceLT, Int32.reduceLE, not_true_eq_false, not_false_eq_true, and_true, true_and, and_false, false_and, or_true, true_or, or_false, false_or, ↓reduceIte, if_neg]; exact x28 q (by omega)
  · have g : ∀ q, q ≠ 40 + 9 * w + 1 → q ≠ 40 + 9 * w + 2 → q ≠ 40 + 9 * w + 3 → q ≠ 40 + 9 * w + 4 → q ≠ 40 + 9 * w + 5 → q ≠ 40 + 9 * w + 7 → (zi_sI (zi_sI (zi_sI (zi_sI (zi_sI (zi_sI Mx 28 0 (40 + 9 * w + 1) (nI t.1)) 28 0 (40 + 9 * w + 2) (nI t.2.1)) 28 0 (40 + 9 * w + 3) t.2.2.1) 28 0 (40 + 9 * w + 4) t.2.2.2.1) 28 0 (40 + 9 * w + 5) t.2.2.2.2.1) 28 0 (40 + 9 * w + 7) t.2.2.2.2.2).1 28 0 q = Mx.1 28 0 q := fun q h2 h3 h4 h5 h6 h7 => by
      simp (disch := omega) only [zp_sI1, Nat.reduceEqDiff, Nat.reduceLT, Nat.reduceLeDiff, Nat.reduceAdd, Nat.reduceMul, Nat.reduceSub, reduceCtorEq, Int32.reduceLT, Int32.reduceLE, not_true_eq_false, not_false_eq_true, and_true, true_and, and_false, false_and, or_true, true_or, or_false, false_or, ↓reduceIte, if_neg]
    refine ⟨?_, ?_, ?_, fun q hq => ?_, fun q hq => ?_⟩
    · rw [g 2 (by omega) (by omega) (by omega) (by omega) (by omega) (by omega), x28 2 (by omega)]; exact a
    · rw [g 3 (by omega) (by omega) (by omega) (by omega) (by omega) (by omega), x28 3 (by omega)]; exact b'
    · rw [g 4 (by omega) (by omega) (by omega) (by omega) (by omega) (by omega), s4]; rfl
    · have hq' : q < K.2.1 := hq
      by_cases e1 : q = w
      · subst e1
        obtain ⟨u1, u2, u3, _⟩ := e q hq'
        simp only [zu_s, hw, ↓reduceIte, ht]
        refine ⟨?_, ?_, ?_, ?_, ?_, ?_, ?_, ?_, ?_⟩
        · rw [g _ (by omega) (by omega) (by omega) (by omega) (by omega) (by omega), x28 _ (by omega)]; exact u1
        · rw [g _ (by omega) (by omega) (by omega) (by omega) (by omega) (by omega), x28 _ (by omega)]; exact u2
        · rw [g _ (by omega) (by omega) (by omega) (by omega) (by omega) (by omega), x28 _ (by omega)]; exact u3
        · simp (disch := omega) only [zp_sI1, Nat.reduceEqDiff, Nat.reduceLT, Nat.reduceLeDiff, Nat.reduceAdd, Nat.reduceMul, Nat.reduceSub, reduceCtorEq, Int32.reduceLT, Int32.reduceLE, not_true_eq_false, not_false_eq_true, and_true, true_and, and_false, false_and, or_true, true_or, or_false, false_or, ↓reduceIte, if_neg, if_pos]
        · simp (disch := omega) only [zp_sI1, Nat.reduceEqDiff, Nat.reduceLT, Nat.reduceLeDiff, Nat.reduceAdd, Nat.reduceMul, Nat.reduceSub, reduceCtorEq, Int32.reduceLT, Int32.reduceLE, not_true_eq_false, not_false_eq_true, and_true, true_and, and_false, false_and, or_true, true_or, or_false, false_or, ↓reduceIte, if_neg, if_pos]
        · simp (disch := omega) only [zp_sI1, Nat.reduceEqDiff, Nat.reduceLT, Nat.reduceLeDiff, Nat.reduceAdd, Nat.reduceMul, Nat.reduceSub, reduceCtorEq, Int32.reduceLT, Int32.reduceLE, not_true_eq_false, not_false_eq_true, and_true, true_and, and_false, false_and, or_true, true_or, or_false, false_or, ↓reduceIte, if_neg, if_pos]
        · simp (disch := omega) only [zp_sI1, Nat.reduceEqDiff, Nat.reduceLT, Nat.reduceLeDiff, Nat.reduceAdd, Nat.reduceMul, Nat.reduceSub, reduceCtorEq, Int32.reduceLT, Int32.reduceLE, not_true_eq_false, not_false_eq_true, and_true, true_and, and_false, false_and, or_true, true_or, or_false, false_or, ↓reduceIte, if_neg, if_pos]
        · simp (disch := omega) only [zp_sI1, Nat.reduceEqDiff, Nat.reduceLT, Nat.reduceLeDiff, Nat.reduceAdd, Nat.reduceMul, Nat.reduceSub, reduceCtorEq, Int32.reduceLT, Int32.reduceLE, not_true_eq_false, not_false_eq_true, and_true, true_and, and_false, false_and, or_true, true_or, or_false, false_or, ↓reduceIte, if_neg, if_pos]
        · simp (disch := omega) only [zp_sI1, Nat.reduceEqDiff, Nat.reduceLT, Nat.reduceLeDiff, Nat.reduceAdd, Nat.reduceMul, Nat.reduceSub, reduceCtorEq, Int32.reduceLT, Int32.reduceLE, not_true_eq_false, not_false_eq_true, and_true, true_and, and_false, false_and, or_true, true_or, or_false, false_or, ↓reduceIte, if_neg, if_pos]
      · simp only [zu_s, hw, if_neg e1]
        exact zf_rb_c (fun p h1 h2 => by rw [g p (by omega) (by omega) (by omega) (by omega) (by omega) (by omega), x28 p (by omega)]) (e q hq')
    · have hq' : q < j := hq
      exact zf_rl_c (fun p h1 h2 => by rw [g p (by omega) (by omega) (by omega) (by omega) (by omega) (by omega), x28 p (by omega)]) (f q (by omega))
theorem zr_undoL (d : Nat) {A : zf_A} (hA : zf_okA A) {n : Nat} (x2 : Int32) : ∀ (k : Nat) (K : zf_K) (M : zi_M), n + k = K.2.2.2.1 → zf_okK A K → zf_rA (M.1 28 0) A → zf_rK (M.1 28 0) K → ∃ M', zi_run (d + 1) zm_X10_undo 27 [some (.inr (.inr (10, some 0))), some (.inl (nI n)), some (.inl x2), none] [] M = some (some (.inl x2), M') ∧ zy_fR M M' ∧ zf_rA (M'.1 28 0) A ∧ zf_rK (M'.1 28 0) (zu_l k K) := by
  intro k
  induction k with
  | zero =>
    intro K M hn hok hRA hR
    have h40 := hok.2.1
    have r4 : M.1 28 0 4 = nI n := by rw [show n = K.2.2.2.1 from by omega]; exact hR.2.2.1
    refine ⟨M, ?_, zy_fR_rfl M, hRA, hR⟩
    rw [ze_X10_undo_27]
    simp (disch := omega) only [↓zp_dn, ↓zp_hV, ↓zp_hI, ↓zp_hL, ↓zp_hR, ↓zp_hX, zp_eV, zp_eI, zp_eL, zp_eR, zp_eX, zp_eXl, zp_iV, zp_iI, zp_iL, zp_iR, ↓zp_sm, ↓zp_nls, ↓zp_nln, zp_bo0, zp_bo1, zp_okE, zp_ok2E, zp_rfE, ↓reduceIte, if_true, if_false, zp_leT, zp_leF, zp_ltT, zp_ltF, zp_eqT, zp_eqF, zp_leTl, zp_leFl, zp_ltTl, zp_ltFl, zp_leTr, zp_leFr, zp_ltTr, zp_ltFr, zp_eqTr, zp_eqFr, zp_eqTl, zp_eqFl, zp_eqFll, eq_self, zp_addl, zp_addr, zp_mull, zp_mulr, zp_subr, zp_subl, nI_add, pk_mul, r4]
  | succ k ih =>
    intro K M hn hok hRA hR
    obtain ⟨M1, e1, f1, r1, r2⟩ := zr_undoS d hA hok hRA hR (n := n) (by omega) x2
    obtain ⟨M', g1, g2, g3, g4⟩ := ih (zu_s K (K.2.2.2.1 - 1)) M1 (by show n + k = K.2.2.2.1 - 1; omega) (zu_s_ok hok (by omega)) r1 r2
    exact ⟨M', e1.trans g1, zy_fR_tr f1 g2, g3, g4⟩
theorem zo_undo (d : Nat) {n : Nat} {xs : Nat → Int32} {M : zi_M} (hI : zq_inv n xs M) (m : Int32) : zp_ok (zi_run (d + 5) zm_X9_undo 0 [some (.inr (.inr (9, some 0))), some (.inl m)] [] M) (zp_rf (d + 5) zm_X10_undo [some (.inr (.inr (10, some 0))), some (.inl m), none, none]) (zq_inv n xs) := by
  obtain ⟨A, K, hS⟩ := hI.2.2.2.2.1
  have b6 : M.1 6 0 6 = nI K.2.2.2.1 := hS.2.2.2.1.2.2.1
  have hR := hS.2.2.2.2.2.1
  have r4 : M.1 28 0 4 = nI K.2.2.2.1 := hR.2.2.1
  have h40 := hS.2.1.2.1
  rcases zp_int m with hm | ⟨m, hm, rfl⟩
  · simp (disch := omega) only [ze_X9_undo_0, ze_X10_undo_0, b6, r4, ze_X5_room_0, ze_X5_size_0, ze_X5_isThere_0, ze_X5_has_0, ze_X5_hasRun_0, ze_X5_get_0, ze_X5_set_0, ze_X5_drop_0, ze_X5_takeRun_0, ze_X9_rowAt_0, ze_X9_textAt_0, ze_X9_refuse_0, ze_X10_isRow_0, ze_X10_isText_0, ze_X10_finds_0, ze_X10_tells_0, zp_in_0_5, zp_in_0_3, zp_in_0_7, zp_in_1_5, zp_in_0_9, zp_in_0_2, zp_in_48_57, zp_in_0_12, zp_in_1_4, zp_in_1_9, zp_in_1_2147483646, zp_in_0_8, zp_in_0, ↓zp_dn, ↓zp_hV, ↓zp_hI, ↓zp_hL, ↓zp_hR, ↓zp_hX, zp_eV, zp_eI, zp_eL, zp_eR, zp_eX, zp_eXl, zp_iV, zp_iI, zp_iL, zp_iR, ↓zp_sm, ↓zp_nls, ↓zp_nln, zp_bo0, zp_bo1, zp_okE, zp_ok2E, zp_rfE, ↓reduceIte, if_true, if_false, zp_ofn, zp_sI1, zp_w1, zp_sL1, zp_sR1, zp_l1, zp_leT, zp_leF, zp_ltT, zp_ltF, zp_eqT, zp_eqF, zp_leTl, zp_leFl, zp_ltTl, zp_ltFl, zp_leTr, zp_leFr, zp_ltTr, zp_ltFr, zp_eqTr, zp_eqFr, zp_eqTl, zp_eqFl, zp_eqFll, eq_self, zp_addl, zp_addr, zp_mull, zp_mulr, zp_subr, zp_subl, nI_add, pk_mul, Nat.reduceEqDiff, Nat.reduceLT, Nat.reduceLeDiff, Nat.reduceAdd, Nat.reduceMul, Nat.reduceSub, reduceCtorEq, Int32.reduceLT, Int32.reduceLE, not_true_eq_false, not_false_eq_true, and_true, true_and, and_false, false_and, or_true, true_or, or_false, false_or, zp_n0 hm, zp_n1 hm, zp_n2 hm, zp_n3 hm, zp_n4 hm, zp_n3l hm, zp_n4l hm]; exact hI
  by_cases hmB : m ≤ K.2.2.2.1
  case neg => simp (disch := omega) only [ze_X9_undo_0, ze_X10_undo_0, b6, r4, ze_X5_room_0, ze_X5_size_0, ze_X5_isThere_0, ze_X5_has_0, ze_X5_hasRun_0, ze_X5_get_0, ze_X5_set_0, ze_X5_drop_0, ze_X5_takeRun_0, ze_X9_rowAt_0, ze_X9_textAt_0, ze_X9_refuse_0, ze_X10_isRow_0, ze_X10_isText_0, ze_X10_finds_0, ze_X10_tells_0, zp_in_0_5, zp_in_0_3, zp_in_0_7, zp_in_1_5, zp_in_0_9, zp_in_0_2, zp_in_48_57, zp_in_0_12, zp_in_1_4, zp_in_1_9, zp_in_1_2147483646, zp_in_0_8, zp_in_0, ↓zp_dn, ↓zp_hV, ↓zp_hI, ↓zp_hL, ↓zp_hR, ↓zp_hX, zp_eV, zp_eI, zp_eL, zp_eR, zp_eX, zp_eXl, zp_iV, zp_iI, zp_iL, zp_iR, ↓zp_sm, ↓zp_nls, ↓zp_nln, zp_bo0, zp_bo1, zp_okE, zp_ok2E, zp_rfE, ↓reduceIte, if_true, if_false, zp_ofn, zp_sI1, zp_w1, zp_sL1, zp_sR1, zp_l1, zp_leT, zp_leF, zp_ltT, zp_ltF, zp_eqT, zp_eqF, zp_leTl, zp_leFl, zp_ltTl, zp_ltFl, zp_leTr, zp_leFr, zp_ltTr, zp_ltFr, zp_eqTr, zp_eqFr, zp_eqTl, zp_eqFl, zp_eqFll, eq_self, zp_addl, zp_addr, zp_mull, zp_mulr, zp_subr, zp_subl, nI_add, pk_mul, Nat.reduceEqDiff, Nat.reduceLT, Nat.reduceLeDiff, Nat.reduceAdd, Nat.reduceMul, Nat.reduceSub, reduceCtorEq, Int32.reduceLT, Int32.reduceLE, not_true_eq_false, not_false_eq_true, and_true, true_and, and_false, false_and, or_true, true_or, or_false, false_or]; exact hI
  have hcK0 : zf_cK (zi_sI M 6 0 6 (nI K.2.2.2.1)) 0 K := by
    have e : zi_sI M 6 0 6 (nI K.2.2.2.1) = M := by
      refine zp_ext (fun c k j => ?_) rfl
      rw [zp_sI1]
      by_cases q1 : c = 6
      · by_cases q2 : j = 6
        · by_cases q3 : k = 0
          · subst q1; subst q2; subst q3; simp [b6]
          · simp [q3]
        · simp [q2]
      · simp [q1]
    rw [e]; exact hS.2.2.2.1
  obtain ⟨M1, c1, c2, c3, c4⟩ := zc_undoL (d + 3) (A := A) (B := K.2.2.2.1) (n := m) h40 (K.2.2.2.1 - m) K M (by omega) (Nat.le_refl _) hS.2.1 b6 hcK0
  have e28 : M1.1 28 0 = M.1 28 0 := funext fun j => c2.2 28 0 j (by omega) (by omega) (by omega)
  have hA2 : zf_rA (M1.1 28 0) A := by rw [e28]; exact hS.2.2.2.2.1
  have hR2 : zf_rK (M1.1 28 0) K := by rw [e28]; exact hR
  have r42 : M1.1 28 0 4 = nI K.2.2.2.1 := hR2.2.2.1
  obtain ⟨M2, q1, q2, q3, q4⟩ := zr_undoL (d + 4) hS.1 (n := m) (nI (K.2.2.2.1 - m)) (K.2.2.2.1 - m) K M1 (by omega) hS.2.1 hA2 hR2
  have gb : zi_run (d + 4) zm_X6_goBack 0 [some (.inr (.inr (6, some 0))), some (.inl (nI m)), none, none, none] [] M = some (some (.inl (nI (K.2.2.2.1 - m))), M1) := by
    rw [ze_X6_goBack_0, b6, show (40 : Int32) = nI 40 from rfl, zp_minN (by omega) (by decide), Nat.min_eq_left h40]
    rw [Nat.sub_self] at c1
    exact c1
  rw [ze_X9_undo_0]
  simp (disch := omega) only [b6, gb, ↓zp_dn, ↓zp_hV, ↓zp_hI, ↓zp_hL, ↓zp_hR, ↓zp_hX, zp_eV, zp_eI, zp_eL, zp_eR, zp_eX, zp_eXl, zp_iV, zp_iI, zp_iL, zp_iR, ↓zp_sm, ↓zp_nls, ↓zp_nln, zp_bo0, zp_bo1, zp_okE, zp_ok2E, zp_rfE, ↓reduceIte, if_true, if_false, zp_leT, zp_leF, zp_ltT, zp_ltF, zp_eqT, zp_eqF, zp_leTl, zp_leFl, zp_ltTl, zp_ltFl, zp_leTr, zp_leFr, zp_ltTr, zp_ltFr, zp_eqTr, zp_eqFr, zp_eqTl, zp_eqFl, zp_eqFll, eq_self, zp_addl, zp_addr, zp_mull, zp_mulr, zp_subr, zp_subl, nI_add, pk_mul]
  rw [ze_X10_undo_0]
  simp (disch := omega) only [r42, pk_sub, ze_X5_room_0, ze_X5_size_0, ze_X5_isThere_0, ze_X5_has_0, ze_X5_hasRun_0, ze_X5_get_0, ze_X5_set_0, ze_X5_drop_0, ze_X5_takeRun_0, ze_X9_rowAt_0, ze_X9_textAt_0, ze_X9_refuse_0, ze_X10_isRow_0, ze_X10_isText_0, ze_X10_finds_0, ze_X10_tells_0, zp_in_0_5, zp_in_0_3, zp_in_0_7, zp_in_1_5, zp_in_0_9, zp_in_0_2, zp_in_48_57, zp_in_0_12, zp_in_1_4, zp_in_1_9, zp_in_1_2147483646, zp_in_0_8, zp_in_0, ↓zp_dn, ↓zp_hV, ↓zp_hI, ↓zp_hL, ↓zp_hR, ↓zp_hX, zp_eV, zp_eI, zp_eL, zp_eR, zp_eX, zp_eXl, zp_iV, zp_iI, zp_iL, zp_iR, ↓zp_sm, ↓zp_nls, ↓zp_nln, zp_bo0, zp_bo1, zp_okE, zp_ok2E, zp_rfE, ↓reduceIte, if_true, if_false, zp_ofn, zp_sI1, zp_w1, zp_sL1, zp_sR1, zp_l1, zp_leT, zp_leF, zp_ltT, zp_ltF, zp_eqT, zp_eqF, zp_leTl, zp_leFl, zp_ltTl, zp_ltFl, zp_leTr, zp_leFr, zp_ltTr, zp_ltFr, zp_eqTr, zp_eqFr, zp_eqTl, zp_eqFl, zp_eqFll, eq_self, zp_addl, zp_addr, zp_mull, zp_mulr, zp_subr, zp_subl, nI_add, pk_mul, Nat.reduceEqDiff, Nat.reduceLT, Nat.reduceLeDiff, Nat.reduceAdd, Nat.reduceMul, Nat.reduceSub, reduceCtorEq, Int32.reduceLT, Int32.reduceLE, not_true_eq_false, not_false_eq_true, and_true, true_and, and_false, false_and, or_true, true_or, or_false, false_or]
  refine Eq.mpr (congrArg (fun o => zp_ok2 o _ _) q1) ?_
  rw [zp_ok2E]
  exact ⟨rfl, zy_fin hI hS c2 c3 c4 q2 q3 q4⟩
