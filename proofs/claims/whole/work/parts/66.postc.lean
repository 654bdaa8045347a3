/-! THE PURE PART: post, the reference's side; both -/
theorem zr_p43 (d : Nat) {M0 : zi_M} {A : zf_A} {K : zf_K} (hS : zq_sky M0 A K) (n r : Int32) : ∀ (k i : Nat) (M : zi_M), i + k = K.2.1 → zq_nb M0 M → M.2 = M0.2 → (∀ j, j < i → M.1 36 0 j = nI (zs_m A K j)) → ∃ M', zi_run (d + 7) zm_X10_post 43 [some (.inr (.inr (10, some 0))), some (.inl n), some (.inl r), some (.inl (nI K.2.1)), some (.inl (nI i)), none, none, none, none, none, none] [] M = zi_run (d + 7) zm_X10_post 95 [some (.inr (.inr (10, some 0))), some (.inl n), some (.inl r), some (.inl (nI K.2.1)), some (.inl (-9)), some (.inl 0), none, none, none, none, none] [] M' ∧ zq_nb M0 M' ∧ M'.2 = M0.2 ∧ ∀ j, j < K.2.1 → M'.1 36 0 j = nI (zs_m A K j) := by
  have h4 := hS.2.1.1
  intro k
  induction k with
  | zero =>
    intro i M hi hb h2 hl
    refine ⟨M, ?_, hb, h2, fun j hj => hl j (by omega)⟩
    rw [ze_X10_post_43]
    simp (disch := omega) only [↓zp_dn, ↓zp_hV, ↓zp_hI, ↓zp_hL, ↓zp_hR, ↓zp_hX, zp_eV, zp_eI, zp_eL, zp_eR, zp_eX, zp_eXl, zp_iV, zp_iI, zp_iL, zp_iR, ↓zp_sm, ↓zp_nls, ↓zp_nln, zp_bo0, zp_bo1, zp_okE, zp_ok2E, zp_rfE, ↓reduceIte, if_true, if_false, zp_leT, zp_leF, zp_ltT, zp_ltF, zp_eqT, zp_eqF, zp_leTl, zp_leFl, zp_ltTl, zp_ltFl, zp_leTr, zp_leFr, zp_ltTr, zp_ltFr, zp_eqTr, zp_eqFr, zp_eqTl, zp_eqFl, zp_eqFll, eq_self, zp_addl, zp_addr, zp_mull, zp_mulr, zp_subr, zp_subl, nI_add, pk_mul]
  | succ k ih =>
    intro i M hi hb h2 hl
    have hiF : i < K.2.1 := by omega
    have e28 := zq_nb_28 hb
    have hA2 : zf_rA (M.1 28 0) A := by rw [e28]; exact hS.2.2.2.2.1
    have hR2 : zf_rK (M.1 28 0) K := by rw [e28]; exact hS.2.2.2.2.2.1
    obtain ⟨hE, hok, hsp⟩ := zq_fl hS hiF
    by_cases hf : (zf_sp K i).2.2.2.2.2 = 0
    · obtain ⟨M1, q1, q2⟩ := zr_greG d hE hA2 hR2 hiF h4 hok 6 4 M (by omega) (zw_rg_rfl M)
      have ef : (fun v => zw_has (zw_Em (zf_en A K i) 6 (nI v)) (zw_Sm (zf_sp K i) 6 (nI v))) = zs_P A K i := by
        funext v; simp [zw_Em, zw_Sm, zs_P]
      have e3 : nI 4 - 1 = 3 := by decide
      rw [ef, e3] at q1
      have q1' := (ze_X10_greatest_0 (d + 6) (nI i) 6 3 M).trans q1
      have em : zs_m A K i = zs_mx (zs_P A K i) := by rw [zs_m, if_pos hiF, if_pos hf]
      obtain ⟨M', f1, f2⟩ := ih (i + 1) (zi_sI M1 36 0 i (nI (zs_m A K i))) (by omega) (zq_nb_sI (zq_nb_tr hb (zw_rg_nb q2)) (by simp [zq_gp])) (q2.1.trans h2) (fun j hj => by
        by_cases e : j = i
        · subst e; simp [zp_sI1]
        · simp only [zp_sI1, ↓reduceIte, if_neg e]
          rw [q2.2 36 0 j (by omega) (by omega) (by omega)]
          exact hl j (by omega))
      refine ⟨M', ?_, f2⟩
      rw [← f1, ze_X10_post_43]
      simp (disch := omega) only [↓zp_dn, ↓zp_hV, ↓zp_hI, ↓zp_hL, ↓zp_hR, ↓zp_hX, zp_eV, zp_eI, zp_eL, zp_eR, zp_eX, zp_eXl, zp_iV, zp_iI, zp_iL, zp_iR, ↓zp_sm, ↓zp_nls, ↓zp_nln, zp_bo0, zp_bo1, zp_okE, zp_ok2E, zp_rfE, ↓reduceIte, if_true, if_false, zp_leT, zp_leF, zp_ltT, zp_ltF, zp_eqT, zp_eqF, zp_leTl, zp_leFl, zp_ltTl, zp_ltFl, zp_leTr, zp_leFr, zp_ltTr, zp_ltFr, zp_eqTr, zp_eqFr, zp_eqTl, zp_eqFl, zp_eqFll, eq_self, zp_addl, zp_addr, zp_mull, zp_mulr, zp_subr, zp_subl, nI_add, pk_mul, zr_fallen _ hR2 hiF h4, if_pos hf, q1', zr_more, zs_mxR, ze_X10_post_81, em]
    · have em : zs_m A K i = 0 := by rw [zs_m, if_pos hiF, if_neg hf]
      obtain ⟨M', f1, f2⟩ := ih (i + 1) (zi_sI M 36 0 i (nI (zs_m A K i))) (by omega) (zq_nb_sI hb (by simp [zq_gp])) h2 (fun j hj => by
        by_cases e : j = i
        · subst e; simp [zp_sI1]
        · simp only [zp_sI1, ↓reduceIte, if_neg e]
          exact hl j (by omega))
      refine ⟨M', ?_, f2⟩
      rw [← f1, ze_X10_post_43]
      simp (disch := omega) only [↓zp_dn, ↓zp_hV, ↓zp_hI, ↓zp_hL, ↓zp_hR, ↓zp_hX, zp_eV, zp_eI, zp_eL, zp_eR, zp_eX, zp_eXl, zp_iV, zp_iI, zp_iL, zp_iR, ↓zp_sm, ↓zp_nls, ↓zp_nln, zp_bo0, zp_bo1, zp_okE, zp_ok2E, zp_rfE, ↓reduceIte, if_true, if_false, zp_leT, zp_leF, zp_ltT, zp_ltF, zp_eqT, zp_eqF, zp_leTl, zp_leFl, zp_ltTl, zp_ltFl, zp_leTr, zp_leFr, zp_ltTr, zp_ltFr, zp_eqTr, zp_eqFr, zp_eqTl, zp_eqFl, zp_eqFll, eq_self, zp_addl, zp_addr, zp_mull, zp_mulr, zp_subr, zp_subl, nI_add, pk_mul, zr_fallen _ hR2 hiF h4, if_neg hf, ze_X10_post_81, em]
      rfl
theorem zr_p115S (d : Nat) {M : zi_M} {m : Nat → Nat} {k : Nat} (hk : k ≤ 4) (hm : ∀ j, j < 4 → m j ≤ 3) (hmk : ∀ j, k ≤ j → m j = 0) (hl : ∀ j, j < k → M.1 36 0 j = nI (m j)) {c : Nat} (hc : c < 256) (n r x4 : Int32) {i : Nat} (hi : i < 4) : zi_run d zm_X10_post 115 [some (.inr (.inr (10, some 0))), some (.inl n), some (.inl r), some (.inl (nI k)), some (.inl x4), some (.inl (nI c)), some (.inl (nI (zs_sm c i))), some (.inl (nI (zs_cr c i))), some (.inl (zw_b1 (zs_gd m c i))), some (.inl (nI i)), none] [] M = zi_run d zm_X10_post 115 [some (.inr (.inr (10, some 0))), some (.inl n), some (.inl r), some (.inl (nI k)), some (.inl x4), some (.inl (nI c)), some (.inl (nI (zs_sm c (i + 1)))), some (.inl (nI (zs_cr c (i + 1)))), some (.inl (zw_b1 (zs_gd m c (i + 1)))), some (.inl (nI (i + 1))), none] [] (zi_sI M 37 0 i (nI (zs_sr c i))) := by
  have h4 := zs_sr4 c i
  have hm3 := hm i hi
  have tail : ∀ g : Int32, zi_run d zm_X10_post 170 [some (.inr (.inr (10, some 0))), some (.inl n), some (.inl r), some (.inl (nI k)), some (.inl x4), some (.inl (nI c)), some (.inl (nI (zs_sm c i))), some (.inl (nI (zs_cr c i))), none, some (.inl (nI i)), some (.inl (nI (zs_sr c i)))] [.inl g] M = zi_run d zm_X10_post 115 [some (.inr (.inr (10, some 0))), some (.inl n), some (.inl r), some (.inl (nI k)), some (.inl x4), some (.inl (nI c)), some (.inl (nI (zs_sm c (i + 1)))), some (.inl (nI (zs_cr c (i + 1)))), some (.inl g), some (.inl (nI (i + 1))), none] [] (zi_sI M 37 0 i (nI (zs_sr c i))) := by
    intro g
    rw [ze_X10_post_170]
    by_cases h0 : zs_sr c i = 0
    · simp (disch := omega) only [↓zp_dn, ↓zp_hV, ↓zp_hI, ↓zp_hL, ↓zp_hR, ↓zp_hX, zp_eV, zp_eI, zp_eL, zp_eR, zp_eX, zp_eXl, zp_iV, zp_iI, zp_iL, zp_iR, ↓zp_sm, ↓zp_nls, ↓zp_nln, zp_bo0, zp_bo1, zp_okE, zp_ok2E, zp_rfE, ↓reduceIte, if_true, if_false, zp_leT, zp_leF, zp_ltT, zp_ltF, zp_eqT, zp_eqF, zp_leTl, zp_leFl, zp_ltTl, zp_ltFl, zp_leTr, zp_leFr, zp_ltTr, zp_ltFr, zp_eqTr, zp_eqFr, zp_eqTl, zp_eqFl, zp_eqFll, eq_self, zp_addl, zp_addr, zp_mull, zp_mulr, zp_subr, zp_subl, nI_add, pk_mul, ze_X10_post_200, zs_sm, zs_cr, zs_pos, if_pos h0, Nat.add_zero]
    · simp (disch := omega) only [↓zp_dn, ↓zp_hV, ↓zp_hI, ↓zp_hL, ↓zp_hR, ↓zp_hX, zp_eV, zp_eI, zp_eL, zp_eR, zp_eX, zp_eXl, zp_iV, zp_iI, zp_iL, zp_iR, ↓zp_sm, ↓zp_nls, ↓zp_nln, zp_bo0, zp_bo1, zp_okE, zp_ok2E, zp_rfE, ↓reduceIte, if_true, if_false, zp_leT, zp_leF, zp_ltT, zp_ltF, zp_eqT, zp_eqF, zp_leTl, zp_leFl, zp_ltTl, zp_ltFl, zp_leTr, zp_leFr, zp_ltTr, zp_ltFr, zp_eqTr, zp_eqFr, zp_eqTl, zp_eqFl, zp_eqFll, eq_self, zp_addl, zp_addr, zp_mull, zp_mulr, zp_subr, zp_subl, nI_add, pk_mul, ze_X10_post_200, zs_sm, zs_cr, zs_pos, if_neg h0]
  rw [ze_X10_post_115, zs_gd]
  cases hg : zs_gd m c i with
  | false =>
    simp (disch := omega) only [↓zp_dn, ↓zp_hV, ↓zp_hI, ↓zp_hL, ↓zp_hR, ↓zp_hX, zp_eV, zp_eI, zp_eL, zp_eR, zp_eX, zp_eXl, zp_iV, zp_iI, zp_iL, zp_iR, ↓zp_sm, ↓zp_nls, ↓zp_nln, zp_bo0, zp_bo1, zp_okE, zp_ok2E, zp_rfE, ↓reduceIte, if_true, if_false, zp_leT, zp_leF, zp_ltT, zp_ltF, zp_eqT, zp_eqF, zp_leTl, zp_leFl, zp_ltTl, zp_ltFl, zp_leTr, zp_leFr, zp_ltTr, zp_ltFr, zp_eqTr, zp_eqFr, zp_eqTl, zp_eqFl, zp_eqFll, eq_self, zp_addl, zp_addr, zp_mull, zp_mulr, zp_subr, zp_subl, nI_add, pk_mul, zs_shr c hc i hi, zw_b1F, Bool.false_and, ze_X10_post_169, tail]
  | true =>
    by_cases hik : i < k
    · by_cases h : zs_sr c i ≤ m i
      · simp (disch := omega) only [↓zp_dn, ↓zp_hV, ↓zp_hI, ↓zp_hL, ↓zp_hR, ↓zp_hX, zp_eV, zp_eI, zp_eL, zp_eR, zp_eX, zp_eXl, zp_iV, zp_iI, zp_iL, zp_iR, ↓zp_sm, ↓zp_nls, ↓zp_nln, zp_bo0, zp_bo1, zp_okE, zp_ok2E, zp_rfE, ↓reduceIte, if_true, if_false, zp_leT, zp_leF, zp_ltT, zp_ltF, zp_eqT, zp_eqF, zp_leTl, zp_leFl, zp_ltTl, zp_ltFl, zp_leTr, zp_leFr, zp_ltTr, zp_ltFr, zp_eqTr, zp_eqFr, zp_eqTl, zp_eqFl, zp_eqFll, eq_self, zp_addl, zp_addr, zp_mull, zp_mulr, zp_subr, zp_subl, nI_add, pk_mul, zs_shr c hc i hi, zw_b1T, zp_1n0, Bool.true_and, decide_eq_true h, hl i hik, ze_X10_post_165, tail]
      · simp (disch := omega) only [↓zp_dn, ↓zp_hV, ↓zp_hI, ↓zp_hL, ↓zp_hR, ↓zp_hX, zp_eV, zp_eI, zp_eL, zp_eR, zp_eX, zp_eXl, zp_iV, zp_iI, zp_iL, zp_iR, ↓zp_sm, ↓zp_nls, ↓zp_nln, zp_bo0, zp_bo1, zp_okE, zp_ok2E, zp_rfE, ↓reduceIte, if_true, if_false, zp_leT, zp_leF, zp_ltT, zp_ltF, zp_eqT, zp_eqF, zp_leTl, zp_leFl, zp_ltTl, zp_ltFl, zp_leTr, zp_leFr, zp_ltTr, zp_ltFr, zp_eqTr, zp_eqFr, zp_eqTl, zp_eqFl, zp_eqFll, eq_self, zp_addl, zp_addr, zp_mull, zp_mulr, zp_subr, zp_subl, nI_add, pk_mul, zs_shr c hc i hi, zw_b1T, zp_1n0, Bool.true_and, decide_eq_false h, zw_b1F, hl i hik, ze_X10_post_169, tail]
    · have hm0 := hmk i (by omega)
      by_cases h : zs_sr c i = 0
      · have h' : zs_sr c i ≤ m i := by omega
        simp (disch := omega) only [↓zp_dn, ↓zp_hV, ↓zp_hI, ↓zp_hL, ↓zp_hR, ↓zp_hX, zp_eV, zp_eI, zp_eL, zp_eR, zp_eX, zp_eXl, zp_iV, zp_iI, zp_iL, zp_iR, ↓zp_sm, ↓zp_nls, ↓zp_nln, zp_bo0, zp_bo1, zp_okE, zp_ok2E, zp_rfE, ↓reduceIte, if_true, if_false, zp_leT, zp_leF, zp_ltT, zp_ltF, zp_eqT, zp_eqF, zp_leTl, zp_leFl, zp_ltTl, zp_ltFl, zp_leTr, zp_leFr, zp_ltTr, zp_ltFr, zp_eqTr, zp_eqFr, zp_eqTl, zp_eqFl, zp_eqFll, eq_self, zp_addl, zp_addr, zp_mull, zp_mulr, zp_subr, zp_subl, nI_add, pk_mul, zs_shr c hc i hi, zw_b1T, zp_1n0, Bool.true_and, decide_eq_true h', ze_X10_post_165, tail]
      · have h' : ¬ zs_sr c i ≤ m i := by omega
        simp (disch := omega) only [↓zp_dn, ↓zp_hV, ↓zp_hI, ↓zp_hL, ↓zp_hR, ↓zp_hX, zp_eV, zp_eI, zp_eL, zp_eR, zp_eX, zp_eXl, zp_iV, zp_iI, zp_iL, zp_iR, ↓zp_sm, ↓zp_nls, ↓zp_nln, zp_bo0, zp_bo1, zp_okE, zp_ok2E, zp_rfE, ↓reduceIte, if_true, if_false, zp_leT, zp_leF, zp_ltT, zp_ltF, zp_eqT, zp_eqF, zp_leTl, zp_leFl, zp_ltTl, zp_ltFl, zp_leTr, zp_leFr, zp_ltTr, zp_ltFr, zp_eqTr, zp_eqFr, zp_eqTl, zp_eqFl, zp_eqFll, eq_self, zp_addl, zp_addr, zp_mull, zp_mulr, zp_subr, zp_subl, nI_add, pk_mul, zs_shr c hc i hi, zw_b1T, zp_1n0, Bool.true_and, decide_eq_false h', zw_b1F, ze_X10_post_169, tail]
def zs_h4 (M : zi_M) (c : Nat) : zi_M := zi_sI (zi_sI (zi_sI (zi_sI M 37 0 0 (nI (zs_sr c 0))) 37 0 1 (nI (zs_sr c 1))) 37 0 2 (nI (zs_sr c 2))) 37 0 3 (nI (zs_sr c 3))
theorem zs_h4o (M : zi_M) (c : Nat) {c' k j : Nat} (h : c' ≠ 37) : (zs_h4 M c).1 c' k j = M.1 c' k j := by simp [zs_h4, zp_sI1, h]
theorem zs_h4i (M : zi_M) (c : Nat) {j : Nat} (h : j < 4) : (zs_h4 M c).1 37 0 j = nI (zs_sr c j) := by
  have h' : j = 0 ∨ j = 1 ∨ j = 2 ∨ j = 3 := by omega
  rcases h' with e | e | e | e <;> subst e <;> simp [zs_h4, zp_sI1]
theorem zs_h4nb (M : zi_M) (c : Nat) : zq_nb M (zs_h4 M c) := zq_nb_sI (zq_nb_sI (zq_nb_sI (zq_nb_sI (zq_nb_rfl M) (by simp [zq_gp])) (by simp [zq_gp])) (by simp [zq_gp])) (by simp [zq_gp])
theorem zs_LR_w {M0 M : zi_M} {r : Nat} {acc : Option zw_w} {k c : Nat} (hk : k ≤ 4) (hc : ∀ j, j < k → M.1 37 0 j = nI (zs_sr c j)) (hL : zw_LR M0 M r acc) : zw_LR M0 (zp_l (zi_sI M 24 0 r (nI k)) 25 0 (40 * r) k (fun j => M.1 37 0 j)) r (some (zs_wv k c)) := by
  obtain ⟨a, b, c', e⟩ := hL
  refine ⟨zq_nr_tr a ?_, b, ⟨?_, fun j q hq => ?_⟩, fun j => ⟨?_, ?_⟩⟩
  · intro c1 k1 s _ _ _ h24 h25
    rw [zp_l1]
    by_cases e : c1 = 25
    · by_cases e2 : k1 = 0
      · rw [if_pos e, if_pos e2, if_neg (fun q => h25 ⟨e, by omega, by omega⟩), zp_sI1, if_neg (by omega), e, e2]
      · rw [if_pos e, if_neg e2, zp_sI1, if_neg (by omega)]
    · rw [if_neg e, zp_sI1]
      by_cases e5 : c1 = 24
      · rw [if_pos e5, if_neg (fun q => h24 ⟨e5, q⟩)]
      · rw [if_neg e5]
  · rw [zs_wv_len]; simp [zp_l1, zp_sI1]
  · obtain ⟨hj, hq1⟩ := zs_wv_at hq
    simp only [zp_l1, ↓reduceIte, if_pos (show 40 * r ≤ 40 * r + j ∧ 40 * r + j < 40 * r + k from by omega), Nat.add_sub_cancel_left]
    rw [hc j hj, hq1]
  · simp only [zp_l1, zp_sI1, Nat.reduceEqDiff, Nat.reduceLT, Nat.reduceLeDiff, Nat.reduceAdd, Nat.reduceMul, Nat.reduceSub, reduceCtorEq, Int32.reduceLT, Int32.reduceLE, not_true_eq_false, not_false_eq_true, and_true, true_and, and_false, false_and, or_true, true_or, or_false, false_or, ↓reduceIte]; exact (e j).1
  · simp only [zp_l1, zp_sI1, Nat.reduceEqDiff, Nat.reduceLT, Nat.reduceLeDiff, Nat.reduceAdd, Nat.reduceMul, Nat.reduceSub, reduceCtorEq, Int32.reduceLT, Int32.reduceLE, not_true_eq_false, not_false_eq_true, and_true, true_and, and_false, false_and, or_true, true_or, or_false, false_or, ↓reduceIte]; exact (e j).2
theorem zr_p248 (d : Nat) {M : zi_M} {k r : Nat} (hk : k ≤ 4) (hr : r < 6) (n x4 x5 : Int32) : zi_run d zm_X10_post 248 [some (.inr (.inr (10, some 0))), some (.inl n), some (.inl (nI r)), some (.inl (nI k)), some (.inl x4), some (.inl x5), none, none, none, some (.inl 0), none] [] (zi_sI M 24 0 r (nI k)) = zi_run d zm_X10_post 279 [some (.inr (.inr (10, some 0))), some (.inl n), some (.inl (nI r)), some (.inl (nI k)), some (.inl x4), some (.inl x5), none, none, none, none, none] [] (zp_l (zi_sI M 24 0 r (nI k)) 25 0 (40 * r) k (fun j => M.1 37 0 j)) := by
  refine Eq.trans ?_ (zp_for (fun i => zi_run d zm_X10_post 248 [some (.inr (.inr (10, some 0))), some (.inl n), some (.inl (nI r)), some (.inl (nI k)), some (.inl x4), some (.inl x5), none, none, none, some (.inl (nI i)), none] [] (zp_l (zi_sI M 24 0 r (nI k)) 25 0 (40 * r) i (fun j => M.1 37 0 j))) k (zi_run d zm_X10_post 279 [some (.inr (.inr (10, some 0))), some (.inl n), some (.inl (nI r)), some (.inl (nI k)), some (.inl x4), some (.inl x5), none, none, none, none, none] [] (zp_l (zi_sI M 24 0 r (nI k)) 25 0 (40 * r) k (fun j => M.1 37 0 j))) ?_ ?_ 0 (Nat.zero_le _))
  · simp only [zp_l0]; rfl
  · rw [ze_X10_post_248]
    simp (disch := omega) only [↓zp_dn, ↓zp_hV, ↓zp_hI, ↓zp_hL, ↓zp_hR, ↓zp_hX, zp_eV, zp_eI, zp_eL, zp_eR, zp_eX, zp_eXl, zp_iV, zp_iI, zp_iL, zp_iR, ↓zp_sm, ↓zp_nls, ↓zp_nln, zp_bo0, zp_bo1, zp_okE, zp_ok2E, zp_rfE, ↓reduceIte, if_true, if_false, zp_leT, zp_leF, zp_ltT, zp_ltF, zp_eqT, zp_eqF, zp_leTl, zp_leFl, zp_ltTl, zp_ltFl, zp_leTr, zp_leFr, zp_ltTr, zp_ltFr, zp_eqTr, zp_eqFr, zp_eqTl, zp_eqFl, zp_eqFll, eq_self, zp_addl, zp_addr, zp_mull, zp_mulr, zp_subr, zp_subl, nI_add, pk_mul]
  · intro i hi
    rw [ze_X10_post_248]
    simp (disch := omega) only [↓zp_dn, ↓zp_hV, ↓zp_hI, ↓zp_hL, ↓zp_hR, ↓zp_hX, zp_eV, zp_eI, zp_eL, zp_eR, zp_eX, zp_eXl, zp_iV, zp_iI, zp_iL, zp_iR, ↓zp_sm, ↓zp_nls, ↓zp_nln, zp_bo0, zp_bo1, zp_okE, zp_ok2E, zp_rfE, ↓reduceIte, if_true, if_false, zp_leT, zp_leF, zp_ltT, zp_ltF, zp_eqT, zp_eqF, zp_leTl, zp_leFl, zp_ltTl, zp_ltFl, zp_leTr, zp_leFr, zp_ltTr, zp_ltFr, zp_eqTr, zp_eqFr, zp_eqTl, zp_eqFl, zp_eqFll, eq_self, zp_addl, zp_addr, zp_mull, zp_mulr, zp_subr, zp_subl, nI_add, pk_mul, zp_sI1, zp_w1, zp_sL1, zp_sR1, zp_l1, Nat.reduceEqDiff, Nat.reduceLT, Nat.reduceLeDiff, Nat.reduceAdd, Nat.reduceMul, Nat.reduceSub, reduceCtorEq, Int32.reduceLT, Int32.reduceLE, not_true_eq_false, not_false_eq_true, and_true, true_and, and_false, false_and, or_true, true_or, or_false, false_or]
    rw [zp_lS _ _ _ _ _ _ _ rfl]
theorem zr_p95 (d : Nat) {M0 : zi_M} {m : Nat → Nat} {k : Nat} (hk : k ≤ 4) (hm : ∀ j, j < 4 → m j ≤ 3) (hmk : ∀ j, k ≤ j → m j = 0) {n r : Nat} (hn : n ≤ 12) (hr : r < 6) : ∀ (q c : Nat) (M : zi_M) (acc : Option Nat), c + q = 256 → zw_LR M0 M r (acc.map (zs_wv k)) → (∀ j, j < k → M.1 36 0 j = nI (m j)) → ∃ M', zi_run d zm_X10_post 95 [some (.inr (.inr (10, some 0))), some (.inl (nI n)), some (.inl (nI r)), some (.inl (nI k)), some (.inl (zs_p4 acc)), some (.inl (nI c)), none, none, none, none, none] [] M = some (some (.inl (zs_p4 (zs_pl m n c q acc))), M') ∧ zw_LR M0 M' r ((zs_pl m n c q acc).map (zs_wv k)) := by
  intro q
  induction q with
  | zero =>
    intro c M acc hc hL hl
    refine ⟨M, ?_, hL⟩
    rw [ze_X10_post_95]
    simp (disch := omega) only [↓zp_dn, ↓zp_hV, ↓zp_hI, ↓zp_hL, ↓zp_hR, ↓zp_hX, zp_eV, zp_eI, zp_eL, zp_eR, zp_eX, zp_eXl, zp_iV, zp_iI, zp_iL, zp_iR, ↓zp_sm, ↓zp_nls, ↓zp_nln, zp_bo0, zp_bo1, zp_okE, zp_ok2E, zp_rfE, ↓reduceIte, if_true, if_false, zp_leT, zp_leF, zp_ltT, zp_ltF, zp_eqT, zp_eqF, zp_leTl, zp_leFl, zp_ltTl, zp_ltFl, zp_leTr, zp_leFr, zp_ltTr, zp_ltFr, zp_eqTr, zp_eqFr, zp_eqTl, zp_eqFl, zp_eqFll, eq_self, zp_addl, zp_addr, zp_mull, zp_mulr, zp_subr, zp_subl, nI_add, pk_mul, zs_pl]
  | succ q ih =>
    intro c M acc hc hL hl
    have hc' : c < 256 := by omega
    have o : ∀ (M1 : zi_M) (x : Int32) (s : Nat), (∀ j, j < k → M1.1 36 0 j = nI (m j)) → ∀ j, j < k → (zi_sI M1 37 0 s x).1 36 0 j = nI (m j) := fun M1 x s h j hj => by simp [zp_sI1]; exact h j hj
    have s0 := zr_p115S d hk hm hmk hl hc' (nI n) (nI r) (zs_p4 acc) (i := 0) (by omega)
    have s1 := zr_p115S d hk hm hmk (o _ (nI (zs_sr c 0)) 0 hl) hc' (nI n) (nI r) (zs_p4 acc) (i := 1) (by omega)
    have s2 := zr_p115S d hk hm hmk (o _ (nI (zs_sr c 1)) 1 (o _ (nI (zs_sr c 0)) 0 hl)) hc' (nI n) (nI r) (zs_p4 acc) (i := 2) (by omega)
    have s3 := zr_p115S d hk hm hmk (o _ (nI (zs_sr c 2)) 2 (o _ (nI (zs_sr c 1)) 1 (o _ (nI (zs_sr c 0)) 0 hl))) hc' (nI n) (nI r) (zs_p4 acc) (i := 3) (by omega)
    have st : zi_run d zm_X10_post 95 [some (.inr (.inr (10, some 0))), some (.inl (nI n)), some (.inl (nI r)), some (.inl (nI k)), some (.inl (zs_p4 acc)), some (.inl (nI c)), none, none, none, none, none] [] M = zi_run d zm_X10_post 115 [some (.inr (.inr (10, some 0))), some (.inl (nI n)), some (.inl (nI r)), some (.inl (nI k)), some (.inl (zs_p4 acc)), some (.inl (nI c)), some (.inl (nI (zs_sm c 4))), some (.inl (nI (zs_cr c 4))), some (.inl (zw_b1 (zs_gd m c 4))), some (.inl (nI 4)), none] [] (zs_h4 M c) := by
      refine Eq.trans ?_ (s0.trans (s1.trans (s2.trans s3)))
      rw [ze_X10_post_95]
      simp (disch := omega) only [↓zp_dn, ↓zp_hV, ↓zp_hI, ↓zp_hL, ↓zp_hR, ↓zp_hX, zp_eV, zp_eI, zp_eL, zp_eR, zp_eX, zp_eXl, zp_iV, zp_iI, zp_iL, zp_iR, ↓zp_sm, ↓zp_nls, ↓zp_nln, zp_bo0, zp_bo1, zp_okE, zp_ok2E, zp_rfE, ↓reduceIte, if_true, if_false, zp_leT, zp_leF, zp_ltT, zp_ltF, zp_eqT, zp_eqF, zp_leTl, zp_leFl, zp_ltTl, zp_ltFl, zp_leTr, zp_leFr, zp_ltTr, zp_ltFr, zp_eqTr, zp_eqFr, zp_eqTl, zp_eqFl, zp_eqFll, eq_self, zp_addl, zp_addr, zp_mull, zp_mulr, zp_subr, zp_subl, nI_add, pk_mul]
      rfl
    have hcr := zs_cr_le c 4
    have hsm := zs_sm_le c 4
    have hL4 := zw_LR_nb hr (zs_h4nb M c) rfl hL
    have hl4 : ∀ j, j < k → (zs_h4 M c).1 36 0 j = nI (m j) := fun j hj => by rw [zs_h4o M c (by decide)]; exact hl j hj
    rw [st, zs_pl, ze_X10_post_115]
    have skip : zs_pf m n acc c = acc → ∃ M', zi_run d zm_X10_post 279 [some (.inr (.inr (10, some 0))), some (.inl (nI n)), some (.inl (nI r)), some (.inl (nI k)), some (.inl (zs_p4 acc)), some (.inl (nI c)), none, none, none, none, none] [] (zs_h4 M c) = some (some (.inl (zs_p4 (zs_pl m n (c + 1) q (zs_pf m n acc c)))), M') ∧ zw_LR M0 M' r ((zs_pl m n (c + 1) q (zs_pf m n acc c)).map (zs_wv k)) := by
      intro e
      rw [e, ze_X10_post_279, nI_1]
      exact ih (c + 1) (zs_h4 M c) acc (by omega) hL4 hl4
    have put : zs_pf m n acc c = some c → ∃ M', zi_run d zm_X10_post 234 [some (.inr (.inr (10, some 0))), some (.inl (nI n)), some (.inl (nI r)), some (.inl (nI k)), none, some (.inl (nI c)), none, some (.inl (nI (zs_cr c 4))), none, none, none] [] (zs_h4 M c) = some (some (.inl (zs_p4 (zs_pl m n (c + 1) q (zs_pf m n acc c)))), M') ∧ zw_LR M0 M' r ((zs_pl m n (c + 1) q (zs_pf m n acc c)).map (zs_wv k)) := by
      intro e
      rw [e, ze_X10_post_234]
      simp (disch := omega) only [↓zp_dn, ↓zp_hV, ↓zp_hI, ↓zp_hL, ↓zp_hR, ↓zp_hX, zp_eV, zp_eI, zp_eL, zp_eR, zp_eX, zp_eXl, zp_iV, zp_iI, zp_iL, zp_iR, ↓zp_sm, ↓zp_nls, ↓zp_nln, zp_bo0, zp_bo1, zp_okE, zp_ok2E, zp_rfE, ↓reduceIte, if_true, if_false, zp_leT, zp_leF, zp_ltT, zp_ltF, zp_eqT, zp_eqF, zp_leTl, zp_leFl, zp_ltTl, zp_ltFl, zp_leTr, zp_leFr, zp_ltTr, zp_ltFr, zp_eqTr, zp_eqFr, zp_eqTl, zp_eqFl, zp_eqFll, eq_self, zp_addl, zp_addr, zp_mull, zp_mulr, zp_subr, zp_subl, nI_add, pk_mul]
      rw [zr_p248 d hk hr, ze_X10_post_279, nI_1]
      refine ih (c + 1) _ (some c) (by omega) (zs_LR_w hk (fun j hj => zs_h4i M c (by omega)) hL4) (fun j hj => ?_)
      simp only [zp_l1, zp_sI1, Nat.reduceEqDiff, Nat.reduceLT, Nat.reduceLeDiff, Nat.reduceAdd, Nat.reduceMul, Nat.reduceSub, reduceCtorEq, Int32.reduceLT, Int32.reduceLE, not_true_eq_false, not_false_eq_true, and_true, true_and, and_false, false_and, or_true, true_or, or_false, false_or, ↓reduceIte]; exact hl4 j hj
    by_cases hg : zs_gd m c 4 = true
    · by_cases hs : zs_sm c 4 = n
      · cases acc with
        | none =>
          simp (disch := omega) only [↓zp_dn, ↓zp_hV, ↓zp_hI, ↓zp_hL, ↓zp_hR, ↓zp_hX, zp_eV, zp_eI, zp_eL, zp_eR, zp_eX, zp_eXl, zp_iV, zp_iI, zp_iL, zp_iR, ↓zp_sm, ↓zp_nls, ↓zp_nln, zp_bo0, zp_bo1, zp_okE, zp_ok2E, zp_rfE, ↓reduceIte, if_true, if_false, zp_leT, zp_leF, zp_ltT, zp_ltF, zp_eqT, zp_eqF, zp_leTl, zp_leFl, zp_ltTl, zp_ltFl, zp_leTr, zp_leFr, zp_ltTr, zp_ltFr, zp_eqTr, zp_eqFr, zp_eqTl, zp_eqFl, zp_eqFll, eq_self, zp_addl, zp_addr, zp_mull, zp_mulr, zp_subr, zp_subl, nI_add, pk_mul, hg, zw_b1T, zp_1n0, zs_p4]
          exact put (by simp only [zs_pf, if_pos (show zs_gd m c 4 = true ∧ zs_sm c 4 = n from ⟨hg, hs⟩)])
        | some b =>
          have hbr := zs_cr_le b 4
          by_cases hlt : zs_cr c 4 < zs_cr b 4
          · simp (disch := omega) only [↓zp_dn, ↓zp_hV, ↓zp_hI, ↓zp_hL, ↓zp_hR, ↓zp_hX, zp_eV, zp_eI, zp_eL, zp_eR, zp_eX, zp_eXl, zp_iV, zp_iI, zp_iL, zp_iR, ↓zp_sm, ↓zp_nls, ↓zp_nln, zp_bo0, zp_bo1, zp_okE, zp_ok2E, zp_rfE, ↓reduceIte, if_true, if_false, zp_leT, zp_leF, zp_ltT, zp_ltF, zp_eqT, zp_eqF, zp_leTl, zp_leFl, zp_ltTl, zp_ltFl, zp_leTr, zp_leFr, zp_ltTr, zp_ltFr, zp_eqTr, zp_eqFr, zp_eqTl, zp_eqFl, zp_eqFll, eq_self, zp_addl, zp_addr, zp_mull, zp_mulr, zp_subr, zp_subl, nI_add, pk_mul, hg, zw_b1T, zp_1n0, zs_p4, zp_e9]
            exact put (by simp only [zs_pf, if_pos (show zs_gd m c 4 = true ∧ zs_sm c 4 = n from ⟨hg, hs⟩), if_pos hlt])
          · simp (disch := omega) only [↓zp_dn, ↓zp_hV, ↓zp_hI, ↓zp_hL, ↓zp_hR, ↓zp_hX, zp_eV, zp_eI, zp_eL, zp_eR, zp_eX, zp_eXl, zp_iV, zp_iI, zp_iL, zp_iR, ↓zp_sm, ↓zp_nls, ↓zp_nln, zp_bo0, zp_bo1, zp_okE, zp_ok2E, zp_rfE, ↓reduceIte, if_true, if_false, zp_leT, zp_leF, zp_ltT, zp_ltF, zp_eqT, zp_eqF, zp_leTl, zp_leFl, zp_ltTl, zp_ltFl, zp_leTr, zp_leFr, zp_ltTr, zp_ltFr, zp_eqTr, zp_eqFr, zp_eqTl, zp_eqFl, zp_eqFll, eq_self, zp_addl, zp_addr, zp_mull, zp_mulr, zp_subr, zp_subl, nI_add, pk_mul, hg, zw_b1T, zp_1n0, zs_p4, zp_e9]
            exact skip (by simp only [zs_pf, if_pos (show zs_gd m c 4 = true ∧ zs_sm c 4 = n from ⟨hg, hs⟩), if_neg hlt])
      · simp (disch := omega) only [↓zp_dn, ↓zp_hV, ↓zp_hI, ↓zp_hL, ↓zp_hR, ↓zp_hX, zp_eV, zp_eI, zp_eL, zp_eR, zp_eX, zp_eXl, zp_iV, zp_iI, zp_iL, zp_iR, ↓zp_sm, ↓zp_nls, ↓zp_nln, zp_bo0, zp_bo1, zp_okE, zp_ok2E, zp_rfE, ↓reduceIte, if_true, if_false, zp_leT, zp_leF, zp_ltT, zp_ltF, zp_eqT, zp_eqF, zp_leTl, zp_leFl, zp_ltTl, zp_ltFl, zp_leTr, zp_leFr, zp_ltTr, zp_ltFr, zp_eqTr, zp_eqFr, zp_eqTl, zp_eqFl, zp_eqFll, eq_self, zp_addl, zp_addr, zp_mull, zp_mulr, zp_subr, zp_subl, nI_add, pk_mul, hg, zw_b1T, zp_1n0]
        exact skip (by simp only [zs_pf, if_neg (show ¬ (zs_gd m c 4 = true ∧ zs_sm c 4 = n) from fun q => hs q.2)])
    · have hg' : zs_gd m c 4 = false := by cases h : zs_gd m c 4 with
        | true => exact absurd h hg
        | false => rfl
      simp (disch := omega) only [↓zp_dn, ↓zp_hV, ↓zp_hI, ↓zp_hL, ↓zp_hR, ↓zp_hX, zp_eV, zp_eI, zp_eL, zp_eR, zp_eX, zp_eXl, zp_iV, zp_iI, zp_iL, zp_iR, ↓zp_sm, ↓zp_nls, ↓zp_nln, zp_bo0, zp_bo1, zp_okE, zp_ok2E, zp_rfE, ↓reduceIte, if_true, if_false, zp_leT, zp_leF, zp_ltT, zp_ltF, zp_eqT, zp_eqF, zp_leTl, zp_leFl, zp_ltTl, zp_ltFl, zp_leTr, zp_leFr, zp_ltTr, zp_ltFr, zp_eqTr, zp_eqFr, zp_eqTl, zp_eqFl, zp_eqFll, eq_self, zp_addl, zp_addr, zp_mull, zp_mulr, zp_subr, zp_subl, nI_add, pk_mul, hg', zw_b1F]
      exact skip (by simp only [zs_pf, if_neg (show ¬ (zs_gd m c 4 = true ∧ zs_sm c 4 = n) from fun q => hg q.1)])
theorem zs_pl_lt (m : Nat → Nat) (n : Nat) : ∀ (k c : Nat) (acc : Option Nat), c + k ≤ 256 → (∀ b, acc = some b → b < 256) → ∀ b, zs_pl m n c k acc = some b → b < 256 := by
  intro k
  induction k with
  | zero => intro c acc _ h b hb; exact h b hb
  | succ k ih =>
    intro c acc hc h b hb
    refine ih (c + 1) (zs_pf m n acc c) (by omega) (fun x hx => ?_) b hb
    unfold zs_pf at hx
    split at hx
    · cases acc with
      | none => cases hx; omega
      | some a =>
        simp only at hx
        split at hx
        · cases hx; omega
        · cases hx; exact h _ rfl
    · exact h x hx
theorem zw_LC_sh {M0 M : zi_M} {r k c : Nat} {acc : Option zw_w} (hL : zw_LC M0 M r acc) : zw_LC M0 (zp_w (zi_sI M 5 r 1 (nI k)) 12 r (fun j => if j < k then nI (zs_sr c j) else M.1 12 r j)) r (some (zs_wv k c)) := by
  obtain ⟨a, b, c', e1, e2⟩ := hL
  refine ⟨zq_nr_tr a ?_, b, ⟨?_, fun j q hq => ?_⟩, ?_, fun j hj => ?_⟩
  · intro c1 k1 s _ h5 h12 _ _
    rw [zp_w1]
    by_cases e : c1 = 12
    · by_cases e2 : k1 = r
      · exact absurd ⟨e, e2⟩ h12
      · rw [if_pos e, if_neg e2, zp_sI1, if_neg (by omega)]
    · rw [if_neg e, zp_sI1]
      by_cases e5 : c1 = 5
      · by_cases e6 : s = 1
        · rw [if_pos e5, if_pos e6, if_neg (fun e7 => h5 ⟨e5, e7, e6⟩)]
        · rw [if_pos e5, if_neg e6]
      · rw [if_neg e5]
  · rw [zs_wv_len]; simp [zp_w1, zp_sI1]
  · obtain ⟨hj, hq1⟩ := zs_wv_at hq
    simp only [zp_w1, ↓reduceIte, if_pos hj, hq1]
  · simp only [zp_w1, zp_sI1, Nat.reduceEqDiff, Nat.reduceLT, Nat.reduceLeDiff, Nat.reduceAdd, Nat.reduceMul, Nat.reduceSub, reduceCtorEq, Int32.reduceLT, Int32.reduceLE, not_true_eq_false, not_false_eq_true, and_true, true_and, and_false, false_and, or_true, true_or, or_false, false_or, ↓reduceIte]; exact e1
  · simp only [zp_w1, zp_sI1, Nat.reduceEqDiff, Nat.reduceLT, Nat.reduceLeDiff, Nat.reduceAdd, Nat.reduceMul, Nat.reduceSub, reduceCtorEq, Int32.reduceLT, Int32.reduceLE, not_true_eq_false, not_false_eq_true, and_true, true_and, and_false, false_and, or_true, true_or, or_false, false_or, ↓reduceIte]; exact e2 j hj
theorem zo_post (d : Nat) {n : Nat} {xs : Nat → Int32} {M : zi_M} (hI : zq_inv n xs M) (q r : Int32) : zp_ok (zi_run (d + 7) zm_X9_post 0 [some (.inr (.inr (9, some 0))), some (.inl q), some (.inl r), none, none, none, none, none] [] M) (zp_rf (d + 7) zm_X10_post [some (.inr (.inr (10, some 0))), some (.inl q), some (.inl r), none, none, none, none, none, none, none, none]) (zq_inv n xs) := by
  obtain ⟨A, K, hS⟩ := hI.2.2.2.2.1
  have h4 := hS.2.1.1
  have hR := hS.2.2.2.2.2.1
  have c4 : M.1 6 0 4 = nI K.2.1 := hS.2.2.2.1.2.1
  have r3 : M.1 28 0 3 = nI K.2.1 := hR.2.1
  rcases zp_int r with hr | ⟨r, hr, rfl⟩
  · rcases zp_int q with hq | ⟨q, hq, rfl⟩
    · simp (disch := omega) only [ze_X9_post_0, ze_X10_post_0, ze_X5_room_0, ze_X5_size_0, ze_X5_isThere_0, ze_X5_has_0, ze_X5_hasRun_0, ze_X5_get_0, ze_X5_set_0, ze_X5_drop_0, ze_X5_takeRun_0, ze_X9_rowAt_0, ze_X9_textAt_0, ze_X9_refuse_0, ze_X10_isRow_0, ze_X10_isText_0, ze_X10_finds_0, ze_X10_tells_0, zp_in_0_5, zp_in_0_3, zp_in_0_7, zp_in_1_5, zp_in_0_9, zp_in_0_2, zp_in_48_57, zp_in_0_12, zp_in_1_4, zp_in_1_9, zp_in_1_2147483646, zp_in_0_8, zp_in_0, ↓zp_dn, ↓zp_hV, ↓zp_hI, ↓zp_hL, ↓zp_hR, ↓zp_hX, zp_eV, zp_eI, zp_eL, zp_eR, zp_eX, zp_eXl, zp_iV, zp_iI, zp_iL, zp_iR, ↓zp_sm, ↓zp_nls, ↓zp_nln, zp_bo0, zp_bo1, zp_okE, zp_ok2E, zp_rfE, ↓reduceIte, if_true, if_false, zp_ofn, zp_sI1, zp_w1, zp_sL1, zp_sR1, zp_l1, zp_leT, zp_leF, zp_ltT, zp_ltF, zp_eqT, zp_eqF, zp_leTl, zp_leFl, zp_ltTl, zp_ltFl, zp_leTr, zp_leFr, zp_ltTr, zp_ltFr, zp_eqTr, zp_eqFr, zp_eqTl, zp_eqFl, zp_eqFll, eq_self, zp_addl, zp_addr, zp_mull, zp_mulr, zp_subr, zp_subl, nI_add, pk_mul, Nat.reduceEqDiff, Nat.reduceLT, Nat.reduceLeDiff, Nat.reduceAdd, Nat.reduceMul, Nat.reduceSub, reduceCtorEq, Int32.reduceLT, Int32.reduceLE, not_true_eq_false, not_false_eq_true, and_true, true_and, and_false, false_and, or_true, true_or, or_false, false_or, zp_n0 hr, zp_n1 hr, zp_n2 hr, zp_n3 hr, zp_n4 hr, zp_n3l hr, zp_n4l hr, zp_n0 hq, zp_n1 hq, zp_n2 hq, zp_n3 hq, zp_n4 hq, zp_n3l hq, zp_n4l hq]; exact hI
    · by_cases hq12 : q ≤ 12
      · simp (disch := omega) only [ze_X9_post_0, ze_X10_post_0, ze_X5_room_0, ze_X5_size_0, ze_X5_isThere_0, ze_X5_has_0, ze_X5_hasRun_0, ze_X5_get_0, ze_X5_set_0, ze_X5_drop_0, ze_X5_takeRun_0, ze_X9_rowAt_0, ze_X9_textAt_0, ze_X9_refuse_0, ze_X10_isRow_0, ze_X10_isText_0, ze_X10_finds_0, ze_X10_tells_0, zp_in_0_5, zp_in_0_3, zp_in_0_7, zp_in_1_5, zp_in_0_9, zp_in_0_2, zp_in_48_57, zp_in_0_12, zp_in_1_4, zp_in_1_9, zp_in_1_2147483646, zp_in_0_8, zp_in_0, ↓zp_dn, ↓zp_hV, ↓zp_hI, ↓zp_hL, ↓zp_hR, ↓zp_hX, zp_eV, zp_eI, zp_eL, zp_eR, zp_eX, zp_eXl, zp_iV, zp_iI, zp_iL, zp_iR, ↓zp_sm, ↓zp_nls, ↓zp_nln, zp_bo0, zp_bo1, zp_okE, zp_ok2E, zp_rfE, ↓reduceIte, if_true, if_false, zp_ofn, zp_sI1, zp_w1, zp_sL1, zp_sR1, zp_l1, zp_leT, zp_leF, zp_ltT, zp_ltF, zp_eqT, zp_eqF, zp_leTl, zp_leFl, zp_ltTl, zp_ltFl, zp_leTr, zp_leFr, zp_ltTr, zp_ltFr, zp_eqTr, zp_eqFr, zp_eqTl, zp_eqFl, zp_eqFll, eq_self, zp_addl, zp_addr, zp_mull, zp_mulr, zp_subr, zp_subl, nI_add, pk_mul, Nat.reduceEqDiff, Nat.reduceLT, Nat.reduceLeDiff, Nat.reduceAdd, Nat.reduceMul, Nat.reduceSub, reduceCtorEq, Int32.reduceLT, Int32.reduceLE, not_true_eq_false, not_false_eq_true, and_true, true_and, and_false, false_and, or_true, true_or, or_false, false_or, zp_n0 hr, zp_n1 hr, zp_n2 hr, zp_n3 hr, zp_n4 hr, zp_n3l hr, zp_n4l hr]; exact hI
      · simp (disch := omega) only [ze_X9_post_0, ze_X10_post_0, ze_X5_room_0, ze_X5_size_0, ze_X5_isThere_0, ze_X5_has_0, ze_X5_hasRun_0, ze_X5_get_0, ze_X5_set_0, ze_X5_drop_0, ze_X5_takeRun_0, ze_X9_rowAt_0, ze_X9_textAt_0, ze_X9_refuse_0, ze_X10_isRow_0, ze_X10_isText_0, ze_X10_finds_0, ze_X10_tells_0, zp_in_0_5, zp_in_0_3, zp_in_0_7, zp_in_1_5, zp_in_0_9, zp_in_0_2, zp_in_48_57, zp_in_0_12, zp_in_1_4, zp_in_1_9, zp_in_1_2147483646, zp_in_0_8, zp_in_0, ↓zp_dn, ↓zp_hV, ↓zp_hI, ↓zp_hL, ↓zp_hR, ↓zp_hX, zp_eV, zp_eI, zp_eL, zp_eR, zp_eX, zp_eXl, zp_iV, zp_iI, zp_iL, zp_iR, ↓zp_sm, ↓zp_nls, ↓zp_nln, zp_bo0, zp_bo1, zp_okE, zp_ok2E, zp_rfE, ↓reduceIte, if_true, if_false, zp_ofn, zp_sI1, zp_w1, zp_sL1, zp_sR1, zp_l1, zp_leT, zp_leF, zp_ltT, zp_ltF, zp_eqT, zp_eqF, zp_leTl, zp_leFl, zp_ltTl, zp_ltFl, zp_leTr, zp_leFr, zp_ltTr, zp_ltFr, zp_eqTr, zp_eqFr, zp_eqTl, zp_eqFl, zp_eqFll, eq_self, zp_addl, zp_addr, zp_mull, zp_mulr, zp_subr, zp_subl, nI_add, pk_mul, Nat.reduceEqDiff, Nat.reduceLT, Nat.reduceLeDiff, Nat.reduceAdd, Nat.reduceMul, Nat.reduceSub, reduceCtorEq, Int32.reduceLT, Int32.reduceLE, not_true_eq_false, not_false_eq_true, and_true, true_and, and_false, false_and, or_true, true_or, or_false, false_or, zp_n0 hr, zp_n1 hr, zp_n2 hr, zp_n3 hr, zp_n4 hr, zp_n3l hr, zp_n4l hr]; exact hI
  by_cases r6 : r < 6
  case neg =>
    rcases zp_int q with hq | ⟨q, hq, rfl⟩
    · simp (disch := omega) only [ze_X9_post_0, ze_X10_post_0, ze_X5_room_0, ze_X5_size_0, ze_X5_isThere_0, ze_X5_has_0, ze_X5_hasRun_0, ze_X5_get_0, ze_X5_set_0, ze_X5_drop_0, ze_X5_takeRun_0, ze_X9_rowAt_0, ze_X9_textAt_0, ze_X9_refuse_0, ze_X10_isRow_0, ze_X10_isText_0, ze_X10_finds_0, ze_X10_tells_0, zp_in_0_5, zp_in_0_3, zp_in_0_7, zp_in_1_5, zp_in_0_9, zp_in_0_2, zp_in_48_57, zp_in_0_12, zp_in_1_4, zp_in_1_9, zp_in_1_2147483646, zp_in_0_8, zp_in_0, ↓zp_dn, ↓zp_hV, ↓zp_hI, ↓zp_hL, ↓zp_hR, ↓zp_hX, zp_eV, zp_eI, zp_eL, zp_eR, zp_eX, zp_eXl, zp_iV, zp_iI, zp_iL, zp_iR, ↓zp_sm, ↓zp_nls, ↓zp_nln, zp_bo0, zp_bo1, zp_okE, zp_ok2E, zp_rfE, ↓reduceIte, if_true, if_false, zp_ofn, zp_sI1, zp_w1, zp_sL1, zp_sR1, zp_l1, zp_leT, zp_leF, zp_ltT, zp_ltF, zp_eqT, zp_eqF, zp_leTl, zp_leFl, zp_ltTl, zp_ltFl, zp_leTr, zp_leFr, zp_ltTr, zp_ltFr, zp_eqTr, zp_eqFr, zp_eqTl, zp_eqFl, zp_eqFll, eq_self, zp_addl, zp_addr, zp_mull, zp_mulr, zp_subr, zp_subl, nI_add, pk_mul, Nat.reduceEqDiff, Nat.reduceLT, Nat.reduceLeDiff, Nat.reduceAdd, Nat.reduceMul, Nat.reduceSub, reduceCtorEq, Int32.reduceLT, Int32.reduceLE, not_true_eq_false, not_false_eq_true, and_true, true_and, and_false, false_and, or_true, true_or, or_false, false_or, zp_n0 hq, zp_n1 hq, zp_n2 hq, zp_n3 hq, zp_n4 hq, zp_n3l hq, zp_n4l hq]; exact hI
    · by_cases hq12 : q ≤ 12
      · simp (disch := omega) only [ze_X9_post_0, ze_X10_post_0, ze_X5_room_0, ze_X5_size_0, ze_X5_isThere_0, ze_X5_has_0, ze_X5_hasRun_0, ze_X5_get_0, ze_X5_set_0, ze_X5_drop_0, ze_X5_takeRun_0, ze_X9_rowAt_0, ze_X9_textAt_0, ze_X9_refuse_0, ze_X10_isRow_0, ze_X10_isText_0, ze_X10_finds_0, ze_X10_tells_0, zp_in_0_5, zp_in_0_3, zp_in_0_7, zp_in_1_5, zp_in_0_9, zp_in_0_2, zp_in_48_57, zp_in_0_12, zp_in_1_4, zp_in_1_9, zp_in_1_2147483646, zp_in_0_8, zp_in_0, ↓zp_dn, ↓zp_hV, ↓zp_hI, ↓zp_hL, ↓zp_hR, ↓zp_hX, zp_eV, zp_eI, zp_eL, zp_eR, zp_eX, zp_eXl, zp_iV, zp_iI, zp_iL, zp_iR, ↓zp_sm, ↓zp_nls, ↓zp_nln, zp_bo0, zp_bo1, zp_okE, zp_ok2E, zp_rfE, ↓reduceIte, if_true, if_false, zp_ofn, zp_sI1, zp_w1, zp_sL1, zp_sR1, zp_l1, zp_leT, zp_leF, zp_ltT, zp_ltF, zp_eqT, zp_eqF, zp_leTl, zp_leFl, zp_ltTl, zp_ltFl, zp_leTr, zp_leFr, zp_ltTr, zp_ltFr, zp_eqTr, zp_eqFr, zp_eqTl, zp_eqFl, zp_eqFll, eq_self, zp_addl, zp_addr, zp_mull, zp_mulr, zp_subr, zp_subl, nI_add, pk_mul, Nat.reduceEqDiff, Nat.reduceLT, Nat.reduceLeDiff, Nat.reduceAdd, Nat.reduceMul, Nat.reduceSub, reduceCtorEq, Int32.reduceLT, Int32.reduceLE, not_true_eq_false, not_false_eq_true, and_true, true_and, and_false, false_and, or_true, true_or, or_false, false_or]; exact hI
      · simp (disch := omega) only [ze_X9_post_0, ze_X10_post_0, ze_X5_room_0, ze_X5_size_0, ze_X5_isThere_0, ze_X5_has_0, ze_X5_hasRun_0, ze_X5_get_0, ze_X5_set_0, ze_X5_drop_0, ze_X5_takeRun_0, ze_X9_rowAt_0, ze_X9_textAt_0, ze_X9_refuse_0, ze_X10_isRow_0, ze_X10_isText_0, ze_X10_finds_0, ze_X10_tells_0, zp_in_0_5, zp_in_0_3, zp_in_0_7, zp_in_1_5, zp_in_0_9, zp_in_0_2, zp_in_48_57, zp_in_0_12, zp_in_1_4, zp_in_1_9, zp_in_1_2147483646, zp_in_0_8, zp_in_0, ↓zp_dn, ↓zp_hV, ↓zp_hI, ↓zp_hL, ↓zp_hR, ↓zp_hX, zp_eV, zp_eI, zp_eL, zp_eR, zp_eX, zp_eXl, zp_iV, zp_iI, zp_iL, zp_iR, ↓zp_sm, ↓zp_nls, ↓zp_nln, zp_bo0, zp_bo1, zp_okE, zp_ok2E, zp_rfE, ↓reduceIte, if_true, if_false, zp_ofn, zp_sI1, zp_w1, zp_sL1, zp_sR1, zp_l1, zp_leT, zp_leF, zp_ltT, zp_ltF, zp_eqT, zp_eqF, zp_leTl, zp_leFl, zp_ltTl, zp_ltFl, zp_leTr, zp_leFr, zp_ltTr, zp_ltFr, zp_eqTr, zp_eqFr, zp_eqTl, zp_eqFl, zp_eqFll, eq_self, zp_addl, zp_addr, zp_mull, zp_mulr, zp_subr, zp_subl, nI_add, pk_mul, Nat.reduceEqDiff, Nat.reduceLT, Nat.reduceLeDiff, Nat.reduceAdd, Nat.reduceMul, Nat.reduceSub, reduceCtorEq, Int32.reduceLT, Int32.reduceLE, not_true_eq_false, not_false_eq_true, and_true, true_and, and_false, false_and, or_true, true_or, or_false, false_or]; exact hI
  rcases zp_int q with hq | ⟨q, hq, rfl⟩
  · simp (disch := omega) only [ze_X9_post_0, ze_X10_post_0, ze_X5_room_0, ze_X5_size_0, ze_X5_isThere_0, ze_X5_has_0, ze_X5_hasRun_0, ze_X5_get_0, ze_X5_set_0, ze_X5_drop_0, ze_X5_takeRun_0, ze_X9_rowAt_0, ze_X9_textAt_0, ze_X9_refuse_0, ze_X10_isRow_0, ze_X10_isText_0, ze_X10_finds_0, ze_X10_tells_0, zp_in_0_5, zp_in_0_3, zp_in_0_7, zp_in_1_5, zp_in_0_9, zp_in_0_2, zp_in_48_57, zp_in_0_12, zp_in_1_4, zp_in_1_9, zp_in_1_2147483646, zp_in_0_8, zp_in_0, ↓zp_dn, ↓zp_hV, ↓zp_hI, ↓zp_hL, ↓zp_hR, ↓zp_hX, zp_eV, zp_eI, zp_eL, zp_eR, zp_eX, zp_eXl, zp_iV, zp_iI, zp_iL, zp_iR, ↓zp_sm, ↓zp_nls, ↓zp_nln, zp_bo0, zp_bo1, zp_okE, zp_ok2E, zp_rfE, ↓reduceIte, if_true, if_false, zp_ofn, zp_sI1, zp_w1, zp_sL1, zp_sR1, zp_l1, zp_leT, zp_leF, zp_ltT, zp_ltF, zp_eqT, zp_eqF, zp_leTl, zp_leFl, zp_ltTl, zp_ltFl, zp_leTr, zp_leFr, zp_ltTr, zp_ltFr, zp_eqTr, zp_eqFr, zp_eqTl, zp_eqFl, zp_eqFll, eq_self, zp_addl, zp_addr, zp_mull, zp_mulr, zp_subr, zp_subl, nI_add, pk_mul, Nat.reduceEqDiff, Nat.reduceLT, Nat.reduceLeDiff, Nat.reduceAdd, Nat.reduceMul, Nat.reduceSub, reduceCtorEq, Int32.reduceLT, Int32.reduceLE, not_true_eq_false, not_false_eq_true, and_true, true_and, and_false, false_and, or_true, true_or, or_false, false_or, zp_n0 hq, zp_n1 hq, zp_n2 hq, zp_n3 hq, zp_n4 hq, zp_n3l hq, zp_n4l hq]; exact hI
  by_cases hq12 : q ≤ 12
  case neg => simp (disch := omega) only [ze_X9_post_0, ze_X10_post_0, ze_X5_room_0, ze_X5_size_0, ze_X5_isThere_0, ze_X5_has_0, ze_X5_hasRun_0, ze_X5_get_0, ze_X5_set_0, ze_X5_drop_0, ze_X5_takeRun_0, ze_X9_rowAt_0, ze_X9_textAt_0, ze_X9_refuse_0, ze_X10_isRow_0, ze_X10_isText_0, ze_X10_finds_0, ze_X10_tells_0, zp_in_0_5, zp_in_0_3, zp_in_0_7, zp_in_1_5, zp_in_0_9, zp_in_0_2, zp_in_48_57, zp_in_0_12, zp_in_1_4, zp_in_1_9, zp_in_1_2147483646, zp_in_0_8, zp_in_0, ↓zp_dn, ↓zp_hV, ↓zp_hI, ↓zp_hL, ↓zp_hR, ↓zp_hX, zp_eV, zp_eI, zp_eL, zp_eR, zp_eX, zp_eXl, zp_iV, zp_iI, zp_iL, zp_iR, ↓zp_sm, ↓zp_nls, ↓zp_nln, zp_bo0, zp_bo1, zp_okE, zp_ok2E, zp_rfE, ↓reduceIte, if_true, if_false, zp_ofn, zp_sI1, zp_w1, zp_sL1, zp_sR1, zp_l1, zp_leT, zp_leF, zp_ltT, zp_ltF, zp_eqT, zp_eqF, zp_leTl, zp_leFl, zp_ltTl, zp_ltFl, zp_leTr, zp_leFr, zp_ltTr, zp_ltFr, zp_eqTr, zp_eqFr, zp_eqTl, zp_eqFl, zp_eqFll, eq_self, zp_addl, zp_addr, zp_mull, zp_mulr, zp_subr, zp_subl, nI_add, pk_mul, Nat.reduceEqDiff, Nat.reduceLT, Nat.reduceLeDiff, Nat.reduceAdd, Nat.reduceMul, Nat.reduceSub, reduceCtorEq, Int32.reduceLT, Int32.reduceLE, not_true_eq_false, not_false_eq_true, and_true, true_and, and_false, false_and, or_true, true_or, or_false, false_or]; exact hI
  by_cases h0 : K.2.1 = 0
  · simp (disch := omega) only [ze_X9_post_0, ze_X10_post_0, c4, r3, ze_X5_room_0, ze_X5_size_0, ze_X5_isThere_0, ze_X5_has_0, ze_X5_hasRun_0, ze_X5_get_0, ze_X5_set_0, ze_X5_drop_0, ze_X5_takeRun_0, ze_X9_rowAt_0, ze_X9_textAt_0, ze_X9_refuse_0, ze_X10_isRow_0, ze_X10_isText_0, ze_X10_finds_0, ze_X10_tells_0, zp_in_0_5, zp_in_0_3, zp_in_0_7, zp_in_1_5, zp_in_0_9, zp_in_0_2, zp_in_48_57, zp_in_0_12, zp_in_1_4, zp_in_1_9, zp_in_1_2147483646, zp_in_0_8, zp_in_0, ↓zp_dn, ↓zp_hV, ↓zp_hI, ↓zp_hL, ↓zp_hR, ↓zp_hX, zp_eV, zp_eI, zp_eL, zp_eR, zp_eX, zp_eXl, zp_iV, zp_iI, zp_iL, zp_iR, ↓zp_sm, ↓zp_nls, ↓zp_nln, zp_bo0, zp_bo1, zp_okE, zp_ok2E, zp_rfE, ↓reduceIte, if_true, if_false, zp_ofn, zp_sI1, zp_w1, zp_sL1, zp_sR1, zp_l1, zp_leT, zp_leF, zp_ltT, zp_ltF, zp_eqT, zp_eqF, zp_leTl, zp_leFl, zp_ltTl, zp_ltFl, zp_leTr, zp_leFr, zp_ltTr, zp_ltFr, zp_eqTr, zp_eqFr, zp_eqTl, zp_eqFl, zp_eqFll, eq_self, zp_addl, zp_addr, zp_mull, zp_mulr, zp_subr, zp_subl, nI_add, pk_mul, Nat.reduceEqDiff, Nat.reduceLT, Nat.reduceLeDiff, Nat.reduceAdd, Nat.reduceMul, Nat.reduceSub, reduceCtorEq, Int32.reduceLT, Int32.reduceLE, not_true_eq_false, not_false_eq_true, and_true, true_and, and_false, false_and, or_true, true_or, or_false, false_or]; exact hI
  obtain ⟨M1, l1, l2, l3, l4⟩ := zc_post38 (d + 1) hS (nI q) r 4 0 M (by omega) (zq_nb_rfl M) rfl (fun j hj => by omega)
  have l5 := zc_post80 (d + 5) (M := M1) (m := zs_m A K) (fun j _ => zs_m3 A K j) l4 hq12 r 256 0 none (by omega)
  have hLC1 := zw_LC_nb r6 l2 l3 (zw_LC_0 M r)
  have hlt := zs_pl_lt (zs_m A K) q 256 0 none (by omega) (fun b hb => by cases hb)
  generalize hacc : zs_pl (zs_m A K) q 0 256 none = acc at l5 hlt
  have c41 : M1.1 6 0 4 = nI K.2.1 := by rw [l2 6 0 4 (by simp [zq_gp])]; exact c4
  have cls : ∃ M2, zi_run (d + 7) zm_X9_post 80 [some (.inr (.inr (9, some 0))), some (.inl (nI q)), none, some (.inr (.inr (5, some r))), some (.inl (-9)), some (.inl 0), some (.inl 0), none] [] M1 = some (some (.inl (zs_p4 acc)), M2) ∧ zw_LC M M2 r (acc.map (zs_wv K.2.1)) := by
    refine Exists.imp (fun M2 h => ⟨Eq.trans l5 h.1, h.2⟩) (?_ : ∃ M2, zi_run (d + 5 + 2) zm_X9_post 80 [some (.inr (.inr (9, some 0))), some (.inl (nI q)), none, some (.inr (.inr (5, some r))), some (.inl (zs_p4 acc)), some (.inl (zs_p5 acc)), some (.inl (nI 256)), none] [] M1 = some (some (.inl (zs_p4 acc)), M2) ∧ zw_LC M M2 r (acc.map (zs_wv K.2.1)))
    rw [ze_X9_post_80]
    cases acc with
    | none =>
      refine ⟨M1, ?_, hLC1⟩
      simp (disch := omega) only [↓zp_dn, ↓zp_hV, ↓zp_hI, ↓zp_hL, ↓zp_hR, ↓zp_hX, zp_eV, zp_eI, zp_eL, zp_eR, zp_eX, zp_eXl, zp_iV, zp_iI, zp_iL, zp_iR, ↓zp_sm, ↓zp_nls, ↓zp_nln, zp_bo0, zp_bo1, zp_okE, zp_ok2E, zp_rfE, ↓reduceIte, if_true, if_false, zp_leT, zp_leF, zp_ltT, zp_ltF, zp_eqT, zp_eqF, zp_leTl, zp_leFl, zp_ltTl, zp_ltFl, zp_leTr, zp_leFr, zp_ltTr, zp_ltFr, zp_eqTr, zp_eqFr, zp_eqTl, zp_eqFl, zp_eqFll, eq_self, zp_addl, zp_addr, zp_mull, zp_mulr, zp_subr, zp_subl, nI_add, pk_mul, zs_p4]
    | some c =>
      have hc := hlt c rfl
      have hcr := zs_cr_le c 4
      refine ⟨_, ?_, zw_LC_sh (k := K.2.1) (c := c) hLC1⟩
      simp (disch := omega) only [↓zp_dn, ↓zp_hV, ↓zp_hI, ↓zp_hL, ↓zp_hR, ↓zp_hX, zp_eV, zp_eI, zp_eL, zp_eR, zp_eX, zp_eXl, zp_iV, zp_iI, zp_iL, zp_iR, ↓zp_sm, ↓zp_nls, ↓zp_nln, zp_bo0, zp_bo1, zp_okE, zp_ok2E, zp_rfE, ↓reduceIte, if_true, if_false, zp_leT, zp_leF, zp_ltT, zp_ltF, zp_eqT, zp_eqF, zp_leTl, zp_leFl, zp_ltTl, zp_ltFl, zp_leTr, zp_leFr, zp_ltTr, zp_ltFr, zp_eqTr, zp_eqFr, zp_eqTl, zp_eqFl, zp_eqFll, eq_self, zp_addl, zp_addr, zp_mull, zp_mulr, zp_subr, zp_subl, nI_add, pk_mul, zs_p4, zs_p5, zp_e9, zc_wrSh _ h4 c41 hc r6]
  obtain ⟨M2, m1, m2⟩ := cls
  have e28 := zq_nr_28 m2.1
  have hR2 : zf_rK (M2.1 28 0) K := by rw [e28]; exact hR
  have r32 : M2.1 28 0 3 = nI K.2.1 := hR2.2.1
  have hS2 := zq_sky_ag (zq_nr_ag m2.1 r6 (by decide) (by decide)) (zq_nr_ag m2.1 r6 (by decide) (by decide)) hS
  obtain ⟨M3, p1, p2, p3, p4⟩ := zr_p43 d (M0 := M2) hS2 (nI q) (nI r) K.2.1 0 M2 (by omega) (zq_nb_rfl M2) rfl (fun j hj => by omega)
  obtain ⟨M4, t1, t2⟩ := zr_p95 (d + 7) (M0 := M2) (m := zs_m A K) h4 (fun j _ => zs_m3 A K j) (fun j hj => by rw [zs_m, if_neg (by omega)]) hq12 r6 256 0 M3 none (by omega) (zw_LR_nb r6 p2 p3 (zw_LR_0 M2 r)) p4
  rw [hacc] at t1 t2
  rw [ze_X9_post_0]
  simp (disch := omega) only [c4, ze_X5_room_0, ze_X5_size_0, ze_X5_isThere_0, ze_X5_has_0, ze_X5_hasRun_0, ze_X5_get_0, ze_X5_set_0, ze_X5_drop_0, ze_X5_takeRun_0, ze_X9_rowAt_0, ze_X9_textAt_0, ze_X9_refuse_0, ze_X10_isRow_0, ze_X10_isText_0, ze_X10_finds_0, ze_X10_tells_0, zp_in_0_5, zp_in_0_3, zp_in_0_7, zp_in_1_5, zp_in_0_9, zp_in_0_2, zp_in_48_57, zp_in_0_12, zp_in_1_4, zp_in_1_9, zp_in_1_2147483646, zp_in_0_8, zp_in_0, ↓zp_dn, ↓zp_hV, ↓zp_hI, ↓zp_hL, ↓zp_hR, ↓zp_hX, zp_eV, zp_eI, zp_eL, zp_eR, zp_eX, zp_eXl, zp_iV, zp_iI, zp_iL, zp_iR, ↓zp_sm, ↓zp_nls, ↓zp_nln, zp_bo0, zp_bo1, zp_okE, zp_ok2E, zp_rfE, ↓reduceIte, if_true, if_false, zp_ofn, zp_sI1, zp_w1, zp_sL1, zp_sR1, zp_l1, zp_leT, zp_leF, zp_ltT, zp_ltF, zp_eqT, zp_eqF, zp_leTl, zp_leFl, zp_ltTl, zp_ltFl, zp_leTr, zp_leFr, zp_ltTr, zp_ltFr, zp_eqTr, zp_eqFr, zp_eqTl, zp_eqFl, zp_eqFll, eq_self, zp_addl, zp_addr, zp_mull, zp_mulr, zp_subr, zp_subl, nI_add, pk_mul, Nat.reduceEqDiff, Nat.reduceLT, Nat.reduceLeDiff, Nat.reduceAdd, Nat.reduceMul, Nat.reduceSub, reduceCtorEq, Int32.reduceLT, Int32.reduceLE, not_true_eq_false, not_false_eq_true, and_true, true_and, and_false, false_and, or_true, true_or, or_false, false_or]
  refine Eq.mpr (congrArg (fun o => zp_ok o _ _) (Eq.trans l1 m1)) ?_
  rw [zp_okE, zp_rfE, ze_X10_post_0]
  simp (disch := omega) only [r32, ze_X5_room_0, ze_X5_size_0, ze_X5_isThere_0, ze_X5_has_0, ze_X5_hasRun_0, ze_X5_get_0, ze_X5_set_0, ze_X5_drop_0, ze_X5_takeRun_0, ze_X9_rowAt_0, ze_X9_textAt_0, ze_X9_refuse_0, ze_X10_isRow_0, ze_X10_isText_0, ze_X10_finds_0, ze_X10_tells_0, zp_in_0_5, zp_in_0_3, zp_in_0_7, zp_in_1_5, zp_in_0_9, zp_in_0_2, zp_in_48_57, zp_in_0_12, zp_in_1_4, zp_in_1_9, zp_in_1_2147483646, zp_in_0_8, zp_in_0, ↓zp_dn, ↓zp_hV, ↓zp_hI, ↓zp_hL, ↓zp_hR, ↓zp_hX, zp_eV, zp_eI, zp_eL, zp_eR, zp_eX, zp_eXl, zp_iV, zp_iI, zp_iL, zp_iR, ↓zp_sm, ↓zp_nls, ↓zp_nln, zp_bo0, zp_bo1, zp_okE, zp_ok2E, zp_rfE, ↓reduceIte, if_true, if_false, zp_ofn, zp_sI1, zp_w1, zp_sL1, zp_sR1, zp_l1, zp_leT, zp_leF, zp_ltT, zp_ltF, zp_eqT, zp_eqF, zp_leTl, zp_leFl, zp_ltTl, zp_ltFl, zp_leTr, zp_leFr, zp_ltTr, zp_ltFr, zp_eqTr, zp_eqFr, zp_eqTl, zp_eqFl, zp_eqFll, eq_self, zp_addl, zp_addr, zp_mull, zp_mulr, zp_subr, zp_subl, nI_add, pk_mul, Nat.reduceEqDiff, Nat.reduceLT, Nat.reduceLeDiff, Nat.reduceAdd, Nat.reduceMul, Nat.reduceSub, reduceCtorEq, Int32.reduceLT, Int32.reduceLE, not_true_eq_false, not_false_eq_true, and_true, true_and, and_false, false_and, or_true, true_or, or_false, false_or]
  refine Eq.mpr (congrArg (fun o => zp_ok2 o _ _) (Eq.trans p1 t1)) ?_
  rw [zp_ok2E]
  refine ⟨rfl, zw_L_inv hI r6 (fun w hw => ?_) m2 t2⟩
  obtain ⟨c, _, e⟩ := Option.map_eq_some_iff.mp hw
  rw [← e, zs_wv_len]; omega
