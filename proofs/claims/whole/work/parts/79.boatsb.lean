/-! THE PURE PART: boats, the reference; both -/
theorem zr_near (d : Nat) {M : zi_M} {A : zf_A} (hA : zf_okE A) (hRA : zf_rA (M.1 28 0) A) {s : Nat} (hs : s < 2 ^ A.1) (x1 x2 x3 x4 x6 x7 : Int32) {c : Nat} (hc : c < A.1) : zi_run (d + 1) zm_X10_boats 99 [some (.inr (.inr (10, some 0))), some (.inl x1), some (.inl x2), some (.inl x3), some (.inl x4), some (.inl (nI s)), some (.inl x6), some (.inl x7), some (.inl (nI c)), some (.inl 100), some (.inl 0), none] [] M = zi_run (d + 1) zm_X10_boats 99 [some (.inr (.inr (10, some 0))), some (.inl x1), some (.inl x2), some (.inl x3), some (.inl x4), some (.inl (nI s)), some (.inl x6), some (.inl x7), some (.inl (nI c)), some (.inl (nI (zb_near 100 A.1 s c A.1))), some (.inl (nI A.1)), none] [] M := by
  have hA' := hA
  obtain ⟨a1, a2, a3, a4⟩ := hA'
  have r0 : M.1 28 0 0 = nI A.1 := hRA.1
  refine zp_for (fun k => zi_run (d + 1) zm_X10_boats 99 [some (.inr (.inr (10, some 0))), some (.inl x1), some (.inl x2), some (.inl x3), some (.inl x4), some (.inl (nI s)), some (.inl x6), some (.inl x7), some (.inl (nI c)), some (.inl (nI (zb_near 100 A.1 s c k))), some (.inl (nI k)), none] [] M) A.1 _ rfl ?_ 0 (Nat.zero_le _)
  intro k hk
  have hkl := zb_near_le 100 A.1 s c k
  have hab := zb_ab_lt (a := k) (b := c) (by omega) (by omega)
  have hE := zb_hE (by omega) hs hk
  have tail : zi_run (d + 1) zm_X10_boats 130 [some (.inr (.inr (10, some 0))), some (.inl x1), some (.inl x2), some (.inl x3), some (.inl x4), some (.inl (nI s)), some (.inl x6), some (.inl x7), some (.inl (nI c)), some (.inl (nI (zb_near 100 A.1 s c k))), some (.inl (nI k)), none] [.inl (nI (zb_ab k c))] M = zi_run (d + 1) zm_X10_boats 99 [some (.inr (.inr (10, some 0))), some (.inl x1), some (.inl x2), some (.inl x3), some (.inl x4), some (.inl (nI s)), some (.inl x6), some (.inl x7), some (.inl (nI c)), some (.inl (nI (zb_near 100 A.1 s c (k + 1)))), some (.inl (nI (k + 1))), none] [] M := by
    rw [ze_X10_boats_130, zb_near]
    have es : nI (A.1 - 1) - nI k = nI (A.1 - 1 - k) := pk_sub (by omega)
    cases h : zb_h A.1 s k with
    | false =>
      have hn : ¬ (nI s >>> (nI (A.1 - 1 - k) &&& 31)) &&& 1 = 1 := fun q => by rw [hE, h] at q; cases q
      simp (disch := omega) only [↓zp_dn, ↓zp_hV, ↓zp_hI, ↓zp_hL, ↓zp_hR, ↓zp_hX, zp_eV, zp_eI, zp_eL, zp_eR, zp_eX, zp_eXl, zp_iV, zp_iI, zp_iL, zp_iR, ↓zp_sm, ↓zp_nls, ↓zp_nln, zp_bo0, zp_bo1, zp_okE, zp_ok2E, zp_rfE, ↓reduceIte, if_true, if_false, zp_leT, zp_leF, zp_ltT, zp_ltF, zp_eqT, zp_eqF, zp_leTl, zp_leFl, zp_ltTl, zp_ltFl, zp_leTr, zp_leFr, zp_ltTr, zp_ltFr, zp_eqTr, zp_eqFr, zp_eqTl, zp_eqFl, zp_eqFll, eq_self, zp_addl, zp_addr, zp_mull, zp_mulr, zp_subr, zp_subl, nI_add, pk_mul, zr_last _ hA hRA, es, if_neg hn, ze_X10_boats_160, ze_X10_boats_162, Bool.false_and, Bool.false_eq_true]
    | true =>
      have hp := hE.mpr h
      by_cases hlt : zb_ab k c < zb_near 100 A.1 s c k
      · simp (disch := omega) only [↓zp_dn, ↓zp_hV, ↓zp_hI, ↓zp_hL, ↓zp_hR, ↓zp_hX, zp_eV, zp_eI, zp_eL, zp_eR, zp_eX, zp_eXl, zp_iV, zp_iI, zp_iL, zp_iR, ↓zp_sm, ↓zp_nls, ↓zp_nln, zp_bo0, zp_bo1, zp_okE, zp_ok2E, zp_rfE, ↓reduceIte, if_true, if_false, zp_leT, zp_leF, zp_ltT, zp_ltF, zp_eqT, zp_eqF, zp_leTl, zp_leFl, zp_ltTl, zp_ltFl, zp_leTr, zp_leFr, zp_ltTr, zp_ltFr, zp_eqTr, zp_eqFr, zp_eqTl, zp_eqFl, zp_eqFll, eq_self, zp_addl, zp_addr, zp_mull, zp_mulr, zp_subr, zp_subl, nI_add, pk_mul, zr_last _ hA hRA, es, if_pos hp, ze_X10_boats_162, Bool.true_and, decide_eq_true hlt]
      · simp (disch := omega) only [↓zp_dn, ↓zp_hV, ↓zp_hI, ↓zp_hL, ↓zp_hR, ↓zp_hX, zp_eV, zp_eI, zp_eL, zp_eR, zp_eX, zp_eXl, zp_iV, zp_iI, zp_iL, zp_iR, ↓zp_sm, ↓zp_nls, ↓zp_nln, zp_bo0, zp_bo1, zp_okE, zp_ok2E, zp_rfE, ↓reduceIte, if_true, if_false, zp_leT, zp_leF, zp_ltT, zp_ltF, zp_eqT, zp_eqF, zp_leTl, zp_leFl, zp_ltTl, zp_ltFl, zp_leTr, zp_leFr, zp_ltTr, zp_ltFr, zp_eqTr, zp_eqFr, zp_eqTl, zp_eqFl, zp_eqFll, eq_self, zp_addl, zp_addr, zp_mull, zp_mulr, zp_subr, zp_subl, nI_add, pk_mul, zr_last _ hA hRA, es, if_pos hp, ze_X10_boats_160, ze_X10_boats_162, Bool.true_and, decide_eq_false hlt, Bool.false_eq_true]
  rw [← tail, ze_X10_boats_99]
  by_cases hkc : k ≤ c
  · have e : zb_ab k c = c - k := by rw [zb_ab, if_pos hkc]
    rw [e]
    simp (disch := omega) only [↓zp_dn, ↓zp_hV, ↓zp_hI, ↓zp_hL, ↓zp_hR, ↓zp_hX, zp_eV, zp_eI, zp_eL, zp_eR, zp_eX, zp_eXl, zp_iV, zp_iI, zp_iL, zp_iR, ↓zp_sm, ↓zp_nls, ↓zp_nln, zp_bo0, zp_bo1, zp_okE, zp_ok2E, zp_rfE, ↓reduceIte, if_true, if_false, zp_leT, zp_leF, zp_ltT, zp_ltF, zp_eqT, zp_eqF, zp_leTl, zp_leFl, zp_ltTl, zp_ltFl, zp_leTr, zp_leFr, zp_ltTr, zp_ltFr, zp_eqTr, zp_eqFr, zp_eqTl, zp_eqFl, zp_eqFll, eq_self, zp_addl, zp_addr, zp_mull, zp_mulr, zp_subr, zp_subl, nI_add, pk_mul, r0, pk_sub]
  · have e : zb_ab k c = k - c := by rw [zb_ab, if_neg hkc]
    rw [e]
    simp (disch := omega) only [↓zp_dn, ↓zp_hV, ↓zp_hI, ↓zp_hL, ↓zp_hR, ↓zp_hX, zp_eV, zp_eI, zp_eL, zp_eR, zp_eX, zp_eXl, zp_iV, zp_iI, zp_iL, zp_iR, ↓zp_sm, ↓zp_nls, ↓zp_nln, zp_bo0, zp_bo1, zp_okE, zp_ok2E, zp_rfE, ↓reduceIte, if_true, if_false, zp_leT, zp_leF, zp_ltT, zp_ltF, zp_eqT, zp_eqF, zp_leTl, zp_leFl, zp_ltTl, zp_ltFl, zp_leTr, zp_leFr, zp_ltTr, zp_ltFr, zp_eqTr, zp_eqFr, zp_eqTl, zp_eqFl, zp_eqFll, eq_self, zp_addl, zp_addr, zp_mull, zp_mulr, zp_subr, zp_subl, nI_add, pk_mul, r0, pk_sub]
theorem zr_more2 (d : Nat) (a b : Nat) (ha : a < 2 ^ 31) (hb : b < 2 ^ 31) (M : zi_M) : zi_run d zm_X10_more 0 [some (.inl (nI a)), some (.inl (nI b))] [] M = some (some (.inl (nI (if b < a then a else b))), M) := by
  rw [ze_X10_more_0]
  by_cases h : b < a
  · rw [if_pos h]; simp (disch := omega) only [↓zp_dn, ↓zp_hV, ↓zp_hI, ↓zp_hL, ↓zp_hR, ↓zp_hX, zp_eV, zp_eI, zp_eL, zp_eR, zp_eX, zp_eXl, zp_iV, zp_iI, zp_iL, zp_iR, ↓zp_sm, ↓zp_nls, ↓zp_nln, zp_bo0, zp_bo1, zp_okE, zp_ok2E, zp_rfE, ↓reduceIte, if_true, if_false, zp_leT, zp_leF, zp_ltT, zp_ltF, zp_eqT, zp_eqF, zp_leTl, zp_leFl, zp_ltTl, zp_ltFl, zp_leTr, zp_leFr, zp_ltTr, zp_ltFr, zp_eqTr, zp_eqFr, zp_eqTl, zp_eqFl, zp_eqFll, eq_self, zp_addl, zp_addr, zp_mull, zp_mulr, zp_subr, zp_subl, nI_add, pk_mul]
  · rw [if_neg h]; simp (disch := omega) only [↓zp_dn, ↓zp_hV, ↓zp_hI, ↓zp_hL, ↓zp_hR, ↓zp_hX, zp_eV, zp_eI, zp_eL, zp_eR, zp_eX, zp_eXl, zp_iV, zp_iI, zp_iL, zp_iR, ↓zp_sm, ↓zp_nls, ↓zp_nln, zp_bo0, zp_bo1, zp_okE, zp_ok2E, zp_rfE, ↓reduceIte, if_true, if_false, zp_leT, zp_leF, zp_ltT, zp_ltF, zp_eqT, zp_eqF, zp_leTl, zp_leFl, zp_ltTl, zp_ltFl, zp_leTr, zp_leFr, zp_ltTr, zp_ltFr, zp_eqTr, zp_eqFr, zp_eqTl, zp_eqFl, zp_eqFll, eq_self, zp_addl, zp_addr, zp_mull, zp_mulr, zp_subr, zp_subl, nI_add, pk_mul]
theorem zr_set (d : Nat) {M : zi_M} {A : zf_A} (hA : zf_okE A) (hRA : zf_rA (M.1 28 0) A) {s : Nat} (hs : s < 2 ^ A.1) (x1 x2 x3 x4 : Int32) : zi_run (d + 1) zm_X10_boats 81 [some (.inr (.inr (10, some 0))), some (.inl x1), some (.inl x2), some (.inl x3), some (.inl x4), some (.inl (nI s)), some (.inl 0), some (.inl 0), some (.inl 0), none, none, none] [] M = zi_run (d + 1) zm_X10_boats 81 [some (.inr (.inr (10, some 0))), some (.inl x1), some (.inl x2), some (.inl x3), some (.inl x4), some (.inl (nI s)), some (.inl (nI (zb_cnt s A.1))), some (.inl (nI (zb_far 100 A.1 s A.1))), some (.inl (nI A.1)), none, none, none] [] M := by
  have hA' := hA
  obtain ⟨a1, a2, a3, a4⟩ := hA'
  have r0 : M.1 28 0 0 = nI A.1 := hRA.1
  have h7 : 2 ^ A.1 ≤ 2 ^ 7 := Nat.pow_le_pow_right (by decide) a2
  refine zp_for (fun c => zi_run (d + 1) zm_X10_boats 81 [some (.inr (.inr (10, some 0))), some (.inl x1), some (.inl x2), some (.inl x3), some (.inl x4), some (.inl (nI s)), some (.inl (nI (zb_cnt s c))), some (.inl (nI (zb_far 100 A.1 s c))), some (.inl (nI c)), none, none, none] [] M) A.1 _ rfl ?_ 0 (Nat.zero_le _)
  intro c hc
  have hfl := zb_far_le 100 A.1 s c
  have hnl := zb_near_le 100 A.1 s c A.1
  rw [ze_X10_boats_81, zb_cnt, zb_far]
  simp (disch := omega) only [↓zp_dn, ↓zp_hV, ↓zp_hI, ↓zp_hL, ↓zp_hR, ↓zp_hX, zp_eV, zp_eI, zp_eL, zp_eR, zp_eX, zp_eXl, zp_iV, zp_iI, zp_iL, zp_iR, ↓zp_sm, ↓zp_nls, ↓zp_nln, zp_bo0, zp_bo1, zp_okE, zp_ok2E, zp_rfE, ↓reduceIte, if_true, if_false, zp_leT, zp_leF, zp_ltT, zp_ltF, zp_eqT, zp_eqF, zp_leTl, zp_leFl, zp_ltTl, zp_ltFl, zp_leTr, zp_leFr, zp_ltTr, zp_ltFr, zp_eqTr, zp_eqFr, zp_eqTl, zp_eqFl, zp_eqFll, eq_self, zp_addl, zp_addr, zp_mull, zp_mulr, zp_subr, zp_subl, nI_add, pk_mul, r0, zr_near d hA hRA hs, ze_X10_boats_99, zr_more2, zb_bit s (by omega) c (by omega)]
theorem zr_boatsL (d : Nat) {M : zi_M} {A : zf_A} (hA : zf_okE A) (hRA : zf_rA (M.1 28 0) A) {n r : Nat} (hn : n ≤ 4) : ∀ (s : Nat) (acc : Option Nat), s < 2 ^ A.1 → (∀ b, acc = some b → b < 2 ^ A.1 ∧ 0 < b ∧ zb_cnt b A.1 = n) → zi_run (d + 1) zm_X10_boats 67 [some (.inr (.inr (10, some 0))), some (.inl (nI n)), some (.inl (nI r)), some (.inl (nI (zb_v 100 A.1 acc))), some (.inl (nI (zb_w acc))), some (.inl (nI s)), none, none, none, none, none, none] [] M = zi_run (d + 1) zm_X10_boats 67 [some (.inr (.inr (10, some 0))), some (.inl (nI n)), some (.inl (nI r)), some (.inl (nI (zb_v 100 A.1 (zb_l n A.1 s acc)))), some (.inl (nI (zb_w (zb_l n A.1 s acc)))), some (.inl (nI 0)), none, none, none, none, none, none] [] M := by
  have hA' := hA
  obtain ⟨a1, a2, a3, a4⟩ := hA'
  have r0 : M.1 28 0 0 = nI A.1 := hRA.1
  have h7 : 2 ^ A.1 ≤ 2 ^ 7 := Nat.pow_le_pow_right (by decide) a2
  intro s
  induction s with
  | zero => intro acc _ _; rfl
  | succ s ih =>
    intro acc hs ha
    rw [zb_l, ← ih (zb_f n A.1 acc (s + 1)) (by omega) (zb_f_in hs (by omega) ha), ze_X10_boats_67]
    have hcl := zb_cnt_le (s + 1) A.1
    have em : nI (s + 1) + (-1) = nI s := pk_m1 s
    have hf6 := zb_far6 A.1 (by omega) (s + 1) hs (by omega)
    have ef := zb_fars (by omega) hs (by omega) A.1 (Nat.le_refl _)
    rw [ef] at hf6
    by_cases hc : zb_cnt (s + 1) A.1 = n
    · cases acc with
      | none =>
        have e : zb_f n A.1 none (s + 1) = some (s + 1) := by simp only [zb_f, if_pos hc]
        rw [e]
        simp (disch := omega) only [↓zp_dn, ↓zp_hV, ↓zp_hI, ↓zp_hL, ↓zp_hR, ↓zp_hX, zp_eV, zp_eI, zp_eL, zp_eR, zp_eX, zp_eXl, zp_iV, zp_iI, zp_iL, zp_iR, ↓zp_sm, ↓zp_nls, ↓zp_nln, zp_bo0, zp_bo1, zp_okE, zp_ok2E, zp_rfE, ↓reduceIte, if_true, if_false, zp_leT, zp_leF, zp_ltT, zp_ltF, zp_eqT, zp_eqF, zp_leTl, zp_leFl, zp_ltTl, zp_ltFl, zp_leTr, zp_leFr, zp_ltTr, zp_ltFr, zp_eqTr, zp_eqFr, zp_eqTl, zp_eqFl, zp_eqFll, eq_self, zp_addl, zp_addr, zp_mull, zp_mulr, zp_subr, zp_subl, nI_add, pk_mul, zr_set d hA hRA hs, ze_X10_boats_81, r0, hc, zb_v, zb_w, ze_X10_boats_216, ze_X10_boats_236, em, ef]
      | some b =>
        have hb := ha b rfl
        have hb6 := zb_far6 A.1 (by omega) b hb.1 hb.2.1
        by_cases hlt : zb_far 7 A.1 (s + 1) A.1 < zb_far 7 A.1 b A.1
        · have e : zb_f n A.1 (some b) (s + 1) = some (s + 1) := by simp only [zb_f, if_pos hc, if_pos hlt]
          rw [e]
          rw [ef] at hlt
          simp (disch := omega) only [↓zp_dn, ↓zp_hV, ↓zp_hI, ↓zp_hL, ↓zp_hR, ↓zp_hX, zp_eV, zp_eI, zp_eL, zp_eR, zp_eX, zp_eXl, zp_iV, zp_iI, zp_iL, zp_iR, ↓zp_sm, ↓zp_nls, ↓zp_nln, zp_bo0, zp_bo1, zp_okE, zp_ok2E, zp_rfE, ↓reduceIte, if_true, if_false, zp_leT, zp_leF, zp_ltT, zp_ltF, zp_eqT, zp_eqF, zp_leTl, zp_leFl, zp_ltTl, zp_ltFl, zp_leTr, zp_leFr, zp_ltTr, zp_ltFr, zp_eqTr, zp_eqFr, zp_eqTl, zp_eqFl, zp_eqFll, eq_self, zp_addl, zp_addr, zp_mull, zp_mulr, zp_subr, zp_subl, nI_add, pk_mul, zr_set d hA hRA hs, ze_X10_boats_81, r0, hc, zb_v, zb_w, ze_X10_boats_216, ze_X10_boats_236, em, ef]
        · have e : zb_f n A.1 (some b) (s + 1) = some b := by simp only [zb_f, if_pos hc, if_neg hlt]
          rw [e]
          rw [ef] at hlt
          simp (disch := omega) only [↓zp_dn, ↓zp_hV, ↓zp_hI, ↓zp_hL, ↓zp_hR, ↓zp_hX, zp_eV, zp_eI, zp_eL, zp_eR, zp_eX, zp_eXl, zp_iV, zp_iI, zp_iL, zp_iR, ↓zp_sm, ↓zp_nls, ↓zp_nln, zp_bo0, zp_bo1, zp_okE, zp_ok2E, zp_rfE, ↓reduceIte, if_true, if_false, zp_leT, zp_leF, zp_ltT, zp_ltF, zp_eqT, zp_eqF, zp_leTl, zp_leFl, zp_ltTl, zp_ltFl, zp_leTr, zp_leFr, zp_ltTr, zp_ltFr, zp_eqTr, zp_eqFr, zp_eqTl, zp_eqFl, zp_eqFll, eq_self, zp_addl, zp_addr, zp_mull, zp_mulr, zp_subr, zp_subl, nI_add, pk_mul, zr_set d hA hRA hs, ze_X10_boats_81, r0, hc, zb_v, zb_w, ze_X10_boats_214, ze_X10_boats_216, ze_X10_boats_235, ze_X10_boats_236, em]
    · have e : zb_f n A.1 acc (s + 1) = acc := by simp only [zb_f, if_neg hc]
      rw [e]
      simp (disch := omega) only [↓zp_dn, ↓zp_hV, ↓zp_hI, ↓zp_hL, ↓zp_hR, ↓zp_hX, zp_eV, zp_eI, zp_eL, zp_eR, zp_eX, zp_eXl, zp_iV, zp_iI, zp_iL, zp_iR, ↓zp_sm, ↓zp_nls, ↓zp_nln, zp_bo0, zp_bo1, zp_okE, zp_ok2E, zp_rfE, ↓reduceIte, if_true, if_false, zp_leT, zp_leF, zp_ltT, zp_ltF, zp_eqT, zp_eqF, zp_leTl, zp_leFl, zp_ltTl, zp_ltFl, zp_leTr, zp_leFr, zp_ltTr, zp_ltFr, zp_eqTr, zp_eqFr, zp_eqTl, zp_eqFl, zp_eqFll, eq_self, zp_addl, zp_addr, zp_mull, zp_mulr, zp_subr, zp_subl, nI_add, pk_mul, zr_set d hA hRA hs, ze_X10_boats_81, r0, ze_X10_boats_214, ze_X10_boats_216, ze_X10_boats_235, ze_X10_boats_236, em]
/-- the COLUMNS, as a WAY -/
def zb_way (l : List Nat) : zw_w := l.map (fun c => (c, (0, 0, 0, 0, 0, 0)))
theorem zb_way_len (l : List Nat) : (zb_way l).length = l.length := by simp [zb_way]
theorem zb_cl_len (C s k : Nat) : (zb_cl C s k).length ≤ k := by
  induction k with
  | zero => exact Nat.le_refl 0
  | succ k ih =>
    simp only [zb_cl]; split
    · simp only [List.length_append, List.length_cons, List.length_nil]; omega
    · omega
theorem zb_cl_mono (C s : Nat) : ∀ (j k : Nat), k ≤ j → (zb_cl C s k).length ≤ (zb_cl C s j).length := by
  intro j
  induction j with
  | zero => intro k h; rw [show k = 0 from by omega]; exact Nat.le_refl _
  | succ j ih =>
    intro k h
    by_cases e : k = j + 1
    · rw [e]; exact Nat.le_refl _
    · have := ih k (by omega)
      simp only [zb_cl]; split
      · simp; omega
      · exact this
theorem zc_boatsW (d : Nat) {M0 : zi_M} {C s r n : Nat} (hC2 : 2 ≤ C) (hC : C < 8) (h0 : M0.1 0 0 1 = nI C) (hs : s < 2 ^ C) (hr : r < 6) (hn : zb_cnt s C = n) (x4 : Int32) : ∀ (q k : Nat) (M : zi_M), k + q = C → zq_nr r M0 M → M.2 = M0.2 → M.1 5 r 1 = nI n → (∀ j v, (zb_cl C s k)[j]? = some v → M.1 12 r j = nI v) → (M.1 24 0 r = M0.1 24 0 r ∧ ∀ j, j < 40 → M.1 25 0 (40 * r + j) = M0.1 25 0 (40 * r + j)) → ∃ M', zi_run (d + 2) zm_X9_boats 133 [some (.inr (.inr (9, some 0))), none, none, some (.inr (.inr (5, some r))), some (.inl x4), some (.inl (nI s)), some (.inl (nI (zb_cl C s k).length)), some (.inl (nI k))] [] M = some (some (.inl x4), M') ∧ zw_LC M0 M' r (some (zb_way (zb_cl C s C))) := by
  have hlen := zb_cll C hC s hs
  have hcl := zb_cnt_le s C
  intro q
  induction q with
  | zero =>
    intro k M hk h1 h2 h3 h4 h5
    have e : k = C := by omega
    subst e
    have c0 : M.1 0 0 1 = nI k := (h1 0 0 1 (by simp [zq_gp]) (by omega) (by omega) (by omega) (by omega)).trans h0
    refine ⟨M, ?_, h1, h2, ⟨by rw [zb_way_len, hlen, hn]; exact h3, fun j v hv => ?_⟩, h5⟩
    · rw [ze_X9_boats_133]
      simp (disch := omega) only [↓zp_dn, ↓zp_hV, ↓zp_hI, ↓zp_hL, ↓zp_hR, ↓zp_hX, zp_eV, zp_eI, zp_eL, zp_eR, zp_eX, zp_eXl, zp_iV, zp_iI, zp_iL, zp_iR, ↓zp_sm, ↓zp_nls, ↓zp_nln, zp_bo0, zp_bo1, zp_okE, zp_ok2E, zp_rfE, ↓reduceIte, if_true, if_false, zp_leT, zp_leF, zp_ltT, zp_ltF, zp_eqT, zp_eqF, zp_leTl, zp_leFl, zp_ltTl, zp_ltFl, zp_leTr, zp_leFr, zp_ltTr, zp_ltFr, zp_eqTr, zp_eqFr, zp_eqTl, zp_eqFl, zp_eqFll, eq_self, zp_addl, zp_addr, zp_mull, zp_mulr, zp_subr, zp_subl, nI_add, pk_mul, c0]
    · simp only [zb_way, List.getElem?_map] at hv
      obtain ⟨c, hc, e⟩ := Option.map_eq_some_iff.mp hv
      rw [← e]; exact h4 j c hc
  | succ q ih =>
    intro k M hk h1 h2 h3 h4 h5
    have c0 : M.1 0 0 1 = nI C := (h1 0 0 1 (by simp [zq_gp]) (by omega) (by omega) (by omega) (by omega)).trans h0
    have hkl := zb_cl_len C s k
    rw [ze_X9_boats_133]
    cases h : zb_h C s k with
    | false =>
      have e : zb_cl C s (k + 1) = zb_cl C s k := by rw [zb_cl, h, if_neg (by decide)]
      have := ih (k + 1) M (by omega) h1 h2 h3 (by rw [e]; exact h4) h5
      rw [e] at this
      simp (disch := omega) only [↓zp_dn, ↓zp_hV, ↓zp_hI, ↓zp_hL, ↓zp_hR, ↓zp_hX, zp_eV, zp_eI, zp_eL, zp_eR, zp_eX, zp_eXl, zp_iV, zp_iI, zp_iL, zp_iR, ↓zp_sm, ↓zp_nls, ↓zp_nln, zp_bo0, zp_bo1, zp_okE, zp_ok2E, zp_rfE, ↓reduceIte, if_true, if_false, zp_leT, zp_leF, zp_ltT, zp_ltF, zp_eqT, zp_eqF, zp_leTl, zp_leFl, zp_ltTl, zp_ltFl, zp_leTr, zp_leFr, zp_ltTr, zp_ltFr, zp_eqTr, zp_eqFr, zp_eqTl, zp_eqFl, zp_eqFll, eq_self, zp_addl, zp_addr, zp_mull, zp_mulr, zp_subr, zp_subl, nI_add, pk_mul, c0, zc_hasBoat _ hC2 hC c0 hs (show k < C from by omega), h, zw_b1F, ze_X9_boats_167]
      exact this
    | true =>
      have e : zb_cl C s (k + 1) = zb_cl C s k ++ [k] := by rw [zb_cl, h, if_pos rfl]
      have hm := zb_cl_mono C s C (k + 1) (by omega)
      rw [e, hlen, hn] at hm
      simp only [List.length_append, List.length_cons, List.length_nil] at hm
      have nr : zq_nr r M (zi_sI M 12 r (zb_cl C s k).length (nI k)) := fun c q j _ _ b _ _ => zp_o1 b
      have := ih (k + 1) (zi_sI M 12 r (zb_cl C s k).length (nI k)) (by omega) (zq_nr_tr h1 nr) h2 (by simp only [zp_sI1, Nat.reduceEqDiff, Nat.reduceLT, Nat.reduceLeDiff, Nat.reduceAdd, Nat.reduceMul, Nat.reduceSub, reduceCtorEq, Int32.reduceLT, Int32.reduceLE, not_true_eq_false, not_false_eq_true, and_true, true_and, and_false, false_and, or_true, true_or, or_false, false_or, ↓reduceIte]; exact h3) (fun j v hv => by
        rw [e] at hv
        simp only [zp_sI1, ↓reduceIte]
        by_cases ej : j = (zb_cl C s k).length
        · rw [ej, List.getElem?_append_right (Nat.le_refl _), Nat.sub_self] at hv
          cases hv; rw [if_pos ej]
        · have hj : j < (zb_cl C s k).length := by
            have := (List.getElem?_eq_some_iff.mp hv).1
            simp only [List.length_append, List.length_cons, List.length_nil] at this; omega
          rw [if_neg ej]
          rw [List.getElem?_append_left hj] at hv
          exact h4 j v hv) (by simp only [zp_sI1, Nat.reduceEqDiff, Nat.reduceLT, Nat.reduceLeDiff, Nat.reduceAdd, Nat.reduceMul, Nat.reduceSub, reduceCtorEq, Int32.reduceLT, Int32.reduceLE, not_true_eq_false, not_false_eq_true, and_true, true_and, and_false, false_and, or_true, true_or, or_false, false_or, ↓reduceIte]; exact h5)
      rw [e] at this
      simp only [List.length_append, List.length_cons, List.length_nil, Nat.zero_add] at this
      simp (disch := omega) only [↓zp_dn, ↓zp_hV, ↓zp_hI, ↓zp_hL, ↓zp_hR, ↓zp_hX, zp_eV, zp_eI, zp_eL, zp_eR, zp_eX, zp_eXl, zp_iV, zp_iI, zp_iL, zp_iR, ↓zp_sm, ↓zp_nls, ↓zp_nln, zp_bo0, zp_bo1, zp_okE, zp_ok2E, zp_rfE, ↓reduceIte, if_true, if_false, zp_leT, zp_leF, zp_ltT, zp_ltF, zp_eqT, zp_eqF, zp_leTl, zp_leFl, zp_ltTl, zp_ltFl, zp_leTr, zp_leFr, zp_ltTr, zp_ltFr, zp_eqTr, zp_eqFr, zp_eqTl, zp_eqFl, zp_eqFll, eq_self, zp_addl, zp_addr, zp_mull, zp_mulr, zp_subr, zp_subl, nI_add, pk_mul, c0, zc_hasBoat _ hC2 hC c0 hs (show k < C from by omega), h, zw_b1T, zp_1n0, ze_X5_set_0, ze_X5_has_0, h3, zp_ln r hr, zp_ofn, ze_X9_boats_167]
      exact this
theorem zr_boatsW (d : Nat) {M0 : zi_M} {A : zf_A} (hA : zf_okE A) (hRA : zf_rA (M0.1 28 0) A) {s r : Nat} (hs : s < 2 ^ A.1) (hr : r < 6) (x3 : Int32) : ∀ (q k : Nat) (M : zi_M), k + q = A.1 → zq_nr r M0 M → M.2 = M0.2 → M.1 24 0 r = nI (zb_cl A.1 s k).length → (∀ j v, (zb_cl A.1 s k)[j]? = some v → M.1 25 0 (40 * r + j) = nI v) → (∀ j, M.1 5 r 1 = M0.1 5 r 1 ∧ M.1 12 r j = M0.1 12 r j) → ∃ M', zi_run (d + 1) zm_X10_boats 253 [some (.inr (.inr (10, some 0))), none, some (.inl (nI r)), some (.inl x3), some (.inl (nI s)), some (.inl (nI k)), none, none, none, none, none, none] [] M = some (some (.inl x3), M') ∧ zw_LR M0 M' r (some (zb_way (zb_cl A.1 s A.1))) := by
  have hA' := hA
  obtain ⟨a1, a2, a3, a4⟩ := hA'
  intro q
  induction q with
  | zero =>
    intro k M hk h1 h2 h3 h4 h5
    have r0 : M.1 28 0 0 = nI A.1 := by rw [zq_nr_28 h1]; exact hRA.1
    have e : k = A.1 := by omega
    subst e
    refine ⟨M, ?_, h1, h2, ⟨by rw [zb_way_len]; exact h3, fun j v hv => ?_⟩, h5⟩
    · rw [ze_X10_boats_253]
      simp (disch := omega) only [↓zp_dn, ↓zp_hV, ↓zp_hI, ↓zp_hL, ↓zp_hR, ↓zp_hX, zp_eV, zp_eI, zp_eL, zp_eR, zp_eX, zp_eXl, zp_iV, zp_iI, zp_iL, zp_iR, ↓zp_sm, ↓zp_nls, ↓zp_nln, zp_bo0, zp_bo1, zp_okE, zp_ok2E, zp_rfE, ↓reduceIte, if_true, if_false, zp_leT, zp_leF, zp_ltT, zp_ltF, zp_eqT, zp_eqF, zp_leTl, zp_leFl, zp_ltTl, zp_ltFl, zp_leTr, zp_leFr, zp_ltTr, zp_ltFr, zp_eqTr, zp_eqFr, zp_eqTl, zp_eqFl, zp_eqFll, eq_self, zp_addl, zp_addr, zp_mull, zp_mulr, zp_subr, zp_subl, nI_add, pk_mul, r0]
    · simp only [zb_way, List.getElem?_map] at hv
      obtain ⟨c, hc, e⟩ := Option.map_eq_some_iff.mp hv
      rw [← e]; exact h4 j c hc
  | succ q ih =>
    intro k M hk h1 h2 h3 h4 h5
    have e28 := zq_nr_28 h1
    have r0 : M.1 28 0 0 = nI A.1 := by rw [e28]; exact hRA.1
    have hRA1 : zf_rA (M.1 28 0) A := by rw [e28]; exact hRA
    have hkl := zb_cl_len A.1 s k
    have es : nI (A.1 - 1) - nI k = nI (A.1 - 1 - k) := pk_sub (by omega)
    have hE := zb_hE (by omega) hs (show k < A.1 from by omega)
    rw [ze_X10_boats_253]
    cases h : zb_h A.1 s k with
    | false =>
      have hb : ¬ (nI s >>> (nI (A.1 - 1 - k) &&& 31)) &&& 1 = 1 := fun q => by rw [hE, h] at q; cases q
      have e : zb_cl A.1 s (k + 1) = zb_cl A.1 s k := by rw [zb_cl, h, if_neg (by decide)]
      have := ih (k + 1) M (by omega) h1 h2 (by rw [e]; exact h3) (by rw [e]; exact h4) h5
      simp (disch := omega) only [↓zp_dn, ↓zp_hV, ↓zp_hI, ↓zp_hL, ↓zp_hR, ↓zp_hX, zp_eV, zp_eI, zp_eL, zp_eR, zp_eX, zp_eXl, zp_iV, zp_iI, zp_iL, zp_iR, ↓zp_sm, ↓zp_nls, ↓zp_nln, zp_bo0, zp_bo1, zp_okE, zp_ok2E, zp_rfE, ↓reduceIte, if_true, if_false, zp_leT, zp_leF, zp_ltT, zp_ltF, zp_eqT, zp_eqF, zp_leTl, zp_leFl, zp_ltTl, zp_ltFl, zp_leTr, zp_leFr, zp_ltTr, zp_ltFr, zp_eqTr, zp_eqFr, zp_eqTl, zp_eqFl, zp_eqFll, eq_self, zp_addl, zp_addr, zp_mull, zp_mulr, zp_subr, zp_subl, nI_add, pk_mul, r0, zr_last _ hA hRA1, es, if_neg hb, ze_X10_boats_308]
      exact this
    | true =>
      have hb := hE.mpr h
      have e : zb_cl A.1 s (k + 1) = zb_cl A.1 s k ++ [k] := by rw [zb_cl, h, if_pos rfl]
      have nr : zq_nr r M (zi_sI (zi_sI M 25 0 (40 * r + (zb_cl A.1 s k).length) (nI k)) 24 0 r (nI ((zb_cl A.1 s k).length + 1))) := fun c q j _ _ _ h24 h25 => by
        rw [zp_sI1]
        by_cases z : c = 24
        · rw [if_pos z, if_neg (fun y => h24 ⟨z, y⟩), zp_sI1, if_neg (by omega)]
        · rw [if_neg z, zp_sI1]
          by_cases z2 : c = 25
          · rw [if_pos z2, if_neg (fun y => h25 ⟨z2, by omega, by omega⟩)]
          · rw [if_neg z2]
      have := ih (k + 1) (zi_sI (zi_sI M 25 0 (40 * r + (zb_cl A.1 s k).length) (nI k)) 24 0 r (nI ((zb_cl A.1 s k).length + 1))) (by omega) (zq_nr_tr h1 nr) h2 (by rw [e]; simp [zp_sI1]) (fun j v hv => by
        rw [e] at hv
        simp only [zp_sI1, Nat.reduceEqDiff, Nat.reduceLT, Nat.reduceLeDiff, Nat.reduceAdd, Nat.reduceMul, Nat.reduceSub, reduceCtorEq, Int32.reduceLT, Int32.reduceLE, not_true_eq_false, not_false_eq_true, and_true, true_and, and_false, false_and, or_true, true_or, or_false, false_or, ↓reduceIte]
        by_cases ej : j = (zb_cl A.1 s k).length
        · rw [ej, List.getElem?_append_right (Nat.le_refl _), Nat.sub_self] at hv
          cases hv; rw [if_pos (by omega)]
        · have hj : j < (zb_cl A.1 s k).length := by
            have := (List.getElem?_eq_some_iff.mp hv).1
            simp only [List.length_append, List.length_cons, List.length_nil] at this; omega
          rw [if_neg (by omega)]
          rw [List.getElem?_append_left hj] at hv
          exact h4 j v hv) (fun j => by simp only [zp_sI1, Nat.reduceEqDiff, Nat.reduceLT, Nat.reduceLeDiff, Nat.reduceAdd, Nat.reduceMul, Nat.reduceSub, reduceCtorEq, Int32.reduceLT, Int32.reduceLE, not_true_eq_false, not_false_eq_true, and_true, true_and, and_false, false_and, or_true, true_or, or_false, false_or, ↓reduceIte]; exact h5 j)
      simp (disch := omega) only [↓zp_dn, ↓zp_hV, ↓zp_hI, ↓zp_hL, ↓zp_hR, ↓zp_hX, zp_eV, zp_eI, zp_eL, zp_eR, zp_eX, zp_eXl, zp_iV, zp_iI, zp_iL, zp_iR, ↓zp_sm, ↓zp_nls, ↓zp_nln, zp_bo0, zp_bo1, zp_okE, zp_ok2E, zp_rfE, ↓reduceIte, if_true, if_false, zp_leT, zp_leF, zp_ltT, zp_ltF, zp_eqT, zp_eqF, zp_leTl, zp_leFl, zp_ltTl, zp_ltFl, zp_leTr, zp_leFr, zp_ltTr, zp_ltFr, zp_eqTr, zp_eqFr, zp_eqTl, zp_eqFl, zp_eqFll, eq_self, zp_addl, zp_addr, zp_mull, zp_mulr, zp_subr, zp_subl, nI_add, pk_mul, r0, zr_last _ hA hRA1, es, if_pos hb, h3, ze_X10_boats_308]
      exact this
theorem zo_boats (d : Nat) {n : Nat} {xs : Nat → Int32} {M : zi_M} (hI : zq_inv n xs M) (q r : Int32) : zp_ok (zi_run (d + 5) zm_X9_boats 0 [some (.inr (.inr (9, some 0))), some (.inl q), some (.inl r), none, none, none, none, none] [] M) (zp_rf (d + 5) zm_X10_boats [some (.inr (.inr (10, some 0))), some (.inl q), some (.inl r), none, none, none, none, none, none, none, none, none]) (zq_inv n xs) := by
  obtain ⟨A, K, hS⟩ := hI.2.2.2.2.1
  have c0 : M.1 0 0 1 = nI A.1 := hS.2.2.1.1
  have r0 : M.1 28 0 0 = nI A.1 := hS.2.2.2.2.1.1
  obtain ⟨h7, h5⟩ := zf_okA7 hS.1
  rcases zp_int r with hr | ⟨r, hr, rfl⟩
  · rcases zp_int q with hq | ⟨q, hq, rfl⟩
    · simp (disch := omega) only [ze_X9_boats_0, ze_X10_boats_0, ze_X5_room_0, ze_X5_size_0, ze_X5_isThere_0, ze_X5_has_0, ze_X5_hasRun_0, ze_X5_get_0, ze_X5_set_0, ze_X5_drop_0, ze_X5_takeRun_0, ze_X9_rowAt_0, ze_X9_textAt_0, ze_X9_refuse_0, ze_X10_isRow_0, ze_X10_isText_0, ze_X10_finds_0, ze_X10_tells_0, zp_in_0_5, zp_in_0_3, zp_in_0_7, zp_in_1_5, zp_in_0_9, zp_in_0_2, zp_in_48_57, zp_in_0_12, zp_in_1_4, zp_in_1_9, zp_in_1_2147483646, zp_in_0_8, zp_in_0, ↓zp_dn, ↓zp_hV, ↓zp_hI, ↓zp_hL, ↓zp_hR, ↓zp_hX, zp_eV, zp_eI, zp_eL, zp_eR, zp_eX, zp_eXl, zp_iV, zp_iI, zp_iL, zp_iR, ↓zp_sm, ↓zp_nls, ↓zp_nln, zp_bo0, zp_bo1, zp_okE, zp_ok2E, zp_rfE, ↓reduceIte, if_true, if_false, zp_ofn, zp_sI1, zp_w1, zp_sL1, zp_sR1, zp_l1, zp_leT, zp_leF, zp_ltT, zp_ltF, zp_eqT, zp_eqF, zp_leTl, zp_leFl, zp_ltTl, zp_ltFl, zp_leTr, zp_leFr, zp_ltTr, zp_ltFr, zp_eqTr, zp_eqFr, zp_eqTl, zp_eqFl, zp_eqFll, eq_self, zp_addl, zp_addr, zp_mull, zp_mulr, zp_subr, zp_subl, nI_add, pk_mul, Nat.reduceEqDiff, Nat.reduceLT, Nat.reduceLeDiff, Nat.reduceAdd, Nat.reduceMul, Nat.reduceSub, reduceCtorEq, Int32.reduceLT, Int32.reduceLE, not_true_eq_false, not_false_eq_true, and_true, true_and, and_false, false_and, or_true, true_or, or_false, false_or, zp_n0 hr, zp_n1 hr, zp_n2 hr, zp_n3 hr, zp_n4 hr, zp_n3l hr, zp_n4l hr, zp_n0 hq, zp_n1 hq, zp_n2 hq, zp_n3 hq, zp_n4 hq, zp_n3l hq, zp_n4l hq]; exact hI
    · by_cases hq1 : q < 1
      · simp (disch := omega) only [ze_X9_boats_0, ze_X10_boats_0, ze_X5_room_0, ze_X5_size_0, ze_X5_isThere_0, ze_X5_has_0, ze_X5_hasRun_0, ze_X5_get_0, ze_X5_set_0, ze_X5_drop_0, ze_X5_takeRun_0, ze_X9_rowAt_0, ze_X9_textAt_0, ze_X9_refuse_0, ze_X10_isRow_0, ze_X10_isText_0, ze_X10_finds_0, ze_X10_tells_0, zp_in_0_5, zp_in_0_3, zp_in_0_7, zp_in_1_5, zp_in_0_9, zp_in_0_2, zp_in_48_57, zp_in_0_12, zp_in_1_4, zp_in_1_9, zp_in_1_2147483646, zp_in_0_8, zp_in_0, ↓zp_dn, ↓zp_hV, ↓zp_hI, ↓zp_hL, ↓zp_hR, ↓zp_hX, zp_eV, zp_eI, zp_eL, zp_eR, zp_eX, zp_eXl, zp_iV, zp_iI, zp_iL, zp_iR, ↓zp_sm, ↓zp_nls, ↓zp_nln, zp_bo0, zp_bo1, zp_okE, zp_ok2E, zp_rfE, ↓reduceIte, if_true, if_false, zp_ofn, zp_sI1, zp_w1, zp_sL1, zp_sR1, zp_l1, zp_leT, zp_leF, zp_ltT, zp_ltF, zp_eqT, zp_eqF, zp_leTl, zp_leFl, zp_ltTl, zp_ltFl, zp_leTr, zp_leFr, zp_ltTr, zp_ltFr, zp_eqTr, zp_eqFr, zp_eqTl, zp_eqFl, zp_eqFll, eq_self, zp_addl, zp_addr, zp_mull, zp_mulr, zp_subr, zp_subl, nI_add, pk_mul, Nat.reduceEqDiff, Nat.reduceLT, Nat.reduceLeDiff, Nat.reduceAdd, Nat.reduceMul, Nat.reduceSub, reduceCtorEq, Int32.reduceLT, Int32.reduceLE, not_true_eq_false, not_false_eq_true, and_true, true_and, and_false, false_and, or_true, true_or, or_false, false_or, zp_n0 hr, zp_n1 hr, zp_n2 hr, zp_n3 hr, zp_n4 hr, zp_n3l hr, zp_n4l hr]; exact hI
      · by_cases hq4 : q ≤ 4
        · simp (disch := omega) only [ze_X9_boats_0, ze_X10_boats_0, ze_X5_room_0, ze_X5_size_0, ze_X5_isThere_0, ze_X5_has_0, ze_X5_hasRun_0, ze_X5_get_0, ze_X5_set_0, ze_X5_drop_0, ze_X5_takeRun_0, ze_X9_rowAt_0, ze_X9_textAt_0, ze_X9_refuse_0, ze_X10_isRow_0, ze_X10_isText_0, ze_X10_finds_0, ze_X10_tells_0, zp_in_0_5, zp_in_0_3, zp_in_0_7, zp_in_1_5, zp_in_0_9, zp_in_0_2, zp_in_48_57, zp_in_0_12, zp_in_1_4, zp_in_1_9, zp_in_1_2147483646, zp_in_0_8, zp_in_0, ↓zp_dn, ↓zp_hV, ↓zp_hI, ↓zp_hL, ↓zp_hR, ↓zp_hX, zp_eV, zp_eI, zp_eL, zp_eR, zp_eX, zp_eXl, zp_iV, zp_iI, zp_iL, zp_iR, ↓zp_sm, ↓zp_nls, ↓zp_nln, zp_bo0, zp_bo1, zp_okE, zp_ok2E, zp_rfE, ↓reduceIte, if_true, if_false, zp_ofn, zp_sI1, zp_w1, zp_sL1, zp_sR1, zp_l1, zp_leT, zp_leF, zp_ltT, zp_ltF, zp_eqT, zp_eqF, zp_leTl, zp_leFl, zp_ltTl, zp_ltFl, zp_leTr, zp_leFr, zp_ltTr, zp_ltFr, zp_eqTr, zp_eqFr, zp_eqTl, zp_eqFl, zp_eqFll, eq_self, zp_addl, zp_addr, zp_mull, zp_mulr, zp_subr, zp_subl, nI_add, pk_mul, Nat.reduceEqDiff, Nat.reduceLT, Nat.reduceLeDiff, Nat.reduceAdd, Nat.reduceMul, Nat.reduceSub, reduceCtorEq, Int32.reduceLT, Int32.reduceLE, not_true_eq_false, not_false_eq_true, and_true, true_and, and_false, false_and, or_true, true_or, or_false, false_or, zp_n0 hr, zp_n1 hr, zp_n2 hr, zp_n3 hr, zp_n4 hr, zp_n3l hr, zp_n4l hr]; exact hI
        · simp (disch := omega) only [ze_X9_boats_0, ze_X10_boats_0, ze_X5_room_0, ze_X5_size_0, ze_X5_isThere_0, ze_X5_has_0, ze_X5_hasRun_0, ze_X5_get_0, ze_X5_set_0, ze_X5_drop_0, ze_X5_takeRun_0, ze_X9_rowAt_0, ze_X9_textAt_0, ze_X9_refuse_0, ze_X10_isRow_0, ze_X10_isText_0, ze_X10_finds_0, ze_X10_tells_0, zp_in_0_5, zp_in_0_3, zp_in_0_7, zp_in_1_5, zp_in_0_9, zp_in_0_2, zp_in_48_57, zp_in_0_12, zp_in_1_4, zp_in_1_9, zp_in_1_2147483646, zp_in_0_8, zp_in_0, ↓zp_dn, ↓zp_hV, ↓zp_hI, ↓zp_hL, ↓zp_hR, ↓zp_hX, zp_eV, zp_eI, zp_eL, zp_eR, zp_eX, zp_eXl, zp_iV, zp_iI, zp_iL, zp_iR, ↓zp_sm, ↓zp_nls, ↓zp_nln, zp_bo0, zp_bo1, zp_okE, zp_ok2E, zp_rfE, ↓reduceIte, if_true, if_false, zp_ofn, zp_sI1, zp_w1, zp_sL1, zp_sR1, zp_l1, zp_leT, zp_leF, zp_ltT, zp_ltF, zp_eqT, zp_eqF, zp_leTl, zp_leFl, zp_ltTl, zp_ltFl, zp_leTr, zp_leFr, zp_ltTr, zp_ltFr, zp_eqTr, zp_eqFr, zp_eqTl, zp_eqFl, zp_eqFll, eq_self, zp_addl, zp_addr, zp_mull, zp_mulr, zp_subr, zp_subl, nI_add, pk_mul, Nat.reduceEqDiff, Nat.reduceLT, Nat.reduceLeDiff, Nat.reduceAdd, Nat.reduceMul, Nat.reduceSub, reduceCtorEq, Int32.reduceLT, Int32.reduceLE, not_true_eq_false, not_false_eq_true, and_true, true_and, and_false, false_and, or_true, true_or, or_false, false_or, zp_n0 hr, zp_n1 hr, zp_n2 hr, zp_n3 hr, zp_n4 hr, zp_n3l hr, zp_n4l hr]; exact hI
  by_cases r6 : r < 6
  case neg =>
    rcases zp_int q with hq | ⟨q, hq, rfl⟩
    · simp (disch := omega) only [ze_X9_boats_0, ze_X10_boats_0, ze_X5_room_0, ze_X5_size_0, ze_X5_isThere_0, ze_X5_has_0, ze_X5_hasRun_0, ze_X5_get_0, ze_X5_set_0, ze_X5_drop_0, ze_X5_takeRun_0, ze_X9_rowAt_0, ze_X9_textAt_0, ze_X9_refuse_0, ze_X10_isRow_0, ze_X10_isText_0, ze_X10_finds_0, ze_X10_tells_0, zp_in_0_5, zp_in_0_3, zp_in_0_7, zp_in_1_5, zp_in_0_9, zp_in_0_2, zp_in_48_57, zp_in_0_12, zp_in_1_4, zp_in_1_9, zp_in_1_2147483646, zp_in_0_8, zp_in_0, ↓zp_dn, ↓zp_hV, ↓zp_hI, ↓zp_hL, ↓zp_hR, ↓zp_hX, zp_eV, zp_eI, zp_eL, zp_eR, zp_eX, zp_eXl, zp_iV, zp_iI, zp_iL, zp_iR, ↓zp_sm, ↓zp_nls, ↓zp_nln, zp_bo0, zp_bo1, zp_okE, zp_ok2E, zp_rfE, ↓reduceIte, if_true, if_false, zp_ofn, zp_sI1, zp_w1, zp_sL1, zp_sR1, zp_l1, zp_leT, zp_leF, zp_ltT, zp_ltF, zp_eqT, zp_eqF, zp_leTl, zp_leFl, zp_ltTl, zp_ltFl, zp_leTr, zp_leFr, zp_ltTr, zp_ltFr, zp_eqTr, zp_eqFr, zp_eqTl, zp_eqFl, zp_eqFll, eq_self, zp_addl, zp_addr, zp_mull, zp_mulr, zp_subr, zp_subl, nI_add, pk_mul, Nat.reduceEqDiff, Nat.reduceLT, Nat.reduceLeDiff, Nat.reduceAdd, Nat.reduceMul, Nat.reduceSub, reduceCtorEq, Int32.reduceLT, Int32.reduceLE, not_true_eq_false, not_false_eq_true, and_true, true_and, and_false, false_and, or_true, true_or, or_false, false_or, zp_n0 hq, zp_n1 hq, zp_n2 hq, zp_n3 hq, zp_n4 hq, zp_n3l hq, zp_n4l hq]; exact hI
    · by_cases hq1 : q < 1
      · simp (disch := omega) only [ze_X9_boats_0, ze_X10_boats_0, ze_X5_room_0, ze_X5_size_0, ze_X5_isThere_0, ze_X5_has_0, ze_X5_hasRun_0, ze_X5_get_0, ze_X5_set_0, ze_X5_drop_0, ze_X5_takeRun_0, ze_X9_rowAt_0, ze_X9_textAt_0, ze_X9_refuse_0, ze_X10_isRow_0, ze_X10_isText_0, ze_X10_finds_0, ze_X10_tells_0, zp_in_0_5, zp_in_0_3, zp_in_0_7, zp_in_1_5, zp_in_0_9, zp_in_0_2, zp_in_48_57, zp_in_0_12, zp_in_1_4, zp_in_1_9, zp_in_1_2147483646, zp_in_0_8, zp_in_0, ↓zp_dn, ↓zp_hV, ↓zp_hI, ↓zp_hL, ↓zp_hR, ↓zp_hX, zp_eV, zp_eI, zp_eL, zp_eR, zp_eX, zp_eXl, zp_iV, zp_iI, zp_iL, zp_iR, ↓zp_sm, ↓zp_nls, ↓zp_nln, zp_bo0, zp_bo1, zp_okE, zp_ok2E, zp_rfE, ↓reduceIte, if_true, if_false, zp_ofn, zp_sI1, zp_w1, zp_sL1, zp_sR1, zp_l1, zp_leT, zp_leF, zp_ltT, zp_ltF, zp_eqT, zp_eqF, zp_leTl, zp_leFl, zp_ltTl, zp_ltFl, zp_leTr, zp_leFr, zp_ltTr, zp_ltFr, zp_eqTr, zp_eqFr, zp_eqTl, zp_eqFl, zp_eqFll, eq_self, zp_addl, zp_addr, zp_mull, zp_mulr, zp_subr, zp_subl, nI_add, pk_mul, Nat.reduceEqDiff, Nat.reduceLT, Nat.reduceLeDiff, Nat.reduceAdd, Nat.reduceMul, Nat.reduceSub, reduceCtorEq, Int32.reduceLT, Int32.reduceLE, not_true_eq_false, not_false_eq_true, and_true, true_and, and_false, false_and, or_true, true_or, or_false, false_or]; exact hI
      · by_cases hq4 : q ≤ 4
        · simp (disch := omega) only [ze_X9_boats_0, ze_X10_boats_0, ze_X5_room_0, ze_X5_size_0, ze_X5_isThere_0, ze_X5_has_0, ze_X5_hasRun_0, ze_X5_get_0, ze_X5_set_0, ze_X5_drop_0, ze_X5_takeRun_0, ze_X9_rowAt_0, ze_X9_textAt_0, ze_X9_refuse_0, ze_X10_isRow_0, ze_X10_isText_0, ze_X10_finds_0, ze_X10_tells_0, zp_in_0_5, zp_in_0_3, zp_in_0_7, zp_in_1_5, zp_in_0_9, zp_in_0_2, zp_in_48_57, zp_in_0_12, zp_in_1_4, zp_in_1_9, zp_in_1_2147483646, zp_in_0_8, zp_in_0, ↓zp_dn, ↓zp_hV, ↓zp_hI, ↓zp_hL, ↓zp_hR, ↓zp_hX, zp_eV, zp_eI, zp_eL, zp_eR, zp_eX, zp_eXl, zp_iV, zp_iI, zp_iL, zp_iR, ↓zp_sm, ↓zp_nls, ↓zp_nln, zp_bo0, zp_bo1, zp_okE, zp_ok2E, zp_rfE, ↓reduceIte, if_true, if_false, zp_ofn, zp_sI1, zp_w1, zp_sL1, zp_sR1, zp_l1, zp_leT, zp_leF, zp_ltT, zp_ltF, zp_eqT, zp_eqF, zp_leTl, zp_leFl, zp_ltTl, zp_ltFl, zp_leTr, zp_leFr, zp_ltTr, zp_ltFr, zp_eqTr, zp_eqFr, zp_eqTl, zp_eqFl, zp_eqFll, eq_self, zp_addl, zp_addr, zp_mull, zp_mulr, zp_subr, zp_subl, nI_add, pk_mul, Nat.reduceEqDiff, Nat.reduceLT, Nat.reduceLeDiff, Nat.reduceAdd, Nat.reduceMul, Nat.reduceSub, reduceCtorEq, Int32.reduceLT, Int32.reduceLE, not_true_eq_false, not_false_eq_true, and_true, true_and, and_false, false_and, or_true, true_or, or_false, false_or]; exact hI
        · simp (disch := omega) only [ze_X9_boats_0, ze_X10_boats_0, ze_X5_room_0, ze_X5_size_0, ze_X5_isThere_0, ze_X5_has_0, ze_X5_hasRun_0, ze_X5_get_0, ze_X5_set_0, ze_X5_drop_0, ze_X5_takeRun_0, ze_X9_rowAt_0, ze_X9_textAt_0, ze_X9_refuse_0, ze_X10_isRow_0, ze_X10_isText_0, ze_X10_finds_0, ze_X10_tells_0, zp_in_0_5, zp_in_0_3, zp_in_0_7, zp_in_1_5, zp_in_0_9, zp_in_0_2, zp_in_48_57, zp_in_0_12, zp_in_1_4, zp_in_1_9, zp_in_1_2147483646, zp_in_0_8, zp_in_0, ↓zp_dn, ↓zp_hV, ↓zp_hI, ↓zp_hL, ↓zp_hR, ↓zp_hX, zp_eV, zp_eI, zp_eL, zp_eR, zp_eX, zp_eXl, zp_iV, zp_iI, zp_iL, zp_iR, ↓zp_sm, ↓zp_nls, ↓zp_nln, zp_bo0, zp_bo1, zp_okE, zp_ok2E, zp_rfE, ↓reduceIte, if_true, if_false, zp_ofn, zp_sI1, zp_w1, zp_sL1, zp_sR1, zp_l1, zp_leT, zp_leF, zp_ltT, zp_ltF, zp_eqT, zp_eqF, zp_leTl, zp_leFl, zp_ltTl, zp_ltFl, zp_leTr, zp_leFr, zp_ltTr, zp_ltFr, zp_eqTr, zp_eqFr, zp_eqTl, zp_eqFl, zp_eqFll, eq_self, zp_addl, zp_addr, zp_mull, zp_mulr, zp_subr, zp_subl, nI_add, pk_mul, Nat.reduceEqDiff, Nat.reduceLT, Nat.reduceLeDiff, Nat.reduceAdd, Nat.reduceMul, Nat.reduceSub, reduceCtorEq, Int32.reduceLT, Int32.reduceLE, not_true_eq_false, not_false_eq_true, and_true, true_and, and_false, false_and, or_true, true_or, or_false, false_or]; exact hI
  rcases zp_int q with hq | ⟨q, hq, rfl⟩
  · simp (disch := omega) only [ze_X9_boats_0, ze_X10_boats_0, ze_X5_room_0, ze_X5_size_0, ze_X5_isThere_0, ze_X5_has_0, ze_X5_hasRun_0, ze_X5_get_0, ze_X5_set_0, ze_X5_drop_0, ze_X5_takeRun_0, ze_X9_rowAt_0, ze_X9_textAt_0, ze_X9_refuse_0, ze_X10_isRow_0, ze_X10_isText_0, ze_X10_finds_0, ze_X10_tells_0, zp_in_0_5, zp_in_0_3, zp_in_0_7, zp_in_1_5, zp_in_0_9, zp_in_0_2, zp_in_48_57, zp_in_0_12, zp_in_1_4, zp_in_1_9, zp_in_1_2147483646, zp_in_0_8, zp_in_0, ↓zp_dn, ↓zp_hV, ↓zp_hI, ↓zp_hL, ↓zp_hR, ↓zp_hX, zp_eV, zp_eI, zp_eL, zp_eR, zp_eX, zp_eXl, zp_iV, zp_iI, zp_iL, zp_iR, ↓zp_sm, ↓zp_nls, ↓zp_nln, zp_bo0, zp_bo1, zp_okE, zp_ok2E, zp_rfE, ↓reduceIte, if_true, if_false, zp_ofn, zp_sI1, zp_w1, zp_sL1, zp_sR1, zp_l1, zp_leT, zp_leF, zp_ltT, zp_ltF, zp_eqT, zp_eqF, zp_leTl, zp_leFl, zp_ltTl, zp_ltFl, zp_leTr, zp_leFr, zp_ltTr, zp_ltFr, zp_eqTr, zp_eqFr, zp_eqTl, zp_eqFl, zp_eqFll, eq_self, zp_addl, zp_addr, zp_mull, zp_mulr, zp_subr, zp_subl, nI_add, pk_mul, Nat.reduceEqDiff, Nat.reduceLT, Nat.reduceLeDiff, Nat.reduceAdd, Nat.reduceMul, Nat.reduceSub, reduceCtorEq, Int32.reduceLT, Int32.reduceLE, not_true_eq_false, not_false_eq_true, and_true, true_and, and_false, false_and, or_true, true_or, or_false, false_or, zp_n0 hq, zp_n1 hq, zp_n2 hq, zp_n3 hq, zp_n4 hq, zp_n3l hq, zp_n4l hq]; exact hI
  by_cases hq1 : q < 1
  · simp (disch := omega) only [ze_X9_boats_0, ze_X10_boats_0, ze_X5_room_0, ze_X5_size_0, ze_X5_isThere_0, ze_X5_has_0, ze_X5_hasRun_0, ze_X5_get_0, ze_X5_set_0, ze_X5_drop_0, ze_X5_takeRun_0, ze_X9_rowAt_0, ze_X9_textAt_0, ze_X9_refuse_0, ze_X10_isRow_0, ze_X10_isText_0, ze_X10_finds_0, ze_X10_tells_0, zp_in_0_5, zp_in_0_3, zp_in_0_7, zp_in_1_5, zp_in_0_9, zp_in_0_2, zp_in_48_57, zp_in_0_12, zp_in_1_4, zp_in_1_9, zp_in_1_2147483646, zp_in_0_8, zp_in_0, ↓zp_dn, ↓zp_hV, ↓zp_hI, ↓zp_hL, ↓zp_hR, ↓zp_hX, zp_eV, zp_eI, zp_eL, zp_eR, zp_eX, zp_eXl, zp_iV, zp_iI, zp_iL, zp_iR, ↓zp_sm, ↓zp_nls, ↓zp_nln, zp_bo0, zp_bo1, zp_okE, zp_ok2E, zp_rfE, ↓reduceIte, if_true, if_false, zp_ofn, zp_sI1, zp_w1, zp_sL1, zp_sR1, zp_l1, zp_leT, zp_leF, zp_ltT, zp_ltF, zp_eqT, zp_eqF, zp_leTl, zp_leFl, zp_ltTl, zp_ltFl, zp_leTr, zp_leFr, zp_ltTr, zp_ltFr, zp_eqTr, zp_eqFr, zp_eqTl, zp_eqFl, zp_eqFll, eq_self, zp_addl, zp_addr, zp_mull, zp_mulr, zp_subr, zp_subl, nI_add, pk_mul, Nat.reduceEqDiff, Nat.reduceLT, Nat.reduceLeDiff, Nat.reduceAdd, Nat.reduceMul, Nat.reduceSub, reduceCtorEq, Int32.reduceLT, Int32.reduceLE, not_true_eq_false, not_false_eq_true, and_true, true_and, and_false, false_and, or_true, true_or, or_false, false_or]; exact hI
  by_cases hq4 : q ≤ 4
  case neg => simp (disch := omega) only [ze_X9_boats_0, ze_X10_boats_0, ze_X5_room_0, ze_X5_size_0, ze_X5_isThere_0, ze_X5_has_0, ze_X5_hasRun_0, ze_X5_get_0, ze_X5_set_0, ze_X5_drop_0, ze_X5_takeRun_0, ze_X9_rowAt_0, ze_X9_textAt_0, ze_X9_refuse_0, ze_X10_isRow_0, ze_X10_isText_0, ze_X10_finds_0, ze_X10_tells_0, zp_in_0_5, zp_in_0_3, zp_in_0_7, zp_in_1_5, zp_in_0_9, zp_in_0_2, zp_in_48_57, zp_in_0_12, zp_in_1_4, zp_in_1_9, zp_in_1_2147483646, zp_in_0_8, zp_in_0, ↓zp_dn, ↓zp_hV, ↓zp_hI, ↓zp_hL, ↓zp_hR, ↓zp_hX, zp_eV, zp_eI, zp_eL, zp_eR, zp_eX, zp_eXl, zp_iV, zp_iI, zp_iL, zp_iR, ↓zp_sm, ↓zp_nls, ↓zp_nln, zp_bo0, zp_bo1, zp_okE, zp_ok2E, zp_rfE, ↓reduceIte, if_true, if_false, zp_ofn, zp_sI1, zp_w1, zp_sL1, zp_sR1, zp_l1, zp_leT, zp_leF, zp_ltT, zp_ltF, zp_eqT, zp_eqF, zp_leTl, zp_leFl, zp_ltTl, zp_ltFl, zp_leTr, zp_leFr, zp_ltTr, zp_ltFr, zp_eqTr, zp_eqFr, zp_eqTl, zp_eqFl, zp_eqFll, eq_self, zp_addl, zp_addr, zp_mull, zp_mulr, zp_subr, zp_subl, nI_add, pk_mul, Nat.reduceEqDiff, Nat.reduceLT, Nat.reduceLeDiff, Nat.reduceAdd, Nat.reduceMul, Nat.reduceSub, reduceCtorEq, Int32.reduceLT, Int32.reduceLE, not_true_eq_false, not_false_eq_true, and_true, true_and, and_false, false_and, or_true, true_or, or_false, false_or]; exact hI
  by_cases h0 : A.1 = 0
  · simp (disch := omega) only [ze_X9_boats_0, ze_X10_boats_0, c0, r0, ze_X5_room_0, ze_X5_size_0, ze_X5_isThere_0, ze_X5_has_0, ze_X5_hasRun_0, ze_X5_get_0, ze_X5_set_0, ze_X5_drop_0, ze_X5_takeRun_0, ze_X9_rowAt_0, ze_X9_textAt_0, ze_X9_refuse_0, ze_X10_isRow_0, ze_X10_isText_0, ze_X10_finds_0, ze_X10_tells_0, zp_in_0_5, zp_in_0_3, zp_in_0_7, zp_in_1_5, zp_in_0_9, zp_in_0_2, zp_in_48_57, zp_in_0_12, zp_in_1_4, zp_in_1_9, zp_in_1_2147483646, zp_in_0_8, zp_in_0, ↓zp_dn, ↓zp_hV, ↓zp_hI, ↓zp_hL, ↓zp_hR, ↓zp_hX, zp_eV, zp_eI, zp_eL, zp_eR, zp_eX, zp_eXl, zp_iV, zp_iI, zp_iL, zp_iR, ↓zp_sm, ↓zp_nls, ↓zp_nln, zp_bo0, zp_bo1, zp_okE, zp_ok2E, zp_rfE, ↓reduceIte, if_true, if_false, zp_ofn, zp_sI1, zp_w1, zp_sL1, zp_sR1, zp_l1, zp_leT, zp_leF, zp_ltT, zp_ltF, zp_eqT, zp_eqF, zp_leTl, zp_leFl, zp_ltTl, zp_ltFl, zp_leTr, zp_leFr, zp_ltTr, zp_ltFr, zp_eqTr, zp_eqFr, zp_eqTl, zp_eqFl, zp_eqFll, eq_self, zp_addl, zp_addr, zp_mull, zp_mulr, zp_subr, zp_subl, nI_add, pk_mul, Nat.reduceEqDiff, Nat.reduceLT, Nat.reduceLeDiff, Nat.reduceAdd, Nat.reduceMul, Nat.reduceSub, reduceCtorEq, Int32.reduceLT, Int32.reduceLE, not_true_eq_false, not_false_eq_true, and_true, true_and, and_false, false_and, or_true, true_or, or_false, false_or]; exact hI
  have hE : zf_okE A := by rcases hS.1 with e | e
                           · exact absurd e.1 h0
                           · exact e
  have hE' := hE
  obtain ⟨a1, a2, a3, a4⟩ := hE'
  by_cases hqC : q ≤ A.1
  case neg => simp (disch := omega) only [ze_X9_boats_0, ze_X10_boats_0, c0, r0, ze_X5_room_0, ze_X5_size_0, ze_X5_isThere_0, ze_X5_has_0, ze_X5_hasRun_0, ze_X5_get_0, ze_X5_set_0, ze_X5_drop_0, ze_X5_takeRun_0, ze_X9_rowAt_0, ze_X9_textAt_0, ze_X9_refuse_0, ze_X10_isRow_0, ze_X10_isText_0, ze_X10_finds_0, ze_X10_tells_0, zp_in_0_5, zp_in_0_3, zp_in_0_7, zp_in_1_5, zp_in_0_9, zp_in_0_2, zp_in_48_57, zp_in_0_12, zp_in_1_4, zp_in_1_9, zp_in_1_2147483646, zp_in_0_8, zp_in_0, ↓zp_dn, ↓zp_hV, ↓zp_hI, ↓zp_hL, ↓zp_hR, ↓zp_hX, zp_eV, zp_eI, zp_eL, zp_eR, zp_eX, zp_eXl, zp_iV, zp_iI, zp_iL, zp_iR, ↓zp_sm, ↓zp_nls, ↓zp_nln, zp_bo0, zp_bo1, zp_okE, zp_ok2E, zp_rfE, ↓reduceIte, if_true, if_false, zp_ofn, zp_sI1, zp_w1, zp_sL1, zp_sR1, zp_l1, zp_leT, zp_leF, zp_ltT, zp_ltF, zp_eqT, zp_eqF, zp_leTl, zp_leFl, zp_ltTl, zp_ltFl, zp_leTr, zp_leFr, zp_ltTr, zp_ltFr, zp_eqTr, zp_eqFr, zp_eqTl, zp_eqFl, zp_eqFll, eq_self, zp_addl, zp_addr, zp_mull, zp_mulr, zp_subr, zp_subl, nI_add, pk_mul, Nat.reduceEqDiff, Nat.reduceLT, Nat.reduceLeDiff, Nat.reduceAdd, Nat.reduceMul, Nat.reduceSub, reduceCtorEq, Int32.reduceLT, Int32.reduceLE, not_true_eq_false, not_false_eq_true, and_true, true_and, and_false, false_and, or_true, true_or, or_false, false_or]; exact zq_find hI 5 5
  have hsl := zp_sl7 a2
  have hp0 : 0 < 2 ^ A.1 := Nat.two_pow_pos _
  have hp7 : 2 ^ A.1 ≤ 2 ^ 7 := Nat.pow_le_pow_right (by decide) a2
  have hsm := zb_some A.1 (by omega) a1 q (by omega) (by omega) hqC
  have hin := zb_l_in (n := q) (C := A.1) (2 ^ A.1 - 1) none (by omega) (fun b hb => by cases hb)
  have l1 := zc_boatsL (d + 3) (M := M) (C := A.1) (n := q) (r := r) a1 (by omega) c0 hq4 (2 ^ A.1 - 1) none (by omega) (fun b hb => by cases hb)
  obtain ⟨s, hs⟩ := Option.isSome_iff_exists.mp hsm
  obtain ⟨s1, s2, s3⟩ := hin s hs
  rw [hs] at l1
  have mk := zl_make2 (d + 4) r q 40 0 M (zp_ln r r6) (by omega) (by decide)
  have nr1 : zq_nr r M (zp_l (zi_sI M 5 r 1 (nI q)) 12 r 0 q (fun _ => 0)) := fun c k j _ h5 h12 _ _ => by
    rw [zp_l1]
    by_cases e : c = 12
    · by_cases e2 : k = r
      · exact absurd ⟨e, e2⟩ h12
      · rw [if_pos e, if_neg e2, zp_sI1, if_neg (by omega)]
    · rw [if_neg e, zp_sI1]
      by_cases e5 : c = 5
      · by_cases e6 : j = 1
        · rw [if_pos e5, if_pos e6, if_neg (fun e7 => h5 ⟨e5, e7, e6⟩)]
        · rw [if_pos e5, if_neg e6]
      · rw [if_neg e5]
  obtain ⟨M1, w1, w2⟩ := zc_boatsW (d + 3) (M0 := M) a1 (by omega) c0 s1 r6 s3 (nI (zb_far 7 A.1 s A.1)) A.1 0 (zp_l (zi_sI M 5 r 1 (nI q)) 12 r 0 q (fun _ => 0)) (by omega) nr1 rfl (by simp [zp_l1, zp_sI1]) (fun j v hv => by simp [zb_cl] at hv) ⟨by simp [zp_l1, zp_sI1], fun j hj => by simp [zp_l1, zp_sI1]⟩
  have cls : zi_run (d + 5) zm_X9_boats 72 [some (.inr (.inr (9, some 0))), some (.inl (nI q)), none, some (.inr (.inr (5, some r))), some (.inl 7), some (.inl 0), some (.inl (nI (2 ^ A.1 - 1))), none] [] M = some (some (.inl (nI (zb_far 7 A.1 s A.1))), M1) := by
    refine Eq.trans l1 ?_
    rw [ze_X9_boats_72]
    simp (disch := omega) only [↓zp_dn, ↓zp_hV, ↓zp_hI, ↓zp_hL, ↓zp_hR, ↓zp_hX, zp_eV, zp_eI, zp_eL, zp_eR, zp_eX, zp_eXl, zp_iV, zp_iI, zp_iL, zp_iR, ↓zp_sm, ↓zp_nls, ↓zp_nln, zp_bo0, zp_bo1, zp_okE, zp_ok2E, zp_rfE, ↓reduceIte, if_true, if_false, zp_leT, zp_leF, zp_ltT, zp_ltF, zp_eqT, zp_eqF, zp_leTl, zp_leFl, zp_ltTl, zp_ltFl, zp_leTr, zp_leFr, zp_ltTr, zp_ltFr, zp_eqTr, zp_eqFr, zp_eqTl, zp_eqFl, zp_eqFll, eq_self, zp_addl, zp_addr, zp_mull, zp_mulr, zp_subr, zp_subl, nI_add, pk_mul, mk, zb_v, zb_w]
    exact w1
  have e28 := zq_nr_28 w2.1
  have hA2 : zf_rA (M1.1 28 0) A := by rw [e28]; exact hS.2.2.2.2.1
  have r02 : M1.1 28 0 0 = nI A.1 := hA2.1
  have l2 := zr_boatsL (d + 4) (M := M1) hE hA2 (n := q) (r := r) hq4 (2 ^ A.1 - 1) none (by omega) (fun b hb => by cases hb)
  rw [hs] at l2
  obtain ⟨M2, t1, t2⟩ := zr_boatsW (d + 4) (M0 := M1) hE hA2 s1 r6 (nI (zb_far 7 A.1 s A.1)) A.1 0 (zi_sI M1 24 0 r 0) (by omega) (fun c k j _ _ _ h24 _ => by
    rw [zp_sI1]
    by_cases z : c = 24
    · rw [if_pos z, if_neg (fun y => h24 ⟨z, y⟩)]
    · rw [if_neg z]) rfl (by simp [zp_sI1, zb_cl, nI_0]) (fun j v hv => by simp [zb_cl] at hv) (fun j => ⟨by simp [zp_sI1], by simp [zp_sI1]⟩)
  have rfc : zi_run (d + 5) zm_X10_boats 67 [some (.inr (.inr (10, some 0))), some (.inl (nI q)), some (.inl (nI r)), some (.inl 100), some (.inl 0), some (.inl (nI (2 ^ A.1 - 1))), none, none, none, none, none, none] [] M1 = some (some (.inl (nI (zb_far 7 A.1 s A.1))), M2) := by
    refine Eq.trans l2 ?_
    rw [ze_X10_boats_67]
    simp (disch := omega) only [↓zp_dn, ↓zp_hV, ↓zp_hI, ↓zp_hL, ↓zp_hR, ↓zp_hX, zp_eV, zp_eI, zp_eL, zp_eR, zp_eX, zp_eXl, zp_iV, zp_iI, zp_iL, zp_iR, ↓zp_sm, ↓zp_nls, ↓zp_nln, zp_bo0, zp_bo1, zp_okE, zp_ok2E, zp_rfE, ↓reduceIte, if_true, if_false, zp_leT, zp_leF, zp_ltT, zp_ltF, zp_eqT, zp_eqF, zp_leTl, zp_leFl, zp_ltTl, zp_ltFl, zp_leTr, zp_leFr, zp_ltTr, zp_ltFr, zp_eqTr, zp_eqFr, zp_eqTl, zp_eqFl, zp_eqFll, eq_self, zp_addl, zp_addr, zp_mull, zp_mulr, zp_subr, zp_subl, nI_add, pk_mul, zb_v, zb_w]
    exact t1
  have es : nI (2 ^ A.1) - 1 = nI (2 ^ A.1 - 1) := pk_sub (b := 1) (by omega)
  rw [ze_X9_boats_0]
  simp (disch := omega) only [c0, hsl, es, ze_X5_room_0, ze_X5_size_0, ze_X5_isThere_0, ze_X5_has_0, ze_X5_hasRun_0, ze_X5_get_0, ze_X5_set_0, ze_X5_drop_0, ze_X5_takeRun_0, ze_X9_rowAt_0, ze_X9_textAt_0, ze_X9_refuse_0, ze_X10_isRow_0, ze_X10_isText_0, ze_X10_finds_0, ze_X10_tells_0, zp_in_0_5, zp_in_0_3, zp_in_0_7, zp_in_1_5, zp_in_0_9, zp_in_0_2, zp_in_48_57, zp_in_0_12, zp_in_1_4, zp_in_1_9, zp_in_1_2147483646, zp_in_0_8, zp_in_0, ↓zp_dn, ↓zp_hV, ↓zp_hI, ↓zp_hL, ↓zp_hR, ↓zp_hX, zp_eV, zp_eI, zp_eL, zp_eR, zp_eX, zp_eXl, zp_iV, zp_iI, zp_iL, zp_iR, ↓zp_sm, ↓zp_nls, ↓zp_nln, zp_bo0, zp_bo1, zp_okE, zp_ok2E, zp_rfE, ↓reduceIte, if_true, if_false, zp_ofn, zp_sI1, zp_w1, zp_sL1, zp_sR1, zp_l1, zp_leT, zp_leF, zp_ltT, zp_ltF, zp_eqT, zp_eqF, zp_leTl, zp_leFl, zp_ltTl, zp_ltFl, zp_leTr, zp_leFr, zp_ltTr, zp_ltFr, zp_eqTr, zp_eqFr, zp_eqTl, zp_eqFl, zp_eqFll, eq_self, zp_addl, zp_addr, zp_mull, zp_mulr, zp_subr, zp_subl, nI_add, pk_mul, Nat.reduceEqDiff, Nat.reduceLT, Nat.reduceLeDiff, Nat.reduceAdd, Nat.reduceMul, Nat.reduceSub, reduceCtorEq, Int32.reduceLT, Int32.reduceLE, not_true_eq_false, not_false_eq_true, and_true, true_and, and_false, false_and, or_true, true_or, or_false, false_or]
  rw [cls, zp_okE, zp_rfE, ze_X10_boats_0]
  simp (disch := omega) only [r02, hsl, es, ze_X5_room_0, ze_X5_size_0, ze_X5_isThere_0, ze_X5_has_0, ze_X5_hasRun_0, ze_X5_get_0, ze_X5_set_0, ze_X5_drop_0, ze_X5_takeRun_0, ze_X9_rowAt_0, ze_X9_textAt_0, ze_X9_refuse_0, ze_X10_isRow_0, ze_X10_isText_0, ze_X10_finds_0, ze_X10_tells_0, zp_in_0_5, zp_in_0_3, zp_in_0_7, zp_in_1_5, zp_in_0_9, zp_in_0_2, zp_in_48_57, zp_in_0_12, zp_in_1_4, zp_in_1_9, zp_in_1_2147483646, zp_in_0_8, zp_in_0, ↓zp_dn, ↓zp_hV, ↓zp_hI, ↓zp_hL, ↓zp_hR, ↓zp_hX, zp_eV, zp_eI, zp_eL, zp_eR, zp_eX, zp_eXl, zp_iV, zp_iI, zp_iL, zp_iR, ↓zp_sm, ↓zp_nls, ↓zp_nln, zp_bo0, zp_bo1, zp_okE, zp_ok2E, zp_rfE, ↓reduceIte, if_true, if_false, zp_ofn, zp_sI1, zp_w1, zp_sL1, zp_sR1, zp_l1, zp_leT, zp_leF, zp_ltT, zp_ltF, zp_eqT, zp_eqF, zp_leTl, zp_leFl, zp_ltTl, zp_ltFl, zp_leTr, zp_leFr, zp_ltTr, zp_ltFr, zp_eqTr, zp_eqFr, zp_eqTl, zp_eqFl, zp_eqFll, eq_self, zp_addl, zp_addr, zp_mull, zp_mulr, zp_subr, zp_subl, nI_add, pk_mul, Nat.reduceEqDiff, Nat.reduceLT, Nat.reduceLeDiff, Nat.reduceAdd, Nat.reduceMul, Nat.reduceSub, reduceCtorEq, Int32.reduceLT, Int32.reduceLE, not_true_eq_false, not_false_eq_true, and_true, true_and, and_false, false_and, or_true, true_or, or_false, false_or]
  rw [rfc, zp_ok2E]
  refine ⟨rfl, zw_L_inv hI r6 (fun w hw => ?_) w2 t2⟩
  cases hw
  rw [zb_way_len]
  have := zb_cl_len A.1 s A.1
  omega
