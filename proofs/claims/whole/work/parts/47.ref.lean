/-! THE PURE PART: the reference's canBeat, moves, settles -/
theorem zr_more (d : Nat) (v : Int32) (M : zi_M) : zi_run d zm_X10_more 0 [some (.inl v), some (.inl 0)] [] M = some (some (.inl (zi_max 0 v)), M) := by
  rw [ze_X10_more_0]
  unfold zi_max
  by_cases h : v ≤ 0
  · have h2 : ¬ 0 < v := by rw [Int32.le_iff_toInt_le] at h; rw [Int32.lt_iff_toInt_lt]; omega
    rw [if_pos h, if_neg h2]
  · have h2 : 0 < v := by rw [Int32.le_iff_toInt_le] at h; rw [Int32.lt_iff_toInt_lt]; omega
    rw [if_neg h, if_pos h2]
theorem zr_airAt (d : Nat) {M : zi_M} {A : zf_A} (hA : zf_okE A) (hC : zf_rA (M.1 28 0) A) {c h : Nat} (hc : c < A.1) (hh : h < A.2.1) : zi_run d zm_X10_airAt 0 [some (.inr (.inr (10, some 0))), some (.inl (nI c)), some (.inl (nI h))] [] M = some (some (.inl (zf_at A c h)), M) := by
  obtain ⟨e1, e2, e3⟩ := hC
  obtain ⟨_, a2, _, a4⟩ := hA
  have e := e3 h c hh hc
  rw [ze_X10_airAt_0]
  simp (disch := omega) only [↓zp_dn, ↓zp_hV, ↓zp_hI, ↓zp_hL, ↓zp_hR, ↓zp_hX, zp_eV, zp_eI, zp_eL, zp_eR, zp_eX, zp_eXl, zp_iV, zp_iI, zp_iL, zp_iR, ↓zp_sm, ↓zp_nls, ↓zp_nln, zp_bo0, zp_bo1, zp_okE, zp_ok2E, zp_rfE, ↓reduceIte, if_true, if_false, zp_leT, zp_leF, zp_ltT, zp_ltF, zp_eqT, zp_eqF, zp_leTl, zp_leFl, zp_ltTl, zp_ltFl, zp_leTr, zp_leFr, zp_ltTr, zp_ltFr, zp_eqTr, zp_eqFr, zp_eqTl, zp_eqFl, zp_eqFll, eq_self, zp_addl, zp_addr, zp_mull, zp_mulr, zp_subr, zp_subl, nI_add, pk_mul]
  rw [show 5 + 7 * h + c = 5 + (7 * h + c) from by omega, e]; rfl
theorem zr_last (d : Nat) {M : zi_M} {A : zf_A} (hA : zf_okE A) (hC : zf_rA (M.1 28 0) A) : zi_run d zm_X10_last 0 [some (.inr (.inr (10, some 0)))] [] M = some (some (.inl (nI (A.1 - 1))), M) := by
  obtain ⟨e1, e2, e3⟩ := hC
  obtain ⟨a1, a2, _, a4⟩ := hA
  rw [ze_X10_last_0]
  simp (disch := omega) only [↓zp_dn, ↓zp_hV, ↓zp_hI, ↓zp_hL, ↓zp_hR, ↓zp_hX, zp_eV, zp_eI, zp_eL, zp_eR, zp_eX, zp_eXl, zp_iV, zp_iI, zp_iL, zp_iR, ↓zp_sm, ↓zp_nls, ↓zp_nln, zp_bo0, zp_bo1, zp_okE, zp_ok2E, zp_rfE, ↓reduceIte, if_true, if_false, zp_leT, zp_leF, zp_ltT, zp_ltF, zp_eqT, zp_eqF, zp_leTl, zp_leFl, zp_ltTl, zp_ltFl, zp_leTr, zp_leFr, zp_ltTr, zp_ltFr, zp_eqTr, zp_eqFr, zp_eqTl, zp_eqFl, zp_eqFll, eq_self, zp_addl, zp_addr, zp_mull, zp_mulr, zp_subr, zp_subl, nI_add, pk_mul, e1]
theorem zr_isOver (d : Nat) {M : zi_M} {A : zf_A} (hA : zf_okE A) (hC : zf_rA (M.1 28 0) A) {s : zf_S} (hs : M.1 10 0 18 = nI s.1) (hc : s.1 < A.1) : zi_run (d + 1) zm_X10_isOver 0 [some (.inr (.inr (10, some 0)))] [] M = if zf_over A s then some (some (.inl 1), M) else some (some (.inl 0), M) := by
  have hA' := hA
  obtain ⟨a1, a2, a3, a4⟩ := hA'
  rw [ze_X10_isOver_0]
  by_cases h : A.1 ≤ s.1 + 1
  · rw [if_pos (show zf_over A s from h)]
    simp (disch := omega) only [↓zp_dn, ↓zp_hV, ↓zp_hI, ↓zp_hL, ↓zp_hR, ↓zp_hX, zp_eV, zp_eI, zp_eL, zp_eR, zp_eX, zp_eXl, zp_iV, zp_iI, zp_iL, zp_iR, ↓zp_sm, ↓zp_nls, ↓zp_nln, zp_bo0, zp_bo1, zp_okE, zp_ok2E, zp_rfE, ↓reduceIte, if_true, if_false, zp_leT, zp_leF, zp_ltT, zp_ltF, zp_eqT, zp_eqF, zp_leTl, zp_leFl, zp_ltTl, zp_ltFl, zp_leTr, zp_leFr, zp_ltTr, zp_ltFr, zp_eqTr, zp_eqFr, zp_eqTl, zp_eqFl, zp_eqFll, eq_self, zp_addl, zp_addr, zp_mull, zp_mulr, zp_subr, zp_subl, nI_add, pk_mul, zr_last _ hA hC, hs]
  · rw [if_neg (show ¬ zf_over A s from h)]
    simp (disch := omega) only [↓zp_dn, ↓zp_hV, ↓zp_hI, ↓zp_hL, ↓zp_hR, ↓zp_hX, zp_eV, zp_eI, zp_eL, zp_eR, zp_eX, zp_eXl, zp_iV, zp_iI, zp_iL, zp_iR, ↓zp_sm, ↓zp_nls, ↓zp_nln, zp_bo0, zp_bo1, zp_okE, zp_ok2E, zp_rfE, ↓reduceIte, if_true, if_false, zp_leT, zp_leF, zp_ltT, zp_ltF, zp_eqT, zp_eqF, zp_leTl, zp_leFl, zp_ltTl, zp_ltFl, zp_leTr, zp_leFr, zp_ltTr, zp_ltFr, zp_eqTr, zp_eqFr, zp_eqTl, zp_eqFl, zp_eqFll, eq_self, zp_addl, zp_addr, zp_mull, zp_mulr, zp_subr, zp_subl, nI_add, pk_mul, zr_last _ hA hC, hs]
theorem zr_colB (d : Nat) {M : zi_M} {A : zf_A} (hA : zf_okE A) (hC : zf_rA (M.1 28 0) A) {s : zf_S} (h18 : M.1 10 0 18 = nI s.1) (h19 : M.1 10 0 19 = nI s.2.1) (hc : s.1 < A.1) (hh : s.2.1 < A.2.1) : zi_run (d + 1) zm_X10_columnBehind 0 [some (.inr (.inr (10, some 0))), none] [] M = some (some (.inl (nI (zf_col A s))), M) := by
  have hA' := hA
  obtain ⟨a1, a2, a3, a4⟩ := hA'
  rw [ze_X10_columnBehind_0]
  by_cases h4 : zf_at A s.1 s.2.1 = 4
  · by_cases h : s.1 + 2 ≤ A.1 - 1
    · simp (disch := omega) only [↓zp_dn, ↓zp_hV, ↓zp_hI, ↓zp_hL, ↓zp_hR, ↓zp_hX, zp_eV, zp_eI, zp_eL, zp_eR, zp_eX, zp_eXl, zp_iV, zp_iI, zp_iL, zp_iR, ↓zp_sm, ↓zp_nls, ↓zp_nln, zp_bo0, zp_bo1, zp_okE, zp_ok2E, zp_rfE, ↓reduceIte, if_true, if_false, zp_leT, zp_leF, zp_ltT, zp_ltF, zp_eqT, zp_eqF, zp_leTl, zp_leFl, zp_ltTl, zp_ltFl, zp_leTr, zp_leFr, zp_ltTr, zp_ltFr, zp_eqTr, zp_eqFr, zp_eqTl, zp_eqFl, zp_eqFll, eq_self, zp_addl, zp_addr, zp_mull, zp_mulr, zp_subr, zp_subl, nI_add, pk_mul, zr_airAt _ hA hC hc hh, h18, h19, if_pos h4, ze_X10_columnBehind_25, zr_last _ hA hC, zf_col, Nat.min_eq_left]
    · simp (disch := omega) only [↓zp_dn, ↓zp_hV, ↓zp_hI, ↓zp_hL, ↓zp_hR, ↓zp_hX, zp_eV, zp_eI, zp_eL, zp_eR, zp_eX, zp_eXl, zp_iV, zp_iI, zp_iL, zp_iR, ↓zp_sm, ↓zp_nls, ↓zp_nln, zp_bo0, zp_bo1, zp_okE, zp_ok2E, zp_rfE, ↓reduceIte, if_true, if_false, zp_leT, zp_leF, zp_ltT, zp_ltF, zp_eqT, zp_eqF, zp_leTl, zp_leFl, zp_ltTl, zp_ltFl, zp_leTr, zp_leFr, zp_ltTr, zp_ltFr, zp_eqTr, zp_eqFr, zp_eqTl, zp_eqFl, zp_eqFll, eq_self, zp_addl, zp_addr, zp_mull, zp_mulr, zp_subr, zp_subl, nI_add, pk_mul, zr_airAt _ hA hC hc hh, h18, h19, if_pos h4, ze_X10_columnBehind_25, zr_last _ hA hC, zf_col, Nat.min_eq_right]
  · by_cases h : s.1 + 1 ≤ A.1 - 1
    · simp (disch := omega) only [↓zp_dn, ↓zp_hV, ↓zp_hI, ↓zp_hL, ↓zp_hR, ↓zp_hX, zp_eV, zp_eI, zp_eL, zp_eR, zp_eX, zp_eXl, zp_iV, zp_iI, zp_iL, zp_iR, ↓zp_sm, ↓zp_nls, ↓zp_nln, zp_bo0, zp_bo1, zp_okE, zp_ok2E, zp_rfE, ↓reduceIte, if_true, if_false, zp_leT, zp_leF, zp_ltT, zp_ltF, zp_eqT, zp_eqF, zp_leTl, zp_leFl, zp_ltTl, zp_ltFl, zp_leTr, zp_leFr, zp_ltTr, zp_ltFr, zp_eqTr, zp_eqFr, zp_eqTl, zp_eqFl, zp_eqFll, eq_self, zp_addl, zp_addr, zp_mull, zp_mulr, zp_subr, zp_subl, nI_add, pk_mul, zr_airAt _ hA hC hc hh, h18, h19, if_neg h4, ze_X10_columnBehind_25, zr_last _ hA hC, zf_col, Nat.min_eq_left]
    · simp (disch := omega) only [↓zp_dn, ↓zp_hV, ↓zp_hI, ↓zp_hL, ↓zp_hR, ↓zp_hX, zp_eV, zp_eI, zp_eL, zp_eR, zp_eX, zp_eXl, zp_iV, zp_iI, zp_iL, zp_iR, ↓zp_sm, ↓zp_nls, ↓zp_nln, zp_bo0, zp_bo1, zp_okE, zp_ok2E, zp_rfE, ↓reduceIte, if_true, if_false, zp_leT, zp_leF, zp_ltT, zp_ltF, zp_eqT, zp_eqF, zp_leTl, zp_leFl, zp_ltTl, zp_ltFl, zp_leTr, zp_leFr, zp_ltTr, zp_ltFr, zp_eqTr, zp_eqFr, zp_eqTl, zp_eqFl, zp_eqFll, eq_self, zp_addl, zp_addr, zp_mull, zp_mulr, zp_subr, zp_subl, nI_add, pk_mul, zr_airAt _ hA hC hc hh, h18, h19, if_neg h4, ze_X10_columnBehind_25, zr_last _ hA hC, zf_col, Nat.min_eq_right]
theorem zf_col_lt {A : zf_A} (hA : zf_okE A) (s : zf_S) : zf_col A s < A.1 := by
  have := hA.1; simp only [zf_col]; omega
theorem zr_canBeat (d : Nat) {M : zi_M} {E : zf_E} (hA : zf_okE E.1) (hE : zf_rE M E) {s : zf_S} (hs : zf_rs M s) (hc : s.1 < E.1.1) (hh : s.2.1 < E.1.2.1) {b : Nat} (hb : b < 3) : zi_run (d + 2) zm_X10_canBeat 0 [some (.inr (.inr (10, some 0))), some (.inl (nI b)), none] [] M = if zf_can E.1 s b then some (some (.inl 1), M) else some (some (.inl 0), M) := by
  have hA' := hA
  obtain ⟨a1, a2, a3, a4⟩ := hA'
  have hC := hE.1
  have e2 := hC.2.1
  have h18 : M.1 10 0 18 = nI s.1 := hs.1
  have h19 : M.1 10 0 19 = nI s.2.1 := hs.2.1
  have h23 : M.1 10 0 23 = s.2.2.2.2.2 := hs.2.2.2.2.2
  rw [ze_X10_canBeat_0, h23]
  by_cases hf : s.2.2.2.2.2 = 0
  · rw [if_pos hf]
    by_cases ho : E.1.1 ≤ s.1 + 1
    · rw [if_neg (show ¬ zf_can E.1 s b from fun h => by have := h.2.1; omega)]
      simp (disch := omega) only [↓zp_dn, ↓zp_hV, ↓zp_hI, ↓zp_hL, ↓zp_hR, ↓zp_hX, zp_eV, zp_eI, zp_eL, zp_eR, zp_eX, zp_eXl, zp_iV, zp_iI, zp_iL, zp_iR, ↓zp_sm, ↓zp_nls, ↓zp_nln, zp_bo0, zp_bo1, zp_okE, zp_ok2E, zp_rfE, ↓reduceIte, if_true, if_false, zp_leT, zp_leF, zp_ltT, zp_ltF, zp_eqT, zp_eqF, zp_leTl, zp_leFl, zp_ltTl, zp_ltFl, zp_leTr, zp_leFr, zp_ltTr, zp_ltFr, zp_eqTr, zp_eqFr, zp_eqTl, zp_eqFl, zp_eqFll, eq_self, zp_addl, zp_addr, zp_mull, zp_mulr, zp_subr, zp_subl, nI_add, pk_mul, zr_isOver _ hA hC h18 hc, ho]
    · by_cases h0 : s.2.1 + b = 0
      · rw [if_neg (show ¬ zf_can E.1 s b from fun h => by have := h.2.2.1; omega)]
        simp (disch := omega) only [↓zp_dn, ↓zp_hV, ↓zp_hI, ↓zp_hL, ↓zp_hR, ↓zp_hX, zp_eV, zp_eI, zp_eL, zp_eR, zp_eX, zp_eXl, zp_iV, zp_iI, zp_iL, zp_iR, ↓zp_sm, ↓zp_nls, ↓zp_nln, zp_bo0, zp_bo1, zp_okE, zp_ok2E, zp_rfE, ↓reduceIte, if_true, if_false, zp_leT, zp_leF, zp_ltT, zp_ltF, zp_eqT, zp_eqF, zp_leTl, zp_leFl, zp_ltTl, zp_ltFl, zp_leTr, zp_leFr, zp_ltTr, zp_ltFr, zp_eqTr, zp_eqFr, zp_eqTl, zp_eqFl, zp_eqFll, eq_self, zp_addl, zp_addr, zp_mull, zp_mulr, zp_subr, zp_subl, nI_add, pk_mul, zr_isOver _ hA hC h18 hc, if_neg ho, h19, zp_m1 h0, zp_in_0, zp_m10]
      · by_cases h1 : s.2.1 + b - 1 < E.1.2.1
        · by_cases h5 : zf_at E.1 (zf_col E.1 s) (s.2.1 + b - 1) = 5
          · rw [if_neg (show ¬ zf_can E.1 s b from fun h => h.2.2.2.2 h5)]
            simp (disch := omega) only [↓zp_dn, ↓zp_hV, ↓zp_hI, ↓zp_hL, ↓zp_hR, ↓zp_hX, zp_eV, zp_eI, zp_eL, zp_eR, zp_eX, zp_eXl, zp_iV, zp_iI, zp_iL, zp_iR, ↓zp_sm, ↓zp_nls, ↓zp_nln, zp_bo0, zp_bo1, zp_okE, zp_ok2E, zp_rfE, ↓reduceIte, if_true, if_false, zp_leT, zp_leF, zp_ltT, zp_ltF, zp_eqT, zp_eqF, zp_leTl, zp_leFl, zp_ltTl, zp_ltFl, zp_leTr, zp_leFr, zp_ltTr, zp_ltFr, zp_eqTr, zp_eqFr, zp_eqTl, zp_eqFl, zp_eqFll, eq_self, zp_addl, zp_addr, zp_mull, zp_mulr, zp_subr, zp_subl, nI_add, pk_mul, zr_isOver _ hA hC h18 hc, if_neg ho, h19, zp_in_0, e2, zr_colB _ hA hC h18 h19 hc hh, zr_airAt _ hA hC (zf_col_lt hA s) h1, h5]
          · rw [if_pos (show zf_can E.1 s b from ⟨hf, by omega, by omega, h1, h5⟩)]
            simp (disch := omega) only [↓zp_dn, ↓zp_hV, ↓zp_hI, ↓zp_hL, ↓zp_hR, ↓zp_hX, zp_eV, zp_eI, zp_eL, zp_eR, zp_eX, zp_eXl, zp_iV, zp_iI, zp_iL, zp_iR, ↓zp_sm, ↓zp_nls, ↓zp_nln, zp_bo0, zp_bo1, zp_okE, zp_ok2E, zp_rfE, ↓reduceIte, if_true, if_false, zp_leT, zp_leF, zp_ltT, zp_ltF, zp_eqT, zp_eqF, zp_leTl, zp_leFl, zp_ltTl, zp_ltFl, zp_leTr, zp_leFr, zp_ltTr, zp_ltFr, zp_eqTr, zp_eqFr, zp_eqTl, zp_eqFl, zp_eqFll, eq_self, zp_addl, zp_addr, zp_mull, zp_mulr, zp_subr, zp_subl, nI_add, pk_mul, zr_isOver _ hA hC h18 hc, if_neg ho, h19, zp_in_0, e2, zr_colB _ hA hC h18 h19 hc hh, zr_airAt _ hA hC (zf_col_lt hA s) h1, if_neg h5]
        · rw [if_neg (show ¬ zf_can E.1 s b from fun h => h1 h.2.2.2.1)]
          simp (disch := omega) only [↓zp_dn, ↓zp_hV, ↓zp_hI, ↓zp_hL, ↓zp_hR, ↓zp_hX, zp_eV, zp_eI, zp_eL, zp_eR, zp_eX, zp_eXl, zp_iV, zp_iI, zp_iL, zp_iR, ↓zp_sm, ↓zp_nls, ↓zp_nln, zp_bo0, zp_bo1, zp_okE, zp_ok2E, zp_rfE, ↓reduceIte, if_true, if_false, zp_leT, zp_leF, zp_ltT, zp_ltF, zp_eqT, zp_eqF, zp_leTl, zp_leFl, zp_ltTl, zp_ltFl, zp_leTr, zp_leFr, zp_ltTr, zp_ltFr, zp_eqTr, zp_eqFr, zp_eqTl, zp_eqFl, zp_eqFll, eq_self, zp_addl, zp_addr, zp_mull, zp_mulr, zp_subr, zp_subl, nI_add, pk_mul, zr_isOver _ hA hC h18 hc, if_neg ho, h19, zp_in_0, e2]
  · rw [if_neg hf, if_neg (show ¬ zf_can E.1 s b from fun h => hf h.1)]
theorem zr_costs (d : Nat) (M : zi_M) (b : Nat) (hb : b < 3) : zi_run (d + 1) zm_X10_costs 0 [some (.inr (.inr (10, some 0))), some (.inl (nI b)), none, none, none, none] [] M = some (some (.inl (zf_cost (M.1 10 0 17) (M.1 10 0 25) b)), M) := by
  have hb' : b = 0 ∨ b = 1 ∨ b = 2 := by omega
  generalize hK : M.1 10 0 17 = K
  have z : zi_max 0 (0 - 1) = 0 := by decide
  rcases hb' with e | e | e <;> subst e <;> by_cases k1 : K = 1 <;> by_cases k4 : K = 4 <;> by_cases k3 : K = 3 <;> by_cases k5 : K = 5 <;> simp (disch := omega) only [ze_X10_costs_0, ze_X10_costs_16, ze_X10_costs_21, ze_X10_costs_38, ze_X10_costs_43, ze_X10_costs_66, ze_X10_costs_88, ze_X10_costs_103, zr_more, hK, k1, k3, k4, k5, zf_cost, z, Int32.add_zero, ↓zp_dn, ↓zp_hV, ↓zp_hI, ↓zp_hL, ↓zp_hR, ↓zp_hX, zp_eV, zp_eI, zp_eL, zp_eR, zp_eX, zp_eXl, zp_iV, zp_iI, zp_iL, zp_iR, ↓zp_sm, ↓zp_nls, ↓zp_nln, zp_bo0, zp_bo1, zp_okE, zp_ok2E, zp_rfE, ↓reduceIte, if_true, if_false, zp_leT, zp_leF, zp_ltT, zp_ltF, zp_eqT, zp_eqF, zp_leTl, zp_leFl, zp_ltTl, zp_ltFl, zp_leTr, zp_leFr, zp_ltTr, zp_ltFr, zp_eqTr, zp_eqFr, zp_eqTl, zp_eqFl, zp_eqFll, eq_self, zp_addl, zp_addr, zp_mull, zp_mulr, zp_subr, zp_subl, nI_add, pk_mul, Nat.reduceEqDiff, Nat.reduceLT, Nat.reduceLeDiff, Nat.reduceAdd, Nat.reduceMul, Nat.reduceSub, reduceCtorEq, Int32.reduceLT, Int32.reduceLE, not_true_eq_false, not_false_eq_true, and_true, true_and, and_false, false_and, or_true, true_or, or_false, false_or]
theorem zp_hb {h b : Nat} (h1 : 1 ≤ h + b) (h31 : h + b < 2 ^ 31) : nI h + (nI b - 1) = nI (h + b - 1) := by
  rcases Nat.eq_zero_or_pos b with e | e
  · subst e; rw [zp_m1 rfl, sb_m1 (by omega)]; rfl
  · rw [show nI b - 1 = nI (b - 1) from pk_sub e, nI_add]; congr 1; omega
theorem zp_o10 {M : zi_M} {c k s c' k' s' : Nat} {x : Int32} (h : ¬ (c' = 10 ∧ k' = 0)) (hc : c = 10) (hk : k = 0) : (zi_sI M c k s x).1 c' k' s' = M.1 c' k' s' := zp_o1 (by subst hc; subst hk; exact h)
theorem zr_moves (d : Nat) {M : zi_M} {E : zf_E} (hA : zf_okE E.1) (hE : zf_rE M E) {s : zf_S} (hs : zf_rs M s) (hc : s.1 < E.1.1) (hh : s.2.1 < E.1.2.1) {b : Nat} (hb : b < 3) (h1 : 1 ≤ s.2.1 + b) : zi_run (d + 2) zm_X10_moves 0 [some (.inr (.inr (10, some 0))), some (.inl (nI b))] [] M = some (none, zp_rp M (zf_mv E s b)) := by
  have hA' := hA
  obtain ⟨a1, a2, a3, a4⟩ := hA'
  obtain ⟨hC, f1, f2, f3, f4⟩ := hE
  have h18 : M.1 10 0 18 = nI s.1 := hs.1
  have h19 : M.1 10 0 19 = nI s.2.1 := hs.2.1
  have h20 : M.1 10 0 20 = s.2.2.1 := hs.2.2.1
  have h21 : M.1 10 0 21 = s.2.2.2.1 := hs.2.2.2.1
  have h22 : M.1 10 0 22 = s.2.2.2.2.1 := hs.2.2.2.2.1
  have h23 : M.1 10 0 23 = s.2.2.2.2.2 := hs.2.2.2.2.2
  have key : ∀ x : Int32, zi_run (d + 1) zm_X10_columnBehind 0 [some (.inr (.inr (10, some 0))), none] [] (zi_sI M 10 0 20 x) = some (some (.inl (nI (zf_col E.1 s))), zi_sI M 10 0 20 x) := fun x =>
    zr_colB d (M := zi_sI M 10 0 20 x) hA hC (by simp [zp_sI1, h18]) (by simp [zp_sI1, h19]) hc hh
  have fin : ∀ x : Int32, x = (zf_mv E s b).2.2.1 → some ((none : Option zi_V), zi_sI (zi_sI (zi_sI M 10 0 20 x) 10 0 18 (nI (zf_col E.1 s))) 10 0 19 (nI (s.2.1 + b - 1))) = some (none, zp_rp M (zf_mv E s b)) := by
    intro x hx
    congr 2
    refine zp_rp_eq rfl (fun c k' j h => ?_) ?_ (fun j hj => ?_)
    · rw [zp_o1 h, zp_o1 h, zp_o1 h]
    · simp only [zf_rs, zf_is, zp_sI1, Nat.reduceEqDiff, Nat.reduceLT, Nat.reduceLeDiff, Nat.reduceAdd, Nat.reduceMul, Nat.reduceSub, reduceCtorEq, Int32.reduceLT, Int32.reduceLE, not_true_eq_false, not_false_eq_true, and_true, true_and, and_false, false_and, or_true, true_or, or_false, false_or, ↓reduceIte, h21, h22, h23]
      exact ⟨rfl, rfl, hx, rfl, rfl, rfl⟩
    · rw [zp_o2 (by omega), zp_o2 (by omega), zp_o2 (by omega)]
  by_cases c3 : zf_at E.1 s.1 s.2.1 = 3
  · simp (disch := omega) only [ze_X10_moves_0, ze_X10_moves_30, ↓zp_dn, ↓zp_hV, ↓zp_hI, ↓zp_hL, ↓zp_hR, ↓zp_hX, zp_eV, zp_eI, zp_eL, zp_eR, zp_eX, zp_eXl, zp_iV, zp_iI, zp_iL, zp_iR, ↓zp_sm, ↓zp_nls, ↓zp_nln, zp_bo0, zp_bo1, zp_okE, zp_ok2E, zp_rfE, ↓reduceIte, if_true, if_false, zp_leT, zp_leF, zp_ltT, zp_ltF, zp_eqT, zp_eqF, zp_leTl, zp_leFl, zp_ltTl, zp_ltFl, zp_leTr, zp_leFr, zp_ltTr, zp_ltFr, zp_eqTr, zp_eqFr, zp_eqTl, zp_eqFl, zp_eqFll, eq_self, zp_addl, zp_addr, zp_mull, zp_mulr, zp_subr, zp_subl, nI_add, pk_mul, zp_sI1, zp_w1, zp_sL1, zp_sR1, Nat.reduceEqDiff, Nat.reduceLT, Nat.reduceLeDiff, Nat.reduceAdd, Nat.reduceMul, Nat.reduceSub, reduceCtorEq, Int32.reduceLT, Int32.reduceLE, not_true_eq_false, not_false_eq_true, and_true, true_and, and_false, false_and, or_true, true_or, or_false, false_or, h18, h19, h20, zr_airAt _ hA hC hc hh, if_pos c3, key, zp_hb]
    exact fin _ (by simp only [zf_mv, if_pos c3, Int32.sub_zero])
  · simp (disch := omega) only [ze_X10_moves_0, ze_X10_moves_30, ↓zp_dn, ↓zp_hV, ↓zp_hI, ↓zp_hL, ↓zp_hR, ↓zp_hX, zp_eV, zp_eI, zp_eL, zp_eR, zp_eX, zp_eXl, zp_iV, zp_iI, zp_iL, zp_iR, ↓zp_sm, ↓zp_nls, ↓zp_nln, zp_bo0, zp_bo1, zp_okE, zp_ok2E, zp_rfE, ↓reduceIte, if_true, if_false, zp_leT, zp_leF, zp_ltT, zp_ltF, zp_eqT, zp_eqF, zp_leTl, zp_leFl, zp_ltTl, zp_ltFl, zp_leTr, zp_leFr, zp_ltTr, zp_ltFr, zp_eqTr, zp_eqFr, zp_eqTl, zp_eqFl, zp_eqFll, eq_self, zp_addl, zp_addr, zp_mull, zp_mulr, zp_subr, zp_subl, nI_add, pk_mul, zp_sI1, zp_w1, zp_sL1, zp_sR1, Nat.reduceEqDiff, Nat.reduceLT, Nat.reduceLeDiff, Nat.reduceAdd, Nat.reduceMul, Nat.reduceSub, reduceCtorEq, Int32.reduceLT, Int32.reduceLE, not_true_eq_false, not_false_eq_true, and_true, true_and, and_false, false_and, or_true, true_or, or_false, false_or, h18, h19, h20, zr_airAt _ hA hC hc hh, if_neg c3, key, zp_hb, zr_costs, f1, f3]
    exact fin _ (by simp only [zf_mv, if_neg c3])
