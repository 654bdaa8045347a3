/-! THE PURE PART: the law -/
theorem zl_236 (e : Nat) {n : Nat} {xs : Nat → Int32} {M : zi_M} (hI : zq_inv n xs M) (hn : n ≤ 384) {x : Nat} (hx : x + 6 ≤ n) : ∃ M', zq_inv n xs M' ∧ zi_run (e + 31) zm_L_law 236 [some (.inr (.inr (90, some 0))), some (.inr (.inr (9, some 0))), some (.inr (.inr (10, some 0))), some (.inl (nI x))] [] M = zi_run (e + 31) zm_L_law 1580 [some (.inr (.inr (90, some 0))), some (.inr (.inr (9, some 0))), some (.inr (.inr (10, some 0))), some (.inl (nI x))] [] M' := by
  have h : zp_ok (zi_run (e + 30) zm_X9_row 0 [some (.inr (.inr (9, some 0))), some (.inl (M.1 90 0 (x + 1))), some (.inl (M.1 90 0 (x + 2)))] [] M) (zp_rf (e + 30) zm_X10_row [some (.inr (.inr (10, some 0))), some (.inl (M.1 90 0 (x + 1))), some (.inl (M.1 90 0 (x + 2))), none]) (zq_inv n xs) := zo_row (e + 25) hI (M.1 90 0 (x + 1)) (M.1 90 0 (x + 2))
  obtain ⟨v, M1, M2, e1, e2, e3⟩ := h
  obtain ⟨y, rfl⟩ := zka_int e1 (by first | exact Or.inl rfl | exact Or.inr rfl)
  have h90 := zk_run e1
  have l0 := zq_len hI.2.2.2.2.2.1 hn
  have l1 := zq_len (M := M1) (h90.trans hI.2.2.2.2.2.1) hn
  rw [zp_rfE] at e2
  refine ⟨M2, e3, ?_⟩
  rw [ze_L_law_236]
  simp (disch := omega) only [↓zp_dn, ↓zp_hV, ↓zp_hI, ↓zp_hL, ↓zp_hR, ↓zp_hX, zp_eV, zp_eI, zp_eL, zp_eR, zp_eX, zp_eXl, zp_iV, zp_iI, zp_iL, zp_iR, ↓zp_sm, ↓zp_nls, ↓zp_nln, zp_bo0, zp_bo1, zp_okE, zp_ok2E, zp_rfE, ↓reduceIte, if_true, if_false, zp_leT, zp_leF, zp_ltT, zp_ltF, zp_eqT, zp_eqF, zp_leTl, zp_leFl, zp_ltTl, zp_ltFl, zp_leTr, zp_leFr, zp_ltTr, zp_ltFr, zp_eqTr, zp_eqFr, zp_eqTl, zp_eqFl, zp_eqFll, eq_self, zp_addl, zp_addr, zp_mull, zp_mulr, zp_subr, zp_subl, nI_add, pk_mul, l0, l1, h90, e1, e2]
theorem zl_269 (e : Nat) {n : Nat} {xs : Nat → Int32} {M : zi_M} (hI : zq_inv n xs M) (hn : n ≤ 384) {x : Nat} (hx : x + 6 ≤ n) : ∃ M', zq_inv n xs M' ∧ zi_run (e + 31) zm_L_law 269 [some (.inr (.inr (90, some 0))), some (.inr (.inr (9, some 0))), some (.inr (.inr (10, some 0))), some (.inl (nI x))] [] M = zi_run (e + 31) zm_L_law 1580 [some (.inr (.inr (90, some 0))), some (.inr (.inr (9, some 0))), some (.inr (.inr (10, some 0))), some (.inl (nI x))] [] M' := by
  have h : zp_ok (zi_run (e + 30) zm_X9_lay 0 [some (.inr (.inr (9, some 0))), some (.inl (M.1 90 0 (x + 1))), some (.inl (M.1 90 0 (x + 2))), some (.inl (M.1 90 0 (x + 3))), none] [] M) (zp_rf (e + 30) zm_X10_lay [some (.inr (.inr (10, some 0))), some (.inl (M.1 90 0 (x + 1))), some (.inl (M.1 90 0 (x + 2))), some (.inl (M.1 90 0 (x + 3))), none]) (zq_inv n xs) := zo_lay (e + 25) hI (M.1 90 0 (x + 1)) (M.1 90 0 (x + 2)) (M.1 90 0 (x + 3))
  obtain ⟨v, M1, M2, e1, e2, e3⟩ := h
  obtain ⟨y, rfl⟩ := zka_int e1 (by first | exact Or.inl rfl | exact Or.inr rfl)
  have h90 := zk_run e1
  have l0 := zq_len hI.2.2.2.2.2.1 hn
  have l1 := zq_len (M := M1) (h90.trans hI.2.2.2.2.2.1) hn
  rw [zp_rfE] at e2
  refine ⟨M2, e3, ?_⟩
  rw [ze_L_law_269]
  simp (disch := omega) only [↓zp_dn, ↓zp_hV, ↓zp_hI, ↓zp_hL, ↓zp_hR, ↓zp_hX, zp_eV, zp_eI, zp_eL, zp_eR, zp_eX, zp_eXl, zp_iV, zp_iI, zp_iL, zp_iR, ↓zp_sm, ↓zp_nls, ↓zp_nln, zp_bo0, zp_bo1, zp_okE, zp_ok2E, zp_rfE, ↓reduceIte, if_true, if_false, zp_leT, zp_leF, zp_ltT, zp_ltF, zp_eqT, zp_eqF, zp_leTl, zp_leFl, zp_ltTl, zp_ltFl, zp_leTr, zp_leFr, zp_ltTr, zp_ltFr, zp_eqTr, zp_eqFr, zp_eqTl, zp_eqFl, zp_eqFll, eq_self, zp_addl, zp_addr, zp_mull, zp_mulr, zp_subr, zp_subl, nI_add, pk_mul, l0, l1, h90, e1, e2]
theorem zl_312 (e : Nat) {n : Nat} {xs : Nat → Int32} {M : zi_M} (hI : zq_inv n xs M) (hn : n ≤ 384) {x : Nat} (hx : x + 6 ≤ n) : ∃ M', zq_inv n xs M' ∧ zi_run (e + 31) zm_L_law 312 [some (.inr (.inr (90, some 0))), some (.inr (.inr (9, some 0))), some (.inr (.inr (10, some 0))), some (.inl (nI x))] [] M = zi_run (e + 31) zm_L_law 1580 [some (.inr (.inr (90, some 0))), some (.inr (.inr (9, some 0))), some (.inr (.inr (10, some 0))), some (.inl (nI x))] [] M' := by
  have h : zp_ok (zi_run (e + 30) zm_X9_at 0 [some (.inr (.inr (9, some 0))), some (.inl (M.1 90 0 (x + 1))), some (.inl (M.1 90 0 (x + 2))), none] [] M) (zp_rf (e + 30) zm_X10_at [some (.inr (.inr (10, some 0))), some (.inl (M.1 90 0 (x + 1))), some (.inl (M.1 90 0 (x + 2)))]) (zq_inv n xs) := zo_at (e + 25) hI (M.1 90 0 (x + 1)) (M.1 90 0 (x + 2))
  obtain ⟨v, M1, M2, e1, e2, e3⟩ := h
  obtain ⟨y, rfl⟩ := zka_int e1 (by first | exact Or.inl rfl | exact Or.inr rfl)
  have h90 := zk_run e1
  have l0 := zq_len hI.2.2.2.2.2.1 hn
  have l1 := zq_len (M := M1) (h90.trans hI.2.2.2.2.2.1) hn
  rw [zp_rfE] at e2
  refine ⟨M2, e3, ?_⟩
  rw [ze_L_law_312]
  simp (disch := omega) only [↓zp_dn, ↓zp_hV, ↓zp_hI, ↓zp_hL, ↓zp_hR, ↓zp_hX, zp_eV, zp_eI, zp_eL, zp_eR, zp_eX, zp_eXl, zp_iV, zp_iI, zp_iL, zp_iR, ↓zp_sm, ↓zp_nls, ↓zp_nln, zp_bo0, zp_bo1, zp_okE, zp_ok2E, zp_rfE, ↓reduceIte, if_true, if_false, zp_leT, zp_leF, zp_ltT, zp_ltF, zp_eqT, zp_eqF, zp_leTl, zp_leFl, zp_ltTl, zp_ltFl, zp_leTr, zp_leFr, zp_ltTr, zp_ltFr, zp_eqTr, zp_eqFr, zp_eqTl, zp_eqFl, zp_eqFll, eq_self, zp_addl, zp_addr, zp_mull, zp_mulr, zp_subr, zp_subl, nI_add, pk_mul, l0, l1, h90, e1, e2]
theorem zl_345 (e : Nat) {n : Nat} {xs : Nat → Int32} {M : zi_M} (hI : zq_inv n xs M) (hn : n ≤ 384) {x : Nat} (hx : x + 6 ≤ n) : ∃ M', zq_inv n xs M' ∧ zi_run (e + 31) zm_L_law 345 [some (.inr (.inr (90, some 0))), some (.inr (.inr (9, some 0))), some (.inr (.inr (10, some 0))), some (.inl (nI x))] [] M = zi_run (e + 31) zm_L_law 1580 [some (.inr (.inr (90, some 0))), some (.inr (.inr (9, some 0))), some (.inr (.inr (10, some 0))), some (.inl (nI x))] [] M' := by
  have h : zp_ok (zi_run (e + 30) zm_X9_tear 0 [some (.inr (.inr (9, some 0))), some (.inl (M.1 90 0 (x + 1))), none] [] M) (zp_rf (e + 30) zm_X10_tear [some (.inr (.inr (10, some 0))), some (.inl (M.1 90 0 (x + 1)))]) (zq_inv n xs) := zo_tear (e + 25) hI (M.1 90 0 (x + 1))
  obtain ⟨v, M1, M2, e1, e2, e3⟩ := h
  obtain ⟨y, rfl⟩ := zka_int e1 (by first | exact Or.inl rfl | exact Or.inr rfl)
  have h90 := zk_run e1
  have l0 := zq_len hI.2.2.2.2.2.1 hn
  have l1 := zq_len (M := M1) (h90.trans hI.2.2.2.2.2.1) hn
  rw [zp_rfE] at e2
  refine ⟨M2, e3, ?_⟩
  rw [ze_L_law_345]
  simp (disch := omega) only [↓zp_dn, ↓zp_hV, ↓zp_hI, ↓zp_hL, ↓zp_hR, ↓zp_hX, zp_eV, zp_eI, zp_eL, zp_eR, zp_eX, zp_eXl, zp_iV, zp_iI, zp_iL, zp_iR, ↓zp_sm, ↓zp_nls, ↓zp_nln, zp_bo0, zp_bo1, zp_okE, zp_ok2E, zp_rfE, ↓reduceIte, if_true, if_false, zp_leT, zp_leF, zp_ltT, zp_ltF, zp_eqT, zp_eqF, zp_leTl, zp_leFl, zp_ltTl, zp_ltFl, zp_leTr, zp_leFr, zp_ltTr, zp_ltFr, zp_eqTr, zp_eqFr, zp_eqTl, zp_eqFl, zp_eqFll, eq_self, zp_addl, zp_addr, zp_mull, zp_mulr, zp_subr, zp_subl, nI_add, pk_mul, l0, l1, h90, e1, e2]
theorem zl_368 (e : Nat) {n : Nat} {xs : Nat → Int32} {M : zi_M} (hI : zq_inv n xs M) (hn : n ≤ 384) {x : Nat} (hx : x + 6 ≤ n) : ∃ M', zq_inv n xs M' ∧ zi_run (e + 31) zm_L_law 368 [some (.inr (.inr (90, some 0))), some (.inr (.inr (9, some 0))), some (.inr (.inr (10, some 0))), some (.inl (nI x))] [] M = zi_run (e + 31) zm_L_law 1580 [some (.inr (.inr (90, some 0))), some (.inr (.inr (9, some 0))), some (.inr (.inr (10, some 0))), some (.inl (nI x))] [] M' := by
  have h : zp_ok (zi_run (e + 30) zm_X9_copy 0 [some (.inr (.inr (9, some 0))), some (.inl (M.1 90 0 (x + 1))), some (.inl (M.1 90 0 (x + 2))), some (.inl (M.1 90 0 (x + 3))), some (.inl (M.1 90 0 (x + 4))), some (.inl (M.1 90 0 (x + 5))), none, none] [] M) (zp_rf (e + 30) zm_X10_copy [some (.inr (.inr (10, some 0))), some (.inl (M.1 90 0 (x + 1))), some (.inl (M.1 90 0 (x + 2))), some (.inl (M.1 90 0 (x + 3))), some (.inl (M.1 90 0 (x + 4))), some (.inl (M.1 90 0 (x + 5))), none]) (zq_inv n xs) := zo_copy (e + 25) hI (M.1 90 0 (x + 1)) (M.1 90 0 (x + 2)) (M.1 90 0 (x + 3)) (M.1 90 0 (x + 4)) (M.1 90 0 (x + 5))
  obtain ⟨v, M1, M2, e1, e2, e3⟩ := h
  obtain ⟨y, rfl⟩ := zka_int e1 (by first | exact Or.inl rfl | exact Or.inr rfl)
  have h90 := zk_run e1
  have l0 := zq_len hI.2.2.2.2.2.1 hn
  have l1 := zq_len (M := M1) (h90.trans hI.2.2.2.2.2.1) hn
  rw [zp_rfE] at e2
  refine ⟨M2, e3, ?_⟩
  rw [ze_L_law_368]
  simp (disch := omega) only [↓zp_dn, ↓zp_hV, ↓zp_hI, ↓zp_hL, ↓zp_hR, ↓zp_hX, zp_eV, zp_eI, zp_eL, zp_eR, zp_eX, zp_eXl, zp_iV, zp_iI, zp_iL, zp_iR, ↓zp_sm, ↓zp_nls, ↓zp_nln, zp_bo0, zp_bo1, zp_okE, zp_ok2E, zp_rfE, ↓reduceIte, if_true, if_false, zp_leT, zp_leF, zp_ltT, zp_ltF, zp_eqT, zp_eqF, zp_leTl, zp_leFl, zp_ltTl, zp_ltFl, zp_leTr, zp_leFr, zp_ltTr, zp_ltFr, zp_eqTr, zp_eqFr, zp_eqTl, zp_eqFl, zp_eqFll, eq_self, zp_addl, zp_addr, zp_mull, zp_mulr, zp_subr, zp_subl, nI_add, pk_mul, l0, l1, h90, e1, e2]
theorem zl_431 (e : Nat) {n : Nat} {xs : Nat → Int32} {M : zi_M} (hI : zq_inv n xs M) (hn : n ≤ 384) {x : Nat} (hx : x + 6 ≤ n) : ∃ M', zq_inv n xs M' ∧ zi_run (e + 31) zm_L_law 431 [some (.inr (.inr (90, some 0))), some (.inr (.inr (9, some 0))), some (.inr (.inr (10, some 0))), some (.inl (nI x))] [] M = zi_run (e + 31) zm_L_law 1580 [some (.inr (.inr (90, some 0))), some (.inr (.inr (9, some 0))), some (.inr (.inr (10, some 0))), some (.inl (nI x))] [] M' := by
  have h : zp_ok (zi_run (e + 30) zm_X9_mean 0 [some (.inr (.inr (9, some 0))), some (.inl (M.1 90 0 (x + 1))), none, none, none, none, none] [] M) (zp_rf (e + 30) zm_X10_mean [some (.inr (.inr (10, some 0))), some (.inl (M.1 90 0 (x + 1))), none, none, none]) (zq_inv n xs) := zo_mean (e + 25) hI (M.1 90 0 (x + 1))
  obtain ⟨v, M1, M2, e1, e2, e3⟩ := h
  obtain ⟨y, rfl⟩ := zka_int e1 (by first | exact Or.inl rfl | exact Or.inr rfl)
  have h90 := zk_run e1
  have l0 := zq_len hI.2.2.2.2.2.1 hn
  have l1 := zq_len (M := M1) (h90.trans hI.2.2.2.2.2.1) hn
  rw [zp_rfE] at e2
  refine ⟨M2, e3, ?_⟩
  rw [ze_L_law_431]
  simp (disch := omega) only [↓zp_dn, ↓zp_hV, ↓zp_hI, ↓zp_hL, ↓zp_hR, ↓zp_hX, zp_eV, zp_eI, zp_eL, zp_eR, zp_eX, zp_eXl, zp_iV, zp_iI, zp_iL, zp_iR, ↓zp_sm, ↓zp_nls, ↓zp_nln, zp_bo0, zp_bo1, zp_okE, zp_ok2E, zp_rfE, ↓reduceIte, if_true, if_false, zp_leT, zp_leF, zp_ltT, zp_ltF, zp_eqT, zp_eqF, zp_leTl, zp_leFl, zp_ltTl, zp_ltFl, zp_leTr, zp_leFr, zp_ltTr, zp_ltFr, zp_eqTr, zp_eqFr, zp_eqTl, zp_eqFl, zp_eqFll, eq_self, zp_addl, zp_addr, zp_mull, zp_mulr, zp_subr, zp_subl, nI_add, pk_mul, l0, l1, h90, e1, e2]
theorem zl_454 (e : Nat) {n : Nat} {xs : Nat → Int32} {M : zi_M} (hI : zq_inv n xs M) (hn : n ≤ 384) {x : Nat} (hx : x + 6 ≤ n) : ∃ M', zq_inv n xs M' ∧ zi_run (e + 31) zm_L_law 454 [some (.inr (.inr (90, some 0))), some (.inr (.inr (9, some 0))), some (.inr (.inr (10, some 0))), some (.inl (nI x))] [] M = zi_run (e + 31) zm_L_law 1580 [some (.inr (.inr (90, some 0))), some (.inr (.inr (9, some 0))), some (.inr (.inr (10, some 0))), some (.inl (nI x))] [] M' := by
  have h : zp_ok (zi_run (e + 30) zm_X9_text 0 [some (.inr (.inr (9, some 0))), some (.inl (M.1 90 0 (x + 1))), some (.inl (M.1 90 0 (x + 2)))] [] M) (zp_rf (e + 30) zm_X10_text [some (.inr (.inr (10, some 0))), some (.inl (M.1 90 0 (x + 1))), some (.inl (M.1 90 0 (x + 2))), none]) (zq_inv n xs) := zo_text (e + 25) hI (M.1 90 0 (x + 1)) (M.1 90 0 (x + 2))
  obtain ⟨v, M1, M2, e1, e2, e3⟩ := h
  obtain ⟨y, rfl⟩ := zka_int e1 (by first | exact Or.inl rfl | exact Or.inr rfl)
  have h90 := zk_run e1
  have l0 := zq_len hI.2.2.2.2.2.1 hn
  have l1 := zq_len (M := M1) (h90.trans hI.2.2.2.2.2.1) hn
  rw [zp_rfE] at e2
  refine ⟨M2, e3, ?_⟩
  rw [ze_L_law_454]
  simp (disch := omega) only [↓zp_dn, ↓zp_hV, ↓zp_hI, ↓zp_hL, ↓zp_hR, ↓zp_hX, zp_eV, zp_eI, zp_eL, zp_eR, zp_eX, zp_eXl, zp_iV, zp_iI, zp_iL, zp_iR, ↓zp_sm, ↓zp_nls, ↓zp_nln, zp_bo0, zp_bo1, zp_okE, zp_ok2E, zp_rfE, ↓reduceIte, if_true, if_false, zp_leT, zp_leF, zp_ltT, zp_ltF, zp_eqT, zp_eqF, zp_leTl, zp_leFl, zp_ltTl, zp_ltFl, zp_leTr, zp_leFr, zp_ltTr, zp_ltFr, zp_eqTr, zp_eqFr, zp_eqTl, zp_eqFl, zp_eqFll, eq_self, zp_addl, zp_addr, zp_mull, zp_mulr, zp_subr, zp_subl, nI_add, pk_mul, l0, l1, h90, e1, e2]
theorem zl_487 (e : Nat) {n : Nat} {xs : Nat → Int32} {M : zi_M} (hI : zq_inv n xs M) (hn : n ≤ 384) {x : Nat} (hx : x + 6 ≤ n) : ∃ M', zq_inv n xs M' ∧ zi_run (e + 31) zm_L_law 487 [some (.inr (.inr (90, some 0))), some (.inr (.inr (9, some 0))), some (.inr (.inr (10, some 0))), some (.inl (nI x))] [] M = zi_run (e + 31) zm_L_law 1580 [some (.inr (.inr (90, some 0))), some (.inr (.inr (9, some 0))), some (.inr (.inr (10, some 0))), some (.inl (nI x))] [] M' := by
  have h : zp_ok (zi_run (e + 30) zm_X9_put 0 [some (.inr (.inr (9, some 0))), some (.inl (M.1 90 0 (x + 1))), some (.inl (M.1 90 0 (x + 2))), some (.inl (M.1 90 0 (x + 3))), none, none] [] M) (zp_rf (e + 30) zm_X10_put [some (.inr (.inr (10, some 0))), some (.inl (M.1 90 0 (x + 1))), some (.inl (M.1 90 0 (x + 2))), some (.inl (M.1 90 0 (x + 3))), none]) (zq_inv n xs) := zo_put (e + 25) hI (M.1 90 0 (x + 1)) (M.1 90 0 (x + 2)) (M.1 90 0 (x + 3))
  obtain ⟨v, M1, M2, e1, e2, e3⟩ := h
  obtain ⟨y, rfl⟩ := zka_int e1 (by first | exact Or.inl rfl | exact Or.inr rfl)
  have h90 := zk_run e1
  have l0 := zq_len hI.2.2.2.2.2.1 hn
  have l1 := zq_len (M := M1) (h90.trans hI.2.2.2.2.2.1) hn
  rw [zp_rfE] at e2
  refine ⟨M2, e3, ?_⟩
  rw [ze_L_law_487]
  simp (disch := omega) only [↓zp_dn, ↓zp_hV, ↓zp_hI, ↓zp_hL, ↓zp_hR, ↓zp_hX, zp_eV, zp_eI, zp_eL, zp_eR, zp_eX, zp_eXl, zp_iV, zp_iI, zp_iL, zp_iR, ↓zp_sm, ↓zp_nls, ↓zp_nln, zp_bo0, zp_bo1, zp_okE, zp_ok2E, zp_rfE, ↓reduceIte, if_true, if_false, zp_leT, zp_leF, zp_ltT, zp_ltF, zp_eqT, zp_eqF, zp_leTl, zp_leFl, zp_ltTl, zp_ltFl, zp_leTr, zp_leFr, zp_ltTr, zp_ltFr, zp_eqTr, zp_eqFr, zp_eqTl, zp_eqFl, zp_eqFll, eq_self, zp_addl, zp_addr, zp_mull, zp_mulr, zp_subr, zp_subl, nI_add, pk_mul, l0, l1, h90, e1, e2]
theorem zl_530 (e : Nat) {n : Nat} {xs : Nat → Int32} {M : zi_M} (hI : zq_inv n xs M) (hn : n ≤ 384) {x : Nat} (hx : x + 6 ≤ n) : ∃ M', zq_inv n xs M' ∧ zi_run (e + 31) zm_L_law 530 [some (.inr (.inr (90, some 0))), some (.inr (.inr (9, some 0))), some (.inr (.inr (10, some 0))), some (.inl (nI x))] [] M = zi_run (e + 31) zm_L_law 1580 [some (.inr (.inr (90, some 0))), some (.inr (.inr (9, some 0))), some (.inr (.inr (10, some 0))), some (.inl (nI x))] [] M' := by
  have h : zp_ok (zi_run (e + 30) zm_X9_fault 0 [some (.inr (.inr (9, some 0))), some (.inl (M.1 90 0 (x + 1))), none] [] M) (zp_rf (e + 30) zm_X10_fault [some (.inr (.inr (10, some 0))), some (.inl (M.1 90 0 (x + 1)))]) (zq_inv n xs) := zo_fault (e + 22) hI (M.1 90 0 (x + 1))
  obtain ⟨v, M1, M2, e1, e2, e3⟩ := h
  obtain ⟨y, rfl⟩ := zka_int e1 (by first | exact Or.inl rfl | exact Or.inr rfl)
  have h90 := zk_run e1
  have l0 := zq_len hI.2.2.2.2.2.1 hn
  have l1 := zq_len (M := M1) (h90.trans hI.2.2.2.2.2.1) hn
  rw [zp_rfE] at e2
  refine ⟨M2, e3, ?_⟩
  rw [ze_L_law_530]
  simp (disch := omega) only [↓zp_dn, ↓zp_hV, ↓zp_hI, ↓zp_hL, ↓zp_hR, ↓zp_hX, zp_eV, zp_eI, zp_eL, zp_eR, zp_eX, zp_eXl, zp_iV, zp_iI, zp_iL, zp_iR, ↓zp_sm, ↓zp_nls, ↓zp_nln, zp_bo0, zp_bo1, zp_okE, zp_ok2E, zp_rfE, ↓reduceIte, if_true, if_false, zp_leT, zp_leF, zp_ltT, zp_ltF, zp_eqT, zp_eqF, zp_leTl, zp_leFl, zp_ltTl, zp_ltFl, zp_leTr, zp_leFr, zp_ltTr, zp_ltFr, zp_eqTr, zp_eqFr, zp_eqTl, zp_eqFl, zp_eqFll, eq_self, zp_addl, zp_addr, zp_mull, zp_mulr, zp_subr, zp_subl, nI_add, pk_mul, l0, l1, h90, e1, e2]
theorem zl_553 (e : Nat) {n : Nat} {xs : Nat → Int32} {M : zi_M} (hI : zq_inv n xs M) (hn : n ≤ 384) {x : Nat} (hx : x + 6 ≤ n) : ∃ M', zq_inv n xs M' ∧ zi_run (e + 31) zm_L_law 553 [some (.inr (.inr (90, some 0))), some (.inr (.inr (9, some 0))), some (.inr (.inr (10, some 0))), some (.inl (nI x))] [] M = zi_run (e + 31) zm_L_law 1580 [some (.inr (.inr (90, some 0))), some (.inr (.inr (9, some 0))), some (.inr (.inr (10, some 0))), some (.inl (nI x))] [] M' := by
  have h : zp_ok (zi_run (e + 30) zm_X9_sky 0 [some (.inr (.inr (9, some 0))), some (.inl (M.1 90 0 (x + 1))), none, none] [] M) (zp_rf (e + 30) zm_X10_sky [some (.inr (.inr (10, some 0))), some (.inl (M.1 90 0 (x + 1))), none]) (zq_inv n xs) := zo_sky (e + 22) hI (M.1 90 0 (x + 1))
  obtain ⟨v, M1, M2, e1, e2, e3⟩ := h
  obtain ⟨y, rfl⟩ := zka_int e1 (by first | exact Or.inl rfl | exact Or.inr rfl)
  have h90 := zk_run e1
  have l0 := zq_len hI.2.2.2.2.2.1 hn
  have l1 := zq_len (M := M1) (h90.trans hI.2.2.2.2.2.1) hn
  rw [zp_rfE] at e2
  refine ⟨M2, e3, ?_⟩
  rw [ze_L_law_553]
  simp (disch := omega) only [↓zp_dn, ↓zp_hV, ↓zp_hI, ↓zp_hL, ↓zp_hR, ↓zp_hX, zp_eV, zp_eI, zp_eL, zp_eR, zp_eX, zp_eXl, zp_iV, zp_iI, zp_iL, zp_iR, ↓zp_sm, ↓zp_nls, ↓zp_nln, zp_bo0, zp_bo1, zp_okE, zp_ok2E, zp_rfE, ↓reduceIte, if_true, if_false, zp_leT, zp_leF, zp_ltT, zp_ltF, zp_eqT, zp_eqF, zp_leTl, zp_leFl, zp_ltTl, zp_ltFl, zp_leTr, zp_leFr, zp_ltTr, zp_ltFr, zp_eqTr, zp_eqFr, zp_eqTl, zp_eqFl, zp_eqFll, eq_self, zp_addl, zp_addr, zp_mull, zp_mulr, zp_subr, zp_subl, nI_add, pk_mul, l0, l1, h90, e1, e2]
theorem zl_576 (e : Nat) {n : Nat} {xs : Nat → Int32} {M : zi_M} (hI : zq_inv n xs M) (hn : n ≤ 384) {x : Nat} (hx : x + 6 ≤ n) : ∃ M', zq_inv n xs M' ∧ zi_run (e + 31) zm_L_law 576 [some (.inr (.inr (90, some 0))), some (.inr (.inr (9, some 0))), some (.inr (.inr (10, some 0))), some (.inl (nI x))] [] M = zi_run (e + 31) zm_L_law 1580 [some (.inr (.inr (90, some 0))), some (.inr (.inr (9, some 0))), some (.inr (.inr (10, some 0))), some (.inl (nI x))] [] M' := by
  have h : zp_ok (zi_run (e + 30) zm_X9_flyer 0 [some (.inr (.inr (9, some 0))), some (.inl (M.1 90 0 (x + 1))), some (.inl (M.1 90 0 (x + 2))), none] [] M) (zp_rf (e + 30) zm_X10_flyer [some (.inr (.inr (10, some 0))), some (.inl (M.1 90 0 (x + 1))), some (.inl (M.1 90 0 (x + 2)))]) (zq_inv n xs) := zo_flyer (e + 25) hI (M.1 90 0 (x + 1)) (M.1 90 0 (x + 2))
  obtain ⟨v, M1, M2, e1, e2, e3⟩ := h
  obtain ⟨y, rfl⟩ := zka_int e1 (by first | exact Or.inl rfl | exact Or.inr rfl)
  have h90 := zk_run e1
  have l0 := zq_len hI.2.2.2.2.2.1 hn
  have l1 := zq_len (M := M1) (h90.trans hI.2.2.2.2.2.1) hn
  rw [zp_rfE] at e2
  refine ⟨M2, e3, ?_⟩
  rw [ze_L_law_576]
  simp (disch := omega) only [↓zp_dn, ↓zp_hV, ↓zp_hI, ↓zp_hL, ↓zp_hR, ↓zp_hX, zp_eV, zp_eI, zp_eL, zp_eR, zp_eX, zp_eXl, zp_iV, zp_iI, zp_iL, zp_iR, ↓zp_sm, ↓zp_nls, ↓zp_nln, zp_bo0, zp_bo1, zp_okE, zp_ok2E, zp_rfE, ↓reduceIte, if_true, if_false, zp_leT, zp_leF, zp_ltT, zp_ltF, zp_eqT, zp_eqF, zp_leTl, zp_leFl, zp_ltTl, zp_ltFl, zp_leTr, zp_leFr, zp_ltTr, zp_ltFr, zp_eqTr, zp_eqFr, zp_eqTl, zp_eqFl, zp_eqFll, eq_self, zp_addl, zp_addr, zp_mull, zp_mulr, zp_subr, zp_subl, nI_add, pk_mul, l0, l1, h90, e1, e2]
theorem zl_609 (e : Nat) {n : Nat} {xs : Nat → Int32} {M : zi_M} (hI : zq_inv n xs M) (hn : n ≤ 384) {x : Nat} (hx : x + 6 ≤ n) : ∃ M', zq_inv n xs M' ∧ zi_run (e + 31) zm_L_law 609 [some (.inr (.inr (90, some 0))), some (.inr (.inr (9, some 0))), some (.inr (.inr (10, some 0))), some (.inl (nI x))] [] M = zi_run (e + 31) zm_L_law 1580 [some (.inr (.inr (90, some 0))), some (.inr (.inr (9, some 0))), some (.inr (.inr (10, some 0))), some (.inl (nI x))] [] M' := by
  have h : zp_ok (zi_run (e + 30) zm_X9_mark 0 [some (.inr (.inr (9, some 0))), some (.inl (M.1 90 0 (x + 1))), some (.inl (M.1 90 0 (x + 2))), none] [] M) (zp_rf (e + 30) zm_X10_mark [some (.inr (.inr (10, some 0))), some (.inl (M.1 90 0 (x + 1))), some (.inl (M.1 90 0 (x + 2))), none, none, none]) (zq_inv n xs) := zo_mark (e + 25) hI (M.1 90 0 (x + 1)) (M.1 90 0 (x + 2))
  obtain ⟨v, M1, M2, e1, e2, e3⟩ := h
  obtain ⟨y, rfl⟩ := zka_int e1 (by first | exact Or.inl rfl | exact Or.inr rfl)
  have h90 := zk_run e1
  have l0 := zq_len hI.2.2.2.2.2.1 hn
  have l1 := zq_len (M := M1) (h90.trans hI.2.2.2.2.2.1) hn
  rw [zp_rfE] at e2
  refine ⟨M2, e3, ?_⟩
  rw [ze_L_law_609]
  simp (disch := omega) only [↓zp_dn, ↓zp_hV, ↓zp_hI, ↓zp_hL, ↓zp_hR, ↓zp_hX, zp_eV, zp_eI, zp_eL, zp_eR, zp_eX, zp_eXl, zp_iV, zp_iI, zp_iL, zp_iR, ↓zp_sm, ↓zp_nls, ↓zp_nln, zp_bo0, zp_bo1, zp_okE, zp_ok2E, zp_rfE, ↓reduceIte, if_true, if_false, zp_leT, zp_leF, zp_ltT, zp_ltF, zp_eqT, zp_eqF, zp_leTl, zp_leFl, zp_ltTl, zp_ltFl, zp_leTr, zp_leFr, zp_ltTr, zp_ltFr, zp_eqTr, zp_eqFr, zp_eqTl, zp_eqFl, zp_eqFll, eq_self, zp_addl, zp_addr, zp_mull, zp_mulr, zp_subr, zp_subl, nI_add, pk_mul, l0, l1, h90, e1, e2]
theorem zl_642 (e : Nat) {n : Nat} {xs : Nat → Int32} {M : zi_M} (hI : zq_inv n xs M) (hn : n ≤ 384) {x : Nat} (hx : x + 6 ≤ n) : ∃ M', zq_inv n xs M' ∧ zi_run (e + 31) zm_L_law 642 [some (.inr (.inr (90, some 0))), some (.inr (.inr (9, some 0))), some (.inr (.inr (10, some 0))), some (.inl (nI x))] [] M = zi_run (e + 31) zm_L_law 1580 [some (.inr (.inr (90, some 0))), some (.inr (.inr (9, some 0))), some (.inr (.inr (10, some 0))), some (.inl (nI x))] [] M' := by
  have h : zp_ok (zi_run (e + 30) zm_X9_air 0 [some (.inr (.inr (9, some 0))), some (.inl (M.1 90 0 (x + 1))), some (.inl (M.1 90 0 (x + 2)))] [] M) (zp_rf (e + 30) zm_X10_air [some (.inr (.inr (10, some 0))), some (.inl (M.1 90 0 (x + 1))), some (.inl (M.1 90 0 (x + 2)))]) (zq_inv n xs) := zo_air (e + 25) hI (M.1 90 0 (x + 1)) (M.1 90 0 (x + 2))
  obtain ⟨v, M1, M2, e1, e2, e3⟩ := h
  obtain ⟨y, rfl⟩ := zka_int e1 (by first | exact Or.inl rfl | exact Or.inr rfl)
  have h90 := zk_run e1
  have l0 := zq_len hI.2.2.2.2.2.1 hn
  have l1 := zq_len (M := M1) (h90.trans hI.2.2.2.2.2.1) hn
  rw [zp_rfE] at e2
  refine ⟨M2, e3, ?_⟩
  rw [ze_L_law_642]
  simp (disch := omega) only [↓zp_dn, ↓zp_hV, ↓zp_hI, ↓zp_hL, ↓zp_hR, ↓zp_hX, zp_eV, zp_eI, zp_eL, zp_eR, zp_eX, zp_eXl, zp_iV, zp_iI, zp_iL, zp_iR, ↓zp_sm, ↓zp_nls, ↓zp_nln, zp_bo0, zp_bo1, zp_okE, zp_ok2E, zp_rfE, ↓reduceIte, if_true, if_false, zp_leT, zp_leF, zp_ltT, zp_ltF, zp_eqT, zp_eqF, zp_leTl, zp_leFl, zp_ltTl, zp_ltFl, zp_leTr, zp_leFr, zp_ltTr, zp_ltFr, zp_eqTr, zp_eqFr, zp_eqTl, zp_eqFl, zp_eqFll, eq_self, zp_addl, zp_addr, zp_mull, zp_mulr, zp_subr, zp_subl, nI_add, pk_mul, l0, l1, h90, e1, e2]
theorem zl_675 (e : Nat) {n : Nat} {xs : Nat → Int32} {M : zi_M} (hI : zq_inv n xs M) (hn : n ≤ 384) {x : Nat} (hx : x + 6 ≤ n) : ∃ M', zq_inv n xs M' ∧ zi_run (e + 31) zm_L_law 675 [some (.inr (.inr (90, some 0))), some (.inr (.inr (9, some 0))), some (.inr (.inr (10, some 0))), some (.inl (nI x))] [] M = zi_run (e + 31) zm_L_law 1580 [some (.inr (.inr (90, some 0))), some (.inr (.inr (9, some 0))), some (.inr (.inr (10, some 0))), some (.inl (nI x))] [] M' := by
  have h : zp_ok (zi_run (e + 30) zm_X9_sun 0 [some (.inr (.inr (9, some 0))), some (.inl (M.1 90 0 (x + 1))), none] [] M) (zp_rf (e + 30) zm_X10_sun [some (.inr (.inr (10, some 0))), some (.inl (M.1 90 0 (x + 1))), none]) (zq_inv n xs) := zo_sun (e + 25) hI (M.1 90 0 (x + 1))
  obtain ⟨v, M1, M2, e1, e2, e3⟩ := h
  obtain ⟨y, rfl⟩ := zka_int e1 (by first | exact Or.inl rfl | exact Or.inr rfl)
  have h90 := zk_run e1
  have l0 := zq_len hI.2.2.2.2.2.1 hn
  have l1 := zq_len (M := M1) (h90.trans hI.2.2.2.2.2.1) hn
  rw [zp_rfE] at e2
  refine ⟨M2, e3, ?_⟩
  rw [ze_L_law_675]
  simp (disch := omega) only [↓zp_dn, ↓zp_hV, ↓zp_hI, ↓zp_hL, ↓zp_hR, ↓zp_hX, zp_eV, zp_eI, zp_eL, zp_eR, zp_eX, zp_eXl, zp_iV, zp_iI, zp_iL, zp_iR, ↓zp_sm, ↓zp_nls, ↓zp_nln, zp_bo0, zp_bo1, zp_okE, zp_ok2E, zp_rfE, ↓reduceIte, if_true, if_false, zp_leT, zp_leF, zp_ltT, zp_ltF, zp_eqT, zp_eqF, zp_leTl, zp_leFl, zp_ltTl, zp_ltFl, zp_leTr, zp_leFr, zp_ltTr, zp_ltFr, zp_eqTr, zp_eqFr, zp_eqTl, zp_eqFl, zp_eqFll, eq_self, zp_addl, zp_addr, zp_mull, zp_mulr, zp_subr, zp_subl, nI_add, pk_mul, l0, l1, h90, e1, e2]
theorem zl_698 (e : Nat) {n : Nat} {xs : Nat → Int32} {M : zi_M} (hI : zq_inv n xs M) (hn : n ≤ 384) {x : Nat} (hx : x + 6 ≤ n) : ∃ M', zq_inv n xs M' ∧ zi_run (e + 31) zm_L_law 698 [some (.inr (.inr (90, some 0))), some (.inr (.inr (9, some 0))), some (.inr (.inr (10, some 0))), some (.inl (nI x))] [] M = zi_run (e + 31) zm_L_law 1580 [some (.inr (.inr (90, some 0))), some (.inr (.inr (9, some 0))), some (.inr (.inr (10, some 0))), some (.inl (nI x))] [] M' := by
  have h : zp_ok (zi_run (e + 30) zm_X9_letters 0 [some (.inr (.inr (9, some 0))), some (.inl (M.1 90 0 (x + 1))), some (.inl (M.1 90 0 (x + 2))), none, none] [] M) (zp_rf (e + 30) zm_X10_letters [some (.inr (.inr (10, some 0))), some (.inl (M.1 90 0 (x + 1))), some (.inl (M.1 90 0 (x + 2))), none]) (zq_inv n xs) := zo_letters (e + 25) hI (M.1 90 0 (x + 1)) (M.1 90 0 (x + 2))
  obtain ⟨v, M1, M2, e1, e2, e3⟩ := h
  obtain ⟨y, rfl⟩ := zka_int e1 (by first | exact Or.inl rfl | exact Or.inr rfl)
  have h90 := zk_run e1
  have l0 := zq_len hI.2.2.2.2.2.1 hn
  have l1 := zq_len (M := M1) (h90.trans hI.2.2.2.2.2.1) hn
  rw [zp_rfE] at e2
  refine ⟨M2, e3, ?_⟩
  rw [ze_L_law_698]
  simp (disch := omega) only [↓zp_dn, ↓zp_hV, ↓zp_hI, ↓zp_hL, ↓zp_hR, ↓zp_hX, zp_eV, zp_eI, zp_eL, zp_eR, zp_eX, zp_eXl, zp_iV, zp_iI, zp_iL, zp_iR, ↓zp_sm, ↓zp_nls, ↓zp_nln, zp_bo0, zp_bo1, zp_okE, zp_ok2E, zp_rfE, ↓reduceIte, if_true, if_false, zp_leT, zp_leF, zp_ltT, zp_ltF, zp_eqT, zp_eqF, zp_leTl, zp_leFl, zp_ltTl, zp_ltFl, zp_leTr, zp_leFr, zp_ltTr, zp_ltFr, zp_eqTr, zp_eqFr, zp_eqTl, zp_eqFl, zp_eqFll, eq_self, zp_addl, zp_addr, zp_mull, zp_mulr, zp_subr, zp_subl, nI_add, pk_mul, l0, l1, h90, e1, e2]
theorem zl_731 (e : Nat) {n : Nat} {xs : Nat → Int32} {M : zi_M} (hI : zq_inv n xs M) (hn : n ≤ 384) {x : Nat} (hx : x + 6 ≤ n) : ∃ M', zq_inv n xs M' ∧ zi_run (e + 31) zm_L_law 731 [some (.inr (.inr (90, some 0))), some (.inr (.inr (9, some 0))), some (.inr (.inr (10, some 0))), some (.inl (nI x))] [] M = zi_run (e + 31) zm_L_law 1580 [some (.inr (.inr (90, some 0))), some (.inr (.inr (9, some 0))), some (.inr (.inr (10, some 0))), some (.inl (nI x))] [] M' := by
  have h : zp_ok (zi_run (e + 30) zm_X9_beat 0 [some (.inr (.inr (9, some 0))), some (.inl (M.1 90 0 (x + 1))), some (.inl (M.1 90 0 (x + 2))), none] [] M) (zp_rf (e + 30) zm_X10_beat [some (.inr (.inr (10, some 0))), some (.inl (M.1 90 0 (x + 1))), some (.inl (M.1 90 0 (x + 2)))]) (zq_inv n xs) := zo_beat (e + 25) hI (M.1 90 0 (x + 1)) (M.1 90 0 (x + 2))
  obtain ⟨v, M1, M2, e1, e2, e3⟩ := h
  obtain ⟨y, rfl⟩ := zka_int e1 (by first | exact Or.inl rfl | exact Or.inr rfl)
  have h90 := zk_run e1
  have l0 := zq_len hI.2.2.2.2.2.1 hn
  have l1 := zq_len (M := M1) (h90.trans hI.2.2.2.2.2.1) hn
  rw [zp_rfE] at e2
  refine ⟨M2, e3, ?_⟩
  rw [ze_L_law_731]
  simp (disch := omega) only [↓zp_dn, ↓zp_hV, ↓zp_hI, ↓zp_hL, ↓zp_hR, ↓zp_hX, zp_eV, zp_eI, zp_eL, zp_eR, zp_eX, zp_eXl, zp_iV, zp_iI, zp_iL, zp_iR, ↓zp_sm, ↓zp_nls, ↓zp_nln, zp_bo0, zp_bo1, zp_okE, zp_ok2E, zp_rfE, ↓reduceIte, if_true, if_false, zp_leT, zp_leF, zp_ltT, zp_ltF, zp_eqT, zp_eqF, zp_leTl, zp_leFl, zp_ltTl, zp_ltFl, zp_leTr, zp_leFr, zp_ltTr, zp_ltFr, zp_eqTr, zp_eqFr, zp_eqTl, zp_eqFl, zp_eqFll, eq_self, zp_addl, zp_addr, zp_mull, zp_mulr, zp_subr, zp_subl, nI_add, pk_mul, l0, l1, h90, e1, e2]
theorem zl_764 (e : Nat) {n : Nat} {xs : Nat → Int32} {M : zi_M} (hI : zq_inv n xs M) (hn : n ≤ 384) {x : Nat} (hx : x + 6 ≤ n) : ∃ M', zq_inv n xs M' ∧ zi_run (e + 31) zm_L_law 764 [some (.inr (.inr (90, some 0))), some (.inr (.inr (9, some 0))), some (.inr (.inr (10, some 0))), some (.inl (nI x))] [] M = zi_run (e + 31) zm_L_law 1580 [some (.inr (.inr (90, some 0))), some (.inr (.inr (9, some 0))), some (.inr (.inr (10, some 0))), some (.inl (nI x))] [] M' := by
  have h : zp_ok (zi_run (e + 30) zm_X9_undo 0 [some (.inr (.inr (9, some 0))), some (.inl (M.1 90 0 (x + 1)))] [] M) (zp_rf (e + 30) zm_X10_undo [some (.inr (.inr (10, some 0))), some (.inl (M.1 90 0 (x + 1))), none, none]) (zq_inv n xs) := zo_undo (e + 25) hI (M.1 90 0 (x + 1))
  obtain ⟨v, M1, M2, e1, e2, e3⟩ := h
  obtain ⟨y, rfl⟩ := zka_int e1 (by first | exact Or.inl rfl | exact Or.inr rfl)
  have h90 := zk_run e1
  have l0 := zq_len hI.2.2.2.2.2.1 hn
  have l1 := zq_len (M := M1) (h90.trans hI.2.2.2.2.2.1) hn
  rw [zp_rfE] at e2
  refine ⟨M2, e3, ?_⟩
  rw [ze_L_law_764]
  simp (disch := omega) only [↓zp_dn, ↓zp_hV, ↓zp_hI, ↓zp_hL, ↓zp_hR, ↓zp_hX, zp_eV, zp_eI, zp_eL, zp_eR, zp_eX, zp_eXl, zp_iV, zp_iI, zp_iL, zp_iR, ↓zp_sm, ↓zp_nls, ↓zp_nln, zp_bo0, zp_bo1, zp_okE, zp_ok2E, zp_rfE, ↓reduceIte, if_true, if_false, zp_leT, zp_leF, zp_ltT, zp_ltF, zp_eqT, zp_eqF, zp_leTl, zp_leFl, zp_ltTl, zp_ltFl, zp_leTr, zp_leFr, zp_ltTr, zp_ltFr, zp_eqTr, zp_eqFr, zp_eqTl, zp_eqFl, zp_eqFll, eq_self, zp_addl, zp_addr, zp_mull, zp_mulr, zp_subr, zp_subl, nI_add, pk_mul, l0, l1, h90, e1, e2]
theorem zl_787 (e : Nat) {n : Nat} {xs : Nat → Int32} {M : zi_M} (hI : zq_inv n xs M) (hn : n ≤ 384) {x : Nat} (hx : x + 6 ≤ n) : ∃ M', zq_inv n xs M' ∧ zi_run (e + 31) zm_L_law 787 [some (.inr (.inr (90, some 0))), some (.inr (.inr (9, some 0))), some (.inr (.inr (10, some 0))), some (.inl (nI x))] [] M = zi_run (e + 31) zm_L_law 1580 [some (.inr (.inr (90, some 0))), some (.inr (.inr (9, some 0))), some (.inr (.inr (10, some 0))), some (.inl (nI x))] [] M' := by
  have h : zp_ok (zi_run (e + 30) zm_X9_over 0 [some (.inr (.inr (9, some 0))), none, none, none, none] [] M) (zp_rf (e + 30) zm_X10_over [some (.inr (.inr (10, some 0))), none, none, none]) (zq_inv n xs) := zo_over (e + 25) hI
  obtain ⟨v, M1, M2, e1, e2, e3⟩ := h
  obtain ⟨y, rfl⟩ := zka_int e1 (by first | exact Or.inl rfl | exact Or.inr rfl)
  have h90 := zk_run e1
  have l0 := zq_len hI.2.2.2.2.2.1 hn
  have l1 := zq_len (M := M1) (h90.trans hI.2.2.2.2.2.1) hn
  rw [zp_rfE] at e2
  refine ⟨M2, e3, ?_⟩
  rw [ze_L_law_787]
  simp (disch := omega) only [↓zp_dn, ↓zp_hV, ↓zp_hI, ↓zp_hL, ↓zp_hR, ↓zp_hX, zp_eV, zp_eI, zp_eL, zp_eR, zp_eX, zp_eXl, zp_iV, zp_iI, zp_iL, zp_iR, ↓zp_sm, ↓zp_nls, ↓zp_nln, zp_bo0, zp_bo1, zp_okE, zp_ok2E, zp_rfE, ↓reduceIte, if_true, if_false, zp_leT, zp_leF, zp_ltT, zp_ltF, zp_eqT, zp_eqF, zp_leTl, zp_leFl, zp_ltTl, zp_ltFl, zp_leTr, zp_leFr, zp_ltTr, zp_ltFr, zp_eqTr, zp_eqFr, zp_eqTl, zp_eqFl, zp_eqFll, eq_self, zp_addl, zp_addr, zp_mull, zp_mulr, zp_subr, zp_subl, nI_add, pk_mul, l0, l1, h90, e1, e2]
theorem zl_800 (e : Nat) {n : Nat} {xs : Nat → Int32} {M : zi_M} (hI : zq_inv n xs M) (hn : n ≤ 384) {x : Nat} (hx : x + 6 ≤ n) : ∃ M', zq_inv n xs M' ∧ zi_run (e + 31) zm_L_law 800 [some (.inr (.inr (90, some 0))), some (.inr (.inr (9, some 0))), some (.inr (.inr (10, some 0))), some (.inl (nI x))] [] M = zi_run (e + 31) zm_L_law 1580 [some (.inr (.inr (90, some 0))), some (.inr (.inr (9, some 0))), some (.inr (.inr (10, some 0))), some (.inl (nI x))] [] M' := by
  have h : zp_ok (zi_run (e + 30) zm_X9_can 0 [some (.inr (.inr (9, some 0))), some (.inl (M.1 90 0 (x + 1))), none, none, none] [] M) (zp_rf (e + 30) zm_X10_can [some (.inr (.inr (10, some 0))), some (.inl (M.1 90 0 (x + 1))), none, none, none]) (zq_inv n xs) := zo_can (e + 25) hI (M.1 90 0 (x + 1))
  obtain ⟨v, M1, M2, e1, e2, e3⟩ := h
  obtain ⟨y, rfl⟩ := zka_int e1 (by first | exact Or.inl rfl | exact Or.inr rfl)
  have h90 := zk_run e1
  have l0 := zq_len hI.2.2.2.2.2.1 hn
  have l1 := zq_len (M := M1) (h90.trans hI.2.2.2.2.2.1) hn
  rw [zp_rfE] at e2
  refine ⟨M2, e3, ?_⟩
  rw [ze_L_law_800]
  simp (disch := omega) only [↓zp_dn, ↓zp_hV, ↓zp_hI, ↓zp_hL, ↓zp_hR, ↓zp_hX, zp_eV, zp_eI, zp_eL, zp_eR, zp_eX, zp_eXl, zp_iV, zp_iI, zp_iL, zp_iR, ↓zp_sm, ↓zp_nls, ↓zp_nln, zp_bo0, zp_bo1, zp_okE, zp_ok2E, zp_rfE, ↓reduceIte, if_true, if_false, zp_leT, zp_leF, zp_ltT, zp_ltF, zp_eqT, zp_eqF, zp_leTl, zp_leFl, zp_ltTl, zp_ltFl, zp_leTr, zp_leFr, zp_ltTr, zp_ltFr, zp_eqTr, zp_eqFr, zp_eqTl, zp_eqFl, zp_eqFll, eq_self, zp_addl, zp_addr, zp_mull, zp_mulr, zp_subr, zp_subl, nI_add, pk_mul, l0, l1, h90, e1, e2]
theorem zl_823 (e : Nat) {n : Nat} {xs : Nat → Int32} {M : zi_M} (hI : zq_inv n xs M) (hn : n ≤ 384) {x : Nat} (hx : x + 6 ≤ n) : ∃ M', zq_inv n xs M' ∧ zi_run (e + 31) zm_L_law 823 [some (.inr (.inr (90, some 0))), some (.inr (.inr (9, some 0))), some (.inr (.inr (10, some 0))), some (.inl (nI x))] [] M = zi_run (e + 31) zm_L_law 1580 [some (.inr (.inr (90, some 0))), some (.inr (.inr (9, some 0))), some (.inr (.inr (10, some 0))), some (.inl (nI x))] [] M' := by
  have h : zp_ok (zi_run (e + 30) zm_X9_keep 0 [some (.inr (.inr (9, some 0))), some (.inl (M.1 90 0 (x + 1)))] [] M) (zp_rf (e + 30) zm_X10_keep [some (.inr (.inr (10, some 0))), some (.inl (M.1 90 0 (x + 1))), none]) (zq_inv n xs) := zo_keep (e + 25) hI (M.1 90 0 (x + 1))
  obtain ⟨v, M1, M2, e1, e2, e3⟩ := h
  obtain ⟨y, rfl⟩ := zka_int e1 (by first | exact Or.inl rfl | exact Or.inr rfl)
  have h90 := zk_run e1
  have l0 := zq_len hI.2.2.2.2.2.1 hn
  have l1 := zq_len (M := M1) (h90.trans hI.2.2.2.2.2.1) hn
  rw [zp_rfE] at e2
  refine ⟨M2, e3, ?_⟩
  rw [ze_L_law_823]
  simp (disch := omega) only [↓zp_dn, ↓zp_hV, ↓zp_hI, ↓zp_hL, ↓zp_hR, ↓zp_hX, zp_eV, zp_eI, zp_eL, zp_eR, zp_eX, zp_eXl, zp_iV, zp_iI, zp_iL, zp_iR, ↓zp_sm, ↓zp_nls, ↓zp_nln, zp_bo0, zp_bo1, zp_okE, zp_ok2E, zp_rfE, ↓reduceIte, if_true, if_false, zp_leT, zp_leF, zp_ltT, zp_ltF, zp_eqT, zp_eqF, zp_leTl, zp_leFl, zp_ltTl, zp_ltFl, zp_leTr, zp_leFr, zp_ltTr, zp_ltFr, zp_eqTr, zp_eqFr, zp_eqTl, zp_eqFl, zp_eqFll, eq_self, zp_addl, zp_addr, zp_mull, zp_mulr, zp_subr, zp_subl, nI_add, pk_mul, l0, l1, h90, e1, e2]
theorem zl_846 (e : Nat) {n : Nat} {xs : Nat → Int32} {M : zi_M} (hI : zq_inv n xs M) (hn : n ≤ 384) {x : Nat} (hx : x + 6 ≤ n) : ∃ M', zq_inv n xs M' ∧ zi_run (e + 31) zm_L_law 846 [some (.inr (.inr (90, some 0))), some (.inr (.inr (9, some 0))), some (.inr (.inr (10, some 0))), some (.inl (nI x))] [] M = zi_run (e + 31) zm_L_law 1580 [some (.inr (.inr (90, some 0))), some (.inr (.inr (9, some 0))), some (.inr (.inr (10, some 0))), some (.inl (nI x))] [] M' := by
  have h : zp_ok (zi_run (e + 30) zm_X9_on 0 [some (.inr (.inr (9, some 0))), some (.inl (M.1 90 0 (x + 1)))] [] M) (zp_rf (e + 30) zm_X10_on [some (.inr (.inr (10, some 0))), some (.inl (M.1 90 0 (x + 1))), none]) (zq_inv n xs) := zo_on (e + 25) hI (M.1 90 0 (x + 1))
  obtain ⟨v, M1, M2, e1, e2, e3⟩ := h
  obtain ⟨y, rfl⟩ := zka_int e1 (by first | exact Or.inl rfl | exact Or.inr rfl)
  have h90 := zk_run e1
  have l0 := zq_len hI.2.2.2.2.2.1 hn
  have l1 := zq_len (M := M1) (h90.trans hI.2.2.2.2.2.1) hn
  rw [zp_rfE] at e2
  refine ⟨M2, e3, ?_⟩
  rw [ze_L_law_846]
  simp (disch := omega) only [↓zp_dn, ↓zp_hV, ↓zp_hI, ↓zp_hL, ↓zp_hR, ↓zp_hX, zp_eV, zp_eI, zp_eL, zp_eR, zp_eX, zp_eXl, zp_iV, zp_iI, zp_iL, zp_iR, ↓zp_sm, ↓zp_nls, ↓zp_nln, zp_bo0, zp_bo1, zp_okE, zp_ok2E, zp_rfE, ↓reduceIte, if_true, if_false, zp_leT, zp_leF, zp_ltT, zp_ltF, zp_eqT, zp_eqF, zp_leTl, zp_leFl, zp_ltTl, zp_ltFl, zp_leTr, zp_leFr, zp_ltTr, zp_ltFr, zp_eqTr, zp_eqFr, zp_eqTl, zp_eqFl, zp_eqFll, eq_self, zp_addl, zp_addr, zp_mull, zp_mulr, zp_subr, zp_subl, nI_add, pk_mul, l0, l1, h90, e1, e2]
theorem zl_869 (e : Nat) {n : Nat} {xs : Nat → Int32} {M : zi_M} (hI : zq_inv n xs M) (hn : n ≤ 384) {x : Nat} (hx : x + 6 ≤ n) : ∃ M', zq_inv n xs M' ∧ zi_run (e + 31) zm_L_law 869 [some (.inr (.inr (90, some 0))), some (.inr (.inr (9, some 0))), some (.inr (.inr (10, some 0))), some (.inl (nI x))] [] M = zi_run (e + 31) zm_L_law 1580 [some (.inr (.inr (90, some 0))), some (.inr (.inr (9, some 0))), some (.inr (.inr (10, some 0))), some (.inl (nI x))] [] M' := by
  have h : zp_ok (zi_run (e + 30) zm_X9_judge 0 [some (.inr (.inr (9, some 0))), some (.inl (M.1 90 0 (x + 1))), some (.inl (M.1 90 0 (x + 2))), none, none, none, none] [] M) (zp_rf (e + 30) zm_X10_judge [some (.inr (.inr (10, some 0))), some (.inl (M.1 90 0 (x + 1))), some (.inl (M.1 90 0 (x + 2))), none]) (zq_inv n xs) := zo_judge (e + 25) hI (M.1 90 0 (x + 1)) (M.1 90 0 (x + 2))
  obtain ⟨v, M1, M2, e1, e2, e3⟩ := h
  obtain ⟨y, rfl⟩ := zka_int e1 (by first | exact Or.inl rfl | exact Or.inr rfl)
  have h90 := zk_run e1
  have l0 := zq_len hI.2.2.2.2.2.1 hn
  have l1 := zq_len (M := M1) (h90.trans hI.2.2.2.2.2.1) hn
  rw [zp_rfE] at e2
  refine ⟨M2, e3, ?_⟩
  rw [ze_L_law_869]
  simp (disch := omega) only [↓zp_dn, ↓zp_hV, ↓zp_hI, ↓zp_hL, ↓zp_hR, ↓zp_hX, zp_eV, zp_eI, zp_eL, zp_eR, zp_eX, zp_eXl, zp_iV, zp_iI, zp_iL, zp_iR, ↓zp_sm, ↓zp_nls, ↓zp_nln, zp_bo0, zp_bo1, zp_okE, zp_ok2E, zp_rfE, ↓reduceIte, if_true, if_false, zp_leT, zp_leF, zp_ltT, zp_ltF, zp_eqT, zp_eqF, zp_leTl, zp_leFl, zp_ltTl, zp_ltFl, zp_leTr, zp_leFr, zp_ltTr, zp_ltFr, zp_eqTr, zp_eqFr, zp_eqTl, zp_eqFl, zp_eqFll, eq_self, zp_addl, zp_addr, zp_mull, zp_mulr, zp_subr, zp_subl, nI_add, pk_mul, l0, l1, h90, e1, e2]
theorem zl_902 (e : Nat) {n : Nat} {xs : Nat → Int32} {M : zi_M} (hI : zq_inv n xs M) (hn : n ≤ 384) {x : Nat} (hx : x + 6 ≤ n) : ∃ M', zq_inv n xs M' ∧ zi_run (e + 31) zm_L_law 902 [some (.inr (.inr (90, some 0))), some (.inr (.inr (9, some 0))), some (.inr (.inr (10, some 0))), some (.inl (nI x))] [] M = zi_run (e + 31) zm_L_law 1580 [some (.inr (.inr (90, some 0))), some (.inr (.inr (9, some 0))), some (.inr (.inr (10, some 0))), some (.inl (nI x))] [] M' := by
  have h : zp_ok (zi_run (e + 30) zm_X9_soonest 0 [some (.inr (.inr (9, some 0))), some (.inl (M.1 90 0 (x + 1))), some (.inl (M.1 90 0 (x + 2))), none, none, none, none] [] M) (zp_rf (e + 30) zm_X10_soonest [some (.inr (.inr (10, some 0))), some (.inl (M.1 90 0 (x + 1))), some (.inl (M.1 90 0 (x + 2))), none, none]) (zq_inv n xs) := zo_soonest (e + 25) hI (M.1 90 0 (x + 1)) (M.1 90 0 (x + 2))
  obtain ⟨v, M1, M2, e1, e2, e3⟩ := h
  obtain ⟨y, rfl⟩ := zka_int e1 (by first | exact Or.inl rfl | exact Or.inr rfl)
  have h90 := zk_run e1
  have l0 := zq_len hI.2.2.2.2.2.1 hn
  have l1 := zq_len (M := M1) (h90.trans hI.2.2.2.2.2.1) hn
  rw [zp_rfE] at e2
  refine ⟨M2, e3, ?_⟩
  rw [ze_L_law_902]
  simp (disch := omega) only [↓zp_dn, ↓zp_hV, ↓zp_hI, ↓zp_hL, ↓zp_hR, ↓zp_hX, zp_eV, zp_eI, zp_eL, zp_eR, zp_eX, zp_eXl, zp_iV, zp_iI, zp_iL, zp_iR, ↓zp_sm, ↓zp_nls, ↓zp_nln, zp_bo0, zp_bo1, zp_okE, zp_ok2E, zp_rfE, ↓reduceIte, if_true, if_false, zp_leT, zp_leF, zp_ltT, zp_ltF, zp_eqT, zp_eqF, zp_leTl, zp_leFl, zp_ltTl, zp_ltFl, zp_leTr, zp_leFr, zp_ltTr, zp_ltFr, zp_eqTr, zp_eqFr, zp_eqTl, zp_eqFl, zp_eqFll, eq_self, zp_addl, zp_addr, zp_mull, zp_mulr, zp_subr, zp_subl, nI_add, pk_mul, l0, l1, h90, e1, e2]
theorem zl_935 (e : Nat) {n : Nat} {xs : Nat → Int32} {M : zi_M} (hI : zq_inv n xs M) (hn : n ≤ 384) {x : Nat} (hx : x + 6 ≤ n) : ∃ M', zq_inv n xs M' ∧ zi_run (e + 31) zm_L_law 935 [some (.inr (.inr (90, some 0))), some (.inr (.inr (9, some 0))), some (.inr (.inr (10, some 0))), some (.inl (nI x))] [] M = zi_run (e + 31) zm_L_law 1580 [some (.inr (.inr (90, some 0))), some (.inr (.inr (9, some 0))), some (.inr (.inr (10, some 0))), some (.inl (nI x))] [] M' := by
  have h : zp_ok (zi_run (e + 30) zm_X9_lightest 0 [some (.inr (.inr (9, some 0))), some (.inl (M.1 90 0 (x + 1))), some (.inl (M.1 90 0 (x + 2))), none, none, none, none] [] M) (zp_rf (e + 30) zm_X10_lightest [some (.inr (.inr (10, some 0))), some (.inl (M.1 90 0 (x + 1))), some (.inl (M.1 90 0 (x + 2))), none, none]) (zq_inv n xs) := zo_lightest (e + 25) hI (M.1 90 0 (x + 1)) (M.1 90 0 (x + 2))
  obtain ⟨v, M1, M2, e1, e2, e3⟩ := h
  obtain ⟨y, rfl⟩ := zka_int e1 (by first | exact Or.inl rfl | exact Or.inr rfl)
  have h90 := zk_run e1
  have l0 := zq_len hI.2.2.2.2.2.1 hn
  have l1 := zq_len (M := M1) (h90.trans hI.2.2.2.2.2.1) hn
  rw [zp_rfE] at e2
  refine ⟨M2, e3, ?_⟩
  rw [ze_L_law_935]
  simp (disch := omega) only [↓zp_dn, ↓zp_hV, ↓zp_hI, ↓zp_hL, ↓zp_hR, ↓zp_hX, zp_eV, zp_eI, zp_eL, zp_eR, zp_eX, zp_eXl, zp_iV, zp_iI, zp_iL, zp_iR, ↓zp_sm, ↓zp_nls, ↓zp_nln, zp_bo0, zp_bo1, zp_okE, zp_ok2E, zp_rfE, ↓reduceIte, if_true, if_false, zp_leT, zp_leF, zp_ltT, zp_ltF, zp_eqT, zp_eqF, zp_leTl, zp_leFl, zp_ltTl, zp_ltFl, zp_leTr, zp_leFr, zp_ltTr, zp_ltFr, zp_eqTr, zp_eqFr, zp_eqTl, zp_eqFl, zp_eqFll, eq_self, zp_addl, zp_addr, zp_mull, zp_mulr, zp_subr, zp_subl, nI_add, pk_mul, l0, l1, h90, e1, e2]
theorem zl_968 (e : Nat) {n : Nat} {xs : Nat → Int32} {M : zi_M} (hI : zq_inv n xs M) (hn : n ≤ 384) {x : Nat} (hx : x + 6 ≤ n) : ∃ M', zq_inv n xs M' ∧ zi_run (e + 31) zm_L_law 968 [some (.inr (.inr (90, some 0))), some (.inr (.inr (9, some 0))), some (.inr (.inr (10, some 0))), some (.inl (nI x))] [] M = zi_run (e + 31) zm_L_law 1580 [some (.inr (.inr (90, some 0))), some (.inr (.inr (9, some 0))), some (.inr (.inr (10, some 0))), some (.inl (nI x))] [] M' := by
  have h : zp_ok (zi_run (e + 30) zm_X9_ways 0 [some (.inr (.inr (9, some 0))), some (.inl (M.1 90 0 (x + 1))), none, none] [] M) (zp_rf (e + 30) zm_X10_ways [some (.inr (.inr (10, some 0))), some (.inl (M.1 90 0 (x + 1))), none, none, none]) (zq_inv n xs) := zo_ways (e + 25) hI (M.1 90 0 (x + 1))
  obtain ⟨v, M1, M2, e1, e2, e3⟩ := h
  obtain ⟨y, rfl⟩ := zka_int e1 (by first | exact Or.inl rfl | exact Or.inr rfl)
  have h90 := zk_run e1
  have l0 := zq_len hI.2.2.2.2.2.1 hn
  have l1 := zq_len (M := M1) (h90.trans hI.2.2.2.2.2.1) hn
  rw [zp_rfE] at e2
  refine ⟨M2, e3, ?_⟩
  rw [ze_L_law_968]
  simp (disch := omega) only [↓zp_dn, ↓zp_hV, ↓zp_hI, ↓zp_hL, ↓zp_hR, ↓zp_hX, zp_eV, zp_eI, zp_eL, zp_eR, zp_eX, zp_eXl, zp_iV, zp_iI, zp_iL, zp_iR, ↓zp_sm, ↓zp_nls, ↓zp_nln, zp_bo0, zp_bo1, zp_okE, zp_ok2E, zp_rfE, ↓reduceIte, if_true, if_false, zp_leT, zp_leF, zp_ltT, zp_ltF, zp_eqT, zp_eqF, zp_leTl, zp_leFl, zp_ltTl, zp_ltFl, zp_leTr, zp_leFr, zp_ltTr, zp_ltFr, zp_eqTr, zp_eqFr, zp_eqTl, zp_eqFl, zp_eqFll, eq_self, zp_addl, zp_addr, zp_mull, zp_mulr, zp_subr, zp_subl, nI_add, pk_mul, l0, l1, h90, e1, e2]
theorem zl_991 (e : Nat) {n : Nat} {xs : Nat → Int32} {M : zi_M} (hI : zq_inv n xs M) (hn : n ≤ 384) {x : Nat} (hx : x + 6 ≤ n) : ∃ M', zq_inv n xs M' ∧ zi_run (e + 31) zm_L_law 991 [some (.inr (.inr (90, some 0))), some (.inr (.inr (9, some 0))), some (.inr (.inr (10, some 0))), some (.inl (nI x))] [] M = zi_run (e + 31) zm_L_law 1580 [some (.inr (.inr (90, some 0))), some (.inr (.inr (9, some 0))), some (.inr (.inr (10, some 0))), some (.inl (nI x))] [] M' := by
  have h : zp_ok (zi_run (e + 30) zm_X9_heights 0 [some (.inr (.inr (9, some 0))), some (.inl (M.1 90 0 (x + 1))), some (.inl (M.1 90 0 (x + 2))), none, none, none, none, none] [] M) (zp_rf (e + 30) zm_X10_heights [some (.inr (.inr (10, some 0))), some (.inl (M.1 90 0 (x + 1))), some (.inl (M.1 90 0 (x + 2))), none, none, none, none, none]) (zq_inv n xs) := zo_heights (e + 25) hI (M.1 90 0 (x + 1)) (M.1 90 0 (x + 2))
  obtain ⟨v, M1, M2, e1, e2, e3⟩ := h
  obtain ⟨y, rfl⟩ := zka_int e1 (by first | exact Or.inl rfl | exact Or.inr rfl)
  have h90 := zk_run e1
  have l0 := zq_len hI.2.2.2.2.2.1 hn
  have l1 := zq_len (M := M1) (h90.trans hI.2.2.2.2.2.1) hn
  rw [zp_rfE] at e2
  refine ⟨M2, e3, ?_⟩
  rw [ze_L_law_991]
  simp (disch := omega) only [↓zp_dn, ↓zp_hV, ↓zp_hI, ↓zp_hL, ↓zp_hR, ↓zp_hX, zp_eV, zp_eI, zp_eL, zp_eR, zp_eX, zp_eXl, zp_iV, zp_iI, zp_iL, zp_iR, ↓zp_sm, ↓zp_nls, ↓zp_nln, zp_bo0, zp_bo1, zp_okE, zp_ok2E, zp_rfE, ↓reduceIte, if_true, if_false, zp_leT, zp_leF, zp_ltT, zp_ltF, zp_eqT, zp_eqF, zp_leTl, zp_leFl, zp_ltTl, zp_ltFl, zp_leTr, zp_leFr, zp_ltTr, zp_ltFr, zp_eqTr, zp_eqFr, zp_eqTl, zp_eqFl, zp_eqFll, eq_self, zp_addl, zp_addr, zp_mull, zp_mulr, zp_subr, zp_subl, nI_add, pk_mul, l0, l1, h90, e1, e2]
theorem zl_1024 (e : Nat) {n : Nat} {xs : Nat → Int32} {M : zi_M} (hI : zq_inv n xs M) (hn : n ≤ 384) {x : Nat} (hx : x + 6 ≤ n) : ∃ M', zq_inv n xs M' ∧ zi_run (e + 31) zm_L_law 1024 [some (.inr (.inr (90, some 0))), some (.inr (.inr (9, some 0))), some (.inr (.inr (10, some 0))), some (.inl (nI x))] [] M = zi_run (e + 31) zm_L_law 1580 [some (.inr (.inr (90, some 0))), some (.inr (.inr (9, some 0))), some (.inr (.inr (10, some 0))), some (.inl (nI x))] [] M' := by
  have h : zp_ok (zi_run (e + 30) zm_X9_nth 0 [some (.inr (.inr (9, some 0))), some (.inl (M.1 90 0 (x + 1))), some (.inl (M.1 90 0 (x + 2))), some (.inl (M.1 90 0 (x + 3))), none, none, none] [] M) (zp_rf (e + 30) zm_X10_nth [some (.inr (.inr (10, some 0))), some (.inl (M.1 90 0 (x + 1))), some (.inl (M.1 90 0 (x + 2))), some (.inl (M.1 90 0 (x + 3))), none, none]) (zq_inv n xs) := zo_nth (e + 25) hI (M.1 90 0 (x + 1)) (M.1 90 0 (x + 2)) (M.1 90 0 (x + 3))
  obtain ⟨v, M1, M2, e1, e2, e3⟩ := h
  obtain ⟨y, rfl⟩ := zka_int e1 (by first | exact Or.inl rfl | exact Or.inr rfl)
  have h90 := zk_run e1
  have l0 := zq_len hI.2.2.2.2.2.1 hn
  have l1 := zq_len (M := M1) (h90.trans hI.2.2.2.2.2.1) hn
  rw [zp_rfE] at e2
  refine ⟨M2, e3, ?_⟩
  rw [ze_L_law_1024]
  simp (disch := omega) only [↓zp_dn, ↓zp_hV, ↓zp_hI, ↓zp_hL, ↓zp_hR, ↓zp_hX, zp_eV, zp_eI, zp_eL, zp_eR, zp_eX, zp_eXl, zp_iV, zp_iI, zp_iL, zp_iR, ↓zp_sm, ↓zp_nls, ↓zp_nln, zp_bo0, zp_bo1, zp_okE, zp_ok2E, zp_rfE, ↓reduceIte, if_true, if_false, zp_leT, zp_leF, zp_ltT, zp_ltF, zp_eqT, zp_eqF, zp_leTl, zp_leFl, zp_ltTl, zp_ltFl, zp_leTr, zp_leFr, zp_ltTr, zp_ltFr, zp_eqTr, zp_eqFr, zp_eqTl, zp_eqFl, zp_eqFll, eq_self, zp_addl, zp_addr, zp_mull, zp_mulr, zp_subr, zp_subl, nI_add, pk_mul, l0, l1, h90, e1, e2]
theorem zl_1067 (e : Nat) {n : Nat} {xs : Nat → Int32} {M : zi_M} (hI : zq_inv n xs M) (hn : n ≤ 384) {x : Nat} (hx : x + 6 ≤ n) : ∃ M', zq_inv n xs M' ∧ zi_run (e + 31) zm_L_law 1067 [some (.inr (.inr (90, some 0))), some (.inr (.inr (9, some 0))), some (.inr (.inr (10, some 0))), some (.inl (nI x))] [] M = zi_run (e + 31) zm_L_law 1580 [some (.inr (.inr (90, some 0))), some (.inr (.inr (9, some 0))), some (.inr (.inr (10, some 0))), some (.inl (nI x))] [] M' := by
  have h : zp_ok (zi_run (e + 30) zm_X9_wax 0 [some (.inr (.inr (9, some 0))), some (.inl (M.1 90 0 (x + 1))), none, none] [] M) (zp_rf (e + 30) zm_X10_wax [some (.inr (.inr (10, some 0))), some (.inl (M.1 90 0 (x + 1)))]) (zq_inv n xs) := zo_wax (e + 23) hI (M.1 90 0 (x + 1))
  obtain ⟨v, M1, M2, e1, e2, e3⟩ := h
  obtain ⟨y, rfl⟩ := zka_int e1 (by first | exact Or.inl rfl | exact Or.inr rfl)
  have h90 := zk_run e1
  have l0 := zq_len hI.2.2.2.2.2.1 hn
  have l1 := zq_len (M := M1) (h90.trans hI.2.2.2.2.2.1) hn
  rw [zp_rfE] at e2
  refine ⟨M2, e3, ?_⟩
  rw [ze_L_law_1067]
  simp (disch := omega) only [↓zp_dn, ↓zp_hV, ↓zp_hI, ↓zp_hL, ↓zp_hR, ↓zp_hX, zp_eV, zp_eI, zp_eL, zp_eR, zp_eX, zp_eXl, zp_iV, zp_iI, zp_iL, zp_iR, ↓zp_sm, ↓zp_nls, ↓zp_nln, zp_bo0, zp_bo1, zp_okE, zp_ok2E, zp_rfE, ↓reduceIte, if_true, if_false, zp_leT, zp_leF, zp_ltT, zp_ltF, zp_eqT, zp_eqF, zp_leTl, zp_leFl, zp_ltTl, zp_ltFl, zp_leTr, zp_leFr, zp_ltTr, zp_ltFr, zp_eqTr, zp_eqFr, zp_eqTl, zp_eqFl, zp_eqFll, eq_self, zp_addl, zp_addr, zp_mull, zp_mulr, zp_subr, zp_subl, nI_add, pk_mul, l0, l1, h90, e1, e2]
theorem zl_1090 (e : Nat) {n : Nat} {xs : Nat → Int32} {M : zi_M} (hI : zq_inv n xs M) (hn : n ≤ 384) {x : Nat} (hx : x + 6 ≤ n) : ∃ M', zq_inv n xs M' ∧ zi_run (e + 31) zm_L_law 1090 [some (.inr (.inr (90, some 0))), some (.inr (.inr (9, some 0))), some (.inr (.inr (10, some 0))), some (.inl (nI x))] [] M = zi_run (e + 31) zm_L_law 1580 [some (.inr (.inr (90, some 0))), some (.inr (.inr (9, some 0))), some (.inr (.inr (10, some 0))), some (.inl (nI x))] [] M' := by
  have h : zp_ok (zi_run (e + 30) zm_X9_strength 0 [some (.inr (.inr (9, some 0))), some (.inl (M.1 90 0 (x + 1))), none, none, none] [] M) (zp_rf (e + 30) zm_X10_strength [some (.inr (.inr (10, some 0))), some (.inl (M.1 90 0 (x + 1)))]) (zq_inv n xs) := zo_strength (e + 23) hI (M.1 90 0 (x + 1))
  obtain ⟨v, M1, M2, e1, e2, e3⟩ := h
  obtain ⟨y, rfl⟩ := zka_int e1 (by first | exact Or.inl rfl | exact Or.inr rfl)
  have h90 := zk_run e1
  have l0 := zq_len hI.2.2.2.2.2.1 hn
  have l1 := zq_len (M := M1) (h90.trans hI.2.2.2.2.2.1) hn
  rw [zp_rfE] at e2
  refine ⟨M2, e3, ?_⟩
  rw [ze_L_law_1090]
  simp (disch := omega) only [↓zp_dn, ↓zp_hV, ↓zp_hI, ↓zp_hL, ↓zp_hR, ↓zp_hX, zp_eV, zp_eI, zp_eL, zp_eR, zp_eX, zp_eXl, zp_iV, zp_iI, zp_iL, zp_iR, ↓zp_sm, ↓zp_nls, ↓zp_nln, zp_bo0, zp_bo1, zp_okE, zp_ok2E, zp_rfE, ↓reduceIte, if_true, if_false, zp_leT, zp_leF, zp_ltT, zp_ltF, zp_eqT, zp_eqF, zp_leTl, zp_leFl, zp_ltTl, zp_ltFl, zp_leTr, zp_leFr, zp_ltTr, zp_ltFr, zp_eqTr, zp_eqFr, zp_eqTl, zp_eqFl, zp_eqFll, eq_self, zp_addl, zp_addr, zp_mull, zp_mulr, zp_subr, zp_subl, nI_add, pk_mul, l0, l1, h90, e1, e2]
theorem zl_1113 (e : Nat) {n : Nat} {xs : Nat → Int32} {M : zi_M} (hI : zq_inv n xs M) (hn : n ≤ 384) {x : Nat} (hx : x + 6 ≤ n) : ∃ M', zq_inv n xs M' ∧ zi_run (e + 31) zm_L_law 1113 [some (.inr (.inr (90, some 0))), some (.inr (.inr (9, some 0))), some (.inr (.inr (10, some 0))), some (.inl (nI x))] [] M = zi_run (e + 31) zm_L_law 1580 [some (.inr (.inr (90, some 0))), some (.inr (.inr (9, some 0))), some (.inr (.inr (10, some 0))), some (.inl (nI x))] [] M' := by
  have h : zp_ok (zi_run (e + 30) zm_X9_most 0 [some (.inr (.inr (9, some 0))), some (.inl (M.1 90 0 (x + 1))), none, none] [] M) (zp_rf (e + 30) zm_X10_most [some (.inr (.inr (10, some 0))), some (.inl (M.1 90 0 (x + 1)))]) (zq_inv n xs) := zo_most (e + 23) hI (M.1 90 0 (x + 1))
  obtain ⟨v, M1, M2, e1, e2, e3⟩ := h
  obtain ⟨y, rfl⟩ := zka_int e1 (by first | exact Or.inl rfl | exact Or.inr rfl)
  have h90 := zk_run e1
  have l0 := zq_len hI.2.2.2.2.2.1 hn
  have l1 := zq_len (M := M1) (h90.trans hI.2.2.2.2.2.1) hn
  rw [zp_rfE] at e2
  refine ⟨M2, e3, ?_⟩
  rw [ze_L_law_1113]
  simp (disch := omega) only [↓zp_dn, ↓zp_hV, ↓zp_hI, ↓zp_hL, ↓zp_hR, ↓zp_hX, zp_eV, zp_eI, zp_eL, zp_eR, zp_eX, zp_eXl, zp_iV, zp_iI, zp_iL, zp_iR, ↓zp_sm, ↓zp_nls, ↓zp_nln, zp_bo0, zp_bo1, zp_okE, zp_ok2E, zp_rfE, ↓reduceIte, if_true, if_false, zp_leT, zp_leF, zp_ltT, zp_ltF, zp_eqT, zp_eqF, zp_leTl, zp_leFl, zp_ltTl, zp_ltFl, zp_leTr, zp_leFr, zp_ltTr, zp_ltFr, zp_eqTr, zp_eqFr, zp_eqTl, zp_eqFl, zp_eqFll, eq_self, zp_addl, zp_addr, zp_mull, zp_mulr, zp_subr, zp_subl, nI_add, pk_mul, l0, l1, h90, e1, e2]
theorem zl_1136 (e : Nat) {n : Nat} {xs : Nat → Int32} {M : zi_M} (hI : zq_inv n xs M) (hn : n ≤ 384) {x : Nat} (hx : x + 6 ≤ n) : ∃ M', zq_inv n xs M' ∧ zi_run (e + 31) zm_L_law 1136 [some (.inr (.inr (90, some 0))), some (.inr (.inr (9, some 0))), some (.inr (.inr (10, some 0))), some (.inl (nI x))] [] M = zi_run (e + 31) zm_L_law 1580 [some (.inr (.inr (90, some 0))), some (.inr (.inr (9, some 0))), some (.inr (.inr (10, some 0))), some (.inl (nI x))] [] M' := by
  have h : zp_ok (zi_run (e + 30) zm_X9_hottest 0 [some (.inr (.inr (9, some 0))), some (.inl (M.1 90 0 (x + 1))), none, none] [] M) (zp_rf (e + 30) zm_X10_hottest [some (.inr (.inr (10, some 0))), some (.inl (M.1 90 0 (x + 1)))]) (zq_inv n xs) := zo_hottest (e + 23) hI (M.1 90 0 (x + 1))
  obtain ⟨v, M1, M2, e1, e2, e3⟩ := h
  obtain ⟨y, rfl⟩ := zka_int e1 (by first | exact Or.inl rfl | exact Or.inr rfl)
  have h90 := zk_run e1
  have l0 := zq_len hI.2.2.2.2.2.1 hn
  have l1 := zq_len (M := M1) (h90.trans hI.2.2.2.2.2.1) hn
  rw [zp_rfE] at e2
  refine ⟨M2, e3, ?_⟩
  rw [ze_L_law_1136]
  simp (disch := omega) only [↓zp_dn, ↓zp_hV, ↓zp_hI, ↓zp_hL, ↓zp_hR, ↓zp_hX, zp_eV, zp_eI, zp_eL, zp_eR, zp_eX, zp_eXl, zp_iV, zp_iI, zp_iL, zp_iR, ↓zp_sm, ↓zp_nls, ↓zp_nln, zp_bo0, zp_bo1, zp_okE, zp_ok2E, zp_rfE, ↓reduceIte, if_true, if_false, zp_leT, zp_leF, zp_ltT, zp_ltF, zp_eqT, zp_eqF, zp_leTl, zp_leFl, zp_ltTl, zp_ltFl, zp_leTr, zp_leFr, zp_ltTr, zp_ltFr, zp_eqTr, zp_eqFr, zp_eqTl, zp_eqFl, zp_eqFll, eq_self, zp_addl, zp_addr, zp_mull, zp_mulr, zp_subr, zp_subl, nI_add, pk_mul, l0, l1, h90, e1, e2]
theorem zl_1159 (e : Nat) {n : Nat} {xs : Nat → Int32} {M : zi_M} (hI : zq_inv n xs M) (hn : n ≤ 384) {x : Nat} (hx : x + 6 ≤ n) : ∃ M', zq_inv n xs M' ∧ zi_run (e + 31) zm_L_law 1159 [some (.inr (.inr (90, some 0))), some (.inr (.inr (9, some 0))), some (.inr (.inr (10, some 0))), some (.inl (nI x))] [] M = zi_run (e + 31) zm_L_law 1580 [some (.inr (.inr (90, some 0))), some (.inr (.inr (9, some 0))), some (.inr (.inr (10, some 0))), some (.inl (nI x))] [] M' := by
  have h : zp_ok (zi_run (e + 30) zm_X9_kinds 0 [some (.inr (.inr (9, some 0))), some (.inl (M.1 90 0 (x + 1))), none, none, none] [] M) (zp_rf (e + 30) zm_X10_kinds [some (.inr (.inr (10, some 0))), some (.inl (M.1 90 0 (x + 1))), none, none]) (zq_inv n xs) := zo_kinds (e + 23) hI (M.1 90 0 (x + 1))
  obtain ⟨v, M1, M2, e1, e2, e3⟩ := h
  obtain ⟨y, rfl⟩ := zka_int e1 (by first | exact Or.inl rfl | exact Or.inr rfl)
  have h90 := zk_run e1
  have l0 := zq_len hI.2.2.2.2.2.1 hn
  have l1 := zq_len (M := M1) (h90.trans hI.2.2.2.2.2.1) hn
  rw [zp_rfE] at e2
  refine ⟨M2, e3, ?_⟩
  rw [ze_L_law_1159]
  simp (disch := omega) only [↓zp_dn, ↓zp_hV, ↓zp_hI, ↓zp_hL, ↓zp_hR, ↓zp_hX, zp_eV, zp_eI, zp_eL, zp_eR, zp_eX, zp_eXl, zp_iV, zp_iI, zp_iL, zp_iR, ↓zp_sm, ↓zp_nls, ↓zp_nln, zp_bo0, zp_bo1, zp_okE, zp_ok2E, zp_rfE, ↓reduceIte, if_true, if_false, zp_leT, zp_leF, zp_ltT, zp_ltF, zp_eqT, zp_eqF, zp_leTl, zp_leFl, zp_ltTl, zp_ltFl, zp_leTr, zp_leFr, zp_ltTr, zp_ltFr, zp_eqTr, zp_eqFr, zp_eqTl, zp_eqFl, zp_eqFll, eq_self, zp_addl, zp_addr, zp_mull, zp_mulr, zp_subr, zp_subl, nI_add, pk_mul, l0, l1, h90, e1, e2]
theorem zl_1182 (e : Nat) {n : Nat} {xs : Nat → Int32} {M : zi_M} (hI : zq_inv n xs M) (hn : n ≤ 384) {x : Nat} (hx : x + 6 ≤ n) : ∃ M', zq_inv n xs M' ∧ zi_run (e + 31) zm_L_law 1182 [some (.inr (.inr (90, some 0))), some (.inr (.inr (9, some 0))), some (.inr (.inr (10, some 0))), some (.inl (nI x))] [] M = zi_run (e + 31) zm_L_law 1580 [some (.inr (.inr (90, some 0))), some (.inr (.inr (9, some 0))), some (.inr (.inr (10, some 0))), some (.inl (nI x))] [] M' := by
  have h : zp_ok (zi_run (e + 30) zm_X9_post 0 [some (.inr (.inr (9, some 0))), some (.inl (M.1 90 0 (x + 1))), some (.inl (M.1 90 0 (x + 2))), none, none, none, none, none] [] M) (zp_rf (e + 30) zm_X10_post [some (.inr (.inr (10, some 0))), some (.inl (M.1 90 0 (x + 1))), some (.inl (M.1 90 0 (x + 2))), none, none, none, none, none, none, none, none]) (zq_inv n xs) := zo_post (e + 23) hI (M.1 90 0 (x + 1)) (M.1 90 0 (x + 2))
  obtain ⟨v, M1, M2, e1, e2, e3⟩ := h
  obtain ⟨y, rfl⟩ := zka_int e1 (by first | exact Or.inl rfl | exact Or.inr rfl)
  have h90 := zk_run e1
  have l0 := zq_len hI.2.2.2.2.2.1 hn
  have l1 := zq_len (M := M1) (h90.trans hI.2.2.2.2.2.1) hn
  rw [zp_rfE] at e2
  refine ⟨M2, e3, ?_⟩
  rw [ze_L_law_1182]
  simp (disch := omega) only [↓zp_dn, ↓zp_hV, ↓zp_hI, ↓zp_hL, ↓zp_hR, ↓zp_hX, zp_eV, zp_eI, zp_eL, zp_eR, zp_eX, zp_eXl, zp_iV, zp_iI, zp_iL, zp_iR, ↓zp_sm, ↓zp_nls, ↓zp_nln, zp_bo0, zp_bo1, zp_okE, zp_ok2E, zp_rfE, ↓reduceIte, if_true, if_false, zp_leT, zp_leF, zp_ltT, zp_ltF, zp_eqT, zp_eqF, zp_leTl, zp_leFl, zp_ltTl, zp_ltFl, zp_leTr, zp_leFr, zp_ltTr, zp_ltFr, zp_eqTr, zp_eqFr, zp_eqTl, zp_eqFl, zp_eqFll, eq_self, zp_addl, zp_addr, zp_mull, zp_mulr, zp_subr, zp_subl, nI_add, pk_mul, l0, l1, h90, e1, e2]
theorem zl_1215 (e : Nat) {n : Nat} {xs : Nat → Int32} {M : zi_M} (hI : zq_inv n xs M) (hn : n ≤ 384) {x : Nat} (hx : x + 6 ≤ n) : ∃ M', zq_inv n xs M' ∧ zi_run (e + 31) zm_L_law 1215 [some (.inr (.inr (90, some 0))), some (.inr (.inr (9, some 0))), some (.inr (.inr (10, some 0))), some (.inl (nI x))] [] M = zi_run (e + 31) zm_L_law 1580 [some (.inr (.inr (90, some 0))), some (.inr (.inr (9, some 0))), some (.inr (.inr (10, some 0))), some (.inl (nI x))] [] M' := by
  have h : zp_ok (zi_run (e + 30) zm_X9_plan 0 [some (.inr (.inr (9, some 0))), some (.inl (M.1 90 0 (x + 1))), some (.inl (M.1 90 0 (x + 2))), some (.inl (M.1 90 0 (x + 3))), none, none] [] M) (zp_rf (e + 30) zm_X10_plan [some (.inr (.inr (10, some 0))), some (.inl (M.1 90 0 (x + 1))), some (.inl (M.1 90 0 (x + 2))), some (.inl (M.1 90 0 (x + 3)))]) (zq_inv n xs) := zo_plan (e + 8) hI (M.1 90 0 (x + 1)) (M.1 90 0 (x + 2)) (M.1 90 0 (x + 3))
  obtain ⟨v, M1, M2, e1, e2, e3⟩ := h
  obtain ⟨y, rfl⟩ := zka_int e1 (by first | exact Or.inl rfl | exact Or.inr rfl)
  have h90 := zk_run e1
  have l0 := zq_len hI.2.2.2.2.2.1 hn
  have l1 := zq_len (M := M1) (h90.trans hI.2.2.2.2.2.1) hn
  rw [zp_rfE] at e2
  refine ⟨M2, e3, ?_⟩
  rw [ze_L_law_1215]
  simp (disch := omega) only [↓zp_dn, ↓zp_hV, ↓zp_hI, ↓zp_hL, ↓zp_hR, ↓zp_hX, zp_eV, zp_eI, zp_eL, zp_eR, zp_eX, zp_eXl, zp_iV, zp_iI, zp_iL, zp_iR, ↓zp_sm, ↓zp_nls, ↓zp_nln, zp_bo0, zp_bo1, zp_okE, zp_ok2E, zp_rfE, ↓reduceIte, if_true, if_false, zp_leT, zp_leF, zp_ltT, zp_ltF, zp_eqT, zp_eqF, zp_leTl, zp_leFl, zp_ltTl, zp_ltFl, zp_leTr, zp_leFr, zp_ltTr, zp_ltFr, zp_eqTr, zp_eqFr, zp_eqTl, zp_eqFl, zp_eqFll, eq_self, zp_addl, zp_addr, zp_mull, zp_mulr, zp_subr, zp_subl, nI_add, pk_mul, l0, l1, h90, e1, e2]
theorem zl_1258 (e : Nat) {n : Nat} {xs : Nat → Int32} {M : zi_M} (hI : zq_inv n xs M) (hn : n ≤ 384) {x : Nat} (hx : x + 6 ≤ n) : ∃ M', zq_inv n xs M' ∧ zi_run (e + 31) zm_L_law 1258 [some (.inr (.inr (90, some 0))), some (.inr (.inr (9, some 0))), some (.inr (.inr (10, some 0))), some (.inl (nI x))] [] M = zi_run (e + 31) zm_L_law 1580 [some (.inr (.inr (90, some 0))), some (.inr (.inr (9, some 0))), some (.inr (.inr (10, some 0))), some (.inl (nI x))] [] M' := by
  have h : zp_ok (zi_run (e + 30) zm_X9_odds 0 [some (.inr (.inr (9, some 0))), some (.inl (M.1 90 0 (x + 1))), some (.inl (M.1 90 0 (x + 2))), none] [] M) (zp_rf (e + 30) zm_X10_odds [some (.inr (.inr (10, some 0))), some (.inl (M.1 90 0 (x + 1))), some (.inl (M.1 90 0 (x + 2)))]) (zq_inv n xs) := zo_odds (e + 8) hI (M.1 90 0 (x + 1)) (M.1 90 0 (x + 2))
  obtain ⟨v, M1, M2, e1, e2, e3⟩ := h
  obtain ⟨y, rfl⟩ := zka_int e1 (by first | exact Or.inl rfl | exact Or.inr rfl)
  have h90 := zk_run e1
  have l0 := zq_len hI.2.2.2.2.2.1 hn
  have l1 := zq_len (M := M1) (h90.trans hI.2.2.2.2.2.1) hn
  rw [zp_rfE] at e2
  refine ⟨M2, e3, ?_⟩
  rw [ze_L_law_1258]
  simp (disch := omega) only [↓zp_dn, ↓zp_hV, ↓zp_hI, ↓zp_hL, ↓zp_hR, ↓zp_hX, zp_eV, zp_eI, zp_eL, zp_eR, zp_eX, zp_eXl, zp_iV, zp_iI, zp_iL, zp_iR, ↓zp_sm, ↓zp_nls, ↓zp_nln, zp_bo0, zp_bo1, zp_okE, zp_ok2E, zp_rfE, ↓reduceIte, if_true, if_false, zp_leT, zp_leF, zp_ltT, zp_ltF, zp_eqT, zp_eqF, zp_leTl, zp_leFl, zp_ltTl, zp_ltFl, zp_leTr, zp_leFr, zp_ltTr, zp_ltFr, zp_eqTr, zp_eqFr, zp_eqTl, zp_eqFl, zp_eqFll, eq_self, zp_addl, zp_addr, zp_mull, zp_mulr, zp_subr, zp_subl, nI_add, pk_mul, l0, l1, h90, e1, e2]
theorem zl_1291 (e : Nat) {n : Nat} {xs : Nat → Int32} {M : zi_M} (hI : zq_inv n xs M) (hn : n ≤ 384) {x : Nat} (hx : x + 6 ≤ n) : ∃ M', zq_inv n xs M' ∧ zi_run (e + 31) zm_L_law 1291 [some (.inr (.inr (90, some 0))), some (.inr (.inr (9, some 0))), some (.inr (.inr (10, some 0))), some (.inl (nI x))] [] M = zi_run (e + 31) zm_L_law 1580 [some (.inr (.inr (90, some 0))), some (.inr (.inr (9, some 0))), some (.inr (.inr (10, some 0))), some (.inl (nI x))] [] M' := by
  have h : zp_ok (zi_run (e + 30) zm_X9_choice 0 [some (.inr (.inr (9, some 0))), some (.inl (M.1 90 0 (x + 1))), some (.inl (M.1 90 0 (x + 2))), none] [] M) (zp_rf (e + 30) zm_X10_choice [some (.inr (.inr (10, some 0))), some (.inl (M.1 90 0 (x + 1))), some (.inl (M.1 90 0 (x + 2)))]) (zq_inv n xs) := zo_choice (e + 8) hI (M.1 90 0 (x + 1)) (M.1 90 0 (x + 2))
  obtain ⟨v, M1, M2, e1, e2, e3⟩ := h
  obtain ⟨y, rfl⟩ := zka_int e1 (by first | exact Or.inl rfl | exact Or.inr rfl)
  have h90 := zk_run e1
  have l0 := zq_len hI.2.2.2.2.2.1 hn
  have l1 := zq_len (M := M1) (h90.trans hI.2.2.2.2.2.1) hn
  rw [zp_rfE] at e2
  refine ⟨M2, e3, ?_⟩
  rw [ze_L_law_1291]
  simp (disch := omega) only [↓zp_dn, ↓zp_hV, ↓zp_hI, ↓zp_hL, ↓zp_hR, ↓zp_hX, zp_eV, zp_eI, zp_eL, zp_eR, zp_eX, zp_eXl, zp_iV, zp_iI, zp_iL, zp_iR, ↓zp_sm, ↓zp_nls, ↓zp_nln, zp_bo0, zp_bo1, zp_okE, zp_ok2E, zp_rfE, ↓reduceIte, if_true, if_false, zp_leT, zp_leF, zp_ltT, zp_ltF, zp_eqT, zp_eqF, zp_leTl, zp_leFl, zp_ltTl, zp_ltFl, zp_leTr, zp_leFr, zp_ltTr, zp_ltFr, zp_eqTr, zp_eqFr, zp_eqTl, zp_eqFl, zp_eqFll, eq_self, zp_addl, zp_addr, zp_mull, zp_mulr, zp_subr, zp_subl, nI_add, pk_mul, l0, l1, h90, e1, e2]
theorem zl_1324 (e : Nat) {n : Nat} {xs : Nat → Int32} {M : zi_M} (hI : zq_inv n xs M) (hn : n ≤ 384) {x : Nat} (hx : x + 6 ≤ n) : ∃ M', zq_inv n xs M' ∧ zi_run (e + 31) zm_L_law 1324 [some (.inr (.inr (90, some 0))), some (.inr (.inr (9, some 0))), some (.inr (.inr (10, some 0))), some (.inl (nI x))] [] M = zi_run (e + 31) zm_L_law 1580 [some (.inr (.inr (90, some 0))), some (.inr (.inr (9, some 0))), some (.inr (.inr (10, some 0))), some (.inl (nI x))] [] M' := by
  have h : zp_ok (zi_run (e + 30) zm_X9_boats 0 [some (.inr (.inr (9, some 0))), some (.inl (M.1 90 0 (x + 1))), some (.inl (M.1 90 0 (x + 2))), none, none, none, none, none] [] M) (zp_rf (e + 30) zm_X10_boats [some (.inr (.inr (10, some 0))), some (.inl (M.1 90 0 (x + 1))), some (.inl (M.1 90 0 (x + 2))), none, none, none, none, none, none, none, none, none]) (zq_inv n xs) := zo_boats (e + 25) hI (M.1 90 0 (x + 1)) (M.1 90 0 (x + 2))
  obtain ⟨v, M1, M2, e1, e2, e3⟩ := h
  obtain ⟨y, rfl⟩ := zka_int e1 (by first | exact Or.inl rfl | exact Or.inr rfl)
  have h90 := zk_run e1
  have l0 := zq_len hI.2.2.2.2.2.1 hn
  have l1 := zq_len (M := M1) (h90.trans hI.2.2.2.2.2.1) hn
  rw [zp_rfE] at e2
  refine ⟨M2, e3, ?_⟩
  rw [ze_L_law_1324]
  simp (disch := omega) only [↓zp_dn, ↓zp_hV, ↓zp_hI, ↓zp_hL, ↓zp_hR, ↓zp_hX, zp_eV, zp_eI, zp_eL, zp_eR, zp_eX, zp_eXl, zp_iV, zp_iI, zp_iL, zp_iR, ↓zp_sm, ↓zp_nls, ↓zp_nln, zp_bo0, zp_bo1, zp_okE, zp_ok2E, zp_rfE, ↓reduceIte, if_true, if_false, zp_leT, zp_leF, zp_ltT, zp_ltF, zp_eqT, zp_eqF, zp_leTl, zp_leFl, zp_ltTl, zp_ltFl, zp_leTr, zp_leFr, zp_ltTr, zp_ltFr, zp_eqTr, zp_eqFr, zp_eqTl, zp_eqFl, zp_eqFll, eq_self, zp_addl, zp_addr, zp_mull, zp_mulr, zp_subr, zp_subl, nI_add, pk_mul, l0, l1, h90, e1, e2]
theorem zl_1357 (e : Nat) {n : Nat} {xs : Nat → Int32} {M : zi_M} (hI : zq_inv n xs M) (hn : n ≤ 384) {x : Nat} (hx : x + 6 ≤ n) : ∃ M', zq_inv n xs M' ∧ zi_run (e + 31) zm_L_law 1357 [some (.inr (.inr (90, some 0))), some (.inr (.inr (9, some 0))), some (.inr (.inr (10, some 0))), some (.inl (nI x))] [] M = zi_run (e + 31) zm_L_law 1580 [some (.inr (.inr (90, some 0))), some (.inr (.inr (9, some 0))), some (.inr (.inr (10, some 0))), some (.inl (nI x))] [] M' := by
  have h : zp_ok (zi_run (e + 30) zm_X9_drip 0 [some (.inr (.inr (9, some 0))), some (.inl (M.1 90 0 (x + 1))), some (.inl (M.1 90 0 (x + 2))), none, none, none, none] [] M) (zp_rf (e + 30) zm_X10_drip [some (.inr (.inr (10, some 0))), some (.inl (M.1 90 0 (x + 1))), some (.inl (M.1 90 0 (x + 2))), none]) (zq_inv n xs) := zo_drip (e + 25) hI (M.1 90 0 (x + 1)) (M.1 90 0 (x + 2))
  obtain ⟨v, M1, M2, e1, e2, e3⟩ := h
  obtain ⟨y, rfl⟩ := zka_int e1 (by first | exact Or.inl rfl | exact Or.inr rfl)
  have h90 := zk_run e1
  have l0 := zq_len hI.2.2.2.2.2.1 hn
  have l1 := zq_len (M := M1) (h90.trans hI.2.2.2.2.2.1) hn
  rw [zp_rfE] at e2
  refine ⟨M2, e3, ?_⟩
  rw [ze_L_law_1357]
  simp (disch := omega) only [↓zp_dn, ↓zp_hV, ↓zp_hI, ↓zp_hL, ↓zp_hR, ↓zp_hX, zp_eV, zp_eI, zp_eL, zp_eR, zp_eX, zp_eXl, zp_iV, zp_iI, zp_iL, zp_iR, ↓zp_sm, ↓zp_nls, ↓zp_nln, zp_bo0, zp_bo1, zp_okE, zp_ok2E, zp_rfE, ↓reduceIte, if_true, if_false, zp_leT, zp_leF, zp_ltT, zp_ltF, zp_eqT, zp_eqF, zp_leTl, zp_leFl, zp_ltTl, zp_ltFl, zp_leTr, zp_leFr, zp_ltTr, zp_ltFr, zp_eqTr, zp_eqFr, zp_eqTl, zp_eqFl, zp_eqFll, eq_self, zp_addl, zp_addr, zp_mull, zp_mulr, zp_subr, zp_subl, nI_add, pk_mul, l0, l1, h90, e1, e2]
theorem zl_1390 (e : Nat) {n : Nat} {xs : Nat → Int32} {M : zi_M} (hI : zq_inv n xs M) (hn : n ≤ 384) {x : Nat} (hx : x + 6 ≤ n) : ∃ M', zq_inv n xs M' ∧ zi_run (e + 31) zm_L_law 1390 [some (.inr (.inr (90, some 0))), some (.inr (.inr (9, some 0))), some (.inr (.inr (10, some 0))), some (.inl (nI x))] [] M = zi_run (e + 31) zm_L_law 1580 [some (.inr (.inr (90, some 0))), some (.inr (.inr (9, some 0))), some (.inr (.inr (10, some 0))), some (.inl (nI x))] [] M' := by
  have h : zp_ok (zi_run (e + 30) zm_X9_feathers 0 [some (.inr (.inr (9, some 0))), some (.inl (M.1 90 0 (x + 1))), some (.inl (M.1 90 0 (x + 2))), none, none, none, none] [] M) (zp_rf (e + 30) zm_X10_feathers [some (.inr (.inr (10, some 0))), some (.inl (M.1 90 0 (x + 1))), some (.inl (M.1 90 0 (x + 2))), none, none, none, none]) (zq_inv n xs) := zo_feathers (e + 25) hI (M.1 90 0 (x + 1)) (M.1 90 0 (x + 2))
  obtain ⟨v, M1, M2, e1, e2, e3⟩ := h
  obtain ⟨y, rfl⟩ := zka_int e1 (by first | exact Or.inl rfl | exact Or.inr rfl)
  have h90 := zk_run e1
  have l0 := zq_len hI.2.2.2.2.2.1 hn
  have l1 := zq_len (M := M1) (h90.trans hI.2.2.2.2.2.1) hn
  rw [zp_rfE] at e2
  refine ⟨M2, e3, ?_⟩
  rw [ze_L_law_1390]
  simp (disch := omega) only [↓zp_dn, ↓zp_hV, ↓zp_hI, ↓zp_hL, ↓zp_hR, ↓zp_hX, zp_eV, zp_eI, zp_eL, zp_eR, zp_eX, zp_eXl, zp_iV, zp_iI, zp_iL, zp_iR, ↓zp_sm, ↓zp_nls, ↓zp_nln, zp_bo0, zp_bo1, zp_okE, zp_ok2E, zp_rfE, ↓reduceIte, if_true, if_false, zp_leT, zp_leF, zp_ltT, zp_ltF, zp_eqT, zp_eqF, zp_leTl, zp_leFl, zp_ltTl, zp_ltFl, zp_leTr, zp_leFr, zp_ltTr, zp_ltFr, zp_eqTr, zp_eqFr, zp_eqTl, zp_eqFl, zp_eqFll, eq_self, zp_addl, zp_addr, zp_mull, zp_mulr, zp_subr, zp_subl, nI_add, pk_mul, l0, l1, h90, e1, e2]
theorem zl_1423 (e : Nat) {n : Nat} {xs : Nat → Int32} {M : zi_M} (hI : zq_inv n xs M) (hn : n ≤ 384) {x : Nat} (hx : x + 6 ≤ n) : ∃ M', zq_inv n xs M' ∧ zi_run (e + 31) zm_L_law 1423 [some (.inr (.inr (90, some 0))), some (.inr (.inr (9, some 0))), some (.inr (.inr (10, some 0))), some (.inl (nI x))] [] M = zi_run (e + 31) zm_L_law 1580 [some (.inr (.inr (90, some 0))), some (.inr (.inr (9, some 0))), some (.inr (.inr (10, some 0))), some (.inl (nI x))] [] M' := by
  have h : zp_ok (zi_run (e + 30) zm_X9_lots 0 [some (.inr (.inr (9, some 0))), some (.inl (M.1 90 0 (x + 1))), some (.inl (M.1 90 0 (x + 2))), some (.inl (M.1 90 0 (x + 3))), none, none, none, none, none, none] [] M) (zp_rf (e + 30) zm_X10_lots [some (.inr (.inr (10, some 0))), some (.inl (M.1 90 0 (x + 1))), some (.inl (M.1 90 0 (x + 2))), some (.inl (M.1 90 0 (x + 3))), none, none, none, none, none, none]) (zq_inv n xs) := zo_lots (e + 25) hI (M.1 90 0 (x + 1)) (M.1 90 0 (x + 2)) (M.1 90 0 (x + 3))
  obtain ⟨v, M1, M2, e1, e2, e3⟩ := h
  obtain ⟨y, rfl⟩ := zka_int e1 (by first | exact Or.inl rfl | exact Or.inr rfl)
  have h90 := zk_run e1
  have l0 := zq_len hI.2.2.2.2.2.1 hn
  have l1 := zq_len (M := M1) (h90.trans hI.2.2.2.2.2.1) hn
  rw [zp_rfE] at e2
  refine ⟨M2, e3, ?_⟩
  rw [ze_L_law_1423]
  simp (disch := omega) only [↓zp_dn, ↓zp_hV, ↓zp_hI, ↓zp_hL, ↓zp_hR, ↓zp_hX, zp_eV, zp_eI, zp_eL, zp_eR, zp_eX, zp_eXl, zp_iV, zp_iI, zp_iL, zp_iR, ↓zp_sm, ↓zp_nls, ↓zp_nln, zp_bo0, zp_bo1, zp_okE, zp_ok2E, zp_rfE, ↓reduceIte, if_true, if_false, zp_leT, zp_leF, zp_ltT, zp_ltF, zp_eqT, zp_eqF, zp_leTl, zp_leFl, zp_ltTl, zp_ltFl, zp_leTr, zp_leFr, zp_ltTr, zp_ltFr, zp_eqTr, zp_eqFr, zp_eqTl, zp_eqFl, zp_eqFll, eq_self, zp_addl, zp_addr, zp_mull, zp_mulr, zp_subr, zp_subl, nI_add, pk_mul, l0, l1, h90, e1, e2]
theorem zl_1466 (e : Nat) {n : Nat} {xs : Nat → Int32} {M : zi_M} (hI : zq_inv n xs M) (hn : n ≤ 384) {x : Nat} (hx : x + 6 ≤ n) : ∃ M', zq_inv n xs M' ∧ zi_run (e + 31) zm_L_law 1466 [some (.inr (.inr (90, some 0))), some (.inr (.inr (9, some 0))), some (.inr (.inr (10, some 0))), some (.inl (nI x))] [] M = zi_run (e + 31) zm_L_law 1580 [some (.inr (.inr (90, some 0))), some (.inr (.inr (9, some 0))), some (.inr (.inr (10, some 0))), some (.inl (nI x))] [] M' := by
  have h : zp_ok (zi_run (e + 30) zm_X9_asked 0 [some (.inr (.inr (9, some 0)))] [] M) (zp_rf (e + 30) zm_X10_asked [some (.inr (.inr (10, some 0)))]) (zq_inv n xs) := zo_asked (e + 25) hI
  obtain ⟨v, M1, M2, e1, e2, e3⟩ := h
  obtain ⟨y, rfl⟩ := zka_int e1 (by first | exact Or.inl rfl | exact Or.inr rfl)
  have h90 := zk_run e1
  have l0 := zq_len hI.2.2.2.2.2.1 hn
  have l1 := zq_len (M := M1) (h90.trans hI.2.2.2.2.2.1) hn
  rw [zp_rfE] at e2
  refine ⟨M2, e3, ?_⟩
  rw [ze_L_law_1466]
  simp (disch := omega) only [↓zp_dn, ↓zp_hV, ↓zp_hI, ↓zp_hL, ↓zp_hR, ↓zp_hX, zp_eV, zp_eI, zp_eL, zp_eR, zp_eX, zp_eXl, zp_iV, zp_iI, zp_iL, zp_iR, ↓zp_sm, ↓zp_nls, ↓zp_nln, zp_bo0, zp_bo1, zp_okE, zp_ok2E, zp_rfE, ↓reduceIte, if_true, if_false, zp_leT, zp_leF, zp_ltT, zp_ltF, zp_eqT, zp_eqF, zp_leTl, zp_leFl, zp_ltTl, zp_ltFl, zp_leTr, zp_leFr, zp_ltTr, zp_ltFr, zp_eqTr, zp_eqFr, zp_eqTl, zp_eqFl, zp_eqFll, eq_self, zp_addl, zp_addr, zp_mull, zp_mulr, zp_subr, zp_subl, nI_add, pk_mul, l0, l1, h90, e1, e2]
theorem zl_1479 (e : Nat) {n : Nat} {xs : Nat → Int32} {M : zi_M} (hI : zq_inv n xs M) (hn : n ≤ 384) {x : Nat} (hx : x + 6 ≤ n) : ∃ M', zq_inv n xs M' ∧ zi_run (e + 31) zm_L_law 1479 [some (.inr (.inr (90, some 0))), some (.inr (.inr (9, some 0))), some (.inr (.inr (10, some 0))), some (.inl (nI x))] [] M = zi_run (e + 31) zm_L_law 1580 [some (.inr (.inr (90, some 0))), some (.inr (.inr (9, some 0))), some (.inr (.inr (10, some 0))), some (.inl (nI x))] [] M' := by
  have h : zp_ok (zi_run (e + 30) zm_X9_upper 0 [some (.inr (.inr (9, some 0)))] [] M) (zp_rf (e + 30) zm_X10_upper [some (.inr (.inr (10, some 0)))]) (zq_inv n xs) := zo_upper (e + 25) hI
  obtain ⟨v, M1, M2, e1, e2, e3⟩ := h
  obtain ⟨y, rfl⟩ := zka_long e1 rfl
  have h90 := zk_run e1
  have l0 := zq_len hI.2.2.2.2.2.1 hn
  have l1 := zq_len (M := M1) (h90.trans hI.2.2.2.2.2.1) hn
  rw [zp_rfE] at e2
  refine ⟨M2, e3, ?_⟩
  rw [ze_L_law_1479]
  simp (disch := omega) only [↓zp_dn, ↓zp_hV, ↓zp_hI, ↓zp_hL, ↓zp_hR, ↓zp_hX, zp_eV, zp_eI, zp_eL, zp_eR, zp_eX, zp_eXl, zp_iV, zp_iI, zp_iL, zp_iR, ↓zp_sm, ↓zp_nls, ↓zp_nln, zp_bo0, zp_bo1, zp_okE, zp_ok2E, zp_rfE, ↓reduceIte, if_true, if_false, zp_leT, zp_leF, zp_ltT, zp_ltF, zp_eqT, zp_eqF, zp_leTl, zp_leFl, zp_ltTl, zp_ltFl, zp_leTr, zp_leFr, zp_ltTr, zp_ltFr, zp_eqTr, zp_eqFr, zp_eqTl, zp_eqFl, zp_eqFll, eq_self, zp_addl, zp_addr, zp_mull, zp_mulr, zp_subr, zp_subl, nI_add, pk_mul, l0, l1, h90, e1, e2, zp_cmp4]
theorem zl_1493 (e : Nat) {n : Nat} {xs : Nat → Int32} {M : zi_M} (hI : zq_inv n xs M) (hn : n ≤ 384) {x : Nat} (hx : x + 6 ≤ n) : ∃ M', zq_inv n xs M' ∧ zi_run (e + 31) zm_L_law 1493 [some (.inr (.inr (90, some 0))), some (.inr (.inr (9, some 0))), some (.inr (.inr (10, some 0))), some (.inl (nI x))] [] M = zi_run (e + 31) zm_L_law 1580 [some (.inr (.inr (90, some 0))), some (.inr (.inr (9, some 0))), some (.inr (.inr (10, some 0))), some (.inl (nI x))] [] M' := by
  have h : zp_ok (zi_run (e + 30) zm_X9_lower 0 [some (.inr (.inr (9, some 0)))] [] M) (zp_rf (e + 30) zm_X10_lower [some (.inr (.inr (10, some 0)))]) (zq_inv n xs) := zo_lower (e + 25) hI
  obtain ⟨v, M1, M2, e1, e2, e3⟩ := h
  obtain ⟨y, rfl⟩ := zka_long e1 rfl
  have h90 := zk_run e1
  have l0 := zq_len hI.2.2.2.2.2.1 hn
  have l1 := zq_len (M := M1) (h90.trans hI.2.2.2.2.2.1) hn
  rw [zp_rfE] at e2
  refine ⟨M2, e3, ?_⟩
  rw [ze_L_law_1493]
  simp (disch := omega) only [↓zp_dn, ↓zp_hV, ↓zp_hI, ↓zp_hL, ↓zp_hR, ↓zp_hX, zp_eV, zp_eI, zp_eL, zp_eR, zp_eX, zp_eXl, zp_iV, zp_iI, zp_iL, zp_iR, ↓zp_sm, ↓zp_nls, ↓zp_nln, zp_bo0, zp_bo1, zp_okE, zp_ok2E, zp_rfE, ↓reduceIte, if_true, if_false, zp_leT, zp_leF, zp_ltT, zp_ltF, zp_eqT, zp_eqF, zp_leTl, zp_leFl, zp_ltTl, zp_ltFl, zp_leTr, zp_leFr, zp_ltTr, zp_ltFr, zp_eqTr, zp_eqFr, zp_eqTl, zp_eqFl, zp_eqFll, eq_self, zp_addl, zp_addr, zp_mull, zp_mulr, zp_subr, zp_subl, nI_add, pk_mul, l0, l1, h90, e1, e2, zp_cmp4]
theorem zl_1507 (e : Nat) {n : Nat} {xs : Nat → Int32} {M : zi_M} (hI : zq_inv n xs M) (hn : n ≤ 384) {x : Nat} (hx : x + 6 ≤ n) : ∃ M', zq_inv n xs M' ∧ zi_run (e + 31) zm_L_law 1507 [some (.inr (.inr (90, some 0))), some (.inr (.inr (9, some 0))), some (.inr (.inr (10, some 0))), some (.inl (nI x))] [] M = zi_run (e + 31) zm_L_law 1580 [some (.inr (.inr (90, some 0))), some (.inr (.inr (9, some 0))), some (.inr (.inr (10, some 0))), some (.inl (nI x))] [] M' := by
  have h : zp_ok (zi_run (e + 30) zm_X9_count 0 [some (.inr (.inr (9, some 0))), some (.inl (M.1 90 0 (x + 1)))] [] M) (zp_rf (e + 30) zm_X10_count [some (.inr (.inr (10, some 0))), some (.inl (M.1 90 0 (x + 1)))]) (zq_inv n xs) := zo_count (e + 25) hI (M.1 90 0 (x + 1))
  obtain ⟨v, M1, M2, e1, e2, e3⟩ := h
  obtain ⟨y, rfl⟩ := zka_int e1 (by first | exact Or.inl rfl | exact Or.inr rfl)
  have h90 := zk_run e1
  have l0 := zq_len hI.2.2.2.2.2.1 hn
  have l1 := zq_len (M := M1) (h90.trans hI.2.2.2.2.2.1) hn
  rw [zp_rfE] at e2
  refine ⟨M2, e3, ?_⟩
  rw [ze_L_law_1507]
  simp (disch := omega) only [↓zp_dn, ↓zp_hV, ↓zp_hI, ↓zp_hL, ↓zp_hR, ↓zp_hX, zp_eV, zp_eI, zp_eL, zp_eR, zp_eX, zp_eXl, zp_iV, zp_iI, zp_iL, zp_iR, ↓zp_sm, ↓zp_nls, ↓zp_nln, zp_bo0, zp_bo1, zp_okE, zp_ok2E, zp_rfE, ↓reduceIte, if_true, if_false, zp_leT, zp_leF, zp_ltT, zp_ltF, zp_eqT, zp_eqF, zp_leTl, zp_leFl, zp_ltTl, zp_ltFl, zp_leTr, zp_leFr, zp_ltTr, zp_ltFr, zp_eqTr, zp_eqFr, zp_eqTl, zp_eqFl, zp_eqFll, eq_self, zp_addl, zp_addr, zp_mull, zp_mulr, zp_subr, zp_subl, nI_add, pk_mul, l0, l1, h90, e1, e2]
theorem zl_1530 (e : Nat) {n : Nat} {xs : Nat → Int32} {M : zi_M} (hI : zq_inv n xs M) (hn : n ≤ 384) {x : Nat} (hx : x + 6 ≤ n) : ∃ M', zq_inv n xs M' ∧ zi_run (e + 31) zm_L_law 1530 [some (.inr (.inr (90, some 0))), some (.inr (.inr (9, some 0))), some (.inr (.inr (10, some 0))), some (.inl (nI x))] [] M = zi_run (e + 31) zm_L_law 1580 [some (.inr (.inr (90, some 0))), some (.inr (.inr (9, some 0))), some (.inr (.inr (10, some 0))), some (.inl (nI x))] [] M' := by
  have h : zp_ok (zi_run (e + 30) zm_X9_finding 0 [some (.inr (.inr (9, some 0)))] [] M) (zp_rf (e + 30) zm_X10_finding [some (.inr (.inr (10, some 0)))]) (zq_inv n xs) := zo_finding (e + 25) hI
  obtain ⟨v, M1, M2, e1, e2, e3⟩ := h
  obtain ⟨y, rfl⟩ := zka_int e1 (by first | exact Or.inl rfl | exact Or.inr rfl)
  have h90 := zk_run e1
  have l0 := zq_len hI.2.2.2.2.2.1 hn
  have l1 := zq_len (M := M1) (h90.trans hI.2.2.2.2.2.1) hn
  rw [zp_rfE] at e2
  refine ⟨M2, e3, ?_⟩
  rw [ze_L_law_1530]
  simp (disch := omega) only [↓zp_dn, ↓zp_hV, ↓zp_hI, ↓zp_hL, ↓zp_hR, ↓zp_hX, zp_eV, zp_eI, zp_eL, zp_eR, zp_eX, zp_eXl, zp_iV, zp_iI, zp_iL, zp_iR, ↓zp_sm, ↓zp_nls, ↓zp_nln, zp_bo0, zp_bo1, zp_okE, zp_ok2E, zp_rfE, ↓reduceIte, if_true, if_false, zp_leT, zp_leF, zp_ltT, zp_ltF, zp_eqT, zp_eqF, zp_leTl, zp_leFl, zp_ltTl, zp_ltFl, zp_leTr, zp_leFr, zp_ltTr, zp_ltFr, zp_eqTr, zp_eqFr, zp_eqTl, zp_eqFl, zp_eqFll, eq_self, zp_addl, zp_addr, zp_mull, zp_mulr, zp_subr, zp_subl, nI_add, pk_mul, l0, l1, h90, e1, e2]
theorem zl_1543 (e : Nat) {n : Nat} {xs : Nat → Int32} {M : zi_M} (hI : zq_inv n xs M) (hn : n ≤ 384) {x : Nat} (hx : x + 6 ≤ n) : ∃ M', zq_inv n xs M' ∧ zi_run (e + 31) zm_L_law 1543 [some (.inr (.inr (90, some 0))), some (.inr (.inr (9, some 0))), some (.inr (.inr (10, some 0))), some (.inl (nI x))] [] M = zi_run (e + 31) zm_L_law 1580 [some (.inr (.inr (90, some 0))), some (.inr (.inr (9, some 0))), some (.inr (.inr (10, some 0))), some (.inl (nI x))] [] M' := by
  have h : zp_ok (zi_run (e + 30) zm_X9_findings 0 [some (.inr (.inr (9, some 0))), some (.inl (M.1 90 0 (x + 1)))] [] M) (zp_rf (e + 30) zm_X10_findings [some (.inr (.inr (10, some 0))), some (.inl (M.1 90 0 (x + 1)))]) (zq_inv n xs) := zo_findings (e + 25) hI (M.1 90 0 (x + 1))
  obtain ⟨v, M1, M2, e1, e2, e3⟩ := h
  obtain ⟨y, rfl⟩ := zka_int e1 (by first | exact Or.inl rfl | exact Or.inr rfl)
  have h90 := zk_run e1
  have l0 := zq_len hI.2.2.2.2.2.1 hn
  have l1 := zq_len (M := M1) (h90.trans hI.2.2.2.2.2.1) hn
  rw [zp_rfE] at e2
  refine ⟨M2, e3, ?_⟩
  rw [ze_L_law_1543]
  simp (disch := omega) only [↓zp_dn, ↓zp_hV, ↓zp_hI, ↓zp_hL, ↓zp_hR, ↓zp_hX, zp_eV, zp_eI, zp_eL, zp_eR, zp_eX, zp_eXl, zp_iV, zp_iI, zp_iL, zp_iR, ↓zp_sm, ↓zp_nls, ↓zp_nln, zp_bo0, zp_bo1, zp_okE, zp_ok2E, zp_rfE, ↓reduceIte, if_true, if_false, zp_leT, zp_leF, zp_ltT, zp_ltF, zp_eqT, zp_eqF, zp_leTl, zp_leFl, zp_ltTl, zp_ltFl, zp_leTr, zp_leFr, zp_ltTr, zp_ltFr, zp_eqTr, zp_eqFr, zp_eqTl, zp_eqFl, zp_eqFll, eq_self, zp_addl, zp_addr, zp_mull, zp_mulr, zp_subr, zp_subl, nI_add, pk_mul, l0, l1, h90, e1, e2]
theorem zl_1566 (e : Nat) {n : Nat} {xs : Nat → Int32} {M : zi_M} (hI : zq_inv n xs M) (hn : n ≤ 384) {x : Nat} (hx : x + 6 ≤ n) : ∃ M', zq_inv n xs M' ∧ zi_run (e + 31) zm_L_law 1566 [some (.inr (.inr (90, some 0))), some (.inr (.inr (9, some 0))), some (.inr (.inr (10, some 0))), some (.inl (nI x))] [] M = zi_run (e + 31) zm_L_law 1580 [some (.inr (.inr (90, some 0))), some (.inr (.inr (9, some 0))), some (.inr (.inr (10, some 0))), some (.inl (nI x))] [] M' := by
  have h : zp_ok (zi_run (e + 30) zm_X9_digest 0 [some (.inr (.inr (9, some 0))), none, none, none, none, none] [] M) (zp_rf (e + 30) zm_X10_digest [some (.inr (.inr (10, some 0))), none, none, none, none]) (zq_inv n xs) := zo_digest (e + 25) hI
  obtain ⟨v, M1, M2, e1, e2, e3⟩ := h
  obtain ⟨y, rfl⟩ := zka_long e1 rfl
  have h90 := zk_run e1
  have l0 := zq_len hI.2.2.2.2.2.1 hn
  have l1 := zq_len (M := M1) (h90.trans hI.2.2.2.2.2.1) hn
  rw [zp_rfE] at e2
  refine ⟨M2, e3, ?_⟩
  rw [ze_L_law_1566]
  simp (disch := omega) only [↓zp_dn, ↓zp_hV, ↓zp_hI, ↓zp_hL, ↓zp_hR, ↓zp_hX, zp_eV, zp_eI, zp_eL, zp_eR, zp_eX, zp_eXl, zp_iV, zp_iI, zp_iL, zp_iR, ↓zp_sm, ↓zp_nls, ↓zp_nln, zp_bo0, zp_bo1, zp_okE, zp_ok2E, zp_rfE, ↓reduceIte, if_true, if_false, zp_leT, zp_leF, zp_ltT, zp_ltF, zp_eqT, zp_eqF, zp_leTl, zp_leFl, zp_ltTl, zp_ltFl, zp_leTr, zp_leFr, zp_ltTr, zp_ltFr, zp_eqTr, zp_eqFr, zp_eqTl, zp_eqFl, zp_eqFll, eq_self, zp_addl, zp_addr, zp_mull, zp_mulr, zp_subr, zp_subl, nI_add, pk_mul, l0, l1, h90, e1, e2, zp_cmp4]
def zl_T : List Nat := [236, 269, 312, 345, 368, 431, 454, 487, 530, 553, 576, 609, 642, 675, 698, 731, 764, 787, 800, 823, 846, 869, 902, 935, 968, 991, 1024, 1067, 1090, 1113, 1136, 1159, 1182, 1215, 1258, 1291, 1324, 1357, 1390, 1423, 1466, 1479, 1493, 1507, 1530, 1543, 1566, 1580]
def zl_A : Array Int := #[203, 236, 279, 312, 335, 398, 421, 454, 497, 520, 543, 576, 609, 642, 665, 698, 731, 754, 767, 790, 813, 836, 869, 902, 935, 958, 991, 1034, 1057, 1080, 1103, 1126, 1149, 1182, 1225, 1258, 1291, 1324, 1357, 1390, 1433, 1446, 1460, 1474, 1497, 1510, 1533]
theorem zl_to {o : Int} {t : Nat} (h : (33 : Int) + o = Int.ofNat t) (K : Nat → zi_O) : zi_to 33 o K = K t := by
  unfold zi_to
  rw [show ((33 : Nat) : Int) + o = Int.ofNat t from h]
theorem zl_AT : ∀ i : Fin 47, ∃ t, t ∈ zl_T ∧ (33 : Int) + zl_A[i] = Int.ofNat t := by decide +kernel
theorem zl_sw (y : Int32) (K : Nat → zi_O) : ∃ t, t ∈ zl_T ∧ zi_sw y 1547 0 46 zl_A (fun off => zi_to 33 off K) = K t := by
  unfold zi_sw
  have d : zi_to 33 1547 K = K 1580 := zl_to (by decide) K
  have m : 1580 ∈ zl_T := by decide
  by_cases h0 : y.toInt < 0
  · rw [if_pos h0]; exact ⟨1580, m, d⟩
  · rw [if_neg h0]
    by_cases h1 : 46 < y.toInt
    · rw [if_pos h1]; exact ⟨1580, m, d⟩
    · rw [if_neg h1]
      have hi : (y.toInt - 0).toNat < 47 := by omega
      have hi' : (y.toInt - 0).toNat < zl_A.size := hi
      rw [Array.getElem?_eq_getElem hi']
      obtain ⟨t, ht, e⟩ := zl_AT ⟨(y.toInt - 0).toNat, hi⟩
      exact ⟨t, ht, zl_to e K⟩
theorem zl_case (e : Nat) {n : Nat} {xs : Nat → Int32} {M : zi_M} (hI : zq_inv n xs M) (hn : n ≤ 384) {x : Nat} (hx : x + 6 ≤ n) {t : Nat} (ht : t ∈ zl_T) : ∃ M', zq_inv n xs M' ∧ zi_run (e + 31) zm_L_law t (zi_kc zm_L_law t [some (.inr (.inr (90, some 0))), some (.inr (.inr (9, some 0))), some (.inr (.inr (10, some 0))), some (.inl (nI x))]) [] M = zi_run (e + 31) zm_L_law 1580 [some (.inr (.inr (90, some 0))), some (.inr (.inr (9, some 0))), some (.inr (.inr (10, some 0))), some (.inl (nI x))] [] M' := by
  simp only [zl_T, List.mem_cons, List.not_mem_nil, or_false] at ht
  rcases ht with rfl | rfl | rfl | rfl | rfl | rfl | rfl | rfl | rfl | rfl | rfl | rfl | rfl | rfl | rfl | rfl | rfl | rfl | rfl | rfl | rfl | rfl | rfl | rfl | rfl | rfl | rfl | rfl | rfl | rfl | rfl | rfl | rfl | rfl | rfl | rfl | rfl | rfl | rfl | rfl | rfl | rfl | rfl | rfl | rfl | rfl | rfl | rfl
  · exact zl_236 e hI hn hx
  · exact zl_269 e hI hn hx
  · exact zl_312 e hI hn hx
  · exact zl_345 e hI hn hx
  · exact zl_368 e hI hn hx
  · exact zl_431 e hI hn hx
  · exact zl_454 e hI hn hx
  · exact zl_487 e hI hn hx
  · exact zl_530 e hI hn hx
  · exact zl_553 e hI hn hx
  · exact zl_576 e hI hn hx
  · exact zl_609 e hI hn hx
  · exact zl_642 e hI hn hx
  · exact zl_675 e hI hn hx
  · exact zl_698 e hI hn hx
  · exact zl_731 e hI hn hx
  · exact zl_764 e hI hn hx
  · exact zl_787 e hI hn hx
  · exact zl_800 e hI hn hx
  · exact zl_823 e hI hn hx
  · exact zl_846 e hI hn hx
  · exact zl_869 e hI hn hx
  · exact zl_902 e hI hn hx
  · exact zl_935 e hI hn hx
  · exact zl_968 e hI hn hx
  · exact zl_991 e hI hn hx
  · exact zl_1024 e hI hn hx
  · exact zl_1067 e hI hn hx
  · exact zl_1090 e hI hn hx
  · exact zl_1113 e hI hn hx
  · exact zl_1136 e hI hn hx
  · exact zl_1159 e hI hn hx
  · exact zl_1182 e hI hn hx
  · exact zl_1215 e hI hn hx
  · exact zl_1258 e hI hn hx
  · exact zl_1291 e hI hn hx
  · exact zl_1324 e hI hn hx
  · exact zl_1357 e hI hn hx
  · exact zl_1390 e hI hn hx
  · exact zl_1423 e hI hn hx
  · exact zl_1466 e hI hn hx
  · exact zl_1479 e hI hn hx
  · exact zl_1493 e hI hn hx
  · exact zl_1507 e hI hn hx
  · exact zl_1530 e hI hn hx
  · exact zl_1543 e hI hn hx
  · exact zl_1566 e hI hn hx
  · exact ⟨M, hI, rfl⟩
theorem zl_neg {n x : Nat} (hn : n < 6) (hx : x ≤ 400) : nI n - 6 < nI x := by
  have a : nI n - 6 < 0 := by
    have h : n = 0 ∨ n = 1 ∨ n = 2 ∨ n = 3 ∨ n = 4 ∨ n = 5 := by omega
    rcases h with q | q | q | q | q | q <;> subst q <;> decide
  have b : (0 : Int32) ≤ nI x := by simp (disch := omega) only [zp_leT, zp_leF, zp_ltT, zp_ltF, zp_eqT, zp_eqF, zp_leTl, zp_leFl, zp_ltTl, zp_ltFl, zp_leTr, zp_leFr, zp_ltTr, zp_ltFr, zp_eqTr, zp_eqFr, zp_eqTl, zp_eqFl, zp_eqFll, eq_self, zp_addl, zp_addr, zp_mull, zp_mulr, zp_subr, zp_subl, nI_add, pk_mul]
  exact Int32.lt_of_lt_of_le a b
theorem zl_law (e : Nat) {n : Nat} {xs : Nat → Int32} (hn : n ≤ 384) : ∀ (m x : Nat) (M : zi_M), n ≤ x + 6 * m → x ≤ 400 → zq_inv n xs M → ∃ M', zi_run (e + 31) zm_L_law 18 [some (.inr (.inr (90, some 0))), some (.inr (.inr (9, some 0))), some (.inr (.inr (10, some 0))), some (.inl (nI x))] [] M = some (some (.inl 1), M') := by
  intro m
  induction m with
  | zero =>
    intro x M hm hx hI
    have l0 := zq_len hI.2.2.2.2.2.1 hn
    refine ⟨M, ?_⟩
    have lt : nI n - 6 < nI x := by
      by_cases h6 : 6 ≤ n
      · rw [show (6 : Int32) = nI 6 from rfl, pk_sub h6]
        simp (disch := omega) only [zp_leT, zp_leF, zp_ltT, zp_ltF, zp_eqT, zp_eqF, zp_leTl, zp_leFl, zp_ltTl, zp_ltFl, zp_leTr, zp_leFr, zp_ltTr, zp_ltFr, zp_eqTr, zp_eqFr, zp_eqTl, zp_eqFl, zp_eqFll, eq_self, zp_addl, zp_addr, zp_mull, zp_mulr, zp_subr, zp_subl, nI_add, pk_mul]
      · exact zl_neg (by omega) (by omega)
    rw [ze_L_law_18, l0, zp_ofn, if_pos lt]
  | succ m ih =>
    intro x M hm hx hI
    have l0 := zq_len hI.2.2.2.2.2.1 hn
    by_cases hb : x + 6 ≤ n
    · obtain ⟨t, ht, et⟩ := zl_sw (M.1 90 0 x &&& 63) (fun t => zi_run (e + 31) zm_L_law t (zi_kc zm_L_law t [some (.inr (.inr (90, some 0))), some (.inr (.inr (9, some 0))), some (.inr (.inr (10, some 0))), some (.inl (nI x))]) [] M)
      obtain ⟨M1, h1, h2⟩ := zl_case e hI hn hb ht
      obtain ⟨M', h3⟩ := ih (x + 6) M1 (by omega) (by omega) h1
      refine ⟨M', ?_⟩
      refine Eq.trans ?_ h3
      have nlt : ¬ nI n - 6 < nI x := by
        rw [show (6 : Int32) = nI 6 from rfl, pk_sub (by omega)]
        intro q
        simp (disch := omega) only [zp_leT, zp_leF, zp_ltT, zp_ltF, zp_eqT, zp_eqF, zp_leTl, zp_leFl, zp_ltTl, zp_ltFl, zp_leTr, zp_leFr, zp_ltTr, zp_ltFr, zp_eqTr, zp_eqFr, zp_eqTl, zp_eqFl, zp_eqFll, eq_self, zp_addl, zp_addr, zp_mull, zp_mulr, zp_subr, zp_subl, nI_add, pk_mul] at q
      rw [ze_L_law_18, l0, zp_ofn, if_neg nlt]
      have e6 : zi_run (e + 31) zm_L_law 1580 [some (.inr (.inr (90, some 0))), some (.inr (.inr (9, some 0))), some (.inr (.inr (10, some 0))), some (.inl (nI x))] [] M1 = zi_run (e + 31) zm_L_law 18 [some (.inr (.inr (90, some 0))), some (.inr (.inr (9, some 0))), some (.inr (.inr (10, some 0))), some (.inl (nI (x + 6)))] [] M1 := by
        rw [ze_L_law_1580]
        simp (disch := omega) only [zp_leT, zp_leF, zp_ltT, zp_ltF, zp_eqT, zp_eqF, zp_leTl, zp_leFl, zp_ltTl, zp_ltFl, zp_leTr, zp_leFr, zp_ltTr, zp_ltFr, zp_eqTr, zp_eqFr, zp_eqTl, zp_eqFl, zp_eqFll, eq_self, zp_addl, zp_addr, zp_mull, zp_mulr, zp_subr, zp_subl, nI_add, pk_mul]
      refine Eq.trans ?_ ((et.trans h2).trans e6)
      simp (disch := omega) only [↓zp_dn, ↓zp_hV, ↓zp_hI, ↓zp_hL, ↓zp_hR, ↓zp_hX, zp_eV, zp_eI, zp_eL, zp_eR, zp_eX, zp_eXl, zp_iV, zp_iI, zp_iL, zp_iR, ↓zp_sm, ↓zp_nls, ↓zp_nln, zp_bo0, zp_bo1, zp_okE, zp_ok2E, zp_rfE, ↓reduceIte, if_true, if_false, zp_leT, zp_leF, zp_ltT, zp_ltF, zp_eqT, zp_eqF, zp_leTl, zp_leFl, zp_ltTl, zp_ltFl, zp_leTr, zp_leFr, zp_ltTr, zp_ltFr, zp_eqTr, zp_eqFr, zp_eqTl, zp_eqFl, zp_eqFll, eq_self, zp_addl, zp_addr, zp_mull, zp_mulr, zp_subr, zp_subl, nI_add, pk_mul]
      rfl
    · refine ⟨M, ?_⟩
      have lt : nI n - 6 < nI x := by
        by_cases h6 : 6 ≤ n
        · rw [show (6 : Int32) = nI 6 from rfl, pk_sub h6]
          simp (disch := omega) only [zp_leT, zp_leF, zp_ltT, zp_ltF, zp_eqT, zp_eqF, zp_leTl, zp_leFl, zp_ltTl, zp_ltFl, zp_leTr, zp_leFr, zp_ltTr, zp_ltFr, zp_eqTr, zp_eqFr, zp_eqTl, zp_eqFl, zp_eqFll, eq_self, zp_addl, zp_addr, zp_mull, zp_mulr, zp_subr, zp_subl, nI_add, pk_mul]
        · exact zl_neg (by omega) (by omega)
      rw [ze_L_law_18, l0, zp_ofn, if_pos lt]
theorem zl_Law : zp_Law := by
  intro n xs hn
  obtain ⟨M', h⟩ := zl_law 69 hn 64 0 (zi_M0 n xs) (by omega) (by omega) (zq_start n xs)
  refine ⟨M', ?_⟩
  rw [ze_L_law_16]
  exact h
