/-! THE PURE PART: count, digest -/
def zn_n (P : Nat → Bool) : Nat → Nat
  | 0 => 0
  | k + 1 => zn_n P k + (if P k then 1 else 0)
theorem zn_n_le (P : Nat → Bool) (k : Nat) : zn_n P k ≤ k := by
  induction k with
  | zero => exact Nat.le_refl 0
  | succ k ih => simp only [zn_n]; split <;> omega
theorem zn_n_c {P Q : Nat → Bool} {k : Nat} (h : ∀ j, j < k → P j = Q j) : zn_n P k = zn_n Q k := by
  induction k with
  | zero => rfl
  | succ k ih => simp only [zn_n]; rw [ih (fun j hj => h j (by omega)), h k (by omega)]
abbrev zn_o (K : zf_K) : Nat → Bool := fun i => decide (zf_ofk (K.2.2.1 i).1 1)
abbrev zn_r (f : Nat → Int32) : Nat → Bool := fun j => !decide (f j < 0)
abbrev zn_k (f : Nat → Int32) : Nat → Bool := fun j => !decide (f j = 0)
theorem zc_old (d : Nat) {M : zi_M} {A : zf_A} {K : zf_K} (hS : zq_sky M A K) : zi_run (d + 1) zm_X6_oldOnes 0 [some (.inr (.inr (6, some 0))), none, none] [] M = some (some (.inl (nI (zn_n (zn_o K) K.2.1))), M) := by
  have h4 := hS.2.1.1
  have e4 := hS.2.2.2.1.2.1
  rw [ze_X6_oldOnes_0]
  refine zp_for (fun i => zi_run (d + 1) zm_X6_oldOnes 4 [some (.inr (.inr (6, some 0))), some (.inl (nI (zn_n (zn_o K) i))), some (.inl (nI i))] [] M) K.2.1 (some (some (.inl (nI (zn_n (zn_o K) K.2.1))), M)) ?_ ?_ 0 (Nat.zero_le _)
  · rw [ze_X6_oldOnes_4]
    simp (disch := omega) only [↓zp_dn, ↓zp_hV, ↓zp_hI, ↓zp_hL, ↓zp_hR, ↓zp_hX, zp_eV, zp_eI, zp_eL, zp_eR, zp_eX, zp_eXl, zp_iV, zp_iI, zp_iL, zp_iR, ↓zp_sm, ↓zp_nls, ↓zp_nln, zp_bo0, zp_bo1, zp_okE, zp_ok2E, zp_rfE, ↓reduceIte, if_true, if_false, zp_leT, zp_leF, zp_ltT, zp_ltF, zp_eqT, zp_eqF, zp_leTl, zp_leFl, zp_ltTl, zp_ltFl, zp_leTr, zp_leFr, zp_ltTr, zp_ltFr, zp_eqTr, zp_eqFr, zp_eqTl, zp_eqFl, zp_eqFll, eq_self, zp_addl, zp_addr, zp_mull, zp_mulr, zp_subr, zp_subl, nI_add, pk_mul, e4]
  · intro i hi
    have hle := zn_n_le (zn_o K) i
    have b1 : M.1 1 (4 * 0 + i) 1 = (K.2.2.1 i).1 := (hS.2.2.2.1.2.2.2.1 i hi).1
    have hk : ∀ e, zi_run e zm_X9_isOfKind 0 [some (.inl (K.2.2.1 i).1), some (.inl 1)] [] M = _ := fun e => zc_isOfKind e M (K.2.2.1 i).1 (a := 1) (by omega)
    rw [ze_X6_oldOnes_4, zn_n]
    by_cases ho : zf_ofk (K.2.2.1 i).1 1
    · simp (disch := omega) only [↓zp_dn, ↓zp_hV, ↓zp_hI, ↓zp_hL, ↓zp_hR, ↓zp_hX, zp_eV, zp_eI, zp_eL, zp_eR, zp_eX, zp_eXl, zp_iV, zp_iI, zp_iL, zp_iR, ↓zp_sm, ↓zp_nls, ↓zp_nln, zp_bo0, zp_bo1, zp_okE, zp_ok2E, zp_rfE, ↓reduceIte, if_true, if_false, zp_leT, zp_leF, zp_ltT, zp_ltF, zp_eqT, zp_eqF, zp_leTl, zp_leFl, zp_ltTl, zp_ltFl, zp_leTr, zp_leFr, zp_ltTr, zp_ltFr, zp_eqTr, zp_eqFr, zp_eqTl, zp_eqFl, zp_eqFll, eq_self, zp_addl, zp_addr, zp_mull, zp_mulr, zp_subr, zp_subl, nI_add, pk_mul, e4, b1, hk, if_pos ho, zp_1n0, ze_X6_oldOnes_36, decide_eq_true ho]
    · simp (disch := omega) only [↓zp_dn, ↓zp_hV, ↓zp_hI, ↓zp_hL, ↓zp_hR, ↓zp_hX, zp_eV, zp_eI, zp_eL, zp_eR, zp_eX, zp_eXl, zp_iV, zp_iI, zp_iL, zp_iR, ↓zp_sm, ↓zp_nls, ↓zp_nln, zp_bo0, zp_bo1, zp_okE, zp_ok2E, zp_rfE, ↓reduceIte, if_true, if_false, zp_leT, zp_leF, zp_ltT, zp_ltF, zp_eqT, zp_eqF, zp_leTl, zp_leFl, zp_ltTl, zp_ltFl, zp_leTr, zp_leFr, zp_ltTr, zp_ltFr, zp_eqTr, zp_eqFr, zp_eqTl, zp_eqFl, zp_eqFll, eq_self, zp_addl, zp_addr, zp_mull, zp_mulr, zp_subr, zp_subl, nI_add, pk_mul, e4, b1, hk, if_neg ho, ze_X6_oldOnes_36, decide_eq_false ho, Bool.false_eq_true, Nat.add_zero]
theorem zc_there (d : Nat) (M : zi_M) : zi_run (d + 1) zm_X9_thereOf 0 [some (.inr (.inr (19, some 0))), none, none] [] M = some (some (.inl (nI (zn_n (zn_r (fun j => M.1 5 j 1)) 6))), M) := by
  rw [ze_X9_thereOf_0_19]
  refine zp_for (fun i => zi_run (d + 1) zm_X9_thereOf 4 [some (.inr (.inr (19, some 0))), some (.inl (nI (zn_n (zn_r (fun j => M.1 5 j 1)) i))), some (.inl (nI i))] [] M) 6 (some (some (.inl (nI (zn_n (zn_r (fun j => M.1 5 j 1)) 6))), M)) ?_ ?_ 0 (Nat.zero_le _)
  · rw [ze_X9_thereOf_4_19]
    simp (disch := omega) only [↓zp_dn, ↓zp_hV, ↓zp_hI, ↓zp_hL, ↓zp_hR, ↓zp_hX, zp_eV, zp_eI, zp_eL, zp_eR, zp_eX, zp_eXl, zp_iV, zp_iI, zp_iL, zp_iR, ↓zp_sm, ↓zp_nls, ↓zp_nln, zp_bo0, zp_bo1, zp_okE, zp_ok2E, zp_rfE, ↓reduceIte, if_true, if_false, zp_leT, zp_leF, zp_ltT, zp_ltF, zp_eqT, zp_eqF, zp_leTl, zp_leFl, zp_ltTl, zp_ltFl, zp_leTr, zp_leFr, zp_ltTr, zp_ltFr, zp_eqTr, zp_eqFr, zp_eqTl, zp_eqFl, zp_eqFll, eq_self, zp_addl, zp_addr, zp_mull, zp_mulr, zp_subr, zp_subl, nI_add, pk_mul]
  · intro i hi
    have hle := zn_n_le (zn_r (fun j => M.1 5 j 1)) i
    rw [ze_X9_thereOf_4_19, zn_n]
    by_cases ho : M.1 5 i 1 < 0
    · have hq : zn_r (fun j => M.1 5 j 1) i = false := by simp [zn_r, ho]
      simp (disch := omega) only [↓zp_dn, ↓zp_hV, ↓zp_hI, ↓zp_hL, ↓zp_hR, ↓zp_hX, zp_eV, zp_eI, zp_eL, zp_eR, zp_eX, zp_eXl, zp_iV, zp_iI, zp_iL, zp_iR, ↓zp_sm, ↓zp_nls, ↓zp_nln, zp_bo0, zp_bo1, zp_okE, zp_ok2E, zp_rfE, ↓reduceIte, if_true, if_false, zp_leT, zp_leF, zp_ltT, zp_ltF, zp_eqT, zp_eqF, zp_leTl, zp_leFl, zp_ltTl, zp_ltFl, zp_leTr, zp_leFr, zp_ltTr, zp_ltFr, zp_eqTr, zp_eqFr, zp_eqTl, zp_eqFl, zp_eqFll, eq_self, zp_addl, zp_addr, zp_mull, zp_mulr, zp_subr, zp_subl, nI_add, pk_mul, ze_X5_isThere_0, if_pos ho, ze_X9_thereOf_22_19, hq, Bool.false_eq_true, Nat.add_zero]
    · have hq : zn_r (fun j => M.1 5 j 1) i = true := by simp [zn_r, ho]
      simp (disch := omega) only [↓zp_dn, ↓zp_hV, ↓zp_hI, ↓zp_hL, ↓zp_hR, ↓zp_hX, zp_eV, zp_eI, zp_eL, zp_eR, zp_eX, zp_eXl, zp_iV, zp_iI, zp_iL, zp_iR, ↓zp_sm, ↓zp_nls, ↓zp_nln, zp_bo0, zp_bo1, zp_okE, zp_ok2E, zp_rfE, ↓reduceIte, if_true, if_false, zp_leT, zp_leF, zp_ltT, zp_ltF, zp_eqT, zp_eqF, zp_leTl, zp_leFl, zp_ltTl, zp_ltFl, zp_leTr, zp_leFr, zp_ltTr, zp_ltFr, zp_eqTr, zp_eqFr, zp_eqTl, zp_eqFl, zp_eqFll, eq_self, zp_addl, zp_addr, zp_mull, zp_mulr, zp_subr, zp_subl, nI_add, pk_mul, ze_X5_isThere_0, if_neg ho, zp_1n0, ze_X9_thereOf_22_19, hq]
theorem zc_thereT (d : Nat) (M : zi_M) : zi_run (d + 1) zm_X9_thereOf 0 [some (.inr (.inr (20, some 0))), none, none] [] M = some (some (.inl (nI (zn_n (zn_r (fun j => M.1 5 (6 + j) 1)) 4))), M) := by
  rw [ze_X9_thereOf_0_20]
  refine zp_for (fun i => zi_run (d + 1) zm_X9_thereOf 4 [some (.inr (.inr (20, some 0))), some (.inl (nI (zn_n (zn_r (fun j => M.1 5 (6 + j) 1)) i))), some (.inl (nI i))] [] M) 4 (some (some (.inl (nI (zn_n (zn_r (fun j => M.1 5 (6 + j) 1)) 4))), M)) ?_ ?_ 0 (Nat.zero_le _)
  · rw [ze_X9_thereOf_4_20]
    simp (disch := omega) only [↓zp_dn, ↓zp_hV, ↓zp_hI, ↓zp_hL, ↓zp_hR, ↓zp_hX, zp_eV, zp_eI, zp_eL, zp_eR, zp_eX, zp_eXl, zp_iV, zp_iI, zp_iL, zp_iR, ↓zp_sm, ↓zp_nls, ↓zp_nln, zp_bo0, zp_bo1, zp_okE, zp_ok2E, zp_rfE, ↓reduceIte, if_true, if_false, zp_leT, zp_leF, zp_ltT, zp_ltF, zp_eqT, zp_eqF, zp_leTl, zp_leFl, zp_ltTl, zp_ltFl, zp_leTr, zp_leFr, zp_ltTr, zp_ltFr, zp_eqTr, zp_eqFr, zp_eqTl, zp_eqFl, zp_eqFll, eq_self, zp_addl, zp_addr, zp_mull, zp_mulr, zp_subr, zp_subl, nI_add, pk_mul]
  · intro i hi
    have hle := zn_n_le (zn_r (fun j => M.1 5 (6 + j) 1)) i
    rw [ze_X9_thereOf_4_20, zn_n]
    by_cases ho : M.1 5 (6 + i) 1 < 0
    · have hq : zn_r (fun j => M.1 5 (6 + j) 1) i = false := by simp [zn_r, ho]
      simp (disch := omega) only [↓zp_dn, ↓zp_hV, ↓zp_hI, ↓zp_hL, ↓zp_hR, ↓zp_hX, zp_eV, zp_eI, zp_eL, zp_eR, zp_eX, zp_eXl, zp_iV, zp_iI, zp_iL, zp_iR, ↓zp_sm, ↓zp_nls, ↓zp_nln, zp_bo0, zp_bo1, zp_okE, zp_ok2E, zp_rfE, ↓reduceIte, if_true, if_false, zp_leT, zp_leF, zp_ltT, zp_ltF, zp_eqT, zp_eqF, zp_leTl, zp_leFl, zp_ltTl, zp_ltFl, zp_leTr, zp_leFr, zp_ltTr, zp_ltFr, zp_eqTr, zp_eqFr, zp_eqTl, zp_eqFl, zp_eqFll, eq_self, zp_addl, zp_addr, zp_mull, zp_mulr, zp_subr, zp_subl, nI_add, pk_mul, ze_X5_isThere_0, if_pos ho, ze_X9_thereOf_22_20, hq, Bool.false_eq_true, Nat.add_zero]
    · have hq : zn_r (fun j => M.1 5 (6 + j) 1) i = true := by simp [zn_r, ho]
      simp (disch := omega) only [↓zp_dn, ↓zp_hV, ↓zp_hI, ↓zp_hL, ↓zp_hR, ↓zp_hX, zp_eV, zp_eI, zp_eL, zp_eR, zp_eX, zp_eXl, zp_iV, zp_iI, zp_iL, zp_iR, ↓zp_sm, ↓zp_nls, ↓zp_nln, zp_bo0, zp_bo1, zp_okE, zp_ok2E, zp_rfE, ↓reduceIte, if_true, if_false, zp_leT, zp_leF, zp_ltT, zp_ltF, zp_eqT, zp_eqF, zp_leTl, zp_leFl, zp_ltTl, zp_ltFl, zp_leTr, zp_leFr, zp_ltTr, zp_ltFr, zp_eqTr, zp_eqFr, zp_eqTl, zp_eqFl, zp_eqFll, eq_self, zp_addl, zp_addr, zp_mull, zp_mulr, zp_subr, zp_subl, nI_add, pk_mul, ze_X5_isThere_0, if_neg ho, zp_1n0, ze_X9_thereOf_22_20, hq]
theorem zc_keptS (d : Nat) (M : zi_M) : zi_run d zm_X9_keptSkies 0 [some (.inr (.inr (9, some 0))), none, none] [] M = some (some (.inl (nI (zn_n (zn_k (fun j => M.1 6 (1 + j) 3)) 3))), M) := by
  rw [ze_X9_keptSkies_0]
  refine zp_for (fun i => zi_run d zm_X9_keptSkies 4 [some (.inr (.inr (9, some 0))), some (.inl (nI (zn_n (zn_k (fun j => M.1 6 (1 + j) 3)) i))), some (.inl (nI i))] [] M) 3 (some (some (.inl (nI (zn_n (zn_k (fun j => M.1 6 (1 + j) 3)) 3))), M)) ?_ ?_ 0 (Nat.zero_le _)
  · rw [ze_X9_keptSkies_4]
    simp (disch := omega) only [↓zp_dn, ↓zp_hV, ↓zp_hI, ↓zp_hL, ↓zp_hR, ↓zp_hX, zp_eV, zp_eI, zp_eL, zp_eR, zp_eX, zp_eXl, zp_iV, zp_iI, zp_iL, zp_iR, ↓zp_sm, ↓zp_nls, ↓zp_nln, zp_bo0, zp_bo1, zp_okE, zp_ok2E, zp_rfE, ↓reduceIte, if_true, if_false, zp_leT, zp_leF, zp_ltT, zp_ltF, zp_eqT, zp_eqF, zp_leTl, zp_leFl, zp_ltTl, zp_ltFl, zp_leTr, zp_leFr, zp_ltTr, zp_ltFr, zp_eqTr, zp_eqFr, zp_eqTl, zp_eqFl, zp_eqFll, eq_self, zp_addl, zp_addr, zp_mull, zp_mulr, zp_subr, zp_subl, nI_add, pk_mul]
  · intro i hi
    have hle := zn_n_le (zn_k (fun j => M.1 6 (1 + j) 3)) i
    rw [ze_X9_keptSkies_4, zn_n]
    by_cases ho : M.1 6 (1 + i) 3 = 0
    · have hq : zn_k (fun j => M.1 6 (1 + j) 3) i = false := by simp [zn_k, ho]
      simp (disch := omega) only [↓zp_dn, ↓zp_hV, ↓zp_hI, ↓zp_hL, ↓zp_hR, ↓zp_hX, zp_eV, zp_eI, zp_eL, zp_eR, zp_eX, zp_eXl, zp_iV, zp_iI, zp_iL, zp_iR, ↓zp_sm, ↓zp_nls, ↓zp_nln, zp_bo0, zp_bo1, zp_okE, zp_ok2E, zp_rfE, ↓reduceIte, if_true, if_false, zp_leT, zp_leF, zp_ltT, zp_ltF, zp_eqT, zp_eqF, zp_leTl, zp_leFl, zp_ltTl, zp_ltFl, zp_leTr, zp_leFr, zp_ltTr, zp_ltFr, zp_eqTr, zp_eqFr, zp_eqTl, zp_eqFl, zp_eqFll, eq_self, zp_addl, zp_addr, zp_mull, zp_mulr, zp_subr, zp_subl, nI_add, pk_mul, if_pos ho, ze_X9_keptSkies_24, hq, Bool.false_eq_true, Nat.add_zero]
    · have hq : zn_k (fun j => M.1 6 (1 + j) 3) i = true := by simp [zn_k, ho]
      simp (disch := omega) only [↓zp_dn, ↓zp_hV, ↓zp_hI, ↓zp_hL, ↓zp_hR, ↓zp_hX, zp_eV, zp_eI, zp_eL, zp_eR, zp_eX, zp_eXl, zp_iV, zp_iI, zp_iL, zp_iR, ↓zp_sm, ↓zp_nls, ↓zp_nln, zp_bo0, zp_bo1, zp_okE, zp_ok2E, zp_rfE, ↓reduceIte, if_true, if_false, zp_leT, zp_leF, zp_ltT, zp_ltF, zp_eqT, zp_eqF, zp_leTl, zp_leFl, zp_ltTl, zp_ltFl, zp_leTr, zp_leFr, zp_ltTr, zp_ltFr, zp_eqTr, zp_eqFr, zp_eqTl, zp_eqFl, zp_eqFll, eq_self, zp_addl, zp_addr, zp_mull, zp_mulr, zp_subr, zp_subl, nI_add, pk_mul, if_neg ho, ze_X9_keptSkies_24, hq]
/-- what count tells -/
def zn_t (A : zf_A) (K : zf_K) (M : zi_M) (w : Nat) : Int32 := if w = 0 then nI K.2.1 else if w = 1 then nI A.1 else if w = 2 then nI A.2.1 else if w = 3 then K.1 else if w = 4 then nI K.2.2.2.1 else if w = 5 then nI (zn_n (zn_o K) K.2.1) else if w = 6 then nI (zn_n (zn_r (fun j => M.1 24 0 j)) 6) else if w = 7 then nI (zn_n (zn_r (fun j => M.1 26 0 j)) 4) else nI (zn_n (zn_k (fun j => M.1 30 0 j)) 3)
theorem zc_tally0 (d : Nat) (M : zi_M) : zi_run d zm_X9_tally 0 [some (.inr (.inr (9, some 0))), some (.inl (nI 0))] [] M = some (some (.inl (M.1 6 0 4)), M) := (ze_X9_tally_0 d (nI 0) M).trans (ze_X9_tally_48 d M)
theorem zc_tally1 (d : Nat) (M : zi_M) : zi_run d zm_X9_tally 0 [some (.inr (.inr (9, some 0))), some (.inl (nI 1))] [] M = some (some (.inl (M.1 0 0 1)), M) := (ze_X9_tally_0 d (nI 1) M).trans (ze_X9_tally_56 d M)
theorem zc_tally2 (d : Nat) (M : zi_M) : zi_run d zm_X9_tally 0 [some (.inr (.inr (9, some 0))), some (.inl (nI 2))] [] M = some (some (.inl (M.1 0 0 2)), M) := (ze_X9_tally_0 d (nI 2) M).trans (ze_X9_tally_64 d M)
theorem zc_tally3 (d : Nat) (M : zi_M) : zi_run d zm_X9_tally 0 [some (.inr (.inr (9, some 0))), some (.inl (nI 3))] [] M = some (some (.inl (M.1 6 0 5)), M) := (ze_X9_tally_0 d (nI 3) M).trans (ze_X9_tally_72 d M)
theorem zc_tally4 (d : Nat) (M : zi_M) : zi_run d zm_X9_tally 0 [some (.inr (.inr (9, some 0))), some (.inl (nI 4))] [] M = some (some (.inl (M.1 6 0 6)), M) := (ze_X9_tally_0 d (nI 4) M).trans (ze_X9_tally_80 d M)
theorem zc_tally5 (d : Nat) (M : zi_M) : zi_run d zm_X9_tally 0 [some (.inr (.inr (9, some 0))), some (.inl (nI 5))] [] M = zi_run d zm_X9_tally 88 [some (.inr (.inr (9, some 0))), none] [] M := ze_X9_tally_0 d (nI 5) M
theorem zc_tally6 (d : Nat) (M : zi_M) : zi_run d zm_X9_tally 0 [some (.inr (.inr (9, some 0))), some (.inl (nI 6))] [] M = zi_run d zm_X9_tally 96 [some (.inr (.inr (9, some 0))), none] [] M := ze_X9_tally_0 d (nI 6) M
theorem zc_tally7 (d : Nat) (M : zi_M) : zi_run d zm_X9_tally 0 [some (.inr (.inr (9, some 0))), some (.inl (nI 7))] [] M = zi_run d zm_X9_tally 104 [some (.inr (.inr (9, some 0))), none] [] M := ze_X9_tally_0 d (nI 7) M
theorem zc_tally8 (d : Nat) (M : zi_M) : zi_run d zm_X9_tally 0 [some (.inr (.inr (9, some 0))), some (.inl (nI 8))] [] M = zi_run d zm_X9_tally 112 [some (.inr (.inr (9, some 0))), none] [] M := ze_X9_tally_0 d (nI 8) M
theorem zc_tally (d : Nat) {n : Nat} {xs : Nat → Int32} {M : zi_M} (hI : zq_inv n xs M) {A : zf_A} {K : zf_K} (hS : zq_sky M A K) {w : Nat} (hw : w < 9) : zi_run (d + 2) zm_X9_tally 0 [some (.inr (.inr (9, some 0))), some (.inl (nI w))] [] M = some (some (.inl (zn_t A K M w)), M) := by
  have hw' : w = 0 ∨ w = 1 ∨ w = 2 ∨ w = 3 ∨ w = 4 ∨ w = 5 ∨ w = 6 ∨ w = 7 ∨ w = 8 := by omega
  rcases hw' with e | e | e | e | e | e | e | e | e <;> subst e
  · rw [zc_tally0, hS.2.2.2.1.2.1]; rfl
  · rw [zc_tally1, hS.2.2.1.1]; rfl
  · rw [zc_tally2, hS.2.2.1.2.1]; rfl
  · rw [zc_tally3, hS.2.2.2.1.1]; rfl
  · rw [zc_tally4, hS.2.2.2.1.2.2.1]; rfl
  · rw [zc_tally5, ze_X9_tally_88]; simp only [↓zp_dn, ↓zp_hV, ↓zp_hI, ↓zp_hL, ↓zp_hR, ↓zp_hX, zp_eV, zp_eI, zp_eL, zp_eR, zp_eX, zp_eXl, zp_iV, zp_iI, zp_iL, zp_iR, ↓zp_sm, ↓zp_nls, ↓zp_nln, zp_bo0, zp_bo1, zp_okE, zp_ok2E, zp_rfE, ↓reduceIte, if_true, if_false, zc_old _ hS]; rfl
  · rw [zc_tally6, ze_X9_tally_96]; simp only [↓zp_dn, ↓zp_hV, ↓zp_hI, ↓zp_hL, ↓zp_hR, ↓zp_hX, zp_eV, zp_eI, zp_eL, zp_eR, zp_eX, zp_eXl, zp_iV, zp_iI, zp_iL, zp_iR, ↓zp_sm, ↓zp_nls, ↓zp_nln, zp_bo0, zp_bo1, zp_okE, zp_ok2E, zp_rfE, ↓reduceIte, if_true, if_false, zc_there]
    rw [zn_n_c (Q := zn_r (fun j => M.1 24 0 j)) (fun j hj => ?_)]
    · rfl
    · rcases hI.1 j hj with ⟨e1, e2⟩ | ⟨m, hm, e1, e2, _⟩
      · simp only [zn_r, e1, e2]
      · simp only [zn_r, e1, e2]
  · rw [zc_tally7, ze_X9_tally_104]; simp only [↓zp_dn, ↓zp_hV, ↓zp_hI, ↓zp_hL, ↓zp_hR, ↓zp_hX, zp_eV, zp_eI, zp_eL, zp_eR, zp_eX, zp_eXl, zp_iV, zp_iI, zp_iL, zp_iR, ↓zp_sm, ↓zp_nls, ↓zp_nln, zp_bo0, zp_bo1, zp_okE, zp_ok2E, zp_rfE, ↓reduceIte, if_true, if_false, zc_thereT]
    rw [zn_n_c (Q := zn_r (fun j => M.1 26 0 j)) (fun j hj => ?_)]
    · rfl
    · rcases (hI.2.1 j hj).1 with ⟨e1, e2⟩ | ⟨m, hm, e1, e2, _⟩
      · simp only [zn_r, e1, e2]
      · simp only [zn_r, e1, e2]
  · rw [zc_tally8, ze_X9_tally_112]; simp only [↓zp_dn, ↓zp_hV, ↓zp_hI, ↓zp_hL, ↓zp_hR, ↓zp_hX, zp_eV, zp_eI, zp_eL, zp_eR, zp_eX, zp_eXl, zp_iV, zp_iI, zp_iL, zp_iR, ↓zp_sm, ↓zp_nls, ↓zp_nln, zp_bo0, zp_bo1, zp_okE, zp_ok2E, zp_rfE, ↓reduceIte, if_true, if_false, zc_keptS]
    rw [zn_n_c (Q := zn_k (fun j => M.1 30 0 j)) (fun j hj => ?_)]
    · rfl
    · rcases hS.2.2.2.2.2.2 j hj with ⟨e1, e2⟩ | ⟨e1, e2, _⟩
      · simp only [zn_k, e1, e2]
      · simp only [zn_k, e1, e2]
/-- the reference -/
def zn_q (M : zi_M) (w : Nat) : Nat → Bool := fun j => (decide (w = 6) && zn_r (fun j => M.1 24 0 j) j) || ((decide (w = 7) && decide (j < 4) && zn_r (fun j => M.1 26 0 j) j) || (decide (w = 8) && decide (j < 3) && zn_k (fun j => M.1 30 0 j) j))
theorem zr_cnt59 (d : Nat) (M : zi_M) (x2 : Int32) {w : Nat} (hw : w < 9) {t j : Nat} (ht : t ≤ j) (hj : j < 6) : zi_run d zm_X10_countOf 59 [some (.inr (.inr (10, some 0))), some (.inl (nI w)), some (.inl x2), some (.inl (nI t)), some (.inl (nI j)), none, none] [] M = zi_run d zm_X10_countOf 59 [some (.inr (.inr (10, some 0))), some (.inl (nI w)), some (.inl x2), some (.inl (nI (t + (if zn_q M w j then 1 else 0)))), some (.inl (nI (j + 1))), none, none] [] M := by
  have b0 : ∀ x : Int32, x + 0 = x := Int32.add_zero
  rw [ze_X10_countOf_59]
  by_cases h6 : w = 6
  · subst h6
    by_cases ho : M.1 24 0 j < 0
    · have hq : zn_q M 6 j = false := by simp [zn_q, ho]
      simp (disch := omega) only [↓zp_dn, ↓zp_hV, ↓zp_hI, ↓zp_hL, ↓zp_hR, ↓zp_hX, zp_eV, zp_eI, zp_eL, zp_eR, zp_eX, zp_eXl, zp_iV, zp_iI, zp_iL, zp_iR, ↓zp_sm, ↓zp_nls, ↓zp_nln, zp_bo0, zp_bo1, zp_okE, zp_ok2E, zp_rfE, ↓reduceIte, if_true, if_false, zp_leT, zp_leF, zp_ltT, zp_ltF, zp_eqT, zp_eqF, zp_leTl, zp_leFl, zp_ltTl, zp_ltFl, zp_leTr, zp_leFr, zp_ltTr, zp_ltFr, zp_eqTr, zp_eqFr, zp_eqTl, zp_eqFl, zp_eqFll, eq_self, zp_addl, zp_addr, zp_mull, zp_mulr, zp_subr, zp_subl, nI_add, pk_mul, if_pos ho, ze_X10_countOf_86, ze_X10_countOf_87, ze_X10_countOf_115, ze_X10_countOf_116, ze_X10_countOf_155, ze_X10_countOf_156, hq, Bool.false_eq_true, b0, Nat.add_zero]
    · have hq : zn_q M 6 j = true := by simp [zn_q, ho]
      simp (disch := omega) only [↓zp_dn, ↓zp_hV, ↓zp_hI, ↓zp_hL, ↓zp_hR, ↓zp_hX, zp_eV, zp_eI, zp_eL, zp_eR, zp_eX, zp_eXl, zp_iV, zp_iI, zp_iL, zp_iR, ↓zp_sm, ↓zp_nls, ↓zp_nln, zp_bo0, zp_bo1, zp_okE, zp_ok2E, zp_rfE, ↓reduceIte, if_true, if_false, zp_leT, zp_leF, zp_ltT, zp_ltF, zp_eqT, zp_eqF, zp_leTl, zp_leFl, zp_ltTl, zp_ltFl, zp_leTr, zp_leFr, zp_ltTr, zp_ltFr, zp_eqTr, zp_eqFr, zp_eqTl, zp_eqFl, zp_eqFll, eq_self, zp_addl, zp_addr, zp_mull, zp_mulr, zp_subr, zp_subl, nI_add, pk_mul, if_neg ho, ze_X10_countOf_87, ze_X10_countOf_115, ze_X10_countOf_116, zp_1n0, ze_X10_countOf_151, ze_X10_countOf_156, hq]
  · by_cases h7 : w = 7
    · subst h7
      by_cases j4 : j < 4
      · by_cases ho : M.1 26 0 j < 0
        · have hq : zn_q M 7 j = false := by simp [zn_q, ho]
          simp (disch := omega) only [↓zp_dn, ↓zp_hV, ↓zp_hI, ↓zp_hL, ↓zp_hR, ↓zp_hX, zp_eV, zp_eI, zp_eL, zp_eR, zp_eX, zp_eXl, zp_iV, zp_iI, zp_iL, zp_iR, ↓zp_sm, ↓zp_nls, ↓zp_nln, zp_bo0, zp_bo1, zp_okE, zp_ok2E, zp_rfE, ↓reduceIte, if_true, if_false, zp_leT, zp_leF, zp_ltT, zp_ltF, zp_eqT, zp_eqF, zp_leTl, zp_leFl, zp_ltTl, zp_ltFl, zp_leTr, zp_leFr, zp_ltTr, zp_ltFr, zp_eqTr, zp_eqFr, zp_eqTl, zp_eqFl, zp_eqFll, eq_self, zp_addl, zp_addr, zp_mull, zp_mulr, zp_subr, zp_subl, nI_add, pk_mul, if_pos ho, ze_X10_countOf_86, ze_X10_countOf_87, ze_X10_countOf_115, ze_X10_countOf_116, ze_X10_countOf_155, ze_X10_countOf_156, hq, Bool.false_eq_true, b0, Nat.add_zero]
        · have hq : zn_q M 7 j = true := by simp [zn_q, ho, j4]
          simp (disch := omega) only [↓zp_dn, ↓zp_hV, ↓zp_hI, ↓zp_hL, ↓zp_hR, ↓zp_hX, zp_eV, zp_eI, zp_eL, zp_eR, zp_eX, zp_eXl, zp_iV, zp_iI, zp_iL, zp_iR, ↓zp_sm, ↓zp_nls, ↓zp_nln, zp_bo0, zp_bo1, zp_okE, zp_ok2E, zp_rfE, ↓reduceIte, if_true, if_false, zp_leT, zp_leF, zp_ltT, zp_ltF, zp_eqT, zp_eqF, zp_leTl, zp_leFl, zp_ltTl, zp_ltFl, zp_leTr, zp_leFr, zp_ltTr, zp_ltFr, zp_eqTr, zp_eqFr, zp_eqTl, zp_eqFl, zp_eqFll, eq_self, zp_addl, zp_addr, zp_mull, zp_mulr, zp_subr, zp_subl, nI_add, pk_mul, if_neg ho, ze_X10_countOf_86, ze_X10_countOf_87, ze_X10_countOf_116, zp_1n0, ze_X10_countOf_151, ze_X10_countOf_156, hq]
      · have hq : zn_q M 7 j = false := by simp [zn_q, j4]
        simp (disch := omega) only [↓zp_dn, ↓zp_hV, ↓zp_hI, ↓zp_hL, ↓zp_hR, ↓zp_hX, zp_eV, zp_eI, zp_eL, zp_eR, zp_eX, zp_eXl, zp_iV, zp_iI, zp_iL, zp_iR, ↓zp_sm, ↓zp_nls, ↓zp_nln, zp_bo0, zp_bo1, zp_okE, zp_ok2E, zp_rfE, ↓reduceIte, if_true, if_false, zp_leT, zp_leF, zp_ltT, zp_ltF, zp_eqT, zp_eqF, zp_leTl, zp_leFl, zp_ltTl, zp_ltFl, zp_leTr, zp_leFr, zp_ltTr, zp_ltFr, zp_eqTr, zp_eqFr, zp_eqTl, zp_eqFl, zp_eqFll, eq_self, zp_addl, zp_addr, zp_mull, zp_mulr, zp_subr, zp_subl, nI_add, pk_mul, ze_X10_countOf_86, ze_X10_countOf_87, ze_X10_countOf_115, ze_X10_countOf_116, ze_X10_countOf_155, ze_X10_countOf_156, hq, Bool.false_eq_true, b0, Nat.add_zero]
    · by_cases h8 : w = 8
      · subst h8
        by_cases j3 : j < 3
        · by_cases ho : M.1 30 0 j = 0
          · have hq : zn_q M 8 j = false := by simp [zn_q, ho]
            simp (disch := omega) only [↓zp_dn, ↓zp_hV, ↓zp_hI, ↓zp_hL, ↓zp_hR, ↓zp_hX, zp_eV, zp_eI, zp_eL, zp_eR, zp_eX, zp_eXl, zp_iV, zp_iI, zp_iL, zp_iR, ↓zp_sm, ↓zp_nls, ↓zp_nln, zp_bo0, zp_bo1, zp_okE, zp_ok2E, zp_rfE, ↓reduceIte, if_true, if_false, zp_leT, zp_leF, zp_ltT, zp_ltF, zp_eqT, zp_eqF, zp_leTl, zp_leFl, zp_ltTl, zp_ltFl, zp_leTr, zp_leFr, zp_ltTr, zp_ltFr, zp_eqTr, zp_eqFr, zp_eqTl, zp_eqFl, zp_eqFll, eq_self, zp_addl, zp_addr, zp_mull, zp_mulr, zp_subr, zp_subl, nI_add, pk_mul, if_pos ho, ze_X10_countOf_86, ze_X10_countOf_87, ze_X10_countOf_115, ze_X10_countOf_116, ze_X10_countOf_155, ze_X10_countOf_156, hq, Bool.false_eq_true, b0, Nat.add_zero]
          · have hq : zn_q M 8 j = true := by simp [zn_q, ho, j3]
            simp (disch := omega) only [↓zp_dn, ↓zp_hV, ↓zp_hI, ↓zp_hL, ↓zp_hR, ↓zp_hX, zp_eV, zp_eI, zp_eL, zp_eR, zp_eX, zp_eXl, zp_iV, zp_iI, zp_iL, zp_iR, ↓zp_sm, ↓zp_nls, ↓zp_nln, zp_bo0, zp_bo1, zp_okE, zp_ok2E, zp_rfE, ↓reduceIte, if_true, if_false, zp_leT, zp_leF, zp_ltT, zp_ltF, zp_eqT, zp_eqF, zp_leTl, zp_leFl, zp_ltTl, zp_ltFl, zp_leTr, zp_leFr, zp_ltTr, zp_ltFr, zp_eqTr, zp_eqFr, zp_eqTl, zp_eqFl, zp_eqFll, eq_self, zp_addl, zp_addr, zp_mull, zp_mulr, zp_subr, zp_subl, nI_add, pk_mul, if_neg ho, ze_X10_countOf_86, ze_X10_countOf_87, ze_X10_countOf_115, ze_X10_countOf_116, ze_X10_countOf_151, ze_X10_countOf_156, hq]
        · have hq : zn_q M 8 j = false := by simp [zn_q, j3]
          simp (disch := omega) only [↓zp_dn, ↓zp_hV, ↓zp_hI, ↓zp_hL, ↓zp_hR, ↓zp_hX, zp_eV, zp_eI, zp_eL, zp_eR, zp_eX, zp_eXl, zp_iV, zp_iI, zp_iL, zp_iR, ↓zp_sm, ↓zp_nls, ↓zp_nln, zp_bo0, zp_bo1, zp_okE, zp_ok2E, zp_rfE, ↓reduceIte, if_true, if_false, zp_leT, zp_leF, zp_ltT, zp_ltF, zp_eqT, zp_eqF, zp_leTl, zp_leFl, zp_ltTl, zp_ltFl, zp_leTr, zp_leFr, zp_ltTr, zp_ltFr, zp_eqTr, zp_eqFr, zp_eqTl, zp_eqFl, zp_eqFll, eq_self, zp_addl, zp_addr, zp_mull, zp_mulr, zp_subr, zp_subl, nI_add, pk_mul, ze_X10_countOf_86, ze_X10_countOf_87, ze_X10_countOf_115, ze_X10_countOf_116, ze_X10_countOf_155, ze_X10_countOf_156, hq, Bool.false_eq_true, b0, Nat.add_zero]
      · have hq : zn_q M w j = false := by simp [zn_q, h6, h7, h8]
        simp (disch := omega) only [↓zp_dn, ↓zp_hV, ↓zp_hI, ↓zp_hL, ↓zp_hR, ↓zp_hX, zp_eV, zp_eI, zp_eL, zp_eR, zp_eX, zp_eXl, zp_iV, zp_iI, zp_iL, zp_iR, ↓zp_sm, ↓zp_nls, ↓zp_nln, zp_bo0, zp_bo1, zp_okE, zp_ok2E, zp_rfE, ↓reduceIte, if_true, if_false, zp_leT, zp_leF, zp_ltT, zp_ltF, zp_eqT, zp_eqF, zp_leTl, zp_leFl, zp_ltTl, zp_ltFl, zp_leTr, zp_leFr, zp_ltTr, zp_ltFr, zp_eqTr, zp_eqFr, zp_eqTl, zp_eqFl, zp_eqFll, eq_self, zp_addl, zp_addr, zp_mull, zp_mulr, zp_subr, zp_subl, nI_add, pk_mul, ze_X10_countOf_86, ze_X10_countOf_87, ze_X10_countOf_115, ze_X10_countOf_116, ze_X10_countOf_155, ze_X10_countOf_156, hq, Bool.false_eq_true, b0, Nat.add_zero]
theorem zr_countOf (d : Nat) {M : zi_M} {A : zf_A} {K : zf_K} (hS : zq_sky M A K) {w : Nat} (hw : w < 9) : zi_run d zm_X10_countOf 0 [some (.inr (.inr (10, some 0))), some (.inl (nI w)), none, none, none, none, none] [] M = some (some (.inl (zn_t A K M w)), M) := by
  have h4 := hS.2.1.1
  have h40 := hS.2.1.2.1
  have hR := hS.2.2.2.2.2.1
  have hRA := hS.2.2.2.2.1
  have r3 : M.1 28 0 3 = nI K.2.1 := hR.2.1
  obtain ⟨h7, h5⟩ := zf_okA7 hS.1
  rw [ze_X10_countOf_0]
  have s1 : zi_run d zm_X10_countOf 4 [some (.inr (.inr (10, some 0))), some (.inl (nI w)), some (.inl 0), some (.inl 0), none, none, none] [] M = zi_run d zm_X10_countOf 59 [some (.inr (.inr (10, some 0))), some (.inl (nI w)), some (.inl (nI (zn_n (zn_o K) K.2.1))), some (.inl 0), some (.inl 0), none, none] [] M := by
    refine zp_for (fun i => zi_run d zm_X10_countOf 4 [some (.inr (.inr (10, some 0))), some (.inl (nI w)), some (.inl (nI (zn_n (zn_o K) i))), some (.inl (nI i)), none, none, none] [] M) K.2.1 _ ?_ ?_ 0 (Nat.zero_le _)
    · rw [ze_X10_countOf_4]
      simp (disch := omega) only [↓zp_dn, ↓zp_hV, ↓zp_hI, ↓zp_hL, ↓zp_hR, ↓zp_hX, zp_eV, zp_eI, zp_eL, zp_eR, zp_eX, zp_eXl, zp_iV, zp_iI, zp_iL, zp_iR, ↓zp_sm, ↓zp_nls, ↓zp_nln, zp_bo0, zp_bo1, zp_okE, zp_ok2E, zp_rfE, ↓reduceIte, if_true, if_false, zp_leT, zp_leF, zp_ltT, zp_ltF, zp_eqT, zp_eqF, zp_leTl, zp_leFl, zp_ltTl, zp_ltFl, zp_leTr, zp_leFr, zp_ltTr, zp_ltFr, zp_eqTr, zp_eqFr, zp_eqTl, zp_eqFl, zp_eqFll, eq_self, zp_addl, zp_addr, zp_mull, zp_mulr, zp_subr, zp_subl, nI_add, pk_mul, r3]
    · intro i hi
      have b1 := (hR.2.2.2.1 i hi).1
      have hle := zn_n_le (zn_o K) i
      rw [ze_X10_countOf_4, zn_n]
      have b0 : ∀ x : Int32, x + 0 = x := Int32.add_zero
      by_cases k1 : (K.2.2.1 i).1 = 1
      · have ho : zf_ofk (K.2.2.1 i).1 1 := Or.inl k1
        simp (disch := omega) only [↓zp_dn, ↓zp_hV, ↓zp_hI, ↓zp_hL, ↓zp_hR, ↓zp_hX, zp_eV, zp_eI, zp_eL, zp_eR, zp_eX, zp_eXl, zp_iV, zp_iI, zp_iL, zp_iR, ↓zp_sm, ↓zp_nls, ↓zp_nln, zp_bo0, zp_bo1, zp_okE, zp_ok2E, zp_rfE, ↓reduceIte, if_true, if_false, zp_leT, zp_leF, zp_ltT, zp_ltF, zp_eqT, zp_eqF, zp_leTl, zp_leFl, zp_ltTl, zp_ltFl, zp_leTr, zp_leFr, zp_ltTr, zp_ltFr, zp_eqTr, zp_eqFr, zp_eqTl, zp_eqFl, zp_eqFll, eq_self, zp_addl, zp_addr, zp_mull, zp_mulr, zp_subr, zp_subl, nI_add, pk_mul, r3, b1, if_pos k1, ze_X10_countOf_41, ze_X10_countOf_46, decide_eq_true ho]
      · by_cases k4 : (K.2.2.1 i).1 = 4
        · have ho : zf_ofk (K.2.2.1 i).1 1 := Or.inr (Or.inl ⟨rfl, k4⟩)
          simp (disch := omega) only [↓zp_dn, ↓zp_hV, ↓zp_hI, ↓zp_hL, ↓zp_hR, ↓zp_hX, zp_eV, zp_eI, zp_eL, zp_eR, zp_eX, zp_eXl, zp_iV, zp_iI, zp_iL, zp_iR, ↓zp_sm, ↓zp_nls, ↓zp_nln, zp_bo0, zp_bo1, zp_okE, zp_ok2E, zp_rfE, ↓reduceIte, if_true, if_false, zp_leT, zp_leF, zp_ltT, zp_ltF, zp_eqT, zp_eqF, zp_leTl, zp_leFl, zp_ltTl, zp_ltFl, zp_leTr, zp_leFr, zp_ltTr, zp_ltFr, zp_eqTr, zp_eqFr, zp_eqTl, zp_eqFl, zp_eqFll, eq_self, zp_addl, zp_addr, zp_mull, zp_mulr, zp_subr, zp_subl, nI_add, pk_mul, r3, b1, if_neg k1, if_pos k4, ze_X10_countOf_41, ze_X10_countOf_46, decide_eq_true ho]
        · have ho : ¬ zf_ofk (K.2.2.1 i).1 1 := fun e => e.elim k1 (fun e => e.elim (fun e => k4 e.2) (fun e => absurd e.1 (by decide)))
          simp (disch := omega) only [↓zp_dn, ↓zp_hV, ↓zp_hI, ↓zp_hL, ↓zp_hR, ↓zp_hX, zp_eV, zp_eI, zp_eL, zp_eR, zp_eX, zp_eXl, zp_iV, zp_iI, zp_iL, zp_iR, ↓zp_sm, ↓zp_nls, ↓zp_nln, zp_bo0, zp_bo1, zp_okE, zp_ok2E, zp_rfE, ↓reduceIte, if_true, if_false, zp_leT, zp_leF, zp_ltT, zp_ltF, zp_eqT, zp_eqF, zp_leTl, zp_leFl, zp_ltTl, zp_ltFl, zp_leTr, zp_leFr, zp_ltTr, zp_ltFr, zp_eqTr, zp_eqFr, zp_eqTl, zp_eqFl, zp_eqFll, eq_self, zp_addl, zp_addr, zp_mull, zp_mulr, zp_subr, zp_subl, nI_add, pk_mul, r3, b1, if_neg k1, if_neg k4, ze_X10_countOf_46, decide_eq_false ho, Bool.false_eq_true, b0, Nat.add_zero]
  rw [s1]
  have s2 : zi_run d zm_X10_countOf 59 [some (.inr (.inr (10, some 0))), some (.inl (nI w)), some (.inl (nI (zn_n (zn_o K) K.2.1))), some (.inl 0), some (.inl 0), none, none] [] M = zi_run d zm_X10_countOf 59 [some (.inr (.inr (10, some 0))), some (.inl (nI w)), some (.inl (nI (zn_n (zn_o K) K.2.1))), some (.inl (nI (zn_n (zn_q M w) 6))), some (.inl (nI 6)), none, none] [] M := by
    refine zp_for (fun i => zi_run d zm_X10_countOf 59 [some (.inr (.inr (10, some 0))), some (.inl (nI w)), some (.inl (nI (zn_n (zn_o K) K.2.1))), some (.inl (nI (zn_n (zn_q M w) i))), some (.inl (nI i)), none, none] [] M) 6 _ rfl ?_ 0 (Nat.zero_le _)
    intro i hi
    exact zr_cnt59 d M _ hw (zn_n_le _ i) hi
  rw [s2, ze_X10_countOf_59]
  have hw' : w = 0 ∨ w = 1 ∨ w = 2 ∨ w = 3 ∨ w = 4 ∨ w = 5 ∨ w = 6 ∨ w = 7 ∨ w = 8 := by omega
  rcases hw' with e | e | e | e | e | e | e | e | e <;> subst e
  · simp (disch := omega) only [↓zp_dn, ↓zp_hV, ↓zp_hI, ↓zp_hL, ↓zp_hR, ↓zp_hX, zp_eV, zp_eI, zp_eL, zp_eR, zp_eX, zp_eXl, zp_iV, zp_iI, zp_iL, zp_iR, ↓zp_sm, ↓zp_nls, ↓zp_nln, zp_bo0, zp_bo1, zp_okE, zp_ok2E, zp_rfE, ↓reduceIte, if_true, if_false, zp_leT, zp_leF, zp_ltT, zp_ltF, zp_eqT, zp_eqF, zp_leTl, zp_leFl, zp_ltTl, zp_ltFl, zp_leTr, zp_leFr, zp_ltTr, zp_ltFr, zp_eqTr, zp_eqFr, zp_eqTl, zp_eqFl, zp_eqFll, eq_self, zp_addl, zp_addr, zp_mull, zp_mulr, zp_subr, zp_subl, nI_add, pk_mul, ze_X10_countOf_225, r3]; rfl
  · simp (disch := omega) only [↓zp_dn, ↓zp_hV, ↓zp_hI, ↓zp_hL, ↓zp_hR, ↓zp_hX, zp_eV, zp_eI, zp_eL, zp_eR, zp_eX, zp_eXl, zp_iV, zp_iI, zp_iL, zp_iR, ↓zp_sm, ↓zp_nls, ↓zp_nln, zp_bo0, zp_bo1, zp_okE, zp_ok2E, zp_rfE, ↓reduceIte, if_true, if_false, zp_leT, zp_leF, zp_ltT, zp_ltF, zp_eqT, zp_eqF, zp_leTl, zp_leFl, zp_ltTl, zp_ltFl, zp_leTr, zp_leFr, zp_ltTr, zp_ltFr, zp_eqTr, zp_eqFr, zp_eqTl, zp_eqFl, zp_eqFll, eq_self, zp_addl, zp_addr, zp_mull, zp_mulr, zp_subr, zp_subl, nI_add, pk_mul, ze_X10_countOf_225, hRA.1]; rfl
  · simp (disch := omega) only [↓zp_dn, ↓zp_hV, ↓zp_hI, ↓zp_hL, ↓zp_hR, ↓zp_hX, zp_eV, zp_eI, zp_eL, zp_eR, zp_eX, zp_eXl, zp_iV, zp_iI, zp_iL, zp_iR, ↓zp_sm, ↓zp_nls, ↓zp_nln, zp_bo0, zp_bo1, zp_okE, zp_ok2E, zp_rfE, ↓reduceIte, if_true, if_false, zp_leT, zp_leF, zp_ltT, zp_ltF, zp_eqT, zp_eqF, zp_leTl, zp_leFl, zp_ltTl, zp_ltFl, zp_leTr, zp_leFr, zp_ltTr, zp_ltFr, zp_eqTr, zp_eqFr, zp_eqTl, zp_eqFl, zp_eqFll, eq_self, zp_addl, zp_addr, zp_mull, zp_mulr, zp_subr, zp_subl, nI_add, pk_mul, ze_X10_countOf_225, hRA.2.1]; rfl
  · simp (disch := omega) only [↓zp_dn, ↓zp_hV, ↓zp_hI, ↓zp_hL, ↓zp_hR, ↓zp_hX, zp_eV, zp_eI, zp_eL, zp_eR, zp_eX, zp_eXl, zp_iV, zp_iI, zp_iL, zp_iR, ↓zp_sm, ↓zp_nls, ↓zp_nln, zp_bo0, zp_bo1, zp_okE, zp_ok2E, zp_rfE, ↓reduceIte, if_true, if_false, zp_leT, zp_leF, zp_ltT, zp_ltF, zp_eqT, zp_eqF, zp_leTl, zp_leFl, zp_ltTl, zp_ltFl, zp_leTr, zp_leFr, zp_ltTr, zp_ltFr, zp_eqTr, zp_eqFr, zp_eqTl, zp_eqFl, zp_eqFll, eq_self, zp_addl, zp_addr, zp_mull, zp_mulr, zp_subr, zp_subl, nI_add, pk_mul, ze_X10_countOf_225, hR.1]; rfl
  · simp (disch := omega) only [↓zp_dn, ↓zp_hV, ↓zp_hI, ↓zp_hL, ↓zp_hR, ↓zp_hX, zp_eV, zp_eI, zp_eL, zp_eR, zp_eX, zp_eXl, zp_iV, zp_iI, zp_iL, zp_iR, ↓zp_sm, ↓zp_nls, ↓zp_nln, zp_bo0, zp_bo1, zp_okE, zp_ok2E, zp_rfE, ↓reduceIte, if_true, if_false, zp_leT, zp_leF, zp_ltT, zp_ltF, zp_eqT, zp_eqF, zp_leTl, zp_leFl, zp_ltTl, zp_ltFl, zp_leTr, zp_leFr, zp_ltTr, zp_ltFr, zp_eqTr, zp_eqFr, zp_eqTl, zp_eqFl, zp_eqFll, eq_self, zp_addl, zp_addr, zp_mull, zp_mulr, zp_subr, zp_subl, nI_add, pk_mul, ze_X10_countOf_225, hR.2.2.1]; rfl
  · simp (disch := omega) only [↓zp_dn, ↓zp_hV, ↓zp_hI, ↓zp_hL, ↓zp_hR, ↓zp_hX, zp_eV, zp_eI, zp_eL, zp_eR, zp_eX, zp_eXl, zp_iV, zp_iI, zp_iL, zp_iR, ↓zp_sm, ↓zp_nls, ↓zp_nln, zp_bo0, zp_bo1, zp_okE, zp_ok2E, zp_rfE, ↓reduceIte, if_true, if_false, zp_leT, zp_leF, zp_ltT, zp_ltF, zp_eqT, zp_eqF, zp_leTl, zp_leFl, zp_ltTl, zp_ltFl, zp_leTr, zp_leFr, zp_ltTr, zp_ltFr, zp_eqTr, zp_eqFr, zp_eqTl, zp_eqFl, zp_eqFll, eq_self, zp_addl, zp_addr, zp_mull, zp_mulr, zp_subr, zp_subl, nI_add, pk_mul, ze_X10_countOf_225]; rfl
  · have e : zn_n (zn_q M 6) 6 = zn_n (zn_r (fun j => M.1 24 0 j)) 6 := zn_n_c (fun j _ => by simp [zn_q])
    simp (disch := omega) only [↓zp_dn, ↓zp_hV, ↓zp_hI, ↓zp_hL, ↓zp_hR, ↓zp_hX, zp_eV, zp_eI, zp_eL, zp_eR, zp_eX, zp_eXl, zp_iV, zp_iI, zp_iL, zp_iR, ↓zp_sm, ↓zp_nls, ↓zp_nln, zp_bo0, zp_bo1, zp_okE, zp_ok2E, zp_rfE, ↓reduceIte, if_true, if_false, zp_leT, zp_leF, zp_ltT, zp_ltF, zp_eqT, zp_eqF, zp_leTl, zp_leFl, zp_ltTl, zp_ltFl, zp_leTr, zp_leFr, zp_ltTr, zp_ltFr, zp_eqTr, zp_eqFr, zp_eqTl, zp_eqFl, zp_eqFll, eq_self, zp_addl, zp_addr, zp_mull, zp_mulr, zp_subr, zp_subl, nI_add, pk_mul, ze_X10_countOf_225, e]; rfl
  · have e : zn_n (zn_q M 7) 6 = zn_n (zn_r (fun j => M.1 26 0 j)) 4 := by simp [zn_n, zn_q]
    simp (disch := omega) only [↓zp_dn, ↓zp_hV, ↓zp_hI, ↓zp_hL, ↓zp_hR, ↓zp_hX, zp_eV, zp_eI, zp_eL, zp_eR, zp_eX, zp_eXl, zp_iV, zp_iI, zp_iL, zp_iR, ↓zp_sm, ↓zp_nls, ↓zp_nln, zp_bo0, zp_bo1, zp_okE, zp_ok2E, zp_rfE, ↓reduceIte, if_true, if_false, zp_leT, zp_leF, zp_ltT, zp_ltF, zp_eqT, zp_eqF, zp_leTl, zp_leFl, zp_ltTl, zp_ltFl, zp_leTr, zp_leFr, zp_ltTr, zp_ltFr, zp_eqTr, zp_eqFr, zp_eqTl, zp_eqFl, zp_eqFll, eq_self, zp_addl, zp_addr, zp_mull, zp_mulr, zp_subr, zp_subl, nI_add, pk_mul, ze_X10_countOf_225, e]; rfl
  · have e : zn_n (zn_q M 8) 6 = zn_n (zn_k (fun j => M.1 30 0 j)) 3 := by simp [zn_n, zn_q]
    simp (disch := omega) only [↓zp_dn, ↓zp_hV, ↓zp_hI, ↓zp_hL, ↓zp_hR, ↓zp_hX, zp_eV, zp_eI, zp_eL, zp_eR, zp_eX, zp_eXl, zp_iV, zp_iI, zp_iL, zp_iR, ↓zp_sm, ↓zp_nls, ↓zp_nln, zp_bo0, zp_bo1, zp_okE, zp_ok2E, zp_rfE, ↓reduceIte, if_true, if_false, zp_leT, zp_leF, zp_ltT, zp_ltF, zp_eqT, zp_eqF, zp_leTl, zp_leFl, zp_ltTl, zp_ltFl, zp_leTr, zp_leFr, zp_ltTr, zp_ltFr, zp_eqTr, zp_eqFr, zp_eqTl, zp_eqFl, zp_eqFll, eq_self, zp_addl, zp_addr, zp_mull, zp_mulr, zp_subr, zp_subl, nI_add, pk_mul, ze_X10_countOf_225, e]; rfl
theorem zo_count (d : Nat) {n : Nat} {xs : Nat → Int32} {M : zi_M} (hI : zq_inv n xs M) (w : Int32) : zp_ok (zi_run (d + 5) zm_X9_count 0 [some (.inr (.inr (9, some 0))), some (.inl w)] [] M) (zp_rf (d + 5) zm_X10_count [some (.inr (.inr (10, some 0))), some (.inl w)]) (zq_inv n xs) := by
  obtain ⟨A, K, hS⟩ := hI.2.2.2.2.1
  rcases zp_int w with hw | ⟨w, hw, rfl⟩
  · simp (disch := omega) only [ze_X9_count_0, ze_X10_count_0, ze_X5_room_0, ze_X5_size_0, ze_X5_isThere_0, ze_X5_has_0, ze_X5_hasRun_0, ze_X5_get_0, ze_X5_set_0, ze_X5_drop_0, ze_X5_takeRun_0, ze_X9_rowAt_0, ze_X9_textAt_0, ze_X9_refuse_0, ze_X10_isRow_0, ze_X10_isText_0, ze_X10_finds_0, ze_X10_tells_0, zp_in_0_5, zp_in_0_3, zp_in_0_7, zp_in_1_5, zp_in_0_9, zp_in_0_2, zp_in_48_57, zp_in_0_12, zp_in_1_4, zp_in_1_9, zp_in_1_2147483646, zp_in_0_8, zp_in_0, ↓zp_dn, ↓zp_hV, ↓zp_hI, ↓zp_hL, ↓zp_hR, ↓zp_hX, zp_eV, zp_eI, zp_eL, zp_eR, zp_eX, zp_eXl, zp_iV, zp_iI, zp_iL, zp_iR, ↓zp_sm, ↓zp_nls, ↓zp_nln, zp_bo0, zp_bo1, zp_okE, zp_ok2E, zp_rfE, ↓reduceIte, if_true, if_false, zp_ofn, zp_sI1, zp_w1, zp_sL1, zp_sR1, zp_l1, zp_leT, zp_leF, zp_ltT, zp_ltF, zp_eqT, zp_eqF, zp_leTl, zp_leFl, zp_ltTl, zp_ltFl, zp_leTr, zp_leFr, zp_ltTr, zp_ltFr, zp_eqTr, zp_eqFr, zp_eqTl, zp_eqFl, zp_eqFll, eq_self, zp_addl, zp_addr, zp_mull, zp_mulr, zp_subr, zp_subl, nI_add, pk_mul, Nat.reduceEqDiff, Nat.reduceLT, Nat.reduceLeDiff, Nat.reduceAdd, Nat.reduceMul, Nat.reduceSub, reduceCtorEq, Int32.reduceLT, Int32.reduceLE, not_true_eq_false, not_false_eq_true, and_true, true_and, and_false, false_and, or_true, true_or, or_false, false_or, zp_n0 hw, zp_n1 hw, zp_n2 hw, zp_n3 hw, zp_n4 hw, zp_n3l hw, zp_n4l hw]; exact hI
  by_cases hw8 : w ≤ 8
  · simp (disch := omega) only [ze_X9_count_0, ze_X10_count_0, zc_tally _ hI hS (show w < 9 from by omega), zr_countOf _ hS (show w < 9 from by omega), ze_X5_room_0, ze_X5_size_0, ze_X5_isThere_0, ze_X5_has_0, ze_X5_hasRun_0, ze_X5_get_0, ze_X5_set_0, ze_X5_drop_0, ze_X5_takeRun_0, ze_X9_rowAt_0, ze_X9_textAt_0, ze_X9_refuse_0, ze_X10_isRow_0, ze_X10_isText_0, ze_X10_finds_0, ze_X10_tells_0, zp_in_0_5, zp_in_0_3, zp_in_0_7, zp_in_1_5, zp_in_0_9, zp_in_0_2, zp_in_48_57, zp_in_0_12, zp_in_1_4, zp_in_1_9, zp_in_1_2147483646, zp_in_0_8, zp_in_0, ↓zp_dn, ↓zp_hV, ↓zp_hI, ↓zp_hL, ↓zp_hR, ↓zp_hX, zp_eV, zp_eI, zp_eL, zp_eR, zp_eX, zp_eXl, zp_iV, zp_iI, zp_iL, zp_iR, ↓zp_sm, ↓zp_nls, ↓zp_nln, zp_bo0, zp_bo1, zp_okE, zp_ok2E, zp_rfE, ↓reduceIte, if_true, if_false, zp_ofn, zp_sI1, zp_w1, zp_sL1, zp_sR1, zp_l1, zp_leT, zp_leF, zp_ltT, zp_ltF, zp_eqT, zp_eqF, zp_leTl, zp_leFl, zp_ltTl, zp_ltFl, zp_leTr, zp_leFr, zp_ltTr, zp_ltFr, zp_eqTr, zp_eqFr, zp_eqTl, zp_eqFl, zp_eqFll, eq_self, zp_addl, zp_addr, zp_mull, zp_mulr, zp_subr, zp_subl, nI_add, pk_mul, Nat.reduceEqDiff, Nat.reduceLT, Nat.reduceLeDiff, Nat.reduceAdd, Nat.reduceMul, Nat.reduceSub, reduceCtorEq, Int32.reduceLT, Int32.reduceLE, not_true_eq_false, not_false_eq_true, and_true, true_and, and_false, false_and, or_true, true_or, or_false, false_or]; exact hI
  · simp (disch := omega) only [ze_X9_count_0, ze_X10_count_0, ze_X5_room_0, ze_X5_size_0, ze_X5_isThere_0, ze_X5_has_0, ze_X5_hasRun_0, ze_X5_get_0, ze_X5_set_0, ze_X5_drop_0, ze_X5_takeRun_0, ze_X9_rowAt_0, ze_X9_textAt_0, ze_X9_refuse_0, ze_X10_isRow_0, ze_X10_isText_0, ze_X10_finds_0, ze_X10_tells_0, zp_in_0_5, zp_in_0_3, zp_in_0_7, zp_in_1_5, zp_in_0_9, zp_in_0_2, zp_in_48_57, zp_in_0_12, zp_in_1_4, zp_in_1_9, zp_in_1_2147483646, zp_in_0_8, zp_in_0, ↓zp_dn, ↓zp_hV, ↓zp_hI, ↓zp_hL, ↓zp_hR, ↓zp_hX, zp_eV, zp_eI, zp_eL, zp_eR, zp_eX, zp_eXl, zp_iV, zp_iI, zp_iL, zp_iR, ↓zp_sm, ↓zp_nls, ↓zp_nln, zp_bo0, zp_bo1, zp_okE, zp_ok2E, zp_rfE, ↓reduceIte, if_true, if_false, zp_ofn, zp_sI1, zp_w1, zp_sL1, zp_sR1, zp_l1, zp_leT, zp_leF, zp_ltT, zp_ltF, zp_eqT, zp_eqF, zp_leTl, zp_leFl, zp_ltTl, zp_ltFl, zp_leTr, zp_leFr, zp_ltTr, zp_ltFr, zp_eqTr, zp_eqFr, zp_eqTl, zp_eqFl, zp_eqFll, eq_self, zp_addl, zp_addr, zp_mull, zp_mulr, zp_subr, zp_subl, nI_add, pk_mul, Nat.reduceEqDiff, Nat.reduceLT, Nat.reduceLeDiff, Nat.reduceAdd, Nat.reduceMul, Nat.reduceSub, reduceCtorEq, Int32.reduceLT, Int32.reduceLE, not_true_eq_false, not_false_eq_true, and_true, true_and, and_false, false_and, or_true, true_or, or_false, false_or]; exact hI
