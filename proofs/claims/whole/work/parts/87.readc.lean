/-! THE PURE PART: reading a SKY, the class: lines, sun, flyers, end -/
/-- a line begun -/
theorem zc_rline (d : Nat) {t n : Nat} {f : Nat → Int32} (hn : n ≤ 80) {h p w : Nat} (hh : h < 5) (hw : w ≤ 7) (hp : p + 7 ≤ 1000) {M : zi_M} (hT : zx_tc M t n f) (hpl : M.1 4 0 3 = nI p) (h01 : h ≠ 0 → M.1 0 1 1 = nI w) : ∃ M', zi_run (d + 2) zm_X4_readLine 0 [some (.inr (.inr (4, some 0))), some (.inl (nI h)), none, none, none] [] M = some (some (.inl (if zx_w (zx_g f n) (if h = 0 then 7 else w) p < 2 ∨ (h ≠ 0 ∧ zx_w (zx_g f n) (if h = 0 then 7 else w) p ≠ w) then 0 else 1)), M') ∧ M'.1 4 0 3 = nI (p + zx_w (zx_g f n) (if h = 0 then 7 else w) p) ∧ (∀ j, j < zx_w (zx_g f n) (if h = 0 then 7 else w) p → M'.1 11 1 (7 * h + j) = zx_o (zx_ai (zx_g f n (p + j)))) ∧ M'.1 0 1 1 = nI (if h = 0 then zx_w (zx_g f n) (if h = 0 then 7 else w) p else w) ∧ M'.1 0 1 2 = nI (h + 1) ∧ M'.2 = M.2 ∧ ∀ c' k' j, c' ≠ 4 → ¬ (c' = 11 ∧ k' = 1 ∧ 7 * h ≤ j) → ¬ (c' = 0 ∧ k' = 1) → M'.1 c' k' j = M.1 c' k' j := by
  have hlim : (if h = 0 then 7 else w) ≤ 7 := by split <;> omega
  obtain ⟨M1, e1, e2, e3, e4⟩ := zc_line d hn hh hlim (show p + (if h = 0 then 7 else w) ≤ 1000 from by omega) (M0 := M) (if h = 0 then 7 else w) 0 M (by omega) hT hpl (fun j hj => by omega) ⟨rfl, fun _ _ _ _ _ => rfl⟩
  rw [Nat.zero_add, Nat.add_zero] at e1 e2 e3
  have hcw := zx_w_le (zx_g f n) (if h = 0 then 7 else w) p
  have hw1 : h ≠ 0 → M1.1 0 1 1 = nI w := fun q => (e4.2 0 1 1 (by decide) (by omega)).trans (h01 q)
  have st : zi_run (d + 2) zm_X4_readLine 0 [some (.inr (.inr (4, some 0))), some (.inl (nI h)), none, none, none] [] M = zi_run (d + 2) zm_X4_readLine 71 [some (.inr (.inr (4, some 0))), some (.inl (nI h)), none, some (.inl (nI (zx_w (zx_g f n) (if h = 0 then 7 else w) p))), none] [] M1 := by
    refine Eq.trans ?_ e1
    rw [ze_X4_readLine_0]
    by_cases h0 : h = 0
    · subst h0
      simp (disch := omega) only [↓zp_dn, ↓zp_hV, ↓zp_hI, ↓zp_hL, ↓zp_hR, ↓zp_hX, zp_eV, zp_eI, zp_eL, zp_eR, zp_eX, zp_eXl, zp_iV, zp_iI, zp_iL, zp_iR, ↓zp_sm, ↓zp_nls, ↓zp_nln, zp_bo0, zp_bo1, zp_okE, zp_ok2E, zp_rfE, ↓reduceIte, if_true, if_false, zp_leT, zp_leF, zp_ltT, zp_ltF, zp_eqT, zp_eqF, zp_leTl, zp_leFl, zp_ltTl, zp_ltFl, zp_leTr, zp_leFr, zp_ltTr, zp_ltFr, zp_eqTr, zp_eqFr, zp_eqTl, zp_eqFl, zp_eqFll, eq_self, zp_addl, zp_addr, zp_mull, zp_mulr, zp_subr, zp_subl, nI_add, pk_mul, ze_X4_readLine_16]; rfl
    · simp (disch := omega) only [↓zp_dn, ↓zp_hV, ↓zp_hI, ↓zp_hL, ↓zp_hR, ↓zp_hX, zp_eV, zp_eI, zp_eL, zp_eR, zp_eX, zp_eXl, zp_iV, zp_iI, zp_iL, zp_iR, ↓zp_sm, ↓zp_nls, ↓zp_nln, zp_bo0, zp_bo1, zp_okE, zp_ok2E, zp_rfE, ↓reduceIte, if_true, if_false, zp_leT, zp_leF, zp_ltT, zp_ltF, zp_eqT, zp_eqF, zp_leTl, zp_leFl, zp_ltTl, zp_ltFl, zp_leTr, zp_leFr, zp_ltTr, zp_ltFr, zp_eqTr, zp_eqFr, zp_eqTl, zp_eqFl, zp_eqFll, eq_self, zp_addl, zp_addr, zp_mull, zp_mulr, zp_subr, zp_subl, nI_add, pk_mul, ze_X4_readLine_16, if_neg h0, h01 h0]; rfl
  rw [st, ze_X4_readLine_71]
  generalize zx_w (zx_g f n) (if h = 0 then 7 else w) p = c at *
  by_cases h0 : h = 0
  · subst h0
    refine ⟨zi_sI (zi_sI M1 0 1 1 (nI c)) 0 1 2 (nI (0 + 1)), ?_, by simpa [zp_sI1] using e2, fun j hj => by simpa [zp_sI1] using e3 j hj, by simp [zp_sI1], by simp [zp_sI1], e4.1, fun c' k' j a1 a2 a3 => by rw [zp_o1 (by omega), zp_o1 (by omega)]; exact e4.2 c' k' j a1 a2⟩
    by_cases hc : c < 2
    · rw [if_pos (show c < 2 ∨ (0 ≠ 0 ∧ c ≠ w) from Or.inl hc)]
      simp (disch := omega) only [↓zp_dn, ↓zp_hV, ↓zp_hI, ↓zp_hL, ↓zp_hR, ↓zp_hX, zp_eV, zp_eI, zp_eL, zp_eR, zp_eX, zp_eXl, zp_iV, zp_iI, zp_iL, zp_iR, ↓zp_sm, ↓zp_nls, ↓zp_nln, zp_bo0, zp_bo1, zp_okE, zp_ok2E, zp_rfE, ↓reduceIte, if_true, if_false, zp_leT, zp_leF, zp_ltT, zp_ltF, zp_eqT, zp_eqF, zp_leTl, zp_leFl, zp_ltTl, zp_ltFl, zp_leTr, zp_leFr, zp_ltTr, zp_ltFr, zp_eqTr, zp_eqFr, zp_eqTl, zp_eqFl, zp_eqFll, eq_self, zp_addl, zp_addr, zp_mull, zp_mulr, zp_subr, zp_subl, nI_add, pk_mul, ze_X4_readLine_83]
    · rw [if_neg (show ¬ (c < 2 ∨ (0 ≠ 0 ∧ c ≠ w)) from by omega)]
      simp (disch := omega) only [↓zp_dn, ↓zp_hV, ↓zp_hI, ↓zp_hL, ↓zp_hR, ↓zp_hX, zp_eV, zp_eI, zp_eL, zp_eR, zp_eX, zp_eXl, zp_iV, zp_iI, zp_iL, zp_iR, ↓zp_sm, ↓zp_nls, ↓zp_nln, zp_bo0, zp_bo1, zp_okE, zp_ok2E, zp_rfE, ↓reduceIte, if_true, if_false, zp_leT, zp_leF, zp_ltT, zp_ltF, zp_eqT, zp_eqF, zp_leTl, zp_leFl, zp_ltTl, zp_ltFl, zp_leTr, zp_leFr, zp_ltTr, zp_ltFr, zp_eqTr, zp_eqFr, zp_eqTl, zp_eqFl, zp_eqFll, eq_self, zp_addl, zp_addr, zp_mull, zp_mulr, zp_subr, zp_subl, nI_add, pk_mul, ze_X4_readLine_83, zp_sI1, Nat.reduceEqDiff, Nat.reduceLT, Nat.reduceLeDiff, Nat.reduceAdd, Nat.reduceMul, Nat.reduceSub, reduceCtorEq, Int32.reduceLT, Int32.reduceLE, not_true_eq_false, not_false_eq_true, and_true, true_and, and_false, false_and, or_true, true_or, or_false, false_or]
  · refine ⟨zi_sI M1 0 1 2 (nI (h + 1)), ?_, by simpa [zp_sI1] using e2, fun j hj => by simpa [zp_sI1] using e3 j hj, by simpa [zp_sI1, h0] using hw1 h0, by simp [zp_sI1], e4.1, fun c' k' j a1 a2 a3 => by rw [zp_o1 (by omega)]; exact e4.2 c' k' j a1 a2⟩
    by_cases hc : c < 2
    · rw [if_pos (show c < 2 ∨ (h ≠ 0 ∧ c ≠ w) from Or.inl hc)]
      simp (disch := omega) only [↓zp_dn, ↓zp_hV, ↓zp_hI, ↓zp_hL, ↓zp_hR, ↓zp_hX, zp_eV, zp_eI, zp_eL, zp_eR, zp_eX, zp_eXl, zp_iV, zp_iI, zp_iL, zp_iR, ↓zp_sm, ↓zp_nls, ↓zp_nln, zp_bo0, zp_bo1, zp_okE, zp_ok2E, zp_rfE, ↓reduceIte, if_true, if_false, zp_leT, zp_leF, zp_ltT, zp_ltF, zp_eqT, zp_eqF, zp_leTl, zp_leFl, zp_ltTl, zp_ltFl, zp_leTr, zp_leFr, zp_ltTr, zp_ltFr, zp_eqTr, zp_eqFr, zp_eqTl, zp_eqFl, zp_eqFll, eq_self, zp_addl, zp_addr, zp_mull, zp_mulr, zp_subr, zp_subl, nI_add, pk_mul, ze_X4_readLine_83]
    · by_cases hcw2 : c = w
      · rw [if_neg (show ¬ (c < 2 ∨ (h ≠ 0 ∧ c ≠ w)) from by omega)]
        simp (disch := omega) only [↓zp_dn, ↓zp_hV, ↓zp_hI, ↓zp_hL, ↓zp_hR, ↓zp_hX, zp_eV, zp_eI, zp_eL, zp_eR, zp_eX, zp_eXl, zp_iV, zp_iI, zp_iL, zp_iR, ↓zp_sm, ↓zp_nls, ↓zp_nln, zp_bo0, zp_bo1, zp_okE, zp_ok2E, zp_rfE, ↓reduceIte, if_true, if_false, zp_leT, zp_leF, zp_ltT, zp_ltF, zp_eqT, zp_eqF, zp_leTl, zp_leFl, zp_ltTl, zp_ltFl, zp_leTr, zp_leFr, zp_ltTr, zp_ltFr, zp_eqTr, zp_eqFr, zp_eqTl, zp_eqFl, zp_eqFll, eq_self, zp_addl, zp_addr, zp_mull, zp_mulr, zp_subr, zp_subl, nI_add, pk_mul, ze_X4_readLine_83, hw1 h0]
      · rw [if_pos (show c < 2 ∨ (h ≠ 0 ∧ c ≠ w) from Or.inr ⟨h0, hcw2⟩)]
        simp (disch := omega) only [↓zp_dn, ↓zp_hV, ↓zp_hI, ↓zp_hL, ↓zp_hR, ↓zp_hX, zp_eV, zp_eI, zp_eL, zp_eR, zp_eX, zp_eXl, zp_iV, zp_iI, zp_iL, zp_iR, ↓zp_sm, ↓zp_nls, ↓zp_nln, zp_bo0, zp_bo1, zp_okE, zp_ok2E, zp_rfE, ↓reduceIte, if_true, if_false, zp_leT, zp_leF, zp_ltT, zp_ltF, zp_eqT, zp_eqF, zp_leTl, zp_leFl, zp_ltTl, zp_ltFl, zp_leTr, zp_leFr, zp_ltTr, zp_ltFr, zp_eqTr, zp_eqFr, zp_eqTl, zp_eqFl, zp_eqFll, eq_self, zp_addl, zp_addr, zp_mull, zp_mulr, zp_subr, zp_subl, nI_add, pk_mul, ze_X4_readLine_83, hw1 h0]
/-- the AIR that stands in the reader -/
def zx_cells (f : Nat → Int32) (n p0 w h j : Nat) : Int32 := zx_o (zx_ai (zx_g f n (p0 + h * (w + 1) + j)))
theorem zx_Ls (g : Nat → Int32) (k h p w c : Nat) (hc : zx_w g (if h = 0 then 7 else w) p = c) : zx_L g (k + 1) h p w = if c < 2 ∨ (h ≠ 0 ∧ c ≠ w) then (false, p + c, w, h) else if g (p + c) = 61 then (true, p + c + 1, c, h + 1) else if g (p + c) = 47 ∧ h ≠ 4 then zx_L g k (h + 1) (p + c + 1) c else (false, p + c, w, h) := by
  subst hc; rw [zx_L]
theorem zc_lines (d : Nat) {t n : Nat} {f : Nat → Int32} (hn : n ≤ 80) {p0 : Nat} (hp0 : p0 ≤ 80) : ∀ (k h p w : Nat) (M : zi_M), h + k = 5 → p ≤ 80 + 8 * h → w ≤ 7 → p = p0 + h * (w + 1) → zx_tc M t n f → M.1 4 0 3 = nI p → (h ≠ 0 → M.1 0 1 1 = nI w) → (∀ h' j, h' < h → j < w → M.1 11 1 (7 * h' + j) = zx_cells f n p0 w h' j) → ∃ M', zi_run (d + 3) zm_X4_readLines 18 [some (.inr (.inr (4, some 0))), some (.inl (nI h)), none, none] [] M = some (some (.inl (if (zx_L (zx_g f n) k h p w).1 then 1 else 0)), M') ∧ zx_fr M M' ∧ M'.1 4 0 3 = nI (zx_L (zx_g f n) k h p w).2.1 ∧ ((zx_L (zx_g f n) k h p w).1 = true → M'.1 0 1 1 = nI (zx_L (zx_g f n) k h p w).2.2.1 ∧ M'.1 0 1 2 = nI (zx_L (zx_g f n) k h p w).2.2.2 ∧ (zx_L (zx_g f n) k h p w).2.1 = p0 + (zx_L (zx_g f n) k h p w).2.2.2 * ((zx_L (zx_g f n) k h p w).2.2.1 + 1) ∧ (2 ≤ (zx_L (zx_g f n) k h p w).2.2.1 ∧ (zx_L (zx_g f n) k h p w).2.2.1 ≤ 7 ∧ 1 ≤ (zx_L (zx_g f n) k h p w).2.2.2 ∧ (zx_L (zx_g f n) k h p w).2.2.2 ≤ 5) ∧ ∀ h' j, h' < (zx_L (zx_g f n) k h p w).2.2.2 → j < (zx_L (zx_g f n) k h p w).2.2.1 → M'.1 11 1 (7 * h' + j) = zx_cells f n p0 (zx_L (zx_g f n) k h p w).2.2.1 h' j) := by
  intro k
  induction k with
  | zero =>
    intro h p w M hk hp hw hpp hT hpl h01 hcl
    refine ⟨M, ?_, zx_fr_rfl M, hpl, fun q => by simp [zx_L] at q⟩
    rw [ze_X4_readLines_18, zx_L]
    simp (disch := omega) only [↓zp_dn, ↓zp_hV, ↓zp_hI, ↓zp_hL, ↓zp_hR, ↓zp_hX, zp_eV, zp_eI, zp_eL, zp_eR, zp_eX, zp_eXl, zp_iV, zp_iI, zp_iL, zp_iR, ↓zp_sm, ↓zp_nls, ↓zp_nln, zp_bo0, zp_bo1, zp_okE, zp_ok2E, zp_rfE, ↓reduceIte, if_true, if_false, zp_leT, zp_leF, zp_ltT, zp_ltF, zp_eqT, zp_eqF, zp_leTl, zp_leFl, zp_ltTl, zp_ltFl, zp_leTr, zp_leFr, zp_ltTr, zp_ltFr, zp_eqTr, zp_eqFr, zp_eqTl, zp_eqFl, zp_eqFll, eq_self, zp_addl, zp_addr, zp_mull, zp_mulr, zp_subr, zp_subl, nI_add, pk_mul, Bool.false_eq_true]
  | succ k ih =>
    intro h p w M hk hp hw hpp hT hpl h01 hcl
    obtain ⟨M1, e1, e2, e3, e4, e5, e6, e7⟩ := zc_rline (d) hn (show h < 5 from by omega) hw (show p + 7 ≤ 1000 from by omega) hT hpl h01
    have hcw := zx_w_le (zx_g f n) (if h = 0 then 7 else w) p
    have hlim : (if h = 0 then 7 else w) ≤ 7 := by split <;> omega
    have fr1 : zx_fr M M1 := ⟨e6, fun c k j a b e _ _ _ => e7 c k j a (fun q => e ⟨q.1, q.2.1⟩) b⟩
    rw [ze_X4_readLines_18]
    obtain ⟨c, hc⟩ : ∃ c, zx_w (zx_g f n) (if h = 0 then 7 else w) p = c := ⟨_, rfl⟩
    have eL := zx_Ls (zx_g f n) k h p w c hc
    rw [hc] at e1 e2 e3 e4 hcw
    by_cases hbad : c < 2 ∨ (h ≠ 0 ∧ c ≠ w)
    · rw [if_pos hbad] at e1
      rw [if_pos hbad] at eL
      rw [eL]
      refine ⟨M1, ?_, fr1, e2, fun q => by simp at q⟩
      simp (disch := omega) only [↓zp_dn, ↓zp_hV, ↓zp_hI, ↓zp_hL, ↓zp_hR, ↓zp_hX, zp_eV, zp_eI, zp_eL, zp_eR, zp_eX, zp_eXl, zp_iV, zp_iI, zp_iL, zp_iR, ↓zp_sm, ↓zp_nls, ↓zp_nln, zp_bo0, zp_bo1, zp_okE, zp_ok2E, zp_rfE, ↓reduceIte, if_true, if_false, zp_leT, zp_leF, zp_ltT, zp_ltF, zp_eqT, zp_eqF, zp_leTl, zp_leFl, zp_ltTl, zp_ltFl, zp_leTr, zp_leFr, zp_ltTr, zp_ltFr, zp_eqTr, zp_eqFr, zp_eqTl, zp_eqFl, zp_eqFll, eq_self, zp_addl, zp_addr, zp_mull, zp_mulr, zp_subr, zp_subl, nI_add, pk_mul, e1, Bool.false_eq_true]
    · rw [if_neg hbad] at e1
      rw [if_neg hbad] at eL
      have hT1 := zx_tc_fr fr1 hT
      have h2c : 2 ≤ c := by omega
      have hcw2 : h ≠ 0 → c = w := fun q => by omega
      have e4' : M1.1 0 1 1 = nI c := by
        rw [e4]
        by_cases h0 : h = 0
        · rw [if_pos h0]
        · rw [if_neg h0, hcw2 h0]
      have cl : ∀ h' j, h' < h + 1 → j < c → M1.1 11 1 (7 * h' + j) = zx_cells f n p0 c h' j := by
        intro h' j hh' hj
        by_cases q : h' = h
        · subst q
          rw [e3 j hj, zx_cells]
          by_cases h0 : h' = 0
          · subst h0; rw [hpp]; simp
          · rw [hcw2 h0, hpp]
        · have hne : h ≠ 0 := by omega
          have hc2 := hcw2 hne
          rw [e7 11 1 (7 * h' + j) (by decide) (by omega) (by decide), hcl h' j (by omega) (by omega), hc2]
      have hr : ∀ e, zi_run (e + 1) zm_X4_here 0 [some (.inr (.inr (4, some 0)))] [] M1 = _ := fun e => zc_here e hT1 hn e2 (by omega)
      have pp : p + c + 1 = p0 + (h + 1) * (c + 1) := by
        by_cases h0 : h = 0
        · subst h0; rw [hpp]; omega
        · rw [hcw2 h0, hpp, Nat.add_mul h 1]; omega
      have b7 : c ≤ 7 := by omega
      by_cases q61 : zx_g f n (p + c) = 61
      · rw [if_pos q61] at eL
        rw [eL]
        refine ⟨zi_sI M1 4 0 3 (nI (p + c + 1)), ?_, zx_fr_I fr1 (by omega) _, by simp [zp_sI1], fun _ => ⟨by simpa [zp_sI1] using e4', by simpa [zp_sI1] using e5, pp, ⟨h2c, b7, show 1 ≤ h + 1 from by omega, show h + 1 ≤ 5 from by omega⟩, fun h' j a b => by simpa [zp_sI1] using cl h' j a b⟩⟩
        have n61 : ¬ (1 : Int32) = 0 := by decide
        simp (disch := omega) only [↓zp_dn, ↓zp_hV, ↓zp_hI, ↓zp_hL, ↓zp_hR, ↓zp_hX, zp_eV, zp_eI, zp_eL, zp_eR, zp_eX, zp_eXl, zp_iV, zp_iI, zp_iL, zp_iR, ↓zp_sm, ↓zp_nls, ↓zp_nln, zp_bo0, zp_bo1, zp_okE, zp_ok2E, zp_rfE, ↓reduceIte, if_true, if_false, zp_leT, zp_leF, zp_ltT, zp_ltF, zp_eqT, zp_eqF, zp_leTl, zp_leFl, zp_ltTl, zp_ltFl, zp_leTr, zp_leFr, zp_ltTr, zp_ltFr, zp_eqTr, zp_eqFr, zp_eqTl, zp_eqFl, zp_eqFll, eq_self, zp_addl, zp_addr, zp_mull, zp_mulr, zp_subr, zp_subl, nI_add, pk_mul, e1, hr, if_pos q61, ze_X4_readLines_49, ze_X4_readLines_67, zp_1n0, e2]
      · rw [if_neg q61] at eL
        by_cases q47 : zx_g f n (p + c) = 47 ∧ h ≠ 4
        · rw [if_pos q47] at eL
          rw [eL]
          obtain ⟨M', f1, f2, f3, f4⟩ := ih (h + 1) (p + c + 1) c (zi_sI M1 4 0 3 (nI (p + c + 1))) (by omega) (by omega) b7 pp (zx_tc_fr (zx_fr_I fr1 (by omega) _) hT) (by simp [zp_sI1]) (fun _ => by simpa [zp_sI1] using e4') (fun h' j a b => by simpa [zp_sI1] using cl h' j a b)
          refine ⟨M', ?_, zx_fr_tr (zx_fr_I fr1 (by omega) _) f2, f3, f4⟩
          refine Eq.trans ?_ f1
          have h4 := q47.2
          simp (disch := omega) only [↓zp_dn, ↓zp_hV, ↓zp_hI, ↓zp_hL, ↓zp_hR, ↓zp_hX, zp_eV, zp_eI, zp_eL, zp_eR, zp_eX, zp_eXl, zp_iV, zp_iI, zp_iL, zp_iR, ↓zp_sm, ↓zp_nls, ↓zp_nln, zp_bo0, zp_bo1, zp_okE, zp_ok2E, zp_rfE, ↓reduceIte, if_true, if_false, zp_leT, zp_leF, zp_ltT, zp_ltF, zp_eqT, zp_eqF, zp_leTl, zp_leFl, zp_ltTl, zp_ltFl, zp_leTr, zp_leFr, zp_ltTr, zp_ltFr, zp_eqTr, zp_eqFr, zp_eqTl, zp_eqFl, zp_eqFll, eq_self, zp_addl, zp_addr, zp_mull, zp_mulr, zp_subr, zp_subl, nI_add, pk_mul, e1, hr, if_neg q61, if_pos q47.1, ze_X4_readLines_49, ze_X4_readLines_67, zp_1n0, e2]
        · rw [if_neg q47] at eL
          rw [eL]
          refine ⟨M1, ?_, fr1, e2, fun q => by simp at q⟩
          by_cases q : zx_g f n (p + c) = 47
          · have h4 : h = 4 := Decidable.byContradiction (fun e => q47 ⟨q, e⟩)
            simp (disch := omega) only [↓zp_dn, ↓zp_hV, ↓zp_hI, ↓zp_hL, ↓zp_hR, ↓zp_hX, zp_eV, zp_eI, zp_eL, zp_eR, zp_eX, zp_eXl, zp_iV, zp_iI, zp_iL, zp_iR, ↓zp_sm, ↓zp_nls, ↓zp_nln, zp_bo0, zp_bo1, zp_okE, zp_ok2E, zp_rfE, ↓reduceIte, if_true, if_false, zp_leT, zp_leF, zp_ltT, zp_ltF, zp_eqT, zp_eqF, zp_leTl, zp_leFl, zp_ltTl, zp_ltFl, zp_leTr, zp_leFr, zp_ltTr, zp_ltFr, zp_eqTr, zp_eqFr, zp_eqTl, zp_eqFl, zp_eqFll, eq_self, zp_addl, zp_addr, zp_mull, zp_mulr, zp_subr, zp_subl, nI_add, pk_mul, e1, hr, if_neg q61, if_pos q, ze_X4_readLines_49, zp_1n0, Bool.false_eq_true]
          · simp (disch := omega) only [↓zp_dn, ↓zp_hV, ↓zp_hI, ↓zp_hL, ↓zp_hR, ↓zp_hX, zp_eV, zp_eI, zp_eL, zp_eR, zp_eX, zp_eXl, zp_iV, zp_iI, zp_iL, zp_iR, ↓zp_sm, ↓zp_nls, ↓zp_nln, zp_bo0, zp_bo1, zp_okE, zp_ok2E, zp_rfE, ↓reduceIte, if_true, if_false, zp_leT, zp_leF, zp_ltT, zp_ltF, zp_eqT, zp_eqF, zp_leTl, zp_leFl, zp_ltTl, zp_ltFl, zp_leTr, zp_leFr, zp_ltTr, zp_ltFr, zp_eqTr, zp_eqFr, zp_eqTl, zp_eqFl, zp_eqFll, eq_self, zp_addl, zp_addr, zp_mull, zp_mulr, zp_subr, zp_subl, nI_add, pk_mul, e1, hr, if_neg q61, if_neg q, ze_X4_readLines_49, zp_1n0, Bool.false_eq_true]
