/-! THE PURE PART: reading a SKY, the reference: the lines -/
theorem zx_ai47 : zx_ai 47 = none := (rfl)
theorem zx_ai61 : zx_ai 61 = none := (rfl)
theorem zr_lines (d : Nat) {t n : Nat} {f : Nat → Int32} {p0 : Nat} (hp0 : p0 ≤ 80) {M0 : zi_M} : ∀ (k h p w : Nat) (M : zi_M), h + k = 5 → k ≠ 0 → p ≤ 80 + 8 * h → w ≤ 7 → p = p0 + h * (w + 1) → zx_tr M t n f → M.1 10 0 15 = nI p → (h ≠ 0 → 2 ≤ w ∧ M.1 33 0 0 = nI w) → M.1 33 0 1 = nI h → (∀ h' j, h' < h → j < w → M.1 33 0 (5 + (7 * h' + j)) = zx_cells f n p0 w h' j) → (zx_rf M0 M ∧ ∀ j, (2 ≤ j ∧ j < 5) ∨ 40 ≤ j → M.1 33 0 j = M0.1 33 0 j) → ∃ M', zi_run (d + 2) zm_X10_readsAir 2 [some (.inr (.inr (10, some 0))), some (.inl 1), none, none, none] [] M = some (some (.inl (if (zx_L (zx_g f n) k h p w).1 then 1 else 0)), M') ∧ (zx_rf M0 M' ∧ ∀ j, (2 ≤ j ∧ j < 5) ∨ 40 ≤ j → M'.1 33 0 j = M0.1 33 0 j) ∧ M'.1 10 0 15 = nI (zx_L (zx_g f n) k h p w).2.1 ∧ ((zx_L (zx_g f n) k h p w).1 = true → M'.1 33 0 0 = nI (zx_L (zx_g f n) k h p w).2.2.1 ∧ M'.1 33 0 1 = nI (zx_L (zx_g f n) k h p w).2.2.2 ∧ (zx_L (zx_g f n) k h p w).2.1 = p0 + (zx_L (zx_g f n) k h p w).2.2.2 * ((zx_L (zx_g f n) k h p w).2.2.1 + 1) ∧ (2 ≤ (zx_L (zx_g f n) k h p w).2.2.1 ∧ (zx_L (zx_g f n) k h p w).2.2.1 ≤ 7 ∧ 1 ≤ (zx_L (zx_g f n) k h p w).2.2.2 ∧ (zx_L (zx_g f n) k h p w).2.2.2 ≤ 5) ∧ ∀ h' j, h' < (zx_L (zx_g f n) k h p w).2.2.2 → j < (zx_L (zx_g f n) k h p w).2.2.1 → M'.1 33 0 (5 + (7 * h' + j)) = zx_cells f n p0 (zx_L (zx_g f n) k h p w).2.2.1 h' j) := by
  intro k
  induction k with
  | zero => intro h p w M _ hk; exact absurd rfl hk
  | succ k ih =>
    intro h p w M hk _ hp hw hpp hT hpl h01 h1 hcl hfr
    have hlim7 : (if h = 0 then 7 else w) ≤ 7 := by split <;> omega
    obtain ⟨M1, e1, e2, e3, e4, e5⟩ := zr_line d (show h < 5 from by omega) hw rfl (show p + 7 ≤ 1000 from by omega) (M0 := M) (if h = 0 then 7 else w) 0 M (by omega) hT hpl (fun q => (h01 q).2) (fun j hj => by omega) ⟨zx_rf_rfl M, fun _ _ => rfl⟩
    simp only [Nat.zero_add, Nat.add_zero] at e1 e2 e3 e5
    have hcw := zx_w_le (zx_g f n) (if h = 0 then 7 else w) p
    obtain ⟨c, hc⟩ : ∃ c, zx_w (zx_g f n) (if h = 0 then 7 else w) p = c := ⟨_, rfl⟩
    have eL := zx_Ls (zx_g f n) k h p w c hc
    rw [hc] at e1 e2 e3 e5 hcw
    have st : zi_run (d + 2) zm_X10_readsAir 2 [some (.inr (.inr (10, some 0))), some (.inl 1), none, none, none] [] M = zi_run (d + 2) zm_X10_readsAir 15 [some (.inr (.inr (10, some 0))), none, some (.inl (nI h)), some (.inl (nI c)), none] [] M1 := by
      refine Eq.trans ?_ e1
      rw [ze_X10_readsAir_2]
      simp (disch := omega) only [↓zp_dn, ↓zp_hV, ↓zp_hI, ↓zp_hL, ↓zp_hR, ↓zp_hX, zp_eV, zp_eI, zp_eL, zp_eR, zp_eX, zp_eXl, zp_iV, zp_iI, zp_iL, zp_iR, ↓zp_sm, ↓zp_nls, ↓zp_nln, zp_bo0, zp_bo1, zp_okE, zp_ok2E, zp_rfE, ↓reduceIte, if_true, if_false, zp_leT, zp_leF, zp_ltT, zp_ltF, zp_eqT, zp_eqF, zp_leTl, zp_leFl, zp_ltTl, zp_ltFl, zp_leTr, zp_leFr, zp_ltTr, zp_ltFr, zp_eqTr, zp_eqFr, zp_eqTl, zp_eqFl, zp_eqFll, eq_self, zp_addl, zp_addr, zp_mull, zp_mulr, zp_subr, zp_subl, nI_add, pk_mul, zp_1n0, h1]
      rfl
    rw [st, ze_X10_readsAir_15]
    have hT1 := zx_tr_rf e4.1 hT
    have sg : ∀ e, zi_run e zm_X10_sign 0 [some (.inr (.inr (10, some 0)))] [] M1 = _ := fun e => zr_sign e hT1 e2 (by omega)
    have w1 : h ≠ 0 → M1.1 33 0 0 = nI w := fun q => (e4.2 0 (by omega)).trans (h01 q).2
    have h11 : M1.1 33 0 1 = nI h := (e4.2 1 (by omega)).trans h1
    have fr1 : zx_rf M0 M1 ∧ ∀ j, (2 ≤ j ∧ j < 5) ∨ 40 ≤ j → M1.1 33 0 j = M0.1 33 0 j := ⟨zx_rf_tr hfr.1 e4.1, fun j q => (e4.2 j (by omega)).trans (hfr.2 j q)⟩
    have n9 : ∀ a, a < 6 → ¬ nI a = (-9 : Int32) := fun a ha => zg_9 (by omega)
    by_cases hbad : c < 2 ∨ (h ≠ 0 ∧ c ≠ w)
    · rw [if_pos hbad] at eL
      rw [eL]
      refine ⟨M1, ?_, fr1, e2, fun q => by cases q⟩
      have hno : zx_ai (zx_g f n (p + c)) = none := by
        rcases e5 with q | q
        · exfalso
          by_cases h0 : h = 0
          · rw [if_pos h0] at q; omega
          · rw [if_neg h0] at q; have := (h01 h0).1; omega
        · exact q
      by_cases h0 : h = 0
      · subst h0
        have c2 : c < 2 := by omega
        simp (disch := omega) only [↓zp_dn, ↓zp_hV, ↓zp_hI, ↓zp_hL, ↓zp_hR, ↓zp_hX, zp_eV, zp_eI, zp_eL, zp_eR, zp_eX, zp_eXl, zp_iV, zp_iI, zp_iL, zp_iR, ↓zp_sm, ↓zp_nls, ↓zp_nln, zp_bo0, zp_bo1, zp_okE, zp_ok2E, zp_rfE, ↓reduceIte, if_true, if_false, zp_leT, zp_leF, zp_ltT, zp_ltF, zp_eqT, zp_eqF, zp_leTl, zp_leFl, zp_ltTl, zp_ltFl, zp_leTr, zp_leFr, zp_ltTr, zp_ltFr, zp_eqTr, zp_eqFr, zp_eqTl, zp_eqFl, zp_eqFll, eq_self, zp_addl, zp_addr, zp_mull, zp_mulr, zp_subr, zp_subl, nI_add, pk_mul, sg, zr_airOf, zx_s_ai, hno, zx_9, ze_X10_readsAir_117, Bool.false_eq_true]
      · have hw' := w1 h0
        have hcw' : c ≤ w := by rw [if_neg h0] at hcw; exact hcw
        have hw2 := (h01 h0).1
        have c2 : c ≠ w := by omega
        simp (disch := omega) only [↓zp_dn, ↓zp_hV, ↓zp_hI, ↓zp_hL, ↓zp_hR, ↓zp_hX, zp_eV, zp_eI, zp_eL, zp_eR, zp_eX, zp_eXl, zp_iV, zp_iI, zp_iL, zp_iR, ↓zp_sm, ↓zp_nls, ↓zp_nln, zp_bo0, zp_bo1, zp_okE, zp_ok2E, zp_rfE, ↓reduceIte, if_true, if_false, zp_leT, zp_leF, zp_ltT, zp_ltF, zp_eqT, zp_eqF, zp_leTl, zp_leFl, zp_ltTl, zp_ltFl, zp_leTr, zp_leFr, zp_ltTr, zp_ltFr, zp_eqTr, zp_eqFr, zp_eqTl, zp_eqFl, zp_eqFll, eq_self, zp_addl, zp_addr, zp_mull, zp_mulr, zp_subr, zp_subl, nI_add, pk_mul, sg, zr_airOf, zx_s_ai, hno, zx_9, hw', ze_X10_readsAir_117, Bool.false_eq_true]
    rw [if_neg hbad] at eL
    have h2c : 2 ≤ c := by omega
    have hcw2 : h ≠ 0 → c = w := fun q => by omega
    have b7 : c ≤ 7 := by omega
    have cl : ∀ h' j, h' < h + 1 → j < c → M1.1 33 0 (5 + (7 * h' + j)) = zx_cells f n p0 c h' j := by
      intro h' j hh' hj
      by_cases q : h' = h
      · subst q
        rw [e3 j hj, zx_cells]
        by_cases h0 : h' = 0
        · subst h0; rw [hpp]; simp
        · rw [hcw2 h0, hpp]
      · have hne : h ≠ 0 := by omega
        have hc2 := hcw2 hne
        rw [e4.2 _ (by omega), hcl h' j (by omega) (by omega), hc2]
    have pp : p + c + 1 = p0 + (h + 1) * (c + 1) := by
      by_cases h0 : h = 0
      · subst h0; rw [hpp]; omega
      · rw [hcw2 h0, hpp, Nat.add_mul h 1]; omega
    cases ha : zx_ai (zx_g f n (p + c)) with
    | some a =>
      have ha6 := zx_ai_lt ha
      have q61 : ¬ zx_g f n (p + c) = 61 := fun q => by rw [q, zx_ai61] at ha; cases ha
      have q47 : ¬ (zx_g f n (p + c) = 47 ∧ h ≠ 4) := fun q => by rw [q.1, zx_ai47] at ha; cases ha
      rw [if_neg q61, if_neg q47] at eL
      rw [eL]
      refine ⟨M1, ?_, fr1, e2, fun q => by cases q⟩
      have hlim : c = if h = 0 then 7 else w := by
        rcases e5 with q | q
        · exact q
        · rw [q] at ha; cases ha
      by_cases h0 : h = 0
      · subst h0
        have c7 : c = 7 := hlim
        subst c7
        simp (disch := omega) only [↓zp_dn, ↓zp_hV, ↓zp_hI, ↓zp_hL, ↓zp_hR, ↓zp_hX, zp_eV, zp_eI, zp_eL, zp_eR, zp_eX, zp_eXl, zp_iV, zp_iI, zp_iL, zp_iR, ↓zp_sm, ↓zp_nls, ↓zp_nln, zp_bo0, zp_bo1, zp_okE, zp_ok2E, zp_rfE, ↓reduceIte, if_true, if_false, zp_leT, zp_leF, zp_ltT, zp_ltF, zp_eqT, zp_eqF, zp_leTl, zp_leFl, zp_ltTl, zp_ltFl, zp_leTr, zp_leFr, zp_ltTr, zp_ltFr, zp_eqTr, zp_eqFr, zp_eqTl, zp_eqFl, zp_eqFll, eq_self, zp_addl, zp_addr, zp_mull, zp_mulr, zp_subr, zp_subl, nI_add, pk_mul, sg, zr_airOf, zx_s_ai, ha, zx_9, if_neg (n9 a ha6), Bool.false_eq_true]
      · have hw' := w1 h0
        have cw : c = w := hcw2 h0
        by_cases c7 : c = 7
        · simp (disch := omega) only [↓zp_dn, ↓zp_hV, ↓zp_hI, ↓zp_hL, ↓zp_hR, ↓zp_hX, zp_eV, zp_eI, zp_eL, zp_eR, zp_eX, zp_eXl, zp_iV, zp_iI, zp_iL, zp_iR, ↓zp_sm, ↓zp_nls, ↓zp_nln, zp_bo0, zp_bo1, zp_okE, zp_ok2E, zp_rfE, ↓reduceIte, if_true, if_false, zp_leT, zp_leF, zp_ltT, zp_ltF, zp_eqT, zp_eqF, zp_leTl, zp_leFl, zp_ltTl, zp_ltFl, zp_leTr, zp_leFr, zp_ltTr, zp_ltFr, zp_eqTr, zp_eqFr, zp_eqTl, zp_eqFl, zp_eqFll, eq_self, zp_addl, zp_addr, zp_mull, zp_mulr, zp_subr, zp_subl, nI_add, pk_mul, sg, zr_airOf, zx_s_ai, ha, zx_9, if_neg (n9 a ha6), Bool.false_eq_true]
        · simp (disch := omega) only [↓zp_dn, ↓zp_hV, ↓zp_hI, ↓zp_hL, ↓zp_hR, ↓zp_hX, zp_eV, zp_eI, zp_eL, zp_eR, zp_eX, zp_eXl, zp_iV, zp_iI, zp_iL, zp_iR, ↓zp_sm, ↓zp_nls, ↓zp_nln, zp_bo0, zp_bo1, zp_okE, zp_ok2E, zp_rfE, ↓reduceIte, if_true, if_false, zp_leT, zp_leF, zp_ltT, zp_ltF, zp_eqT, zp_eqF, zp_leTl, zp_leFl, zp_ltTl, zp_ltFl, zp_leTr, zp_leFr, zp_ltTr, zp_ltFr, zp_eqTr, zp_eqFr, zp_eqTl, zp_eqFl, zp_eqFll, eq_self, zp_addl, zp_addr, zp_mull, zp_mulr, zp_subr, zp_subl, nI_add, pk_mul, sg, zr_airOf, zx_s_ai, ha, zx_9, if_neg (n9 a ha6), hw', Bool.false_eq_true]
    | none =>
      have to117 : ∀ (o : zi_O), zi_run (d + 2) zm_X10_readsAir 117 [some (.inr (.inr (10, some 0))), none, none, some (.inl (nI c)), none] [.inl 1] M1 = o → (zi_cI (zi_dn (d + 2) fun e => zi_run e zm_X10_sign 0 [some (.inr (.inr (10, some 0)))] [] M1) (fun x22 M21 => zi_cI (zi_dn (d + 2) fun e => zi_run e zm_X10_airOf 0 [some (.inl x22), none] [] M21) (fun x24 M23 => if x24 = (-9) then (if nI h = 0 then (if nI c ≤ 1 then zi_run (d + 2) zm_X10_readsAir 117 [some (.inr (.inr (10, some 0))), none, none, some (.inl (nI c)), none] [.inl 0] M23 else zi_run (d + 2) zm_X10_readsAir 117 [some (.inr (.inr (10, some 0))), none, none, some (.inl (nI c)), none] [.inl 1] M23) else zi_ix 0 356 (fun q25 => if nI c = M23.1 33 0 q25 then zi_run (d + 2) zm_X10_readsAir 117 [some (.inr (.inr (10, some 0))), none, none, some (.inl (nI c)), none] [.inl 1] M23 else zi_run (d + 2) zm_X10_readsAir 117 [some (.inr (.inr (10, some 0))), none, none, some (.inl (nI c)), none] [.inl 0] M23)) else (if nI c = 7 then some (some (.inl 0), M23) else (if nI h ≤ 0 then zi_run (d + 2) zm_X10_readsAir 49 [some (.inr (.inr (10, some 0))), none, some (.inl (nI h)), some (.inl (nI c)), none] [] M23 else zi_ix 0 356 (fun q26 => if nI c = M23.1 33 0 q26 then some (some (.inl 0), M23) else zi_run (d + 2) zm_X10_readsAir 49 [some (.inr (.inr (10, some 0))), none, some (.inl (nI h)), some (.inl (nI c)), none] [] M23))))) = o) := fun o ho => by
        by_cases h0 : h = 0
        · subst h0
          simp (disch := omega) only [↓zp_dn, ↓zp_hV, ↓zp_hI, ↓zp_hL, ↓zp_hR, ↓zp_hX, zp_eV, zp_eI, zp_eL, zp_eR, zp_eX, zp_eXl, zp_iV, zp_iI, zp_iL, zp_iR, ↓zp_sm, ↓zp_nls, ↓zp_nln, zp_bo0, zp_bo1, zp_okE, zp_ok2E, zp_rfE, ↓reduceIte, if_true, if_false, zp_leT, zp_leF, zp_ltT, zp_ltF, zp_eqT, zp_eqF, zp_leTl, zp_leFl, zp_ltTl, zp_ltFl, zp_leTr, zp_leFr, zp_ltTr, zp_ltFr, zp_eqTr, zp_eqFr, zp_eqTl, zp_eqFl, zp_eqFll, eq_self, zp_addl, zp_addr, zp_mull, zp_mulr, zp_subr, zp_subl, nI_add, pk_mul, sg, zr_airOf, zx_s_ai, ha, zx_9]
          exact ho
        · have hw' := w1 h0
          have cw : c = w := hcw2 h0
          simp (disch := omega) only [↓zp_dn, ↓zp_hV, ↓zp_hI, ↓zp_hL, ↓zp_hR, ↓zp_hX, zp_eV, zp_eI, zp_eL, zp_eR, zp_eX, zp_eXl, zp_iV, zp_iI, zp_iL, zp_iR, ↓zp_sm, ↓zp_nls, ↓zp_nln, zp_bo0, zp_bo1, zp_okE, zp_ok2E, zp_rfE, ↓reduceIte, if_true, if_false, zp_leT, zp_leF, zp_ltT, zp_ltF, zp_eqT, zp_eqF, zp_leTl, zp_leFl, zp_ltTl, zp_ltFl, zp_leTr, zp_leFr, zp_ltTr, zp_ltFr, zp_eqTr, zp_eqFr, zp_eqTl, zp_eqFl, zp_eqFll, eq_self, zp_addl, zp_addr, zp_mull, zp_mulr, zp_subr, zp_subl, nI_add, pk_mul, sg, zr_airOf, zx_s_ai, ha, zx_9, hw']
          exact ho
      have sg2 : ∀ (x y : Int32) (e : Nat), zi_run e zm_X10_sign 0 [some (.inr (.inr (10, some 0)))] [] (zi_sI (zi_sI M1 33 0 0 x) 33 0 1 y) = some (some (.inl (zx_s f n (p + c))), zi_sI (zi_sI M1 33 0 0 x) 33 0 1 y) := fun x y e => zr_sign e (zx_tr_rf (zx_rf_33 (zx_rf_33 (zx_rf_rfl M1) _ _) _ _) hT1) (by rw [zp_o1 (by omega), zp_o1 (by omega)]; exact e2) (by omega)
      obtain ⟨M2, hM2⟩ : ∃ M2, M2 = zi_sI (zi_sI M1 33 0 0 (nI c)) 33 0 1 (nI (h + 1)) := ⟨_, rfl⟩
      have h1' : ∀ x : Int32, (zi_sI M1 33 0 0 x).1 33 0 1 = nI h := fun x => by rw [zp_sI1, if_pos rfl, if_neg (by decide)]; exact h11
      have fr2 : zx_rf M0 M2 ∧ ∀ j, (2 ≤ j ∧ j < 5) ∨ 40 ≤ j → M2.1 33 0 j = M0.1 33 0 j := ⟨by rw [hM2]; exact zx_rf_33 (zx_rf_33 fr1.1 _ _) _ _, fun j q => by
        rw [hM2, zp_sI1, if_pos rfl, if_neg (by omega), zp_sI1, if_pos rfl, if_neg (by omega)]; exact fr1.2 j q⟩
      have m15 : M2.1 10 0 15 = nI (p + c) := by rw [hM2, zp_o1 (by omega), zp_o1 (by omega)]; exact e2
      have cl2 : ∀ h' j, h' < h + 1 → j < c → M2.1 33 0 (5 + (7 * h' + j)) = zx_cells f n p0 c h' j := fun h' j a b => by
        rw [hM2, zp_sI1, if_pos rfl, if_neg (by omega), zp_sI1, if_pos rfl, if_neg (by omega)]; exact cl h' j a b
      have m0 : M2.1 33 0 0 = nI c := by rw [hM2]; simp [zp_sI1]
      have m1 : M2.1 33 0 1 = nI (h + 1) := by rw [hM2]; simp [zp_sI1]
      obtain ⟨M3, hM3⟩ : ∃ M3, M3 = zi_sI M2 10 0 15 (nI (p + c + 1)) := ⟨_, rfl⟩
      have k3 : ∀ j, M3.1 33 0 j = M2.1 33 0 j := fun j => by rw [hM3, zp_o1 (by omega)]
      have fr3 : zx_rf M0 M3 ∧ ∀ j, (2 ≤ j ∧ j < 5) ∨ 40 ≤ j → M3.1 33 0 j = M0.1 33 0 j := ⟨by rw [hM3]; exact zx_rf_15 fr2.1 _, fun j q => (k3 j).trans (fr2.2 j q)⟩
      have p3 : M3.1 10 0 15 = nI (p + c + 1) := by rw [hM3]; simp [zp_sI1]
      by_cases q61 : zx_g f n (p + c) = 61
      · rw [if_pos q61] at eL
        rw [eL]
        refine ⟨M3, ?_, fr3, p3, fun _ => ⟨(k3 0).trans m0, (k3 1).trans m1, pp, ⟨h2c, b7, show 1 ≤ h + 1 from by omega, show h + 1 ≤ 5 from by omega⟩, fun h' j a b => (k3 _).trans (cl2 h' j a b)⟩⟩
        refine to117 _ ?_
        have q47 : ¬ zx_g f n (p + c) = 47 := fun q => by rw [q] at q61; exact absurd q61 (by decide)
        have tl : zi_run (d + 2) zm_X10_readsAir 175 [some (.inr (.inr (10, some 0))), none, none, none, none] [.inl 0] M2 = some (some (.inl 1), M3) := by
          rw [ze_X10_readsAir_175]
          simp (disch := omega) only [↓zp_dn, ↓zp_hV, ↓zp_hI, ↓zp_hL, ↓zp_hR, ↓zp_hX, zp_eV, zp_eI, zp_eL, zp_eR, zp_eX, zp_eXl, zp_iV, zp_iI, zp_iL, zp_iR, ↓zp_sm, ↓zp_nls, ↓zp_nln, zp_bo0, zp_bo1, zp_okE, zp_ok2E, zp_rfE, ↓reduceIte, if_true, if_false, zp_leT, zp_leF, zp_ltT, zp_ltF, zp_eqT, zp_eqF, zp_leTl, zp_leFl, zp_ltTl, zp_ltFl, zp_leTr, zp_leFr, zp_ltTr, zp_ltFr, zp_eqTr, zp_eqFr, zp_eqTl, zp_eqFl, zp_eqFll, eq_self, zp_addl, zp_addr, zp_mull, zp_mulr, zp_subr, zp_subl, nI_add, pk_mul, ze_X10_readsAir_192, m15, ← hM3, ze_X10_readsAir_2]
        rw [ze_X10_readsAir_117]
        simp (disch := omega) only [↓zp_dn, ↓zp_hV, ↓zp_hI, ↓zp_hL, ↓zp_hR, ↓zp_hX, zp_eV, zp_eI, zp_eL, zp_eR, zp_eX, zp_eXl, zp_iV, zp_iI, zp_iL, zp_iR, ↓zp_sm, ↓zp_nls, ↓zp_nln, zp_bo0, zp_bo1, zp_okE, zp_ok2E, zp_rfE, ↓reduceIte, if_true, if_false, zp_leT, zp_leF, zp_ltT, zp_ltF, zp_eqT, zp_eqF, zp_leTl, zp_leFl, zp_ltTl, zp_ltFl, zp_leTr, zp_leFr, zp_ltTr, zp_ltFr, zp_eqTr, zp_eqFr, zp_eqTl, zp_eqFl, zp_eqFll, eq_self, zp_addl, zp_addr, zp_mull, zp_mulr, zp_subr, zp_subl, nI_add, pk_mul, zp_1n0, sg, zx_s_47, zx_s_61, if_neg q47, if_pos q61, ze_X10_readsAir_144, h1', sg2]
        rw [← hM2]; exact tl
      rw [if_neg q61] at eL
      by_cases q47 : zx_g f n (p + c) = 47
      · by_cases h4 : h = 4
        · rw [if_neg (fun q : zx_g f n (p + c) = 47 ∧ h ≠ 4 => q.2 h4)] at eL
          rw [eL]
          refine ⟨M2, ?_, fr2, m15, fun q => by cases q⟩
          refine to117 _ ?_
          have m5 : M2.1 33 0 1 = 5 := by rw [m1, h4]; rfl
          rw [ze_X10_readsAir_117]
          simp (disch := omega) only [↓zp_dn, ↓zp_hV, ↓zp_hI, ↓zp_hL, ↓zp_hR, ↓zp_hX, zp_eV, zp_eI, zp_eL, zp_eR, zp_eX, zp_eXl, zp_iV, zp_iI, zp_iL, zp_iR, ↓zp_sm, ↓zp_nls, ↓zp_nln, zp_bo0, zp_bo1, zp_okE, zp_ok2E, zp_rfE, ↓reduceIte, if_true, if_false, zp_leT, zp_leF, zp_ltT, zp_ltF, zp_eqT, zp_eqF, zp_leTl, zp_leFl, zp_ltTl, zp_ltFl, zp_leTr, zp_leFr, zp_ltTr, zp_ltFr, zp_eqTr, zp_eqFr, zp_eqTl, zp_eqFl, zp_eqFll, eq_self, zp_addl, zp_addr, zp_mull, zp_mulr, zp_subr, zp_subl, nI_add, pk_mul, zp_1n0, sg, zx_s_47, if_pos q47, ze_X10_readsAir_144, h1', sg2]
          rw [← hM2, ze_X10_readsAir_175]
          simp (disch := omega) only [↓zp_dn, ↓zp_hV, ↓zp_hI, ↓zp_hL, ↓zp_hR, ↓zp_hX, zp_eV, zp_eI, zp_eL, zp_eR, zp_eX, zp_eXl, zp_iV, zp_iI, zp_iL, zp_iR, ↓zp_sm, ↓zp_nls, ↓zp_nln, zp_bo0, zp_bo1, zp_okE, zp_ok2E, zp_rfE, ↓reduceIte, if_true, if_false, zp_leT, zp_leF, zp_ltT, zp_ltF, zp_eqT, zp_eqF, zp_leTl, zp_leFl, zp_ltTl, zp_ltFl, zp_leTr, zp_leFr, zp_ltTr, zp_ltFr, zp_eqTr, zp_eqFr, zp_eqTl, zp_eqFl, zp_eqFll, eq_self, zp_addl, zp_addr, zp_mull, zp_mulr, zp_subr, zp_subl, nI_add, pk_mul, zp_1n0, m5, Bool.false_eq_true]
        · rw [if_pos (show zx_g f n (p + c) = 47 ∧ h ≠ 4 from ⟨q47, h4⟩)] at eL
          rw [eL]
          obtain ⟨M', f1, f2, f3, f4⟩ := ih (h + 1) (p + c + 1) c M3 (by omega) (by omega) (by omega) b7 pp (by rw [hM3, hM2]; exact zx_tr_rf (zx_rf_15 (zx_rf_33 (zx_rf_33 (zx_rf_rfl M1) _ _) _ _) _) hT1) p3 (fun _ => ⟨h2c, (k3 0).trans m0⟩) ((k3 1).trans m1) (fun h' j a b => (k3 _).trans (cl2 h' j a b)) fr3
          refine ⟨M', ?_, f2, f3, f4⟩
          refine to117 _ ?_
          refine Eq.trans ?_ f1
          have tl : zi_run (d + 2) zm_X10_readsAir 175 [some (.inr (.inr (10, some 0))), none, none, none, none] [.inl 1] M2 = zi_run (d + 2) zm_X10_readsAir 2 [some (.inr (.inr (10, some 0))), some (.inl 1), none, none, none] [] M3 := by
            rw [ze_X10_readsAir_175]
            simp (disch := omega) only [↓zp_dn, ↓zp_hV, ↓zp_hI, ↓zp_hL, ↓zp_hR, ↓zp_hX, zp_eV, zp_eI, zp_eL, zp_eR, zp_eX, zp_eXl, zp_iV, zp_iI, zp_iL, zp_iR, ↓zp_sm, ↓zp_nls, ↓zp_nln, zp_bo0, zp_bo1, zp_okE, zp_ok2E, zp_rfE, ↓reduceIte, if_true, if_false, zp_leT, zp_leF, zp_ltT, zp_ltF, zp_eqT, zp_eqF, zp_leTl, zp_leFl, zp_ltTl, zp_ltFl, zp_leTr, zp_leFr, zp_ltTr, zp_ltFr, zp_eqTr, zp_eqFr, zp_eqTl, zp_eqFl, zp_eqFll, eq_self, zp_addl, zp_addr, zp_mull, zp_mulr, zp_subr, zp_subl, nI_add, pk_mul, zp_1n0, m1, ze_X10_readsAir_192, m15, ← hM3]
          rw [ze_X10_readsAir_117]
          simp (disch := omega) only [↓zp_dn, ↓zp_hV, ↓zp_hI, ↓zp_hL, ↓zp_hR, ↓zp_hX, zp_eV, zp_eI, zp_eL, zp_eR, zp_eX, zp_eXl, zp_iV, zp_iI, zp_iL, zp_iR, ↓zp_sm, ↓zp_nls, ↓zp_nln, zp_bo0, zp_bo1, zp_okE, zp_ok2E, zp_rfE, ↓reduceIte, if_true, if_false, zp_leT, zp_leF, zp_ltT, zp_ltF, zp_eqT, zp_eqF, zp_leTl, zp_leFl, zp_ltTl, zp_ltFl, zp_leTr, zp_leFr, zp_ltTr, zp_ltFr, zp_eqTr, zp_eqFr, zp_eqTl, zp_eqFl, zp_eqFll, eq_self, zp_addl, zp_addr, zp_mull, zp_mulr, zp_subr, zp_subl, nI_add, pk_mul, zp_1n0, sg, zx_s_47, if_pos q47, ze_X10_readsAir_144, h1', sg2]
          rw [← hM2]; exact tl
      · rw [if_neg (fun q : zx_g f n (p + c) = 47 ∧ h ≠ 4 => q47 q.1)] at eL
        rw [eL]
        refine ⟨M1, ?_, fr1, e2, fun q => by cases q⟩
        refine to117 _ ?_
        rw [ze_X10_readsAir_117]
        simp (disch := omega) only [↓zp_dn, ↓zp_hV, ↓zp_hI, ↓zp_hL, ↓zp_hR, ↓zp_hX, zp_eV, zp_eI, zp_eL, zp_eR, zp_eX, zp_eXl, zp_iV, zp_iI, zp_iL, zp_iR, ↓zp_sm, ↓zp_nls, ↓zp_nln, zp_bo0, zp_bo1, zp_okE, zp_ok2E, zp_rfE, ↓reduceIte, if_true, if_false, zp_leT, zp_leF, zp_ltT, zp_ltF, zp_eqT, zp_eqF, zp_leTl, zp_leFl, zp_ltTl, zp_ltFl, zp_leTr, zp_leFr, zp_ltTr, zp_ltFr, zp_eqTr, zp_eqFr, zp_eqTl, zp_eqFl, zp_eqFll, eq_self, zp_addl, zp_addr, zp_mull, zp_mulr, zp_subr, zp_subl, nI_add, pk_mul, zp_1n0, sg, zx_s_47, zx_s_61, if_neg q47, if_neg q61, Bool.false_eq_true]
