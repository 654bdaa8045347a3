/-! THE PURE PART: reading a SKY, the reference: all of it -/
theorem zx_RE (g : Nat → Int32) : zx_R g = if (zx_LL g).1 = true then (match zx_fi (g (zx_LL g).2.1) with | none => (false, (zx_LL g).2.1) | some _ => zx_E g (zx_FF g)) else (false, (zx_LL g).2.1) := (rfl)
theorem zr_f23 (d : Nat) {t n : Nat} {f : Nat → Int32} {M0 : zi_M} : ∀ (k p : Nat) (M : zi_M), k = 80 - p → p ≤ 1000 → zx_tr M t n f → M.1 10 0 15 = nI p → zx_rf M0 M → ∃ M', zi_run d zm_X10_faultOf 23 [some (.inr (.inr (10, some 0))), none] [] M = zi_run d zm_X10_faultOf 66 [some (.inr (.inr (10, some 0))), none] [] M' ∧ zx_rf M0 M' ∧ M'.1 10 0 15 = nI (zx_sk (zx_g f n) k p) := by
  intro k
  induction k with
  | zero =>
    intro p M hk hp hT hpl hf
    obtain ⟨ht, hn8, a1, a2, a3⟩ := hT
    refine ⟨M, ?_, hf, hpl⟩
    rw [ze_X10_faultOf_23]
    simp (disch := omega) only [↓zp_dn, ↓zp_hV, ↓zp_hI, ↓zp_hL, ↓zp_hR, ↓zp_hX, zp_eV, zp_eI, zp_eL, zp_eR, zp_eX, zp_eXl, zp_iV, zp_iI, zp_iL, zp_iR, ↓zp_sm, ↓zp_nls, ↓zp_nln, zp_bo0, zp_bo1, zp_okE, zp_ok2E, zp_rfE, ↓reduceIte, if_true, if_false, zp_leT, zp_leF, zp_ltT, zp_ltF, zp_eqT, zp_eqF, zp_leTl, zp_leFl, zp_ltTl, zp_ltFl, zp_leTr, zp_leFr, zp_ltTr, zp_ltFr, zp_eqTr, zp_eqFr, zp_eqTl, zp_eqFl, zp_eqFll, eq_self, zp_addl, zp_addr, zp_mull, zp_mulr, zp_subr, zp_subl, nI_add, pk_mul, a2, hpl]
  | succ k ih =>
    intro p M hk hp hT hpl hf
    have hT' := hT
    obtain ⟨ht, hn8, a1, a2, a3⟩ := hT
    rw [ze_X10_faultOf_23, zx_sk]
    by_cases h : p < n
    · have eg : zx_g f n p = f p := by rw [zx_g, if_pos h]
      by_cases h32 : f p = 32
      · rw [if_pos (show zx_g f n p = 32 from eg.trans h32)]
        obtain ⟨M', e1, e2, e3⟩ := ih (p + 1) (zi_sI M 10 0 15 (nI (p + 1))) (by omega) (by omega) (zx_tr_rf (zx_rf_15 (zx_rf_rfl M) _) hT') (by simp [zp_sI1]) (zx_rf_15 hf _)
        refine ⟨M', ?_, e2, e3⟩
        refine Eq.trans ?_ e1
        simp (disch := omega) only [↓zp_dn, ↓zp_hV, ↓zp_hI, ↓zp_hL, ↓zp_hR, ↓zp_hX, zp_eV, zp_eI, zp_eL, zp_eR, zp_eX, zp_eXl, zp_iV, zp_iI, zp_iL, zp_iR, ↓zp_sm, ↓zp_nls, ↓zp_nln, zp_bo0, zp_bo1, zp_okE, zp_ok2E, zp_rfE, ↓reduceIte, if_true, if_false, zp_leT, zp_leF, zp_ltT, zp_ltF, zp_eqT, zp_eqF, zp_leTl, zp_leFl, zp_ltTl, zp_ltFl, zp_leTr, zp_leFr, zp_ltTr, zp_ltFr, zp_eqTr, zp_eqFr, zp_eqTl, zp_eqFl, zp_eqFll, eq_self, zp_addl, zp_addr, zp_mull, zp_mulr, zp_subr, zp_subl, nI_add, pk_mul, a1, a2, hpl, a3 p h, if_pos h32]
      · rw [if_neg (fun q => h32 (eg.symm.trans q))]
        refine ⟨M, ?_, hf, hpl⟩
        simp (disch := omega) only [↓zp_dn, ↓zp_hV, ↓zp_hI, ↓zp_hL, ↓zp_hR, ↓zp_hX, zp_eV, zp_eI, zp_eL, zp_eR, zp_eX, zp_eXl, zp_iV, zp_iI, zp_iL, zp_iR, ↓zp_sm, ↓zp_nls, ↓zp_nln, zp_bo0, zp_bo1, zp_okE, zp_ok2E, zp_rfE, ↓reduceIte, if_true, if_false, zp_leT, zp_leF, zp_ltT, zp_ltF, zp_eqT, zp_eqF, zp_leTl, zp_leFl, zp_ltTl, zp_ltFl, zp_leTr, zp_leFr, zp_ltTr, zp_ltFr, zp_eqTr, zp_eqFr, zp_eqTl, zp_eqFl, zp_eqFll, eq_self, zp_addl, zp_addr, zp_mull, zp_mulr, zp_subr, zp_subl, nI_add, pk_mul, a1, a2, hpl, a3 p h, if_neg h32]
    · have eg : zx_g f n p = 1000 := by rw [zx_g, if_neg h]
      rw [if_neg (fun q => absurd (eg.symm.trans q) (by decide))]
      refine ⟨M, ?_, hf, hpl⟩
      simp (disch := omega) only [↓zp_dn, ↓zp_hV, ↓zp_hI, ↓zp_hL, ↓zp_hR, ↓zp_hX, zp_eV, zp_eI, zp_eL, zp_eR, zp_eX, zp_eXl, zp_iV, zp_iI, zp_iL, zp_iR, ↓zp_sm, ↓zp_nls, ↓zp_nln, zp_bo0, zp_bo1, zp_okE, zp_ok2E, zp_rfE, ↓reduceIte, if_true, if_false, zp_leT, zp_leF, zp_ltT, zp_ltF, zp_eqT, zp_eqF, zp_leTl, zp_leFl, zp_ltTl, zp_ltFl, zp_leTr, zp_leFr, zp_ltTr, zp_ltFr, zp_eqTr, zp_eqFr, zp_eqTl, zp_eqFl, zp_eqFll, eq_self, zp_addl, zp_addr, zp_mull, zp_mulr, zp_subr, zp_subl, nI_add, pk_mul, a2, hpl]
theorem zr_zero (d : Nat) {N : zi_M} : ∃ M', zi_run d zm_X10_reads 2 [some (.inr (.inr (10, some 0))), some (.inl 0)] [] N = zi_run d zm_X10_reads 2 [some (.inr (.inr (10, some 0))), some (.inl (nI 356))] [] M' ∧ zx_rf N M' ∧ M'.1 10 0 15 = N.1 10 0 15 ∧ ∀ j, j < 356 → M'.1 33 0 j = 0 := by
  have key : ∀ (k i : Nat) (M : zi_M), i + k = 356 → zx_rf N M → M.1 10 0 15 = N.1 10 0 15 → (∀ j, j < i → M.1 33 0 j = 0) → ∃ M', zi_run d zm_X10_reads 2 [some (.inr (.inr (10, some 0))), some (.inl (nI i))] [] M = zi_run d zm_X10_reads 2 [some (.inr (.inr (10, some 0))), some (.inl (nI 356))] [] M' ∧ zx_rf N M' ∧ M'.1 10 0 15 = N.1 10 0 15 ∧ ∀ j, j < 356 → M'.1 33 0 j = 0 := by
    intro k
    induction k with
    | zero =>
      intro i M hi h1 h2 h3
      have e : i = 356 := by omega
      subst e
      exact ⟨M, rfl, h1, h2, h3⟩
    | succ k ih =>
      intro i M hi h1 h2 h3
      obtain ⟨M', e1, e2⟩ := ih (i + 1) (zi_sI M 33 0 i 0) (by omega) (zx_rf_33 h1 _ _) (by rw [zp_o1 (by omega)]; exact h2) (fun j hj => by
        rw [zp_sI1, if_pos rfl]
        by_cases q : j = i
        · rw [if_pos q, if_pos rfl]
        · rw [if_neg q]; exact h3 j (by omega))
      refine ⟨M', ?_, e2⟩
      refine Eq.trans ?_ e1
      rw [ze_X10_reads_2]
      simp (disch := omega) only [↓zp_dn, ↓zp_hV, ↓zp_hI, ↓zp_hL, ↓zp_hR, ↓zp_hX, zp_eV, zp_eI, zp_eL, zp_eR, zp_eX, zp_eXl, zp_iV, zp_iI, zp_iL, zp_iR, ↓zp_sm, ↓zp_nls, ↓zp_nln, zp_bo0, zp_bo1, zp_okE, zp_ok2E, zp_rfE, ↓reduceIte, if_true, if_false, zp_leT, zp_leF, zp_ltT, zp_ltF, zp_eqT, zp_eqF, zp_leTl, zp_leFl, zp_ltTl, zp_ltFl, zp_leTr, zp_leFr, zp_ltTr, zp_ltFr, zp_eqTr, zp_eqFr, zp_eqTl, zp_eqFl, zp_eqFll, eq_self, zp_addl, zp_addr, zp_mull, zp_mulr, zp_subr, zp_subl, nI_add, pk_mul]
  exact key 356 0 N (by omega) (zx_rf_rfl N) rfl (fun j hj => by omega)
theorem zr_reads (d : Nat) {t n : Nat} {f : Nat → Int32} (hb : ∀ j, f j ≠ 1000) {N : zi_M} (hT : zx_tr N t n f) (hp : N.1 10 0 15 = nI (zx_p0 (zx_g f n))) : ∃ M', zi_run (d + 4) zm_X10_reads 0 [some (.inr (.inr (10, some 0))), none] [] N = some (some (.inl (if (zx_R (zx_g f n)).1 then 1 else 0)), M') ∧ zx_rf N M' ∧ ((zx_R (zx_g f n)).1 = false → M'.1 10 0 15 = nI (zx_R (zx_g f n)).2) ∧ ((zx_R (zx_g f n)).1 = true → zf_rA (M'.1 33 0) (zx_A (zx_g f n)) ∧ zf_rK (M'.1 33 0) (zx_K (zx_g f n))) := by
  have hp80 : zx_p0 (zx_g f n) ≤ 80 := by have := zx_sk_le (zx_g f n) 80 0; exact this
  obtain ⟨Z, z1, z2, z3, z4⟩ := zr_zero (d + 4) (N := N)
  have l356 : (356 : Int32) ≤ nI 356 := by decide
  obtain ⟨M2, b1, b2, b3, b4⟩ := zr_lines (d + 1) (t := t) (n := n) (f := f) hp80 (M0 := Z) 5 0 (zx_p0 (zx_g f n)) 0 Z (by omega) (by omega) (by omega) (by omega) (by omega) (zx_tr_rf z2 hT) (z3.trans hp) (fun q => absurd rfl q) (z4 1 (by omega)) (fun h' j a b => by omega) ⟨zx_rf_rfl Z, fun _ _ => rfl⟩
  have eLL : zx_L (zx_g f n) 5 0 (zx_p0 (zx_g f n)) 0 = zx_LL (zx_g f n) := rfl
  rw [eLL] at b1 b3 b4
  have ra : zi_run (d + 3) zm_X10_readsAir 0 [some (.inr (.inr (10, some 0))), none, none, none, none] [] Z = some (some (.inl (if (zx_LL (zx_g f n)).1 then 1 else 0)), M2) := by rw [ze_X10_readsAir_0]; exact b1
  rw [ze_X10_reads_0, z1, ze_X10_reads_2, if_pos l356]
  have fr2 : zx_rf N M2 := zx_rf_tr z2 b2.1
  by_cases hL : (zx_LL (zx_g f n)).1 = true
  case neg =>
    have eR : zx_R (zx_g f n) = (false, (zx_LL (zx_g f n)).2.1) := by rw [zx_R, if_neg hL]
    rw [eR]
    refine ⟨M2, ?_, fr2, fun _ => b3, fun q => by cases q⟩
    simp (disch := omega) only [↓zp_dn, ↓zp_hV, ↓zp_hI, ↓zp_hL, ↓zp_hR, ↓zp_hX, zp_eV, zp_eI, zp_eL, zp_eR, zp_eX, zp_eXl, zp_iV, zp_iI, zp_iL, zp_iR, ↓zp_sm, ↓zp_nls, ↓zp_nln, zp_bo0, zp_bo1, zp_okE, zp_ok2E, zp_rfE, ↓reduceIte, if_true, if_false, zp_leT, zp_leF, zp_ltT, zp_ltF, zp_eqT, zp_eqF, zp_leTl, zp_leFl, zp_ltTl, zp_ltFl, zp_leTr, zp_leFr, zp_ltTr, zp_ltFr, zp_eqTr, zp_eqFr, zp_eqTl, zp_eqFl, zp_eqFll, eq_self, zp_addl, zp_addr, zp_mull, zp_mulr, zp_subr, zp_subl, nI_add, pk_mul, ra, if_neg hL, Bool.false_eq_true]
  obtain ⟨c1, c2, c3, c4, c5⟩ := b4 hL
  have hLp : (zx_LL (zx_g f n)).2.1 ≤ 120 := by
    rw [c3]
    have := Nat.mul_le_mul c4.2.2.2 (show (zx_LL (zx_g f n)).2.2.1 + 1 ≤ 8 from by omega)
    omega
  have hT2 := zx_tr_rf fr2 hT
  cases hS : zx_fi (zx_g f n (zx_LL (zx_g f n)).2.1) with
  | none =>
    have eR : zx_R (zx_g f n) = (false, (zx_LL (zx_g f n)).2.1) := by rw [zx_R, if_pos hL, hS]
    rw [eR]
    have fg := fun e => zr_figN e hT2 b3 (by omega) hS
    refine ⟨M2, ?_, fr2, fun _ => b3, fun q => by cases q⟩
    simp (disch := omega) only [↓zp_dn, ↓zp_hV, ↓zp_hI, ↓zp_hL, ↓zp_hR, ↓zp_hX, zp_eV, zp_eI, zp_eL, zp_eR, zp_eX, zp_eXl, zp_iV, zp_iI, zp_iL, zp_iR, ↓zp_sm, ↓zp_nls, ↓zp_nln, zp_bo0, zp_bo1, zp_okE, zp_ok2E, zp_rfE, ↓reduceIte, if_true, if_false, zp_leT, zp_leF, zp_ltT, zp_ltF, zp_eqT, zp_eqF, zp_leTl, zp_leFl, zp_ltTl, zp_ltFl, zp_leTr, zp_leFr, zp_ltTr, zp_ltFr, zp_eqTr, zp_eqFr, zp_eqTl, zp_eqFl, zp_eqFll, eq_self, zp_addl, zp_addr, zp_mull, zp_mulr, zp_subr, zp_subl, nI_add, pk_mul, ra, if_pos hL, zp_1n0, fg, Bool.false_eq_true]
  | some sn =>
    have hsn := (zx_fi_s hS).1
    have fg := fun e => (zr_figS e hT2 b3 (by omega) hS).1
    have sg := (zr_figS 0 hT2 b3 (by omega) hS).2
    have e48 : nI (48 + sn) - 48 = nI sn := by rw [show (48 : Int32) = nI 48 from rfl, pk_sub (by omega)]; congr 1; omega
    have eR : zx_R (zx_g f n) = zx_E (zx_g f n) (zx_FF (zx_g f n)) := by rw [zx_RE, if_pos hL, hS]
    rw [eR]
    obtain ⟨M3, hM3⟩ : ∃ M3, M3 = zi_sI (zi_sI M2 33 0 2 (nI sn)) 10 0 15 (nI ((zx_LL (zx_g f n)).2.1 + 1)) := ⟨_, rfl⟩
    have k3 : ∀ q, q ≠ 2 → M3.1 33 0 q = M2.1 33 0 q := fun q hq => by rw [hM3, zp_o1 (by omega), zp_sI1, if_pos rfl, if_neg hq]
    have k32 : M3.1 33 0 2 = nI sn := by rw [hM3]; simp [zp_sI1]
    have fr3 : zx_rf N M3 := by rw [hM3]; exact zx_rf_15 (zx_rf_33 fr2 _ _) _
    have zz : ∀ q, q = 3 ∨ q = 4 ∨ 40 ≤ q → q < 356 → M3.1 33 0 q = 0 := fun q h1 h2 => by rw [k3 q (by omega), b2.2 q (by omega)]; exact z4 q h2
    obtain ⟨M4, f1, f2, f3, f4⟩ := zr_flyers d hb (pf := (zx_LL (zx_g f n)).2.1 + 1) (H := (zx_LL (zx_g f n)).2.2.2) (by omega) c4.2.2.2 (cell := fun v => zx_o (zx_ai (zx_g f n (zx_p0 (zx_g f n) + v * ((zx_LL (zx_g f n)).2.2.1 + 1) + 0)))) (M0 := M3) 4 0 ((zx_LL (zx_g f n)).2.1 + 1) M3 (by omega) (by omega) (zx_tr_rf fr3 hT) (by rw [hM3]; simp [zp_sI1]) ((k3 1 (by omega)).trans c2) (fun h hh => (k3 _ (by omega)).trans (c5 h 0 hh (by omega))) (zz 3 (by omega) (by omega)) (fun j hj => by omega) (fun q h1 h2 => zz q (by omega) h2) ⟨zx_rf_rfl M3, fun _ _ _ => rfl⟩
    have eFF : zx_F (zx_g f n) (zx_LL (zx_g f n)).2.2.2 (fun v => zx_o (zx_ai (zx_g f n (zx_p0 (zx_g f n) + v * ((zx_LL (zx_g f n)).2.2.1 + 1) + 0)))) 4 0 ((zx_LL (zx_g f n)).2.1 + 1) = zx_FF (zx_g f n) := rfl
    rw [eFF] at f1 f3 f4
    refine ⟨M4, ?_, zx_rf_tr fr3 f2, f3, fun hok => ?_⟩
    · refine Eq.trans ?_ f1
      have q5 : ∀ x y, (zi_sI M2 33 0 x y).1 10 0 15 = nI (zx_LL (zx_g f n)).2.1 := fun x y => by rw [zp_o1 (by omega)]; exact b3
      simp (disch := omega) only [↓zp_dn, ↓zp_hV, ↓zp_hI, ↓zp_hL, ↓zp_hR, ↓zp_hX, zp_eV, zp_eI, zp_eL, zp_eR, zp_eX, zp_eXl, zp_iV, zp_iI, zp_iL, zp_iR, ↓zp_sm, ↓zp_nls, ↓zp_nln, zp_bo0, zp_bo1, zp_okE, zp_ok2E, zp_rfE, ↓reduceIte, if_true, if_false, zp_leT, zp_leF, zp_ltT, zp_ltF, zp_eqT, zp_eqF, zp_leTl, zp_leFl, zp_ltTl, zp_ltFl, zp_leTr, zp_leFr, zp_ltTr, zp_ltFr, zp_eqTr, zp_eqFr, zp_eqTl, zp_eqFl, zp_eqFll, eq_self, zp_addl, zp_addr, zp_mull, zp_mulr, zp_subr, zp_subl, nI_add, pk_mul, ra, if_pos hL, zp_1n0, fg, sg, e48, b3, q5, ← hM3]
    · obtain ⟨g1, g2, g3⟩ := f4 hok
      refine ⟨⟨?_, ?_, fun h c hh hc => ?_⟩, ⟨?_, g2, ?_, fun i hi => ?_, fun m hm => absurd hm (Nat.not_lt_zero m)⟩⟩
      · exact (g1 0 (by omega) (by omega)).trans ((k3 0 (by omega)).trans c1)
      · exact (g1 1 (by omega) (by omega)).trans ((k3 1 (by omega)).trans c2)
      · have hh' : h < (zx_LL (zx_g f n)).2.2.2 := hh
        have hc' : c < (zx_LL (zx_g f n)).2.2.1 := hc
        have e1 : (7 * h + c) / 7 = h := by omega
        have e2 : (7 * h + c) % 7 = c := by omega
        refine ((g1 _ (by omega) (by omega)).trans ((k3 _ (by omega)).trans (c5 h c hh' hc'))).trans ?_
        show _ = zx_o (zx_ai (zx_g f n (zx_p0 (zx_g f n) + (7 * h + c) / 7 * ((zx_LL (zx_g f n)).2.2.1 + 1) + (7 * h + c) % 7)))
        rw [e1, e2]; rfl
      · refine ((g1 2 (by omega) (by omega)).trans k32).trans ?_
        show _ = zx_o (zx_fi (zx_g f n (zx_LL (zx_g f n)).2.1))
        rw [hS]; rfl
      · exact (g1 4 (by omega) (by omega)).trans (zz 4 (by omega) (by omega))
      · exact g3 i hi
theorem zr_faultOf (d : Nat) {t n : Nat} {f : Nat → Int32} (ht : t < 4) (hn : n ≤ 80) (hb : ∀ j, f j ≠ 1000) {M : zi_M} (hl : M.1 26 0 t = nI n) (hf : ∀ j, j < n → M.1 27 0 (80 * t + j) = f j) : ∃ M', zi_run (d + 5) zm_X10_faultOf 0 [some (.inr (.inr (10, some 0))), some (.inl (nI t))] [] M = some (some (.inl (if (zx_R (zx_g f n)).1 then -9 else nI (zx_R (zx_g f n)).2)), M') ∧ zq_nb M M' ∧ M'.2 = M.2 ∧ ((zx_R (zx_g f n)).1 = true → zf_rA (M'.1 33 0) (zx_A (zx_g f n)) ∧ zf_rK (M'.1 33 0) (zx_K (zx_g f n))) := by
  obtain ⟨N, hN⟩ : ∃ N, N = zi_sI (zi_sI (zi_sI M 10 0 13 (nI (80 * t))) 10 0 14 (nI n)) 10 0 15 0 := ⟨_, rfl⟩
  have nbN : zq_nb M N := by rw [hN]; exact zq_nb_sI (zq_nb_sI (zq_nb_sI (zq_nb_rfl M) (by simp [zq_gp])) (by simp [zq_gp])) (by simp [zq_gp])
  have trN : zx_tr N t n f := ⟨ht, hn, by rw [hN]; simp [zp_sI1], by rw [hN]; simp [zp_sI1], fun j hj => by rw [hN, zp_o1 (by omega), zp_o1 (by omega), zp_o1 (by omega)]; exact hf j hj⟩
  obtain ⟨M1, a1, a2, a3⟩ := zr_f23 (d + 5) (M0 := N) 80 0 N (by omega) (by omega) trN (by rw [hN]; simp [zp_sI1]; rfl) (zx_rf_rfl N)
  obtain ⟨M2, b1, b2, b3, b4⟩ := zr_reads d hb (zx_tr_rf a2 trN) a3
  refine ⟨M2, ?_, zq_nb_tr nbN (zx_rf_nb (zx_rf_tr a2 b2)), (zx_rf_tr a2 b2).1.trans (by rw [hN]; rfl), b4⟩
  rw [ze_X10_faultOf_0]
  have e80 : 80 * nI t = nI (80 * t) := pk_mul 80 t
  simp (disch := omega) only [↓zp_dn, ↓zp_hV, ↓zp_hI, ↓zp_hL, ↓zp_hR, ↓zp_hX, zp_eV, zp_eI, zp_eL, zp_eR, zp_eX, zp_eXl, zp_iV, zp_iI, zp_iL, zp_iR, ↓zp_sm, ↓zp_nls, ↓zp_nln, zp_bo0, zp_bo1, zp_okE, zp_ok2E, zp_rfE, ↓reduceIte, if_true, if_false, zp_leT, zp_leF, zp_ltT, zp_ltF, zp_eqT, zp_eqF, zp_leTl, zp_leFl, zp_ltTl, zp_ltFl, zp_leTr, zp_leFr, zp_ltTr, zp_ltFr, zp_eqTr, zp_eqFr, zp_eqTl, zp_eqFl, zp_eqFll, eq_self, zp_addl, zp_addr, zp_mull, zp_mulr, zp_subr, zp_subl, nI_add, pk_mul, hl, ← hN]
  rw [a1, ze_X10_faultOf_66]
  cases hR : (zx_R (zx_g f n)).1 with
  | true =>
    rw [hR] at b1
    simp (disch := omega) only [↓zp_dn, ↓zp_hV, ↓zp_hI, ↓zp_hL, ↓zp_hR, ↓zp_hX, zp_eV, zp_eI, zp_eL, zp_eR, zp_eX, zp_eXl, zp_iV, zp_iI, zp_iL, zp_iR, ↓zp_sm, ↓zp_nls, ↓zp_nln, zp_bo0, zp_bo1, zp_okE, zp_ok2E, zp_rfE, ↓reduceIte, if_true, if_false, zp_leT, zp_leF, zp_ltT, zp_ltF, zp_eqT, zp_eqF, zp_leTl, zp_leFl, zp_ltTl, zp_ltFl, zp_leTr, zp_leFr, zp_ltTr, zp_ltFr, zp_eqTr, zp_eqFr, zp_eqTl, zp_eqFl, zp_eqFll, eq_self, zp_addl, zp_addr, zp_mull, zp_mulr, zp_subr, zp_subl, nI_add, pk_mul, b1, zp_1n0]
  | false =>
    rw [hR] at b1
    have pl := b3 hR
    simp (disch := omega) only [↓zp_dn, ↓zp_hV, ↓zp_hI, ↓zp_hL, ↓zp_hR, ↓zp_hX, zp_eV, zp_eI, zp_eL, zp_eR, zp_eX, zp_eXl, zp_iV, zp_iI, zp_iL, zp_iR, ↓zp_sm, ↓zp_nls, ↓zp_nln, zp_bo0, zp_bo1, zp_okE, zp_ok2E, zp_rfE, ↓reduceIte, if_true, if_false, zp_leT, zp_leF, zp_ltT, zp_ltF, zp_eqT, zp_eqF, zp_leTl, zp_leFl, zp_ltTl, zp_ltFl, zp_leTr, zp_leFr, zp_ltTr, zp_ltFr, zp_eqTr, zp_eqFr, zp_eqTl, zp_eqFl, zp_eqFll, eq_self, zp_addl, zp_addr, zp_mull, zp_mulr, zp_subr, zp_subl, nI_add, pk_mul, b1, pl, Bool.false_eq_true]
