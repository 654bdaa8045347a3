/-! THE PURE PART: reading a SKY, the class: all of it -/
def zx_p0 (g : Nat → Int32) : Nat := zx_sk g 80 0
def zx_LL (g : Nat → Int32) : Bool × Nat × Nat × Nat := zx_L g 5 0 (zx_p0 g) 0
def zx_FF (g : Nat → Int32) : Bool × Nat × Nat := zx_F g (zx_LL g).2.2.2 (fun v => zx_o (zx_ai (g (zx_p0 g + v * ((zx_LL g).2.2.1 + 1) + 0)))) 4 0 ((zx_LL g).2.1 + 1)
def zx_q (g : Nat → Int32) : Nat := zx_sk g (80 - (zx_FF g).2.1) (zx_FF g).2.1
def zx_R (g : Nat → Int32) : Bool × Nat := if (zx_LL g).1 = true then (match zx_fi (g (zx_LL g).2.1) with | none => (false, (zx_LL g).2.1) | some _ => if (zx_FF g).1 = true then (if g (zx_q g) = 1000 then (true, zx_q g) else (false, zx_q g)) else (false, (zx_FF g).2.1)) else (false, (zx_LL g).2.1)
def zx_A (g : Nat → Int32) : zf_A := ((zx_LL g).2.2.1, (zx_LL g).2.2.2, fun j => zx_o (zx_ai (g (zx_p0 g + j / 7 * ((zx_LL g).2.2.1 + 1) + j % 7))))
def zx_K (g : Nat → Int32) : zf_K := (zx_o (zx_fi (g (zx_LL g).2.1)), (zx_FF g).2.2, zx_b g ((zx_LL g).2.1 + 1), 0, fun _ => (0, (0, 0, 0, 0, 0, 0)))
theorem zx_sk_le (g : Nat → Int32) : ∀ k p, zx_sk g k p ≤ p + k := by
  intro k
  induction k with
  | zero => intro p; exact Nat.le_refl p
  | succ k ih =>
    intro p
    unfold zx_sk
    have := ih (p + 1)
    split <;> omega
theorem zc_read (d : Nat) {t n : Nat} {f : Nat → Int32} (hn : n ≤ 80) {M : zi_M} (hT : zx_tc (zi_sI (zi_sR M 4 0 2 (some (6 + t))) 4 0 3 0) t n f) (h466 : M.1 6 4 6 = 0) : ∃ M', zi_run (d + 6) zm_X4_read 0 [some (.inr (.inr (4, some 0))), some (.inr (.inr (5, some (6 + t))))] [] M = some (some (.inl (if (zx_R (zx_g f n)).1 then 1 else 0)), M') ∧ zq_nb M M' ∧ M'.2.1 = M.2.1 ∧ M'.1 4 0 3 = nI (zx_R (zx_g f n)).2 ∧ ((zx_R (zx_g f n)).1 = true → zf_okA (zx_A (zx_g f n)) ∧ zf_okK (zx_A (zx_g f n)) (zx_K (zx_g f n)) ∧ zf_cA M' 1 (zx_A (zx_g f n)) ∧ zf_cK M' 4 (zx_K (zx_g f n))) := by
  obtain ⟨M0, hM0⟩ : ∃ M0, M0 = zi_sI (zi_sR M 4 0 2 (some (6 + t))) 4 0 3 0 := ⟨_, rfl⟩
  rw [← hM0] at hT
  have nb0 : zq_nb M M0 := by rw [hM0]; exact zq_nb_sI (zq_nb_sR (zq_nb_rfl M)) (by simp [zq_gp])
  have u0 : M0.2.1 = M.2.1 := by rw [hM0]; rfl
  have p00 : M0.1 4 0 3 = nI 0 := by rw [hM0]; simp [zp_sI1]; rfl
  have z466 : M0.1 6 4 6 = 0 := by rw [hM0, zp_o1 (by omega)]; exact h466
  obtain ⟨M1, a1, a2, a3⟩ := zc_skip (d + 3) hn 80 M0 0 (by omega) (by omega) hT p00
  have a3' : M1.1 4 0 3 = nI (zx_p0 (zx_g f n)) := a3
  have hp80 : zx_p0 (zx_g f n) ≤ 80 := by have := zx_sk_le (zx_g f n) 80 0; exact this
  have fr2 : zx_fr M0 (zi_sI (zi_sI M1 0 1 1 0) 0 1 2 0) := zx_fr_I (zx_fr_I (zx_f4_fr a2) (by omega) _) (by omega) _
  obtain ⟨M2, b1, b2, b3, b4⟩ := zc_lines (d + 2) hn hp80 5 0 (zx_p0 (zx_g f n)) 0 (zi_sI (zi_sI M1 0 1 1 0) 0 1 2 0) (by omega) (by omega) (by omega) (by omega) (zx_tc_fr fr2 hT) (by simpa [zp_sI1] using a3') (fun q => absurd rfl q) (fun h' j a b => by omega)
  have fr3 := zx_fr_tr fr2 b2
  have lines : zi_run (d + 5) zm_X4_readLines 0 [some (.inr (.inr (4, some 0))), none, none, none] [] M1 = some (some (.inl (if (zx_LL (zx_g f n)).1 then 1 else 0)), M2) := by
    rw [ze_X4_readLines_0]; exact b1
  have b3' : M2.1 4 0 3 = nI (zx_LL (zx_g f n)).2.1 := b3
  have b4' := b4
  have eLL : zx_L (zx_g f n) 5 0 (zx_p0 (zx_g f n)) 0 = zx_LL (zx_g f n) := rfl
  rw [eLL] at b4'
  have start : zi_run (d + 6) zm_X4_read 0 [some (.inr (.inr (4, some 0))), some (.inr (.inr (5, some (6 + t))))] [] M = _ := ze_X4_read_0 (d + 6) (6 + t) M
  rw [← hM0] at start
  rw [start]
  by_cases hL : (zx_LL (zx_g f n)).1 = true
  case neg =>
    have eR : zx_R (zx_g f n) = (false, (zx_LL (zx_g f n)).2.1) := by rw [zx_R, if_neg hL]
    rw [eR]
    refine ⟨M2, ?_, zq_nb_tr nb0 (zx_fr_nb fr3), by rw [fr3.1]; exact u0, b3', fun q => by cases q⟩
    simp (disch := omega) only [↓zp_dn, ↓zp_hV, ↓zp_hI, ↓zp_hL, ↓zp_hR, ↓zp_hX, zp_eV, zp_eI, zp_eL, zp_eR, zp_eX, zp_eXl, zp_iV, zp_iI, zp_iL, zp_iR, ↓zp_sm, ↓zp_nls, ↓zp_nln, zp_bo0, zp_bo1, zp_okE, zp_ok2E, zp_rfE, ↓reduceIte, if_true, if_false, zp_leT, zp_leF, zp_ltT, zp_ltF, zp_eqT, zp_eqF, zp_leTl, zp_leFl, zp_ltTl, zp_ltFl, zp_leTr, zp_leFr, zp_ltTr, zp_ltFr, zp_eqTr, zp_eqFr, zp_eqTl, zp_eqFl, zp_eqFll, eq_self, zp_addl, zp_addr, zp_mull, zp_mulr, zp_subr, zp_subl, nI_add, pk_mul, a1, lines, if_neg hL, Bool.false_eq_true]
  obtain ⟨c1, c2, c3, c4, c5⟩ := b4' hL
  have hLp : (zx_LL (zx_g f n)).2.1 ≤ 120 := by
    rw [c3]
    have := Nat.mul_le_mul c4.2.2.2 (show (zx_LL (zx_g f n)).2.2.1 + 1 ≤ 8 from by omega)
    omega
  have hT2 := zx_tc_fr fr3 hT
  have sg : ∀ e, zi_run (e + 2) zm_X4_figureBelow 0 [some (.inr (.inr (4, some 0))), some (.inl (nI 10)), none] [] M2 = _ := fun e => zc_fig e hT2 hn b3' (by omega) (show 10 ≤ 10 from Nat.le_refl 10)
  have e10 : (10 : Int32) = nI 10 := rfl
  have n1 : ¬ (0 : Int32) ≤ -1 := by decide
  cases hS : zx_fi (zx_g f n (zx_LL (zx_g f n)).2.1) with
  | none =>
    have eR : zx_R (zx_g f n) = (false, (zx_LL (zx_g f n)).2.1) := by rw [zx_R, if_pos hL, hS]
    rw [eR]
    refine ⟨M2, ?_, zq_nb_tr nb0 (zx_fr_nb fr3), by rw [fr3.1]; exact u0, b3', fun q => by cases q⟩
    simp (disch := omega) only [↓zp_dn, ↓zp_hV, ↓zp_hI, ↓zp_hL, ↓zp_hR, ↓zp_hX, zp_eV, zp_eI, zp_eL, zp_eR, zp_eX, zp_eXl, zp_iV, zp_iI, zp_iL, zp_iR, ↓zp_sm, ↓zp_nls, ↓zp_nln, zp_bo0, zp_bo1, zp_okE, zp_ok2E, zp_rfE, ↓reduceIte, if_true, if_false, zp_leT, zp_leF, zp_ltT, zp_ltF, zp_eqT, zp_eqF, zp_leTl, zp_leFl, zp_ltTl, zp_ltFl, zp_leTr, zp_leFr, zp_ltTr, zp_ltFr, zp_eqTr, zp_eqFr, zp_eqTl, zp_eqFl, zp_eqFll, eq_self, zp_addl, zp_addr, zp_mull, zp_mulr, zp_subr, zp_subl, nI_add, pk_mul, a1, lines, if_pos hL, zp_1n0, ze_X4_readSun_0, e10, sg, hS, if_neg n1, Bool.false_eq_true]
  | some sn =>
    have hsn := (zx_fi_s hS).1
    obtain ⟨M3, hM3⟩ : ∃ M3, M3 = zi_sI (zi_sI (zi_sI M2 6 4 5 (nI sn)) 4 0 3 (nI ((zx_LL (zx_g f n)).2.1 + 1))) 6 4 4 0 := ⟨_, rfl⟩
    have fr4 : zx_fr M0 M3 := by rw [hM3]; exact zx_fr_I (zx_fr_I (zx_fr_I fr3 (by omega) _) (by omega) _) (by omega) _
    have k3 : ∀ c k j, c ≠ 4 → c ≠ 6 → M3.1 c k j = M2.1 c k j := fun c k j x y => by rw [hM3, zp_o1 (fun q => y q.1), zp_o1 (fun q => x q.1), zp_o1 (fun q => y q.1)]
    obtain ⟨M4, f1, f2, f3, f4, f5⟩ := zc_flyers (d + 1) hn (pf := (zx_LL (zx_g f n)).2.1 + 1) (H := (zx_LL (zx_g f n)).2.2.2) (w := (zx_LL (zx_g f n)).2.2.1) (by omega) c4.2.2.2 c4.1 c4.2.1 (cell := fun v => zx_o (zx_ai (zx_g f n (zx_p0 (zx_g f n) + v * ((zx_LL (zx_g f n)).2.2.1 + 1) + 0)))) (M0 := M3) 4 0 ((zx_LL (zx_g f n)).2.1 + 1) M3 (by omega) (by omega) (zx_tc_fr fr4 hT) (by rw [hM3]; simp [zp_sI1]) ((k3 0 1 1 (by decide) (by decide)).trans c1) ((k3 0 1 2 (by decide) (by decide)).trans c2) (fun h hh => (k3 11 1 _ (by decide) (by decide)).trans (c5 h 0 hh (by omega))) (by rw [hM3]; simp [zp_sI1]; rfl) (fun j hj => by omega) ⟨rfl, fun _ _ _ _ _ _ _ => rfl⟩
    have eFF : zx_F (zx_g f n) (zx_LL (zx_g f n)).2.2.2 (fun v => zx_o (zx_ai (zx_g f n (zx_p0 (zx_g f n) + v * ((zx_LL (zx_g f n)).2.2.1 + 1) + 0)))) 4 0 ((zx_LL (zx_g f n)).2.1 + 1) = zx_FF (zx_g f n) := rfl
    rw [eFF] at f1 f2 f3 f5
    have fr5 : zx_fr M0 M4 := ⟨f4.1.trans fr4.1, fun c k j x1 x2 x3 x4 x5 x6 => (f4.2 c k j x1 (fun q => x4 ⟨q.1, q.2.1, by omega⟩) x5 x6).trans (fr4.2 c k j x1 x2 x3 x4 x5 x6)⟩
    have fly : ∀ N, N = M3 → zi_run (d + 5) zm_X4_readFlyers 10 [some (.inr (.inr (4, some 0))), some (.inl 0), none] [] N = some (some (.inl (if (zx_FF (zx_g f n)).1 then 1 else 0)), M4) := fun N hN => by rw [hN]; exact f1
    have sun : ∀ e, zi_run (e + 3) zm_X4_readSun 0 [some (.inr (.inr (4, some 0))), none] [] M2 = some (some (.inl 1), zi_sI (zi_sI M2 6 4 5 (nI sn)) 4 0 3 (nI ((zx_LL (zx_g f n)).2.1 + 1))) := fun e => by
      rw [ze_X4_readSun_0]
      simp (disch := omega) only [↓zp_dn, ↓zp_hV, ↓zp_hI, ↓zp_hL, ↓zp_hR, ↓zp_hX, zp_eV, zp_eI, zp_eL, zp_eR, zp_eX, zp_eXl, zp_iV, zp_iI, zp_iL, zp_iR, ↓zp_sm, ↓zp_nls, ↓zp_nln, zp_bo0, zp_bo1, zp_okE, zp_ok2E, zp_rfE, ↓reduceIte, if_true, if_false, zp_leT, zp_leF, zp_ltT, zp_ltF, zp_eqT, zp_eqF, zp_leTl, zp_leFl, zp_ltTl, zp_ltFl, zp_leTr, zp_leFr, zp_ltTr, zp_ltFr, zp_eqTr, zp_eqFr, zp_eqTl, zp_eqFl, zp_eqFll, eq_self, zp_addl, zp_addr, zp_mull, zp_mulr, zp_subr, zp_subl, nI_add, pk_mul, e10, sg, hS, if_pos (show sn < 10 from by omega), b3', zp_sI1, Nat.reduceEqDiff, Nat.reduceLT, Nat.reduceLeDiff, Nat.reduceAdd, Nat.reduceMul, Nat.reduceSub, reduceCtorEq, Int32.reduceLT, Int32.reduceLE, not_true_eq_false, not_false_eq_true, and_true, true_and, and_false, false_and, or_true, true_or, or_false, false_or]
    have flys : zi_run (d + 5) zm_X4_readFlyers 0 [some (.inr (.inr (4, some 0))), none, none] [] (zi_sI (zi_sI M2 6 4 5 (nI sn)) 4 0 3 (nI ((zx_LL (zx_g f n)).2.1 + 1))) = some (some (.inl (if (zx_FF (zx_g f n)).1 then 1 else 0)), M4) := by
      rw [ze_X4_readFlyers_0]; exact fly _ hM3.symm
    by_cases hF : (zx_FF (zx_g f n)).1 = true
    case neg =>
      have eR : zx_R (zx_g f n) = (false, (zx_FF (zx_g f n)).2.1) := by rw [zx_R, if_pos hL, hS]; simp only [if_neg hF]
      rw [eR]
      refine ⟨M4, ?_, zq_nb_tr nb0 (zx_fr_nb fr5), by rw [fr5.1]; exact u0, f2, fun q => by cases q⟩
      simp (disch := omega) only [↓zp_dn, ↓zp_hV, ↓zp_hI, ↓zp_hL, ↓zp_hR, ↓zp_hX, zp_eV, zp_eI, zp_eL, zp_eR, zp_eX, zp_eXl, zp_iV, zp_iI, zp_iL, zp_iR, ↓zp_sm, ↓zp_nls, ↓zp_nln, zp_bo0, zp_bo1, zp_okE, zp_ok2E, zp_rfE, ↓reduceIte, if_true, if_false, zp_leT, zp_leF, zp_ltT, zp_ltF, zp_eqT, zp_eqF, zp_leTl, zp_leFl, zp_ltTl, zp_ltFl, zp_leTr, zp_leFr, zp_ltTr, zp_ltFr, zp_eqTr, zp_eqFr, zp_eqTl, zp_eqFl, zp_eqFll, eq_self, zp_addl, zp_addr, zp_mull, zp_mulr, zp_subr, zp_subl, nI_add, pk_mul, a1, lines, if_pos hL, zp_1n0, sun, flys, if_neg hF, Bool.false_eq_true]
    obtain ⟨g1, g2, g3⟩ := f5 hF
    obtain ⟨M5, h1, h2, h3⟩ := zc_skip (d + 2) hn (80 - (zx_FF (zx_g f n)).2.1) M4 (zx_FF (zx_g f n)).2.1 rfl (by omega) (zx_tc_fr fr5 hT) f2
    have h3' : M5.1 4 0 3 = nI (zx_q (zx_g f n)) := h3
    have hq : zx_q (zx_g f n) ≤ 1000 := by
      have := zx_sk_le (zx_g f n) (80 - (zx_FF (zx_g f n)).2.1) (zx_FF (zx_g f n)).2.1
      show zx_sk _ _ _ ≤ 1000; omega
    have fr6 : zx_fr M0 M5 := zx_fr_tr fr5 (zx_f4_fr h2)
    have hr : ∀ e, zi_run (e + 1) zm_X4_here 0 [some (.inr (.inr (4, some 0)))] [] M5 = _ := fun e => zc_here e (zx_tc_fr fr6 hT) hn h3' hq
    by_cases hE : zx_g f n (zx_q (zx_g f n)) = 1000
    case neg =>
      have eR : zx_R (zx_g f n) = (false, zx_q (zx_g f n)) := by rw [zx_R, if_pos hL, hS]; simp only [if_pos hF, if_neg hE]
      rw [eR]
      refine ⟨M5, ?_, zq_nb_tr nb0 (zx_fr_nb fr6), by rw [fr6.1]; exact u0, h3', fun q => by cases q⟩
      simp (disch := omega) only [↓zp_dn, ↓zp_hV, ↓zp_hI, ↓zp_hL, ↓zp_hR, ↓zp_hX, zp_eV, zp_eI, zp_eL, zp_eR, zp_eX, zp_eXl, zp_iV, zp_iI, zp_iL, zp_iR, ↓zp_sm, ↓zp_nls, ↓zp_nln, zp_bo0, zp_bo1, zp_okE, zp_ok2E, zp_rfE, ↓reduceIte, if_true, if_false, zp_leT, zp_leF, zp_ltT, zp_ltF, zp_eqT, zp_eqF, zp_leTl, zp_leFl, zp_ltTl, zp_ltFl, zp_leTr, zp_leFr, zp_ltTr, zp_ltFr, zp_eqTr, zp_eqFr, zp_eqTl, zp_eqFl, zp_eqFll, eq_self, zp_addl, zp_addr, zp_mull, zp_mulr, zp_subr, zp_subl, nI_add, pk_mul, a1, lines, if_pos hL, zp_1n0, sun, flys, if_pos hF, ze_X4_readEnd_0, h1, hr, if_neg hE, Bool.false_eq_true]
    have eR : zx_R (zx_g f n) = (true, zx_q (zx_g f n)) := by rw [zx_R, if_pos hL, hS]; simp only [if_pos hF, if_pos hE]
    rw [eR]
    have k5 : ∀ c k j, c ≠ 4 → ¬ (c = 6 ∧ k = 4 ∧ j = 4) → ¬ (c = 1 ∧ 16 ≤ k) → ¬ (c = 7 ∧ 16 ≤ k ∧ k < 20) → M5.1 c k j = M3.1 c k j := fun c k j x1 x2 x3 x4 => (h2.2 c k j x1).trans (f4.2 c k j x1 x2 x3 x4)
    have k4 : ∀ c k j, c ≠ 4 → M5.1 c k j = M4.1 c k j := fun c k j x1 => h2.2 c k j x1
    refine ⟨M5, ?_, zq_nb_tr nb0 (zx_fr_nb fr6), by rw [fr6.1]; exact u0, h3', fun _ => ⟨Or.inr ⟨c4.1, c4.2.1, c4.2.2.1, c4.2.2.2⟩, ⟨g1, Nat.zero_le 40, fun i hi => ?_, fun m hm => absurd hm (Nat.not_lt_zero m)⟩, ⟨?_, ?_, fun h c hh hc => ?_⟩, ⟨?_, ?_, ?_, fun i hi => ?_, fun m hm => absurd hm (Nat.not_lt_zero m)⟩⟩⟩
    · simp (disch := omega) only [↓zp_dn, ↓zp_hV, ↓zp_hI, ↓zp_hL, ↓zp_hR, ↓zp_hX, zp_eV, zp_eI, zp_eL, zp_eR, zp_eX, zp_eXl, zp_iV, zp_iI, zp_iL, zp_iR, ↓zp_sm, ↓zp_nls, ↓zp_nln, zp_bo0, zp_bo1, zp_okE, zp_ok2E, zp_rfE, ↓reduceIte, if_true, if_false, zp_leT, zp_leF, zp_ltT, zp_ltF, zp_eqT, zp_eqF, zp_leTl, zp_leFl, zp_ltTl, zp_ltFl, zp_leTr, zp_leFr, zp_ltTr, zp_ltFr, zp_eqTr, zp_eqFr, zp_eqTl, zp_eqFl, zp_eqFll, eq_self, zp_addl, zp_addr, zp_mull, zp_mulr, zp_subr, zp_subl, nI_add, pk_mul, a1, lines, if_pos hL, zp_1n0, sun, flys, if_pos hF, ze_X4_readEnd_0, h1, hr, if_pos hE]
    · obtain ⟨y1, y2, y3, y4, y5, y6⟩ := g3 i hi
      exact ⟨⟨show 0 < (zx_LL (zx_g f n)).2.2.1 from by omega, y5, fun _ => y6⟩, 0, by omega, rfl⟩
    · exact (k5 0 1 1 (by decide) (by decide) (by decide) (by decide)).trans ((k3 0 1 1 (by decide) (by decide)).trans c1)
    · exact (k5 0 1 2 (by decide) (by decide) (by decide) (by decide)).trans ((k3 0 1 2 (by decide) (by decide)).trans c2)
    · have hh' : h < (zx_LL (zx_g f n)).2.2.2 := hh
      have hc' : c < (zx_LL (zx_g f n)).2.2.1 := hc
      have e1 : (7 * h + c) / 7 = h := by omega
      have e2 : (7 * h + c) % 7 = c := by omega
      refine ((k5 11 1 _ (by decide) (by omega) (by omega) (by omega)).trans ((k3 11 1 _ (by decide) (by decide)).trans (c5 h c hh' hc'))).trans ?_
      show _ = zx_o (zx_ai (zx_g f n (zx_p0 (zx_g f n) + (7 * h + c) / 7 * ((zx_LL (zx_g f n)).2.2.1 + 1) + (7 * h + c) % 7)))
      rw [e1, e2]; rfl
    · refine (k5 6 4 5 (by decide) (by decide) (by decide) (by decide)).trans ?_
      show _ = zx_o (zx_fi (zx_g f n (zx_LL (zx_g f n)).2.1))
      rw [hS, hM3]; simp [zp_sI1]; rfl
    · exact (k4 6 4 4 (by decide)).trans g2
    · refine (k5 6 4 6 (by decide) (by decide) (by decide) (by decide)).trans ?_
      rw [fr4.2 6 4 6 (by decide) (by decide) (by decide) (by decide) (by decide) (by decide)]; exact z466
    · obtain ⟨y1, y2, y3, y4, y5, y6⟩ := g3 i hi
      have k7 : M5.1 7 (4 * 4 + i) = M4.1 7 (16 + i) := funext fun s => k4 7 (16 + i) s (by decide)
      exact ⟨(k4 1 (16 + i) 1 (by decide)).trans y1, (k4 1 (16 + i) 2 (by decide)).trans y2, (k4 1 (16 + i) 3 (by decide)).trans y3, by rw [k7]; exact y4⟩
