/-! THE PURE PART: judge, drip -/
abbrev zj_P (x : Int32) : Prop := 0 ≤ x ∧ x ≤ 2
def zj_ab (f : Nat → Int32) : Nat → Nat → Bool
  | _, 0 => true
  | i, k + 1 => decide (zj_P (f i)) && zj_ab f (i + 1) k
theorem zj_ab_c {f g : Nat → Int32} : ∀ (k i : Nat), (∀ j, i ≤ j → j < i + k → f j = g j) → zj_ab f i k = zj_ab g i k := by
  intro k
  induction k with
  | zero => intro i _; rfl
  | succ k ih => intro i h; rw [zj_ab, zj_ab, h i (by omega) (by omega), ih (i + 1) (fun j h1 h2 => h j (by omega) (by omega))]
theorem zj_ab_at {f : Nat → Int32} : ∀ (k i : Nat), zj_ab f i k = true → ∀ j, i ≤ j → j < i + k → zj_P (f j) := by
  intro k
  induction k with
  | zero => intro i _ j h1 h2; omega
  | succ k ih =>
    intro i h j h1 h2
    rw [zj_ab, Bool.and_eq_true, decide_eq_true_eq] at h
    by_cases e : j = i
    · rw [e]; exact h.1
    · exact ih (i + 1) h.2 j (by omega) (by omega)
def zj_b (x : Int32) : Nat := x.toNatClampNeg
theorem zj_bE {x : Int32} (h : zj_P x) : x = nI (zj_b x) ∧ zj_b x < 3 := by
  have h0 : ¬ x < 0 := fun q => (zp_ltnle x 0).mp q h.1
  obtain ⟨j, hj, e⟩ := nI_of h0
  have hj3 : j ≤ 2 := by
    have := h.2
    rw [e, show (2 : Int32) = nI 2 from rfl, nI_leI hj (by decide)] at this; exact this
  have : zj_b x = j := by rw [zj_b, e]; exact nI_clamp hj
  rw [this]; exact ⟨e, by omega⟩
theorem zc_isBeat (d : Nat) (M : zi_M) (x : Int32) : zi_run d zm_X9_isBeat 0 [some (.inl x)] [] M = some (some (.inl (zw_b1 (decide (zj_P x)))), M) := by
  rw [ze_X9_isBeat_0]
  by_cases h0 : x < 0
  · have : ¬ zj_P x := fun q => (zp_ltnle x 0).mp h0 q.1
    rw [if_pos h0, decide_eq_false this]; rfl
  · have h0' : 0 ≤ x := Classical.byContradiction fun q => h0 ((zp_ltnle x 0).mpr q)
    rw [if_neg h0]
    by_cases h2 : x ≤ 2
    · rw [decide_eq_true (show zj_P x from ⟨h0', h2⟩)]
      first
        | (rw [if_pos h2]; rfl)
        | (rw [if_neg (fun q => (zp_ltnle 2 x).mp q h2)]; rfl)
    · have h2' : 2 < x := (zp_ltnle 2 x).mpr h2
      rw [decide_eq_false (show ¬ zj_P x from fun q => h2 q.2)]
      first
        | (rw [if_neg h2]; rfl)
        | (rw [if_pos h2']; rfl)
theorem zc_holds (d : Nat) {M : zi_M} {r m : Nat} (hr : r < 6) (hm : m ≤ 40) (h5 : M.1 5 r 1 = nI m) : zi_run (d + 1) zm_X9_holdsBeatsAlone 0 [some (.inr (.inr (5, some r))), none] [] M = some (some (.inl (zw_b1 (zj_ab (M.1 12 r) 0 m))), M) := by
  have L : ∀ k i, i + k = m → zi_run (d + 1) zm_X9_holdsBeatsAlone 2 [some (.inr (.inr (5, some r))), some (.inl (nI i))] [] M = some (some (.inl (zw_b1 (zj_ab (M.1 12 r) i k))), M) := by
    intro k
    induction k with
    | zero =>
      intro i hi
      rw [ze_X9_holdsBeatsAlone_2]
      simp (disch := omega) only [↓zp_dn, ↓zp_hV, ↓zp_hI, ↓zp_hL, ↓zp_hR, ↓zp_hX, zp_eV, zp_eI, zp_eL, zp_eR, zp_eX, zp_eXl, zp_iV, zp_iI, zp_iL, zp_iR, ↓zp_sm, ↓zp_nls, ↓zp_nln, zp_bo0, zp_bo1, zp_okE, zp_ok2E, zp_rfE, ↓reduceIte, if_true, if_false, zp_leT, zp_leF, zp_ltT, zp_ltF, zp_eqT, zp_eqF, zp_leTl, zp_leFl, zp_ltTl, zp_ltFl, zp_leTr, zp_leFr, zp_ltTr, zp_ltFr, zp_eqTr, zp_eqFr, zp_eqTl, zp_eqFl, zp_eqFll, eq_self, zp_addl, zp_addr, zp_mull, zp_mulr, zp_subr, zp_subl, nI_add, pk_mul, ze_X5_size_0, h5, zj_ab]; rfl
    | succ k ih =>
      intro i hi
      have hg : zi_run d zm_X5_get 0 [some (.inr (.inr (5, some r))), some (.inl (nI i))] [] M = some (some (.inl (M.1 12 r i)), M) := zl_get d r i m 40 M (zp_ln r hr) h5 (by omega) hm (by decide)
      rw [ze_X9_holdsBeatsAlone_2, zj_ab]
      by_cases hP : zj_P (M.1 12 r i)
      · simp (disch := omega) only [↓zp_dn, ↓zp_hV, ↓zp_hI, ↓zp_hL, ↓zp_hR, ↓zp_hX, zp_eV, zp_eI, zp_eL, zp_eR, zp_eX, zp_eXl, zp_iV, zp_iI, zp_iL, zp_iR, ↓zp_sm, ↓zp_nls, ↓zp_nln, zp_bo0, zp_bo1, zp_okE, zp_ok2E, zp_rfE, ↓reduceIte, if_true, if_false, zp_leT, zp_leF, zp_ltT, zp_ltF, zp_eqT, zp_eqF, zp_leTl, zp_leFl, zp_ltTl, zp_ltFl, zp_leTr, zp_leFr, zp_ltTr, zp_ltFr, zp_eqTr, zp_eqFr, zp_eqTl, zp_eqFl, zp_eqFll, eq_self, zp_addl, zp_addr, zp_mull, zp_mulr, zp_subr, zp_subl, nI_add, pk_mul, ze_X5_size_0, h5, hg, zc_isBeat, decide_eq_true hP, zw_b1T, zp_1n0, Bool.true_and]
        exact ih (i + 1) (by omega)
      · simp (disch := omega) only [↓zp_dn, ↓zp_hV, ↓zp_hI, ↓zp_hL, ↓zp_hR, ↓zp_hX, zp_eV, zp_eI, zp_eL, zp_eR, zp_eX, zp_eXl, zp_iV, zp_iI, zp_iL, zp_iR, ↓zp_sm, ↓zp_nls, ↓zp_nln, zp_bo0, zp_bo1, zp_okE, zp_ok2E, zp_rfE, ↓reduceIte, if_true, if_false, zp_leT, zp_leF, zp_ltT, zp_ltF, zp_eqT, zp_eqF, zp_leTl, zp_leFl, zp_ltTl, zp_ltFl, zp_leTr, zp_leFr, zp_ltTr, zp_ltFr, zp_eqTr, zp_eqFr, zp_eqTl, zp_eqFl, zp_eqFll, eq_self, zp_addl, zp_addr, zp_mull, zp_mulr, zp_subr, zp_subl, nI_add, pk_mul, ze_X5_size_0, h5, hg, zc_isBeat, decide_eq_false hP, zw_b1F, Bool.false_and]
  rw [ze_X9_holdsBeatsAlone_0]; exact L m 0 (by omega)
theorem zr_areBeats (d : Nat) {M : zi_M} {r m : Nat} (hr : r < 6) (hm : m ≤ 40) (h5 : M.1 24 0 r = nI m) : zi_run (d + 1) zm_X10_areBeats 0 [some (.inr (.inr (10, some 0))), some (.inl (nI r)), none, none] [] M = some (some (.inl (zw_b1 (zj_ab (fun j => M.1 25 0 (40 * r + j)) 0 m))), M) := by
  have L : ∀ k i (x : Bool), i + k = m → zi_run (d + 1) zm_X10_areBeats 4 [some (.inr (.inr (10, some 0))), some (.inl (nI r)), some (.inl (zw_b1 x)), some (.inl (nI i))] [] M = some (some (.inl (zw_b1 (x && zj_ab (fun j => M.1 25 0 (40 * r + j)) i k))), M) := by
    intro k
    induction k with
    | zero =>
      intro i x hi
      rw [ze_X10_areBeats_4]
      cases x with
      | false => simp (disch := omega) only [↓zp_dn, ↓zp_hV, ↓zp_hI, ↓zp_hL, ↓zp_hR, ↓zp_hX, zp_eV, zp_eI, zp_eL, zp_eR, zp_eX, zp_eXl, zp_iV, zp_iI, zp_iL, zp_iR, ↓zp_sm, ↓zp_nls, ↓zp_nln, zp_bo0, zp_bo1, zp_okE, zp_ok2E, zp_rfE, ↓reduceIte, if_true, if_false, zp_leT, zp_leF, zp_ltT, zp_ltF, zp_eqT, zp_eqF, zp_leTl, zp_leFl, zp_ltTl, zp_ltFl, zp_leTr, zp_leFr, zp_ltTr, zp_ltFr, zp_eqTr, zp_eqFr, zp_eqTl, zp_eqFl, zp_eqFll, eq_self, zp_addl, zp_addr, zp_mull, zp_mulr, zp_subr, zp_subl, nI_add, pk_mul, h5, zj_ab, zw_b1F, Bool.false_and]
      | true => simp (disch := omega) only [↓zp_dn, ↓zp_hV, ↓zp_hI, ↓zp_hL, ↓zp_hR, ↓zp_hX, zp_eV, zp_eI, zp_eL, zp_eR, zp_eX, zp_eXl, zp_iV, zp_iI, zp_iL, zp_iR, ↓zp_sm, ↓zp_nls, ↓zp_nln, zp_bo0, zp_bo1, zp_okE, zp_ok2E, zp_rfE, ↓reduceIte, if_true, if_false, zp_leT, zp_leF, zp_ltT, zp_ltF, zp_eqT, zp_eqF, zp_leTl, zp_leFl, zp_ltTl, zp_ltFl, zp_leTr, zp_leFr, zp_ltTr, zp_ltFr, zp_eqTr, zp_eqFr, zp_eqTl, zp_eqFl, zp_eqFll, eq_self, zp_addl, zp_addr, zp_mull, zp_mulr, zp_subr, zp_subl, nI_add, pk_mul, h5, zj_ab, zw_b1T, Bool.true_and]
    | succ k ih =>
      intro i x hi
      rw [ze_X10_areBeats_4]
      cases x with
      | false =>
        simp (disch := omega) only [↓zp_dn, ↓zp_hV, ↓zp_hI, ↓zp_hL, ↓zp_hR, ↓zp_hX, zp_eV, zp_eI, zp_eL, zp_eR, zp_eX, zp_eXl, zp_iV, zp_iI, zp_iL, zp_iR, ↓zp_sm, ↓zp_nls, ↓zp_nln, zp_bo0, zp_bo1, zp_okE, zp_ok2E, zp_rfE, ↓reduceIte, if_true, if_false, zp_leT, zp_leF, zp_ltT, zp_ltF, zp_eqT, zp_eqF, zp_leTl, zp_leFl, zp_ltTl, zp_ltFl, zp_leTr, zp_leFr, zp_ltTr, zp_ltFr, zp_eqTr, zp_eqFr, zp_eqTl, zp_eqFl, zp_eqFll, eq_self, zp_addl, zp_addr, zp_mull, zp_mulr, zp_subr, zp_subl, nI_add, pk_mul, h5, zw_b1F, Bool.false_and, ze_X10_areBeats_44, ze_X10_areBeats_45]
        have := ih (i + 1) false (by omega)
        simp only [zw_b1F, Bool.false_and] at this
        exact this
      | true =>
        rw [zj_ab]
        have lt0 : ∀ x : Int32, x < 0 ↔ ¬ 0 ≤ x := fun x => zp_ltnle x 0
        have lt2 : ∀ x : Int32, 2 < x ↔ ¬ x ≤ 2 := fun x => zp_ltnle 2 x
        by_cases hP : zj_P (M.1 25 0 (40 * r + i))
        · have i1 : ¬ M.1 25 0 (40 * r + i) < 0 := fun q => (lt0 _).mp q hP.1
          have i2 : ¬ 2 < M.1 25 0 (40 * r + i) := fun q => (lt2 _).mp q hP.2
          simp (disch := omega) only [↓zp_dn, ↓zp_hV, ↓zp_hI, ↓zp_hL, ↓zp_hR, ↓zp_hX, zp_eV, zp_eI, zp_eL, zp_eR, zp_eX, zp_eXl, zp_iV, zp_iI, zp_iL, zp_iR, ↓zp_sm, ↓zp_nls, ↓zp_nln, zp_bo0, zp_bo1, zp_okE, zp_ok2E, zp_rfE, ↓reduceIte, if_true, if_false, zp_leT, zp_leF, zp_ltT, zp_ltF, zp_eqT, zp_eqF, zp_leTl, zp_leFl, zp_ltTl, zp_ltFl, zp_leTr, zp_leFr, zp_ltTr, zp_ltFr, zp_eqTr, zp_eqFr, zp_eqTl, zp_eqFl, zp_eqFll, eq_self, zp_addl, zp_addr, zp_mull, zp_mulr, zp_subr, zp_subl, nI_add, pk_mul, h5, zw_b1T, zp_1n0, zp_in_0_2, if_neg i1, if_neg i2, ze_X10_areBeats_45, decide_eq_true hP, Bool.true_and]
          have := ih (i + 1) true (by omega)
          simp only [zw_b1T, Bool.true_and] at this
          exact this
        · have fin : zi_run (d + 1) zm_X10_areBeats 4 [some (.inr (.inr (10, some 0))), some (.inl (nI r)), some (.inl 0), some (.inl (nI (i + 1)))] [] M = some (some (.inl 0), M) := by
            have := ih (i + 1) false (by omega)
            simp only [zw_b1F, Bool.false_and] at this
            exact this
          by_cases i1 : M.1 25 0 (40 * r + i) < 0
          · simp (disch := omega) only [↓zp_dn, ↓zp_hV, ↓zp_hI, ↓zp_hL, ↓zp_hR, ↓zp_hX, zp_eV, zp_eI, zp_eL, zp_eR, zp_eX, zp_eXl, zp_iV, zp_iI, zp_iL, zp_iR, ↓zp_sm, ↓zp_nls, ↓zp_nln, zp_bo0, zp_bo1, zp_okE, zp_ok2E, zp_rfE, ↓reduceIte, if_true, if_false, zp_leT, zp_leF, zp_ltT, zp_ltF, zp_eqT, zp_eqF, zp_leTl, zp_leFl, zp_ltTl, zp_ltFl, zp_leTr, zp_leFr, zp_ltTr, zp_ltFr, zp_eqTr, zp_eqFr, zp_eqTl, zp_eqFl, zp_eqFll, eq_self, zp_addl, zp_addr, zp_mull, zp_mulr, zp_subr, zp_subl, nI_add, pk_mul, h5, zw_b1T, zp_1n0, zp_in_0_2, if_pos i1, ze_X10_areBeats_44, ze_X10_areBeats_45, decide_eq_false hP, Bool.false_and, Bool.and_false, zw_b1F, fin]
          · have i2 : 2 < M.1 25 0 (40 * r + i) := (lt2 _).mpr (fun q => hP ⟨Classical.byContradiction fun z => i1 ((lt0 _).mpr z), q⟩)
            simp (disch := omega) only [↓zp_dn, ↓zp_hV, ↓zp_hI, ↓zp_hL, ↓zp_hR, ↓zp_hX, zp_eV, zp_eI, zp_eL, zp_eR, zp_eX, zp_eXl, zp_iV, zp_iI, zp_iL, zp_iR, ↓zp_sm, ↓zp_nls, ↓zp_nln, zp_bo0, zp_bo1, zp_okE, zp_ok2E, zp_rfE, ↓reduceIte, if_true, if_false, zp_leT, zp_leF, zp_ltT, zp_ltF, zp_eqT, zp_eqF, zp_leTl, zp_leFl, zp_ltTl, zp_ltFl, zp_leTr, zp_leFr, zp_ltTr, zp_ltFr, zp_eqTr, zp_eqFr, zp_eqTl, zp_eqFl, zp_eqFll, eq_self, zp_addl, zp_addr, zp_mull, zp_mulr, zp_subr, zp_subl, nI_add, pk_mul, h5, zw_b1T, zp_1n0, zp_in_0_2, if_neg i1, if_pos i2, ze_X10_areBeats_44, ze_X10_areBeats_45, decide_eq_false hP, Bool.false_and, Bool.and_false, zw_b1F, fin]
  rw [ze_X10_areBeats_0]
  have := L m 0 true (by omega)
  simp only [zw_b1T, Bool.true_and] at this
  exact this
/-- judge: how many BEATS, by what one falls -/
def zj_j (E : zf_E) (f : Nat → Int32) : Nat → Nat → zf_S → Nat × Int32
  | 0, n, _ => (n, 0)
  | k + 1, n, t => if zf_can E.1 t (zj_b (f n)) then (if zf_fell E (zf_mv E t (zj_b (f n))) = 0 then zj_j E f k (n + 1) (zf_bt E t (zj_b (f n))) else (n, zf_fell E (zf_mv E t (zj_b (f n))))) else (n, 0)
theorem zj_j_c {E : zf_E} {f g : Nat → Int32} : ∀ (k n : Nat) (t : zf_S), (∀ j, n ≤ j → j < n + k → f j = g j) → zj_j E f k n t = zj_j E g k n t := by
  intro k
  induction k with
  | zero => intro n t _; rfl
  | succ k ih => intro n t h; rw [zj_j, zj_j, h n (by omega) (by omega), ih (n + 1) _ (fun j h1 h2 => h j (by omega) (by omega))]
theorem zc_judgeL (d : Nat) {E : zf_E} (hA : zf_okE E.1) {r m : Nat} (hr : r < 6) (hm : m ≤ 40) {f : Nat → Int32} (hf : ∀ j, j < m → zj_P (f j)) : ∀ (k n : Nat) (M : zi_M) (t : zf_S), n + k = m → zf_cE M E → M.1 5 r 1 = nI m → (∀ j, j < m → M.1 12 r j = f j) → zf_is (M.1 7 40) t → t.1 < E.1.1 → t.2.1 < E.1.2.1 → ∃ M', zi_run (d + 3) zm_X9_judge 97 [some (.inr (.inr (9, some 0))), none, none, none, some (.inr (.inr (5, some r))), some (.inl (nI n)), none] [] M = some (some (.inl (nI (zj_j E f k n t).1)), zi_sI M' 9 0 13 (zj_j E f k n t).2) ∧ zv_fr M M' := by
  intro k
  induction k with
  | zero =>
    intro n M t hn hE h5 h12 hs hc hh
    refine ⟨M, ?_, zv_fr_rfl M⟩
    have e : n = m := by omega
    rw [ze_X9_judge_97, zj_j, e]
    simp (disch := omega) only [↓zp_dn, ↓zp_hV, ↓zp_hI, ↓zp_hL, ↓zp_hR, ↓zp_hX, zp_eV, zp_eI, zp_eL, zp_eR, zp_eX, zp_eXl, zp_iV, zp_iI, zp_iL, zp_iR, ↓zp_sm, ↓zp_nls, ↓zp_nln, zp_bo0, zp_bo1, zp_okE, zp_ok2E, zp_rfE, ↓reduceIte, if_true, if_false, zp_leT, zp_leF, zp_ltT, zp_ltF, zp_eqT, zp_eqF, zp_leTl, zp_leFl, zp_ltTl, zp_ltFl, zp_leTr, zp_leFr, zp_ltTr, zp_ltFr, zp_eqTr, zp_eqFr, zp_eqTl, zp_eqFl, zp_eqFll, eq_self, zp_addl, zp_addr, zp_mull, zp_mulr, zp_subr, zp_subl, nI_add, pk_mul, ze_X5_size_0, h5, zp_sI1, Nat.reduceEqDiff, Nat.reduceLT, Nat.reduceLeDiff, Nat.reduceAdd, Nat.reduceMul, Nat.reduceSub, reduceCtorEq, Int32.reduceLT, Int32.reduceLE, not_true_eq_false, not_false_eq_true, and_true, true_and, and_false, false_and, or_true, true_or, or_false, false_or]
  | succ k ih =>
    intro n M t hn hE h5 h12 hs hc hh
    have hg : ∀ e, zi_run e zm_X5_get 0 [some (.inr (.inr (5, some r))), some (.inl (nI n))] [] M = some (some (.inl (nI (zj_b (f n)))), M) := fun e => by
      rw [zl_get e r n m 40 M (zp_ln r hr) h5 (by omega) hm (by decide), h12 n (by omega)]
      rw [← (zj_bE (hf n (by omega))).1]
    have hb := (zj_bE (hf n (by omega))).2
    rw [ze_X9_judge_97, zj_j]
    by_cases hcan : zf_can E.1 t (zj_b (f n))
    · have hbt := zf_bt1 hA hcan
      have fr := zv_fr_sp M (zf_bt E t (zj_b (f n)))
      by_cases hfl : zf_fell E (zf_mv E t (zj_b (f n))) = 0
      · obtain ⟨M', g1, g2⟩ := ih (n + 1) (zp_sp M 40 (zf_bt E t (zj_b (f n)))) _ (by omega) (zf_cE_vf fr hE) (by rw [fr.2 5 r 1 (by omega)]; exact h5) (fun j hj => by rw [fr.2 12 r j (by omega)]; exact h12 j hj) (zp_sp_is M 40 _) hbt.1 hbt.2
        refine ⟨M', ?_, zv_fr_tr fr g2⟩
        rw [if_pos hcan, if_pos hfl, ← g1]
        simp (disch := omega) only [↓zp_dn, ↓zp_hV, ↓zp_hI, ↓zp_hL, ↓zp_hR, ↓zp_hX, zp_eV, zp_eI, zp_eL, zp_eR, zp_eX, zp_eXl, zp_iV, zp_iI, zp_iL, zp_iR, ↓zp_sm, ↓zp_nls, ↓zp_nln, zp_bo0, zp_bo1, zp_okE, zp_ok2E, zp_rfE, ↓reduceIte, if_true, if_false, zp_leT, zp_leF, zp_ltT, zp_ltF, zp_eqT, zp_eqF, zp_leTl, zp_leFl, zp_ltTl, zp_ltFl, zp_leTr, zp_leFr, zp_ltTr, zp_ltFr, zp_eqTr, zp_eqFr, zp_eqTl, zp_eqFl, zp_eqFll, eq_self, zp_addl, zp_addr, zp_mull, zp_mulr, zp_subr, zp_subl, nI_add, pk_mul, ze_X5_size_0, h5, hg, zc_fly _ hA hE hs hc hh hb, if_pos hcan, if_pos hfl]
      · refine ⟨zp_sp M 40 (zf_bt E t (zj_b (f n))), ?_, fr⟩
        have hf' : ¬ zf_fell E (zf_mv E t (zj_b (f n))) = -1 := by
          rcases zf_fell_in E (zf_mv E t (zj_b (f n))) with e | e | e | e <;> rw [e] <;> decide
        rw [if_pos hcan, if_neg hfl]
        simp (disch := omega) only [↓zp_dn, ↓zp_hV, ↓zp_hI, ↓zp_hL, ↓zp_hR, ↓zp_hX, zp_eV, zp_eI, zp_eL, zp_eR, zp_eX, zp_eXl, zp_iV, zp_iI, zp_iL, zp_iR, ↓zp_sm, ↓zp_nls, ↓zp_nln, zp_bo0, zp_bo1, zp_okE, zp_ok2E, zp_rfE, ↓reduceIte, if_true, if_false, zp_leT, zp_leF, zp_ltT, zp_ltF, zp_eqT, zp_eqF, zp_leTl, zp_leFl, zp_ltTl, zp_ltFl, zp_leTr, zp_leFr, zp_ltTr, zp_ltFr, zp_eqTr, zp_eqFr, zp_eqTl, zp_eqFl, zp_eqFll, eq_self, zp_addl, zp_addr, zp_mull, zp_mulr, zp_subr, zp_subl, nI_add, pk_mul, ze_X5_size_0, h5, hg, zc_fly _ hA hE hs hc hh hb, if_pos hcan, if_neg hfl, if_neg hf', ze_X9_judge_152]
    · refine ⟨M, ?_, zv_fr_rfl M⟩
      have hz : ¬ (-1 : Int32) = 0 := by decide
      rw [if_neg hcan]
      simp (disch := omega) only [↓zp_dn, ↓zp_hV, ↓zp_hI, ↓zp_hL, ↓zp_hR, ↓zp_hX, zp_eV, zp_eI, zp_eL, zp_eR, zp_eX, zp_eXl, zp_iV, zp_iI, zp_iL, zp_iR, ↓zp_sm, ↓zp_nls, ↓zp_nln, zp_bo0, zp_bo1, zp_okE, zp_ok2E, zp_rfE, ↓reduceIte, if_true, if_false, zp_leT, zp_leF, zp_ltT, zp_ltF, zp_eqT, zp_eqF, zp_leTl, zp_leFl, zp_ltTl, zp_ltFl, zp_leTr, zp_leFr, zp_ltTr, zp_ltFr, zp_eqTr, zp_eqFr, zp_eqTl, zp_eqFl, zp_eqFll, eq_self, zp_addl, zp_addr, zp_mull, zp_mulr, zp_subr, zp_subl, nI_add, pk_mul, ze_X5_size_0, h5, hg, zc_fly _ hA hE hs hc hh hb, if_neg hcan, if_neg hz, ze_X9_judge_152]
theorem zr_judgeL (d : Nat) {E : zf_E} (hA : zf_okE E.1) {r m : Nat} (hr : r < 6) (hm : m ≤ 40) {f : Nat → Int32} (hf : ∀ j, j < m → zj_P (f j)) : ∀ (k n : Nat) (M : zi_M) (t : zf_S), n + k = m → zf_rE M E → M.1 24 0 r = nI m → (∀ j, j < m → M.1 25 0 (40 * r + j) = f j) → zf_rs M t → t.1 < E.1.1 → t.2.1 < E.1.2.1 → ∃ M', zi_run (d + 4) zm_X10_judge 64 [some (.inr (.inr (10, some 0))), none, some (.inl (nI r)), some (.inl (nI n))] [] M = some (some (.inl (nI (zj_j E f k n t).1)), zi_sI M' 10 0 9 (zj_j E f k n t).2) ∧ zq_nb M M' ∧ M'.2 = M.2 := by
  intro k
  induction k with
  | zero =>
    intro n M t hn hE h5 h12 hs hc hh
    refine ⟨M, ?_, zq_nb_rfl M, rfl⟩
    have e : n = m := by omega
    rw [ze_X10_judge_64, zj_j, e]
    simp (disch := omega) only [↓zp_dn, ↓zp_hV, ↓zp_hI, ↓zp_hL, ↓zp_hR, ↓zp_hX, zp_eV, zp_eI, zp_eL, zp_eR, zp_eX, zp_eXl, zp_iV, zp_iI, zp_iL, zp_iR, ↓zp_sm, ↓zp_nls, ↓zp_nln, zp_bo0, zp_bo1, zp_okE, zp_ok2E, zp_rfE, ↓reduceIte, if_true, if_false, zp_leT, zp_leF, zp_ltT, zp_ltF, zp_eqT, zp_eqF, zp_leTl, zp_leFl, zp_ltTl, zp_ltFl, zp_leTr, zp_leFr, zp_ltTr, zp_ltFr, zp_eqTr, zp_eqFr, zp_eqTl, zp_eqFl, zp_eqFll, eq_self, zp_addl, zp_addr, zp_mull, zp_mulr, zp_subr, zp_subl, nI_add, pk_mul, h5, ze_X10_judge_130]
  | succ k ih =>
    intro n M t hn hE h5 h12 hs hc hh
    have hv := h12 n (by omega)
    rw [(zj_bE (hf n (by omega))).1] at hv
    have hb := (zj_bE (hf n (by omega))).2
    rw [ze_X10_judge_64, zj_j]
    by_cases hcan : zf_can E.1 t (zj_b (f n))
    · have hbt := zf_bt1 hA hcan
      have m23 : (zp_rp M (zf_bt E t (zj_b (f n)))).1 10 0 23 = zf_fell E (zf_mv E t (zj_b (f n))) := (zp_rp_is _ (zf_bt E t (zj_b (f n)))).2.2.2.2.2
      have nb := zq_nb_rp (zq_nb_rfl M) (zf_bt E t (zj_b (f n)))
      by_cases hfl : zf_fell E (zf_mv E t (zj_b (f n))) = 0
      · obtain ⟨M', g1, g2, g3⟩ := ih (n + 1) (zp_rp M (zf_bt E t (zj_b (f n)))) _ (by omega) (zf_rE_rp hE _) h5 h12 (zp_rp_is M _) hbt.1 hbt.2
        refine ⟨M', ?_, zq_nb_tr nb g2, g3⟩
        rw [if_pos hcan, if_pos hfl, ← g1]
        simp (disch := omega) only [↓zp_dn, ↓zp_hV, ↓zp_hI, ↓zp_hL, ↓zp_hR, ↓zp_hX, zp_eV, zp_eI, zp_eL, zp_eR, zp_eX, zp_eXl, zp_iV, zp_iI, zp_iL, zp_iR, ↓zp_sm, ↓zp_nls, ↓zp_nln, zp_bo0, zp_bo1, zp_okE, zp_ok2E, zp_rfE, ↓reduceIte, if_true, if_false, zp_leT, zp_leF, zp_ltT, zp_ltF, zp_eqT, zp_eqF, zp_leTl, zp_leFl, zp_ltTl, zp_ltFl, zp_leTr, zp_leFr, zp_ltTr, zp_ltFr, zp_eqTr, zp_eqFr, zp_eqTl, zp_eqFl, zp_eqFll, eq_self, zp_addl, zp_addr, zp_mull, zp_mulr, zp_subr, zp_subl, nI_add, pk_mul, h5, hv, zr_canBeat _ hA hE hs hc hh hb, if_pos hcan, zp_1n0, zr_beats _ hA hE hs hc hh hb hcan, m23, if_pos hfl]
      · refine ⟨zp_rp M (zf_bt E t (zj_b (f n))), ?_, nb, rfl⟩
        rw [if_pos hcan, if_neg hfl]
        simp (disch := omega) only [↓zp_dn, ↓zp_hV, ↓zp_hI, ↓zp_hL, ↓zp_hR, ↓zp_hX, zp_eV, zp_eI, zp_eL, zp_eR, zp_eX, zp_eXl, zp_iV, zp_iI, zp_iL, zp_iR, ↓zp_sm, ↓zp_nls, ↓zp_nln, zp_bo0, zp_bo1, zp_okE, zp_ok2E, zp_rfE, ↓reduceIte, if_true, if_false, zp_leT, zp_leF, zp_ltT, zp_ltF, zp_eqT, zp_eqF, zp_leTl, zp_leFl, zp_ltTl, zp_ltFl, zp_leTr, zp_leFr, zp_ltTr, zp_ltFr, zp_eqTr, zp_eqFr, zp_eqTl, zp_eqFl, zp_eqFll, eq_self, zp_addl, zp_addr, zp_mull, zp_mulr, zp_subr, zp_subl, nI_add, pk_mul, h5, hv, zr_canBeat _ hA hE hs hc hh hb, if_pos hcan, zp_1n0, zr_beats _ hA hE hs hc hh hb hcan, m23, if_neg hfl]
    · refine ⟨M, ?_, zq_nb_rfl M, rfl⟩
      rw [if_neg hcan]
      simp (disch := omega) only [↓zp_dn, ↓zp_hV, ↓zp_hI, ↓zp_hL, ↓zp_hR, ↓zp_hX, zp_eV, zp_eI, zp_eL, zp_eR, zp_eX, zp_eXl, zp_iV, zp_iI, zp_iL, zp_iR, ↓zp_sm, ↓zp_nls, ↓zp_nln, zp_bo0, zp_bo1, zp_okE, zp_ok2E, zp_rfE, ↓reduceIte, if_true, if_false, zp_leT, zp_leF, zp_ltT, zp_ltF, zp_eqT, zp_eqF, zp_leTl, zp_leFl, zp_ltTl, zp_ltFl, zp_leTr, zp_leFr, zp_ltTr, zp_ltFr, zp_eqTr, zp_eqFr, zp_eqTl, zp_eqFl, zp_eqFll, eq_self, zp_addl, zp_addr, zp_mull, zp_mulr, zp_subr, zp_subl, nI_add, pk_mul, h5, hv, zr_canBeat _ hA hE hs hc hh hb, if_neg hcan, ze_X10_judge_130]
theorem zo_judge (d : Nat) {n : Nat} {xs : Nat → Int32} {M : zi_M} (hI : zq_inv n xs M) (i r : Int32) : zp_ok (zi_run (d + 5) zm_X9_judge 0 [some (.inr (.inr (9, some 0))), some (.inl i), some (.inl r), none, none, none, none] [] M) (zp_rf (d + 5) zm_X10_judge [some (.inr (.inr (10, some 0))), some (.inl i), some (.inl r), none]) (zq_inv n xs) := by
  obtain ⟨A, K, hS⟩ := hI.2.2.2.2.1
  have h4 := hS.2.1.1
  have hR := hS.2.2.2.2.2.1
  rcases zp_int i with hi | ⟨i, hi, rfl⟩
  · rcases zp_int r with hr | ⟨r, hr, rfl⟩
    · simp (disch := omega) only [ze_X9_judge_0, ze_X10_judge_0, zc_birdN _ hi, zr_flyerN _ hi, ze_X5_room_0, ze_X5_size_0, ze_X5_isThere_0, ze_X5_has_0, ze_X5_hasRun_0, ze_X5_get_0, ze_X5_set_0, ze_X5_drop_0, ze_X5_takeRun_0, ze_X9_rowAt_0, ze_X9_textAt_0, ze_X9_refuse_0, ze_X10_isRow_0, ze_X10_isText_0, ze_X10_finds_0, ze_X10_tells_0, zp_in_0_5, zp_in_0_3, zp_in_0_7, zp_in_1_5, zp_in_0_9, zp_in_0_2, zp_in_48_57, zp_in_0_12, zp_in_1_4, zp_in_1_9, zp_in_1_2147483646, zp_in_0_8, zp_in_0, ↓zp_dn, ↓zp_hV, ↓zp_hI, ↓zp_hL, ↓zp_hR, ↓zp_hX, zp_eV, zp_eI, zp_eL, zp_eR, zp_eX, zp_eXl, zp_iV, zp_iI, zp_iL, zp_iR, ↓zp_sm, ↓zp_nls, ↓zp_nln, zp_bo0, zp_bo1, zp_okE, zp_ok2E, zp_rfE, ↓reduceIte, if_true, if_false, zp_ofn, zp_sI1, zp_w1, zp_sL1, zp_sR1, zp_l1, zp_leT, zp_leF, zp_ltT, zp_ltF, zp_eqT, zp_eqF, zp_leTl, zp_leFl, zp_ltTl, zp_ltFl, zp_leTr, zp_leFr, zp_ltTr, zp_ltFr, zp_eqTr, zp_eqFr, zp_eqTl, zp_eqFl, zp_eqFll, eq_self, zp_addl, zp_addr, zp_mull, zp_mulr, zp_subr, zp_subl, nI_add, pk_mul, Nat.reduceEqDiff, Nat.reduceLT, Nat.reduceLeDiff, Nat.reduceAdd, Nat.reduceMul, Nat.reduceSub, reduceCtorEq, Int32.reduceLT, Int32.reduceLE, not_true_eq_false, not_false_eq_true, and_true, true_and, and_false, false_and, or_true, true_or, or_false, false_or, zp_n0 hr, zp_n1 hr, zp_n2 hr, zp_n3 hr, zp_n4 hr, zp_n3l hr, zp_n4l hr]; exact hI
    · by_cases r6 : r < 6
      · simp (disch := omega) only [ze_X9_judge_0, ze_X10_judge_0, zc_birdN _ hi, zr_flyerN _ hi, ze_X5_room_0, ze_X5_size_0, ze_X5_isThere_0, ze_X5_has_0, ze_X5_hasRun_0, ze_X5_get_0, ze_X5_set_0, ze_X5_drop_0, ze_X5_takeRun_0, ze_X9_rowAt_0, ze_X9_textAt_0, ze_X9_refuse_0, ze_X10_isRow_0, ze_X10_isText_0, ze_X10_finds_0, ze_X10_tells_0, zp_in_0_5, zp_in_0_3, zp_in_0_7, zp_in_1_5, zp_in_0_9, zp_in_0_2, zp_in_48_57, zp_in_0_12, zp_in_1_4, zp_in_1_9, zp_in_1_2147483646, zp_in_0_8, zp_in_0, ↓zp_dn, ↓zp_hV, ↓zp_hI, ↓zp_hL, ↓zp_hR, ↓zp_hX, zp_eV, zp_eI, zp_eL, zp_eR, zp_eX, zp_eXl, zp_iV, zp_iI, zp_iL, zp_iR, ↓zp_sm, ↓zp_nls, ↓zp_nln, zp_bo0, zp_bo1, zp_okE, zp_ok2E, zp_rfE, ↓reduceIte, if_true, if_false, zp_ofn, zp_sI1, zp_w1, zp_sL1, zp_sR1, zp_l1, zp_leT, zp_leF, zp_ltT, zp_ltF, zp_eqT, zp_eqF, zp_leTl, zp_leFl, zp_ltTl, zp_ltFl, zp_leTr, zp_leFr, zp_ltTr, zp_ltFr, zp_eqTr, zp_eqFr, zp_eqTl, zp_eqFl, zp_eqFll, eq_self, zp_addl, zp_addr, zp_mull, zp_mulr, zp_subr, zp_subl, nI_add, pk_mul, Nat.reduceEqDiff, Nat.reduceLT, Nat.reduceLeDiff, Nat.reduceAdd, Nat.reduceMul, Nat.reduceSub, reduceCtorEq, Int32.reduceLT, Int32.reduceLE, not_true_eq_false, not_false_eq_true, and_true, true_and, and_false, false_and, or_true, true_or, or_false, false_or]; exact hI
      · simp (disch := omega) only [ze_X9_judge_0, ze_X10_judge_0, zc_birdN _ hi, zr_flyerN _ hi, ze_X5_room_0, ze_X5_size_0, ze_X5_isThere_0, ze_X5_has_0, ze_X5_hasRun_0, ze_X5_get_0, ze_X5_set_0, ze_X5_drop_0, ze_X5_takeRun_0, ze_X9_rowAt_0, ze_X9_textAt_0, ze_X9_refuse_0, ze_X10_isRow_0, ze_X10_isText_0, ze_X10_finds_0, ze_X10_tells_0, zp_in_0_5, zp_in_0_3, zp_in_0_7, zp_in_1_5, zp_in_0_9, zp_in_0_2, zp_in_48_57, zp_in_0_12, zp_in_1_4, zp_in_1_9, zp_in_1_2147483646, zp_in_0_8, zp_in_0, ↓zp_dn, ↓zp_hV, ↓zp_hI, ↓zp_hL, ↓zp_hR, ↓zp_hX, zp_eV, zp_eI, zp_eL, zp_eR, zp_eX, zp_eXl, zp_iV, zp_iI, zp_iL, zp_iR, ↓zp_sm, ↓zp_nls, ↓zp_nln, zp_bo0, zp_bo1, zp_okE, zp_ok2E, zp_rfE, ↓reduceIte, if_true, if_false, zp_ofn, zp_sI1, zp_w1, zp_sL1, zp_sR1, zp_l1, zp_leT, zp_leF, zp_ltT, zp_ltF, zp_eqT, zp_eqF, zp_leTl, zp_leFl, zp_ltTl, zp_ltFl, zp_leTr, zp_leFr, zp_ltTr, zp_ltFr, zp_eqTr, zp_eqFr, zp_eqTl, zp_eqFl, zp_eqFll, eq_self, zp_addl, zp_addr, zp_mull, zp_mulr, zp_subr, zp_subl, nI_add, pk_mul, Nat.reduceEqDiff, Nat.reduceLT, Nat.reduceLeDiff, Nat.reduceAdd, Nat.reduceMul, Nat.reduceSub, reduceCtorEq, Int32.reduceLT, Int32.reduceLE, not_true_eq_false, not_false_eq_true, and_true, true_and, and_false, false_and, or_true, true_or, or_false, false_or]; exact hI
  by_cases hiF : i < K.2.1
  case neg =>
    rcases zp_int r with hr | ⟨r, hr, rfl⟩
    · simp (disch := omega) only [ze_X9_judge_0, ze_X10_judge_0, zc_birdF _ hS (Nat.le_of_not_lt hiF) hi, zr_flyerF _ hR (Nat.le_of_not_lt hiF) hi h4, ze_X5_room_0, ze_X5_size_0, ze_X5_isThere_0, ze_X5_has_0, ze_X5_hasRun_0, ze_X5_get_0, ze_X5_set_0, ze_X5_drop_0, ze_X5_takeRun_0, ze_X9_rowAt_0, ze_X9_textAt_0, ze_X9_refuse_0, ze_X10_isRow_0, ze_X10_isText_0, ze_X10_finds_0, ze_X10_tells_0, zp_in_0_5, zp_in_0_3, zp_in_0_7, zp_in_1_5, zp_in_0_9, zp_in_0_2, zp_in_48_57, zp_in_0_12, zp_in_1_4, zp_in_1_9, zp_in_1_2147483646, zp_in_0_8, zp_in_0, ↓zp_dn, ↓zp_hV, ↓zp_hI, ↓zp_hL, ↓zp_hR, ↓zp_hX, zp_eV, zp_eI, zp_eL, zp_eR, zp_eX, zp_eXl, zp_iV, zp_iI, zp_iL, zp_iR, ↓zp_sm, ↓zp_nls, ↓zp_nln, zp_bo0, zp_bo1, zp_okE, zp_ok2E, zp_rfE, ↓reduceIte, if_true, if_false, zp_ofn, zp_sI1, zp_w1, zp_sL1, zp_sR1, zp_l1, zp_leT, zp_leF, zp_ltT, zp_ltF, zp_eqT, zp_eqF, zp_leTl, zp_leFl, zp_ltTl, zp_ltFl, zp_leTr, zp_leFr, zp_ltTr, zp_ltFr, zp_eqTr, zp_eqFr, zp_eqTl, zp_eqFl, zp_eqFll, eq_self, zp_addl, zp_addr, zp_mull, zp_mulr, zp_subr, zp_subl, nI_add, pk_mul, Nat.reduceEqDiff, Nat.reduceLT, Nat.reduceLeDiff, Nat.reduceAdd, Nat.reduceMul, Nat.reduceSub, reduceCtorEq, Int32.reduceLT, Int32.reduceLE, not_true_eq_false, not_false_eq_true, and_true, true_and, and_false, false_and, or_true, true_or, or_false, false_or, zp_n0 hr, zp_n1 hr, zp_n2 hr, zp_n3 hr, zp_n4 hr, zp_n3l hr, zp_n4l hr]; exact hI
    · by_cases r6 : r < 6
      · simp (disch := omega) only [ze_X9_judge_0, ze_X10_judge_0, zc_birdF _ hS (Nat.le_of_not_lt hiF) hi, zr_flyerF _ hR (Nat.le_of_not_lt hiF) hi h4, ze_X5_room_0, ze_X5_size_0, ze_X5_isThere_0, ze_X5_has_0, ze_X5_hasRun_0, ze_X5_get_0, ze_X5_set_0, ze_X5_drop_0, ze_X5_takeRun_0, ze_X9_rowAt_0, ze_X9_textAt_0, ze_X9_refuse_0, ze_X10_isRow_0, ze_X10_isText_0, ze_X10_finds_0, ze_X10_tells_0, zp_in_0_5, zp_in_0_3, zp_in_0_7, zp_in_1_5, zp_in_0_9, zp_in_0_2, zp_in_48_57, zp_in_0_12, zp_in_1_4, zp_in_1_9, zp_in_1_2147483646, zp_in_0_8, zp_in_0, ↓zp_dn, ↓zp_hV, ↓zp_hI, ↓zp_hL, ↓zp_hR, ↓zp_hX, zp_eV, zp_eI, zp_eL, zp_eR, zp_eX, zp_eXl, zp_iV, zp_iI, zp_iL, zp_iR, ↓zp_sm, ↓zp_nls, ↓zp_nln, zp_bo0, zp_bo1, zp_okE, zp_ok2E, zp_rfE, ↓reduceIte, if_true, if_false, zp_ofn, zp_sI1, zp_w1, zp_sL1, zp_sR1, zp_l1, zp_leT, zp_leF, zp_ltT, zp_ltF, zp_eqT, zp_eqF, zp_leTl, zp_leFl, zp_ltTl, zp_ltFl, zp_leTr, zp_leFr, zp_ltTr, zp_ltFr, zp_eqTr, zp_eqFr, zp_eqTl, zp_eqFl, zp_eqFll, eq_self, zp_addl, zp_addr, zp_mull, zp_mulr, zp_subr, zp_subl, nI_add, pk_mul, Nat.reduceEqDiff, Nat.reduceLT, Nat.reduceLeDiff, Nat.reduceAdd, Nat.reduceMul, Nat.reduceSub, reduceCtorEq, Int32.reduceLT, Int32.reduceLE, not_true_eq_false, not_false_eq_true, and_true, true_and, and_false, false_and, or_true, true_or, or_false, false_or]; exact hI
      · simp (disch := omega) only [ze_X9_judge_0, ze_X10_judge_0, zc_birdF _ hS (Nat.le_of_not_lt hiF) hi, zr_flyerF _ hR (Nat.le_of_not_lt hiF) hi h4, ze_X5_room_0, ze_X5_size_0, ze_X5_isThere_0, ze_X5_has_0, ze_X5_hasRun_0, ze_X5_get_0, ze_X5_set_0, ze_X5_drop_0, ze_X5_takeRun_0, ze_X9_rowAt_0, ze_X9_textAt_0, ze_X9_refuse_0, ze_X10_isRow_0, ze_X10_isText_0, ze_X10_finds_0, ze_X10_tells_0, zp_in_0_5, zp_in_0_3, zp_in_0_7, zp_in_1_5, zp_in_0_9, zp_in_0_2, zp_in_48_57, zp_in_0_12, zp_in_1_4, zp_in_1_9, zp_in_1_2147483646, zp_in_0_8, zp_in_0, ↓zp_dn, ↓zp_hV, ↓zp_hI, ↓zp_hL, ↓zp_hR, ↓zp_hX, zp_eV, zp_eI, zp_eL, zp_eR, zp_eX, zp_eXl, zp_iV, zp_iI, zp_iL, zp_iR, ↓zp_sm, ↓zp_nls, ↓zp_nln, zp_bo0, zp_bo1, zp_okE, zp_ok2E, zp_rfE, ↓reduceIte, if_true, if_false, zp_ofn, zp_sI1, zp_w1, zp_sL1, zp_sR1, zp_l1, zp_leT, zp_leF, zp_ltT, zp_ltF, zp_eqT, zp_eqF, zp_leTl, zp_leFl, zp_ltTl, zp_ltFl, zp_leTr, zp_leFr, zp_ltTr, zp_ltFr, zp_eqTr, zp_eqFr, zp_eqTl, zp_eqFl, zp_eqFll, eq_self, zp_addl, zp_addr, zp_mull, zp_mulr, zp_subr, zp_subl, nI_add, pk_mul, Nat.reduceEqDiff, Nat.reduceLT, Nat.reduceLeDiff, Nat.reduceAdd, Nat.reduceMul, Nat.reduceSub, reduceCtorEq, Int32.reduceLT, Int32.reduceLE, not_true_eq_false, not_false_eq_true, and_true, true_and, and_false, false_and, or_true, true_or, or_false, false_or]; exact hI
  rcases zp_int r with hr | ⟨r, hr, rfl⟩
  · simp (disch := omega) only [ze_X9_judge_0, ze_X10_judge_0, zc_bird _ hS hiF, zr_flyer _ hR hiF h4, ze_X5_room_0, ze_X5_size_0, ze_X5_isThere_0, ze_X5_has_0, ze_X5_hasRun_0, ze_X5_get_0, ze_X5_set_0, ze_X5_drop_0, ze_X5_takeRun_0, ze_X9_rowAt_0, ze_X9_textAt_0, ze_X9_refuse_0, ze_X10_isRow_0, ze_X10_isText_0, ze_X10_finds_0, ze_X10_tells_0, zp_in_0_5, zp_in_0_3, zp_in_0_7, zp_in_1_5, zp_in_0_9, zp_in_0_2, zp_in_48_57, zp_in_0_12, zp_in_1_4, zp_in_1_9, zp_in_1_2147483646, zp_in_0_8, zp_in_0, ↓zp_dn, ↓zp_hV, ↓zp_hI, ↓zp_hL, ↓zp_hR, ↓zp_hX, zp_eV, zp_eI, zp_eL, zp_eR, zp_eX, zp_eXl, zp_iV, zp_iI, zp_iL, zp_iR, ↓zp_sm, ↓zp_nls, ↓zp_nln, zp_bo0, zp_bo1, zp_okE, zp_ok2E, zp_rfE, ↓reduceIte, if_true, if_false, zp_ofn, zp_sI1, zp_w1, zp_sL1, zp_sR1, zp_l1, zp_leT, zp_leF, zp_ltT, zp_ltF, zp_eqT, zp_eqF, zp_leTl, zp_leFl, zp_ltTl, zp_ltFl, zp_leTr, zp_leFr, zp_ltTr, zp_ltFr, zp_eqTr, zp_eqFr, zp_eqTl, zp_eqFl, zp_eqFll, eq_self, zp_addl, zp_addr, zp_mull, zp_mulr, zp_subr, zp_subl, nI_add, pk_mul, Nat.reduceEqDiff, Nat.reduceLT, Nat.reduceLeDiff, Nat.reduceAdd, Nat.reduceMul, Nat.reduceSub, reduceCtorEq, Int32.reduceLT, Int32.reduceLE, not_true_eq_false, not_false_eq_true, and_true, true_and, and_false, false_and, or_true, true_or, or_false, false_or, zp_n0 hr, zp_n1 hr, zp_n2 hr, zp_n3 hr, zp_n4 hr, zp_n3l hr, zp_n4l hr]; exact hI
  by_cases r6 : r < 6
  case neg => simp (disch := omega) only [ze_X9_judge_0, ze_X10_judge_0, zc_bird _ hS hiF, zr_flyer _ hR hiF h4, ze_X5_room_0, ze_X5_size_0, ze_X5_isThere_0, ze_X5_has_0, ze_X5_hasRun_0, ze_X5_get_0, ze_X5_set_0, ze_X5_drop_0, ze_X5_takeRun_0, ze_X9_rowAt_0, ze_X9_textAt_0, ze_X9_refuse_0, ze_X10_isRow_0, ze_X10_isText_0, ze_X10_finds_0, ze_X10_tells_0, zp_in_0_5, zp_in_0_3, zp_in_0_7, zp_in_1_5, zp_in_0_9, zp_in_0_2, zp_in_48_57, zp_in_0_12, zp_in_1_4, zp_in_1_9, zp_in_1_2147483646, zp_in_0_8, zp_in_0, ↓zp_dn, ↓zp_hV, ↓zp_hI, ↓zp_hL, ↓zp_hR, ↓zp_hX, zp_eV, zp_eI, zp_eL, zp_eR, zp_eX, zp_eXl, zp_iV, zp_iI, zp_iL, zp_iR, ↓zp_sm, ↓zp_nls, ↓zp_nln, zp_bo0, zp_bo1, zp_okE, zp_ok2E, zp_rfE, ↓reduceIte, if_true, if_false, zp_ofn, zp_sI1, zp_w1, zp_sL1, zp_sR1, zp_l1, zp_leT, zp_leF, zp_ltT, zp_ltF, zp_eqT, zp_eqF, zp_leTl, zp_leFl, zp_ltTl, zp_ltFl, zp_leTr, zp_leFr, zp_ltTr, zp_ltFr, zp_eqTr, zp_eqFr, zp_eqTl, zp_eqFl, zp_eqFll, eq_self, zp_addl, zp_addr, zp_mull, zp_mulr, zp_subr, zp_subl, nI_add, pk_mul, Nat.reduceEqDiff, Nat.reduceLT, Nat.reduceLeDiff, Nat.reduceAdd, Nat.reduceMul, Nat.reduceSub, reduceCtorEq, Int32.reduceLT, Int32.reduceLE, not_true_eq_false, not_false_eq_true, and_true, true_and, and_false, false_and, or_true, true_or, or_false, false_or]; exact hI
  obtain ⟨hE, hok, hsp⟩ := zq_fl hS hiF
  have h5 : M.1 7 i 5 = (zf_sp K i).2.2.2.2.2 := hsp.2.2.2.2.2
  by_cases hf : (zf_sp K i).2.2.2.2.2 = 0
  case neg => simp (disch := omega) only [ze_X9_judge_0, ze_X10_judge_0, zc_bird _ hS hiF, zr_flyer _ hR hiF h4, zr_fallen _ hR hiF h4, h5, if_neg hf, ze_X5_room_0, ze_X5_size_0, ze_X5_isThere_0, ze_X5_has_0, ze_X5_hasRun_0, ze_X5_get_0, ze_X5_set_0, ze_X5_drop_0, ze_X5_takeRun_0, ze_X9_rowAt_0, ze_X9_textAt_0, ze_X9_refuse_0, ze_X10_isRow_0, ze_X10_isText_0, ze_X10_finds_0, ze_X10_tells_0, zp_in_0_5, zp_in_0_3, zp_in_0_7, zp_in_1_5, zp_in_0_9, zp_in_0_2, zp_in_48_57, zp_in_0_12, zp_in_1_4, zp_in_1_9, zp_in_1_2147483646, zp_in_0_8, zp_in_0, ↓zp_dn, ↓zp_hV, ↓zp_hI, ↓zp_hL, ↓zp_hR, ↓zp_hX, zp_eV, zp_eI, zp_eL, zp_eR, zp_eX, zp_eXl, zp_iV, zp_iI, zp_iL, zp_iR, ↓zp_sm, ↓zp_nls, ↓zp_nln, zp_bo0, zp_bo1, zp_okE, zp_ok2E, zp_rfE, ↓reduceIte, if_true, if_false, zp_ofn, zp_sI1, zp_w1, zp_sL1, zp_sR1, zp_l1, zp_leT, zp_leF, zp_ltT, zp_ltF, zp_eqT, zp_eqF, zp_leTl, zp_leFl, zp_ltTl, zp_ltFl, zp_leTr, zp_leFr, zp_ltTr, zp_ltFr, zp_eqTr, zp_eqFr, zp_eqTl, zp_eqFl, zp_eqFll, eq_self, zp_addl, zp_addr, zp_mull, zp_mulr, zp_subr, zp_subl, nI_add, pk_mul, Nat.reduceEqDiff, Nat.reduceLT, Nat.reduceLeDiff, Nat.reduceAdd, Nat.reduceMul, Nat.reduceSub, reduceCtorEq, Int32.reduceLT, Int32.reduceLE, not_true_eq_false, not_false_eq_true, and_true, true_and, and_false, false_and, or_true, true_or, or_false, false_or]; exact hI
  rcases hI.1 r r6 with ⟨e1, e2⟩ | ⟨m, hm, e1, e2, e3⟩
  · simp (disch := omega) only [ze_X9_judge_0, zc_bird _ hS hiF, h5, if_pos hf, e1, ze_X5_room_0, ze_X5_size_0, ze_X5_isThere_0, ze_X5_has_0, ze_X5_hasRun_0, ze_X5_get_0, ze_X5_set_0, ze_X5_drop_0, ze_X5_takeRun_0, ze_X9_rowAt_0, ze_X9_textAt_0, ze_X9_refuse_0, ze_X10_isRow_0, ze_X10_isText_0, ze_X10_finds_0, ze_X10_tells_0, zp_in_0_5, zp_in_0_3, zp_in_0_7, zp_in_1_5, zp_in_0_9, zp_in_0_2, zp_in_48_57, zp_in_0_12, zp_in_1_4, zp_in_1_9, zp_in_1_2147483646, zp_in_0_8, zp_in_0, ↓zp_dn, ↓zp_hV, ↓zp_hI, ↓zp_hL, ↓zp_hR, ↓zp_hX, zp_eV, zp_eI, zp_eL, zp_eR, zp_eX, zp_eXl, zp_iV, zp_iI, zp_iL, zp_iR, ↓zp_sm, ↓zp_nls, ↓zp_nln, zp_bo0, zp_bo1, zp_okE, zp_ok2E, zp_rfE, ↓reduceIte, if_true, if_false, zp_ofn, zp_sI1, zp_w1, zp_sL1, zp_sR1, zp_l1, zp_leT, zp_leF, zp_ltT, zp_ltF, zp_eqT, zp_eqF, zp_leTl, zp_leFl, zp_ltTl, zp_ltFl, zp_leTr, zp_leFr, zp_ltTr, zp_ltFr, zp_eqTr, zp_eqFr, zp_eqTl, zp_eqFl, zp_eqFll, eq_self, zp_addl, zp_addr, zp_mull, zp_mulr, zp_subr, zp_subl, nI_add, pk_mul, Nat.reduceEqDiff, Nat.reduceLT, Nat.reduceLeDiff, Nat.reduceAdd, Nat.reduceMul, Nat.reduceSub, reduceCtorEq, Int32.reduceLT, Int32.reduceLE, not_true_eq_false, not_false_eq_true, and_true, true_and, and_false, false_and, or_true, true_or, or_false, false_or]
    rw [ze_X10_judge_0]
    have hR2 : zf_rK ((zi_sI (zi_sI M 9 0 12 1) 22 0 1 (M.1 22 0 1 + 1)).1 28 0) K := hR
    simp (disch := omega) only [zr_flyer _ hR2 hiF h4, zr_fallen _ hR2 hiF h4, if_pos hf, e2, ze_X5_room_0, ze_X5_size_0, ze_X5_isThere_0, ze_X5_has_0, ze_X5_hasRun_0, ze_X5_get_0, ze_X5_set_0, ze_X5_drop_0, ze_X5_takeRun_0, ze_X9_rowAt_0, ze_X9_textAt_0, ze_X9_refuse_0, ze_X10_isRow_0, ze_X10_isText_0, ze_X10_finds_0, ze_X10_tells_0, zp_in_0_5, zp_in_0_3, zp_in_0_7, zp_in_1_5, zp_in_0_9, zp_in_0_2, zp_in_48_57, zp_in_0_12, zp_in_1_4, zp_in_1_9, zp_in_1_2147483646, zp_in_0_8, zp_in_0, ↓zp_dn, ↓zp_hV, ↓zp_hI, ↓zp_hL, ↓zp_hR, ↓zp_hX, zp_eV, zp_eI, zp_eL, zp_eR, zp_eX, zp_eXl, zp_iV, zp_iI, zp_iL, zp_iR, ↓zp_sm, ↓zp_nls, ↓zp_nln, zp_bo0, zp_bo1, zp_okE, zp_ok2E, zp_rfE, ↓reduceIte, if_true, if_false, zp_ofn, zp_sI1, zp_w1, zp_sL1, zp_sR1, zp_l1, zp_leT, zp_leF, zp_ltT, zp_ltF, zp_eqT, zp_eqF, zp_leTl, zp_leFl, zp_ltTl, zp_ltFl, zp_leTr, zp_leFr, zp_ltTr, zp_ltFr, zp_eqTr, zp_eqFr, zp_eqTl, zp_eqFl, zp_eqFll, eq_self, zp_addl, zp_addr, zp_mull, zp_mulr, zp_subr, zp_subl, nI_add, pk_mul, Nat.reduceEqDiff, Nat.reduceLT, Nat.reduceLeDiff, Nat.reduceAdd, Nat.reduceMul, Nat.reduceSub, reduceCtorEq, Int32.reduceLT, Int32.reduceLE, not_true_eq_false, not_false_eq_true, and_true, true_and, and_false, false_and, or_true, true_or, or_false, false_or]
    exact zq_find hI 1 1
  have hh := zc_holds (d + 3) (M := M) r6 hm e1
  have eab : zj_ab (M.1 12 r) 0 m = zj_ab (fun j => M.1 25 0 (40 * r + j)) 0 m := zj_ab_c m 0 (fun j _ hj => e3 j (by omega))
  have k0 : M.1 6 0 5 = K.1 := hS.2.2.2.1.1
  cases hab : zj_ab (M.1 12 r) 0 m with
  | false =>
    rw [hab] at hh eab
    simp (disch := omega) only [ze_X9_judge_0, zc_bird _ hS hiF, h5, if_pos hf, e1, hh, zw_b1F, ze_X5_room_0, ze_X5_size_0, ze_X5_isThere_0, ze_X5_has_0, ze_X5_hasRun_0, ze_X5_get_0, ze_X5_set_0, ze_X5_drop_0, ze_X5_takeRun_0, ze_X9_rowAt_0, ze_X9_textAt_0, ze_X9_refuse_0, ze_X10_isRow_0, ze_X10_isText_0, ze_X10_finds_0, ze_X10_tells_0, zp_in_0_5, zp_in_0_3, zp_in_0_7, zp_in_1_5, zp_in_0_9, zp_in_0_2, zp_in_48_57, zp_in_0_12, zp_in_1_4, zp_in_1_9, zp_in_1_2147483646, zp_in_0_8, zp_in_0, ↓zp_dn, ↓zp_hV, ↓zp_hI, ↓zp_hL, ↓zp_hR, ↓zp_hX, zp_eV, zp_eI, zp_eL, zp_eR, zp_eX, zp_eXl, zp_iV, zp_iI, zp_iL, zp_iR, ↓zp_sm, ↓zp_nls, ↓zp_nln, zp_bo0, zp_bo1, zp_okE, zp_ok2E, zp_rfE, ↓reduceIte, if_true, if_false, zp_ofn, zp_sI1, zp_w1, zp_sL1, zp_sR1, zp_l1, zp_leT, zp_leF, zp_ltT, zp_ltF, zp_eqT, zp_eqF, zp_leTl, zp_leFl, zp_ltTl, zp_ltFl, zp_leTr, zp_leFr, zp_ltTr, zp_ltFr, zp_eqTr, zp_eqFr, zp_eqTl, zp_eqFl, zp_eqFll, eq_self, zp_addl, zp_addr, zp_mull, zp_mulr, zp_subr, zp_subl, nI_add, pk_mul, Nat.reduceEqDiff, Nat.reduceLT, Nat.reduceLeDiff, Nat.reduceAdd, Nat.reduceMul, Nat.reduceSub, reduceCtorEq, Int32.reduceLT, Int32.reduceLE, not_true_eq_false, not_false_eq_true, and_true, true_and, and_false, false_and, or_true, true_or, or_false, false_or]
    rw [ze_X10_judge_0]
    have hR2 : zf_rK ((zi_sI (zi_sI M 9 0 12 3) 22 0 3 (M.1 22 0 3 + 1)).1 28 0) K := hR
    have ha := zr_areBeats (d + 3) (M := zi_sI (zi_sI M 9 0 12 3) 22 0 3 (M.1 22 0 3 + 1)) r6 hm (show _ = nI m from e2)
    have ha' : zj_ab (fun j => (zi_sI (zi_sI M 9 0 12 3) 22 0 3 (M.1 22 0 3 + 1)).1 25 0 (40 * r + j)) 0 m = false := eab.symm
    rw [ha'] at ha
    simp (disch := omega) only [zr_flyer _ hR2 hiF h4, zr_fallen _ hR2 hiF h4, if_pos hf, e2, ha, zw_b1F, ze_X5_room_0, ze_X5_size_0, ze_X5_isThere_0, ze_X5_has_0, ze_X5_hasRun_0, ze_X5_get_0, ze_X5_set_0, ze_X5_drop_0, ze_X5_takeRun_0, ze_X9_rowAt_0, ze_X9_textAt_0, ze_X9_refuse_0, ze_X10_isRow_0, ze_X10_isText_0, ze_X10_finds_0, ze_X10_tells_0, zp_in_0_5, zp_in_0_3, zp_in_0_7, zp_in_1_5, zp_in_0_9, zp_in_0_2, zp_in_48_57, zp_in_0_12, zp_in_1_4, zp_in_1_9, zp_in_1_2147483646, zp_in_0_8, zp_in_0, ↓zp_dn, ↓zp_hV, ↓zp_hI, ↓zp_hL, ↓zp_hR, ↓zp_hX, zp_eV, zp_eI, zp_eL, zp_eR, zp_eX, zp_eXl, zp_iV, zp_iI, zp_iL, zp_iR, ↓zp_sm, ↓zp_nls, ↓zp_nln, zp_bo0, zp_bo1, zp_okE, zp_ok2E, zp_rfE, ↓reduceIte, if_true, if_false, zp_ofn, zp_sI1, zp_w1, zp_sL1, zp_sR1, zp_l1, zp_leT, zp_leF, zp_ltT, zp_ltF, zp_eqT, zp_eqF, zp_leTl, zp_leFl, zp_ltTl, zp_ltFl, zp_leTr, zp_leFr, zp_ltTr, zp_ltFr, zp_eqTr, zp_eqFr, zp_eqTl, zp_eqFl, zp_eqFll, eq_self, zp_addl, zp_addr, zp_mull, zp_mulr, zp_subr, zp_subl, nI_add, pk_mul, Nat.reduceEqDiff, Nat.reduceLT, Nat.reduceLeDiff, Nat.reduceAdd, Nat.reduceMul, Nat.reduceSub, reduceCtorEq, Int32.reduceLT, Int32.reduceLE, not_true_eq_false, not_false_eq_true, and_true, true_and, and_false, false_and, or_true, true_or, or_false, false_or]
    exact zq_find hI 3 3
  | true =>
    rw [hab] at hh eab
    have hP : ∀ j, j < m → zj_P (M.1 12 r j) := fun j hj => zj_ab_at m 0 hab j (by omega) (by omega)
    have hcE : zf_cE (zp_bd M (zf_en A K i)) (zf_en A K i) := zp_bd_E hS.2.2.1
    have hs0 : zf_is ((zp_bd M (zf_en A K i)).1 7 i) (zf_sp K i) := zp_bd_is hsp
    have fr0 := zv_fr_sp (zp_bd M (zf_en A K i)) (zf_sp K i)
    obtain ⟨M1, l1, l2⟩ := zc_judgeL (d + 2) (E := zf_en A K i) hE r6 hm hP m 0 (zp_sp (zp_bd M (zf_en A K i)) 40 (zf_sp K i)) (zf_sp K i) (by omega) (zf_cE_vf fr0 hcE) (by rw [fr0.2 5 r 1 (by omega), zp_bd1 _ _ (by decide)]; exact e1) (fun j hj => by rw [fr0.2 12 r j (by omega), zp_bd1 _ _ (by decide)]) (zp_sp_is _ 40 _) hok.1 hok.2.1
    have nb1 : zq_nb M M1 := zq_nb_tr (zq_nb_bd (zq_nb_rfl M) _) (zv_fr_nb (zv_fr_tr fr0 l2))
    have u1 : M1.2 = M.2 := l2.1.trans (fr0.1.trans (zp_bd2 M _))
    generalize hjj : zj_j (zf_en A K i) (M.1 12 r) m 0 (zf_sp K i) = jj at l1
    have nt1 : zq_nt M (zi_sI M1 9 0 13 jj.2) := zq_nt_9 (zq_nb_nt nb1) _
    have e28 : (zi_sI M1 9 0 13 jj.2).1 28 0 = M.1 28 0 := Eq.trans (b := M1.1 28 0) rfl (zq_nb_28 nb1)
    have hA2 : zf_rA ((zi_sI M1 9 0 13 jj.2).1 28 0) A := by rw [e28]; exact hS.2.2.2.2.1
    have hR2 : zf_rK ((zi_sI M1 9 0 13 jj.2).1 28 0) K := by rw [e28]; exact hR
    have g24 : (zi_sI M1 9 0 13 jj.2).1 24 0 r = nI m := Eq.trans (nt1 24 0 r (by simp [zq_gp]) (by omega) (by omega)) e2
    have g25 : ∀ j, (zi_sI M1 9 0 13 jj.2).1 25 0 j = M.1 25 0 j := fun j => nt1 25 0 j (by simp [zq_gp]) (by omega) (by omega)
    have ha := zr_areBeats (d + 3) (M := zi_sI M1 9 0 13 jj.2) r6 hm g24
    have ha' : zj_ab (fun j => (zi_sI M1 9 0 13 jj.2).1 25 0 (40 * r + j)) 0 m = true := by simp only [g25]; exact eab.symm
    rw [ha'] at ha
    obtain ⟨M2, q1, q2, q3⟩ := zr_judgeL (d + 1) (E := zf_en A K i) hE r6 hm hP m 0 (zp_rt (zi_sI M1 9 0 13 jj.2) (zf_en A K i) (zf_sp K i)) (zf_sp K i) (by omega) (zp_rt_E hA2 _) g24 (fun j hj => (g25 _).trans (e3 j hj).symm) (zp_rt_is _ _ _) hok.1 hok.2.1
    rw [hjj] at q1
    rw [ze_X9_judge_0]
    simp (disch := omega) only [zc_bird _ hS hiF, h5, if_pos hf, e1, hh, zw_b1T, zp_1n0, k0, zc_board _ hS hiF, zc_take _ (zp_bd M (zf_en A K i)) 40 i hs0, ze_X5_room_0, ze_X5_size_0, ze_X5_isThere_0, ze_X5_has_0, ze_X5_hasRun_0, ze_X5_get_0, ze_X5_set_0, ze_X5_drop_0, ze_X5_takeRun_0, ze_X9_rowAt_0, ze_X9_textAt_0, ze_X9_refuse_0, ze_X10_isRow_0, ze_X10_isText_0, ze_X10_finds_0, ze_X10_tells_0, zp_in_0_5, zp_in_0_3, zp_in_0_7, zp_in_1_5, zp_in_0_9, zp_in_0_2, zp_in_48_57, zp_in_0_12, zp_in_1_4, zp_in_1_9, zp_in_1_2147483646, zp_in_0_8, zp_in_0, ↓zp_dn, ↓zp_hV, ↓zp_hI, ↓zp_hL, ↓zp_hR, ↓zp_hX, zp_eV, zp_eI, zp_eL, zp_eR, zp_eX, zp_eXl, zp_iV, zp_iI, zp_iL, zp_iR, ↓zp_sm, ↓zp_nls, ↓zp_nln, zp_bo0, zp_bo1, zp_okE, zp_ok2E, zp_rfE, ↓reduceIte, if_true, if_false, zp_ofn, zp_sI1, zp_w1, zp_sL1, zp_sR1, zp_l1, zp_leT, zp_leF, zp_ltT, zp_ltF, zp_eqT, zp_eqF, zp_leTl, zp_leFl, zp_ltTl, zp_ltFl, zp_leTr, zp_leFr, zp_ltTr, zp_ltFr, zp_eqTr, zp_eqFr, zp_eqTl, zp_eqFl, zp_eqFll, eq_self, zp_addl, zp_addr, zp_mull, zp_mulr, zp_subr, zp_subl, nI_add, pk_mul, Nat.reduceEqDiff, Nat.reduceLT, Nat.reduceLeDiff, Nat.reduceAdd, Nat.reduceMul, Nat.reduceSub, reduceCtorEq, Int32.reduceLT, Int32.reduceLE, not_true_eq_false, not_false_eq_true, and_true, true_and, and_false, false_and, or_true, true_or, or_false, false_or]
    refine Eq.mpr (congrArg (fun o => zp_ok o _ _) l1) ?_
    rw [zp_okE, zp_rfE, ze_X10_judge_0]
    simp (disch := omega) only [zr_flyer _ hR2 hiF h4, zr_fallen _ hR2 hiF h4, if_pos hf, g24, ha, zw_b1T, zp_1n0, zr_takes (A := A) _ hR2 hiF h4, ↓zp_dn, ↓zp_hV, ↓zp_hI, ↓zp_hL, ↓zp_hR, ↓zp_hX, zp_eV, zp_eI, zp_eL, zp_eR, zp_eX, zp_eXl, zp_iV, zp_iI, zp_iL, zp_iR, ↓zp_sm, ↓zp_nls, ↓zp_nln, zp_bo0, zp_bo1, zp_okE, zp_ok2E, zp_rfE, ↓reduceIte, if_true, if_false, zp_leT, zp_leF, zp_ltT, zp_ltF, zp_eqT, zp_eqF, zp_leTl, zp_leFl, zp_ltTl, zp_ltFl, zp_leTr, zp_leFr, zp_ltTr, zp_ltFr, zp_eqTr, zp_eqFr, zp_eqTl, zp_eqFl, zp_eqFll, eq_self, zp_addl, zp_addr, zp_mull, zp_mulr, zp_subr, zp_subl, nI_add, pk_mul, ze_X10_isRow_0, ze_X10_isText_0, ze_X10_finds_0, ze_X10_tells_0, zp_in_0_5, zp_in_0_3, zp_in_0_7, zp_in_1_5, zp_in_0_9, zp_in_0_2, zp_in_48_57, zp_in_0_12, zp_in_1_4, zp_in_1_9, zp_in_1_2147483646, zp_in_0_8, zp_in_0, Nat.reduceEqDiff, Nat.reduceLT, Nat.reduceLeDiff, Nat.reduceAdd, Nat.reduceMul, Nat.reduceSub, reduceCtorEq, Int32.reduceLT, Int32.reduceLE, not_true_eq_false, not_false_eq_true, and_true, true_and, and_false, false_and, or_true, true_or, or_false, false_or]
    refine Eq.mpr (congrArg (fun o => zp_ok2 o _ _) q1) ?_
    rw [zp_ok2E]
    refine ⟨rfl, zq_inv_nt (zq_nt_10 (zq_nt_nb nt1 (zq_nb_tr (zq_nb_rt (zq_nb_rfl _) _ _) q2)) _) ?_ (fun a => ?_) hI⟩
    · have e13 : M2.1 9 0 13 = jj.2 := by rw [q2 9 0 13 (by simp [zq_gp]), zp_rt1, if_neg (by decide)]; simp [zp_sI1]
      simp [zp_sI1, e13]
    · have : (zi_sI M2 10 0 9 jj.2).2 = M.2 := q3.trans u1
      simp only [zq_longs, this] at a ⊢; exact a
