/-! THE PURE PART: sky -/
theorem zc_airTake (d : Nat) {M : zi_M} {A : zf_A} (h7 : A.1 ≤ 7) (h5 : A.2.1 ≤ 5) (h : zf_cA M 1 A) : ∃ M', zi_run d zm_X0_take 0 [some (.inr (.inr (0, some 0))), some (.inr (.inr (0, some 1))), none] [] M = some (none, M') ∧ zf_cA M' 0 A ∧ M'.2 = M.2 ∧ ∀ c k j, ¬ (c = 0 ∧ k = 0) → ¬ (c = 11 ∧ k = 0) → M'.1 c k j = M.1 c k j := by
  obtain ⟨a1, a2, a3⟩ := h
  have key : ∀ (k i : Nat) (N : zi_M), i + k = 35 → (N.2 = M.2 ∧ (∀ c k j, ¬ (c = 0 ∧ k = 0) → ¬ (c = 11 ∧ k = 0) → N.1 c k j = M.1 c k j) ∧ N.1 0 0 1 = M.1 0 1 1 ∧ N.1 0 0 2 = M.1 0 1 2 ∧ ∀ j, j < i → N.1 11 0 j = M.1 11 1 j) → ∃ M', zi_run d zm_X0_take 18 [some (.inr (.inr (0, some 0))), some (.inr (.inr (0, some 1))), some (.inl (nI i))] [] N = some (none, M') ∧ (M'.2 = M.2 ∧ (∀ c k j, ¬ (c = 0 ∧ k = 0) → ¬ (c = 11 ∧ k = 0) → M'.1 c k j = M.1 c k j) ∧ M'.1 0 0 1 = M.1 0 1 1 ∧ M'.1 0 0 2 = M.1 0 1 2 ∧ ∀ j, j < 35 → M'.1 11 0 j = M.1 11 1 j) := by
    intro k
    induction k with
    | zero =>
      intro i N hi hN
      have e : i = 35 := by omega
      subst e
      refine ⟨N, ?_, hN⟩
      rw [ze_X0_take_18]
      simp (disch := omega) only [↓zp_dn, ↓zp_hV, ↓zp_hI, ↓zp_hL, ↓zp_hR, ↓zp_hX, zp_eV, zp_eI, zp_eL, zp_eR, zp_eX, zp_eXl, zp_iV, zp_iI, zp_iL, zp_iR, ↓zp_sm, ↓zp_nls, ↓zp_nln, zp_bo0, zp_bo1, zp_okE, zp_ok2E, zp_rfE, ↓reduceIte, if_true, if_false, zp_leT, zp_leF, zp_ltT, zp_ltF, zp_eqT, zp_eqF, zp_leTl, zp_leFl, zp_ltTl, zp_ltFl, zp_leTr, zp_leFr, zp_ltTr, zp_ltFr, zp_eqTr, zp_eqFr, zp_eqTl, zp_eqFl, zp_eqFll, eq_self, zp_addl, zp_addr, zp_mull, zp_mulr, zp_subr, zp_subl, nI_add, pk_mul]
    | succ k ih =>
      intro i N hi hN
      obtain ⟨n1, n2, n3, n4, n5⟩ := hN
      have e11 : N.1 11 1 i = M.1 11 1 i := n2 11 1 i (by omega) (by omega)
      obtain ⟨M', e1, e2⟩ := ih (i + 1) (zi_sI N 11 0 i (M.1 11 1 i)) (by omega) ⟨n1, fun c k j a b => by rw [zp_o1 b]; exact n2 c k j a b, by rw [zp_o1 (by omega)]; exact n3, by rw [zp_o1 (by omega)]; exact n4, fun j hj => by
        rw [zp_sI1, if_pos rfl]
        by_cases q : j = i
        · rw [if_pos q, if_pos rfl, q]
        · rw [if_neg q]; exact n5 j (by omega)⟩
      refine ⟨M', ?_, e2⟩
      refine Eq.trans ?_ e1
      rw [ze_X0_take_18]
      simp (disch := omega) only [↓zp_dn, ↓zp_hV, ↓zp_hI, ↓zp_hL, ↓zp_hR, ↓zp_hX, zp_eV, zp_eI, zp_eL, zp_eR, zp_eX, zp_eXl, zp_iV, zp_iI, zp_iL, zp_iR, ↓zp_sm, ↓zp_nls, ↓zp_nln, zp_bo0, zp_bo1, zp_okE, zp_ok2E, zp_rfE, ↓reduceIte, if_true, if_false, zp_leT, zp_leF, zp_ltT, zp_ltF, zp_eqT, zp_eqF, zp_leTl, zp_leFl, zp_ltTl, zp_ltFl, zp_leTr, zp_leFr, zp_ltTr, zp_ltFr, zp_eqTr, zp_eqFr, zp_eqTl, zp_eqFl, zp_eqFll, eq_self, zp_addl, zp_addr, zp_mull, zp_mulr, zp_subr, zp_subl, nI_add, pk_mul, e11]
  obtain ⟨M', e1, n1, n2, n3, n4, n5⟩ := key 35 0 (zi_sI (zi_sI M 0 0 1 (M.1 0 1 1)) 0 0 2 (M.1 0 1 2)) (by omega) ⟨rfl, fun c k j a b => by rw [zp_o1 a, zp_o1 a], by simp [zp_sI1], by simp [zp_sI1], fun j hj => by omega⟩
  refine ⟨M', ?_, ⟨n3.trans a1, n4.trans a2, fun h c hh hc => (n5 _ (by omega)).trans (a3 h c hh hc)⟩, n1, n2⟩
  rw [ze_X0_take_0]; exact e1
/-- the reference lays what it has drawn -/
theorem zr_sky39 (d : Nat) {M : zi_M} : ∃ M', zi_run d zm_X10_sky 39 [some (.inr (.inr (10, some 0))), none, some (.inl 0)] [] M = some (some (.inl (M.1 33 0 3)), M') ∧ (∀ j, j < 356 → M'.1 28 0 j = M.1 33 0 j) ∧ (∀ q, q < 3 → M'.1 30 0 q = 0) ∧ M'.2 = M.2 ∧ ∀ c k j, ¬ (c = 28 ∧ k = 0) → ¬ (c = 30 ∧ k = 0) → M'.1 c k j = M.1 c k j := by
  have k2 : ∀ (k i : Nat) (N : zi_M), i + k = 3 → (∀ j, j < 356 → N.1 28 0 j = M.1 33 0 j) → (∀ q, q < i → N.1 30 0 q = 0) → N.2 = M.2 → (∀ c k j, ¬ (c = 28 ∧ k = 0) → ¬ (c = 30 ∧ k = 0) → N.1 c k j = M.1 c k j) → ∃ M', zi_run d zm_X10_sky 66 [some (.inr (.inr (10, some 0))), none, some (.inl (nI i))] [] N = some (some (.inl (M.1 33 0 3)), M') ∧ (∀ j, j < 356 → M'.1 28 0 j = M.1 33 0 j) ∧ (∀ q, q < 3 → M'.1 30 0 q = 0) ∧ M'.2 = M.2 ∧ ∀ c k j, ¬ (c = 28 ∧ k = 0) → ¬ (c = 30 ∧ k = 0) → M'.1 c k j = M.1 c k j := by
    intro k
    induction k with
    | zero =>
      intro i N hi n1 n2 n3 n4
      have e : i = 3 := by omega
      subst e
      refine ⟨N, ?_, n1, n2, n3, n4⟩
      rw [ze_X10_sky_66]
      simp (disch := omega) only [↓zp_dn, ↓zp_hV, ↓zp_hI, ↓zp_hL, ↓zp_hR, ↓zp_hX, zp_eV, zp_eI, zp_eL, zp_eR, zp_eX, zp_eXl, zp_iV, zp_iI, zp_iL, zp_iR, ↓zp_sm, ↓zp_nls, ↓zp_nln, zp_bo0, zp_bo1, zp_okE, zp_ok2E, zp_rfE, ↓reduceIte, if_true, if_false, zp_leT, zp_leF, zp_ltT, zp_ltF, zp_eqT, zp_eqF, zp_leTl, zp_leFl, zp_ltTl, zp_ltFl, zp_leTr, zp_leFr, zp_ltTr, zp_ltFr, zp_eqTr, zp_eqFr, zp_eqTl, zp_eqFl, zp_eqFll, eq_self, zp_addl, zp_addr, zp_mull, zp_mulr, zp_subr, zp_subl, nI_add, pk_mul, n1 3 (by omega)]
    | succ k ih =>
      intro i N hi n1 n2 n3 n4
      obtain ⟨M', e1, e2⟩ := ih (i + 1) (zi_sI N 30 0 i 0) (by omega) (fun j hj => by rw [zp_o1 (by omega)]; exact n1 j hj) (fun q hq => by
        rw [zp_sI1, if_pos rfl]
        by_cases z : q = i
        · rw [if_pos z, if_pos rfl]
        · rw [if_neg z]; exact n2 q (by omega)) n3 (fun c k j a b => by rw [zp_o1 b]; exact n4 c k j a b)
      refine ⟨M', ?_, e2⟩
      refine Eq.trans ?_ e1
      rw [ze_X10_sky_66]
      simp (disch := omega) only [↓zp_dn, ↓zp_hV, ↓zp_hI, ↓zp_hL, ↓zp_hR, ↓zp_hX, zp_eV, zp_eI, zp_eL, zp_eR, zp_eX, zp_eXl, zp_iV, zp_iI, zp_iL, zp_iR, ↓zp_sm, ↓zp_nls, ↓zp_nln, zp_bo0, zp_bo1, zp_okE, zp_ok2E, zp_rfE, ↓reduceIte, if_true, if_false, zp_leT, zp_leF, zp_ltT, zp_ltF, zp_eqT, zp_eqF, zp_leTl, zp_leFl, zp_ltTl, zp_ltFl, zp_leTr, zp_leFr, zp_ltTr, zp_ltFr, zp_eqTr, zp_eqFr, zp_eqTl, zp_eqFl, zp_eqFll, eq_self, zp_addl, zp_addr, zp_mull, zp_mulr, zp_subr, zp_subl, nI_add, pk_mul]
  have k1 : ∀ (k i : Nat) (N : zi_M), i + k = 356 → (∀ j, j < i → N.1 28 0 j = M.1 33 0 j) → N.2 = M.2 → (∀ c k j, ¬ (c = 28 ∧ k = 0) → N.1 c k j = M.1 c k j) → ∃ M', zi_run d zm_X10_sky 39 [some (.inr (.inr (10, some 0))), none, some (.inl (nI i))] [] N = some (some (.inl (M.1 33 0 3)), M') ∧ (∀ j, j < 356 → M'.1 28 0 j = M.1 33 0 j) ∧ (∀ q, q < 3 → M'.1 30 0 q = 0) ∧ M'.2 = M.2 ∧ ∀ c k j, ¬ (c = 28 ∧ k = 0) → ¬ (c = 30 ∧ k = 0) → M'.1 c k j = M.1 c k j := by
    intro k
    induction k with
    | zero =>
      intro i N hi n1 n3 n4
      have e : i = 356 := by omega
      subst e
      obtain ⟨M', e1, e2⟩ := k2 3 0 N (by omega) n1 (fun q hq => by omega) n3 (fun c k j a b => n4 c k j a)
      refine ⟨M', ?_, e2⟩
      refine Eq.trans ?_ e1
      rw [ze_X10_sky_39]
      simp (disch := omega) only [↓zp_dn, ↓zp_hV, ↓zp_hI, ↓zp_hL, ↓zp_hR, ↓zp_hX, zp_eV, zp_eI, zp_eL, zp_eR, zp_eX, zp_eXl, zp_iV, zp_iI, zp_iL, zp_iR, ↓zp_sm, ↓zp_nls, ↓zp_nln, zp_bo0, zp_bo1, zp_okE, zp_ok2E, zp_rfE, ↓reduceIte, if_true, if_false, zp_leT, zp_leF, zp_ltT, zp_ltF, zp_eqT, zp_eqF, zp_leTl, zp_leFl, zp_ltTl, zp_ltFl, zp_leTr, zp_leFr, zp_ltTr, zp_ltFr, zp_eqTr, zp_eqFr, zp_eqTl, zp_eqFl, zp_eqFll, eq_self, zp_addl, zp_addr, zp_mull, zp_mulr, zp_subr, zp_subl, nI_add, pk_mul]
      rfl
    | succ k ih =>
      intro i N hi n1 n3 n4
      have e33 : N.1 33 0 i = M.1 33 0 i := n4 33 0 i (by omega)
      obtain ⟨M', e1, e2⟩ := ih (i + 1) (zi_sI N 28 0 i (M.1 33 0 i)) (by omega) (fun j hj => by
        rw [zp_sI1, if_pos rfl]
        by_cases z : j = i
        · rw [if_pos z, if_pos rfl, z]
        · rw [if_neg z]; exact n1 j (by omega)) n3 (fun c k j a => by rw [zp_o1 a]; exact n4 c k j a)
      refine ⟨M', ?_, e2⟩
      refine Eq.trans ?_ e1
      rw [ze_X10_sky_39]
      simp (disch := omega) only [↓zp_dn, ↓zp_hV, ↓zp_hI, ↓zp_hL, ↓zp_hR, ↓zp_hX, zp_eV, zp_eI, zp_eL, zp_eR, zp_eX, zp_eXl, zp_iV, zp_iI, zp_iL, zp_iR, ↓zp_sm, ↓zp_nls, ↓zp_nln, zp_bo0, zp_bo1, zp_okE, zp_ok2E, zp_rfE, ↓reduceIte, if_true, if_false, zp_leT, zp_leF, zp_ltT, zp_ltF, zp_eqT, zp_eqF, zp_leTl, zp_leFl, zp_ltTl, zp_ltFl, zp_leTr, zp_leFr, zp_ltTr, zp_ltFr, zp_eqTr, zp_eqFr, zp_eqTl, zp_eqFl, zp_eqFll, eq_self, zp_addl, zp_addr, zp_mull, zp_mulr, zp_subr, zp_subl, nI_add, pk_mul, e33]
  exact k1 356 0 M (by omega) (fun j hj => by omega) rfl (fun _ _ _ _ => rfl)
theorem zx_rA_c {g g' : Nat → Int32} {A : zf_A} (h7 : A.1 ≤ 7) (h5 : A.2.1 ≤ 5) (e : ∀ j, j < 356 → g' j = g j) (h : zf_rA g A) : zf_rA g' A := ⟨(e 0 (by omega)).trans h.1, (e 1 (by omega)).trans h.2.1, fun y c hy hc => (e _ (by omega)).trans (h.2.2 y c hy hc)⟩
theorem zx_rK_c {g g' : Nat → Int32} {K : zf_K} (h4 : K.2.1 ≤ 4) (h0 : K.2.2.2.1 = 0) (e : ∀ j, j < 356 → g' j = g j) (h : zf_rK g K) : zf_rK g' K := by
  obtain ⟨a1, a2, a3, a4, a5⟩ := h
  refine ⟨(e 2 (by omega)).trans a1, (e 3 (by omega)).trans a2, (e 4 (by omega)).trans a3, fun i hi => ?_, fun m hm => absurd hm (by omega)⟩
  obtain ⟨b1, b2, b3, b4⟩ := a4 i hi
  exact ⟨(e _ (by omega)).trans b1, (e _ (by omega)).trans b2, (e _ (by omega)).trans b3, zf_is_c b4 (fun j hj => e _ (by split <;> omega))⟩
theorem zx_L_le (g : Nat → Int32) : ∀ k h p w, w ≤ 7 → (zx_L g k h p w).2.1 ≤ p + 8 * k := by
  intro k
  induction k with
  | zero => intro h p w _; exact Nat.le_refl p
  | succ k ih =>
    intro h p w hw
    have hcw := zx_w_le g (if h = 0 then 7 else w) p
    have hlim : (if h = 0 then 7 else w) ≤ 7 := by split <;> omega
    obtain ⟨c, hc⟩ : ∃ c, zx_w g (if h = 0 then 7 else w) p = c := ⟨_, rfl⟩
    rw [hc] at hcw
    rw [zx_Ls g k h p w c hc]
    split
    · show p + c ≤ _; omega
    · split
      · show p + c + 1 ≤ _; omega
      · split
        · have := ih (h + 1) (p + c + 1) c (by omega); omega
        · show p + c ≤ _; omega
theorem zx_F_le (g : Nat → Int32) (H : Nat) (cell : Nat → Int32) : ∀ k i p, (zx_F g H cell k i p).2.1 ≤ p + 4 * k := by
  intro k
  induction k with
  | zero => intro i p; exact Nat.le_refl p
  | succ k ih =>
    intro i p
    rw [zx_F]
    cases zx_ki (g p) with
    | none => show p ≤ _; omega
    | some _ =>
      cases zx_fi (g (p + 1)) with
      | none => show p + 1 ≤ _; omega
      | some _ =>
        cases zx_fi (g (p + 2)) with
        | none => show p + 2 ≤ _; omega
        | some _ =>
          cases zx_fi (g (p + 3)) with
          | none => show p + 3 ≤ _; omega
          | some v =>
            have := ih (i + 1) (p + 4)
            show (if H ≤ v ∨ cell v = 5 then (false, p + 3, i) else zx_F g H cell k (i + 1) (p + 4)).2.1 ≤ _
            split
            · show p + 3 ≤ _; omega
            · omega
theorem zx_R_le (g : Nat → Int32) : (zx_R g).2 ≤ 1000 := by
  have h0 := zx_sk_le g 80 0
  have h1 : (zx_LL g).2.1 ≤ zx_p0 g + 40 := zx_L_le g 5 0 (zx_p0 g) 0 (by omega)
  have h2 : (zx_FF g).2.1 ≤ (zx_LL g).2.1 + 1 + 16 := zx_F_le g _ _ 4 0 _
  have h3 := zx_sk_le g (80 - (zx_FF g).2.1) (zx_FF g).2.1
  have h0' : zx_p0 g ≤ 80 := h0
  rw [zx_RE]
  split
  · split
    · show (zx_LL g).2.1 ≤ _; omega
    · unfold zx_E
      split
      · split
        · show zx_sk _ _ _ ≤ _; omega
        · show zx_sk _ _ _ ≤ _; omega
      · show (zx_FF g).2.1 ≤ _; omega
  · show (zx_LL g).2.1 ≤ _; omega
theorem zo_sky (d : Nat) {n : Nat} {xs : Nat → Int32} {M : zi_M} (hI : zq_inv n xs M) (r : Int32) : zp_ok (zi_run (d + 8) zm_X9_sky 0 [some (.inr (.inr (9, some 0))), some (.inl r), none, none] [] M) (zp_rf (d + 8) zm_X10_sky [some (.inr (.inr (10, some 0))), some (.inl r), none]) (zq_inv n xs) := by
  rcases zp_int r with hr | ⟨r, hr, rfl⟩
  · simp (disch := omega) only [ze_X9_sky_0, ze_X10_sky_0, ze_X5_room_0, ze_X5_size_0, ze_X5_isThere_0, ze_X5_has_0, ze_X5_hasRun_0, ze_X5_get_0, ze_X5_set_0, ze_X5_drop_0, ze_X5_takeRun_0, ze_X9_rowAt_0, ze_X9_textAt_0, ze_X9_refuse_0, ze_X10_isRow_0, ze_X10_isText_0, ze_X10_finds_0, ze_X10_tells_0, zp_in_0_5, zp_in_0_3, zp_in_0_7, zp_in_1_5, zp_in_0_9, zp_in_0_2, zp_in_48_57, zp_in_0_12, zp_in_1_4, zp_in_1_9, zp_in_1_2147483646, zp_in_0_8, zp_in_0, ↓zp_dn, ↓zp_hV, ↓zp_hI, ↓zp_hL, ↓zp_hR, ↓zp_hX, zp_eV, zp_eI, zp_eL, zp_eR, zp_eX, zp_eXl, zp_iV, zp_iI, zp_iL, zp_iR, ↓zp_sm, ↓zp_nls, ↓zp_nln, zp_bo0, zp_bo1, zp_okE, zp_ok2E, zp_rfE, ↓reduceIte, if_true, if_false, zp_ofn, zp_sI1, zp_w1, zp_sL1, zp_sR1, zp_l1, zp_leT, zp_leF, zp_ltT, zp_ltF, zp_eqT, zp_eqF, zp_leTl, zp_leFl, zp_ltTl, zp_ltFl, zp_leTr, zp_leFr, zp_ltTr, zp_ltFr, zp_eqTr, zp_eqFr, zp_eqTl, zp_eqFl, zp_eqFll, eq_self, zp_addl, zp_addr, zp_mull, zp_mulr, zp_subr, zp_subl, nI_add, pk_mul, Nat.reduceEqDiff, Nat.reduceLT, Nat.reduceLeDiff, Nat.reduceAdd, Nat.reduceMul, Nat.reduceSub, reduceCtorEq, Int32.reduceLT, Int32.reduceLE, not_true_eq_false, not_false_eq_true, and_true, true_and, and_false, false_and, or_true, true_or, or_false, false_or, zp_n0 hr, zp_n1 hr, zp_n2 hr, zp_n3 hr, zp_n4 hr, zp_n3l hr, zp_n4l hr]; exact hI
  by_cases h6 : r < 4
  case neg => simp (disch := omega) only [ze_X9_sky_0, ze_X10_sky_0, ze_X5_room_0, ze_X5_size_0, ze_X5_isThere_0, ze_X5_has_0, ze_X5_hasRun_0, ze_X5_get_0, ze_X5_set_0, ze_X5_drop_0, ze_X5_takeRun_0, ze_X9_rowAt_0, ze_X9_textAt_0, ze_X9_refuse_0, ze_X10_isRow_0, ze_X10_isText_0, ze_X10_finds_0, ze_X10_tells_0, zp_in_0_5, zp_in_0_3, zp_in_0_7, zp_in_1_5, zp_in_0_9, zp_in_0_2, zp_in_48_57, zp_in_0_12, zp_in_1_4, zp_in_1_9, zp_in_1_2147483646, zp_in_0_8, zp_in_0, ↓zp_dn, ↓zp_hV, ↓zp_hI, ↓zp_hL, ↓zp_hR, ↓zp_hX, zp_eV, zp_eI, zp_eL, zp_eR, zp_eX, zp_eXl, zp_iV, zp_iI, zp_iL, zp_iR, ↓zp_sm, ↓zp_nls, ↓zp_nln, zp_bo0, zp_bo1, zp_okE, zp_ok2E, zp_rfE, ↓reduceIte, if_true, if_false, zp_ofn, zp_sI1, zp_w1, zp_sL1, zp_sR1, zp_l1, zp_leT, zp_leF, zp_ltT, zp_ltF, zp_eqT, zp_eqF, zp_leTl, zp_leFl, zp_ltTl, zp_ltFl, zp_leTr, zp_leFr, zp_ltTr, zp_ltFr, zp_eqTr, zp_eqFr, zp_eqTl, zp_eqFl, zp_eqFll, eq_self, zp_addl, zp_addr, zp_mull, zp_mulr, zp_subr, zp_subl, nI_add, pk_mul, Nat.reduceEqDiff, Nat.reduceLT, Nat.reduceLeDiff, Nat.reduceAdd, Nat.reduceMul, Nat.reduceSub, reduceCtorEq, Int32.reduceLT, Int32.reduceLE, not_true_eq_false, not_false_eq_true, and_true, true_and, and_false, false_and, or_true, true_or, or_false, false_or]; exact hI
  rcases (hI.2.1 r h6).1 with ⟨e1, e2⟩ | ⟨m, hm, e1, e2, e3⟩
  · simp (disch := omega) only [ze_X9_sky_0, ze_X10_sky_0, e1, e2, ze_X5_room_0, ze_X5_size_0, ze_X5_isThere_0, ze_X5_has_0, ze_X5_hasRun_0, ze_X5_get_0, ze_X5_set_0, ze_X5_drop_0, ze_X5_takeRun_0, ze_X9_rowAt_0, ze_X9_textAt_0, ze_X9_refuse_0, ze_X10_isRow_0, ze_X10_isText_0, ze_X10_finds_0, ze_X10_tells_0, zp_in_0_5, zp_in_0_3, zp_in_0_7, zp_in_1_5, zp_in_0_9, zp_in_0_2, zp_in_48_57, zp_in_0_12, zp_in_1_4, zp_in_1_9, zp_in_1_2147483646, zp_in_0_8, zp_in_0, ↓zp_dn, ↓zp_hV, ↓zp_hI, ↓zp_hL, ↓zp_hR, ↓zp_hX, zp_eV, zp_eI, zp_eL, zp_eR, zp_eX, zp_eXl, zp_iV, zp_iI, zp_iL, zp_iR, ↓zp_sm, ↓zp_nls, ↓zp_nln, zp_bo0, zp_bo1, zp_okE, zp_ok2E, zp_rfE, ↓reduceIte, if_true, if_false, zp_ofn, zp_sI1, zp_w1, zp_sL1, zp_sR1, zp_l1, zp_leT, zp_leF, zp_ltT, zp_ltF, zp_eqT, zp_eqF, zp_leTl, zp_leFl, zp_ltTl, zp_ltFl, zp_leTr, zp_leFr, zp_ltTr, zp_ltFr, zp_eqTr, zp_eqFr, zp_eqTl, zp_eqFl, zp_eqFll, eq_self, zp_addl, zp_addr, zp_mull, zp_mulr, zp_subr, zp_subl, nI_add, pk_mul, Nat.reduceEqDiff, Nat.reduceLT, Nat.reduceLeDiff, Nat.reduceAdd, Nat.reduceMul, Nat.reduceSub, reduceCtorEq, Int32.reduceLT, Int32.reduceLE, not_true_eq_false, not_false_eq_true, and_true, true_and, and_false, false_and, or_true, true_or, or_false, false_or]; exact zq_find hI 1 1
  obtain ⟨M1, a1, a2, a3, a4, a5⟩ := zc_read (d + 1) hm (zx_tc0 hI e1) hI.2.2.2.2.2.2.2.2
  rw [ze_X9_sky_0]
  cases hR : (zx_R (zx_g (M.1 12 (6 + r)) m)).1 with
  | false =>
    have nb26 : M1.1 26 0 r = nI m := (a2 26 0 r (by simp [zq_gp])).trans e2
    have nb27 : ∀ j, j < m → M1.1 27 0 (80 * r + j) = M.1 12 (6 + r) j := fun j hj => (a2 27 0 _ (by simp [zq_gp])).trans (e3 j hj).symm
    obtain ⟨M2, b1, b2, b3, b4⟩ := zr_faultOf (d + 2) (f := M.1 12 (6 + r)) h6 hm (hI.2.1 r h6).2 nb26 nb27
    have fin : zq_inv n xs M2 := zq_inv_nb (zq_nb_tr a2 b2) (fun a => by simp only [zq_longs] at a ⊢; rw [b3, a3]; exact a) hI
    rw [hR] at a1 b1
    have n9 : ¬ nI (zx_R (zx_g (M.1 12 (6 + r)) m)).2 = (-9 : Int32) := zg_9 (by have := zx_R_le (zx_g (M.1 12 (6 + r)) m); omega)
    simp (disch := omega) only [e1, a1, Bool.false_eq_true, ze_X5_room_0, ze_X5_size_0, ze_X5_isThere_0, ze_X5_has_0, ze_X5_hasRun_0, ze_X5_get_0, ze_X5_set_0, ze_X5_drop_0, ze_X5_takeRun_0, ze_X9_rowAt_0, ze_X9_textAt_0, ze_X9_refuse_0, ze_X10_isRow_0, ze_X10_isText_0, ze_X10_finds_0, ze_X10_tells_0, zp_in_0_5, zp_in_0_3, zp_in_0_7, zp_in_1_5, zp_in_0_9, zp_in_0_2, zp_in_48_57, zp_in_0_12, zp_in_1_4, zp_in_1_9, zp_in_1_2147483646, zp_in_0_8, zp_in_0, ↓zp_dn, ↓zp_hV, ↓zp_hI, ↓zp_hL, ↓zp_hR, ↓zp_hX, zp_eV, zp_eI, zp_eL, zp_eR, zp_eX, zp_eXl, zp_iV, zp_iI, zp_iL, zp_iR, ↓zp_sm, ↓zp_nls, ↓zp_nln, zp_bo0, zp_bo1, zp_okE, zp_ok2E, zp_rfE, ↓reduceIte, if_true, if_false, zp_ofn, zp_sI1, zp_w1, zp_sL1, zp_sR1, zp_l1, zp_leT, zp_leF, zp_ltT, zp_ltF, zp_eqT, zp_eqF, zp_leTl, zp_leFl, zp_ltTl, zp_ltFl, zp_leTr, zp_leFr, zp_ltTr, zp_ltFr, zp_eqTr, zp_eqFr, zp_eqTl, zp_eqFl, zp_eqFll, eq_self, zp_addl, zp_addr, zp_mull, zp_mulr, zp_subr, zp_subl, nI_add, pk_mul, Nat.reduceEqDiff, Nat.reduceLT, Nat.reduceLeDiff, Nat.reduceAdd, Nat.reduceMul, Nat.reduceSub, reduceCtorEq, Int32.reduceLT, Int32.reduceLE, not_true_eq_false, not_false_eq_true, and_true, true_and, and_false, false_and, or_true, true_or, or_false, false_or]
    rw [ze_X10_sky_0]
    simp (disch := omega) only [nb26, b1, Bool.false_eq_true, if_neg n9, ze_X5_room_0, ze_X5_size_0, ze_X5_isThere_0, ze_X5_has_0, ze_X5_hasRun_0, ze_X5_get_0, ze_X5_set_0, ze_X5_drop_0, ze_X5_takeRun_0, ze_X9_rowAt_0, ze_X9_textAt_0, ze_X9_refuse_0, ze_X10_isRow_0, ze_X10_isText_0, ze_X10_finds_0, ze_X10_tells_0, zp_in_0_5, zp_in_0_3, zp_in_0_7, zp_in_1_5, zp_in_0_9, zp_in_0_2, zp_in_48_57, zp_in_0_12, zp_in_1_4, zp_in_1_9, zp_in_1_2147483646, zp_in_0_8, zp_in_0, ↓zp_dn, ↓zp_hV, ↓zp_hI, ↓zp_hL, ↓zp_hR, ↓zp_hX, zp_eV, zp_eI, zp_eL, zp_eR, zp_eX, zp_eXl, zp_iV, zp_iI, zp_iL, zp_iR, ↓zp_sm, ↓zp_nls, ↓zp_nln, zp_bo0, zp_bo1, zp_okE, zp_ok2E, zp_rfE, ↓reduceIte, if_true, if_false, zp_ofn, zp_sI1, zp_w1, zp_sL1, zp_sR1, zp_l1, zp_leT, zp_leF, zp_ltT, zp_ltF, zp_eqT, zp_eqF, zp_leTl, zp_leFl, zp_ltTl, zp_ltFl, zp_leTr, zp_leFr, zp_ltTr, zp_ltFr, zp_eqTr, zp_eqFr, zp_eqTl, zp_eqFl, zp_eqFll, eq_self, zp_addl, zp_addr, zp_mull, zp_mulr, zp_subr, zp_subl, nI_add, pk_mul, Nat.reduceEqDiff, Nat.reduceLT, Nat.reduceLeDiff, Nat.reduceAdd, Nat.reduceMul, Nat.reduceSub, reduceCtorEq, Int32.reduceLT, Int32.reduceLE, not_true_eq_false, not_false_eq_true, and_true, true_and, and_false, false_and, or_true, true_or, or_false, false_or]
    exact fin
  | true =>
    obtain ⟨o1, o2, o3, o4⟩ := a5 hR
    rw [hR] at a1
    have A7 : (zx_A (zx_g (M.1 12 (6 + r)) m)).1 ≤ 7 ∧ (zx_A (zx_g (M.1 12 (6 + r)) m)).2.1 ≤ 5 := by
      rcases o1 with q | q
      · exact ⟨by omega, by omega⟩
      · exact ⟨q.2.1, q.2.2.2⟩
    obtain ⟨M2, c1, c2, c3, c4⟩ := zc_airTake (d + 6) A7.1 A7.2 o3
    have cK2 : zf_cK M2 4 (zx_K (zx_g (M.1 12 (6 + r)) m)) := by
      obtain ⟨y1, y2, y3, y4, y5⟩ := o4
      refine ⟨(c4 6 4 5 (by omega) (by omega)).trans y1, (c4 6 4 4 (by omega) (by omega)).trans y2, (c4 6 4 6 (by omega) (by omega)).trans y3, fun i hi => ?_, fun k hk => absurd hk (Nat.not_lt_zero k)⟩
      obtain ⟨x1, x2, x3, x4⟩ := y4 i hi
      have k7 : M2.1 7 (4 * 4 + i) = M1.1 7 (4 * 4 + i) := funext fun s => c4 7 _ s (by omega) (by omega)
      exact ⟨(c4 1 _ _ (by omega) (by omega)).trans x1, (c4 1 _ _ (by omega) (by omega)).trans x2, (c4 1 _ _ (by omega) (by omega)).trans x3, by rw [k7]; exact x4⟩
    obtain ⟨M3, t1, t2, t3, t4⟩ := zc_skyTake (d + 4) (M := M2) (k0 := 0) (k1 := 4) (by decide) (by decide) (by decide) o2.1 (Nat.zero_le 40) cK2
    have hand : zi_run (d + 6 + 1) zm_X4_hand 0 [some (.inr (.inr (4, some 0))), some (.inr (.inr (0, some 0))), some (.inr (.inr (6, some 0)))] [] M1 = some (none, M3) := by
      rw [ze_X4_hand_0]
      simp (disch := omega) only [↓zp_dn, ↓zp_hV, ↓zp_hI, ↓zp_hL, ↓zp_hR, ↓zp_hX, zp_eV, zp_eI, zp_eL, zp_eR, zp_eX, zp_eXl, zp_iV, zp_iI, zp_iL, zp_iR, ↓zp_sm, ↓zp_nls, ↓zp_nln, zp_bo0, zp_bo1, zp_okE, zp_ok2E, zp_rfE, ↓reduceIte, if_true, if_false, c1, t1]
    obtain ⟨M4, hM4⟩ : ∃ M4, M4 = zi_sI (zi_sI (zi_sI M3 6 1 3 0) 6 2 3 0) 6 3 3 0 := ⟨_, rfl⟩
    have drop : zi_run (d + 8) zm_X9_sky 56 [some (.inr (.inr (9, some 0))), none, none, some (.inl 0)] [] M3 = some (some (.inl (M4.1 6 0 4)), M4) := by
      rw [hM4]
      have l0 : ¬ (3 : Int32) ≤ 0 := by decide
      have l1 : ¬ (3 : Int32) ≤ 1 := by decide
      have l2 : ¬ (3 : Int32) ≤ 2 := by decide
      have l3 : (3 : Int32) ≤ 3 := by decide
      rw [ze_X9_sky_56, if_neg l0]
      simp (disch := omega) only [↓zp_dn, ↓zp_hV, ↓zp_hI, ↓zp_hL, ↓zp_hR, ↓zp_hX, zp_eV, zp_eI, zp_eL, zp_eR, zp_eX, zp_eXl, zp_iV, zp_iI, zp_iL, zp_iR, ↓zp_sm, ↓zp_nls, ↓zp_nln, zp_bo0, zp_bo1, zp_okE, zp_ok2E, zp_rfE, ↓reduceIte, if_true, if_false, zp_leT, zp_leF, zp_ltT, zp_ltF, zp_eqT, zp_eqF, zp_leTl, zp_leFl, zp_ltTl, zp_ltFl, zp_leTr, zp_leFr, zp_ltTr, zp_ltFr, zp_eqTr, zp_eqFr, zp_eqTl, zp_eqFl, zp_eqFll, eq_self, zp_addl, zp_addr, zp_mull, zp_mulr, zp_subr, zp_subl, nI_add, pk_mul, ze_X6_drop_0]
      rw [ze_X9_sky_56, if_neg (show ¬ (3 : Int32) ≤ 0 + 1 from by decide)]
      simp (disch := omega) only [↓zp_dn, ↓zp_hV, ↓zp_hI, ↓zp_hL, ↓zp_hR, ↓zp_hX, zp_eV, zp_eI, zp_eL, zp_eR, zp_eX, zp_eXl, zp_iV, zp_iI, zp_iL, zp_iR, ↓zp_sm, ↓zp_nls, ↓zp_nln, zp_bo0, zp_bo1, zp_okE, zp_ok2E, zp_rfE, ↓reduceIte, if_true, if_false, zp_leT, zp_leF, zp_ltT, zp_ltF, zp_eqT, zp_eqF, zp_leTl, zp_leFl, zp_ltTl, zp_ltFl, zp_leTr, zp_leFr, zp_ltTr, zp_ltFr, zp_eqTr, zp_eqFr, zp_eqTl, zp_eqFl, zp_eqFll, eq_self, zp_addl, zp_addr, zp_mull, zp_mulr, zp_subr, zp_subl, nI_add, pk_mul, ze_X6_drop_0, Int32.reduceAdd]
      rw [ze_X9_sky_56, if_neg l2]
      simp (disch := omega) only [↓zp_dn, ↓zp_hV, ↓zp_hI, ↓zp_hL, ↓zp_hR, ↓zp_hX, zp_eV, zp_eI, zp_eL, zp_eR, zp_eX, zp_eXl, zp_iV, zp_iI, zp_iL, zp_iR, ↓zp_sm, ↓zp_nls, ↓zp_nln, zp_bo0, zp_bo1, zp_okE, zp_ok2E, zp_rfE, ↓reduceIte, if_true, if_false, zp_leT, zp_leF, zp_ltT, zp_ltF, zp_eqT, zp_eqF, zp_leTl, zp_leFl, zp_ltTl, zp_ltFl, zp_leTr, zp_leFr, zp_ltTr, zp_ltFr, zp_eqTr, zp_eqFr, zp_eqTl, zp_eqFl, zp_eqFll, eq_self, zp_addl, zp_addr, zp_mull, zp_mulr, zp_subr, zp_subl, nI_add, pk_mul, ze_X6_drop_0, Int32.reduceAdd]
      rw [ze_X9_sky_56, if_pos l3]
    have agC : ∀ g, g ≠ 4 → g ≠ 6 → zq_ag g M1 M4 := fun g h4 h6 c k s e => by
      rw [hM4, zp_o1 (fun q => h6 (by rw [← e, q.1, q.2]; simp [zq_gp])), zp_o1 (fun q => h6 (by rw [← e, q.1, q.2]; simp [zq_gp])), zp_o1 (fun q => h6 (by rw [← e, q.1, q.2]; simp [zq_gp]))]
      rw [t2.2 c k s (fun q => h4 (by rw [← e, q.1, q.2]; simp [zq_gp])) (fun q => h4 (by rw [← e, q.1]; exact zq_g1 (by omega) s)) (fun q => h4 (by rw [← e, q.1, q.2]; simp [zq_gp])) (fun q => h4 (by
        rw [← e, q.1]
        rcases q.2 with z | z
        · simp [zq_gp, show k < 4 from by omega]
        · simp [zq_gp, show ¬ k < 4 from by omega, show ¬ k < 16 from by omega, show 100 ≤ k from by omega, show k < 140 from by omega]))]
      exact c4 c k s (fun q => h4 (by rw [← e, q.1, q.2]; simp [zq_gp])) (fun q => h4 (by rw [← e, q.1, q.2]; simp [zq_gp]))
    have nb26 : M4.1 26 0 r = nI m := (agC 2 (by decide) (by decide) 26 0 r (by simp [zq_gp])).trans ((a2 26 0 r (by simp [zq_gp])).trans e2)
    have nb27 : ∀ j, j < m → M4.1 27 0 (80 * r + j) = M.1 12 (6 + r) j := fun j hj => (agC 2 (by decide) (by decide) 27 0 _ (by simp [zq_gp])).trans ((a2 27 0 _ (by simp [zq_gp])).trans (e3 j hj).symm)
    obtain ⟨M5, b1, b2, b3, b4⟩ := zr_faultOf (d + 2) (f := M.1 12 (6 + r)) h6 hm (hI.2.1 r h6).2 nb26 nb27
    rw [hR] at b1
    obtain ⟨M6, s1, s2, s3, s4, s5⟩ := zr_sky39 (d + 8) (M := M5)
    obtain ⟨r1, r2⟩ := b4 hR
    have k64 : ∀ c k j, zq_gp c k j ≠ 0 → c ≠ 28 → c ≠ 30 → M6.1 c k j = M4.1 c k j := fun c k j h x y => (s5 c k j (fun q => x q.1) (fun q => y q.1)).trans (b2 c k j h)
    have agM : ∀ g, g ≠ 0 → g ≠ 4 → g ≠ 6 → zq_ag g M M6 := fun g h0 h4 h6 c k s e => by
      have hne : zq_gp c k s ≠ 0 := by rw [e]; exact h0
      rw [k64 c k s hne (fun q => h4 (by rw [← e, q]; simp [zq_gp])) (fun q => h6 (by rw [← e, q]; simp [zq_gp])), agC g h4 h6 c k s e]
      exact a2 c k s hne
    have k43 : ∀ c k j, ¬ (c = 6 ∧ 1 ≤ k ∧ k ≤ 3) → M4.1 c k j = M3.1 c k j := fun c k j h => by rw [hM4, zp_o1 (by omega), zp_o1 (by omega), zp_o1 (by omega)]
    have k62 : ∀ c k j, (c = 0 ∨ c = 11) → k = 0 → M6.1 c k j = M2.1 c k j := fun c k j hc hk => by
      subst hk
      rw [k64 c 0 j (by rcases hc with q | q <;> (rw [q]; simp [zq_gp])) (by omega) (by omega), k43 c 0 j (by omega)]
      exact t2.2 c 0 j (by omega) (by omega) (by omega) (by omega)
    have hsky : zq_sky M6 (zx_A (zx_g (M.1 12 (6 + r)) m)) (zx_K (zx_g (M.1 12 (6 + r)) m)) := by
      obtain ⟨y1, y2, y3, y4, y5⟩ := t3
      refine ⟨o1, o2, ⟨?_, ?_, fun h c hh hc => ?_⟩, ⟨?_, ?_, ?_, fun i hi => ?_, fun k hk => absurd hk (Nat.not_lt_zero k)⟩, zx_rA_c A7.1 A7.2 s2 r1, zx_rK_c o2.1 rfl s2 r2, fun k hk => Or.inl ⟨?_, s3 k hk⟩⟩
      · rw [k62 0 0 1 (by omega) rfl]; exact c2.1
      · rw [k62 0 0 2 (by omega) rfl]; exact c2.2.1
      · rw [k62 11 0 _ (by omega) rfl]; exact c2.2.2 h c hh hc
      · rw [k64 6 0 5 (by simp [zq_gp]) (by decide) (by decide), k43 6 0 5 (by omega)]; exact y1
      · rw [k64 6 0 4 (by simp [zq_gp]) (by decide) (by decide), k43 6 0 4 (by omega)]; exact y2
      · rw [k64 6 0 6 (by simp [zq_gp]) (by decide) (by decide), k43 6 0 6 (by omega)]; exact y3
      · obtain ⟨x1, x2, x3, x4⟩ := y4 i hi
        have i4 : i < 4 := Nat.lt_of_lt_of_le hi o2.1
        have kk : ∀ s, M6.1 1 (4 * 0 + i) s = M3.1 1 (4 * 0 + i) s := fun s => by
          rw [k64 1 _ s (by rw [zq_g1 (by omega) s]; decide) (by decide) (by decide), k43 1 _ s (by omega)]
        have k7 : M6.1 7 (4 * 0 + i) = M3.1 7 (4 * 0 + i) := funext fun s => by
          rw [k64 7 _ s (by simp [zq_gp, i4]) (by decide) (by decide), k43 7 _ s (by omega)]
        exact ⟨by rw [kk]; exact x1, by rw [kk]; exact x2, by rw [kk]; exact x3, by rw [k7]; exact x4⟩
      · have hk' : k = 0 ∨ k = 1 ∨ k = 2 := by omega
        rcases hk' with q | q | q <;> subst q
        · rw [k64 6 (1 + 0) 3 (by simp [zq_gp]) (by decide) (by decide), hM4]; simp [zp_sI1]
        · rw [k64 6 (1 + 1) 3 (by simp [zq_gp]) (by decide) (by decide), hM4]; simp [zp_sI1]
        · rw [k64 6 (1 + 2) 3 (by simp [zq_gp]) (by decide) (by decide), hM4]; simp [zp_sI1]
    have u6 : M6.2.1 = M.2.1 := by
      rw [s4, b3, ← a3, ← c3, ← t2.1, hM4]; rfl
    have fin : zq_inv n xs M6 := zq_mk2 hI (agM 1 (by decide) (by decide) (by decide)) (agM 2 (by decide) (by decide) (by decide)) (agM 3 (by decide) (by decide) (by decide)) (agM 5 (by decide) (by decide) (by decide)) (fun a => by simp only [zq_longs] at a ⊢; rw [u6]; exact a) hsky
    have ans : M4.1 6 0 4 = M5.1 33 0 3 := by rw [k43 6 0 4 (by omega), r2.2.1]; exact t3.2.1
    simp (disch := omega) only [e1, a1, zp_1n0, hand, ze_X5_room_0, ze_X5_size_0, ze_X5_isThere_0, ze_X5_has_0, ze_X5_hasRun_0, ze_X5_get_0, ze_X5_set_0, ze_X5_drop_0, ze_X5_takeRun_0, ze_X9_rowAt_0, ze_X9_textAt_0, ze_X9_refuse_0, ze_X10_isRow_0, ze_X10_isText_0, ze_X10_finds_0, ze_X10_tells_0, zp_in_0_5, zp_in_0_3, zp_in_0_7, zp_in_1_5, zp_in_0_9, zp_in_0_2, zp_in_48_57, zp_in_0_12, zp_in_1_4, zp_in_1_9, zp_in_1_2147483646, zp_in_0_8, zp_in_0, ↓zp_dn, ↓zp_hV, ↓zp_hI, ↓zp_hL, ↓zp_hR, ↓zp_hX, zp_eV, zp_eI, zp_eL, zp_eR, zp_eX, zp_eXl, zp_iV, zp_iI, zp_iL, zp_iR, ↓zp_sm, ↓zp_nls, ↓zp_nln, zp_bo0, zp_bo1, zp_okE, zp_ok2E, zp_rfE, ↓reduceIte, if_true, if_false, zp_ofn, zp_sI1, zp_w1, zp_sL1, zp_sR1, zp_l1, zp_leT, zp_leF, zp_ltT, zp_ltF, zp_eqT, zp_eqF, zp_leTl, zp_leFl, zp_ltTl, zp_ltFl, zp_leTr, zp_leFr, zp_ltTr, zp_ltFr, zp_eqTr, zp_eqFr, zp_eqTl, zp_eqFl, zp_eqFll, eq_self, zp_addl, zp_addr, zp_mull, zp_mulr, zp_subr, zp_subl, nI_add, pk_mul, Nat.reduceEqDiff, Nat.reduceLT, Nat.reduceLeDiff, Nat.reduceAdd, Nat.reduceMul, Nat.reduceSub, reduceCtorEq, Int32.reduceLT, Int32.reduceLE, not_true_eq_false, not_false_eq_true, and_true, true_and, and_false, false_and, or_true, true_or, or_false, false_or]
    rw [drop, zp_okE, zp_rfE, ze_X10_sky_0]
    simp (disch := omega) only [nb26, b1, ze_X5_room_0, ze_X5_size_0, ze_X5_isThere_0, ze_X5_has_0, ze_X5_hasRun_0, ze_X5_get_0, ze_X5_set_0, ze_X5_drop_0, ze_X5_takeRun_0, ze_X9_rowAt_0, ze_X9_textAt_0, ze_X9_refuse_0, ze_X10_isRow_0, ze_X10_isText_0, ze_X10_finds_0, ze_X10_tells_0, zp_in_0_5, zp_in_0_3, zp_in_0_7, zp_in_1_5, zp_in_0_9, zp_in_0_2, zp_in_48_57, zp_in_0_12, zp_in_1_4, zp_in_1_9, zp_in_1_2147483646, zp_in_0_8, zp_in_0, ↓zp_dn, ↓zp_hV, ↓zp_hI, ↓zp_hL, ↓zp_hR, ↓zp_hX, zp_eV, zp_eI, zp_eL, zp_eR, zp_eX, zp_eXl, zp_iV, zp_iI, zp_iL, zp_iR, ↓zp_sm, ↓zp_nls, ↓zp_nln, zp_bo0, zp_bo1, zp_okE, zp_ok2E, zp_rfE, ↓reduceIte, if_true, if_false, zp_ofn, zp_sI1, zp_w1, zp_sL1, zp_sR1, zp_l1, zp_leT, zp_leF, zp_ltT, zp_ltF, zp_eqT, zp_eqF, zp_leTl, zp_leFl, zp_ltTl, zp_ltFl, zp_leTr, zp_leFr, zp_ltTr, zp_ltFr, zp_eqTr, zp_eqFr, zp_eqTl, zp_eqFl, zp_eqFll, eq_self, zp_addl, zp_addr, zp_mull, zp_mulr, zp_subr, zp_subl, nI_add, pk_mul, Nat.reduceEqDiff, Nat.reduceLT, Nat.reduceLeDiff, Nat.reduceAdd, Nat.reduceMul, Nat.reduceSub, reduceCtorEq, Int32.reduceLT, Int32.reduceLE, not_true_eq_false, not_false_eq_true, and_true, true_and, and_false, false_and, or_true, true_or, or_false, false_or]
    rw [s1, zp_ok2E, ans]
    exact ⟨rfl, fin⟩
