/-! THE PURE PART: reading a SKY, the reference: flyers, the rest -/
theorem zx_fi_c {c : Int32} : (zx_fi c).isSome = true ↔ (48 ≤ c ∧ c ≤ 57) := by
  unfold zx_fi
  by_cases q : 48 ≤ c ∧ c ≤ 57
  · rw [if_pos q]; exact ⟨fun _ => q, fun _ => rfl⟩
  · rw [if_neg q]; exact ⟨fun z => (by cases z), fun z => absurd z q⟩
theorem zr_figN (d : Nat) {M : zi_M} {t n : Nat} {f : Nat → Int32} (hT : zx_tr M t n f) {p : Nat} (hp : M.1 10 0 15 = nI p) (hp8 : p ≤ 1000) (h : zx_fi (zx_g f n p) = none) : zi_run (d + 1) zm_X10_isFigure 0 [some (.inr (.inr (10, some 0)))] [] M = some (some (.inl 0), M) := by
  have sg : ∀ e, zi_run e zm_X10_sign 0 [some (.inr (.inr (10, some 0)))] [] M = _ := fun e => zr_sign e hT hp hp8
  have hn : ¬ (48 ≤ zx_s f n p ∧ zx_s f n p ≤ 57) := fun q => by
    have := zx_fi_c.mpr q
    rw [zx_s_fi, h] at this; cases this
  rw [ze_X10_isFigure_0]
  by_cases q1 : zx_s f n p < 48
  · simp only [↓zp_dn, ↓zp_hV, ↓zp_hI, ↓zp_hL, ↓zp_hR, ↓zp_hX, zp_eV, zp_eI, zp_eL, zp_eR, zp_eX, zp_eXl, zp_iV, zp_iI, zp_iL, zp_iR, ↓zp_sm, ↓zp_nls, ↓zp_nln, zp_bo0, zp_bo1, zp_okE, zp_ok2E, zp_rfE, ↓reduceIte, if_true, if_false, sg, zp_in_48_57, if_pos q1]
  · by_cases q2 : 57 < zx_s f n p
    · simp only [↓zp_dn, ↓zp_hV, ↓zp_hI, ↓zp_hL, ↓zp_hR, ↓zp_hX, zp_eV, zp_eI, zp_eL, zp_eR, zp_eX, zp_eXl, zp_iV, zp_iI, zp_iL, zp_iR, ↓zp_sm, ↓zp_nls, ↓zp_nln, zp_bo0, zp_bo1, zp_okE, zp_ok2E, zp_rfE, ↓reduceIte, if_true, if_false, sg, zp_in_48_57, if_neg q1, if_pos q2]
    · exact absurd ⟨Int32.not_lt.mp q1, Int32.not_lt.mp q2⟩ hn
theorem zr_figS (d : Nat) {M : zi_M} {t n : Nat} {f : Nat → Int32} (hT : zx_tr M t n f) {p : Nat} (hp : M.1 10 0 15 = nI p) (hp8 : p ≤ 1000) {v : Nat} (h : zx_fi (zx_g f n p) = some v) : zi_run (d + 1) zm_X10_isFigure 0 [some (.inr (.inr (10, some 0)))] [] M = some (some (.inl 1), M) ∧ ∀ e, zi_run e zm_X10_sign 0 [some (.inr (.inr (10, some 0)))] [] M = some (some (.inl (nI (48 + v))), M) := by
  have sg : ∀ e, zi_run e zm_X10_sign 0 [some (.inr (.inr (10, some 0)))] [] M = _ := fun e => zr_sign e hT hp hp8
  have h' : zx_fi (zx_s f n p) = some v := by rw [zx_s_fi]; exact h
  obtain ⟨h9, hc⟩ := zx_fi_s h'
  refine ⟨?_, fun e => by rw [sg, hc]⟩
  rw [ze_X10_isFigure_0]
  simp (disch := omega) only [↓zp_dn, ↓zp_hV, ↓zp_hI, ↓zp_hL, ↓zp_hR, ↓zp_hX, zp_eV, zp_eI, zp_eL, zp_eR, zp_eX, zp_eXl, zp_iV, zp_iI, zp_iL, zp_iR, ↓zp_sm, ↓zp_nls, ↓zp_nln, zp_bo0, zp_bo1, zp_okE, zp_ok2E, zp_rfE, ↓reduceIte, if_true, if_false, zp_leT, zp_leF, zp_ltT, zp_ltF, zp_eqT, zp_eqF, zp_leTl, zp_leFl, zp_ltTl, zp_ltFl, zp_leTr, zp_leFr, zp_ltTr, zp_ltFr, zp_eqTr, zp_eqFr, zp_eqTl, zp_eqFl, zp_eqFll, eq_self, zp_addl, zp_addr, zp_mull, zp_mulr, zp_subr, zp_subl, nI_add, pk_mul, sg, zp_in_48_57, hc]
theorem zr_rest0 (d : Nat) {M : zi_M} {t n : Nat} {f : Nat → Int32} (hT : zx_tr M t n f) : ∀ (k p : Nat), n ≤ p + k → p ≤ 1100 → zi_run d zm_X10_isRest 7 [some (.inr (.inr (10, some 0))), some (.inl 0), some (.inl (nI p))] [] M = some (some (.inl 0), M) := by
  obtain ⟨ht, hn8, a1, a2, a3⟩ := hT
  intro k
  induction k with
  | zero =>
    intro p hk hp
    rw [ze_X10_isRest_7]
    simp (disch := omega) only [↓zp_dn, ↓zp_hV, ↓zp_hI, ↓zp_hL, ↓zp_hR, ↓zp_hX, zp_eV, zp_eI, zp_eL, zp_eR, zp_eX, zp_eXl, zp_iV, zp_iI, zp_iL, zp_iR, ↓zp_sm, ↓zp_nls, ↓zp_nln, zp_bo0, zp_bo1, zp_okE, zp_ok2E, zp_rfE, ↓reduceIte, if_true, if_false, zp_leT, zp_leF, zp_ltT, zp_ltF, zp_eqT, zp_eqF, zp_leTl, zp_leFl, zp_ltTl, zp_ltFl, zp_leTr, zp_leFr, zp_ltTr, zp_ltFr, zp_eqTr, zp_eqFr, zp_eqTl, zp_eqFl, zp_eqFll, eq_self, zp_addl, zp_addr, zp_mull, zp_mulr, zp_subr, zp_subl, nI_add, pk_mul, a2]
  | succ k ih =>
    intro p hk hp
    rw [ze_X10_isRest_7]
    by_cases h : n ≤ p
    · simp (disch := omega) only [↓zp_dn, ↓zp_hV, ↓zp_hI, ↓zp_hL, ↓zp_hR, ↓zp_hX, zp_eV, zp_eI, zp_eL, zp_eR, zp_eX, zp_eXl, zp_iV, zp_iI, zp_iL, zp_iR, ↓zp_sm, ↓zp_nls, ↓zp_nln, zp_bo0, zp_bo1, zp_okE, zp_ok2E, zp_rfE, ↓reduceIte, if_true, if_false, zp_leT, zp_leF, zp_ltT, zp_ltF, zp_eqT, zp_eqF, zp_leTl, zp_leFl, zp_ltTl, zp_ltFl, zp_leTr, zp_leFr, zp_ltTr, zp_ltFr, zp_eqTr, zp_eqFr, zp_eqTl, zp_eqFl, zp_eqFll, eq_self, zp_addl, zp_addr, zp_mull, zp_mulr, zp_subr, zp_subl, nI_add, pk_mul, a2]
    · simp (disch := omega) only [↓zp_dn, ↓zp_hV, ↓zp_hI, ↓zp_hL, ↓zp_hR, ↓zp_hX, zp_eV, zp_eI, zp_eL, zp_eR, zp_eX, zp_eXl, zp_iV, zp_iI, zp_iL, zp_iR, ↓zp_sm, ↓zp_nls, ↓zp_nln, zp_bo0, zp_bo1, zp_okE, zp_ok2E, zp_rfE, ↓reduceIte, if_true, if_false, zp_leT, zp_leF, zp_ltT, zp_ltF, zp_eqT, zp_eqF, zp_leTl, zp_leFl, zp_ltTl, zp_ltFl, zp_leTr, zp_leFr, zp_ltTr, zp_ltFr, zp_eqTr, zp_eqFr, zp_eqTl, zp_eqFl, zp_eqFll, eq_self, zp_addl, zp_addr, zp_mull, zp_mulr, zp_subr, zp_subl, nI_add, pk_mul, a2, ze_X10_isRest_39, ze_X10_isRest_40]
      exact ih (p + 1) (by omega) (by omega)
theorem zr_rest (d : Nat) {M : zi_M} {t n : Nat} {f : Nat → Int32} (hT : zx_tr M t n f) (hb : ∀ j, f j ≠ 1000) : ∀ (k p : Nat), k = 80 - p → p ≤ 1000 → zi_run d zm_X10_isRest 7 [some (.inr (.inr (10, some 0))), some (.inl 1), some (.inl (nI p))] [] M = if zx_g f n (zx_sk (zx_g f n) k p) = 1000 then some (some (.inl 1), M) else some (some (.inl 0), M) := by
  have hT' := hT
  obtain ⟨ht, hn8, a1, a2, a3⟩ := hT
  intro k
  induction k with
  | zero =>
    intro p hk hp
    rw [ze_X10_isRest_7, zx_sk, if_pos (show zx_g f n p = 1000 from by rw [zx_g, if_neg (by omega)])]
    simp (disch := omega) only [↓zp_dn, ↓zp_hV, ↓zp_hI, ↓zp_hL, ↓zp_hR, ↓zp_hX, zp_eV, zp_eI, zp_eL, zp_eR, zp_eX, zp_eXl, zp_iV, zp_iI, zp_iL, zp_iR, ↓zp_sm, ↓zp_nls, ↓zp_nln, zp_bo0, zp_bo1, zp_okE, zp_ok2E, zp_rfE, ↓reduceIte, if_true, if_false, zp_leT, zp_leF, zp_ltT, zp_ltF, zp_eqT, zp_eqF, zp_leTl, zp_leFl, zp_ltTl, zp_ltFl, zp_leTr, zp_leFr, zp_ltTr, zp_ltFr, zp_eqTr, zp_eqFr, zp_eqTl, zp_eqFl, zp_eqFll, eq_self, zp_addl, zp_addr, zp_mull, zp_mulr, zp_subr, zp_subl, nI_add, pk_mul, a2]
  | succ k ih =>
    intro p hk hp
    rw [ze_X10_isRest_7, zx_sk]
    by_cases h : p < n
    · have eg : zx_g f n p = f p := by rw [zx_g, if_pos h]
      by_cases h32 : f p = 32
      · rw [if_pos (show zx_g f n p = 32 from eg.trans h32)]
        refine Eq.trans ?_ (ih (p + 1) (by omega) (by omega))
        simp (disch := omega) only [↓zp_dn, ↓zp_hV, ↓zp_hI, ↓zp_hL, ↓zp_hR, ↓zp_hX, zp_eV, zp_eI, zp_eL, zp_eR, zp_eX, zp_eXl, zp_iV, zp_iI, zp_iL, zp_iR, ↓zp_sm, ↓zp_nls, ↓zp_nln, zp_bo0, zp_bo1, zp_okE, zp_ok2E, zp_rfE, ↓reduceIte, if_true, if_false, zp_leT, zp_leF, zp_ltT, zp_ltF, zp_eqT, zp_eqF, zp_leTl, zp_leFl, zp_ltTl, zp_ltFl, zp_leTr, zp_leFr, zp_ltTr, zp_ltFr, zp_eqTr, zp_eqFr, zp_eqTl, zp_eqFl, zp_eqFll, eq_self, zp_addl, zp_addr, zp_mull, zp_mulr, zp_subr, zp_subl, nI_add, pk_mul, a1, a2, a3 p h, h32, zp_1n0, ze_X10_isRest_40]
      · rw [if_neg (fun q => h32 (eg.symm.trans q)), if_neg (fun q => hb p (eg.symm.trans q))]
        refine Eq.trans ?_ (zr_rest0 d hT' n (p + 1) (by omega) (by omega))
        simp (disch := omega) only [↓zp_dn, ↓zp_hV, ↓zp_hI, ↓zp_hL, ↓zp_hR, ↓zp_hX, zp_eV, zp_eI, zp_eL, zp_eR, zp_eX, zp_eXl, zp_iV, zp_iI, zp_iL, zp_iR, ↓zp_sm, ↓zp_nls, ↓zp_nln, zp_bo0, zp_bo1, zp_okE, zp_ok2E, zp_rfE, ↓reduceIte, if_true, if_false, zp_leT, zp_leF, zp_ltT, zp_ltF, zp_eqT, zp_eqF, zp_leTl, zp_leFl, zp_ltTl, zp_ltFl, zp_leTr, zp_leFr, zp_ltTr, zp_ltFr, zp_eqTr, zp_eqFr, zp_eqTl, zp_eqFl, zp_eqFll, eq_self, zp_addl, zp_addr, zp_mull, zp_mulr, zp_subr, zp_subl, nI_add, pk_mul, a1, a2, a3 p h, if_neg h32, zp_1n0, ze_X10_isRest_39, ze_X10_isRest_40]
    · have eg : zx_g f n p = 1000 := by rw [zx_g, if_neg h]
      rw [if_neg (fun q => absurd (eg.symm.trans q) (by decide)), if_pos eg]
      simp (disch := omega) only [↓zp_dn, ↓zp_hV, ↓zp_hI, ↓zp_hL, ↓zp_hR, ↓zp_hX, zp_eV, zp_eI, zp_eL, zp_eR, zp_eX, zp_eXl, zp_iV, zp_iI, zp_iL, zp_iR, ↓zp_sm, ↓zp_nls, ↓zp_nln, zp_bo0, zp_bo1, zp_okE, zp_ok2E, zp_rfE, ↓reduceIte, if_true, if_false, zp_leT, zp_leF, zp_ltT, zp_ltF, zp_eqT, zp_eqF, zp_leTl, zp_leFl, zp_ltTl, zp_ltFl, zp_leTr, zp_leFr, zp_ltTr, zp_ltFr, zp_eqTr, zp_eqFr, zp_eqTl, zp_eqFl, zp_eqFll, eq_self, zp_addl, zp_addr, zp_mull, zp_mulr, zp_subr, zp_subl, nI_add, pk_mul, a2]
theorem zr_isRest (d : Nat) {M : zi_M} {t n : Nat} {f : Nat → Int32} (hT : zx_tr M t n f) (hb : ∀ j, f j ≠ 1000) {p : Nat} (hp : M.1 10 0 15 = nI p) (hp8 : p ≤ 1000) : zi_run d zm_X10_isRest 0 [some (.inr (.inr (10, some 0))), none, none] [] M = if zx_g f n (zx_sk (zx_g f n) (80 - p) p) = 1000 then some (some (.inl 1), M) else some (some (.inl 0), M) := by
  rw [ze_X10_isRest_0, hp]
  exact zr_rest d hT hb (80 - p) p rfl hp8
/-- blanks, then what should not be there -/
theorem zr_104 (d : Nat) {t n : Nat} {f : Nat → Int32} {M0 : zi_M} : ∀ (k p : Nat) (M : zi_M), k = 80 - p → p ≤ 1000 → zx_tr M t n f → M.1 10 0 15 = nI p → zx_rf M0 M → ∃ M', zi_run (d + 1) zm_X10_reads 104 [some (.inr (.inr (10, some 0))), none] [] M = some (some (.inl 0), M') ∧ zx_rf M0 M' ∧ M'.1 10 0 15 = nI (zx_sk (zx_g f n) k p) := by
  intro k
  induction k with
  | zero =>
    intro p M hk hp hT hpl hf
    have sg : ∀ e, zi_run e zm_X10_sign 0 [some (.inr (.inr (10, some 0)))] [] M = _ := fun e => zr_sign e hT hpl hp
    refine ⟨M, ?_, hf, hpl⟩
    have ne : ¬ zx_s f n p = 32 := by rw [zx_s, if_neg (by have := hT.2.1; omega)]; decide
    rw [ze_X10_reads_104]
    simp only [↓zp_dn, ↓zp_hV, ↓zp_hI, ↓zp_hL, ↓zp_hR, ↓zp_hX, zp_eV, zp_eI, zp_eL, zp_eR, zp_eX, zp_eXl, zp_iV, zp_iI, zp_iL, zp_iR, ↓zp_sm, ↓zp_nls, ↓zp_nln, zp_bo0, zp_bo1, zp_okE, zp_ok2E, zp_rfE, ↓reduceIte, if_true, if_false, sg, if_neg ne]
  | succ k ih =>
    intro p M hk hp hT hpl hf
    have sg : ∀ e, zi_run e zm_X10_sign 0 [some (.inr (.inr (10, some 0)))] [] M = _ := fun e => zr_sign e hT hpl hp
    rw [ze_X10_reads_104, zx_sk]
    by_cases h32 : zx_g f n p = 32
    · rw [if_pos h32]
      obtain ⟨M', e1, e2, e3⟩ := ih (p + 1) (zi_sI M 10 0 15 (nI (p + 1))) (by omega) (by omega) (zx_tr_rf (zx_rf_15 (zx_rf_rfl M) _) hT) (by simp [zp_sI1]) (zx_rf_15 hf _)
      refine ⟨M', ?_, e2, e3⟩
      refine Eq.trans ?_ e1
      simp (disch := omega) only [↓zp_dn, ↓zp_hV, ↓zp_hI, ↓zp_hL, ↓zp_hR, ↓zp_hX, zp_eV, zp_eI, zp_eL, zp_eR, zp_eX, zp_eXl, zp_iV, zp_iI, zp_iL, zp_iR, ↓zp_sm, ↓zp_nls, ↓zp_nln, zp_bo0, zp_bo1, zp_okE, zp_ok2E, zp_rfE, ↓reduceIte, if_true, if_false, zp_leT, zp_leF, zp_ltT, zp_ltF, zp_eqT, zp_eqF, zp_leTl, zp_leFl, zp_ltTl, zp_ltFl, zp_leTr, zp_leFr, zp_ltTr, zp_ltFr, zp_eqTr, zp_eqFr, zp_eqTl, zp_eqFl, zp_eqFll, eq_self, zp_addl, zp_addr, zp_mull, zp_mulr, zp_subr, zp_subl, nI_add, pk_mul, sg, zx_s_32, if_pos h32, hpl]
    · rw [if_neg h32]
      refine ⟨M, ?_, hf, hpl⟩
      simp (disch := omega) only [↓zp_dn, ↓zp_hV, ↓zp_hI, ↓zp_hL, ↓zp_hR, ↓zp_hX, zp_eV, zp_eI, zp_eL, zp_eR, zp_eX, zp_eXl, zp_iV, zp_iI, zp_iL, zp_iR, ↓zp_sm, ↓zp_nls, ↓zp_nln, zp_bo0, zp_bo1, zp_okE, zp_ok2E, zp_rfE, ↓reduceIte, if_true, if_false, zp_leT, zp_leF, zp_ltT, zp_ltF, zp_eqT, zp_eqF, zp_leTl, zp_leFl, zp_ltTl, zp_ltFl, zp_leTr, zp_leFr, zp_ltTr, zp_ltFr, zp_eqTr, zp_eqFr, zp_eqTl, zp_eqFl, zp_eqFll, eq_self, zp_addl, zp_addr, zp_mull, zp_mulr, zp_subr, zp_subl, nI_add, pk_mul, sg, zx_s_32, if_neg h32]
theorem zx_sv {M : zi_M} {c k s : Nat} {x : Int32} (h : M.1 c k s = x) : zi_sI M c k s x = M := by
  refine zp_ext (fun c' k' j => ?_) rfl
  rw [zp_sI1]
  by_cases h1 : c' = c
  · by_cases h2 : j = s
    · by_cases h3 : k' = k
      · simp [h1, h2, h3, h]
      · simp [h1, h2, h3]
    · simp [h1, h2]
  · simp [h1]
/-- the zeros before a flyer -/
theorem zr_f41 (d : Nat) {M : zi_M} {i : Nat} (hi : i < 4) (hz : ∀ j, j < 9 → M.1 33 0 (40 + 9 * i + j) = 0) {p : Nat} (hp : M.1 10 0 15 = nI p) (hp8 : p ≤ 1000) {kd : Nat} : zi_run d zm_X10_readsFlyer 41 [some (.inr (.inr (10, some 0))), some (.inl (nI (40 + 9 * i))), some (.inl (nI kd)), some (.inl 0), none] [] M = zi_run d zm_X10_readsFlyer 81 [some (.inr (.inr (10, some 0))), some (.inl (nI (40 + 9 * i))), none, some (.inl 0), none] [] (zi_sI (zi_sI M 33 0 (40 + 9 * i) (nI kd)) 10 0 15 (nI (p + 1))) := by
  refine zp_for (fun j => zi_run d zm_X10_readsFlyer 41 [some (.inr (.inr (10, some 0))), some (.inl (nI (40 + 9 * i))), some (.inl (nI kd)), some (.inl (nI j)), none] [] M) 9 _ ?_ ?_ 0 (Nat.zero_le _)
  · rw [ze_X10_readsFlyer_41]
    have p5 : ∀ x : Int32, (zi_sI M 33 0 (40 + 9 * i) x).1 10 0 15 = nI p := fun x => by rw [zp_o1 (by omega)]; exact hp
    simp (disch := omega) only [↓zp_dn, ↓zp_hV, ↓zp_hI, ↓zp_hL, ↓zp_hR, ↓zp_hX, zp_eV, zp_eI, zp_eL, zp_eR, zp_eX, zp_eXl, zp_iV, zp_iI, zp_iL, zp_iR, ↓zp_sm, ↓zp_nls, ↓zp_nln, zp_bo0, zp_bo1, zp_okE, zp_ok2E, zp_rfE, ↓reduceIte, if_true, if_false, zp_leT, zp_leF, zp_ltT, zp_ltF, zp_eqT, zp_eqF, zp_leTl, zp_leFl, zp_ltTl, zp_ltFl, zp_leTr, zp_leFr, zp_ltTr, zp_ltFr, zp_eqTr, zp_eqFr, zp_eqTl, zp_eqFl, zp_eqFll, eq_self, zp_addl, zp_addr, zp_mull, zp_mulr, zp_subr, zp_subl, nI_add, pk_mul, p5, hp]
  · intro j hj
    have e := zx_sv (hz j hj)
    rw [ze_X10_readsFlyer_41]
    simp (disch := omega) only [↓zp_dn, ↓zp_hV, ↓zp_hI, ↓zp_hL, ↓zp_hR, ↓zp_hX, zp_eV, zp_eI, zp_eL, zp_eR, zp_eX, zp_eXl, zp_iV, zp_iI, zp_iL, zp_iR, ↓zp_sm, ↓zp_nls, ↓zp_nln, zp_bo0, zp_bo1, zp_okE, zp_ok2E, zp_rfE, ↓reduceIte, if_true, if_false, zp_leT, zp_leF, zp_ltT, zp_ltF, zp_eqT, zp_eqF, zp_leTl, zp_leFl, zp_ltTl, zp_ltFl, zp_leTr, zp_leFr, zp_ltTr, zp_ltFr, zp_eqTr, zp_eqFr, zp_eqTl, zp_eqFl, zp_eqFll, eq_self, zp_addl, zp_addr, zp_mull, zp_mulr, zp_subr, zp_subl, nI_add, pk_mul, e]
/-- what stands of flyer j -/
def zx_fl (M : zi_M) (g : Nat → Int32) (pf j : Nat) : Prop := M.1 33 0 (40 + 9 * j) = (zx_b g pf j).1 ∧ M.1 33 0 (40 + 9 * j + 8) = (zx_b g pf j).2.1 ∧ M.1 33 0 (40 + 9 * j + 6) = (zx_b g pf j).2.2.1 ∧ zf_is (fun q => M.1 33 0 (40 + 9 * j + (if q = 5 then 7 else q + 1))) (zx_b g pf j).2.2.2
theorem zx_fl_c {M M' : zi_M} {g : Nat → Int32} {pf j : Nat} (h : ∀ q, q < 9 → M'.1 33 0 (40 + 9 * j + q) = M.1 33 0 (40 + 9 * j + q)) (hf : zx_fl M g pf j) : zx_fl M' g pf j := by
  obtain ⟨a, b, c, ⟨s0, s1, s2, s3, s4, s5⟩⟩ := hf
  exact ⟨(h 0 (by omega)).trans a, (h 8 (by omega)).trans b, (h 6 (by omega)).trans c, ⟨(h 1 (by omega)).trans s0, (h 2 (by omega)).trans s1, (h 3 (by omega)).trans s2, (h 4 (by omega)).trans s3, (h 5 (by omega)).trans s4, (h 7 (by omega)).trans s5⟩⟩
