/-! THE PURE PART: reading a SKY, the reference: all the flyers -/
def zx_E (g : Nat → Int32) (F : Bool × Nat × Nat) : Bool × Nat := if F.1 = true then (if g (zx_sk g (80 - F.2.1) F.2.1) = 1000 then (true, zx_sk g (80 - F.2.1) F.2.1) else (false, zx_sk g (80 - F.2.1) F.2.1)) else (false, F.2.1)
theorem zx_sk_n {g : Nat → Int32} {p : Nat} (h : g p ≠ 32) : zx_sk g (80 - p) p = p := by
  cases e : 80 - p with
  | zero => rfl
  | succ k => rw [zx_sk, if_neg h]
theorem zr_end (d : Nat) {t n : Nat} {f : Nat → Int32} (hb : ∀ j, f j ≠ 1000) {p i : Nat} {M : zi_M} (hp8 : p ≤ 1000) (hT : zx_tr M t n f) (hpl : M.1 10 0 15 = nI p) (hfly : zx_g f n p ≠ 32 → zx_g f n p ≠ 1000 → ∀ e, zi_run (e + 3) zm_X10_readsFlyer 0 [some (.inr (.inr (10, some 0))), none, none, none, none] [] M = some (some (.inl 0), M)) : ∃ M', zi_run (d + 4) zm_X10_reads 63 [some (.inr (.inr (10, some 0))), some (.inl 1)] [] M = some (some (.inl (if (zx_E (zx_g f n) (true, p, i)).1 then 1 else 0)), M') ∧ zx_rf M M' ∧ ((zx_E (zx_g f n) (true, p, i)).1 = false → M'.1 10 0 15 = nI (zx_E (zx_g f n) (true, p, i)).2) ∧ ((zx_E (zx_g f n) (true, p, i)).1 = true → M' = M) := by
  have rs : ∀ e, zi_run e zm_X10_isRest 0 [some (.inr (.inr (10, some 0))), none, none] [] M = _ := fun e => zr_isRest e hT hb hpl hp8
  have sg : ∀ e, zi_run e zm_X10_sign 0 [some (.inr (.inr (10, some 0)))] [] M = _ := fun e => zr_sign e hT hpl hp8
  by_cases hr : zx_g f n (zx_sk (zx_g f n) (80 - p) p) = 1000
  · have eE : zx_E (zx_g f n) (true, p, i) = (true, zx_sk (zx_g f n) (80 - p) p) := by simp only [zx_E, if_pos hr, if_true]
    rw [eE]
    refine ⟨M, ?_, zx_rf_rfl M, fun q => (by cases q), fun _ => rfl⟩
    rw [ze_X10_reads_63]
    simp (disch := omega) only [↓zp_dn, ↓zp_hV, ↓zp_hI, ↓zp_hL, ↓zp_hR, ↓zp_hX, zp_eV, zp_eI, zp_eL, zp_eR, zp_eX, zp_eXl, zp_iV, zp_iI, zp_iL, zp_iR, ↓zp_sm, ↓zp_nls, ↓zp_nln, zp_bo0, zp_bo1, zp_okE, zp_ok2E, zp_rfE, ↓reduceIte, if_true, if_false, zp_leT, zp_leF, zp_ltT, zp_ltF, zp_eqT, zp_eqF, zp_leTl, zp_leFl, zp_ltTl, zp_ltFl, zp_leTr, zp_leFr, zp_ltTr, zp_ltFr, zp_eqTr, zp_eqFr, zp_eqTl, zp_eqFl, zp_eqFll, eq_self, zp_addl, zp_addr, zp_mull, zp_mulr, zp_subr, zp_subl, nI_add, pk_mul, zp_1n0, rs, if_pos hr, ze_X10_reads_91]
  have eE : zx_E (zx_g f n) (true, p, i) = (false, zx_sk (zx_g f n) (80 - p) p) := by simp only [zx_E, if_neg hr, if_true]
  rw [eE]
  by_cases h32 : zx_g f n p = 32
  · obtain ⟨M', e1, e2, e3⟩ := zr_104 (d + 3) (M0 := M) (80 - p) p M rfl hp8 hT hpl (zx_rf_rfl M)
    refine ⟨M', ?_, e2, fun _ => e3, fun q => by cases q⟩
    rw [ze_X10_reads_63]
    simp (disch := omega) only [↓zp_dn, ↓zp_hV, ↓zp_hI, ↓zp_hL, ↓zp_hR, ↓zp_hX, zp_eV, zp_eI, zp_eL, zp_eR, zp_eX, zp_eXl, zp_iV, zp_iI, zp_iL, zp_iR, ↓zp_sm, ↓zp_nls, ↓zp_nln, zp_bo0, zp_bo1, zp_okE, zp_ok2E, zp_rfE, ↓reduceIte, if_true, if_false, zp_leT, zp_leF, zp_ltT, zp_ltF, zp_eqT, zp_eqF, zp_leTl, zp_leFl, zp_ltTl, zp_ltFl, zp_leTr, zp_leFr, zp_ltTr, zp_ltFr, zp_eqTr, zp_eqFr, zp_eqTl, zp_eqFl, zp_eqFll, eq_self, zp_addl, zp_addr, zp_mull, zp_mulr, zp_subr, zp_subl, nI_add, pk_mul, zp_1n0, rs, if_neg hr, sg, zx_s_32, if_pos h32, ze_X10_reads_91, Bool.false_eq_true]
    exact e1
  · have h1000 : zx_g f n p ≠ 1000 := fun q => hr (by rw [zx_sk_n h32]; exact q)
    have fl := hfly h32 h1000
    refine ⟨M, ?_, zx_rf_rfl M, fun _ => by rw [zx_sk_n h32]; exact hpl, fun q => by cases q⟩
    rw [ze_X10_reads_63]
    simp (disch := omega) only [↓zp_dn, ↓zp_hV, ↓zp_hI, ↓zp_hL, ↓zp_hR, ↓zp_hX, zp_eV, zp_eI, zp_eL, zp_eR, zp_eX, zp_eXl, zp_iV, zp_iI, zp_iL, zp_iR, ↓zp_sm, ↓zp_nls, ↓zp_nln, zp_bo0, zp_bo1, zp_okE, zp_ok2E, zp_rfE, ↓reduceIte, if_true, if_false, zp_leT, zp_leF, zp_ltT, zp_ltF, zp_eqT, zp_eqF, zp_leTl, zp_leFl, zp_ltTl, zp_ltFl, zp_leTr, zp_leFr, zp_ltTr, zp_ltFr, zp_eqTr, zp_eqFr, zp_eqTl, zp_eqFl, zp_eqFll, eq_self, zp_addl, zp_addr, zp_mull, zp_mulr, zp_subr, zp_subl, nI_add, pk_mul, zp_1n0, rs, if_neg hr, sg, zx_s_32, if_neg h32, fl, Bool.false_eq_true, ze_X10_reads_91]
    rw [ze_X10_reads_63]
    simp (disch := omega) only [↓zp_dn, ↓zp_hV, ↓zp_hI, ↓zp_hL, ↓zp_hR, ↓zp_hX, zp_eV, zp_eI, zp_eL, zp_eR, zp_eX, zp_eXl, zp_iV, zp_iI, zp_iL, zp_iR, ↓zp_sm, ↓zp_nls, ↓zp_nln, zp_bo0, zp_bo1, zp_okE, zp_ok2E, zp_rfE, ↓reduceIte, if_true, if_false, zp_leT, zp_leF, zp_ltT, zp_ltF, zp_eqT, zp_eqF, zp_leTl, zp_leFl, zp_ltTl, zp_ltFl, zp_leTr, zp_leFr, zp_ltTr, zp_ltFr, zp_eqTr, zp_eqFr, zp_eqTl, zp_eqFl, zp_eqFll, eq_self, zp_addl, zp_addr, zp_mull, zp_mulr, zp_subr, zp_subl, nI_add, pk_mul, ze_X10_reads_91]
theorem zr_flyers (d : Nat) {t n : Nat} {f : Nat → Int32} (hb : ∀ j, f j ≠ 1000) {pf H : Nat} (hpf : pf ≤ 200) (hH : H ≤ 5) {cell : Nat → Int32} {M0 : zi_M} : ∀ (k i p : Nat) (M : zi_M), i + k = 4 → p = pf + 4 * i → zx_tr M t n f → M.1 10 0 15 = nI p → M.1 33 0 1 = nI H → (∀ h, h < H → M.1 33 0 (5 + 7 * h) = cell h) → M.1 33 0 3 = nI i → (∀ j, j < i → zx_fl M (zx_g f n) pf j) → (∀ q, 40 + 9 * i ≤ q → q < 356 → M.1 33 0 q = 0) → (zx_rf M0 M ∧ ∀ q, q < 40 → q ≠ 3 → M.1 33 0 q = M0.1 33 0 q) → ∃ M', zi_run (d + 4) zm_X10_reads 63 [some (.inr (.inr (10, some 0))), some (.inl 1)] [] M = some (some (.inl (if (zx_E (zx_g f n) (zx_F (zx_g f n) H cell k i p)).1 then 1 else 0)), M') ∧ zx_rf M0 M' ∧ ((zx_E (zx_g f n) (zx_F (zx_g f n) H cell k i p)).1 = false → M'.1 10 0 15 = nI (zx_E (zx_g f n) (zx_F (zx_g f n) H cell k i p)).2) ∧ ((zx_E (zx_g f n) (zx_F (zx_g f n) H cell k i p)).1 = true → (∀ q, q < 40 → q ≠ 3 → M'.1 33 0 q = M0.1 33 0 q) ∧ M'.1 33 0 3 = nI (zx_F (zx_g f n) H cell k i p).2.2 ∧ ∀ j, j < (zx_F (zx_g f n) H cell k i p).2.2 → zx_fl M' (zx_g f n) pf j) := by
  intro k
  induction k with
  | zero =>
    intro i p M hk hp hT hpl h1 hcl h3 hfl hz hf
    have sg : ∀ e, zi_run e zm_X10_sign 0 [some (.inr (.inr (10, some 0)))] [] M = _ := fun e => zr_sign e hT hpl (by omega)
    have i4 : M.1 33 0 3 = 4 := by rw [h3, show i = 4 from by omega]; rfl
    rw [zx_F]
    obtain ⟨M', e1, e2, e3, e4⟩ := zr_end d hb (i := i) (show p ≤ 1000 from by omega) hT hpl (fun _ _ e => by
      rw [ze_X10_readsFlyer_0]
      cases hk0 : zx_ki (zx_g f n p) with
      | none => simp (disch := omega) only [↓zp_dn, ↓zp_hV, ↓zp_hI, ↓zp_hL, ↓zp_hR, ↓zp_hX, zp_eV, zp_eI, zp_eL, zp_eR, zp_eX, zp_eXl, zp_iV, zp_iI, zp_iL, zp_iR, ↓zp_sm, ↓zp_nls, ↓zp_nln, zp_bo0, zp_bo1, zp_okE, zp_ok2E, zp_rfE, ↓reduceIte, if_true, if_false, zp_leT, zp_leF, zp_ltT, zp_ltF, zp_eqT, zp_eqF, zp_leTl, zp_leFl, zp_ltTl, zp_ltFl, zp_leTr, zp_leFr, zp_ltTr, zp_ltFr, zp_eqTr, zp_eqFr, zp_eqTl, zp_eqFl, zp_eqFll, eq_self, zp_addl, zp_addr, zp_mull, zp_mulr, zp_subr, zp_subl, nI_add, pk_mul, sg, zr_kindOf, zx_s_ki, hk0, zx_9]
      | some kd =>
        have n9 : ¬ nI kd = (-9 : Int32) := zg_9 (by have := zx_ki_lt hk0; omega)
        simp (disch := omega) only [↓zp_dn, ↓zp_hV, ↓zp_hI, ↓zp_hL, ↓zp_hR, ↓zp_hX, zp_eV, zp_eI, zp_eL, zp_eR, zp_eX, zp_eXl, zp_iV, zp_iI, zp_iL, zp_iR, ↓zp_sm, ↓zp_nls, ↓zp_nln, zp_bo0, zp_bo1, zp_okE, zp_ok2E, zp_rfE, ↓reduceIte, if_true, if_false, zp_leT, zp_leF, zp_ltT, zp_ltF, zp_eqT, zp_eqF, zp_leTl, zp_leFl, zp_ltTl, zp_ltFl, zp_leTr, zp_leFr, zp_ltTr, zp_ltFr, zp_eqTr, zp_eqFr, zp_eqTl, zp_eqFl, zp_eqFll, eq_self, zp_addl, zp_addr, zp_mull, zp_mulr, zp_subr, zp_subl, nI_add, pk_mul, sg, zr_kindOf, zx_s_ki, hk0, zx_9, if_neg n9, i4])
    exact ⟨M', e1, zx_rf_tr hf.1 e2, e3, fun q => by rw [e4 q]; exact ⟨hf.2, h3, hfl⟩⟩
  | succ k ih =>
    intro i p M hk hp hT hpl h1 hcl h3 hfl hz hf
    have sg : ∀ e, zi_run e zm_X10_sign 0 [some (.inr (.inr (10, some 0)))] [] M = _ := fun e => zr_sign e hT hpl (by omega)
    cases hk0 : zx_ki (zx_g f n p) with
    | none =>
      have eF : zx_F (zx_g f n) H cell (k + 1) i p = (true, p, i) := by rw [zx_F, hk0]
      rw [eF]
      obtain ⟨M', e1, e2, e3, e4⟩ := zr_end d hb (i := i) (show p ≤ 1000 from by omega) hT hpl (fun _ _ e => by
        rw [ze_X10_readsFlyer_0]
        simp (disch := omega) only [↓zp_dn, ↓zp_hV, ↓zp_hI, ↓zp_hL, ↓zp_hR, ↓zp_hX, zp_eV, zp_eI, zp_eL, zp_eR, zp_eX, zp_eXl, zp_iV, zp_iI, zp_iL, zp_iR, ↓zp_sm, ↓zp_nls, ↓zp_nln, zp_bo0, zp_bo1, zp_okE, zp_ok2E, zp_rfE, ↓reduceIte, if_true, if_false, zp_leT, zp_leF, zp_ltT, zp_ltF, zp_eqT, zp_eqF, zp_leTl, zp_leFl, zp_ltTl, zp_ltFl, zp_leTr, zp_leFr, zp_ltTr, zp_ltFr, zp_eqTr, zp_eqFr, zp_eqTl, zp_eqFl, zp_eqFll, eq_self, zp_addl, zp_addr, zp_mull, zp_mulr, zp_subr, zp_subl, nI_add, pk_mul, sg, zr_kindOf, zx_s_ki, hk0, zx_9])
      exact ⟨M', e1, zx_rf_tr hf.1 e2, e3, fun q => by rw [e4 q]; exact ⟨hf.2, h3, hfl⟩⟩
    | some kd =>
      have hkd := zx_ki_lt hk0
      have h32 : zx_g f n p ≠ 32 := fun q => by rw [q, show zx_ki 32 = none from rfl] at hk0; cases hk0
      have h1000 : zx_g f n p ≠ 1000 := fun q => by rw [q, show zx_ki 1000 = none from rfl] at hk0; cases hk0
      have n9 : ¬ nI kd = (-9 : Int32) := zg_9 (by omega)
      have rs : ∀ e, zi_run e zm_X10_isRest 0 [some (.inr (.inr (10, some 0))), none, none] [] M = some (some (.inl 0), M) := fun e => by
        rw [zr_isRest e hT hb hpl (by omega), zx_sk_n h32, if_neg h1000]
      have st : ∀ (x : Int32) (N : zi_M), zi_run (d + 3) zm_X10_readsFlyer 0 [some (.inr (.inr (10, some 0))), none, none, none, none] [] M = some (some (.inl x), N) → zi_run (d + 4) zm_X10_reads 63 [some (.inr (.inr (10, some 0))), some (.inl 1)] [] M = zi_run (d + 4) zm_X10_reads 63 [some (.inr (.inr (10, some 0))), some (.inl x)] [] N := fun x N e => by
        rw [ze_X10_reads_63]
        simp (disch := omega) only [↓zp_dn, ↓zp_hV, ↓zp_hI, ↓zp_hL, ↓zp_hR, ↓zp_hX, zp_eV, zp_eI, zp_eL, zp_eR, zp_eX, zp_eXl, zp_iV, zp_iI, zp_iL, zp_iR, ↓zp_sm, ↓zp_nls, ↓zp_nln, zp_bo0, zp_bo1, zp_okE, zp_ok2E, zp_rfE, ↓reduceIte, if_true, if_false, zp_leT, zp_leF, zp_ltT, zp_ltF, zp_eqT, zp_eqF, zp_leTl, zp_leFl, zp_ltTl, zp_ltFl, zp_leTr, zp_leFr, zp_ltTr, zp_ltFr, zp_eqTr, zp_eqFr, zp_eqTl, zp_eqFl, zp_eqFll, eq_self, zp_addl, zp_addr, zp_mull, zp_mulr, zp_subr, zp_subl, nI_add, pk_mul, zp_1n0, rs, sg, zx_s_32, if_neg h32, e]
      have z0 : ∀ N, zi_run (d + 4) zm_X10_reads 63 [some (.inr (.inr (10, some 0))), some (.inl 0)] [] N = some (some (.inl 0), N) := fun N => by
        rw [ze_X10_reads_63]
        simp (disch := omega) only [↓zp_dn, ↓zp_hV, ↓zp_hI, ↓zp_hL, ↓zp_hR, ↓zp_hX, zp_eV, zp_eI, zp_eL, zp_eR, zp_eX, zp_eXl, zp_iV, zp_iI, zp_iL, zp_iR, ↓zp_sm, ↓zp_nls, ↓zp_nln, zp_bo0, zp_bo1, zp_okE, zp_ok2E, zp_rfE, ↓reduceIte, if_true, if_false, zp_leT, zp_leF, zp_ltT, zp_ltF, zp_eqT, zp_eqF, zp_leTl, zp_leFl, zp_ltTl, zp_ltFl, zp_leTr, zp_leFr, zp_ltTr, zp_ltFr, zp_eqTr, zp_eqFr, zp_eqTl, zp_eqFl, zp_eqFll, eq_self, zp_addl, zp_addr, zp_mull, zp_mulr, zp_subr, zp_subl, nI_add, pk_mul, ze_X10_reads_91]
      obtain ⟨A1, hA1⟩ : ∃ A1, A1 = zi_sI (zi_sI M 33 0 (40 + 9 * i) (nI kd)) 10 0 15 (nI (p + 1)) := ⟨_, rfl⟩
      have rA1 : zx_rf M A1 := by rw [hA1]; exact zx_rf_15 (zx_rf_33 (zx_rf_rfl M) _ _) _
      have pA1 : A1.1 10 0 15 = nI (p + 1) := by rw [hA1]; simp [zp_sI1]
      have front : zi_run (d + 3) zm_X10_readsFlyer 0 [some (.inr (.inr (10, some 0))), none, none, none, none] [] M = zi_run (d + 3) zm_X10_readsFlyer 81 [some (.inr (.inr (10, some 0))), some (.inl (nI (40 + 9 * i))), none, some (.inl 0), none] [] A1 := by
        have e41 := zr_f41 (d + 3) (M := M) (show i < 4 from by omega) (fun j hj => hz _ (by omega) (by omega)) hpl (show p ≤ 1000 from by omega) (kd := kd)
        rw [← hA1] at e41
        refine Eq.trans ?_ e41
        rw [ze_X10_readsFlyer_0]
        simp (disch := omega) only [↓zp_dn, ↓zp_hV, ↓zp_hI, ↓zp_hL, ↓zp_hR, ↓zp_hX, zp_eV, zp_eI, zp_eL, zp_eR, zp_eX, zp_eXl, zp_iV, zp_iI, zp_iL, zp_iR, ↓zp_sm, ↓zp_nls, ↓zp_nln, zp_bo0, zp_bo1, zp_okE, zp_ok2E, zp_rfE, ↓reduceIte, if_true, if_false, zp_leT, zp_leF, zp_ltT, zp_ltF, zp_eqT, zp_eqF, zp_leTl, zp_leFl, zp_ltTl, zp_ltFl, zp_leTr, zp_leFr, zp_ltTr, zp_ltFr, zp_eqTr, zp_eqFr, zp_eqTl, zp_eqFl, zp_eqFll, eq_self, zp_addl, zp_addr, zp_mull, zp_mulr, zp_subr, zp_subl, nI_add, pk_mul, sg, zr_kindOf, zx_s_ki, hk0, zx_9, if_neg n9, h3]
      have bad : ∀ (q : Nat) (N : zi_M), zx_F (zx_g f n) H cell (k + 1) i p = (false, q, i) → zx_rf M N → N.1 10 0 15 = nI q → zi_run (d + 3) zm_X10_readsFlyer 81 [some (.inr (.inr (10, some 0))), some (.inl (nI (40 + 9 * i))), none, some (.inl 0), none] [] A1 = some (some (.inl 0), N) → ∃ M', zi_run (d + 4) zm_X10_reads 63 [some (.inr (.inr (10, some 0))), some (.inl 1)] [] M = some (some (.inl (if (zx_E (zx_g f n) (zx_F (zx_g f n) H cell (k + 1) i p)).1 then 1 else 0)), M') ∧ zx_rf M0 M' ∧ ((zx_E (zx_g f n) (zx_F (zx_g f n) H cell (k + 1) i p)).1 = false → M'.1 10 0 15 = nI (zx_E (zx_g f n) (zx_F (zx_g f n) H cell (k + 1) i p)).2) ∧ ((zx_E (zx_g f n) (zx_F (zx_g f n) H cell (k + 1) i p)).1 = true → (∀ q, q < 40 → q ≠ 3 → M'.1 33 0 q = M0.1 33 0 q) ∧ M'.1 33 0 3 = nI (zx_F (zx_g f n) H cell (k + 1) i p).2.2 ∧ ∀ j, j < (zx_F (zx_g f n) H cell (k + 1) i p).2.2 → zx_fl M' (zx_g f n) pf j) := fun q N eF rN pN hrun => by
        have eE : zx_E (zx_g f n) (zx_F (zx_g f n) H cell (k + 1) i p) = (false, q) := by rw [eF]; rfl
        rw [eE]
        refine ⟨N, ?_, zx_rf_tr hf.1 rN, fun _ => pN, fun z => by cases z⟩
        rw [st 0 N (front.trans hrun), z0]; rfl
      cases hf1 : zx_fi (zx_g f n (p + 1)) with
      | none =>
        have fg := fun e => zr_figN e (zx_tr_rf rA1 hT) pA1 (by omega) hf1
        refine bad (p + 1) A1 (by rw [zx_F, hk0]; simp only [hf1]) rA1 pA1 ?_
        rw [ze_X10_readsFlyer_81]
        simp (disch := omega) only [↓zp_dn, ↓zp_hV, ↓zp_hI, ↓zp_hL, ↓zp_hR, ↓zp_hX, zp_eV, zp_eI, zp_eL, zp_eR, zp_eX, zp_eXl, zp_iV, zp_iI, zp_iL, zp_iR, ↓zp_sm, ↓zp_nls, ↓zp_nln, zp_bo0, zp_bo1, zp_okE, zp_ok2E, zp_rfE, ↓reduceIte, if_true, if_false, zp_leT, zp_leF, zp_ltT, zp_ltF, zp_eqT, zp_eqF, zp_leTl, zp_leFl, zp_ltTl, zp_ltFl, zp_leTr, zp_leFr, zp_ltTr, zp_ltFr, zp_eqTr, zp_eqFr, zp_eqTl, zp_eqFl, zp_eqFll, eq_self, zp_addl, zp_addr, zp_mull, zp_mulr, zp_subr, zp_subl, nI_add, pk_mul, fg]
        rfl
      | some a1 =>
      have ha1 := (zx_fi_s hf1).1
      have fg1 := fun e => (zr_figS e (zx_tr_rf rA1 hT) pA1 (by omega) hf1).1
      have sg1 := (zr_figS 0 (zx_tr_rf rA1 hT) pA1 (by omega) hf1).2
      have e48 : ∀ v : Nat, nI (48 + v) - 48 = nI v := fun v => by rw [show (48 : Int32) = nI 48 from rfl, pk_sub (by omega)]; congr 1; omega
      obtain ⟨A2, hA2⟩ : ∃ A2, A2 = zi_sI (zi_sI A1 33 0 (40 + 9 * i + 8) (nI a1)) 10 0 15 (nI (p + 1 + 1)) := ⟨_, rfl⟩
      have rA2 : zx_rf M A2 := by rw [hA2]; exact zx_rf_15 (zx_rf_33 rA1 _ _) _
      have pA2 : A2.1 10 0 15 = nI (p + 2) := by rw [hA2]; simp [zp_sI1]
      have s1 : zi_run (d + 3) zm_X10_readsFlyer 81 [some (.inr (.inr (10, some 0))), some (.inl (nI (40 + 9 * i))), none, some (.inl 0), none] [] A1 = zi_run (d + 3) zm_X10_readsFlyer 81 [some (.inr (.inr (10, some 0))), some (.inl (nI (40 + 9 * i))), none, some (.inl 1), none] [] A2 := by
        have q5 : ∀ x y, (zi_sI A1 33 0 x y).1 10 0 15 = nI (p + 1) := fun x y => by rw [zp_o1 (by omega)]; exact pA1
        rw [ze_X10_readsFlyer_81]
        simp (disch := omega) only [↓zp_dn, ↓zp_hV, ↓zp_hI, ↓zp_hL, ↓zp_hR, ↓zp_hX, zp_eV, zp_eI, zp_eL, zp_eR, zp_eX, zp_eXl, zp_iV, zp_iI, zp_iL, zp_iR, ↓zp_sm, ↓zp_nls, ↓zp_nln, zp_bo0, zp_bo1, zp_okE, zp_ok2E, zp_rfE, ↓reduceIte, if_true, if_false, zp_leT, zp_leF, zp_ltT, zp_ltF, zp_eqT, zp_eqF, zp_leTl, zp_leFl, zp_ltTl, zp_ltFl, zp_leTr, zp_leFr, zp_ltTr, zp_ltFr, zp_eqTr, zp_eqFr, zp_eqTl, zp_eqFl, zp_eqFll, eq_self, zp_addl, zp_addr, zp_mull, zp_mulr, zp_subr, zp_subl, nI_add, pk_mul, fg1, sg1, e48, zp_1n0, ze_X10_readsFlyer_138, ze_X10_readsFlyer_162, pA1, q5, ← hA2]
        rfl
      cases hf2 : zx_fi (zx_g f n (p + 2)) with
      | none =>
        have fg := fun e => zr_figN e (zx_tr_rf rA2 hT) pA2 (by omega) hf2
        refine bad (p + 2) A2 (by rw [zx_F, hk0]; simp only [hf1, hf2]) rA2 pA2 ?_
        rw [s1, ze_X10_readsFlyer_81]
        simp (disch := omega) only [↓zp_dn, ↓zp_hV, ↓zp_hI, ↓zp_hL, ↓zp_hR, ↓zp_hX, zp_eV, zp_eI, zp_eL, zp_eR, zp_eX, zp_eXl, zp_iV, zp_iI, zp_iL, zp_iR, ↓zp_sm, ↓zp_nls, ↓zp_nln, zp_bo0, zp_bo1, zp_okE, zp_ok2E, zp_rfE, ↓reduceIte, if_true, if_false, zp_leT, zp_leF, zp_ltT, zp_ltF, zp_eqT, zp_eqF, zp_leTl, zp_leFl, zp_ltTl, zp_ltFl, zp_leTr, zp_leFr, zp_ltTr, zp_ltFr, zp_eqTr, zp_eqFr, zp_eqTl, zp_eqFl, zp_eqFll, eq_self, zp_addl, zp_addr, zp_mull, zp_mulr, zp_subr, zp_subl, nI_add, pk_mul, fg]
        rfl
      | some a2 =>
      have ha2 := (zx_fi_s hf2).1
      have fg2 := fun e => (zr_figS e (zx_tr_rf rA2 hT) pA2 (by omega) hf2).1
      have sg2 := (zr_figS 0 (zx_tr_rf rA2 hT) pA2 (by omega) hf2).2
      obtain ⟨A3, hA3⟩ : ∃ A3, A3 = zi_sI (zi_sI A2 33 0 (40 + 9 * i + 3) (nI a2)) 10 0 15 (nI (p + 2 + 1)) := ⟨_, rfl⟩
      have rA3 : zx_rf M A3 := by rw [hA3]; exact zx_rf_15 (zx_rf_33 rA2 _ _) _
      have pA3 : A3.1 10 0 15 = nI (p + 3) := by rw [hA3]; simp [zp_sI1]
      have s2 : zi_run (d + 3) zm_X10_readsFlyer 81 [some (.inr (.inr (10, some 0))), some (.inl (nI (40 + 9 * i))), none, some (.inl 1), none] [] A2 = zi_run (d + 3) zm_X10_readsFlyer 81 [some (.inr (.inr (10, some 0))), some (.inl (nI (40 + 9 * i))), none, some (.inl 2), none] [] A3 := by
        have q5 : ∀ x y, (zi_sI A2 33 0 x y).1 10 0 15 = nI (p + 2) := fun x y => by rw [zp_o1 (by omega)]; exact pA2
        have l3 : ¬ (3 : Int32) ≤ 1 := by decide
        have l2 : ¬ (1 : Int32) = 2 := by decide
        rw [ze_X10_readsFlyer_81]
        simp (disch := omega) only [↓zp_dn, ↓zp_hV, ↓zp_hI, ↓zp_hL, ↓zp_hR, ↓zp_hX, zp_eV, zp_eI, zp_eL, zp_eR, zp_eX, zp_eXl, zp_iV, zp_iI, zp_iL, zp_iR, ↓zp_sm, ↓zp_nls, ↓zp_nln, zp_bo0, zp_bo1, zp_okE, zp_ok2E, zp_rfE, ↓reduceIte, if_true, if_false, zp_leT, zp_leF, zp_ltT, zp_ltF, zp_eqT, zp_eqF, zp_leTl, zp_leFl, zp_ltTl, zp_ltFl, zp_leTr, zp_leFr, zp_ltTr, zp_ltFr, zp_eqTr, zp_eqFr, zp_eqTl, zp_eqFl, zp_eqFll, eq_self, zp_addl, zp_addr, zp_mull, zp_mulr, zp_subr, zp_subl, nI_add, pk_mul, fg2, sg2, e48, zp_1n0, if_neg l3, if_neg l2, ze_X10_readsFlyer_138, ze_X10_readsFlyer_162, pA2, q5, ← hA3]
        rfl
      have A33 : ∀ q, q < 40 → A3.1 33 0 q = M.1 33 0 q := fun q hq => by
        rw [hA3, zp_o1 (by omega), zp_sI1, if_pos rfl, if_neg (by omega), hA2, zp_o1 (by omega), zp_sI1, if_pos rfl, if_neg (by omega), hA1, zp_o1 (by omega), zp_sI1, if_pos rfl, if_neg (by omega)]
      have l32 : ¬ (3 : Int32) ≤ 2 := by decide
      cases hf3 : zx_fi (zx_g f n (p + 3)) with
      | none =>
        have fg := fun e => zr_figN e (zx_tr_rf rA3 hT) pA3 (by omega) hf3
        refine bad (p + 3) A3 (by rw [zx_F, hk0]; simp only [hf1, hf2, hf3]) rA3 pA3 ?_
        rw [s1, s2, ze_X10_readsFlyer_81]
        simp (disch := omega) only [↓zp_dn, ↓zp_hV, ↓zp_hI, ↓zp_hL, ↓zp_hR, ↓zp_hX, zp_eV, zp_eI, zp_eL, zp_eR, zp_eX, zp_eXl, zp_iV, zp_iI, zp_iL, zp_iR, ↓zp_sm, ↓zp_nls, ↓zp_nln, zp_bo0, zp_bo1, zp_okE, zp_ok2E, zp_rfE, ↓reduceIte, if_true, if_false, zp_leT, zp_leF, zp_ltT, zp_ltF, zp_eqT, zp_eqF, zp_leTl, zp_leFl, zp_ltTl, zp_ltFl, zp_leTr, zp_leFr, zp_ltTr, zp_ltFr, zp_eqTr, zp_eqFr, zp_eqTl, zp_eqFl, zp_eqFll, eq_self, zp_addl, zp_addr, zp_mull, zp_mulr, zp_subr, zp_subl, nI_add, pk_mul, fg, if_neg l32]
      | some v =>
      have hv9 := (zx_fi_s hf3).1
      have fg3 := fun e => (zr_figS e (zx_tr_rf rA3 hT) pA3 (by omega) hf3).1
      have sg3 := (zr_figS 0 (zx_tr_rf rA3 hT) pA3 (by omega) hf3).2
      have m1 : A3.1 33 0 1 = nI H := (A33 1 (by omega)).trans h1
      by_cases hvH : v < H
      case neg =>
        refine bad (p + 3) A3 (by rw [zx_F, hk0]; simp only [hf1, hf2, hf3]; rw [if_pos (Or.inl (by omega))]) rA3 pA3 ?_
        rw [s1, s2, ze_X10_readsFlyer_81]
        simp (disch := omega) only [↓zp_dn, ↓zp_hV, ↓zp_hI, ↓zp_hL, ↓zp_hR, ↓zp_hX, zp_eV, zp_eI, zp_eL, zp_eR, zp_eX, zp_eXl, zp_iV, zp_iI, zp_iL, zp_iR, ↓zp_sm, ↓zp_nls, ↓zp_nln, zp_bo0, zp_bo1, zp_okE, zp_ok2E, zp_rfE, ↓reduceIte, if_true, if_false, zp_leT, zp_leF, zp_ltT, zp_ltF, zp_eqT, zp_eqF, zp_leTl, zp_leFl, zp_ltTl, zp_ltFl, zp_leTr, zp_leFr, zp_ltTr, zp_ltFr, zp_eqTr, zp_eqFr, zp_eqTl, zp_eqFl, zp_eqFll, eq_self, zp_addl, zp_addr, zp_mull, zp_mulr, zp_subr, zp_subl, nI_add, pk_mul, fg3, sg3, e48, zp_1n0, if_neg l32, m1]
      have mc : A3.1 33 0 (5 + 7 * v) = cell v := (A33 _ (by omega)).trans (hcl v hvH)
      by_cases h5 : cell v = 5
      · refine bad (p + 3) A3 (by rw [zx_F, hk0]; simp only [hf1, hf2, hf3]; rw [if_pos (Or.inr h5)]) rA3 pA3 ?_
        rw [s1, s2, ze_X10_readsFlyer_81]
        simp (disch := omega) only [↓zp_dn, ↓zp_hV, ↓zp_hI, ↓zp_hL, ↓zp_hR, ↓zp_hX, zp_eV, zp_eI, zp_eL, zp_eR, zp_eX, zp_eXl, zp_iV, zp_iI, zp_iL, zp_iR, ↓zp_sm, ↓zp_nls, ↓zp_nln, zp_bo0, zp_bo1, zp_okE, zp_ok2E, zp_rfE, ↓reduceIte, if_true, if_false, zp_leT, zp_leF, zp_ltT, zp_ltF, zp_eqT, zp_eqF, zp_leTl, zp_leFl, zp_ltTl, zp_ltFl, zp_leTr, zp_leFr, zp_ltTr, zp_ltFr, zp_eqTr, zp_eqFr, zp_eqTl, zp_eqFl, zp_eqFll, eq_self, zp_addl, zp_addr, zp_mull, zp_mulr, zp_subr, zp_subl, nI_add, pk_mul, fg3, sg3, e48, zp_1n0, if_neg l32, m1, mc, if_pos h5]
      have eF : zx_F (zx_g f n) H cell (k + 1) i p = zx_F (zx_g f n) H cell k (i + 1) (p + 4) := by
        rw [zx_F, hk0]; simp only [hf1, hf2, hf3]; rw [if_neg (fun z => z.elim (fun z => by omega) h5)]
      rw [eF]
      obtain ⟨A4, hA4⟩ : ∃ A4, A4 = zi_sI (zi_sI (zi_sI A3 33 0 (40 + 9 * i + 2) (nI v)) 10 0 15 (nI (p + 3 + 1))) 33 0 3 (nI (i + 1)) := ⟨_, rfl⟩
      have rA4 : zx_rf M A4 := by rw [hA4]; exact zx_rf_33 (zx_rf_15 (zx_rf_33 rA3 _ _) _) _ _
      have pA4 : A4.1 10 0 15 = nI (p + 4) := by rw [hA4]; simp [zp_sI1]
      have s3 : zi_run (d + 3) zm_X10_readsFlyer 81 [some (.inr (.inr (10, some 0))), some (.inl (nI (40 + 9 * i))), none, some (.inl 2), none] [] A3 = some (some (.inl 1), A4) := by
        have q5 : ∀ x y, (zi_sI A3 33 0 x y).1 10 0 15 = nI (p + 3) := fun x y => by rw [zp_o1 (by omega)]; exact pA3
        have q3 : ∀ y z, (zi_sI (zi_sI A3 33 0 (40 + 9 * i + 2) y) 10 0 15 z).1 33 0 3 = nI i := fun y z => by
          rw [zp_o1 (by omega), zp_sI1, if_pos rfl, if_neg (by omega)]; exact (A33 3 (by omega)).trans h3
        rw [ze_X10_readsFlyer_81]
        simp (disch := omega) only [↓zp_dn, ↓zp_hV, ↓zp_hI, ↓zp_hL, ↓zp_hR, ↓zp_hX, zp_eV, zp_eI, zp_eL, zp_eR, zp_eX, zp_eXl, zp_iV, zp_iI, zp_iL, zp_iR, ↓zp_sm, ↓zp_nls, ↓zp_nln, zp_bo0, zp_bo1, zp_okE, zp_ok2E, zp_rfE, ↓reduceIte, if_true, if_false, zp_leT, zp_leF, zp_ltT, zp_ltF, zp_eqT, zp_eqF, zp_leTl, zp_leFl, zp_ltTl, zp_ltFl, zp_leTr, zp_leFr, zp_ltTr, zp_ltFr, zp_eqTr, zp_eqFr, zp_eqTl, zp_eqFl, zp_eqFll, eq_self, zp_addl, zp_addr, zp_mull, zp_mulr, zp_subr, zp_subl, nI_add, pk_mul, fg3, sg3, e48, zp_1n0, if_neg l32, m1, mc, if_neg h5, ze_X10_readsFlyer_138, ze_X10_readsFlyer_162, pA3, q5, Int32.reduceAdd]
        have l33 : (3 : Int32) ≤ 3 := by decide
        rw [ze_X10_readsFlyer_81, if_pos l33]
        simp (disch := omega) only [↓zp_dn, ↓zp_hV, ↓zp_hI, ↓zp_hL, ↓zp_hR, ↓zp_hX, zp_eV, zp_eI, zp_eL, zp_eR, zp_eX, zp_eXl, zp_iV, zp_iI, zp_iL, zp_iR, ↓zp_sm, ↓zp_nls, ↓zp_nln, zp_bo0, zp_bo1, zp_okE, zp_ok2E, zp_rfE, ↓reduceIte, if_true, if_false, zp_leT, zp_leF, zp_ltT, zp_ltF, zp_eqT, zp_eqF, zp_leTl, zp_leFl, zp_ltTl, zp_ltFl, zp_leTr, zp_leFr, zp_ltTr, zp_ltFr, zp_eqTr, zp_eqFr, zp_eqTl, zp_eqFl, zp_eqFll, eq_self, zp_addl, zp_addr, zp_mull, zp_mulr, zp_subr, zp_subl, nI_add, pk_mul, q3, ← hA4]
      have v33 : ∀ q, A4.1 33 0 q = if q = 3 then nI (i + 1) else if q = 40 + 9 * i + 2 then nI v else if q = 40 + 9 * i + 3 then nI a2 else if q = 40 + 9 * i + 8 then nI a1 else if q = 40 + 9 * i then nI kd else M.1 33 0 q := fun q => by
        rw [hA4, hA3, hA2, hA1]
        simp [zp_sI1]
      have eb : zx_b (zx_g f n) pf i = (nI kd, nI a1, 0, (0, v, nI a2, 0, 0, 0)) := by
        rw [zx_b, ← hp, hk0, hf1, hf2, hf3]; rfl
      obtain ⟨M', g1, g2, g3, g4⟩ := ih (i + 1) (p + 4) A4 (by omega) (by omega) (zx_tr_rf rA4 hT) pA4 (by rw [v33, if_neg (by omega), if_neg (by omega), if_neg (by omega), if_neg (by omega), if_neg (by omega)]; exact h1) (fun h hh => by rw [v33, if_neg (by omega), if_neg (by omega), if_neg (by omega), if_neg (by omega), if_neg (by omega)]; exact hcl h hh) (by rw [v33, if_pos rfl]) (fun j hj => by
        by_cases hji : j = i
        · subst hji
          have zz : ∀ q, q = 1 ∨ q = 4 ∨ q = 5 ∨ q = 6 ∨ q = 7 → A4.1 33 0 (40 + 9 * j + q) = 0 := fun q hq => by
            rw [v33, if_neg (by omega), if_neg (by omega), if_neg (by omega), if_neg (by omega), if_neg (by omega)]; exact hz _ (by omega) (by omega)
          have y2 : A4.1 33 0 (40 + 9 * j + 2) = nI v := by rw [v33, if_neg (by omega), if_pos rfl]
          have y3 : A4.1 33 0 (40 + 9 * j + 3) = nI a2 := by rw [v33, if_neg (by omega), if_neg (by omega), if_pos rfl]
          have y8 : A4.1 33 0 (40 + 9 * j + 8) = nI a1 := by rw [v33, if_neg (by omega), if_neg (by omega), if_neg (by omega), if_pos rfl]
          have y0 : A4.1 33 0 (40 + 9 * j) = nI kd := by rw [v33, if_neg (by omega), if_neg (by omega), if_neg (by omega), if_neg (by omega), if_pos rfl]
          rw [zx_fl, eb]
          exact ⟨y0, y8, zz 6 (by omega), ⟨zz 1 (by omega), y2, y3, zz 4 (by omega), zz 5 (by omega), zz 7 (by omega)⟩⟩
        · exact zx_fl_c (fun q hq => by rw [v33, if_neg (by omega), if_neg (by omega), if_neg (by omega), if_neg (by omega), if_neg (by omega)]) (hfl j (by omega))) (fun q hq hq2 => by rw [v33, if_neg (by omega), if_neg (by omega), if_neg (by omega), if_neg (by omega), if_neg (by omega)]; exact hz q (by omega) hq2) ⟨zx_rf_tr hf.1 rA4, fun q hq h3 => by rw [v33, if_neg h3, if_neg (by omega), if_neg (by omega), if_neg (by omega), if_neg (by omega)]; exact hf.2 q hq h3⟩
      refine ⟨M', ?_, g2, g3, g4⟩
      rw [st 1 A4 (front.trans (s1.trans (s2.trans s3)))]
      exact g1
