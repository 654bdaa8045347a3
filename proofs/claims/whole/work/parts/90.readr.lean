/-! THE PURE PART: reading a SKY, the reference: the AIR -/
def zx_s (f : Nat → Int32) (n p : Nat) : Int32 := if p < n then f p else -1
def zx_9 (o : Option Nat) : Int32 := match o with | some a => nI a | none => -9
theorem zx_s_ai (f : Nat → Int32) (n p : Nat) : zx_ai (zx_s f n p) = zx_ai (zx_g f n p) := by
  unfold zx_s zx_g; split <;> rfl
theorem zx_s_ki (f : Nat → Int32) (n p : Nat) : zx_ki (zx_s f n p) = zx_ki (zx_g f n p) := by
  unfold zx_s zx_g; split <;> rfl
theorem zx_s_fi (f : Nat → Int32) (n p : Nat) : zx_fi (zx_s f n p) = zx_fi (zx_g f n p) := by
  unfold zx_s zx_g; split <;> rfl
theorem zx_s_e (f : Nat → Int32) (n p : Nat) {x : Int32} (h1 : x ≠ -1) (h2 : x ≠ 1000) : (zx_s f n p = x) = (zx_g f n p = x) := by
  unfold zx_s zx_g
  split
  · rfl
  · exact propext ⟨fun q => absurd q.symm h1, fun q => absurd q.symm h2⟩
theorem zx_s_47 (f : Nat → Int32) (n p : Nat) : (zx_s f n p = 47) = (zx_g f n p = 47) := zx_s_e f n p (by decide) (by decide)
theorem zx_s_61 (f : Nat → Int32) (n p : Nat) : (zx_s f n p = 61) = (zx_g f n p = 61) := zx_s_e f n p (by decide) (by decide)
theorem zx_s_32 (f : Nat → Int32) (n p : Nat) : (zx_s f n p = 32) = (zx_g f n p = 32) := zx_s_e f n p (by decide) (by decide)
theorem zr_airOf (d : Nat) (c : Int32) (M : zi_M) : zi_run d zm_X10_airOf 0 [some (.inl c), none] [] M = some (some (.inl (zx_9 (zx_ai c))), M) := by
  have sy : ∀ x : Int32, (c = x) = (x = c) := fun x => propext eq_comm
  rw [ze_X10_airOf_0, zx_ai]
  simp only [ze_X10_airOf_32, sy]
  by_cases h0 : 46 = c
  · subst h0; rfl
  by_cases h1 : 99 = c
  · subst h1; rfl
  by_cases h2 : 115 = c
  · subst h2; rfl
  by_cases h3 : 103 = c
  · subst h3; rfl
  by_cases h4 : 62 = c
  · subst h4; rfl
  by_cases h5 : 35 = c
  · subst h5; rfl
  simp only [if_neg h0, if_neg h1, if_neg h2, if_neg h3, if_neg h4, if_neg h5, zx_9]
theorem zr_kindOf (d : Nat) (c : Int32) (M : zi_M) : zi_run d zm_X10_kindOf 0 [some (.inl c), none] [] M = some (some (.inl (zx_9 (zx_ki c))), M) := by
  have sy : ∀ x : Int32, (c = x) = (x = c) := fun x => propext eq_comm
  rw [ze_X10_kindOf_0, zx_ki]
  simp only [ze_X10_kindOf_32, sy]
  by_cases h0 : 102 = c
  · subst h0; rfl
  by_cases h1 : 111 = c
  · subst h1; rfl
  by_cases h2 : 98 = c
  · subst h2; rfl
  by_cases h3 : 108 = c
  · subst h3; rfl
  by_cases h4 : 110 = c
  · subst h4; rfl
  by_cases h5 : 97 = c
  · subst h5; rfl
  simp only [if_neg h0, if_neg h1, if_neg h2, if_neg h3, if_neg h4, if_neg h5, zx_9]
/-- the text that the reference reads -/
def zx_tr (M : zi_M) (t n : Nat) (f : Nat → Int32) : Prop := t < 4 ∧ n ≤ 80 ∧ M.1 10 0 13 = nI (80 * t) ∧ M.1 10 0 14 = nI n ∧ ∀ j, j < n → M.1 27 0 (80 * t + j) = f j
def zx_rf (M M' : zi_M) : Prop := M'.2 = M.2 ∧ ∀ c k j, ¬ (c = 33 ∧ k = 0) → ¬ (c = 10 ∧ k = 0 ∧ j = 15) → M'.1 c k j = M.1 c k j
theorem zx_rf_rfl (M : zi_M) : zx_rf M M := ⟨rfl, fun _ _ _ _ _ => rfl⟩
theorem zx_rf_tr {M M1 M2 : zi_M} (h : zx_rf M M1) (h2 : zx_rf M1 M2) : zx_rf M M2 := ⟨h2.1.trans h.1, fun c k j a b => (h2.2 c k j a b).trans (h.2 c k j a b)⟩
theorem zx_rf_nb {M M' : zi_M} (h : zx_rf M M') : zq_nb M M' := fun c k j e => h.2 c k j (fun a => e (by rw [a.1]; simp [zq_gp])) (fun a => e (by rw [a.1, a.2.2]; simp [zq_gp]))
theorem zx_rf_33 {M M1 : zi_M} (h : zx_rf M M1) (s : Nat) (x : Int32) : zx_rf M (zi_sI M1 33 0 s x) := ⟨h.1, fun c k j a b => by rw [zp_o1 a]; exact h.2 c k j a b⟩
theorem zx_rf_15 {M M1 : zi_M} (h : zx_rf M M1) (x : Int32) : zx_rf M (zi_sI M1 10 0 15 x) := ⟨h.1, fun c k j a b => by
  by_cases q : c = 10 ∧ k = 0
  · rw [zp_sI1, if_pos q.1, if_neg (fun z => b ⟨q.1, q.2, z⟩)]; exact h.2 c k j a b
  · rw [zp_o1 q]; exact h.2 c k j a b⟩
theorem zx_tr_rf {M M' : zi_M} {t n : Nat} {f : Nat → Int32} (h : zx_rf M M') (hT : zx_tr M t n f) : zx_tr M' t n f := by
  obtain ⟨a, b, c, e, g⟩ := hT
  exact ⟨a, b, by rw [h.2 10 0 13 (by omega) (by omega)]; exact c, by rw [h.2 10 0 14 (by omega) (by omega)]; exact e, fun j hj => by rw [h.2 27 0 _ (by omega) (by omega)]; exact g j hj⟩
theorem zr_sign (d : Nat) {M : zi_M} {t n : Nat} {f : Nat → Int32} (hT : zx_tr M t n f) {p : Nat} (hp : M.1 10 0 15 = nI p) (hp8 : p ≤ 1000) : zi_run d zm_X10_sign 0 [some (.inr (.inr (10, some 0)))] [] M = some (some (.inl (zx_s f n p)), M) := by
  obtain ⟨a, b, c, e, g⟩ := hT
  rw [ze_X10_sign_0, zx_s]
  by_cases h : p < n
  · simp (disch := omega) only [↓zp_dn, ↓zp_hV, ↓zp_hI, ↓zp_hL, ↓zp_hR, ↓zp_hX, zp_eV, zp_eI, zp_eL, zp_eR, zp_eX, zp_eXl, zp_iV, zp_iI, zp_iL, zp_iR, ↓zp_sm, ↓zp_nls, ↓zp_nln, zp_bo0, zp_bo1, zp_okE, zp_ok2E, zp_rfE, ↓reduceIte, if_true, if_false, zp_leT, zp_leF, zp_ltT, zp_ltF, zp_eqT, zp_eqF, zp_leTl, zp_leFl, zp_ltTl, zp_ltFl, zp_leTr, zp_leFr, zp_ltTr, zp_ltFr, zp_eqTr, zp_eqFr, zp_eqTl, zp_eqFl, zp_eqFll, eq_self, zp_addl, zp_addr, zp_mull, zp_mulr, zp_subr, zp_subl, nI_add, pk_mul, c, e, hp, if_pos h, g p h]
  · simp (disch := omega) only [↓zp_dn, ↓zp_hV, ↓zp_hI, ↓zp_hL, ↓zp_hR, ↓zp_hX, zp_eV, zp_eI, zp_eL, zp_eR, zp_eX, zp_eXl, zp_iV, zp_iI, zp_iL, zp_iR, ↓zp_sm, ↓zp_nls, ↓zp_nln, zp_bo0, zp_bo1, zp_okE, zp_ok2E, zp_rfE, ↓reduceIte, if_true, if_false, zp_leT, zp_leF, zp_ltT, zp_ltF, zp_eqT, zp_eqF, zp_leTl, zp_leFl, zp_ltTl, zp_ltFl, zp_leTr, zp_leFr, zp_ltTr, zp_ltFr, zp_eqTr, zp_eqFr, zp_eqTl, zp_eqFl, zp_eqFll, eq_self, zp_addl, zp_addr, zp_mull, zp_mulr, zp_subr, zp_subl, nI_add, pk_mul, c, e, hp, if_neg h]
/-- a line of AIR -/
theorem zr_line (d : Nat) {t n : Nat} {f : Nat → Int32} {h p w lim : Nat} (hh : h < 5) (hw : w ≤ 7) (hlim : lim = if h = 0 then 7 else w) (hp : p + 7 ≤ 1000) {M0 : zi_M} : ∀ (k c : Nat) (M : zi_M), c + k = lim → zx_tr M t n f → M.1 10 0 15 = nI (p + c) → (h ≠ 0 → M.1 33 0 0 = nI w) → (∀ j, j < c → M.1 33 0 (5 + (7 * h + j)) = zx_o (zx_ai (zx_g f n (p + j)))) → (zx_rf M0 M ∧ ∀ j, ¬ (5 + 7 * h ≤ j ∧ j < 5 + 7 * h + 7) → M.1 33 0 j = M0.1 33 0 j) → ∃ M', zi_run (d + 2) zm_X10_readsAir 15 [some (.inr (.inr (10, some 0))), none, some (.inl (nI h)), some (.inl (nI c)), none] [] M = zi_run (d + 2) zm_X10_readsAir 15 [some (.inr (.inr (10, some 0))), none, some (.inl (nI h)), some (.inl (nI (c + zx_w (zx_g f n) k (p + c)))), none] [] M' ∧ M'.1 10 0 15 = nI (p + (c + zx_w (zx_g f n) k (p + c))) ∧ (∀ j, j < c + zx_w (zx_g f n) k (p + c) → M'.1 33 0 (5 + (7 * h + j)) = zx_o (zx_ai (zx_g f n (p + j)))) ∧ (zx_rf M0 M' ∧ ∀ j, ¬ (5 + 7 * h ≤ j ∧ j < 5 + 7 * h + 7) → M'.1 33 0 j = M0.1 33 0 j) ∧ (c + zx_w (zx_g f n) k (p + c) = lim ∨ zx_ai (zx_g f n (p + (c + zx_w (zx_g f n) k (p + c)))) = none) := by
  have hlim7 : lim ≤ 7 := by rw [hlim]; split <;> omega
  intro k
  induction k with
  | zero =>
    intro c M hk hT hpl h0w hc hf
    exact ⟨M, by rw [zx_w]; rfl, by rw [zx_w]; exact hpl, by rw [zx_w]; exact hc, hf, Or.inl (by rw [zx_w]; omega)⟩
  | succ k ih =>
    intro c M hk hT hpl h0w hc hf
    have sg : ∀ e, zi_run e zm_X10_sign 0 [some (.inr (.inr (10, some 0)))] [] M = _ := fun e => zr_sign e hT hpl (by omega)
    cases ha : zx_ai (zx_g f n (p + c)) with
    | none =>
      have ew : zx_w (zx_g f n) (k + 1) (p + c) = 0 := by rw [zx_w, ha]; rfl
      rw [ew]
      exact ⟨M, rfl, hpl, hc, hf, Or.inr ha⟩
    | some a =>
      have ha6 := zx_ai_lt ha
      have ew : c + zx_w (zx_g f n) (k + 1) (p + c) = c + 1 + zx_w (zx_g f n) k (p + (c + 1)) := by rw [zx_w, ha]; simp only [Option.isSome, if_true]; rw [show p + (c + 1) = p + c + 1 from rfl]; omega
      rw [ew]
      obtain ⟨M', e1, e2, e3, e4, e5⟩ := ih (c + 1) (zi_sI (zi_sI M 33 0 (5 + (7 * h + c)) (nI a)) 10 0 15 (nI (p + (c + 1)))) (by omega) (zx_tr_rf (zx_rf_15 (zx_rf_33 (zx_rf_rfl M) _ _) _) hT) (by simp [zp_sI1]) (fun q => by rw [zp_o1 (by omega), zp_sI1, if_pos rfl, if_neg (by omega)]; exact h0w q) (fun j hj => by
        rw [zp_o1 (by omega), zp_sI1, if_pos rfl]
        by_cases hjc : j = c
        · rw [hjc, if_pos rfl, if_pos rfl, ha]; rfl
        · rw [if_neg (by omega)]; exact hc j (by omega)) ⟨zx_rf_15 (zx_rf_33 hf.1 _ _) _, fun j q => by
        rw [zp_o1 (by omega), zp_sI1, if_pos rfl, if_neg (by omega)]; exact hf.2 j q⟩
      refine ⟨M', ?_, e2, e3, e4, e5⟩
      refine Eq.trans ?_ e1
      have n9 : ¬ nI a = (-9 : Int32) := zg_9 (by omega)
      rw [ze_X10_readsAir_15]
      by_cases h0 : h = 0
      · subst h0
        simp (disch := omega) only [↓zp_dn, ↓zp_hV, ↓zp_hI, ↓zp_hL, ↓zp_hR, ↓zp_hX, zp_eV, zp_eI, zp_eL, zp_eR, zp_eX, zp_eXl, zp_iV, zp_iI, zp_iL, zp_iR, ↓zp_sm, ↓zp_nls, ↓zp_nln, zp_bo0, zp_bo1, zp_okE, zp_ok2E, zp_rfE, ↓reduceIte, if_true, if_false, zp_leT, zp_leF, zp_ltT, zp_ltF, zp_eqT, zp_eqF, zp_leTl, zp_leFl, zp_ltTl, zp_ltFl, zp_leTr, zp_leFr, zp_ltTr, zp_ltFr, zp_eqTr, zp_eqFr, zp_eqTl, zp_eqFl, zp_eqFll, eq_self, zp_addl, zp_addr, zp_mull, zp_mulr, zp_subr, zp_subl, nI_add, pk_mul, sg, zr_airOf, zx_s_ai, ha, zx_9, if_neg n9, ze_X10_readsAir_49, zp_sI1, hpl, Nat.reduceEqDiff, Nat.reduceLT, Nat.reduceLeDiff, Nat.reduceAdd, Nat.reduceMul, Nat.reduceSub, reduceCtorEq, Int32.reduceLT, Int32.reduceLE, not_true_eq_false, not_false_eq_true, and_true, true_and, and_false, false_and, or_true, true_or, or_false, false_or, Nat.add_assoc, Nat.zero_add]
      · have h0w' := h0w h0
        have hlw : lim = w := by rw [hlim, if_neg h0]
        simp (disch := omega) only [↓zp_dn, ↓zp_hV, ↓zp_hI, ↓zp_hL, ↓zp_hR, ↓zp_hX, zp_eV, zp_eI, zp_eL, zp_eR, zp_eX, zp_eXl, zp_iV, zp_iI, zp_iL, zp_iR, ↓zp_sm, ↓zp_nls, ↓zp_nln, zp_bo0, zp_bo1, zp_okE, zp_ok2E, zp_rfE, ↓reduceIte, if_true, if_false, zp_leT, zp_leF, zp_ltT, zp_ltF, zp_eqT, zp_eqF, zp_leTl, zp_leFl, zp_ltTl, zp_ltFl, zp_leTr, zp_leFr, zp_ltTr, zp_ltFr, zp_eqTr, zp_eqFr, zp_eqTl, zp_eqFl, zp_eqFll, eq_self, zp_addl, zp_addr, zp_mull, zp_mulr, zp_subr, zp_subl, nI_add, pk_mul, sg, zr_airOf, zx_s_ai, ha, zx_9, if_neg n9, ze_X10_readsAir_49, zp_sI1, hpl, h0w', Nat.reduceEqDiff, Nat.reduceLT, Nat.reduceLeDiff, Nat.reduceAdd, Nat.reduceMul, Nat.reduceSub, reduceCtorEq, Int32.reduceLT, Int32.reduceLE, not_true_eq_false, not_false_eq_true, and_true, true_and, and_false, false_and, or_true, true_or, or_false, false_or, Nat.add_assoc]
