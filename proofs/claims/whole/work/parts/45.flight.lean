/-! THE PURE PART, flight: what a BEAT does, over plain numbers; the class and the reference do just that -/
/-- the air, and the flyer on board: kind, wax, letters, sun -/
abbrev zf_E : Type := zf_A × Int32 × Int32 × Int32 × Int32
def zf_at (A : zf_A) (c h : Nat) : Int32 := A.2.2 (7 * h + c)
def zf_col (A : zf_A) (s : zf_S) : Nat := min (s.1 + (if zf_at A s.1 s.2.1 = 4 then 2 else 1)) (A.1 - 1)
abbrev zf_over (A : zf_A) (s : zf_S) : Prop := A.1 ≤ s.1 + 1
abbrev zf_can (A : zf_A) (s : zf_S) (b : Nat) : Prop := s.2.2.2.2.2 = 0 ∧ s.1 + 1 < A.1 ∧ 1 ≤ s.2.1 + b ∧ s.2.1 + b - 1 < A.2.1 ∧ zf_at A (zf_col A s) (s.2.1 + b - 1) ≠ 5
def zf_cost (K l : Int32) (b : Nat) : Int32 := if b = 2 then (if K = 1 then 2 + l + 1 else if K = 4 then 2 + l + 1 else if K = 5 then zi_max 0 (2 + l - 1) else 2 + l) else if b = 1 then (if K = 1 then 0 else if K = 4 then 0 else if K = 3 then 1 + l else if K = 5 then zi_max 0 (1 + l - 1) else 1) else 0
def zf_mv (E : zf_E) (s : zf_S) (b : Nat) : zf_S := (zf_col E.1 s, s.2.1 + b - 1, (if zf_at E.1 s.1 s.2.1 = 3 then s.2.2.1 else s.2.2.1 - zf_cost E.2.1 E.2.2.2.1 b), s.2.2.2.1, s.2.2.2.2.1, s.2.2.2.2.2)
def zf_warm (E : zf_E) (h : Nat) : Int32 := if E.2.1 = 4 then 0 else if E.2.1 = 2 then 2 * zi_max 0 ((nI h + E.2.2.2.2) - 4) else zi_max 0 ((nI h + E.2.2.2.2) - 4)
def zf_heat (E : zf_E) (s : zf_S) : Int32 := if zf_at E.1 s.1 s.2.1 = 1 then zi_max 0 (s.2.2.2.1 - 1) else s.2.2.2.1 + zf_warm E s.2.1
def zf_clog (E : zf_E) (s : zf_S) : Int32 := if s.2.1 = 0 then s.2.2.2.2.1 + 1 else if zf_at E.1 s.1 s.2.1 = 2 then s.2.2.2.2.1 + 1 else zi_max 0 (s.2.2.2.2.1 - 1)
def zf_fell (E : zf_E) (s : zf_S) : Int32 := if 0 ≤ s.2.2.1 then (if zf_heat E s ≤ E.2.2.1 then (if zf_clog E s ≤ 2 then 0 else 3) else 2) else 1
def zf_st (E : zf_E) (s : zf_S) : zf_S := (s.1, s.2.1, s.2.2.1, zf_heat E s, zf_clog E s, zf_fell E s)
def zf_cE (M : zi_M) (E : zf_E) : Prop := zf_cA M 0 E.1 ∧ M.1 2 0 1 = E.2.1 ∧ M.1 2 0 2 = E.2.2.1 ∧ M.1 2 0 3 = E.2.2.2.1 ∧ M.1 2 0 4 = E.2.2.2.2
def zf_rE (M : zi_M) (E : zf_E) : Prop := zf_rA (M.1 28 0) E.1 ∧ M.1 10 0 17 = E.2.1 ∧ M.1 10 0 24 = E.2.2.1 ∧ M.1 10 0 25 = E.2.2.2.1 ∧ M.1 10 0 26 = E.2.2.2.2
def zf_rs (M : zi_M) (s : zf_S) : Prop := zf_is (fun j => M.1 10 0 (18 + j)) s
/-- the air with somebody in it -/
def zf_okE (A : zf_A) : Prop := 2 ≤ A.1 ∧ A.1 ≤ 7 ∧ 1 ≤ A.2.1 ∧ A.2.1 ≤ 5
/-- a place written -/
def zf_wr (o : Nat) (s : zf_S) (f : Nat → Int32) : Nat → Int32 := fun j => if j = o then nI s.1 else if j = o + 1 then nI s.2.1 else if j = o + 2 then s.2.2.1 else if j = o + 3 then s.2.2.2.1 else if j = o + 4 then s.2.2.2.2.1 else if j = o + 5 then s.2.2.2.2.2 else f j
def zp_sp (M : zi_M) (k : Nat) (s : zf_S) : zi_M := zp_w M 7 k (zf_wr 0 s (M.1 7 k))
def zp_rp (M : zi_M) (s : zf_S) : zi_M := zp_w M 10 0 (zf_wr 18 s (M.1 10 0))
theorem zp_six (o j : Nat) : j = o ∨ j = o + 1 ∨ j = o + 2 ∨ j = o + 3 ∨ j = o + 4 ∨ j = o + 5 ∨ (j ≠ o ∧ j ≠ o + 1 ∧ j ≠ o + 2 ∧ j ≠ o + 3 ∧ j ≠ o + 4 ∧ j ≠ o + 5) := by omega
theorem zp_sp1 (M : zi_M) (k : Nat) (s : zf_S) (c k' j : Nat) : (zp_sp M k s).1 c k' j = if c = 7 then (if k' = k then zf_wr 0 s (M.1 7 k) j else M.1 c k' j) else M.1 c k' j := (rfl)
theorem zp_sp2 (M : zi_M) (k : Nat) (s : zf_S) : (zp_sp M k s).2 = M.2 := (rfl)
theorem zp_rp1 (M : zi_M) (s : zf_S) (c k' j : Nat) : (zp_rp M s).1 c k' j = if c = 10 then (if k' = 0 then zf_wr 18 s (M.1 10 0) j else M.1 c k' j) else M.1 c k' j := (rfl)
theorem zp_rp2 (M : zi_M) (s : zf_S) : (zp_rp M s).2 = M.2 := (rfl)
theorem zf_wr_is (o : Nat) (s : zf_S) (f : Nat → Int32) : zf_is (fun j => zf_wr o s f (o + j)) s := by
  simp [zf_is, zf_wr]
theorem zf_wr0 (s : zf_S) (f : Nat → Int32) : zf_wr 0 s f 0 = nI s.1 ∧ zf_wr 0 s f 1 = nI s.2.1 ∧ zf_wr 0 s f 2 = s.2.2.1 ∧ zf_wr 0 s f 3 = s.2.2.2.1 ∧ zf_wr 0 s f 4 = s.2.2.2.2.1 ∧ zf_wr 0 s f 5 = s.2.2.2.2.2 := by simp [zf_wr]
theorem zp_sp_is (M : zi_M) (k : Nat) (s : zf_S) : zf_is ((zp_sp M k s).1 7 k) s := by simp [zf_is, zp_sp1, zf_wr]
theorem zp_rp_is (M : zi_M) (s : zf_S) : zf_rs (zp_rp M s) s := by simp [zf_rs, zf_is, zp_rp1, zf_wr]
theorem zf_is_eq {f : Nat → Int32} {s : zf_S} (h : zf_is f s) (g : Nat → Int32) : zf_wr 0 s g = zf_wr 0 (s.1, s.2.1, f 2, f 3, f 4, f 5) g := by
  obtain ⟨_, _, a, b, c, d⟩ := h
  simp [zf_wr, a, b, c, d]
theorem zf_wr_eq {o : Nat} {s : zf_S} {f g : Nat → Int32} (h0 : g o = nI s.1) (h1 : g (o + 1) = nI s.2.1) (h2 : g (o + 2) = s.2.2.1) (h3 : g (o + 3) = s.2.2.2.1) (h4 : g (o + 4) = s.2.2.2.2.1) (h5 : g (o + 5) = s.2.2.2.2.2) (h : ∀ j, j ≠ o ∧ j ≠ o + 1 ∧ j ≠ o + 2 ∧ j ≠ o + 3 ∧ j ≠ o + 4 ∧ j ≠ o + 5 → g j = f j) (j : Nat) : g j = zf_wr o s f j := by
  rcases zp_six o j with e | e | e | e | e | e | e
  · rw [e, h0]; simp [zf_wr]
  · rw [e, h1]; simp [zf_wr]
  · rw [e, h2]; simp [zf_wr]
  · rw [e, h3]; simp [zf_wr]
  · rw [e, h4]; simp [zf_wr]
  · rw [e, h5]; simp [zf_wr]
  · rw [h j e]; simp [zf_wr, e]
/-- a memory that differs from another in one place (spot) alone -/
theorem zp_sp_eq {M M' : zi_M} {k : Nat} {s : zf_S} (h2 : M'.2 = M.2) (h : ∀ c k' j, ¬ (c = 7 ∧ k' = k) → M'.1 c k' j = M.1 c k' j) (hi : zf_is (M'.1 7 k) s) (hj : ∀ j, 6 ≤ j → M'.1 7 k j = M.1 7 k j) : M' = zp_sp M k s := by
  refine zp_ext (fun c k' j => ?_) (by rw [zp_sp2, h2])
  rw [zp_sp1]
  by_cases h1 : c = 7
  · by_cases h3 : k' = k
    · subst h1; subst h3
      simp only [↓reduceIte]
      obtain ⟨a0, a1, a2, a3, a4, a5⟩ := hi
      exact zf_wr_eq a0 a1 a2 a3 a4 a5 (fun j hj' => hj j (by omega)) j
    · rw [if_pos h1, if_neg h3]; exact h c k' j (fun e => h3 e.2)
  · rw [if_neg h1]; exact h c k' j (fun e => h1 e.1)
theorem zp_rp_eq {M M' : zi_M} {s : zf_S} (h2 : M'.2 = M.2) (h : ∀ c k' j, ¬ (c = 10 ∧ k' = 0) → M'.1 c k' j = M.1 c k' j) (hi : zf_rs M' s) (hj : ∀ j, j < 18 ∨ 24 ≤ j → M'.1 10 0 j = M.1 10 0 j) : M' = zp_rp M s := by
  refine zp_ext (fun c k' j => ?_) (by rw [zp_rp2, h2])
  rw [zp_rp1]
  by_cases h1 : c = 10
  · by_cases h3 : k' = 0
    · subst h1; subst h3
      simp only [↓reduceIte]
      obtain ⟨a0, a1, a2, a3, a4, a5⟩ := hi
      exact zf_wr_eq a0 a1 a2 a3 a4 a5 (fun j hj' => hj j (by omega)) j
    · rw [if_pos h1, if_neg h3]; exact h c k' j (fun e => h3 e.2)
  · rw [if_neg h1]; exact h c k' j (fun e => h1 e.1)
theorem zp_sp_sp (M : zi_M) (k : Nat) (s t : zf_S) : zp_sp (zp_sp M k s) k t = zp_sp M k t := by
  refine zp_sp_eq (by rw [zp_sp2, zp_sp2]) (fun c k' j h => ?_) (zp_sp_is _ _ _) (fun j hj => ?_)
  · have h' : ∀ a b : Int32, (if c = 7 then (if k' = k then a else b) else b) = b := fun a b => by
      by_cases h1 : c = 7
      · by_cases h2 : k' = k
        · exact absurd ⟨h1, h2⟩ h
        · simp [h2]
      · simp [h1]
    rw [zp_sp1, h', zp_sp1, h']
  · have e : ∀ (s : zf_S) (f : Nat → Int32), zf_wr 0 s f j = f j := fun s f => by
      simp only [zf_wr]; rw [if_neg (by omega), if_neg (by omega), if_neg (by omega), if_neg (by omega), if_neg (by omega), if_neg (by omega)]
    simp only [zp_sp1, ↓reduceIte, e]
theorem zp_rp_rp (M : zi_M) (s t : zf_S) : zp_rp (zp_rp M s) t = zp_rp M t := by
  refine zp_rp_eq (by rw [zp_rp2, zp_rp2]) (fun c k' j h => ?_) (zp_rp_is _ _) (fun j hj => ?_)
  · have h' : ∀ a b : Int32, (if c = 10 then (if k' = 0 then a else b) else b) = b := fun a b => by
      by_cases h1 : c = 10
      · by_cases h2 : k' = 0
        · exact absurd ⟨h1, h2⟩ h
        · simp [h2]
      · simp [h1]
    rw [zp_rp1, h', zp_rp1, h']
  · have e : ∀ (s : zf_S) (f : Nat → Int32), zf_wr 18 s f j = f j := fun s f => by
      simp only [zf_wr]; rw [if_neg (by omega), if_neg (by omega), if_neg (by omega), if_neg (by omega), if_neg (by omega), if_neg (by omega)]
    simp only [zp_rp1, ↓reduceIte, e]
theorem zp_rp_id {M : zi_M} {s : zf_S} (h : zf_rs M s) : zp_rp M s = M := (zp_rp_eq rfl (fun _ _ _ _ => rfl) h (fun _ _ => rfl)).symm
theorem zp_minN {a b : Nat} (ha : a < 2 ^ 31) (hb : b < 2 ^ 31) : zi_min (nI a) (nI b) = nI (min a b) := by
  unfold zi_min
  by_cases h : b < a
  · rw [if_pos (nI_lt h ha), Nat.min_eq_right (by omega)]
  · rw [if_neg (nI_nlt (by omega) hb), Nat.min_eq_left (by omega)]
theorem zp_m1 {a : Nat} (h : a = 0) : nI a - 1 = -1 := by rw [h]; decide
theorem zp_m10 : ((-1 : Int32) < 0) = True := eq_true (by decide)
theorem zc_look (d : Nat) {M : zi_M} {A : zf_A} (hA : zf_okE A) (hC : zf_cA M 0 A) {c h : Nat} (hc : c < A.1) (hh : h < A.2.1) : zi_run d zm_X0_look 0 [some (.inr (.inr (0, some 0))), some (.inl (nI c)), some (.inl (nI h)), none] [] M = some (some (.inl (zf_at A c h)), M) := by
  obtain ⟨e1, e2, e3⟩ := hC
  obtain ⟨_, a2, _, a4⟩ := hA
  have e := e3 h c hh hc
  rw [ze_X0_look_0]
  simp (disch := omega) only [e1, e2, ↓zp_dn, ↓zp_hV, ↓zp_hI, ↓zp_hL, ↓zp_hR, ↓zp_hX, zp_eV, zp_eI, zp_eL, zp_eR, zp_eX, zp_eXl, zp_iV, zp_iI, zp_iL, zp_iR, ↓zp_sm, ↓zp_nls, ↓zp_nln, zp_bo0, zp_bo1, zp_okE, zp_ok2E, zp_rfE, ↓reduceIte, if_true, if_false, zp_leT, zp_leF, zp_ltT, zp_ltF, zp_eqT, zp_eqF, zp_leTl, zp_leFl, zp_ltTl, zp_ltFl, zp_leTr, zp_leFr, zp_ltTr, zp_ltFr, zp_eqTr, zp_eqFr, zp_eqTl, zp_eqFl, zp_eqFll, eq_self, zp_addl, zp_addr, zp_mull, zp_mulr, zp_subr, zp_subl, nI_add, pk_mul]
  rw [Nat.mul_comm h 7, e]; rfl
theorem zc_lookF (d : Nat) {M : zi_M} {A : zf_A} (hA : zf_okE A) (hC : zf_cA M 0 A) {c h : Nat} (hc : c < A.1) (hh : A.2.1 ≤ h) (h31 : h < 2 ^ 31) : zi_run d zm_X0_look 0 [some (.inr (.inr (0, some 0))), some (.inl (nI c)), some (.inl (nI h)), none] [] M = some (some (.inl 5), M) := by
  obtain ⟨e1, e2, e3⟩ := hC
  obtain ⟨_, a2, _, a4⟩ := hA
  rw [ze_X0_look_0]
  simp (disch := omega) only [e1, e2, ↓zp_dn, ↓zp_hV, ↓zp_hI, ↓zp_hL, ↓zp_hR, ↓zp_hX, zp_eV, zp_eI, zp_eL, zp_eR, zp_eX, zp_eXl, zp_iV, zp_iI, zp_iL, zp_iR, ↓zp_sm, ↓zp_nls, ↓zp_nln, zp_bo0, zp_bo1, zp_okE, zp_ok2E, zp_rfE, ↓reduceIte, if_true, if_false, zp_leT, zp_leF, zp_ltT, zp_ltF, zp_eqT, zp_eqF, zp_leTl, zp_leFl, zp_ltTl, zp_ltFl, zp_leTr, zp_leFr, zp_ltTr, zp_ltFr, zp_eqTr, zp_eqFr, zp_eqTl, zp_eqFl, zp_eqFll, eq_self, zp_addl, zp_addr, zp_mull, zp_mulr, zp_subr, zp_subl, nI_add, pk_mul]
theorem zc_lookN (d : Nat) {M : zi_M} {A : zf_A} (hA : zf_okE A) (hC : zf_cA M 0 A) {c : Nat} (hc : c < A.1) : zi_run d zm_X0_look 0 [some (.inr (.inr (0, some 0))), some (.inl (nI c)), some (.inl (-1)), none] [] M = some (some (.inl 5), M) := by
  obtain ⟨e1, e2, e3⟩ := hC
  obtain ⟨_, a2, _, a4⟩ := hA
  rw [ze_X0_look_0]
  simp (disch := omega) only [e1, e2, zp_m10, ↓zp_dn, ↓zp_hV, ↓zp_hI, ↓zp_hL, ↓zp_hR, ↓zp_hX, zp_eV, zp_eI, zp_eL, zp_eR, zp_eX, zp_eXl, zp_iV, zp_iI, zp_iL, zp_iR, ↓zp_sm, ↓zp_nls, ↓zp_nln, zp_bo0, zp_bo1, zp_okE, zp_ok2E, zp_rfE, ↓reduceIte, if_true, if_false, zp_leT, zp_leF, zp_ltT, zp_ltF, zp_eqT, zp_eqF, zp_leTl, zp_leFl, zp_ltTl, zp_ltFl, zp_leTr, zp_leFr, zp_ltTr, zp_ltFr, zp_eqTr, zp_eqFr, zp_eqTl, zp_eqFl, zp_eqFll, eq_self, zp_addl, zp_addr, zp_mull, zp_mulr, zp_subr, zp_subl, nI_add, pk_mul]
theorem zc_cost (d : Nat) (M : zi_M) (b : Nat) (hb : b < 3) : zi_run d zm_X2_cost 0 [some (.inr (.inr (2, some 0))), some (.inl (nI b)), none] [] M = some (some (.inl (zf_cost (M.1 2 0 1) (M.1 2 0 3) b)), M) := by
  have hb' : b = 0 ∨ b = 1 ∨ b = 2 := by omega
  generalize hK : M.1 2 0 1 = K
  have z : zi_max 0 (0 - 1) = 0 := by decide
  rcases hb' with e | e | e <;> subst e <;> by_cases k1 : K = 1 <;> by_cases k4 : K = 4 <;> by_cases k3 : K = 3 <;> by_cases k5 : K = 5 <;> simp (disch := omega) only [ze_X2_cost_0, ze_X2_cost_24, ze_X2_cost_41, ze_X2_cost_53, ze_X2_cost_54, ze_X2_cost_70, ze_X2_cost_82, hK, k1, k3, k4, k5, zf_cost, z, ↓zp_dn, ↓zp_hV, ↓zp_hI, ↓zp_hL, ↓zp_hR, ↓zp_hX, zp_eV, zp_eI, zp_eL, zp_eR, zp_eX, zp_eXl, zp_iV, zp_iI, zp_iL, zp_iR, ↓zp_sm, ↓zp_nls, ↓zp_nln, zp_bo0, zp_bo1, zp_okE, zp_ok2E, zp_rfE, ↓reduceIte, if_true, if_false, zp_leT, zp_leF, zp_ltT, zp_ltF, zp_eqT, zp_eqF, zp_leTl, zp_leFl, zp_ltTl, zp_ltFl, zp_leTr, zp_leFr, zp_ltTr, zp_ltFr, zp_eqTr, zp_eqFr, zp_eqTl, zp_eqFl, zp_eqFll, eq_self, zp_addl, zp_addr, zp_mull, zp_mulr, zp_subr, zp_subl, nI_add, pk_mul, Nat.reduceEqDiff, Nat.reduceLT, Nat.reduceLeDiff, Nat.reduceAdd, Nat.reduceMul, Nat.reduceSub, reduceCtorEq, Int32.reduceLT, Int32.reduceLE, not_true_eq_false, not_false_eq_true, and_true, true_and, and_false, false_and, or_true, true_or, or_false, false_or]
