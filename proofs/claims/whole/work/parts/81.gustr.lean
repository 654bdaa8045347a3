/-! THE PURE PART: GUSTS, the reference -/
def zg_fR (dd : Nat) (M M' : zi_M) : Prop := (∀ c k j, ¬ (c = 10 ∧ 18 ≤ j ∧ j < 24) → ¬ (c = 38 ∧ 7 * dd ≤ j) → ¬ ((c = 39 ∨ c = 40 ∨ c = 43) ∧ dd ≤ j) → M'.1 c k j = M.1 c k j) ∧ (∀ c k j, ¬ ((c = 41 ∨ c = 42) ∧ dd ≤ j) → M'.2.1 c k j = M.2.1 c k j) ∧ M'.2.2 = M.2.2
theorem zg_fR_rfl (dd : Nat) (M : zi_M) : zg_fR dd M M := ⟨fun _ _ _ _ _ _ => rfl, fun _ _ _ _ => rfl, rfl⟩
theorem zg_fR_tr {dd : Nat} {M M1 M2 : zi_M} (h : zg_fR dd M M1) (h2 : zg_fR dd M1 M2) : zg_fR dd M M2 := ⟨fun c k j a b e => (h2.1 c k j a b e).trans (h.1 c k j a b e), fun c k j a => (h2.2.1 c k j a).trans (h.2.1 c k j a), h2.2.2.trans h.2.2⟩
theorem zg_fR_up {dd : Nat} {M M1 : zi_M} (h : zg_fR (dd + 1) M M1) : zg_fR dd M M1 := ⟨fun c k j a b e => h.1 c k j a (fun q => b ⟨q.1, by omega⟩) (fun q => e ⟨q.1, by omega⟩), fun c k j a => h.2.1 c k j (fun q => a ⟨q.1, by omega⟩), h.2.2⟩
theorem zg_fR_I {dd : Nat} {M M1 : zi_M} (h : zg_fR dd M M1) {c s : Nat} (hc : (c = 10 ∧ 18 ≤ s ∧ s < 24) ∨ (c = 38 ∧ 7 * dd ≤ s) ∨ ((c = 39 ∨ c = 40 ∨ c = 43) ∧ dd ≤ s)) (x : Int32) : zg_fR dd M (zi_sI M1 c 0 s x) := ⟨fun c' k j a b e => by
  rw [zp_sI1]
  by_cases h1 : c' = c
  · by_cases h2 : j = s
    · subst h1; subst h2
      rcases hc with q | q | q
      · exact absurd q a
      · exact absurd q b
      · exact absurd q e
    · rw [if_pos h1, if_neg h2]; exact h.1 c' k j a b e
  · rw [if_neg h1]; exact h.1 c' k j a b e, h.2.1, h.2.2⟩
theorem zg_fR_L {dd : Nat} {M M1 : zi_M} (h : zg_fR dd M M1) {c s : Nat} (hc : (c = 41 ∨ c = 42) ∧ dd ≤ s) (x : Int64) : zg_fR dd M (zi_sL M1 c 0 s x) := ⟨h.1, fun c' k j a => by
  rw [zp_sL2]
  by_cases h1 : c' = c
  · by_cases h2 : j = s
    · subst h1; subst h2; exact absurd hc a
    · rw [if_pos h1, if_neg h2]; exact h.2.1 c' k j a
  · rw [if_neg h1]; exact h.2.1 c' k j a, h.2.2⟩
theorem zg_fR_rp {dd : Nat} {M M1 : zi_M} (h : zg_fR dd M M1) (s : zf_S) : zg_fR dd M (zp_rp M1 s) := ⟨fun c k j a b e => by
  rw [zp_rp1]
  by_cases h1 : c = 10
  · rw [if_pos h1]
    by_cases h2 : k = 0
    · have hj : ¬ (18 ≤ j ∧ j < 24) := fun q => a ⟨h1, q⟩
      subst h1; subst h2
      rw [if_pos rfl]
      simp only [zf_wr]
      rw [if_neg (by omega), if_neg (by omega), if_neg (by omega), if_neg (by omega), if_neg (by omega), if_neg (by omega)]
      exact h.1 10 0 j a b e
    · rw [if_neg h2]; exact h.1 c k j a b e
  · rw [if_neg h1]; exact h.1 c k j a b e, h.2.1, h.2.2⟩
theorem zf_rE_g {dd : Nat} {M M' : zi_M} {E : zf_E} (h : zg_fR dd M M') (hE : zf_rE M E) : zf_rE M' E := by
  obtain ⟨hC, f1, f2, f3, f4⟩ := hE
  have e : M'.1 28 0 = M.1 28 0 := funext fun j => h.1 28 0 j (by omega) (by omega) (by omega)
  exact ⟨by rw [e]; exact hC, by rw [h.1 10 0 17 (by omega) (by omega) (by omega), f1], by rw [h.1 10 0 24 (by omega) (by omega) (by omega), f2], by rw [h.1 10 0 25 (by omega) (by omega) (by omega), f3], by rw [h.1 10 0 26 (by omega) (by omega) (by omega), f4]⟩
/-- which BEATS one tries -/
def zg_rc (M : zi_M) (x2 : Int32) (ch : Nat → List Nat) : Prop := (x2 = -9 ∧ ch = fun _ => [0, 1, 2]) ∨ ∃ r m, r < 6 ∧ m ≤ 40 ∧ x2 = nI r ∧ M.1 24 0 r = nI m ∧ (∀ j, j < m → zj_P (M.1 25 0 (40 * r + j))) ∧ ch = fun d => if d < m then [zj_b (M.1 25 0 (40 * r + d))] else []
theorem zg_rc_g {dd : Nat} {M M' : zi_M} {x2 : Int32} {ch : Nat → List Nat} (h : zg_fR dd M M') (hc : zg_rc M x2 ch) : zg_rc M' x2 ch := by
  rcases hc with ⟨a, b⟩ | ⟨r, m, a1, a2, a3, a4, a5, a6⟩
  · exact Or.inl ⟨a, b⟩
  · have e25 : ∀ j, M'.1 25 0 j = M.1 25 0 j := fun j => h.1 25 0 j (by omega) (by omega) (by omega)
    exact Or.inr ⟨r, m, a1, a2, a3, by rw [h.1 24 0 r (by omega) (by omega) (by omega)]; exact a4, fun j hj => by rw [e25]; exact a5 j hj, by rw [a6]; funext d; rw [e25]⟩
/-- level dd of the pile -/
def zg_lv (M : zi_M) (dd : Nat) (s : zf_S) (ph b : Nat) (B : Nat) (P : Int32) : Prop := zf_is (fun j => M.1 38 0 (7 * dd + j)) s ∧ M.1 40 0 dd = nI ph ∧ M.1 39 0 dd = nI b ∧ M.2.1 42 0 dd = lN B ∧ M.1 43 0 dd = P
theorem zg_lv_g {dd : Nat} {M M' : zi_M} {s : zf_S} {ph b B : Nat} {P : Int32} (h : zg_fR (dd + 1) M M') (hl : zg_lv M dd s ph b B P) : zg_lv M' dd s ph b B P := by
  obtain ⟨⟨a0, a1, a2, a3, a4, a5⟩, l2, l3, l4, l5⟩ := hl
  have e : ∀ j, j < 7 → M'.1 38 0 (7 * dd + j) = M.1 38 0 (7 * dd + j) := fun j hj => h.1 38 0 _ (by omega) (by omega) (by omega)
  exact ⟨⟨(e 0 (by omega)).trans a0, (e 1 (by omega)).trans a1, (e 2 (by omega)).trans a2, (e 3 (by omega)).trans a3, (e 4 (by omega)).trans a4, (e 5 (by omega)).trans a5⟩, by rw [h.1 40 0 dd (by omega) (by omega) (by omega)]; exact l2, by rw [h.1 39 0 dd (by omega) (by omega) (by omega)]; exact l3, by rw [h.2.1 42 0 dd (by omega)]; exact l4, by rw [h.1 43 0 dd (by omega) (by omega) (by omega)]; exact l5⟩
theorem zr_stands (d : Nat) {M : zi_M} {dd : Nat} (hd : dd < 9) {s : zf_S} (h : zf_is (fun j => M.1 38 0 (7 * dd + j)) s) : zi_run d zm_X10_stands 0 [some (.inr (.inr (10, some 0))), some (.inl (nI dd))] [] M = some (none, zp_rp M s) := by
  obtain ⟨a0, a1, a2, a3, a4, a5⟩ := h
  have a0' : M.1 38 0 (7 * dd) = nI s.1 := a0
  rw [ze_X10_stands_0]
  simp (disch := omega) only [↓zp_dn, ↓zp_hV, ↓zp_hI, ↓zp_hL, ↓zp_hR, ↓zp_hX, zp_eV, zp_eI, zp_eL, zp_eR, zp_eX, zp_eXl, zp_iV, zp_iI, zp_iL, zp_iR, ↓zp_sm, ↓zp_nls, ↓zp_nln, zp_bo0, zp_bo1, zp_okE, zp_ok2E, zp_rfE, ↓reduceIte, if_true, if_false, zp_leT, zp_leF, zp_ltT, zp_ltF, zp_eqT, zp_eqF, zp_leTl, zp_leFl, zp_ltTl, zp_ltFl, zp_leTr, zp_leFr, zp_ltTr, zp_ltFr, zp_eqTr, zp_eqFr, zp_eqTl, zp_eqFl, zp_eqFll, eq_self, zp_addl, zp_addr, zp_mull, zp_mulr, zp_subr, zp_subl, nI_add, pk_mul, a0', a1, a2, a3, a4, a5]
  congr 2
  refine zp_rp_eq rfl (fun c k' j h => ?_) ?_ (fun j hj => ?_)
  · rw [zp_o1 h, zp_o1 h, zp_o1 h, zp_o1 h, zp_o1 h, zp_o1 h]
  · simp [zf_rs, zf_is, zp_sI1]
  · rw [zp_o2 (by omega), zp_o2 (by omega), zp_o2 (by omega), zp_o2 (by omega), zp_o2 (by omega), zp_o2 (by omega)]
def zg_li (M : zi_M) (dd : Nat) (t : zf_S) : zi_M := zi_sI (zi_sI (zi_sI (zi_sI (zi_sI (zi_sI (zi_sI M 38 0 (7 * dd) (nI t.1)) 38 0 (7 * dd + 1) (nI t.2.1)) 38 0 (7 * dd + 2) t.2.2.1) 38 0 (7 * dd + 3) t.2.2.2.1) 38 0 (7 * dd + 4) t.2.2.2.2.1) 38 0 (7 * dd + 5) t.2.2.2.2.2) 40 0 dd 0
theorem zr_lies (d : Nat) {M : zi_M} {dd : Nat} (hd : dd < 9) {t : zf_S} (h : zf_rs M t) : zi_run d zm_X10_lies 0 [some (.inr (.inr (10, some 0))), some (.inl (nI dd))] [] M = some (none, zg_li M dd t) := by
  obtain ⟨a0, a1, a2, a3, a4, a5⟩ := h
  simp only [Nat.reduceEqDiff, Nat.reduceLT, Nat.reduceLeDiff, Nat.reduceAdd, Nat.reduceMul, Nat.reduceSub, reduceCtorEq, Int32.reduceLT, Int32.reduceLE, not_true_eq_false, not_false_eq_true, and_true, true_and, and_false, false_and, or_true, true_or, or_false, false_or] at a0 a1 a2 a3 a4 a5
  rw [ze_X10_lies_0]
  simp (disch := omega) only [↓zp_dn, ↓zp_hV, ↓zp_hI, ↓zp_hL, ↓zp_hR, ↓zp_hX, zp_eV, zp_eI, zp_eL, zp_eR, zp_eX, zp_eXl, zp_iV, zp_iI, zp_iL, zp_iR, ↓zp_sm, ↓zp_nls, ↓zp_nln, zp_bo0, zp_bo1, zp_okE, zp_ok2E, zp_rfE, ↓reduceIte, if_true, if_false, zp_leT, zp_leF, zp_ltT, zp_ltF, zp_eqT, zp_eqF, zp_leTl, zp_leFl, zp_ltTl, zp_ltFl, zp_leTr, zp_leFr, zp_ltTr, zp_ltFr, zp_eqTr, zp_eqFr, zp_eqTl, zp_eqFl, zp_eqFll, eq_self, zp_addl, zp_addr, zp_mull, zp_mulr, zp_subr, zp_subl, nI_add, pk_mul, a0, a1, a2, a3, a4, a5]
  rfl
theorem zg_li_fR {dd : Nat} {M M1 : zi_M} (h : zg_fR dd M M1) (t : zf_S) : zg_fR dd M (zg_li M1 dd t) := zg_fR_I (zg_fR_I (zg_fR_I (zg_fR_I (zg_fR_I (zg_fR_I (zg_fR_I h (by omega) _) (by omega) _) (by omega) _) (by omega) _) (by omega) _) (by omega) _) (by omega) _
theorem zg_li_is (M : zi_M) (dd : Nat) (t : zf_S) : zf_is (fun j => (zg_li M dd t).1 38 0 (7 * dd + j)) t ∧ (zg_li M dd t).1 40 0 dd = 0 := by
  refine ⟨⟨?_, ?_, ?_, ?_, ?_, ?_⟩, ?_⟩ <;> simp [zg_li, zp_sI1]
theorem zr_gust (d : Nat) {M : zi_M} {A : zf_A} (hA : zf_okE A) (hRA : zf_rA (M.1 28 0) A) {t : zf_S} (h18 : M.1 10 0 18 = nI t.1) (h19 : M.1 10 0 19 = nI t.2.1) (h1 : t.1 < A.1) (h2 : t.2.1 < A.2.1) : zi_run (d + 2) zm_X10_mayGust 0 [some (.inr (.inr (10, some 0)))] [] M = if zg_gu A t then some (some (.inl 1), M) else some (some (.inl 0), M) := by
  have a4 := hA.2.2.2
  rw [ze_X10_mayGust_0]
  by_cases ho : zf_over A t
  · rw [if_neg (fun q : zg_gu A t => q.1 ho)]
    simp (disch := omega) only [↓zp_dn, ↓zp_hV, ↓zp_hI, ↓zp_hL, ↓zp_hR, ↓zp_hX, zp_eV, zp_eI, zp_eL, zp_eR, zp_eX, zp_eXl, zp_iV, zp_iI, zp_iL, zp_iR, ↓zp_sm, ↓zp_nls, ↓zp_nln, zp_bo0, zp_bo1, zp_okE, zp_ok2E, zp_rfE, ↓reduceIte, if_true, if_false, zp_leT, zp_leF, zp_ltT, zp_ltF, zp_eqT, zp_eqF, zp_leTl, zp_leFl, zp_ltTl, zp_ltFl, zp_leTr, zp_leFr, zp_ltTr, zp_ltFr, zp_eqTr, zp_eqFr, zp_eqTl, zp_eqFl, zp_eqFll, eq_self, zp_addl, zp_addr, zp_mull, zp_mulr, zp_subr, zp_subl, nI_add, pk_mul, zr_isOver _ hA hRA h18 h1, if_pos ho, zp_1n0]
  · by_cases hz : t.2.1 = 0
    · rw [if_neg (fun q : zg_gu A t => by have := q.2.1; omega)]
      simp (disch := omega) only [↓zp_dn, ↓zp_hV, ↓zp_hI, ↓zp_hL, ↓zp_hR, ↓zp_hX, zp_eV, zp_eI, zp_eL, zp_eR, zp_eX, zp_eXl, zp_iV, zp_iI, zp_iL, zp_iR, ↓zp_sm, ↓zp_nls, ↓zp_nln, zp_bo0, zp_bo1, zp_okE, zp_ok2E, zp_rfE, ↓reduceIte, if_true, if_false, zp_leT, zp_leF, zp_ltT, zp_ltF, zp_eqT, zp_eqF, zp_leTl, zp_leFl, zp_ltTl, zp_ltFl, zp_leTr, zp_leFr, zp_ltTr, zp_ltFr, zp_eqTr, zp_eqFr, zp_eqTl, zp_eqFl, zp_eqFll, eq_self, zp_addl, zp_addr, zp_mull, zp_mulr, zp_subr, zp_subl, nI_add, pk_mul, zr_isOver _ hA hRA h18 h1, if_neg ho, h19]
    · have es : nI t.2.1 - 1 = nI (t.2.1 - 1) := pk_sub (b := 1) (by omega)
      by_cases h5 : zf_at A t.1 (t.2.1 - 1) = 5
      · rw [if_neg (fun q : zg_gu A t => q.2.2 h5)]
        simp (disch := omega) only [↓zp_dn, ↓zp_hV, ↓zp_hI, ↓zp_hL, ↓zp_hR, ↓zp_hX, zp_eV, zp_eI, zp_eL, zp_eR, zp_eX, zp_eXl, zp_iV, zp_iI, zp_iL, zp_iR, ↓zp_sm, ↓zp_nls, ↓zp_nln, zp_bo0, zp_bo1, zp_okE, zp_ok2E, zp_rfE, ↓reduceIte, if_true, if_false, zp_leT, zp_leF, zp_ltT, zp_ltF, zp_eqT, zp_eqF, zp_leTl, zp_leFl, zp_ltTl, zp_ltFl, zp_leTr, zp_leFr, zp_ltTr, zp_ltFr, zp_eqTr, zp_eqFr, zp_eqTl, zp_eqFl, zp_eqFll, eq_self, zp_addl, zp_addr, zp_mull, zp_mulr, zp_subr, zp_subl, nI_add, pk_mul, zr_isOver _ hA hRA h18 h1, if_neg ho, h19, h18, es, zr_airAt _ hA hRA h1 (show t.2.1 - 1 < A.2.1 from by omega), if_pos h5]
      · rw [if_pos (show zg_gu A t from ⟨ho, by omega, h5⟩)]
        simp (disch := omega) only [↓zp_dn, ↓zp_hV, ↓zp_hI, ↓zp_hL, ↓zp_hR, ↓zp_hX, zp_eV, zp_eI, zp_eL, zp_eR, zp_eX, zp_eXl, zp_iV, zp_iI, zp_iL, zp_iR, ↓zp_sm, ↓zp_nls, ↓zp_nln, zp_bo0, zp_bo1, zp_okE, zp_ok2E, zp_rfE, ↓reduceIte, if_true, if_false, zp_leT, zp_leF, zp_ltT, zp_ltF, zp_eqT, zp_eqF, zp_leTl, zp_leFl, zp_ltTl, zp_ltFl, zp_leTr, zp_leFr, zp_ltTr, zp_ltFr, zp_eqTr, zp_eqFr, zp_eqTl, zp_eqFl, zp_eqFll, eq_self, zp_addl, zp_addr, zp_mull, zp_mulr, zp_subr, zp_subl, nI_add, pk_mul, zr_isOver _ hA hRA h18 h1, if_neg ho, h19, h18, es, zr_airAt _ hA hRA h1 (show t.2.1 - 1 < A.2.1 from by omega), if_neg h5]
theorem zr_twelves (d : Nat) (M : zi_M) {n : Nat} (hn : n ≤ 8) : zi_run d zm_X10_twelves 0 [some (.inl (nI n)), none, none, none] [] M = some (some (.inr (.inl (lN (12 ^ n)))), M) := by
  rw [ze_X10_twelves_0]
  refine zp_for (fun i => zi_run d zm_X10_twelves 4 [some (.inl (nI n)), some (.inr (.inl (lN (12 ^ i)))), none, some (.inl (nI i))] [] M) n _ ?_ ?_ 0 (Nat.zero_le _)
  · rw [ze_X10_twelves_4]
    simp (disch := omega) only [↓zp_dn, ↓zp_hV, ↓zp_hI, ↓zp_hL, ↓zp_hR, ↓zp_hX, zp_eV, zp_eI, zp_eL, zp_eR, zp_eX, zp_eXl, zp_iV, zp_iI, zp_iL, zp_iR, ↓zp_sm, ↓zp_nls, ↓zp_nln, zp_bo0, zp_bo1, zp_okE, zp_ok2E, zp_rfE, ↓reduceIte, if_true, if_false, zp_leT, zp_leF, zp_ltT, zp_ltF, zp_eqT, zp_eqF, zp_leTl, zp_leFl, zp_ltTl, zp_ltFl, zp_leTr, zp_leFr, zp_ltTr, zp_ltFr, zp_eqTr, zp_eqFr, zp_eqTl, zp_eqFl, zp_eqFll, eq_self, zp_addl, zp_addr, zp_mull, zp_mulr, zp_subr, zp_subl, nI_add, pk_mul]
  · intro i hi
    have e : lN (12 ^ i) * 12 = lN (12 ^ (i + 1)) := by rw [show (12 : Int64) = lN 12 from rfl, lN_mul, Nat.pow_succ]
    rw [ze_X10_twelves_4]
    simp (disch := omega) only [↓zp_dn, ↓zp_hV, ↓zp_hI, ↓zp_hL, ↓zp_hR, ↓zp_hX, zp_eV, zp_eI, zp_eL, zp_eR, zp_eX, zp_eXl, zp_iV, zp_iI, zp_iL, zp_iR, ↓zp_sm, ↓zp_nls, ↓zp_nln, zp_bo0, zp_bo1, zp_okE, zp_ok2E, zp_rfE, ↓reduceIte, if_true, if_false, zp_leT, zp_leF, zp_ltT, zp_ltF, zp_eqT, zp_eqF, zp_leTl, zp_leFl, zp_ltTl, zp_ltFl, zp_leTr, zp_leFr, zp_ltTr, zp_ltFr, zp_eqTr, zp_eqFr, zp_eqTl, zp_eqFl, zp_eqFll, eq_self, zp_addl, zp_addr, zp_mull, zp_mulr, zp_subr, zp_subl, nI_add, pk_mul, e]
noncomputable abbrev zg_run (d : Nat) (x2 : Int32) (p : Nat) (x4 : Int32) (y : Int64) (M : zi_M) : zi_O := zi_run (d + 4) zm_X10_chances 16 [some (.inr (.inr (10, some 0))), none, some (.inl x2), some (.inl (nI p)), some (.inl x4), some (.inr (.inl y)), none, none, none] [] M
/-- phase 1, no BEAT left -/
theorem zr_g1e (d : Nat) {M : zi_M} {dd : Nat} (hd : dd < 9) {s : zf_S} {B : Nat} {P x2 : Int32} (p : Nat) (y : Int64) (hl : zg_lv M dd s 1 3 B P) : zg_run d x2 p (nI dd) y M = zg_run d x2 p (nI dd - 1) (lN B) (zp_rp M s) := by
  obtain ⟨l1, l2, l3, l4, l5⟩ := hl
  have l2' : (zp_rp M s).1 40 0 dd = 1 := by simp [zp_rp1, l2]; rfl
  have l3' : (zp_rp M s).1 39 0 dd = 3 := by simp [zp_rp1, l3]; rfl
  have l4' : (zp_rp M s).2.1 42 0 dd = lN B := l4
  have em : nI dd + (-1) = nI dd - 1 := by rw [Int32.sub_eq_add_neg]
  show zi_run (d + 4) _ _ _ _ _ = zi_run (d + 4) _ _ _ _ _
  rw [ze_X10_chances_16]
  simp (disch := omega) only [↓zp_dn, ↓zp_hV, ↓zp_hI, ↓zp_hL, ↓zp_hR, ↓zp_hX, zp_eV, zp_eI, zp_eL, zp_eR, zp_eX, zp_eXl, zp_iV, zp_iI, zp_iL, zp_iR, ↓zp_sm, ↓zp_nls, ↓zp_nln, zp_bo0, zp_bo1, zp_okE, zp_ok2E, zp_rfE, ↓reduceIte, if_true, if_false, zp_leT, zp_leF, zp_ltT, zp_ltF, zp_eqT, zp_eqF, zp_leTl, zp_leFl, zp_ltTl, zp_ltFl, zp_leTr, zp_leFr, zp_ltTr, zp_ltFr, zp_eqTr, zp_eqFr, zp_eqTl, zp_eqFl, zp_eqFll, eq_self, zp_addl, zp_addr, zp_mull, zp_mulr, zp_subr, zp_subl, nI_add, pk_mul, zr_stands _ hd l1, l2', l3', l4', zp_1n0, em]
/-- the next BEAT -/
def zg_nb (x2 : Int32) (b : Nat) : Nat := if x2 = -9 then b + 1 else 3
theorem zr_g1n (d : Nat) {E : zf_E} (hA : zf_okE E.1) {M : zi_M} (hE : zf_rE M E) {dd : Nat} (hd : dd < 9) {s : zf_S} (h1 : s.1 < E.1.1) (h2 : s.2.1 < E.1.2.1) {b B : Nat} {P x2 : Int32} (p : Nat) (y : Int64) (hb : b < 3) (hl : zg_lv M dd s 1 b B P) (hcan : ¬ zf_can E.1 s b) : ∃ M', zg_run d x2 p (nI dd) y M = zg_run d x2 p (nI dd) y M' ∧ zg_fR dd M M' ∧ zg_lv M' dd s 1 (zg_nb x2 b) B P := by
  obtain ⟨l1, l2, l3, l4, l5⟩ := hl
  have l2' : (zp_rp M s).1 40 0 dd = 1 := by simp [zp_rp1, l2]; rfl
  have l3' : (zp_rp M s).1 39 0 dd = nI b := by simp [zp_rp1, l3]
  have cb : ∀ e, zi_run (e + 2) zm_X10_canBeat 0 [some (.inr (.inr (10, some 0))), some (.inl (nI b)), none] [] (zp_rp M s) = _ := fun e => zr_canBeat e hA (zf_rE_rp hE s) (zp_rp_is M s) h1 h2 hb
  refine ⟨zi_sI (zp_rp M s) 39 0 dd (nI (zg_nb x2 b)), ?_, zg_fR_I (zg_fR_rp (zg_fR_rfl dd M) s) (by omega) _, ?_⟩
  · show zi_run (d + 4) _ _ _ _ _ = zi_run (d + 4) _ _ _ _ _
    rw [ze_X10_chances_16, zg_nb]
    by_cases hx : x2 = -9
    · simp (disch := omega) only [↓zp_dn, ↓zp_hV, ↓zp_hI, ↓zp_hL, ↓zp_hR, ↓zp_hX, zp_eV, zp_eI, zp_eL, zp_eR, zp_eX, zp_eXl, zp_iV, zp_iI, zp_iL, zp_iR, ↓zp_sm, ↓zp_nls, ↓zp_nln, zp_bo0, zp_bo1, zp_okE, zp_ok2E, zp_rfE, ↓reduceIte, if_true, if_false, zp_leT, zp_leF, zp_ltT, zp_ltF, zp_eqT, zp_eqF, zp_leTl, zp_leFl, zp_ltTl, zp_ltFl, zp_leTr, zp_leFr, zp_ltTr, zp_ltFr, zp_eqTr, zp_eqFr, zp_eqTl, zp_eqFl, zp_eqFll, eq_self, zp_addl, zp_addr, zp_mull, zp_mulr, zp_subr, zp_subl, nI_add, pk_mul, zr_stands _ hd l1, l2', l3', zp_1n0, cb, if_neg hcan, if_pos hx, ze_X10_chances_292]
    · simp (disch := omega) only [↓zp_dn, ↓zp_hV, ↓zp_hI, ↓zp_hL, ↓zp_hR, ↓zp_hX, zp_eV, zp_eI, zp_eL, zp_eR, zp_eX, zp_eXl, zp_iV, zp_iI, zp_iL, zp_iR, ↓zp_sm, ↓zp_nls, ↓zp_nln, zp_bo0, zp_bo1, zp_okE, zp_ok2E, zp_rfE, ↓reduceIte, if_true, if_false, zp_leT, zp_leF, zp_ltT, zp_ltF, zp_eqT, zp_eqF, zp_leTl, zp_leFl, zp_ltTl, zp_ltFl, zp_leTr, zp_leFr, zp_ltTr, zp_ltFr, zp_eqTr, zp_eqFr, zp_eqTl, zp_eqFl, zp_eqFll, eq_self, zp_addl, zp_addr, zp_mull, zp_mulr, zp_subr, zp_subl, nI_add, pk_mul, zr_stands _ hd l1, l2', l3', zp_1n0, cb, if_neg hcan, if_neg hx, ze_X10_chances_292]
      rfl
  · refine ⟨by simpa [zf_is, zp_sI1, zp_rp1] using l1, by simpa [zp_sI1, zp_rp1] using l2, by simp [zp_sI1], l4, by simpa [zp_sI1, zp_rp1] using l5⟩
theorem zr_g1c (d : Nat) {E : zf_E} (hA : zf_okE E.1) {M : zi_M} (hE : zf_rE M E) {dd : Nat} (hd : dd < 8) {s : zf_S} (h1 : s.1 < E.1.1) (h2 : s.2.1 < E.1.2.1) {b B : Nat} {P x2 : Int32} (p : Nat) (y : Int64) (hb : b < 3) (hl : zg_lv M dd s 1 b B P) (hcan : zf_can E.1 s b) : ∃ M', zg_run d x2 p (nI dd) y M = zg_run d x2 p (nI (dd + 1)) y M' ∧ zg_fR dd M M' ∧ zg_lv M' dd s 2 b B P ∧ zf_is (fun j => M'.1 38 0 (7 * (dd + 1) + j)) (zf_bt E s b) ∧ M'.1 40 0 (dd + 1) = 0 := by
  obtain ⟨l1, l2, l3, l4, l5⟩ := hl
  have l2' : (zp_rp M s).1 40 0 dd = 1 := by simp [zp_rp1, l2]; rfl
  have l3' : (zp_rp M s).1 39 0 dd = nI b := by simp [zp_rp1, l3]
  have hE1 := zf_rE_rp hE s
  have hs1 := zp_rp_is M s
  have cb : ∀ e, zi_run (e + 2) zm_X10_canBeat 0 [some (.inr (.inr (10, some 0))), some (.inl (nI b)), none] [] (zp_rp M s) = _ := fun e => zr_canBeat e hA hE1 hs1 h1 h2 hb
  have mv : ∀ e, zi_run (e + 2) zm_X10_moves 0 [some (.inr (.inr (10, some 0))), some (.inl (nI b))] [] (zp_rp M s) = _ := fun e => zr_moves e hA hE1 hs1 h1 h2 hb hcan.2.2.1
  have st : ∀ e, zi_run (e + 1) zm_X10_settles 0 [some (.inr (.inr (10, some 0))), none, none] [] (zp_rp (zp_rp M s) (zf_mv E s b)) = _ := fun e => zr_settles e hA (zf_rE_rp hE1 (zf_mv E s b)) (zp_rp_is _ (zf_mv E s b)) (zf_col_lt hA s) hcan.2.2.2.1
  have hrs : zf_rs (zi_sI (zp_rp (zp_rp (zp_rp M s) (zf_mv E s b)) (zf_st E (zf_mv E s b))) 40 0 dd 2) (zf_bt E s b) := by
    have := zp_rp_is (zp_rp (zp_rp M s) (zf_mv E s b)) (zf_st E (zf_mv E s b))
    simpa [zf_rs, zf_is, zp_sI1] using this
  have fr : zg_fR dd M (zi_sI (zp_rp (zp_rp (zp_rp M s) (zf_mv E s b)) (zf_st E (zf_mv E s b))) 40 0 dd 2) := zg_fR_I (zg_fR_rp (zg_fR_rp (zg_fR_rp (zg_fR_rfl dd M) _) _) _) (by omega) _
  have lv2 : zg_lv (zi_sI (zp_rp (zp_rp (zp_rp M s) (zf_mv E s b)) (zf_st E (zf_mv E s b))) 40 0 dd 2) dd s 2 b B P := ⟨by simpa [zf_is, zp_sI1, zp_rp1] using l1, by simp [zp_sI1]; rfl, by simpa [zp_sI1, zp_rp1] using l3, l4, by simpa [zp_sI1, zp_rp1] using l5⟩
  refine ⟨_, ?_, zg_fR_tr fr (zg_fR_up (zg_li_fR (dd := dd + 1) (zg_fR_rfl _ _) (zf_bt E s b))), zg_lv_g (zg_li_fR (dd := dd + 1) (zg_fR_rfl _ _) (zf_bt E s b)) lv2, (zg_li_is _ _ _).1, (zg_li_is _ _ _).2⟩
  show zi_run (d + 4) _ _ _ _ _ = zi_run (d + 4) _ _ _ _ _
  rw [ze_X10_chances_16]
  simp (disch := omega) only [↓zp_dn, ↓zp_hV, ↓zp_hI, ↓zp_hL, ↓zp_hR, ↓zp_hX, zp_eV, zp_eI, zp_eL, zp_eR, zp_eX, zp_eXl, zp_iV, zp_iI, zp_iL, zp_iR, ↓zp_sm, ↓zp_nls, ↓zp_nln, zp_bo0, zp_bo1, zp_okE, zp_ok2E, zp_rfE, ↓reduceIte, if_true, if_false, zp_leT, zp_leF, zp_ltT, zp_ltF, zp_eqT, zp_eqF, zp_leTl, zp_leFl, zp_ltTl, zp_ltFl, zp_leTr, zp_leFr, zp_ltTr, zp_ltFr, zp_eqTr, zp_eqFr, zp_eqTl, zp_eqFl, zp_eqFll, eq_self, zp_addl, zp_addr, zp_mull, zp_mulr, zp_subr, zp_subl, nI_add, pk_mul, zr_stands _ (show dd < 9 from by omega) l1, l2', l3', zp_1n0, cb, if_pos hcan, mv, st, zr_lies _ (show dd + 1 < 9 from by omega) hrs]
