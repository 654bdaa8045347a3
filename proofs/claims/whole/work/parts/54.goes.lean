/-! THE PURE PART: the reference's goes(code) -/
def zw_hb (E : zf_E) (t : zf_S) : Int32 := if t.2.2.2.1 ≤ E.2.2.1 / 2 then 0 else 1 <<< (nI t.1 &&& 31)
def zw_hot (E : zf_E) (p : zw_w) : Int32 := p.foldl (fun x q => x ||| zw_hb E q.2) 0
def zw_come (p : zw_w) (c : Nat) : Int32 := p.foldl (fun x q => if q.2.1 = c then nI q.2.2.1 else x) (-9)
def zw_end (s : zf_S) : zw_w → zf_S
  | [] => s
  | q :: w => zw_end q.2 w
theorem zw_hot_a (E : zf_E) (p : zw_w) (q : Nat × zf_S) : zw_hot E (p ++ [q]) = zw_hot E p ||| zw_hb E q.2 := by simp [zw_hot]
theorem zw_come_a (p : zw_w) (q : Nat × zf_S) (c : Nat) : zw_come (p ++ [q]) c = if q.2.1 = c then nI q.2.2.1 else zw_come p c := by simp [zw_come]
/-- what goes may change -/
def zw_rf (M M' : zi_M) : Prop := M'.2 = M.2 ∧ ∀ c k j, c ≠ 34 → c ≠ 35 → ¬ (c = 10 ∧ ((18 ≤ j ∧ j < 24) ∨ j = 28 ∨ j = 29)) → M'.1 c k j = M.1 c k j
theorem zw_rf_rfl (M : zi_M) : zw_rf M M := ⟨rfl, fun _ _ _ _ _ _ => rfl⟩
theorem zw_rf_tr {M M1 M2 : zi_M} (h : zw_rf M M1) (h2 : zw_rf M1 M2) : zw_rf M M2 := ⟨h2.1.trans h.1, fun c k j a b e => (h2.2 c k j a b e).trans (h.2 c k j a b e)⟩
theorem zw_rf_34 {M M1 : zi_M} (h : zw_rf M M1) (s : Nat) (x : Int32) : zw_rf M (zi_sI M1 34 0 s x) := ⟨h.1, fun c k j a b e => by rw [zp_sI1, if_neg a]; exact h.2 c k j a b e⟩
theorem zw_rf_35 {M M1 : zi_M} (h : zw_rf M M1) (s : Nat) (x : Int32) : zw_rf M (zi_sI M1 35 0 s x) := ⟨h.1, fun c k j a b e => by rw [zp_sI1, if_neg b]; exact h.2 c k j a b e⟩
theorem zw_rf_10 {M M1 : zi_M} (h : zw_rf M M1) {s : Nat} (hs : (18 ≤ s ∧ s < 24) ∨ s = 28 ∨ s = 29) (x : Int32) : zw_rf M (zi_sI M1 10 0 s x) := ⟨h.1, fun c k j a b e => by
  rw [zp_sI1]
  by_cases h1 : c = 10
  · by_cases h2 : j = s
    · subst h2; exact absurd ⟨h1, hs⟩ e
    · rw [if_pos h1, if_neg h2]; exact h.2 c k j a b e
  · rw [if_neg h1]; exact h.2 c k j a b e⟩
theorem zw_rf_rp {M M1 : zi_M} (h : zw_rf M M1) (s : zf_S) : zw_rf M (zp_rp M1 s) := ⟨h.1, fun c k j a b e => by
  rw [zp_rp1]
  by_cases h1 : c = 10
  · by_cases h2 : k = 0
    · subst h1; subst h2
      have hj : ¬ (18 ≤ j ∧ j < 24) := fun q => e ⟨rfl, Or.inl q⟩
      simp only [↓reduceIte, zf_wr]
      rw [if_neg (by omega), if_neg (by omega), if_neg (by omega), if_neg (by omega), if_neg (by omega), if_neg (by omega)]
      exact h.2 10 0 j a b e
    · rw [if_pos h1, if_neg h2]; exact h.2 c k j a b e
  · rw [if_neg h1]; exact h.2 c k j a b e⟩
theorem zw_rf_nb {M M' : zi_M} (h : zw_rf M M') : zq_nb M M' := by
  intro c k s e
  refine h.2 c k s ?_ ?_ ?_
  · intro hc; subst hc; exact e (by simp [zq_gp])
  · intro hc; subst hc; exact e (by simp [zq_gp])
  · intro hc; obtain ⟨a, b⟩ := hc; subst a; exact e (by simp [zq_gp, show ¬ s = 8 from by omega, show ¬ s = 9 from by omega])
theorem zf_rE_rf {M M' : zi_M} {E : zf_E} (h : zw_rf M M') (hE : zf_rE M E) : zf_rE M' E := by
  obtain ⟨hC, f1, f2, f3, f4⟩ := hE
  have e : M'.1 28 0 = M.1 28 0 := funext fun j => h.2 28 0 j (by omega) (by omega) (by omega)
  exact ⟨by rw [e]; exact hC, by rw [h.2 10 0 17 (by omega) (by omega) (by omega), f1], by rw [h.2 10 0 24 (by omega) (by omega) (by omega), f2], by rw [h.2 10 0 25 (by omega) (by omega) (by omega), f3], by rw [h.2 10 0 26 (by omega) (by omega) (by omega), f4]⟩
/-- on the way: where one is, the path so far -/
def zw_rm (M : zi_M) (E : zf_E) (t : zf_S) (p : zw_w) : Prop := zf_rE M E ∧ zf_rs M t ∧ t.1 < E.1.1 ∧ t.2.1 < E.1.2.1 ∧ p.length ≤ t.1 ∧ M.1 10 0 28 = nI p.length ∧ M.1 10 0 29 = zw_hot E p ∧ (∀ j q, p[j]? = some q → M.1 34 0 j = nI q.1) ∧ ∀ c, c < 7 → M.1 35 0 c = zw_come p c
theorem zr_goes19 (d : Nat) (x y : Int32) (M : zi_M) : zi_run d zm_X10_goes 19 [some (.inr (.inr (10, some 0))), none, some (.inl x), some (.inl y), some (.inl 0), none] [] M = zi_run d zm_X10_goes 44 [some (.inr (.inr (10, some 0))), none, some (.inl x), some (.inl y), some (.inl 1), none] [] (zp_l M 35 0 0 7 (fun _ => -9)) := by
  refine Eq.trans ?_ (zp_for (fun i => zi_run d zm_X10_goes 19 [some (.inr (.inr (10, some 0))), none, some (.inl x), some (.inl y), some (.inl (nI i)), none] [] (zp_l M 35 0 0 i (fun _ => -9))) 7 (zi_run d zm_X10_goes 44 [some (.inr (.inr (10, some 0))), none, some (.inl x), some (.inl y), some (.inl 1), none] [] (zp_l M 35 0 0 7 (fun _ => -9))) ?_ ?_ 0 (Nat.zero_le 7))
  · simp only [zp_l0]; rfl
  · rw [ze_X10_goes_19]
    simp (disch := omega) only [↓zp_dn, ↓zp_hV, ↓zp_hI, ↓zp_hL, ↓zp_hR, ↓zp_hX, zp_eV, zp_eI, zp_eL, zp_eR, zp_eX, zp_eXl, zp_iV, zp_iI, zp_iL, zp_iR, ↓zp_sm, ↓zp_nls, ↓zp_nln, zp_bo0, zp_bo1, zp_okE, zp_ok2E, zp_rfE, ↓reduceIte, if_true, if_false, zp_leT, zp_leF, zp_ltT, zp_ltF, zp_eqT, zp_eqF, zp_leTl, zp_leFl, zp_ltTl, zp_ltFl, zp_leTr, zp_leFr, zp_ltTr, zp_ltFr, zp_eqTr, zp_eqFr, zp_eqTl, zp_eqFl, zp_eqFll, eq_self, zp_addl, zp_addr, zp_mull, zp_mulr, zp_subr, zp_subl, nI_add, pk_mul]
  · intro i hi
    rw [ze_X10_goes_19]
    simp (disch := omega) only [↓zp_dn, ↓zp_hV, ↓zp_hI, ↓zp_hL, ↓zp_hR, ↓zp_hX, zp_eV, zp_eI, zp_eL, zp_eR, zp_eX, zp_eXl, zp_iV, zp_iI, zp_iL, zp_iR, ↓zp_sm, ↓zp_nls, ↓zp_nln, zp_bo0, zp_bo1, zp_okE, zp_ok2E, zp_rfE, ↓reduceIte, if_true, if_false, zp_leT, zp_leF, zp_ltT, zp_ltF, zp_eqT, zp_eqF, zp_leTl, zp_leFl, zp_ltTl, zp_ltFl, zp_leTr, zp_leFr, zp_ltTr, zp_ltFr, zp_eqTr, zp_eqFr, zp_eqTl, zp_eqFl, zp_eqFll, eq_self, zp_addl, zp_addr, zp_mull, zp_mulr, zp_subr, zp_subl, nI_add, pk_mul]
    rw [zp_lS0 _ _ _ _ _ _ rfl]
theorem zw_col_gt {A : zf_A} {s : zf_S} (h : ¬ zf_over A s) : s.1 < zf_col A s := by
  have h' : ¬ A.1 ≤ s.1 + 1 := h
  simp only [zf_col]
  split <;> omega
theorem zr_go77 (d : Nat) {E : zf_E} (hA : zf_okE E.1) {M : zi_M} {t : zf_S} {p : zw_w} (h : zw_rm M E t p) (ho : ¬ zf_over E.1 t) {b left : Nat} (hb : b < 3) (y : Int32) (hcan : zf_can E.1 t b) : ∃ M', zw_rf M M' ∧ zw_rm M' E (zf_bt E t b) (p ++ [(b, zf_bt E t b)]) ∧ zi_run (d + 4) zm_X10_goes 77 [some (.inr (.inr (10, some 0))), none, none, some (.inl (nI left)), none, some (.inl (nI b))] [.inl y] M = zi_run (d + 4) zm_X10_goes 44 [some (.inr (.inr (10, some 0))), none, some (.inl y), some (.inl (nI left)), some (.inl (if zf_fell E (zf_mv E t b) = 0 then 1 else 0)), none] [] M' := by
  obtain ⟨hE, hs, hc, hh, hl, h28, h29, h34, h35⟩ := h
  have hA' := hA
  obtain ⟨a1, a2, a3, a4⟩ := hA'
  have hbt := zf_bt1 hA hcan
  have hgt : t.1 < (zf_bt E t b).1 := zw_col_gt ho
  have hover : ¬ E.1.1 ≤ t.1 + 1 := ho
  have q18 : (zp_rp M (zf_bt E t b)).1 10 0 18 = nI (zf_bt E t b).1 := (zp_rp_is M (zf_bt E t b)).1
  have q19 : (zp_rp M (zf_bt E t b)).1 10 0 19 = nI (zf_bt E t b).2.1 := (zp_rp_is M (zf_bt E t b)).2.1
  have q21 : (zp_rp M (zf_bt E t b)).1 10 0 21 = (zf_bt E t b).2.2.2.1 := (zp_rp_is M (zf_bt E t b)).2.2.2.1
  have q23 : (zp_rp M (zf_bt E t b)).1 10 0 23 = zf_fell E (zf_mv E t b) := (zp_rp_is M (zf_bt E t b)).2.2.2.2.2
  have q24 : (zp_rp M (zf_bt E t b)).1 10 0 24 = E.2.2.1 := (zf_rE_rp hE (zf_bt E t b)).2.2.1
  have q28 : (zp_rp M (zf_bt E t b)).1 10 0 28 = nI p.length := by simp [zp_rp1, zf_wr, h28]
  have q29 : (zp_rp M (zf_bt E t b)).1 10 0 29 = zw_hot E p := by simp [zp_rp1, zf_wr, h29]
  have hlen : nI p.length + 1 = nI (p.length + 1) := nI_1 _
  have hfr : zw_rf M (zi_sI (zi_sI (zi_sI (zi_sI (zp_rp M (zf_bt E t b)) 34 0 p.length (nI b)) 10 0 28 (nI (p.length + 1))) 35 0 (zf_bt E t b).1 (nI (zf_bt E t b).2.1)) 10 0 29 (zw_hot E p ||| zw_hb E (zf_bt E t b))) := zw_rf_10 (zw_rf_35 (zw_rf_10 (zw_rf_34 (zw_rf_rp (zw_rf_rfl M) _) _ _) (by omega) _) _ _) (by omega) _
  refine ⟨_, hfr, ⟨zf_rE_rf hfr hE, ?_, hbt.1, hbt.2, ?_, ?_, ?_, ?_, ?_⟩, ?_⟩
  · have := zp_rp_is M (zf_bt E t b)
    simpa [zf_rs, zf_is, zp_sI1] using this
  · simp only [List.length_append, List.length_cons, List.length_nil]; omega
  · simp only [zp_sI1, Nat.reduceEqDiff, Nat.reduceLT, Nat.reduceLeDiff, Nat.reduceAdd, Nat.reduceMul, Nat.reduceSub, reduceCtorEq, Int32.reduceLT, Int32.reduceLE, not_true_eq_false, not_false_eq_true, and_true, true_and, and_false, false_and, or_true, true_or, or_false, false_or, ↓reduceIte, List.length_append, List.length_cons, List.length_nil]
  · simp only [zp_sI1, Nat.reduceEqDiff, Nat.reduceLT, Nat.reduceLeDiff, Nat.reduceAdd, Nat.reduceMul, Nat.reduceSub, reduceCtorEq, Int32.reduceLT, Int32.reduceLE, not_true_eq_false, not_false_eq_true, and_true, true_and, and_false, false_and, or_true, true_or, or_false, false_or, ↓reduceIte, zw_hot_a]
  · intro j q hq
    simp only [zp_sI1, Nat.reduceEqDiff, Nat.reduceLT, Nat.reduceLeDiff, Nat.reduceAdd, Nat.reduceMul, Nat.reduceSub, reduceCtorEq, Int32.reduceLT, Int32.reduceLE, not_true_eq_false, not_false_eq_true, and_true, true_and, and_false, false_and, or_true, true_or, or_false, false_or, ↓reduceIte]
    by_cases e : j = p.length
    · rw [if_pos e]
      rw [e, List.getElem?_append_right (Nat.le_refl _), Nat.sub_self] at hq
      cases hq; rfl
    · rw [if_neg e]
      have hj : j < p.length := by
        have := (List.getElem?_eq_some_iff.mp hq).1
        simp only [List.length_append, List.length_cons, List.length_nil] at this; omega
      rw [List.getElem?_append_left hj] at hq
      rw [zp_rp1]
      simp only [Nat.reduceEqDiff, Nat.reduceLT, Nat.reduceLeDiff, Nat.reduceAdd, Nat.reduceMul, Nat.reduceSub, reduceCtorEq, Int32.reduceLT, Int32.reduceLE, not_true_eq_false, not_false_eq_true, and_true, true_and, and_false, false_and, or_true, true_or, or_false, false_or, ↓reduceIte]
      exact h34 j q hq
  · intro c hc7
    rw [zw_come_a]
    simp only [zp_sI1, Nat.reduceEqDiff, Nat.reduceLT, Nat.reduceLeDiff, Nat.reduceAdd, Nat.reduceMul, Nat.reduceSub, reduceCtorEq, Int32.reduceLT, Int32.reduceLE, not_true_eq_false, not_false_eq_true, and_true, true_and, and_false, false_and, or_true, true_or, or_false, false_or, ↓reduceIte]
    by_cases e : (zf_bt E t b).1 = c
    · rw [if_pos e.symm, if_pos e]
    · rw [if_neg (fun q => e q.symm), if_neg e, zp_rp1]
      simp only [Nat.reduceEqDiff, Nat.reduceLT, Nat.reduceLeDiff, Nat.reduceAdd, Nat.reduceMul, Nat.reduceSub, reduceCtorEq, Int32.reduceLT, Int32.reduceLE, not_true_eq_false, not_false_eq_true, and_true, true_and, and_false, false_and, or_true, true_or, or_false, false_or, ↓reduceIte]
      exact h35 c hc7
  · rw [ze_X10_goes_77]
    by_cases hx : (zf_bt E t b).2.2.2.1 ≤ E.2.2.1 / 2
    · by_cases hf : zf_fell E (zf_mv E t b) = 0
      · simp (disch := omega) only [↓zp_dn, ↓zp_hV, ↓zp_hI, ↓zp_hL, ↓zp_hR, ↓zp_hX, zp_eV, zp_eI, zp_eL, zp_eR, zp_eX, zp_eXl, zp_iV, zp_iI, zp_iL, zp_iR, ↓zp_sm, ↓zp_nls, ↓zp_nln, zp_bo0, zp_bo1, zp_okE, zp_ok2E, zp_rfE, ↓reduceIte, if_true, if_false, zp_leT, zp_leF, zp_ltT, zp_ltF, zp_eqT, zp_eqF, zp_leTl, zp_leFl, zp_ltTl, zp_ltFl, zp_leTr, zp_leFr, zp_ltTr, zp_ltFr, zp_eqTr, zp_eqFr, zp_eqTl, zp_eqFl, zp_eqFll, eq_self, zp_addl, zp_addr, zp_mull, zp_mulr, zp_subr, zp_subl, nI_add, pk_mul, zr_canBeat _ hA hE hs hc hh hb, if_pos hcan, zr_beats _ hA hE hs hc hh hb hcan, q18, q19, q21, q24, q28, q29, if_pos hx, ze_X10_goes_159, zp_sI1, Nat.reduceEqDiff, Nat.reduceLT, Nat.reduceLeDiff, Nat.reduceAdd, Nat.reduceMul, Nat.reduceSub, reduceCtorEq, Int32.reduceLT, Int32.reduceLE, not_true_eq_false, not_false_eq_true, and_true, true_and, and_false, false_and, or_true, true_or, or_false, false_or, q23, if_pos hf, ze_X10_goes_175, ze_X10_goes_177, hlen, zw_hb]
      · simp (disch := omega) only [↓zp_dn, ↓zp_hV, ↓zp_hI, ↓zp_hL, ↓zp_hR, ↓zp_hX, zp_eV, zp_eI, zp_eL, zp_eR, zp_eX, zp_eXl, zp_iV, zp_iI, zp_iL, zp_iR, ↓zp_sm, ↓zp_nls, ↓zp_nln, zp_bo0, zp_bo1, zp_okE, zp_ok2E, zp_rfE, ↓reduceIte, if_true, if_false, zp_leT, zp_leF, zp_ltT, zp_ltF, zp_eqT, zp_eqF, zp_leTl, zp_leFl, zp_ltTl, zp_ltFl, zp_leTr, zp_leFr, zp_ltTr, zp_ltFr, zp_eqTr, zp_eqFr, zp_eqTl, zp_eqFl, zp_eqFll, eq_self, zp_addl, zp_addr, zp_mull, zp_mulr, zp_subr, zp_subl, nI_add, pk_mul, zr_canBeat _ hA hE hs hc hh hb, if_pos hcan, zr_beats _ hA hE hs hc hh hb hcan, q18, q19, q21, q24, q28, q29, if_pos hx, ze_X10_goes_159, zp_sI1, Nat.reduceEqDiff, Nat.reduceLT, Nat.reduceLeDiff, Nat.reduceAdd, Nat.reduceMul, Nat.reduceSub, reduceCtorEq, Int32.reduceLT, Int32.reduceLE, not_true_eq_false, not_false_eq_true, and_true, true_and, and_false, false_and, or_true, true_or, or_false, false_or, q23, if_neg hf, ze_X10_goes_175, ze_X10_goes_177, hlen, zw_hb]
    · by_cases hf : zf_fell E (zf_mv E t b) = 0
      · simp (disch := omega) only [↓zp_dn, ↓zp_hV, ↓zp_hI, ↓zp_hL, ↓zp_hR, ↓zp_hX, zp_eV, zp_eI, zp_eL, zp_eR, zp_eX, zp_eXl, zp_iV, zp_iI, zp_iL, zp_iR, ↓zp_sm, ↓zp_nls, ↓zp_nln, zp_bo0, zp_bo1, zp_okE, zp_ok2E, zp_rfE, ↓reduceIte, if_true, if_false, zp_leT, zp_leF, zp_ltT, zp_ltF, zp_eqT, zp_eqF, zp_leTl, zp_leFl, zp_ltTl, zp_ltFl, zp_leTr, zp_leFr, zp_ltTr, zp_ltFr, zp_eqTr, zp_eqFr, zp_eqTl, zp_eqFl, zp_eqFll, eq_self, zp_addl, zp_addr, zp_mull, zp_mulr, zp_subr, zp_subl, nI_add, pk_mul, zr_canBeat _ hA hE hs hc hh hb, if_pos hcan, zr_beats _ hA hE hs hc hh hb hcan, q18, q19, q21, q24, q28, q29, if_neg hx, ze_X10_goes_159, zp_sI1, Nat.reduceEqDiff, Nat.reduceLT, Nat.reduceLeDiff, Nat.reduceAdd, Nat.reduceMul, Nat.reduceSub, reduceCtorEq, Int32.reduceLT, Int32.reduceLE, not_true_eq_false, not_false_eq_true, and_true, true_and, and_false, false_and, or_true, true_or, or_false, false_or, q23, if_pos hf, ze_X10_goes_175, ze_X10_goes_177, hlen, zw_hb]
      · simp (disch := omega) only [↓zp_dn, ↓zp_hV, ↓zp_hI, ↓zp_hL, ↓zp_hR, ↓zp_hX, zp_eV, zp_eI, zp_eL, zp_eR, zp_eX, zp_eXl, zp_iV, zp_iI, zp_iL, zp_iR, ↓zp_sm, ↓zp_nls, ↓zp_nln, zp_bo0, zp_bo1, zp_okE, zp_ok2E, zp_rfE, ↓reduceIte, if_true, if_false, zp_leT, zp_leF, zp_ltT, zp_ltF, zp_eqT, zp_eqF, zp_leTl, zp_leFl, zp_ltTl, zp_ltFl, zp_leTr, zp_leFr, zp_ltTr, zp_ltFr, zp_eqTr, zp_eqFr, zp_eqTl, zp_eqFl, zp_eqFll, eq_self, zp_addl, zp_addr, zp_mull, zp_mulr, zp_subr, zp_subl, nI_add, pk_mul, zr_canBeat _ hA hE hs hc hh hb, if_pos hcan, zr_beats _ hA hE hs hc hh hb hcan, q18, q19, q21, q24, q28, q29, if_neg hx, ze_X10_goes_159, zp_sI1, Nat.reduceEqDiff, Nat.reduceLT, Nat.reduceLeDiff, Nat.reduceAdd, Nat.reduceMul, Nat.reduceSub, reduceCtorEq, Int32.reduceLT, Int32.reduceLE, not_true_eq_false, not_false_eq_true, and_true, true_and, and_false, false_and, or_true, true_or, or_false, false_or, q23, if_neg hf, ze_X10_goes_175, ze_X10_goes_177, hlen, zw_hb]
theorem zp_3p (n : Nat) (h : n ≤ 6) : 3 ^ n < 2 ^ 31 := by
  have h' : n = 0 ∨ n = 1 ∨ n = 2 ∨ n = 3 ∨ n = 4 ∨ n = 5 ∨ n = 6 := by omega
  rcases h' with e | e | e | e | e | e | e <;> subst e <;> decide
def zw_b1 (b : Bool) : Int32 := if b then 1 else 0
theorem zr_goes44 (d : Nat) {E : zf_E} (hA : zf_okE E.1) : ∀ (n : Nat) (M : zi_M) (t : zf_S) (p : zw_w) (left : Nat), n ≤ 6 → zw_rm M E t p → left < 3 ^ n → E.1.1 ≤ t.1 + 1 + n → ∃ M', zi_run (d + 4) zm_X10_goes 44 [some (.inr (.inr (10, some 0))), none, some (.inl (nI (3 ^ (n - 1)))), some (.inl (nI left)), some (.inl 1), none] [] M = some (some (.inl (zw_b1 (zw_go E n t left).isSome)), M') ∧ zw_rf M M' ∧ ∀ w, zw_go E n t left = some w → zw_rm M' E (zw_end t w) (p ++ w) := by
  have n1 : ¬ (1 : Int32) = 0 := by decide
  intro n
  induction n with
  | zero =>
    intro M t p left _ h hl ht
    have ho : zf_over E.1 t := ht
    have e0 : left = 0 := by simpa using hl
    refine ⟨M, ?_, zw_rf_rfl M, fun w hw => ?_⟩
    · rw [ze_X10_goes_44, zw_go_over ho, e0]
      simp (disch := omega) only [↓zp_dn, ↓zp_hV, ↓zp_hI, ↓zp_hL, ↓zp_hR, ↓zp_hX, zp_eV, zp_eI, zp_eL, zp_eR, zp_eX, zp_eXl, zp_iV, zp_iI, zp_iL, zp_iR, ↓zp_sm, ↓zp_nls, ↓zp_nln, zp_bo0, zp_bo1, zp_okE, zp_ok2E, zp_rfE, ↓reduceIte, if_true, if_false, zp_leT, zp_leF, zp_ltT, zp_ltF, zp_eqT, zp_eqF, zp_leTl, zp_leFl, zp_ltTl, zp_ltFl, zp_leTr, zp_leFr, zp_ltTr, zp_ltFr, zp_eqTr, zp_eqFr, zp_eqTl, zp_eqFl, zp_eqFll, eq_self, zp_addl, zp_addr, zp_mull, zp_mulr, zp_subr, zp_subl, nI_add, pk_mul, if_neg n1, zr_isOver _ hA h.1.1 h.2.1.1 h.2.2.1, if_pos ho, ze_X10_goes_180]
      rfl
    · rw [zw_go_over ho, if_pos e0] at hw; cases hw; rw [List.append_nil]; exact h
  | succ n ih =>
    intro M t p left hn6 h hl ht
    by_cases ho : zf_over E.1 t
    · refine ⟨M, ?_, zw_rf_rfl M, fun w hw => ?_⟩
      · rw [ze_X10_goes_44, zw_go_over ho]
        have h31 := zp_3p (n + 1) hn6
        by_cases e0 : left = 0
        · simp (disch := omega) only [↓zp_dn, ↓zp_hV, ↓zp_hI, ↓zp_hL, ↓zp_hR, ↓zp_hX, zp_eV, zp_eI, zp_eL, zp_eR, zp_eX, zp_eXl, zp_iV, zp_iI, zp_iL, zp_iR, ↓zp_sm, ↓zp_nls, ↓zp_nln, zp_bo0, zp_bo1, zp_okE, zp_ok2E, zp_rfE, ↓reduceIte, if_true, if_false, zp_leT, zp_leF, zp_ltT, zp_ltF, zp_eqT, zp_eqF, zp_leTl, zp_leFl, zp_ltTl, zp_ltFl, zp_leTr, zp_leFr, zp_ltTr, zp_ltFr, zp_eqTr, zp_eqFr, zp_eqTl, zp_eqFl, zp_eqFll, eq_self, zp_addl, zp_addr, zp_mull, zp_mulr, zp_subr, zp_subl, nI_add, pk_mul, if_neg n1, zr_isOver _ hA h.1.1 h.2.1.1 h.2.2.1, if_pos ho, ze_X10_goes_180, if_pos e0]; rfl
        · simp (disch := omega) only [↓zp_dn, ↓zp_hV, ↓zp_hI, ↓zp_hL, ↓zp_hR, ↓zp_hX, zp_eV, zp_eI, zp_eL, zp_eR, zp_eX, zp_eXl, zp_iV, zp_iI, zp_iL, zp_iR, ↓zp_sm, ↓zp_nls, ↓zp_nln, zp_bo0, zp_bo1, zp_okE, zp_ok2E, zp_rfE, ↓reduceIte, if_true, if_false, zp_leT, zp_leF, zp_ltT, zp_ltF, zp_eqT, zp_eqF, zp_leTl, zp_leFl, zp_ltTl, zp_ltFl, zp_leTr, zp_leFr, zp_ltTr, zp_ltFr, zp_eqTr, zp_eqFr, zp_eqTl, zp_eqFl, zp_eqFll, eq_self, zp_addl, zp_addr, zp_mull, zp_mulr, zp_subr, zp_subl, nI_add, pk_mul, if_neg n1, zr_isOver _ hA h.1.1 h.2.1.1 h.2.2.1, if_pos ho, ze_X10_goes_180, if_neg e0]; rfl
      · rw [zw_go_over ho] at hw
        by_cases e0 : left = 0
        · rw [if_pos e0] at hw; cases hw; rw [List.append_nil]; exact h
        · rw [if_neg e0] at hw; cases hw
    · have hp := zp_3pos (n)
      have h31 := zp_3p (n + 1) hn6
      have h31' := zp_3p n (by omega)
      have hb : left / 3 ^ n < 3 := by rw [Nat.div_lt_iff_lt_mul hp]; rw [Nat.pow_succ] at hl; omega
      have hr : left % 3 ^ n < 3 ^ n := Nat.mod_lt _ hp
      have eby : (if nI (3 ^ n) = 1 then (1 : Int32) else nI (3 ^ n) / 3) = nI (3 ^ (n - 1)) := by
        cases n with
        | zero => rfl
        | succ k =>
          have hk := zp_3pos (k)
          rw [if_neg (fun e => by
            have := (nI_eq (b := 1) h31' (by decide)).mp e
            rw [Nat.pow_succ] at this; omega)]
          rw [show (3 : Int32) = nI 3 from rfl, pk_div h31' (by decide) (by decide), Nat.pow_succ, Nat.mul_div_cancel _ (by decide)]; rfl
      have e1 : zi_run (d + 4) zm_X10_goes 44 [some (.inr (.inr (10, some 0))), none, some (.inl (nI (3 ^ (n + 1 - 1)))), some (.inl (nI left)), some (.inl 1), none] [] M = zi_run (d + 4) zm_X10_goes 77 [some (.inr (.inr (10, some 0))), none, none, some (.inl (nI (left % 3 ^ n))), none, some (.inl (nI (left / 3 ^ n)))] [.inl (nI (3 ^ (n - 1)))] M := by
        have hz : ¬ nI (3 ^ n) = 0 := nI_ne0 hp h31'
        rw [ze_X10_goes_44, Nat.add_sub_cancel, ← eby, pk_rem (by omega) hp h31', pk_div (by omega) hp h31']
        by_cases h1 : nI (3 ^ n) = 1
        · simp (disch := omega) only [↓zp_dn, ↓zp_hV, ↓zp_hI, ↓zp_hL, ↓zp_hR, ↓zp_hX, zp_eV, zp_eI, zp_eL, zp_eR, zp_eX, zp_eXl, zp_iV, zp_iI, zp_iL, zp_iR, ↓zp_sm, ↓zp_nls, ↓zp_nln, zp_bo0, zp_bo1, zp_okE, zp_ok2E, zp_rfE, ↓reduceIte, if_true, if_false, zp_leT, zp_leF, zp_ltT, zp_ltF, zp_eqT, zp_eqF, zp_leTl, zp_leFl, zp_ltTl, zp_ltFl, zp_leTr, zp_leFr, zp_ltTr, zp_ltFr, zp_eqTr, zp_eqFr, zp_eqTl, zp_eqFl, zp_eqFll, eq_self, zp_addl, zp_addr, zp_mull, zp_mulr, zp_subr, zp_subl, nI_add, pk_mul, if_neg n1, zr_isOver _ hA h.1.1 h.2.1.1 h.2.2.1, if_neg ho, if_neg hz, if_pos h1]
        · simp (disch := omega) only [↓zp_dn, ↓zp_hV, ↓zp_hI, ↓zp_hL, ↓zp_hR, ↓zp_hX, zp_eV, zp_eI, zp_eL, zp_eR, zp_eX, zp_eXl, zp_iV, zp_iI, zp_iL, zp_iR, ↓zp_sm, ↓zp_nls, ↓zp_nln, zp_bo0, zp_bo1, zp_okE, zp_ok2E, zp_rfE, ↓reduceIte, if_true, if_false, zp_leT, zp_leF, zp_ltT, zp_ltF, zp_eqT, zp_eqF, zp_leTl, zp_leFl, zp_ltTl, zp_ltFl, zp_leTr, zp_leFr, zp_ltTr, zp_ltFr, zp_eqTr, zp_eqFr, zp_eqTl, zp_eqFl, zp_eqFll, eq_self, zp_addl, zp_addr, zp_mull, zp_mulr, zp_subr, zp_subl, nI_add, pk_mul, if_neg n1, zr_isOver _ hA h.1.1 h.2.1.1 h.2.2.1, if_neg ho, if_neg hz, if_neg h1]
      rw [e1]
      have ego : zw_go E (n + 1) t left = if zw_good E t (left / 3 ^ n) then (zw_go E n (zf_bt E t (left / 3 ^ n)) (left % 3 ^ n)).map (fun w => (left / 3 ^ n, zf_bt E t (left / 3 ^ n)) :: w) else none := by rw [zw_go, if_neg ho]
      by_cases hcan : zf_can E.1 t (left / 3 ^ n)
      · obtain ⟨M1, f1, r1, e2⟩ := zr_go77 d hA h ho (left := left % 3 ^ n) hb (nI (3 ^ (n - 1))) hcan
        rw [e2]
        by_cases hf : zf_fell E (zf_mv E t (left / 3 ^ n)) = 0
        · rw [if_pos hf]
          have hgt := zw_col_gt ho
          obtain ⟨M', e3, f2, r2⟩ := ih M1 (zf_bt E t (left / 3 ^ n)) _ (left % 3 ^ n) (by omega) r1 hr (by
            have : t.1 < (zf_bt E t (left / 3 ^ n)).1 := hgt
            omega)
          rw [ego, if_pos ⟨hcan, hf⟩]
          refine ⟨M', ?_, zw_rf_tr f1 f2, fun w hw => ?_⟩
          · rw [e3, Option.isSome_map]
          · obtain ⟨w', hw', e⟩ := Option.map_eq_some_iff.mp hw
            subst e
            have := r2 w' hw'
            rwa [List.append_assoc] at this
        · rw [if_neg hf, ego, if_neg (fun e => hf e.2)]
          refine ⟨M1, ?_, f1, fun w hw => by cases hw⟩
          rw [ze_X10_goes_44, ze_X10_goes_180]
          simp only [↓reduceIte]; rfl
      · rw [ego, if_neg (fun e => hcan e.1)]
        refine ⟨M, ?_, zw_rf_rfl M, fun w hw => by cases hw⟩
        rw [ze_X10_goes_77]
        simp (disch := omega) only [↓zp_dn, ↓zp_hV, ↓zp_hI, ↓zp_hL, ↓zp_hR, ↓zp_hX, zp_eV, zp_eI, zp_eL, zp_eR, zp_eX, zp_eXl, zp_iV, zp_iI, zp_iL, zp_iR, ↓zp_sm, ↓zp_nls, ↓zp_nln, zp_bo0, zp_bo1, zp_okE, zp_ok2E, zp_rfE, ↓reduceIte, if_true, if_false, zp_leT, zp_leF, zp_ltT, zp_ltF, zp_eqT, zp_eqF, zp_leTl, zp_leFl, zp_ltTl, zp_ltFl, zp_leTr, zp_leFr, zp_ltTr, zp_ltFr, zp_eqTr, zp_eqFr, zp_eqTl, zp_eqFl, zp_eqFll, eq_self, zp_addl, zp_addr, zp_mull, zp_mulr, zp_subr, zp_subl, nI_add, pk_mul, zr_canBeat _ hA h.1 h.2.1 h.2.2.1 h.2.2.2.1 hb, if_neg hcan, ze_X10_goes_177, ze_X10_goes_44, ze_X10_goes_180]
        rfl
/-- what goes leaves: a WAY -/
def zw_res (M : zi_M) (E : zf_E) (s : zf_S) (w : zw_w) : Prop := zf_rs M (zw_end s w) ∧ M.1 10 0 28 = nI w.length ∧ w.length ≤ 6 ∧ M.1 10 0 29 = zw_hot E w ∧ (∀ j q, w[j]? = some q → M.1 34 0 j = nI q.1) ∧ ∀ c, c < 7 → M.1 35 0 c = zw_come w c
theorem zr_goes (d : Nat) {E : zf_E} (hA : zf_okE E.1) {M : zi_M} {s : zf_S} (hE : zf_rE M E) (hs : zf_rs M s) (hc : s.1 < E.1.1) (hh : s.2.1 < E.1.2.1) {code : Nat} (hcode : code < 729) : ∃ M', zi_run (d + 4) zm_X10_goes 0 [some (.inr (.inr (10, some 0))), some (.inl (nI code)), none, none, none, none] [] M = some (some (.inl (zw_b1 (zw_go E 6 s code).isSome)), M') ∧ zw_rf M M' ∧ ∀ w, zw_go E 6 s code = some w → zw_res M' E s w := by
  have f0 : zw_rf M (zi_sI (zi_sI M 10 0 28 0) 10 0 29 0) := zw_rf_10 (zw_rf_10 (zw_rf_rfl M) (by omega) _) (by omega) _
  have f1 : zw_rf M (zp_l (zi_sI (zi_sI M 10 0 28 0) 10 0 29 0) 35 0 0 7 (fun _ => -9)) := ⟨rfl, fun c k j a b e => by rw [zp_l1, if_neg b]; exact f0.2 c k j a b e⟩
  have r1 : zw_rm (zp_l (zi_sI (zi_sI M 10 0 28 0) 10 0 29 0) 35 0 0 7 (fun _ => -9)) E s [] := by
    refine ⟨zf_rE_rf f1 hE, ?_, hc, hh, Nat.zero_le _, by simp [zp_l1, zp_sI1, nI_0], by simp [zp_l1, zp_sI1, zw_hot], fun j q hq => by simp at hq, fun c hc7 => by simp [zp_l1, hc7, zw_come]⟩
    simpa [zf_rs, zf_is, zp_l1, zp_sI1] using hs
  have a2 := hA.2.1
  obtain ⟨M', e, f2, r2⟩ := zr_goes44 d hA 6 _ s [] code (by omega) r1 (by omega) (by omega)
  refine ⟨M', ?_, zw_rf_tr f1 f2, fun w hw => ?_⟩
  · rw [ze_X10_goes_0, zr_goes19]; exact e
  · obtain ⟨_, b2, b3, _, b5, b6, b7, b8, b9⟩ := r2 w hw
    rw [List.nil_append] at b5 b6 b7 b8 b9
    exact ⟨b2, b6, by omega, b7, b8, b9⟩
