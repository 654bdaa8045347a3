/-! THE PURE PART: keep, on -/
theorem zc_takeG (d : Nat) (M : zi_M) {k0 k1 : Nat} (h : k1 ≠ k0) : zi_run d zm_X7_take 0 [some (.inr (.inr (7, some k0))), some (.inr (.inr (7, some k1)))] [] M = some (none, zp_w M 7 k0 (fun j => if j < 6 then M.1 7 k1 j else M.1 7 k0 j)) := by
  rw [ze_X7_take_0]
  congr 2
  refine zp_ext (fun c k j => ?_) rfl
  by_cases hc : c = 7
  · by_cases hk : k = k0
    · subst hc; subst hk
      simp only [zp_sI1, zp_w1, ↓reduceIte, if_neg h]
      rcases zp_six 0 j with e | e | e | e | e | e | e
      · subst e; simp
      · subst e; simp
      · subst e; simp
      · subst e; simp
      · subst e; simp
      · subst e; simp
      · obtain ⟨e0, e1, e2, e3, e4, e5⟩ := e
        simp only [Nat.zero_add] at e0 e1 e2 e3 e4 e5
        simp [e0, e1, e2, e3, e4, e5, show ¬ j < 6 from by omega]
    · simp [zp_sI1, zp_w1, hc, hk]
  · simp [zp_sI1, zp_w1, hc]
/-- the cells of sky k0 -/
def zk_fr (k0 : Nat) (M M' : zi_M) : Prop := M'.2 = M.2 ∧ ∀ c k j, ¬ (c = 6 ∧ k = k0) → ¬ (c = 1 ∧ 4 * k0 ≤ k ∧ k < 4 * k0 + 4) → ¬ (c = 14 ∧ k = k0) → ¬ (c = 7 ∧ ((4 * k0 ≤ k ∧ k < 4 * k0 + 4) ∨ (100 + 40 * k0 ≤ k ∧ k < 140 + 40 * k0))) → M'.1 c k j = M.1 c k j
theorem zk_fr_tr {k0 : Nat} {M M1 M2 : zi_M} (h : zk_fr k0 M M1) (h2 : zk_fr k0 M1 M2) : zk_fr k0 M M2 := ⟨h2.1.trans h.1, fun c k j a b e f => (h2.2 c k j a b e f).trans (h.2 c k j a b e f)⟩
theorem zk_fr_6 (k0 : Nat) (M : zi_M) (s : Nat) (x : Int32) : zk_fr k0 M (zi_sI M 6 k0 s x) := ⟨rfl, fun c k j a _ _ _ => zp_o1 a⟩
theorem zk_fr_14 (k0 : Nat) (M : zi_M) (s : Nat) (x : Int32) : zk_fr k0 M (zi_sI M 14 k0 s x) := ⟨rfl, fun c k j _ _ e _ => zp_o1 e⟩
theorem zk_fr_1 {k0 q : Nat} (h : q < 4) (M : zi_M) (s : Nat) (x : Int32) : zk_fr k0 M (zi_sI M 1 (4 * k0 + q) s x) := ⟨rfl, fun c k j _ b _ _ => zp_o1 (fun z => b ⟨z.1, by omega, by omega⟩)⟩
theorem zk_fr_7 {k0 q : Nat} (h : (4 * k0 ≤ q ∧ q < 4 * k0 + 4) ∨ (100 + 40 * k0 ≤ q ∧ q < 140 + 40 * k0)) (M : zi_M) (g : Nat → Int32) : zk_fr k0 M (zp_w M 7 q g) := ⟨rfl, fun c k j _ _ _ f => by
  rw [zp_w1]
  by_cases hc : c = 7
  · by_cases hk : k = q
    · exact absurd ⟨hc, by rw [hk]; exact h⟩ f
    · rw [if_pos hc, if_neg hk]
  · rw [if_neg hc]⟩
theorem zf_is_c {f g : Nat → Int32} {s : zf_S} (h : zf_is f s) (hg : ∀ j, j < 6 → g j = f j) : zf_is g s := by
  obtain ⟨a0, a1, a2, a3, a4, a5⟩ := h
  exact ⟨(hg 0 (by omega)).trans a0, (hg 1 (by omega)).trans a1, (hg 2 (by omega)).trans a2, (hg 3 (by omega)).trans a3, (hg 4 (by omega)).trans a4, (hg 5 (by omega)).trans a5⟩
theorem zc_birdTake (d : Nat) (M : zi_M) {k0 k1 : Nat} (h : k1 ≠ k0) : zi_run (d + 1) zm_X1_take 0 [some (.inr (.inr (1, some k0))), some (.inr (.inr (1, some k1)))] [] M = some (none, zi_sI (zi_sI (zi_sI (zp_w M 7 k0 (fun j => if j < 6 then M.1 7 k1 j else M.1 7 k0 j)) 1 k0 1 (M.1 1 k1 1)) 1 k0 2 (M.1 1 k1 2)) 1 k0 3 (M.1 1 k1 3)) := by
  rw [ze_X1_take_0]
  simp only [↓zp_dn, ↓zp_hV, ↓zp_hI, ↓zp_hL, ↓zp_hR, ↓zp_hX, zp_eV, zp_eI, zp_eL, zp_eR, zp_eX, zp_eXl, zp_iV, zp_iI, zp_iL, zp_iR, ↓zp_sm, ↓zp_nls, ↓zp_nln, zp_bo0, zp_bo1, zp_okE, zp_ok2E, zp_rfE, ↓reduceIte, if_true, if_false, zc_takeG _ M h, zp_w1, Nat.reduceEqDiff, Nat.reduceLT, Nat.reduceLeDiff, Nat.reduceAdd, Nat.reduceMul, Nat.reduceSub, reduceCtorEq, Int32.reduceLT, Int32.reduceLE, not_true_eq_false, not_false_eq_true, and_true, true_and, and_false, false_and, or_true, true_or, or_false, false_or]
theorem zc_skyTake (d : Nat) {M : zi_M} {K : zf_K} {k0 k1 : Nat} (hne : k1 ≠ k0) (hk0 : k0 < 5) (hk1 : k1 < 5) (h4 : K.2.1 ≤ 4) (h40 : K.2.2.2.1 ≤ 40) (h : zf_cK M k1 K) : ∃ M', zi_run (d + 2) zm_X6_take 0 [some (.inr (.inr (6, some k0))), some (.inr (.inr (6, some k1))), none] [] M = some (none, M') ∧ zk_fr k0 M M' ∧ zf_cK M' k0 K ∧ M'.1 6 k0 3 = 1 := by
  obtain ⟨a1, a2, a3, a4, a5⟩ := h
  rw [ze_X6_take_0]
  have f0 : zk_fr k0 M (zi_sI (zi_sI (zi_sI (zi_sI M 6 k0 3 1) 6 k0 4 (M.1 6 k1 4)) 6 k0 5 (M.1 6 k1 5)) 6 k0 6 (M.1 6 k1 6)) := zk_fr_tr (zk_fr_tr (zk_fr_tr (zk_fr_6 k0 M _ _) (zk_fr_6 k0 _ _ _)) (zk_fr_6 k0 _ _ _)) (zk_fr_6 k0 _ _ _)
  have hd : ∀ x : Nat, x = 3 ∨ x = 4 ∨ x = 5 ∨ x = 6 → (zi_sI (zi_sI (zi_sI (zi_sI M 6 k0 3 1) 6 k0 4 (M.1 6 k1 4)) 6 k0 5 (M.1 6 k1 5)) 6 k0 6 (M.1 6 k1 6)).1 6 k0 x = if x = 3 then 1 else M.1 6 k1 x := by
    intro x hx
    rcases hx with e | e | e | e <;> subst e <;> simp [zp_sI1]
  generalize zi_sI (zi_sI (zi_sI (zi_sI M 6 k0 3 1) 6 k0 4 (M.1 6 k1 4)) 6 k0 5 (M.1 6 k1 5)) 6 k0 6 (M.1 6 k1 6) = M0 at f0 hd
  -- what holds after i birds
  have hP : ∀ (i : Nat) (N : zi_M), i ≤ 4 → (zk_fr k0 M N ∧ (∀ x, x = 3 ∨ x = 4 ∨ x = 5 ∨ x = 6 → N.1 6 k0 x = if x = 3 then 1 else M.1 6 k1 x) ∧ ∀ q, q < i → (∀ s, s = 1 ∨ s = 2 ∨ s = 3 → N.1 1 (4 * k0 + q) s = M.1 1 (4 * k1 + q) s) ∧ ∀ j, j < 6 → N.1 7 (4 * k0 + q) j = M.1 7 (4 * k1 + q) j) → ∃ M', zi_run (d + 2) zm_X6_take 31 [some (.inr (.inr (6, some k0))), some (.inr (.inr (6, some k1))), some (.inl (nI i))] [] N = some (none, M') ∧ zk_fr k0 M M' ∧ zf_cK M' k0 K ∧ M'.1 6 k0 3 = 1 := by
    intro i N hi hN
    refine zp_forE (fun i N => zi_run (d + 2) zm_X6_take 31 [some (.inr (.inr (6, some k0))), some (.inr (.inr (6, some k1))), some (.inl (nI i))] [] N) 4 (fun i N => zk_fr k0 M N ∧ (∀ x, x = 3 ∨ x = 4 ∨ x = 5 ∨ x = 6 → N.1 6 k0 x = if x = 3 then 1 else M.1 6 k1 x) ∧ ∀ q, q < i → (∀ s, s = 1 ∨ s = 2 ∨ s = 3 → N.1 1 (4 * k0 + q) s = M.1 1 (4 * k1 + q) s) ∧ ∀ j, j < 6 → N.1 7 (4 * k0 + q) j = M.1 7 (4 * k1 + q) j) (fun o => ∃ M', o = some (none, M') ∧ zk_fr k0 M M' ∧ zf_cK M' k0 K ∧ M'.1 6 k0 3 = 1) ?_ ?_ i N hi hN
    · intro N ⟨n1, n2, n3⟩
      show ∃ M', zi_run (d + 2) zm_X6_take 31 [some (.inr (.inr (6, some k0))), some (.inr (.inr (6, some k1))), some (.inl (nI 4))] [] N = some (none, M') ∧ _
      rw [ze_X6_take_31]
      simp (disch := omega) only [↓zp_dn, ↓zp_hV, ↓zp_hI, ↓zp_hL, ↓zp_hR, ↓zp_hX, zp_eV, zp_eI, zp_eL, zp_eR, zp_eX, zp_eXl, zp_iV, zp_iI, zp_iL, zp_iR, ↓zp_sm, ↓zp_nls, ↓zp_nln, zp_bo0, zp_bo1, zp_okE, zp_ok2E, zp_rfE, ↓reduceIte, if_true, if_false, zp_leT, zp_leF, zp_ltT, zp_ltF, zp_eqT, zp_eqF, zp_leTl, zp_leFl, zp_ltTl, zp_ltFl, zp_leTr, zp_leFr, zp_ltTr, zp_ltFr, zp_eqTr, zp_eqFr, zp_eqTl, zp_eqFl, zp_eqFll, eq_self, zp_addl, zp_addr, zp_mull, zp_mulr, zp_subr, zp_subl, nI_add, pk_mul]
      refine zp_forE (fun i N => zi_run (d + 2) zm_X6_take 59 [some (.inr (.inr (6, some k0))), some (.inr (.inr (6, some k1))), some (.inl (nI i))] [] N) K.2.2.2.1 (fun i N => zk_fr k0 M N ∧ (∀ x, x = 3 ∨ x = 4 ∨ x = 5 ∨ x = 6 → N.1 6 k0 x = if x = 3 then 1 else M.1 6 k1 x) ∧ (∀ q, q < 4 → (∀ s, s = 1 ∨ s = 2 ∨ s = 3 → N.1 1 (4 * k0 + q) s = M.1 1 (4 * k1 + q) s) ∧ ∀ j, j < 6 → N.1 7 (4 * k0 + q) j = M.1 7 (4 * k1 + q) j) ∧ ∀ q, q < i → N.1 14 k0 q = M.1 14 k1 q ∧ ∀ j, j < 6 → N.1 7 (100 + 40 * k0 + q) j = M.1 7 (100 + 40 * k1 + q) j) (fun o => ∃ M', o = some (none, M') ∧ zk_fr k0 M M' ∧ zf_cK M' k0 K ∧ M'.1 6 k0 3 = 1) ?_ ?_ 0 N (Nat.zero_le _) ⟨n1, n2, n3, fun q hq => by omega⟩
      · intro N ⟨n1, n2, n3, n4⟩
        have b6 : N.1 6 k0 6 = nI K.2.2.2.1 := (n2 6 (by omega)).trans a3
        refine ⟨N, ?_, n1, ⟨(n2 5 (by omega)).trans a1, (n2 4 (by omega)).trans a2, b6, fun q hq => ?_, fun q hq => ?_⟩, n2 3 (by omega)⟩
        · show zi_run (d + 2) zm_X6_take 59 [some (.inr (.inr (6, some k0))), some (.inr (.inr (6, some k1))), some (.inl (nI K.2.2.2.1))] [] N = some (none, N)
          rw [ze_X6_take_59]
          simp (disch := omega) only [↓zp_dn, ↓zp_hV, ↓zp_hI, ↓zp_hL, ↓zp_hR, ↓zp_hX, zp_eV, zp_eI, zp_eL, zp_eR, zp_eX, zp_eXl, zp_iV, zp_iI, zp_iL, zp_iR, ↓zp_sm, ↓zp_nls, ↓zp_nln, zp_bo0, zp_bo1, zp_okE, zp_ok2E, zp_rfE, ↓reduceIte, if_true, if_false, zp_leT, zp_leF, zp_ltT, zp_ltF, zp_eqT, zp_eqF, zp_leTl, zp_leFl, zp_ltTl, zp_ltFl, zp_leTr, zp_leFr, zp_ltTr, zp_ltFr, zp_eqTr, zp_eqFr, zp_eqTl, zp_eqFl, zp_eqFll, eq_self, zp_addl, zp_addr, zp_mull, zp_mulr, zp_subr, zp_subl, nI_add, pk_mul, b6]
        · obtain ⟨u1, u2⟩ := n3 q (by omega)
          obtain ⟨v1, v2, v3, v4⟩ := a4 q hq
          exact ⟨(u1 1 (by omega)).trans v1, (u1 2 (by omega)).trans v2, (u1 3 (by omega)).trans v3, zf_is_c v4 u2⟩
        · obtain ⟨u1, u2⟩ := n4 q hq
          obtain ⟨v1, v2⟩ := a5 q hq
          exact ⟨u1.trans v1, zf_is_c v2 u2⟩
      · intro i N hi ⟨n1, n2, n3, n4⟩
        have b6 : N.1 6 k0 6 = nI K.2.2.2.1 := (n2 6 (by omega)).trans a3
        refine ⟨zp_w (zi_sI N 14 k0 i (N.1 14 k1 i)) 7 (100 + 40 * k0 + i) (fun j => if j < 6 then (zi_sI N 14 k0 i (N.1 14 k1 i)).1 7 (100 + 40 * k1 + i) j else (zi_sI N 14 k0 i (N.1 14 k1 i)).1 7 (100 + 40 * k0 + i) j), ⟨zk_fr_tr n1 (zk_fr_tr (zk_fr_14 k0 N _ _) (zk_fr_7 (Or.inr ⟨by omega, by omega⟩) _ _)), fun x hx => ?_, fun q hq => ⟨fun s hs => ?_, fun j hj => ?_⟩, fun q hq => ⟨?_, fun j hj => ?_⟩⟩, ?_⟩
        · simp only [zp_w1, zp_sI1, Nat.reduceEqDiff, Nat.reduceLT, Nat.reduceLeDiff, Nat.reduceAdd, Nat.reduceMul, Nat.reduceSub, reduceCtorEq, Int32.reduceLT, Int32.reduceLE, not_true_eq_false, not_false_eq_true, and_true, true_and, and_false, false_and, or_true, true_or, or_false, false_or, ↓reduceIte]; exact n2 x hx
        · simp only [zp_w1, zp_sI1, Nat.reduceEqDiff, Nat.reduceLT, Nat.reduceLeDiff, Nat.reduceAdd, Nat.reduceMul, Nat.reduceSub, reduceCtorEq, Int32.reduceLT, Int32.reduceLE, not_true_eq_false, not_false_eq_true, and_true, true_and, and_false, false_and, or_true, true_or, or_false, false_or, ↓reduceIte]; exact (n3 q hq).1 s hs
        · simp only [zp_w1, zp_sI1, Nat.reduceEqDiff, Nat.reduceLT, Nat.reduceLeDiff, Nat.reduceAdd, Nat.reduceMul, Nat.reduceSub, reduceCtorEq, Int32.reduceLT, Int32.reduceLE, not_true_eq_false, not_false_eq_true, and_true, true_and, and_false, false_and, or_true, true_or, or_false, false_or, ↓reduceIte, if_neg (show ¬ 4 * k0 + q = 100 + 40 * k0 + i from by omega)]; exact (n3 q hq).2 j hj
        · have s14 : N.1 14 k1 i = M.1 14 k1 i := n1.2 14 k1 i (by omega) (by omega) (by omega) (by omega)
          simp only [zp_w1, zp_sI1, Nat.reduceEqDiff, Nat.reduceLT, Nat.reduceLeDiff, Nat.reduceAdd, Nat.reduceMul, Nat.reduceSub, reduceCtorEq, Int32.reduceLT, Int32.reduceLE, not_true_eq_false, not_false_eq_true, and_true, true_and, and_false, false_and, or_true, true_or, or_false, false_or, ↓reduceIte]
          by_cases e : q = i
          · rw [if_pos e, s14, e]
          · rw [if_neg e]; exact (n4 q (by omega)).1
        · have s7 : N.1 7 (100 + 40 * k1 + i) j = M.1 7 (100 + 40 * k1 + i) j := n1.2 7 _ j (by omega) (by omega) (by omega) (by omega)
          simp only [zp_w1, zp_sI1, Nat.reduceEqDiff, Nat.reduceLT, Nat.reduceLeDiff, Nat.reduceAdd, Nat.reduceMul, Nat.reduceSub, reduceCtorEq, Int32.reduceLT, Int32.reduceLE, not_true_eq_false, not_false_eq_true, and_true, true_and, and_false, false_and, or_true, true_or, or_false, false_or, ↓reduceIte]
          by_cases e : q = i
          · rw [if_pos (show 100 + 40 * k0 + q = 100 + 40 * k0 + i from by omega), if_pos hj, s7, e]
          · rw [if_neg (show ¬ 100 + 40 * k0 + q = 100 + 40 * k0 + i from by omega)]; exact (n4 q (by omega)).2 j hj
        · show zi_run (d + 2) zm_X6_take 59 [some (.inr (.inr (6, some k0))), some (.inr (.inr (6, some k1))), some (.inl (nI i))] [] N = _
          rw [ze_X6_take_59]
          simp (disch := omega) only [↓zp_dn, ↓zp_hV, ↓zp_hI, ↓zp_hL, ↓zp_hR, ↓zp_hX, zp_eV, zp_eI, zp_eL, zp_eR, zp_eX, zp_eXl, zp_iV, zp_iI, zp_iL, zp_iR, ↓zp_sm, ↓zp_nls, ↓zp_nln, zp_bo0, zp_bo1, zp_okE, zp_ok2E, zp_rfE, ↓reduceIte, if_true, if_false, zp_leT, zp_leF, zp_ltT, zp_ltF, zp_eqT, zp_eqF, zp_leTl, zp_leFl, zp_ltTl, zp_ltFl, zp_leTr, zp_leFr, zp_ltTr, zp_ltFr, zp_eqTr, zp_eqFr, zp_eqTl, zp_eqFl, zp_eqFll, eq_self, zp_addl, zp_addr, zp_mull, zp_mulr, zp_subr, zp_subl, nI_add, pk_mul, b6, zc_takeG _ (zi_sI N 14 k0 i (N.1 14 k1 i)) (show 100 + 40 * k1 + i ≠ 100 + 40 * k0 + i from by omega)]
    · intro i N hi ⟨n1, n2, n3⟩
      refine ⟨zi_sI (zi_sI (zi_sI (zp_w N 7 (4 * k0 + i) (fun j => if j < 6 then N.1 7 (4 * k1 + i) j else N.1 7 (4 * k0 + i) j)) 1 (4 * k0 + i) 1 (N.1 1 (4 * k1 + i) 1)) 1 (4 * k0 + i) 2 (N.1 1 (4 * k1 + i) 2)) 1 (4 * k0 + i) 3 (N.1 1 (4 * k1 + i) 3), ⟨zk_fr_tr n1 (zk_fr_tr (zk_fr_7 (Or.inl ⟨by omega, by omega⟩) N _) (zk_fr_tr (zk_fr_1 (by omega) _ _ _) (zk_fr_tr (zk_fr_1 (by omega) _ _ _) (zk_fr_1 (by omega) _ _ _)))), fun x hx => ?_, fun q hq => ⟨fun s hs => ?_, fun j hj => ?_⟩⟩, ?_⟩
      · simp only [zp_w1, zp_sI1, Nat.reduceEqDiff, Nat.reduceLT, Nat.reduceLeDiff, Nat.reduceAdd, Nat.reduceMul, Nat.reduceSub, reduceCtorEq, Int32.reduceLT, Int32.reduceLE, not_true_eq_false, not_false_eq_true, and_true, true_and, and_false, false_and, or_true, true_or, or_false, false_or, ↓reduceIte]; exact n2 x hx
      · have s1 : ∀ s, N.1 1 (4 * k1 + i) s = M.1 1 (4 * k1 + i) s := fun s => n1.2 1 _ s (by omega) (by omega) (by omega) (by omega)
        by_cases e : q = i
        · subst e
          rcases hs with e | e | e <;> subst e <;> simp [zp_w1, zp_sI1, s1]
        · have e2 : ¬ 4 * k0 + q = 4 * k0 + i := by omega
          simp only [zp_w1, zp_sI1, Nat.reduceEqDiff, Nat.reduceLT, Nat.reduceLeDiff, Nat.reduceAdd, Nat.reduceMul, Nat.reduceSub, reduceCtorEq, Int32.reduceLT, Int32.reduceLE, not_true_eq_false, not_false_eq_true, and_true, true_and, and_false, false_and, or_true, true_or, or_false, false_or, ↓reduceIte, if_neg e2, ite_self]
          exact (n3 q (by omega)).1 s hs
      · have s7 : N.1 7 (4 * k1 + i) j = M.1 7 (4 * k1 + i) j := n1.2 7 _ j (by omega) (by omega) (by omega) (by omega)
        simp only [zp_w1, zp_sI1, Nat.reduceEqDiff, Nat.reduceLT, Nat.reduceLeDiff, Nat.reduceAdd, Nat.reduceMul, Nat.reduceSub, reduceCtorEq, Int32.reduceLT, Int32.reduceLE, not_true_eq_false, not_false_eq_true, and_true, true_and, and_false, false_and, or_true, true_or, or_false, false_or, ↓reduceIte]
        by_cases e : q = i
        · rw [if_pos (show 4 * k0 + q = 4 * k0 + i from by omega), if_pos hj, s7, e]
        · rw [if_neg (show ¬ 4 * k0 + q = 4 * k0 + i from by omega)]; exact (n3 q (by omega)).2 j hj
      · show zi_run (d + 2) zm_X6_take 31 [some (.inr (.inr (6, some k0))), some (.inr (.inr (6, some k1))), some (.inl (nI i))] [] N = _
        rw [ze_X6_take_31]
        simp (disch := omega) only [↓zp_dn, ↓zp_hV, ↓zp_hI, ↓zp_hL, ↓zp_hR, ↓zp_hX, zp_eV, zp_eI, zp_eL, zp_eR, zp_eX, zp_eXl, zp_iV, zp_iI, zp_iL, zp_iR, ↓zp_sm, ↓zp_nls, ↓zp_nln, zp_bo0, zp_bo1, zp_okE, zp_ok2E, zp_rfE, ↓reduceIte, if_true, if_false, zp_leT, zp_leF, zp_ltT, zp_ltF, zp_eqT, zp_eqF, zp_leTl, zp_leFl, zp_ltTl, zp_ltFl, zp_leTr, zp_leFr, zp_ltTr, zp_ltFr, zp_eqTr, zp_eqFr, zp_eqTl, zp_eqFl, zp_eqFll, eq_self, zp_addl, zp_addr, zp_mull, zp_mulr, zp_subr, zp_subl, nI_add, pk_mul, zc_birdTake _ N (show 4 * k1 + i ≠ 4 * k0 + i from by omega)]
  exact hP 0 M0 (by omega) ⟨f0, hd, fun q hq => by omega⟩
