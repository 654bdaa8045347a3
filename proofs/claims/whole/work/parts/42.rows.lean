/-! THE PURE PART, rows and texts: the loops, and what a call does to both sides -/
theorem zp_for (F : Nat → zi_O) (n : Nat) (R : zi_O) (he : F n = R) (hs : ∀ i, i < n → F i = F (i + 1)) : ∀ i, i ≤ n → F i = R := by
  intro i hi
  induction hm : n - i generalizing i with
  | zero => rw [show i = n from by omega]; exact he
  | succ m ih => rw [hs i (by omega)]; exact ih (i + 1) (by omega) (by omega)
theorem zp_wU (M : zi_M) (c k : Nat) {f g : Nat → Int32} (h : ∀ j, f j = g j) : zp_w M c k f = zp_w M c k g := by rw [funext h]
theorem zp_ln (k : Nat) (h : k < 6) : zi_ln 12 k = 40 := by simp [zi_ln, h]
theorem zp_ln6 (k : Nat) : zi_ln 12 (6 + k) = 80 := by simp [zi_ln]
theorem zp_ofn (n : Nat) : Int32.ofNat n = nI n := by rw [nI]
theorem zp_mm {n L : Nat} (h : n ≤ L) (hL : L < 2 ^ 31) : zi_max 0 (zi_min (nI n) (nI L)) = nI n := by
  simp (disch := omega) only [zi_max, zi_min, ↓zp_dn, ↓zp_hV, ↓zp_hI, ↓zp_hL, ↓zp_hR, ↓zp_hX, zp_eV, zp_eI, zp_eL, zp_eR, zp_eX, zp_eXl, zp_iV, zp_iI, zp_iL, zp_iR, ↓zp_sm, ↓zp_nls, ↓zp_nln, zp_bo0, zp_bo1, zp_okE, zp_ok2E, zp_rfE, ↓reduceIte, if_true, if_false, zp_leT, zp_leF, zp_ltT, zp_ltF, zp_eqT, zp_eqF, zp_leTl, zp_leFl, zp_ltTl, zp_ltFl, zp_leTr, zp_leFr, zp_ltTr, zp_ltFr, zp_eqTr, zp_eqFr, zp_eqTl, zp_eqFl, zp_eqFll, eq_self, zp_addl, zp_addr, zp_mull, zp_mulr, zp_subr, zp_subl, nI_add, pk_mul]
  rcases Nat.eq_zero_or_pos n with e | e
  · subst e; rfl
  · simp (disch := omega) only [↓zp_dn, ↓zp_hV, ↓zp_hI, ↓zp_hL, ↓zp_hR, ↓zp_hX, zp_eV, zp_eI, zp_eL, zp_eR, zp_eX, zp_eXl, zp_iV, zp_iI, zp_iL, zp_iR, ↓zp_sm, ↓zp_nls, ↓zp_nln, zp_bo0, zp_bo1, zp_okE, zp_ok2E, zp_rfE, ↓reduceIte, if_true, if_false, zp_leT, zp_leF, zp_ltT, zp_ltF, zp_eqT, zp_eqF, zp_leTl, zp_leFl, zp_ltTl, zp_ltFl, zp_leTr, zp_leFr, zp_ltTr, zp_ltFr, zp_eqTr, zp_eqFr, zp_eqTl, zp_eqFl, zp_eqFll, eq_self, zp_addl, zp_addr, zp_mull, zp_mulr, zp_subr, zp_subl, nI_add, pk_mul]
theorem zl_make (d k n L : Nat) (x : Int32) (M : zi_M) (hL : zi_ln 12 k = L) (hn : n ≤ L) (h31 : L < 2 ^ 31) : zi_run d zm_X5_make 0 [some (.inr (.inr (5, some k))), some (.inl (nI n)), some (.inl x), none] [] M = some (none, zp_w (zi_sI M 5 k 1 (nI n)) 12 k (fun j => if j < n then x else M.1 12 k j)) := by
  rw [ze_X5_make_0, hL, zp_ofn, zp_mm hn h31]
  have key := zp_for (fun i => zi_run d zm_X5_make 19 [some (.inr (.inr (5, some k))), none, some (.inl x), some (.inl (nI i))] [] (zp_w (zi_sI M 5 k 1 (nI n)) 12 k (fun j => if j < i then x else M.1 12 k j))) n (some (none, zp_w (zi_sI M 5 k 1 (nI n)) 12 k (fun j => if j < n then x else M.1 12 k j))) ?_ ?_ 0 (Nat.zero_le n)
  · rw [← key]
    have e : zp_w (zi_sI M 5 k 1 (nI n)) 12 k (fun j => if j < 0 then x else M.1 12 k j) = zi_sI M 5 k 1 (nI n) := zp_w_id _ _ _ _ (fun j => by simp [zp_sI1])
    simp only [e]; rfl
  · rw [ze_X5_make_19]
    simp (disch := omega) only [zp_sI1, zp_w1, zp_sL1, zp_sR1, ↓zp_dn, ↓zp_hV, ↓zp_hI, ↓zp_hL, ↓zp_hR, ↓zp_hX, zp_eV, zp_eI, zp_eL, zp_eR, zp_eX, zp_eXl, zp_iV, zp_iI, zp_iL, zp_iR, ↓zp_sm, ↓zp_nls, ↓zp_nln, zp_bo0, zp_bo1, zp_okE, zp_ok2E, zp_rfE, ↓reduceIte, if_true, if_false, zp_leT, zp_leF, zp_ltT, zp_ltF, zp_eqT, zp_eqF, zp_leTl, zp_leFl, zp_ltTl, zp_ltFl, zp_leTr, zp_leFr, zp_ltTr, zp_ltFr, zp_eqTr, zp_eqFr, zp_eqTl, zp_eqFl, zp_eqFll, eq_self, zp_addl, zp_addr, zp_mull, zp_mulr, zp_subr, zp_subl, nI_add, pk_mul, Nat.reduceEqDiff, Nat.reduceLT, Nat.reduceLeDiff, Nat.reduceAdd, Nat.reduceMul, Nat.reduceSub, reduceCtorEq, Int32.reduceLT, Int32.reduceLE, not_true_eq_false, not_false_eq_true, and_true, true_and, and_false, false_and, or_true, true_or, or_false, false_or]
  · intro i hi
    rw [ze_X5_make_19, hL]
    simp (disch := omega) only [zp_sI1, zp_w1, zp_sL1, zp_sR1, ↓zp_dn, ↓zp_hV, ↓zp_hI, ↓zp_hL, ↓zp_hR, ↓zp_hX, zp_eV, zp_eI, zp_eL, zp_eR, zp_eX, zp_eXl, zp_iV, zp_iI, zp_iL, zp_iR, ↓zp_sm, ↓zp_nls, ↓zp_nln, zp_bo0, zp_bo1, zp_okE, zp_ok2E, zp_rfE, ↓reduceIte, if_true, if_false, zp_leT, zp_leF, zp_ltT, zp_ltF, zp_eqT, zp_eqF, zp_leTl, zp_leFl, zp_ltTl, zp_ltFl, zp_leTr, zp_leFr, zp_ltTr, zp_ltFr, zp_eqTr, zp_eqFr, zp_eqTl, zp_eqFl, zp_eqFll, eq_self, zp_addl, zp_addr, zp_mull, zp_mulr, zp_subr, zp_subl, nI_add, pk_mul, Nat.reduceEqDiff, Nat.reduceLT, Nat.reduceLeDiff, Nat.reduceAdd, Nat.reduceMul, Nat.reduceSub, reduceCtorEq, Int32.reduceLT, Int32.reduceLE, not_true_eq_false, not_false_eq_true, and_true, true_and, and_false, false_and, or_true, true_or, or_false, false_or]
    rw [zp_wsI]
    congr 1
    refine zp_wU _ _ _ (fun j => ?_)
    by_cases h1 : j = i
    · subst h1; simp
    · by_cases h2 : j < i
      · simp [h1, h2, Nat.lt_succ_of_lt h2]
      · simp [h1, h2, show ¬ j < i + 1 from by omega]
theorem zp_lw (M : zi_M) (c k : Nat) (x : Int32) (a i : Nat) (v : Nat → Int32) (hx : x = v i) : zi_sI (zp_w M c k (fun j => if a ≤ j ∧ j < a + i then v (j - a) else M.1 c k j)) c k (a + i) x = zp_w M c k (fun j => if a ≤ j ∧ j < a + (i + 1) then v (j - a) else M.1 c k j) := by
  rw [zp_wsI, hx]
  refine zp_wU _ _ _ (fun j => ?_)
  by_cases h1 : j = a + i
  · subst h1; simp
  · by_cases h2 : a ≤ j ∧ j < a + i
    · rw [if_neg h1, if_pos h2, if_pos (by omega)]
    · rw [if_neg h1, if_neg h2, if_neg (by omega)]
theorem zp_lw0 (M : zi_M) (c k : Nat) (a : Nat) (v : Nat → Int32) : zp_w M c k (fun j => if a ≤ j ∧ j < a + 0 then v (j - a) else M.1 c k j) = M := zp_w_id _ _ _ _ (fun j => by rw [if_neg (by omega)])
/-- places a .. a + n - 1 of a cell anew -/
def zp_l (M : zi_M) (c k a n : Nat) (v : Nat → Int32) : zi_M := zp_w M c k (fun j => if a ≤ j ∧ j < a + n then v (j - a) else M.1 c k j)
theorem zp_l1 (M : zi_M) (c k a n : Nat) (v : Nat → Int32) (c' k' s' : Nat) : (zp_l M c k a n v).1 c' k' s' = if c' = c then (if k' = k then (if a ≤ s' ∧ s' < a + n then v (s' - a) else M.1 c k s') else M.1 c' k' s') else M.1 c' k' s' := (rfl)
theorem zp_l2 (M : zi_M) (c k a n : Nat) (v : Nat → Int32) : (zp_l M c k a n v).2 = M.2 := (rfl)
theorem zp_l0 (M : zi_M) (c k a : Nat) (v : Nat → Int32) : zp_l M c k a 0 v = M := zp_lw0 M c k a v
theorem zp_lS (M : zi_M) (c k a i : Nat) (v : Nat → Int32) (x : Int32) (h : x = v i) : zi_sI (zp_l M c k a i v) c k (a + i) x = zp_l M c k a (i + 1) v := zp_lw M c k x a i v h
theorem zp_lS0 (M : zi_M) (c k i : Nat) (v : Nat → Int32) (x : Int32) (h : x = v i) : zi_sI (zp_l M c k 0 i v) c k i x = zp_l M c k 0 (i + 1) v := by
  have := zp_lS M c k 0 i v x h
  rwa [Nat.zero_add] at this
theorem zq_ag_l {g : Nat} {M M1 : zi_M} {c k a n : Nat} {f : Nat → Int32} (h : zq_ag g M M1) (hn : ∀ s, zq_gp c k s ≠ g) : zq_ag g M (zp_l M1 c k a n f) := zq_ag_w h hn
theorem zl_make2 (d k n L : Nat) (x : Int32) (M : zi_M) (hL : zi_ln 12 k = L) (hn : n ≤ L) (h31 : L < 2 ^ 31) : zi_run d zm_X5_make 0 [some (.inr (.inr (5, some k))), some (.inl (nI n)), some (.inl x), none] [] M = some (none, zp_l (zi_sI M 5 k 1 (nI n)) 12 k 0 n (fun _ => x)) := by
  rw [zl_make d k n L x M hL hn h31]
  congr 2
  refine zp_wU _ _ _ (fun j => ?_)
  simp [zp_sI1]
theorem zl_row (d r n : Nat) (M : zi_M) (hr : r < 6) (hn : n ≤ 40) : zi_run d zm_X10_row 34 [some (.inr (.inr (10, some 0))), some (.inl (nI r)), some (.inl (nI n)), some (.inl 0)] [] M = some (some (.inl (nI n)), zp_l M 25 0 (40 * r) n (fun _ => 0)) := by
  have key := zp_for (fun i => zi_run d zm_X10_row 34 [some (.inr (.inr (10, some 0))), some (.inl (nI r)), some (.inl (nI n)), some (.inl (nI i))] [] (zp_l M 25 0 (40 * r) i (fun _ => 0))) n (some (some (.inl (nI n)), zp_l M 25 0 (40 * r) n (fun _ => 0))) ?_ ?_ 0 (Nat.zero_le n)
  · rw [← key, zp_l0]; rfl
  · rw [ze_X10_row_34]
    simp (disch := omega) only [zp_sI1, zp_w1, zp_sL1, zp_sR1, ↓zp_dn, ↓zp_hV, ↓zp_hI, ↓zp_hL, ↓zp_hR, ↓zp_hX, zp_eV, zp_eI, zp_eL, zp_eR, zp_eX, zp_eXl, zp_iV, zp_iI, zp_iL, zp_iR, ↓zp_sm, ↓zp_nls, ↓zp_nln, zp_bo0, zp_bo1, zp_okE, zp_ok2E, zp_rfE, ↓reduceIte, if_true, if_false, zp_leT, zp_leF, zp_ltT, zp_ltF, zp_eqT, zp_eqF, zp_leTl, zp_leFl, zp_ltTl, zp_ltFl, zp_leTr, zp_leFr, zp_ltTr, zp_ltFr, zp_eqTr, zp_eqFr, zp_eqTl, zp_eqFl, zp_eqFll, eq_self, zp_addl, zp_addr, zp_mull, zp_mulr, zp_subr, zp_subl, nI_add, pk_mul, Nat.reduceEqDiff, Nat.reduceLT, Nat.reduceLeDiff, Nat.reduceAdd, Nat.reduceMul, Nat.reduceSub, reduceCtorEq, Int32.reduceLT, Int32.reduceLE, not_true_eq_false, not_false_eq_true, and_true, true_and, and_false, false_and, or_true, true_or, or_false, false_or]
  · intro i hi
    rw [ze_X10_row_34]
    simp (disch := omega) only [zp_sI1, zp_w1, zp_sL1, zp_sR1, ↓zp_dn, ↓zp_hV, ↓zp_hI, ↓zp_hL, ↓zp_hR, ↓zp_hX, zp_eV, zp_eI, zp_eL, zp_eR, zp_eX, zp_eXl, zp_iV, zp_iI, zp_iL, zp_iR, ↓zp_sm, ↓zp_nls, ↓zp_nln, zp_bo0, zp_bo1, zp_okE, zp_ok2E, zp_rfE, ↓reduceIte, if_true, if_false, zp_leT, zp_leF, zp_ltT, zp_ltF, zp_eqT, zp_eqF, zp_leTl, zp_leFl, zp_ltTl, zp_ltFl, zp_leTr, zp_leFr, zp_ltTr, zp_ltFr, zp_eqTr, zp_eqFr, zp_eqTl, zp_eqFl, zp_eqFll, eq_self, zp_addl, zp_addr, zp_mull, zp_mulr, zp_subr, zp_subl, nI_add, pk_mul, Nat.reduceEqDiff, Nat.reduceLT, Nat.reduceLeDiff, Nat.reduceAdd, Nat.reduceMul, Nat.reduceSub, reduceCtorEq, Int32.reduceLT, Int32.reduceLE, not_true_eq_false, not_false_eq_true, and_true, true_and, and_false, false_and, or_true, true_or, or_false, false_or]
    rw [zp_lS _ _ _ _ _ _ _ rfl]
theorem zl_text (d r n : Nat) (M : zi_M) (hr : r < 4) (hn : n ≤ 80) : zi_run d zm_X10_text 34 [some (.inr (.inr (10, some 0))), some (.inl (nI r)), some (.inl (nI n)), some (.inl 0)] [] M = some (some (.inl (nI n)), zp_l M 27 0 (80 * r) n (fun _ => 32)) := by
  have key := zp_for (fun i => zi_run d zm_X10_text 34 [some (.inr (.inr (10, some 0))), some (.inl (nI r)), some (.inl (nI n)), some (.inl (nI i))] [] (zp_l M 27 0 (80 * r) i (fun _ => 32))) n (some (some (.inl (nI n)), zp_l M 27 0 (80 * r) n (fun _ => 32))) ?_ ?_ 0 (Nat.zero_le n)
  · rw [← key, zp_l0]; rfl
  · rw [ze_X10_text_34]
    simp (disch := omega) only [zp_sI1, zp_w1, zp_sL1, zp_sR1, ↓zp_dn, ↓zp_hV, ↓zp_hI, ↓zp_hL, ↓zp_hR, ↓zp_hX, zp_eV, zp_eI, zp_eL, zp_eR, zp_eX, zp_eXl, zp_iV, zp_iI, zp_iL, zp_iR, ↓zp_sm, ↓zp_nls, ↓zp_nln, zp_bo0, zp_bo1, zp_okE, zp_ok2E, zp_rfE, ↓reduceIte, if_true, if_false, zp_leT, zp_leF, zp_ltT, zp_ltF, zp_eqT, zp_eqF, zp_leTl, zp_leFl, zp_ltTl, zp_ltFl, zp_leTr, zp_leFr, zp_ltTr, zp_ltFr, zp_eqTr, zp_eqFr, zp_eqTl, zp_eqFl, zp_eqFll, eq_self, zp_addl, zp_addr, zp_mull, zp_mulr, zp_subr, zp_subl, nI_add, pk_mul, Nat.reduceEqDiff, Nat.reduceLT, Nat.reduceLeDiff, Nat.reduceAdd, Nat.reduceMul, Nat.reduceSub, reduceCtorEq, Int32.reduceLT, Int32.reduceLE, not_true_eq_false, not_false_eq_true, and_true, true_and, and_false, false_and, or_true, true_or, or_false, false_or]
  · intro i hi
    rw [ze_X10_text_34]
    simp (disch := omega) only [zp_sI1, zp_w1, zp_sL1, zp_sR1, ↓zp_dn, ↓zp_hV, ↓zp_hI, ↓zp_hL, ↓zp_hR, ↓zp_hX, zp_eV, zp_eI, zp_eL, zp_eR, zp_eX, zp_eXl, zp_iV, zp_iI, zp_iL, zp_iR, ↓zp_sm, ↓zp_nls, ↓zp_nln, zp_bo0, zp_bo1, zp_okE, zp_ok2E, zp_rfE, ↓reduceIte, if_true, if_false, zp_leT, zp_leF, zp_ltT, zp_ltF, zp_eqT, zp_eqF, zp_leTl, zp_leFl, zp_ltTl, zp_ltFl, zp_leTr, zp_leFr, zp_ltTr, zp_ltFr, zp_eqTr, zp_eqFr, zp_eqTl, zp_eqFl, zp_eqFll, eq_self, zp_addl, zp_addr, zp_mull, zp_mulr, zp_subr, zp_subl, nI_add, pk_mul, Nat.reduceEqDiff, Nat.reduceLT, Nat.reduceLeDiff, Nat.reduceAdd, Nat.reduceMul, Nat.reduceSub, reduceCtorEq, Int32.reduceLT, Int32.reduceLE, not_true_eq_false, not_false_eq_true, and_true, true_and, and_false, false_and, or_true, true_or, or_false, false_or]
    rw [zp_lS _ _ _ _ _ _ _ rfl]
theorem zl_copy1 (d r i t j n : Nat) (M : zi_M) (hr : r < 6) (ht : t < 6) (hi : i + n ≤ 40) (hj : j + n ≤ 40) : zi_run d zm_X10_copy 104 [some (.inr (.inr (10, some 0))), some (.inl (nI r)), some (.inl (nI i)), some (.inl (nI t)), some (.inl (nI j)), some (.inl (nI n)), some (.inl 0)] [] M = zi_run d zm_X10_copy 141 [some (.inr (.inr (10, some 0))), none, none, some (.inl (nI t)), some (.inl (nI j)), some (.inl (nI n)), some (.inl 0)] [] (zp_l M 32 0 0 n (fun q => M.1 25 0 (40 * r + i + q))) := by
  have key := zp_for (fun q => zi_run d zm_X10_copy 104 [some (.inr (.inr (10, some 0))), some (.inl (nI r)), some (.inl (nI i)), some (.inl (nI t)), some (.inl (nI j)), some (.inl (nI n)), some (.inl (nI q))] [] (zp_l M 32 0 0 q (fun q => M.1 25 0 (40 * r + i + q)))) n (zi_run d zm_X10_copy 141 [some (.inr (.inr (10, some 0))), none, none, some (.inl (nI t)), some (.inl (nI j)), some (.inl (nI n)), some (.inl 0)] [] (zp_l M 32 0 0 n (fun q => M.1 25 0 (40 * r + i + q)))) ?_ ?_ 0 (Nat.zero_le n)
  · rw [← key, zp_l0]; rfl
  · rw [ze_X10_copy_104]
    simp (disch := omega) only [zp_sI1, zp_w1, zp_sL1, zp_sR1, ↓zp_dn, ↓zp_hV, ↓zp_hI, ↓zp_hL, ↓zp_hR, ↓zp_hX, zp_eV, zp_eI, zp_eL, zp_eR, zp_eX, zp_eXl, zp_iV, zp_iI, zp_iL, zp_iR, ↓zp_sm, ↓zp_nls, ↓zp_nln, zp_bo0, zp_bo1, zp_okE, zp_ok2E, zp_rfE, ↓reduceIte, if_true, if_false, zp_leT, zp_leF, zp_ltT, zp_ltF, zp_eqT, zp_eqF, zp_leTl, zp_leFl, zp_ltTl, zp_ltFl, zp_leTr, zp_leFr, zp_ltTr, zp_ltFr, zp_eqTr, zp_eqFr, zp_eqTl, zp_eqFl, zp_eqFll, eq_self, zp_addl, zp_addr, zp_mull, zp_mulr, zp_subr, zp_subl, nI_add, pk_mul, Nat.reduceEqDiff, Nat.reduceLT, Nat.reduceLeDiff, Nat.reduceAdd, Nat.reduceMul, Nat.reduceSub, reduceCtorEq, Int32.reduceLT, Int32.reduceLE, not_true_eq_false, not_false_eq_true, and_true, true_and, and_false, false_and, or_true, true_or, or_false, false_or]
  · intro q hq
    rw [ze_X10_copy_104]
    simp (disch := omega) only [zp_sI1, zp_w1, zp_sL1, zp_sR1, zp_l1, ↓zp_dn, ↓zp_hV, ↓zp_hI, ↓zp_hL, ↓zp_hR, ↓zp_hX, zp_eV, zp_eI, zp_eL, zp_eR, zp_eX, zp_eXl, zp_iV, zp_iI, zp_iL, zp_iR, ↓zp_sm, ↓zp_nls, ↓zp_nln, zp_bo0, zp_bo1, zp_okE, zp_ok2E, zp_rfE, ↓reduceIte, if_true, if_false, zp_leT, zp_leF, zp_ltT, zp_ltF, zp_eqT, zp_eqF, zp_leTl, zp_leFl, zp_ltTl, zp_ltFl, zp_leTr, zp_leFr, zp_ltTr, zp_ltFr, zp_eqTr, zp_eqFr, zp_eqTl, zp_eqFl, zp_eqFll, eq_self, zp_addl, zp_addr, zp_mull, zp_mulr, zp_subr, zp_subl, nI_add, pk_mul, Nat.reduceEqDiff, Nat.reduceLT, Nat.reduceLeDiff, Nat.reduceAdd, Nat.reduceMul, Nat.reduceSub, reduceCtorEq, Int32.reduceLT, Int32.reduceLE, not_true_eq_false, not_false_eq_true, and_true, true_and, and_false, false_and, or_true, true_or, or_false, false_or]
    rw [zp_lS0 _ _ _ _ _ _ rfl]
theorem zl_copy2 (d t j n : Nat) (v : Nat → Int32) (M : zi_M) (ht : t < 6) (hj : j + n ≤ 40) (hv : ∀ q, q < n → M.1 32 0 q = v q) : zi_run d zm_X10_copy 141 [some (.inr (.inr (10, some 0))), none, none, some (.inl (nI t)), some (.inl (nI j)), some (.inl (nI n)), some (.inl 0)] [] M = some (some (.inl 1), zp_l M 25 0 (40 * t + j) n v) := by
  have key := zp_for (fun q => zi_run d zm_X10_copy 141 [some (.inr (.inr (10, some 0))), none, none, some (.inl (nI t)), some (.inl (nI j)), some (.inl (nI n)), some (.inl (nI q))] [] (zp_l M 25 0 (40 * t + j) q v)) n (some (some (.inl 1), zp_l M 25 0 (40 * t + j) n v)) ?_ ?_ 0 (Nat.zero_le n)
  · rw [← key, zp_l0]; rfl
  · rw [ze_X10_copy_141]
    simp (disch := omega) only [zp_sI1, zp_w1, zp_sL1, zp_sR1, ↓zp_dn, ↓zp_hV, ↓zp_hI, ↓zp_hL, ↓zp_hR, ↓zp_hX, zp_eV, zp_eI, zp_eL, zp_eR, zp_eX, zp_eXl, zp_iV, zp_iI, zp_iL, zp_iR, ↓zp_sm, ↓zp_nls, ↓zp_nln, zp_bo0, zp_bo1, zp_okE, zp_ok2E, zp_rfE, ↓reduceIte, if_true, if_false, zp_leT, zp_leF, zp_ltT, zp_ltF, zp_eqT, zp_eqF, zp_leTl, zp_leFl, zp_ltTl, zp_ltFl, zp_leTr, zp_leFr, zp_ltTr, zp_ltFr, zp_eqTr, zp_eqFr, zp_eqTl, zp_eqFl, zp_eqFll, eq_self, zp_addl, zp_addr, zp_mull, zp_mulr, zp_subr, zp_subl, nI_add, pk_mul, Nat.reduceEqDiff, Nat.reduceLT, Nat.reduceLeDiff, Nat.reduceAdd, Nat.reduceMul, Nat.reduceSub, reduceCtorEq, Int32.reduceLT, Int32.reduceLE, not_true_eq_false, not_false_eq_true, and_true, true_and, and_false, false_and, or_true, true_or, or_false, false_or]
  · intro q hq
    rw [ze_X10_copy_141]
    simp (disch := omega) only [zp_sI1, zp_w1, zp_sL1, zp_sR1, zp_l1, ↓zp_dn, ↓zp_hV, ↓zp_hI, ↓zp_hL, ↓zp_hR, ↓zp_hX, zp_eV, zp_eI, zp_eL, zp_eR, zp_eX, zp_eXl, zp_iV, zp_iI, zp_iL, zp_iR, ↓zp_sm, ↓zp_nls, ↓zp_nln, zp_bo0, zp_bo1, zp_okE, zp_ok2E, zp_rfE, ↓reduceIte, if_true, if_false, zp_leT, zp_leF, zp_ltT, zp_ltF, zp_eqT, zp_eqF, zp_leTl, zp_leFl, zp_ltTl, zp_ltFl, zp_leTr, zp_leFr, zp_ltTr, zp_ltFr, zp_eqTr, zp_eqFr, zp_eqTl, zp_eqFl, zp_eqFll, eq_self, zp_addl, zp_addr, zp_mull, zp_mulr, zp_subr, zp_subl, nI_add, pk_mul, Nat.reduceEqDiff, Nat.reduceLT, Nat.reduceLeDiff, Nat.reduceAdd, Nat.reduceMul, Nat.reduceSub, reduceCtorEq, Int32.reduceLT, Int32.reduceLE, not_true_eq_false, not_false_eq_true, and_true, true_and, and_false, false_and, or_true, true_or, or_false, false_or]
    rw [zp_lS _ _ _ _ _ _ _ (hv q hq)]
/-- a running sum -/
def zp_sum (f : Nat → Int32) : Nat → Int64
  | 0 => 0
  | n + 1 => zp_sum f n + Int32.toInt64 (f n)
theorem zp_sum0 (f : Nat → Int32) : zp_sum f 0 = 0 := (rfl)
theorem zp_sumS (f : Nat → Int32) (n : Nat) : zp_sum f (n + 1) = zp_sum f n + Int32.toInt64 (f n) := (rfl)
theorem zp_sum_c {f g : Nat → Int32} {n : Nat} (h : ∀ j, j < n → f j = g j) : zp_sum f n = zp_sum g n := by
  induction n with
  | zero => rfl
  | succ n ih => simp only [zp_sum]; rw [ih (fun j hj => h j (by omega)), h n (by omega)]
theorem zl_get (d k i n L : Nat) (M : zi_M) (hL : zi_ln 12 k = L) (hs : M.1 5 k 1 = nI n) (hi : i < n) (hn : n ≤ L) (h31 : L < 2 ^ 31) : zi_run d zm_X5_get 0 [some (.inr (.inr (5, some k))), some (.inl (nI i))] [] M = some (some (.inl (M.1 12 k i)), M) := by
  rw [ze_X5_get_0, hL, hs, zp_ofn]
  simp (disch := omega) only [↓zp_dn, ↓zp_hV, ↓zp_hI, ↓zp_hL, ↓zp_hR, ↓zp_hX, zp_eV, zp_eI, zp_eL, zp_eR, zp_eX, zp_eXl, zp_iV, zp_iI, zp_iL, zp_iR, ↓zp_sm, ↓zp_nls, ↓zp_nln, zp_bo0, zp_bo1, zp_okE, zp_ok2E, zp_rfE, ↓reduceIte, if_true, if_false, zp_leT, zp_leF, zp_ltT, zp_ltF, zp_eqT, zp_eqF, zp_leTl, zp_leFl, zp_ltTl, zp_ltFl, zp_leTr, zp_leFr, zp_ltTr, zp_ltFr, zp_eqTr, zp_eqFr, zp_eqTl, zp_eqFl, zp_eqFll, eq_self, zp_addl, zp_addr, zp_mull, zp_mulr, zp_subr, zp_subl, nI_add, pk_mul, Nat.reduceEqDiff, Nat.reduceLT, Nat.reduceLeDiff, Nat.reduceAdd, Nat.reduceMul, Nat.reduceSub, reduceCtorEq, Int32.reduceLT, Int32.reduceLE, not_true_eq_false, not_false_eq_true, and_true, true_and, and_false, false_and, or_true, true_or, or_false, false_or]
theorem zl_meanXe (d k n : Nat) (y : Int64) (M : zi_M) (h0 : 0 < n) (hn : n < 2 ^ 31) : zi_run (d + 1) zm_X9_mean 46 [some (.inr (.inr (9, some 0))), none, some (.inr (.inr (5, some k))), some (.inl (nI n)), some (.inr (.inl y)), none, some (.inl (nI n))] [] M = some (some (.inl 1), zi_sI M 9 0 13 (Int64.toInt32 (y / lN n))) := by
  rw [ze_X9_mean_46]
  have e : ¬ lN n = 0 := fun h => by have := (lN_eq (a := n) (b := 0) (by omega) (by omega)).mp h; omega
  rw [if_pos (nI_le (Nat.le_refl n) hn), nI_l hn, if_neg e]
theorem zl_meanXs (d k i n L : Nat) (y : Int64) (M : zi_M) (hL : zi_ln 12 k = L) (hs : M.1 5 k 1 = nI n) (hi : i < n) (hn : n ≤ L) (h31 : L < 2 ^ 31) : zi_run (d + 1) zm_X9_mean 46 [some (.inr (.inr (9, some 0))), none, some (.inr (.inr (5, some k))), some (.inl (nI n)), some (.inr (.inl y)), none, some (.inl (nI i))] [] M = zi_run (d + 1) zm_X9_mean 46 [some (.inr (.inr (9, some 0))), none, some (.inr (.inr (5, some k))), some (.inl (nI n)), some (.inr (.inl (y + Int32.toInt64 (M.1 12 k i)))), none, some (.inl (nI (i + 1)))] [] M := by
  rw [ze_X9_mean_46, if_neg (nI_ge hi (by omega)), zp_sm, zp_dn, zl_get d k i n L M hL hs hi hn h31, zp_cI, nI_1]
theorem zl_meanX (d k n L : Nat) (M : zi_M) (hL : zi_ln 12 k = L) (hs : M.1 5 k 1 = nI n) (h0 : 0 < n) (hn : n ≤ L) (h31 : L < 2 ^ 31) : zi_run (d + 1) zm_X9_mean 46 [some (.inr (.inr (9, some 0))), none, some (.inr (.inr (5, some k))), some (.inl (nI n)), some (.inr (.inl 0)), none, some (.inl 0)] [] M = some (some (.inl 1), zi_sI M 9 0 13 (Int64.toInt32 (zp_sum (M.1 12 k) n / lN n))) :=
  zp_for (fun i => zi_run (d + 1) zm_X9_mean 46 [some (.inr (.inr (9, some 0))), none, some (.inr (.inr (5, some k))), some (.inl (nI n)), some (.inr (.inl (zp_sum (M.1 12 k) i))), none, some (.inl (nI i))] [] M) n (some (some (.inl 1), zi_sI M 9 0 13 (Int64.toInt32 (zp_sum (M.1 12 k) n / lN n)))) (zl_meanXe d k n _ M h0 (by omega)) (fun i hi => zl_meanXs d k i n L _ M hL hs hi hn h31) 0 (Nat.zero_le n)
theorem zl_meanM (d r n : Nat) (M : zi_M) (hr : r < 6) (hs : M.1 24 0 r = nI n) (h0 : 0 < n) (hn : n ≤ 40) : zi_run (d + 1) zm_X10_mean 44 [some (.inr (.inr (10, some 0))), some (.inl (nI r)), some (.inr (.inl 0)), none, some (.inl 0)] [] M = some (some (.inl 1), zi_sI M 10 0 9 (Int64.toInt32 (zp_sum (fun j => M.1 25 0 (40 * r + j)) n / lN n))) := by
  have key := zp_for (fun i => zi_run (d + 1) zm_X10_mean 44 [some (.inr (.inr (10, some 0))), some (.inl (nI r)), some (.inr (.inl (zp_sum (fun j => M.1 25 0 (40 * r + j)) i))), none, some (.inl (nI i))] [] M) n (some (some (.inl 1), zi_sI M 10 0 9 (Int64.toInt32 (zp_sum (fun j => M.1 25 0 (40 * r + j)) n / lN n)))) ?_ ?_ 0 (Nat.zero_le n)
  · refine Eq.trans ?_ key
    rw [zp_sum0, nI_0]
  · rw [ze_X10_mean_44]
    have e : ¬ lN n = 0 := fun h => by have := (lN_eq (a := n) (b := 0) (by omega) (by omega)).mp h; omega
    simp (disch := omega) only [↓zp_dn, ↓zp_hV, ↓zp_hI, ↓zp_hL, ↓zp_hR, ↓zp_hX, zp_eV, zp_eI, zp_eL, zp_eR, zp_eX, zp_eXl, zp_iV, zp_iI, zp_iL, zp_iR, ↓zp_sm, ↓zp_nls, ↓zp_nln, zp_bo0, zp_bo1, zp_okE, zp_ok2E, zp_rfE, ↓reduceIte, if_true, if_false, ze_X10_tells_0, hs, zp_sI1, zp_w1, zp_sL1, zp_sR1, ↓zp_dn, ↓zp_hV, ↓zp_hI, ↓zp_hL, ↓zp_hR, ↓zp_hX, zp_eV, zp_eI, zp_eL, zp_eR, zp_eX, zp_eXl, zp_iV, zp_iI, zp_iL, zp_iR, ↓zp_sm, ↓zp_nls, ↓zp_nln, zp_bo0, zp_bo1, zp_okE, zp_ok2E, zp_rfE, ↓reduceIte, if_true, if_false, zp_leT, zp_leF, zp_ltT, zp_ltF, zp_eqT, zp_eqF, zp_leTl, zp_leFl, zp_ltTl, zp_ltFl, zp_leTr, zp_leFr, zp_ltTr, zp_ltFr, zp_eqTr, zp_eqFr, zp_eqTl, zp_eqFl, zp_eqFll, eq_self, zp_addl, zp_addr, zp_mull, zp_mulr, zp_subr, zp_subl, nI_add, pk_mul, Nat.reduceEqDiff, Nat.reduceLT, Nat.reduceLeDiff, Nat.reduceAdd, Nat.reduceMul, Nat.reduceSub, reduceCtorEq, Int32.reduceLT, Int32.reduceLE, not_true_eq_false, not_false_eq_true, and_true, true_and, and_false, false_and, or_true, true_or, or_false, false_or, nI_l, if_neg e]
  · intro i hi
    rw [ze_X10_mean_44]
    simp (disch := omega) only [↓zp_dn, ↓zp_hV, ↓zp_hI, ↓zp_hL, ↓zp_hR, ↓zp_hX, zp_eV, zp_eI, zp_eL, zp_eR, zp_eX, zp_eXl, zp_iV, zp_iI, zp_iL, zp_iR, ↓zp_sm, ↓zp_nls, ↓zp_nln, zp_bo0, zp_bo1, zp_okE, zp_ok2E, zp_rfE, ↓reduceIte, if_true, if_false, hs, zp_sI1, zp_w1, zp_sL1, zp_sR1, ↓zp_dn, ↓zp_hV, ↓zp_hI, ↓zp_hL, ↓zp_hR, ↓zp_hX, zp_eV, zp_eI, zp_eL, zp_eR, zp_eX, zp_eXl, zp_iV, zp_iI, zp_iL, zp_iR, ↓zp_sm, ↓zp_nls, ↓zp_nln, zp_bo0, zp_bo1, zp_okE, zp_ok2E, zp_rfE, ↓reduceIte, if_true, if_false, zp_leT, zp_leF, zp_ltT, zp_ltF, zp_eqT, zp_eqF, zp_leTl, zp_leFl, zp_ltTl, zp_ltFl, zp_leTr, zp_leFr, zp_ltTr, zp_ltFr, zp_eqTr, zp_eqFr, zp_eqTl, zp_eqFl, zp_eqFll, eq_self, zp_addl, zp_addr, zp_mull, zp_mulr, zp_subr, zp_subl, nI_add, pk_mul, Nat.reduceEqDiff, Nat.reduceLT, Nat.reduceLeDiff, Nat.reduceAdd, Nat.reduceMul, Nat.reduceSub, reduceCtorEq, Int32.reduceLT, Int32.reduceLE, not_true_eq_false, not_false_eq_true, and_true, true_and, and_false, false_and, or_true, true_or, or_false, false_or]
    rw [zp_sumS]
/-- what both sides note -/
theorem zq_mk {n : Nat} {xs : Nat → Int32} {M M2 : zi_M} (hI : zq_inv n xs M) (h1 : zq_rows M2) (h2 : zq_texts M2) (h3 : zq_told M2) (hl : zq_longs M2) (h4 : zq_ag 4 M M2) (h6 : zq_ag 6 M M2) (h5 : zq_ag 5 M M2) : zq_inv n xs M2 := by
  obtain ⟨A, K, h⟩ := hI.2.2.2.2.1
  exact ⟨h1, h2, h3, hl, ⟨A, K, zq_sky_ag h4 h6 h⟩, zq_con_ag h5 hI.2.2.2.2.2⟩
theorem zq_find {n : Nat} {xs : Nat → Int32} {M : zi_M} (hI : zq_inv n xs M) (f : Nat) (x : Int32) : zq_inv n xs (zi_sI (zi_sI (zi_sI (zi_sI M 9 0 12 x) 22 0 f (M.1 22 0 f + 1)) 10 0 8 x) 31 0 f (M.1 31 0 f + 1)) := by
  refine zq_mk hI (zq_rows_ag (by repeat' first | exact zq_ag_rfl _ _ | refine zq_ag_sI ?_ (by simp [zq_gp]) | refine zq_ag_w ?_ (fun _ => by simp [zq_gp]) | refine zq_ag_l ?_ (fun _ => by simp [zq_gp]) | refine zq_ag_sL ?_ | refine zq_ag_sR ?_) hI.1) (zq_texts_ag (by repeat' first | exact zq_ag_rfl _ _ | refine zq_ag_sI ?_ (by simp [zq_gp]) | refine zq_ag_w ?_ (fun _ => by simp [zq_gp]) | refine zq_ag_l ?_ (fun _ => by simp [zq_gp]) | refine zq_ag_sL ?_ | refine zq_ag_sR ?_) hI.2.1) ?_ hI.2.2.2.1 (by repeat' first | exact zq_ag_rfl _ _ | refine zq_ag_sI ?_ (by simp [zq_gp]) | refine zq_ag_w ?_ (fun _ => by simp [zq_gp]) | refine zq_ag_l ?_ (fun _ => by simp [zq_gp]) | refine zq_ag_sL ?_ | refine zq_ag_sR ?_) (by repeat' first | exact zq_ag_rfl _ _ | refine zq_ag_sI ?_ (by simp [zq_gp]) | refine zq_ag_w ?_ (fun _ => by simp [zq_gp]) | refine zq_ag_l ?_ (fun _ => by simp [zq_gp]) | refine zq_ag_sL ?_ | refine zq_ag_sR ?_) (by repeat' first | exact zq_ag_rfl _ _ | refine zq_ag_sI ?_ (by simp [zq_gp]) | refine zq_ag_w ?_ (fun _ => by simp [zq_gp]) | refine zq_ag_l ?_ (fun _ => by simp [zq_gp]) | refine zq_ag_sL ?_ | refine zq_ag_sR ?_)
  obtain ⟨a, b, c⟩ := hI.2.2.1
  refine ⟨by simp [zp_sI1], by simp [zp_sI1, b], fun g hg => ?_⟩
  by_cases e : g = f
  · subst e; simp [zp_sI1, c g hg]
  · simp [zp_sI1, e, c g hg]
theorem zq_tell {n : Nat} {xs : Nat → Int32} {M : zi_M} (hI : zq_inv n xs M) (x : Int32) : zq_inv n xs (zi_sI (zi_sI M 9 0 13 x) 10 0 9 x) := by
  refine zq_mk hI (zq_rows_ag (by repeat' first | exact zq_ag_rfl _ _ | refine zq_ag_sI ?_ (by simp [zq_gp]) | refine zq_ag_w ?_ (fun _ => by simp [zq_gp]) | refine zq_ag_l ?_ (fun _ => by simp [zq_gp]) | refine zq_ag_sL ?_ | refine zq_ag_sR ?_) hI.1) (zq_texts_ag (by repeat' first | exact zq_ag_rfl _ _ | refine zq_ag_sI ?_ (by simp [zq_gp]) | refine zq_ag_w ?_ (fun _ => by simp [zq_gp]) | refine zq_ag_l ?_ (fun _ => by simp [zq_gp]) | refine zq_ag_sL ?_ | refine zq_ag_sR ?_) hI.2.1) ?_ hI.2.2.2.1 (by repeat' first | exact zq_ag_rfl _ _ | refine zq_ag_sI ?_ (by simp [zq_gp]) | refine zq_ag_w ?_ (fun _ => by simp [zq_gp]) | refine zq_ag_l ?_ (fun _ => by simp [zq_gp]) | refine zq_ag_sL ?_ | refine zq_ag_sR ?_) (by repeat' first | exact zq_ag_rfl _ _ | refine zq_ag_sI ?_ (by simp [zq_gp]) | refine zq_ag_w ?_ (fun _ => by simp [zq_gp]) | refine zq_ag_l ?_ (fun _ => by simp [zq_gp]) | refine zq_ag_sL ?_ | refine zq_ag_sR ?_) (by repeat' first | exact zq_ag_rfl _ _ | refine zq_ag_sI ?_ (by simp [zq_gp]) | refine zq_ag_w ?_ (fun _ => by simp [zq_gp]) | refine zq_ag_l ?_ (fun _ => by simp [zq_gp]) | refine zq_ag_sL ?_ | refine zq_ag_sR ?_)
  obtain ⟨a, b, c⟩ := hI.2.2.1
  exact ⟨by simp [zp_sI1, a], by simp [zp_sI1], fun g hg => by simp [zp_sI1, c g hg]⟩
theorem zq_rows_up {M M2 : zi_M} (hr : zq_rows M) (r : Nat) (h0 : zq_row (M2.1 5 r 1) (M2.1 12 r) (M2.1 24 0 r) (fun j => M2.1 25 0 (40 * r + j)) 40) (h1 : ∀ q, q < 6 → q ≠ r → M2.1 5 q 1 = M.1 5 q 1 ∧ (∀ j, M2.1 12 q j = M.1 12 q j) ∧ M2.1 24 0 q = M.1 24 0 q ∧ ∀ j, j < 40 → M2.1 25 0 (40 * q + j) = M.1 25 0 (40 * q + j)) : zq_rows M2 := by
  intro q hq
  by_cases e : q = r
  · rw [e]; exact h0
  · obtain ⟨a, b, c, e2⟩ := h1 q hq e
    rcases hr q hq with ⟨f1, f2⟩ | ⟨m, f1, f2, f3, f4⟩
    · exact Or.inl ⟨by rw [a, f1], by rw [c, f2]⟩
    · exact Or.inr ⟨m, f1, by rw [a, f2], by rw [c, f3], fun j hj => (b j).trans ((f4 j hj).trans (e2 j (by omega)).symm)⟩
theorem zq_texts_up {M M2 : zi_M} (hr : zq_texts M) (r : Nat) (h0 : zq_row (M2.1 5 (6 + r) 1) (M2.1 12 (6 + r)) (M2.1 26 0 r) (fun j => M2.1 27 0 (80 * r + j)) 80) (h1 : ∀ q, q < 4 → q ≠ r → M2.1 5 (6 + q) 1 = M.1 5 (6 + q) 1 ∧ (∀ j, M2.1 12 (6 + q) j = M.1 12 (6 + q) j) ∧ M2.1 26 0 q = M.1 26 0 q ∧ ∀ j, j < 80 → M2.1 27 0 (80 * q + j) = M.1 27 0 (80 * q + j)) (h9 : ∀ j, M2.1 12 (6 + r) j ≠ 1000) : zq_texts M2 := by
  intro q hq
  by_cases e : q = r
  · rw [e]; exact ⟨h0, h9⟩
  · obtain ⟨a, b, c, e2⟩ := h1 q hq e
    refine ⟨?_, fun j => by rw [b j]; exact (hr q hq).2 j⟩
    rcases (hr q hq).1 with ⟨f1, f2⟩ | ⟨m, f1, f2, f3, f4⟩
    · exact Or.inl ⟨by rw [a, f1], by rw [c, f2]⟩
    · exact Or.inr ⟨m, f1, by rw [a, f2], by rw [c, f3], fun j hj => (b j).trans ((f4 j hj).trans (e2 j (by omega)).symm)⟩
