/-! THE PURE PART: a BEAT done, on both sides -/
def zf_do (A : zf_A) (K : zf_K) (i b : Nat) : zf_K := (K.1, K.2.1, (fun q => if q = i then ((K.2.2.1 i).1, (K.2.2.1 i).2.1, (K.2.2.1 i).2.2.1, zf_bt (zf_en A K i) (zf_sp K i) b) else K.2.2.1 q), K.2.2.2.1 + 1, fun q => if q = K.2.2.2.1 then (i, zf_sp K i) else K.2.2.2.2 q)
theorem zf_do_en (A : zf_A) (K : zf_K) (i b : Nat) : zf_en A (zf_do A K i b) i = zf_en A K i := by simp [zf_do]
theorem zf_do_sp (A : zf_A) (K : zf_K) (i b : Nat) : zf_sp (zf_do A K i b) i = zf_bt (zf_en A K i) (zf_sp K i) b := by simp [zf_do, zf_sp]
theorem zf_bt_ok {A : zf_A} {K : zf_K} (hA : zf_okE A) (hok : zf_okK A K) {i : Nat} (hi : i < K.2.1) {b : Nat} (hb : b < 3) (hcan : zf_can A (zf_sp K i) b) : zf_okS A (zf_bt (zf_en A K i) (zf_sp K i) b) := by
  have hbt := zf_bt1 (E := zf_en A K i) hA hcan
  refine ⟨hbt.1, hbt.2, fun h0 => ?_⟩
  obtain ⟨⟨_, _, h9⟩, l, hl, hle⟩ := hok.2.2.1 i hi
  obtain ⟨t, ht, hst⟩ := h9 hcan.1
  have e : zf_sp K i = zs_sh (zf_sp K i) (nI t) := by
    show zf_sp K i = ((zf_sp K i).1, (zf_sp K i).2.1, nI t, (zf_sp K i).2.2.2.1, (zf_sp K i).2.2.2.2.1, 0)
    rw [← hst, ← hcan.1]
  have hg : zw_good (zf_en A K i) (zs_sh (zf_sp K i) (nI t)) b := by rw [← e]; exact ⟨hcan, h0⟩
  have := zs_btE (E := zf_en A K i) hl hle (zf_sp K i) (a := t) (by omega) hg
  rw [← e] at this
  refine ⟨t - zs_c (zf_en A K i) (zf_sp K i) b l, by omega, ?_⟩
  rw [this]; rfl
theorem zf_do_ok {A : zf_A} {K : zf_K} (hA : zf_okE A) (hok : zf_okK A K) {i : Nat} (hi : i < K.2.1) {b : Nat} (hb : b < 3) (hcan : zf_can A (zf_sp K i) b) (h40 : K.2.2.2.1 < 40) : zf_okK A (zf_do A K i b) := by
  refine ⟨hok.1, by show K.2.2.2.1 + 1 ≤ 40; omega, fun q hq => ?_, fun q hq => ?_⟩
  · by_cases e : q = i
    · subst e
      simp only [zf_do, ↓reduceIte]
      exact ⟨zf_bt_ok hA hok hi hb hcan, (hok.2.2.1 q hi).2⟩
    · simp only [zf_do, if_neg e]
      exact hok.2.2.1 q hq
  · have hq' : q < K.2.2.2.1 + 1 := hq
    by_cases e : q = K.2.2.2.1
    · simp only [zf_do, if_pos e]
      exact ⟨hi, (hok.2.2.1 i hi).1⟩
    · simp only [zf_do, if_neg e]
      exact hok.2.2.2 q (by omega)
/-- the class -/
def zy_fC (M M' : zi_M) : Prop := M'.2 = M.2 ∧ ∀ c k j, ¬ (c = 14 ∧ k = 0) → ¬ (c = 7 ∧ (k < 4 ∨ k = 40 ∨ (100 ≤ k ∧ k < 140))) → ¬ (c = 6 ∧ k = 0 ∧ j = 6) → M'.1 c k j = M.1 c k j
theorem zy_fC_rfl (M : zi_M) : zy_fC M M := ⟨rfl, fun _ _ _ _ _ _ => rfl⟩
theorem zy_fC_tr {M M1 M2 : zi_M} (h : zy_fC M M1) (h2 : zy_fC M1 M2) : zy_fC M M2 := ⟨h2.1.trans h.1, fun c k j a b e => (h2.2 c k j a b e).trans (h.2 c k j a b e)⟩
theorem zy_fC_vf {M M1 : zi_M} (h : zv_fr M M1) : zy_fC M M1 := ⟨h.1, fun c k j _ b _ => h.2 c k j (fun q => b ⟨q.1, by omega⟩)⟩
def zy_M (M : zi_M) (K : zf_K) (i : Nat) (t : zf_S) : zi_M := zp_sp (zi_sI (zp_sp (zi_sI (zp_sp M 40 t) 14 0 K.2.2.2.1 (nI i)) (100 + K.2.2.2.1) (zf_sp K i)) 6 0 6 (nI (K.2.2.2.1 + 1))) i t
theorem zc_perform (d : Nat) {M : zi_M} {A : zf_A} {K : zf_K} (hA : zf_okE A) (hok : zf_okK A K) (hcK : zf_cK M 0 K) {i : Nat} (hi : i < K.2.1) (hE : zf_cE M (zf_en A K i)) {b : Nat} (hb : b < 3) : zi_run (d + 3) zm_X9_perform 0 [some (.inr (.inr (9, some 0))), some (.inl (nI i)), some (.inr (.inr (1, some i))), some (.inl (nI b)), none] [] M = if zf_can A (zf_sp K i) b then (if K.2.2.2.1 < 40 then some (some (.inl (zf_fell (zf_en A K i) (zf_mv (zf_en A K i) (zf_sp K i) b))), zy_M M K i (zf_bt (zf_en A K i) (zf_sp K i) b)) else some (some (.inl (-2)), zp_sp M 40 (zf_bt (zf_en A K i) (zf_sp K i) b))) else some (some (.inl (-4)), M) := by
  have h4 := hok.1
  have h40 := hok.2.1
  obtain ⟨a1, a2, a3, a4, a5⟩ := hcK
  have hs : zf_is (M.1 7 i) (zf_sp K i) := by have := (a4 i hi).2.2.2; rwa [Nat.mul_zero, Nat.zero_add] at this
  obtain ⟨⟨o1, o2, _⟩, _⟩ := hok.2.2.1 i hi
  rw [ze_X9_perform_0]
  have hfly : ∀ D, zi_run (D + 2) zm_X2_fly 0 [some (.inr (.inr (2, some 0))), some (.inr (.inr (7, some i))), some (.inl (nI b)), some (.inr (.inr (7, some 40)))] [] M = _ := fun D => zc_fly D (E := zf_en A K i) hA hE (k3 := 40) hs o1 o2 hb
  by_cases hcan : zf_can A (zf_sp K i) b
  · have hf' : ¬ zf_fell (zf_en A K i) (zf_mv (zf_en A K i) (zf_sp K i) b) = -1 := by
      rcases zf_fell_in (zf_en A K i) (zf_mv (zf_en A K i) (zf_sp K i) b) with e | e | e | e <;> rw [e] <;> decide
    have b6 : (zp_sp M 40 (zf_bt (zf_en A K i) (zf_sp K i) b)).1 6 0 6 = nI K.2.2.2.1 := a3
    rw [if_pos hcan]
    by_cases hlt : K.2.2.2.1 < 40
    · have hs1 : zf_is ((zi_sI (zp_sp M 40 (zf_bt (zf_en A K i) (zf_sp K i) b)) 14 0 K.2.2.2.1 (nI i)).1 7 i) (zf_sp K i) := by
        obtain ⟨c0, c1, c2, c3, c4, c5⟩ := hs
        have e40 : ¬ i = 40 := by omega
        exact ⟨by simp [zp_sI1, zp_sp1, e40, c0], by simp [zp_sI1, zp_sp1, e40, c1], by simp [zp_sI1, zp_sp1, e40, c2], by simp [zp_sI1, zp_sp1, e40, c3], by simp [zp_sI1, zp_sp1, e40, c4], by simp [zp_sI1, zp_sp1, e40, c5]⟩
      have hs2 : zf_is ((zi_sI (zp_sp (zi_sI (zp_sp M 40 (zf_bt (zf_en A K i) (zf_sp K i) b)) 14 0 K.2.2.2.1 (nI i)) (100 + K.2.2.2.1) (zf_sp K i)) 6 0 6 (nI (K.2.2.2.1 + 1))).1 7 40) (zf_bt (zf_en A K i) (zf_sp K i) b) := by
        have := zp_sp_is M 40 (zf_bt (zf_en A K i) (zf_sp K i) b)
        obtain ⟨c0, c1, c2, c3, c4, c5⟩ := this
        have e40 : ¬ 40 = 100 + K.2.2.2.1 := by omega
        exact ⟨by simp [zp_sI1, zp_sp1 _ (100 + K.2.2.2.1), e40, c0], by simp [zp_sI1, zp_sp1 _ (100 + K.2.2.2.1), e40, c1], by simp [zp_sI1, zp_sp1 _ (100 + K.2.2.2.1), e40, c2], by simp [zp_sI1, zp_sp1 _ (100 + K.2.2.2.1), e40, c3], by simp [zp_sI1, zp_sp1 _ (100 + K.2.2.2.1), e40, c4], by simp [zp_sI1, zp_sp1 _ (100 + K.2.2.2.1), e40, c5]⟩
      have b62 : (zp_sp (zi_sI (zp_sp M 40 (zf_bt (zf_en A K i) (zf_sp K i) b)) 14 0 K.2.2.2.1 (nI i)) (100 + K.2.2.2.1) (zf_sp K i)).1 6 0 6 = nI K.2.2.2.1 := a3
      have tk1 : ∀ D, zi_run D zm_X7_take 0 [some (.inr (.inr (7, some (100 + K.2.2.2.1)))), some (.inr (.inr (7, some i)))] [] (zi_sI (zp_sp M 40 (zf_bt (zf_en A K i) (zf_sp K i) b)) 14 0 K.2.2.2.1 (nI i)) = _ := fun D => zc_take D _ (100 + K.2.2.2.1) i hs1
      have tk2 : ∀ D, zi_run D zm_X7_take 0 [some (.inr (.inr (7, some i))), some (.inr (.inr (7, some 40)))] [] _ = _ := fun D => zc_take D _ i 40 hs2
      rw [if_pos hlt]
      simp (disch := omega) only [↓zp_dn, ↓zp_hV, ↓zp_hI, ↓zp_hL, ↓zp_hR, ↓zp_hX, zp_eV, zp_eI, zp_eL, zp_eR, zp_eX, zp_eXl, zp_iV, zp_iI, zp_iL, zp_iR, ↓zp_sm, ↓zp_nls, ↓zp_nln, zp_bo0, zp_bo1, zp_okE, zp_ok2E, zp_rfE, ↓reduceIte, if_true, if_false, zp_leT, zp_leF, zp_ltT, zp_ltF, zp_eqT, zp_eqF, zp_leTl, zp_leFl, zp_ltTl, zp_ltFl, zp_leTr, zp_leFr, zp_ltTr, zp_ltFr, zp_eqTr, zp_eqFr, zp_eqTl, zp_eqFl, zp_eqFll, eq_self, zp_addl, zp_addr, zp_mull, zp_mulr, zp_subr, zp_subl, nI_add, pk_mul, hfly, if_pos hcan, if_neg hf', ze_X6_note_0, b6, Nat.mul_zero, Nat.add_zero, tk1, b62, zp_1n0, tk2]
      rfl
    · rw [if_neg hlt]
      simp (disch := omega) only [↓zp_dn, ↓zp_hV, ↓zp_hI, ↓zp_hL, ↓zp_hR, ↓zp_hX, zp_eV, zp_eI, zp_eL, zp_eR, zp_eX, zp_eXl, zp_iV, zp_iI, zp_iL, zp_iR, ↓zp_sm, ↓zp_nls, ↓zp_nln, zp_bo0, zp_bo1, zp_okE, zp_ok2E, zp_rfE, ↓reduceIte, if_true, if_false, zp_leT, zp_leF, zp_ltT, zp_ltF, zp_eqT, zp_eqF, zp_leTl, zp_leFl, zp_ltTl, zp_ltFl, zp_leTr, zp_leFr, zp_ltTr, zp_ltFr, zp_eqTr, zp_eqFr, zp_eqTl, zp_eqFl, zp_eqFll, eq_self, zp_addl, zp_addr, zp_mull, zp_mulr, zp_subr, zp_subl, nI_add, pk_mul, hfly, if_pos hcan, if_neg hf', ze_X6_note_0, b6]
  · rw [if_neg hcan]
    simp (disch := omega) only [↓zp_dn, ↓zp_hV, ↓zp_hI, ↓zp_hL, ↓zp_hR, ↓zp_hX, zp_eV, zp_eI, zp_eL, zp_eR, zp_eX, zp_eXl, zp_iV, zp_iI, zp_iL, zp_iR, ↓zp_sm, ↓zp_nls, ↓zp_nln, zp_bo0, zp_bo1, zp_okE, zp_ok2E, zp_rfE, ↓reduceIte, if_true, if_false, zp_leT, zp_leF, zp_ltT, zp_ltF, zp_eqT, zp_eqF, zp_leTl, zp_leFl, zp_ltTl, zp_ltFl, zp_leTr, zp_leFr, zp_ltTr, zp_ltFr, zp_eqTr, zp_eqFr, zp_eqTl, zp_eqFl, zp_eqFll, eq_self, zp_addl, zp_addr, zp_mull, zp_mulr, zp_subr, zp_subl, nI_add, pk_mul, hfly, if_neg hcan]
theorem zy_fM (M : zi_M) {K : zf_K} {i : Nat} (hi : i < 4) (h40 : K.2.2.2.1 < 40) (t : zf_S) : zy_fC M (zy_M M K i t) := by
  refine ⟨rfl, fun c k j h14 h7 h6 => ?_⟩
  rw [zy_M, zp_sp1, zp_h1 (fun q => h7 ⟨q.1, by omega⟩), zp_sI1]
  have e6 : ∀ x y : Int32, (if c = 6 then (if j = 6 then (if k = 0 then x else y) else y) else y) = y := fun x y => by
    by_cases q1 : c = 6
    · by_cases q2 : j = 6
      · by_cases q3 : k = 0
        · exact absurd ⟨q1, q3, q2⟩ h6
        · simp [q3]
      · simp [q2]
    · simp [q1]
  rw [e6, zp_sp1, zp_h1 (fun q => h7 ⟨q.1, by omega⟩), zp_sI1]
  have e14 : ∀ x y : Int32, (if c = 14 then (if j = K.2.2.2.1 then (if k = 0 then x else y) else y) else y) = y := fun x y => by
    by_cases q1 : c = 14
    · by_cases q3 : k = 0
      · exact absurd ⟨q1, q3⟩ h14
      · simp [q3]
    · simp [q1]
  rw [e14, zp_sp1, zp_h1 (fun q => h7 ⟨q.1, by omega⟩)]
theorem zy_M_cK {M : zi_M} {A : zf_A} {K : zf_K} (hok : zf_okK A K) (hcK : zf_cK M 0 K) {i : Nat} (hi : i < K.2.1) (b : Nat) (h40 : K.2.2.2.1 < 40) : zf_cK (zy_M M K i (zf_bt (zf_en A K i) (zf_sp K i) b)) 0 (zf_do A K i b) := by
  have h4 := hok.1
  obtain ⟨a1, a2, a3, a4, a5⟩ := hcK
  have fr := zy_fM M (i := i) (by omega) h40 (zf_bt (zf_en A K i) (zf_sp K i) b)
  generalize ht : zf_bt (zf_en A K i) (zf_sp K i) b = t at fr ⊢
  have ei : zf_is ((zy_M M K i t).1 7 i) t := zp_sp_is _ i t
  have eo : ∀ q, q < 4 → q ≠ i → (zy_M M K i t).1 7 q = M.1 7 q := fun q hq hne => funext fun j => by
    simp only [zy_M, zp_sp1, zp_sI1, Nat.reduceEqDiff, Nat.reduceLT, Nat.reduceLeDiff, Nat.reduceAdd, Nat.reduceMul, Nat.reduceSub, reduceCtorEq, Int32.reduceLT, Int32.reduceLE, not_true_eq_false, not_false_eq_true, and_true, true_and, and_false, false_and, or_true, true_or, or_false, false_or, ↓reduceIte, if_neg hne, if_neg (show ¬ q = 100 + K.2.2.2.1 from by omega), if_neg (show ¬ q = 40 from by omega)]
  have ep : zf_is ((zy_M M K i t).1 7 (100 + K.2.2.2.1)) (zf_sp K i) := by
    have := zp_sp_is (zi_sI (zp_sp M 40 t) 14 0 K.2.2.2.1 (nI i)) (100 + K.2.2.2.1) (zf_sp K i)
    have e : (zy_M M K i t).1 7 (100 + K.2.2.2.1) = (zp_sp (zi_sI (zp_sp M 40 t) 14 0 K.2.2.2.1 (nI i)) (100 + K.2.2.2.1) (zf_sp K i)).1 7 (100 + K.2.2.2.1) := funext fun j => by
      rw [zy_M, zp_sp1, if_pos rfl, if_neg (by omega), zp_sI1, if_neg (by decide)]
    rw [e]; exact this
  have epo : ∀ q, q < K.2.2.2.1 → (zy_M M K i t).1 7 (100 + q) = M.1 7 (100 + q) := fun q hq => funext fun j => by
    simp only [zy_M, zp_sp1, zp_sI1, Nat.reduceEqDiff, Nat.reduceLT, Nat.reduceLeDiff, Nat.reduceAdd, Nat.reduceMul, Nat.reduceSub, reduceCtorEq, Int32.reduceLT, Int32.reduceLE, not_true_eq_false, not_false_eq_true, and_true, true_and, and_false, false_and, or_true, true_or, or_false, false_or, ↓reduceIte, if_neg (show ¬ 100 + q = i from by omega), if_neg (show ¬ 100 + q = 100 + K.2.2.2.1 from by omega), if_neg (show ¬ 100 + q = 40 from by omega)]
  have e14 : ∀ q, (zy_M M K i t).1 14 0 q = if q = K.2.2.2.1 then nI i else M.1 14 0 q := fun q => by
    simp only [zy_M, zp_sp1, zp_sI1, Nat.reduceEqDiff, Nat.reduceLT, Nat.reduceLeDiff, Nat.reduceAdd, Nat.reduceMul, Nat.reduceSub, reduceCtorEq, Int32.reduceLT, Int32.reduceLE, not_true_eq_false, not_false_eq_true, and_true, true_and, and_false, false_and, or_true, true_or, or_false, false_or, ↓reduceIte]
  refine ⟨(fr.2 6 0 5 (by omega) (by omega) (by omega)).trans a1, (fr.2 6 0 4 (by omega) (by omega) (by omega)).trans a2, ?_, fun q hq => ?_, fun q hq => ?_⟩
  · simp only [zy_M, zp_sp1, zp_sI1, Nat.reduceEqDiff, Nat.reduceLT, Nat.reduceLeDiff, Nat.reduceAdd, Nat.reduceMul, Nat.reduceSub, reduceCtorEq, Int32.reduceLT, Int32.reduceLE, not_true_eq_false, not_false_eq_true, and_true, true_and, and_false, false_and, or_true, true_or, or_false, false_or, ↓reduceIte]; rfl
  · have hq' : q < K.2.1 := hq
    obtain ⟨b1, b2, b3, b4⟩ := a4 q hq'
    rw [Nat.mul_zero, Nat.zero_add] at b1 b2 b3 b4 ⊢
    rw [fr.2 1 q 1 (by omega) (by omega) (by omega), fr.2 1 q 2 (by omega) (by omega) (by omega), fr.2 1 q 3 (by omega) (by omega) (by omega)]
    by_cases e : q = i
    · subst e
      simp only [zf_do, ↓reduceIte, ht]
      exact ⟨b1, b2, b3, ei⟩
    · simp only [zf_do, if_neg e]
      rw [eo q (by omega) e]
      exact ⟨b1, b2, b3, b4⟩
  · have hq' : q < K.2.2.2.1 + 1 := hq
    rw [Nat.mul_zero, Nat.add_zero, e14]
    by_cases e : q = K.2.2.2.1
    · subst e
      simp only [zf_do, ↓reduceIte]
      exact ⟨trivial, ep⟩
    · obtain ⟨b1, b2⟩ := a5 q (by omega)
      rw [Nat.mul_zero, Nat.add_zero] at b2
      simp only [zf_do, if_neg e]
      rw [epo q (by omega)]
      exact ⟨b1, b2⟩
theorem zf_cA_fC {M M' : zi_M} {A : zf_A} (h : zy_fC M M') (hr : zf_cA M 0 A) : zf_cA M' 0 A := by
  obtain ⟨a, b, c⟩ := hr
  exact ⟨by rw [h.2 0 0 1 (by omega) (by omega) (by omega), a], by rw [h.2 0 0 2 (by omega) (by omega) (by omega), b], fun x y hx hy => by rw [h.2 11 0 _ (by omega) (by omega) (by omega)]; exact c x y hx hy⟩
theorem zf_cE_fC {M M' : zi_M} {E : zf_E} (h : zy_fC M M') (hE : zf_cE M E) : zf_cE M' E := by
  obtain ⟨hA, f1, f2, f3, f4⟩ := hE
  exact ⟨zf_cA_fC h hA, by rw [h.2 2 0 1 (by omega) (by omega) (by omega), f1], by rw [h.2 2 0 2 (by omega) (by omega) (by omega), f2], by rw [h.2 2 0 3 (by omega) (by omega) (by omega), f3], by rw [h.2 2 0 4 (by omega) (by omega) (by omega), f4]⟩
