/-! THE PURE PART: wax, most, hottest, kinds -/
def zw_has (E : zf_E) (s : zf_S) : Bool := !(zw_ways E 6 s).isEmpty
theorem zc_hasWay (d : Nat) {M : zi_M} {E : zf_E} (hA : zf_okE E.1) (hE : zf_cE M E) {k1 : Nat} {s : zf_S} (hs : zf_is (M.1 7 k1) s) (hc : s.1 < E.1.1) (hh : s.2.1 < E.1.2.1) : ∃ M', zi_run (d + 4) zm_X9_hasWay 0 [some (.inr (.inr (9, some 0))), some (.inr (.inr (7, some k1)))] [] M = some (some (.inl (zw_b1 (zw_has E s))), M') ∧ zw_fr M M' := by
  obtain ⟨M1, e1, e2, e3⟩ := zc_start (d + 2) hA hE hs hc hh
  have nx := zw_next d e3
  rw [ze_X9_hasWay_0, zw_has]
  cases hw : zw_ways E 6 s with
  | nil =>
    rw [hw] at nx
    obtain ⟨M', n1, n2⟩ := nx
    refine ⟨M', ?_, zw_fr_tr e2 n2⟩
    simp (disch := omega) only [↓zp_dn, ↓zp_hV, ↓zp_hI, ↓zp_hL, ↓zp_hR, ↓zp_hX, zp_eV, zp_eI, zp_eL, zp_eR, zp_eX, zp_eXl, zp_iV, zp_iI, zp_iL, zp_iR, ↓zp_sm, ↓zp_nls, ↓zp_nln, zp_bo0, zp_bo1, zp_okE, zp_ok2E, zp_rfE, ↓reduceIte, if_true, if_false, e1, n1]; rfl
  | cons w ws =>
    rw [hw] at nx
    obtain ⟨M', n1, n2, _⟩ := nx
    refine ⟨M', ?_, zw_fr_tr e2 n2⟩
    simp (disch := omega) only [↓zp_dn, ↓zp_hV, ↓zp_hI, ↓zp_hL, ↓zp_hR, ↓zp_hX, zp_eV, zp_eI, zp_eL, zp_eR, zp_eX, zp_eXl, zp_iV, zp_iI, zp_iL, zp_iR, ↓zp_sm, ↓zp_nls, ↓zp_nln, zp_bo0, zp_bo1, zp_okE, zp_ok2E, zp_rfE, ↓reduceIte, if_true, if_false, e1, n1]; rfl
theorem zf_cE_s1 {M : zi_M} {E : zf_E} (h : zf_cE M E) (x : Int32) : zf_cE (zi_sI M 2 0 1 x) (E.1, x, E.2.2) := by
  obtain ⟨⟨e1, e2, e3⟩, f1, f2, f3, f4⟩ := h
  exact ⟨⟨by simp [zp_sI1, e1], by simp [zp_sI1, e2], fun a b ha hb => by simp [zp_sI1]; exact e3 a b ha hb⟩, by simp [zp_sI1], by simp [zp_sI1, f2], by simp [zp_sI1, f3], by simp [zp_sI1, f4]⟩
theorem zf_cE_s2 {M : zi_M} {E : zf_E} (h : zf_cE M E) (x : Int32) : zf_cE (zi_sI M 2 0 2 x) (E.1, E.2.1, x, E.2.2.2) := by
  obtain ⟨⟨e1, e2, e3⟩, f1, f2, f3, f4⟩ := h
  exact ⟨⟨by simp [zp_sI1, e1], by simp [zp_sI1, e2], fun a b ha hb => by simp [zp_sI1]; exact e3 a b ha hb⟩, by simp [zp_sI1, f1], by simp [zp_sI1], by simp [zp_sI1, f3], by simp [zp_sI1, f4]⟩
theorem zf_cE_s3 {M : zi_M} {E : zf_E} (h : zf_cE M E) (x : Int32) : zf_cE (zi_sI M 2 0 3 x) (E.1, E.2.1, E.2.2.1, x, E.2.2.2.2) := by
  obtain ⟨⟨e1, e2, e3⟩, f1, f2, f3, f4⟩ := h
  exact ⟨⟨by simp [zp_sI1, e1], by simp [zp_sI1, e2], fun a b ha hb => by simp [zp_sI1]; exact e3 a b ha hb⟩, by simp [zp_sI1, f1], by simp [zp_sI1, f2], by simp [zp_sI1], by simp [zp_sI1, f4]⟩
theorem zf_cE_s4 {M : zi_M} {E : zf_E} (h : zf_cE M E) (x : Int32) : zf_cE (zi_sI M 2 0 4 x) (E.1, E.2.1, E.2.2.1, E.2.2.2.1, x) := by
  obtain ⟨⟨e1, e2, e3⟩, f1, f2, f3, f4⟩ := h
  exact ⟨⟨by simp [zp_sI1, e1], by simp [zp_sI1, e2], fun a b ha hb => by simp [zp_sI1]; exact e3 a b ha hb⟩, by simp [zp_sI1, f1], by simp [zp_sI1, f2], by simp [zp_sI1, f3], by simp [zp_sI1]⟩
/-- what the class's tries may change -/
def zw_fq (M M' : zi_M) : Prop := M'.2 = M.2 ∧ ∀ c k j, c ≠ 8 → c ≠ 17 → c ≠ 2 → ¬ (c = 7 ∧ 20 ≤ k ∧ k < 27) → M'.1 c k j = M.1 c k j
theorem zw_fq_rfl (M : zi_M) : zw_fq M M := ⟨rfl, fun _ _ _ _ _ _ _ => rfl⟩
theorem zw_fq_tr {M M1 M2 : zi_M} (h : zw_fq M M1) (h2 : zw_fq M1 M2) : zw_fq M M2 := ⟨h2.1.trans h.1, fun c k j a b f e => (h2.2 c k j a b f e).trans (h.2 c k j a b f e)⟩
theorem zw_fr_fq {M M1 : zi_M} (h : zw_fr M M1) : zw_fq M M1 := ⟨h.1, fun c k j a b _ e => h.2 c k j a b e⟩
theorem zw_fq_2 (M : zi_M) (s : Nat) (x : Int32) : zw_fq M (zi_sI M 2 0 s x) := ⟨rfl, fun c k j _ _ f _ => by rw [zp_sI1, if_neg f]⟩
theorem zw_fq_nb {M M' : zi_M} (h : zw_fq M M') : zq_nb M M' := by
  intro c k s e
  refine h.2 c k s ?_ ?_ ?_ ?_
  · intro hc; subst hc; exact e (by simp [zq_gp])
  · intro hc; subst hc; exact e (by simp [zq_gp])
  · intro hc; subst hc; exact e (by simp [zq_gp])
  · intro hc; obtain ⟨a, b, c'⟩ := hc; subst a; exact e (zq_g7n (by omega) (by omega) s)
theorem zw_fq_is {M M' : zi_M} (h : zw_fq M M') {i : Nat} (hi : i < 20) {s : zf_S} (hs : zf_is (M.1 7 i) s) : zf_is (M'.1 7 i) s := by
  have e : M'.1 7 i = M.1 7 i := funext fun j => h.2 7 i j (by omega) (by omega) (by omega) (by omega)
  rw [e]; exact hs
/-- the first, the last that does; those that do -/
def zw_lea (P : Nat → Bool) : Nat → Nat → Int32
  | _, 0 => -9
  | v, k + 1 => if P v then nI v else zw_lea P (v + 1) k
def zw_gre (P : Nat → Bool) : Nat → Int32
  | 0 => -9
  | v + 1 => if P v then nI v else zw_gre P v
def zw_kds (P : Nat → Bool) : Nat → Nat → Int32 → Int32
  | _, 0, x => x
  | v, k + 1, x => zw_kds P (v + 1) k (x ||| (if P v then 1 <<< (nI v &&& 31) else 0))
/-- in the class: wax -/
theorem zc_waxL (d : Nat) {A : zf_A} {kd le su : Int32} {s : zf_S} {i : Nat} (hA : zf_okE A) (hc : s.1 < A.1) (hh : s.2.1 < A.2.1) (hi : i < 20) : ∀ (k w : Nat) (M : zi_M) (x : Int32), w + k = 10 → zf_cE M (A, kd, x, le, su) → zf_is (M.1 7 i) s → ∃ M', zi_run (d + 5) zm_X9_wax 45 [some (.inr (.inr (9, some 0))), none, some (.inr (.inr (1, some i))), some (.inl (nI w))] [] M = some (some (.inl (zw_lea (fun v => zw_has (A, kd, nI v, le, su) s) w k)), M') ∧ zw_fq M M' := by
  intro k
  induction k with
  | zero =>
    intro w M x hw _ _
    refine ⟨M, ?_, zw_fq_rfl M⟩
    rw [ze_X9_wax_45]
    simp (disch := omega) only [↓zp_dn, ↓zp_hV, ↓zp_hI, ↓zp_hL, ↓zp_hR, ↓zp_hX, zp_eV, zp_eI, zp_eL, zp_eR, zp_eX, zp_eXl, zp_iV, zp_iI, zp_iL, zp_iR, ↓zp_sm, ↓zp_nls, ↓zp_nln, zp_bo0, zp_bo1, zp_okE, zp_ok2E, zp_rfE, ↓reduceIte, if_true, if_false, zp_leT, zp_leF, zp_ltT, zp_ltF, zp_eqT, zp_eqF, zp_leTl, zp_leFl, zp_ltTl, zp_ltFl, zp_leTr, zp_leFr, zp_ltTr, zp_ltFr, zp_eqTr, zp_eqFr, zp_eqTl, zp_eqFl, zp_eqFll, eq_self, zp_addl, zp_addr, zp_mull, zp_mulr, zp_subr, zp_subl, nI_add, pk_mul, zw_lea]
  | succ k ih =>
    intro w M x hw hE hs
    have hE2 : zf_cE (zi_sI M 2 0 2 (nI w)) (A, kd, nI w, le, su) := zf_cE_s2 hE (nI w)
    have hs2 := zw_fq_is (zw_fq_2 M 2 (nI w)) hi hs
    obtain ⟨M1, e1, e2⟩ := zc_hasWay d (E := (A, kd, nI w, le, su)) hA hE2 hs2 hc hh
    have f1 := zw_fq_tr (zw_fq_2 M 2 (nI w)) (zw_fr_fq e2)
    rw [ze_X9_wax_45, zw_lea]
    cases hb : zw_has (A, kd, nI w, le, su) s with
    | true =>
      rw [hb] at e1
      refine ⟨M1, ?_, f1⟩
      simp (disch := omega) only [↓zp_dn, ↓zp_hV, ↓zp_hI, ↓zp_hL, ↓zp_hR, ↓zp_hX, zp_eV, zp_eI, zp_eL, zp_eR, zp_eX, zp_eXl, zp_iV, zp_iI, zp_iL, zp_iR, ↓zp_sm, ↓zp_nls, ↓zp_nln, zp_bo0, zp_bo1, zp_okE, zp_ok2E, zp_rfE, ↓reduceIte, if_true, if_false, zp_leT, zp_leF, zp_ltT, zp_ltF, zp_eqT, zp_eqF, zp_leTl, zp_leFl, zp_ltTl, zp_ltFl, zp_leTr, zp_leFr, zp_ltTr, zp_ltFr, zp_eqTr, zp_eqFr, zp_eqTl, zp_eqFl, zp_eqFll, eq_self, zp_addl, zp_addr, zp_mull, zp_mulr, zp_subr, zp_subl, nI_add, pk_mul, e1, zw_b1T, zp_1n0]
    | false =>
      rw [hb] at e1
      obtain ⟨M', g1, g2⟩ := ih (w + 1) M1 (nI w) (by omega) (zf_cE_fr e2 hE2) (zw_fq_is f1 hi hs)
      refine ⟨M', ?_, zw_fq_tr f1 g2⟩
      simp (disch := omega) only [↓zp_dn, ↓zp_hV, ↓zp_hI, ↓zp_hL, ↓zp_hR, ↓zp_hX, zp_eV, zp_eI, zp_eL, zp_eR, zp_eX, zp_eXl, zp_iV, zp_iI, zp_iL, zp_iR, ↓zp_sm, ↓zp_nls, ↓zp_nln, zp_bo0, zp_bo1, zp_okE, zp_ok2E, zp_rfE, ↓reduceIte, if_true, if_false, zp_leT, zp_leF, zp_ltT, zp_ltF, zp_eqT, zp_eqF, zp_leTl, zp_leFl, zp_ltTl, zp_ltFl, zp_leTr, zp_leFr, zp_ltTr, zp_ltFr, zp_eqTr, zp_eqFr, zp_eqTl, zp_eqFl, zp_eqFll, eq_self, zp_addl, zp_addr, zp_mull, zp_mulr, zp_subr, zp_subl, nI_add, pk_mul, e1, zw_b1F, Bool.false_eq_true]
      exact g1
theorem zc_mostL (d : Nat) {A : zf_A} {kd wa su : Int32} {s : zf_S} {i : Nat} (hA : zf_okE A) (hc : s.1 < A.1) (hh : s.2.1 < A.2.1) (hi : i < 20) : ∀ (k : Nat) (M : zi_M) (x : Int32), k < 11 → zf_cE M (A, kd, wa, x, su) → zf_is (M.1 7 i) s → ∃ M', zi_run (d + 5) zm_X9_most 45 [some (.inr (.inr (9, some 0))), none, some (.inr (.inr (1, some i))), some (.inl (nI k - 1))] [] M = some (some (.inl (zw_gre (fun v => zw_has (A, kd, wa, nI v, su) s) k)), M') ∧ zw_fq M M' := by
  intro k
  induction k with
  | zero =>
    intro M x _ _ _
    refine ⟨M, ?_, zw_fq_rfl M⟩
    rw [ze_X9_most_45]
    simp (disch := omega) only [↓zp_dn, ↓zp_hV, ↓zp_hI, ↓zp_hL, ↓zp_hR, ↓zp_hX, zp_eV, zp_eI, zp_eL, zp_eR, zp_eX, zp_eXl, zp_iV, zp_iI, zp_iL, zp_iR, ↓zp_sm, ↓zp_nls, ↓zp_nln, zp_bo0, zp_bo1, zp_okE, zp_ok2E, zp_rfE, ↓reduceIte, if_true, if_false, zp_leT, zp_leF, zp_ltT, zp_ltF, zp_eqT, zp_eqF, zp_leTl, zp_leFl, zp_ltTl, zp_ltFl, zp_leTr, zp_leFr, zp_ltTr, zp_ltFr, zp_eqTr, zp_eqFr, zp_eqTl, zp_eqFl, zp_eqFll, eq_self, zp_addl, zp_addr, zp_mull, zp_mulr, zp_subr, zp_subl, nI_add, pk_mul, zp_0m1, zp_m10, zw_gre]
  | succ k ih =>
    intro M x hk hE hs
    rw [zp_p1]
    have hE2 : zf_cE (zi_sI M 2 0 3 (nI k)) (A, kd, wa, nI k, su) := zf_cE_s3 hE (nI k)
    have hs2 := zw_fq_is (zw_fq_2 M 3 (nI k)) hi hs
    obtain ⟨M1, e1, e2⟩ := zc_hasWay d (E := (A, kd, wa, nI k, su)) hA hE2 hs2 hc hh
    have f1 := zw_fq_tr (zw_fq_2 M 3 (nI k)) (zw_fr_fq e2)
    rw [ze_X9_most_45, zw_gre]
    cases hb : zw_has (A, kd, wa, nI k, su) s with
    | true =>
      rw [hb] at e1
      refine ⟨M1, ?_, f1⟩
      simp (disch := omega) only [↓zp_dn, ↓zp_hV, ↓zp_hI, ↓zp_hL, ↓zp_hR, ↓zp_hX, zp_eV, zp_eI, zp_eL, zp_eR, zp_eX, zp_eXl, zp_iV, zp_iI, zp_iL, zp_iR, ↓zp_sm, ↓zp_nls, ↓zp_nln, zp_bo0, zp_bo1, zp_okE, zp_ok2E, zp_rfE, ↓reduceIte, if_true, if_false, zp_leT, zp_leF, zp_ltT, zp_ltF, zp_eqT, zp_eqF, zp_leTl, zp_leFl, zp_ltTl, zp_ltFl, zp_leTr, zp_leFr, zp_ltTr, zp_ltFr, zp_eqTr, zp_eqFr, zp_eqTl, zp_eqFl, zp_eqFll, eq_self, zp_addl, zp_addr, zp_mull, zp_mulr, zp_subr, zp_subl, nI_add, pk_mul, e1, zw_b1T, zp_1n0]
    | false =>
      rw [hb] at e1
      obtain ⟨M', g1, g2⟩ := ih M1 (nI k) (by omega) (zf_cE_fr e2 hE2) (zw_fq_is f1 hi hs)
      refine ⟨M', ?_, zw_fq_tr f1 g2⟩
      have em : nI k + (-1) = nI k - 1 := by rw [Int32.sub_eq_add_neg]
      simp (disch := omega) only [↓zp_dn, ↓zp_hV, ↓zp_hI, ↓zp_hL, ↓zp_hR, ↓zp_hX, zp_eV, zp_eI, zp_eL, zp_eR, zp_eX, zp_eXl, zp_iV, zp_iI, zp_iL, zp_iR, ↓zp_sm, ↓zp_nls, ↓zp_nln, zp_bo0, zp_bo1, zp_okE, zp_ok2E, zp_rfE, ↓reduceIte, if_true, if_false, zp_leT, zp_leF, zp_ltT, zp_ltF, zp_eqT, zp_eqF, zp_leTl, zp_leFl, zp_ltTl, zp_ltFl, zp_leTr, zp_leFr, zp_ltTr, zp_ltFr, zp_eqTr, zp_eqFr, zp_eqTl, zp_eqFl, zp_eqFll, eq_self, zp_addl, zp_addr, zp_mull, zp_mulr, zp_subr, zp_subl, nI_add, pk_mul, e1, zw_b1F, Bool.false_eq_true, em]
      exact g1
theorem zc_hotL (d : Nat) {A : zf_A} {kd wa le : Int32} {s : zf_S} {i : Nat} (hA : zf_okE A) (hc : s.1 < A.1) (hh : s.2.1 < A.2.1) (hi : i < 20) : ∀ (k : Nat) (M : zi_M) (x : Int32), k < 11 → zf_cE M (A, kd, wa, le, x) → zf_is (M.1 7 i) s → ∃ M', zi_run (d + 5) zm_X9_hottest 46 [some (.inr (.inr (9, some 0))), none, some (.inr (.inr (1, some i))), some (.inl (nI k - 1))] [] M = some (some (.inl (zw_gre (fun v => zw_has (A, kd, wa, le, nI v) s) k)), M') ∧ zw_fq M M' := by
  intro k
  induction k with
  | zero =>
    intro M x _ _ _
    refine ⟨M, ?_, zw_fq_rfl M⟩
    rw [ze_X9_hottest_46]
    simp (disch := omega) only [↓zp_dn, ↓zp_hV, ↓zp_hI, ↓zp_hL, ↓zp_hR, ↓zp_hX, zp_eV, zp_eI, zp_eL, zp_eR, zp_eX, zp_eXl, zp_iV, zp_iI, zp_iL, zp_iR, ↓zp_sm, ↓zp_nls, ↓zp_nln, zp_bo0, zp_bo1, zp_okE, zp_ok2E, zp_rfE, ↓reduceIte, if_true, if_false, zp_leT, zp_leF, zp_ltT, zp_ltF, zp_eqT, zp_eqF, zp_leTl, zp_leFl, zp_ltTl, zp_ltFl, zp_leTr, zp_leFr, zp_ltTr, zp_ltFr, zp_eqTr, zp_eqFr, zp_eqTl, zp_eqFl, zp_eqFll, eq_self, zp_addl, zp_addr, zp_mull, zp_mulr, zp_subr, zp_subl, nI_add, pk_mul, zp_0m1, zp_m10, zw_gre]
  | succ k ih =>
    intro M x hk hE hs
    rw [zp_p1]
    have hE2 : zf_cE (zi_sI M 2 0 4 (nI k)) (A, kd, wa, le, nI k) := zf_cE_s4 hE (nI k)
    have hs2 := zw_fq_is (zw_fq_2 M 4 (nI k)) hi hs
    obtain ⟨M1, e1, e2⟩ := zc_hasWay d (E := (A, kd, wa, le, nI k)) hA hE2 hs2 hc hh
    have f1 := zw_fq_tr (zw_fq_2 M 4 (nI k)) (zw_fr_fq e2)
    rw [ze_X9_hottest_46, zw_gre]
    cases hb : zw_has (A, kd, wa, le, nI k) s with
    | true =>
      rw [hb] at e1
      refine ⟨M1, ?_, f1⟩
      simp (disch := omega) only [↓zp_dn, ↓zp_hV, ↓zp_hI, ↓zp_hL, ↓zp_hR, ↓zp_hX, zp_eV, zp_eI, zp_eL, zp_eR, zp_eX, zp_eXl, zp_iV, zp_iI, zp_iL, zp_iR, ↓zp_sm, ↓zp_nls, ↓zp_nln, zp_bo0, zp_bo1, zp_okE, zp_ok2E, zp_rfE, ↓reduceIte, if_true, if_false, zp_leT, zp_leF, zp_ltT, zp_ltF, zp_eqT, zp_eqF, zp_leTl, zp_leFl, zp_ltTl, zp_ltFl, zp_leTr, zp_leFr, zp_ltTr, zp_ltFr, zp_eqTr, zp_eqFr, zp_eqTl, zp_eqFl, zp_eqFll, eq_self, zp_addl, zp_addr, zp_mull, zp_mulr, zp_subr, zp_subl, nI_add, pk_mul, e1, zw_b1T, zp_1n0]
    | false =>
      rw [hb] at e1
      obtain ⟨M', g1, g2⟩ := ih M1 (nI k) (by omega) (zf_cE_fr e2 hE2) (zw_fq_is f1 hi hs)
      refine ⟨M', ?_, zw_fq_tr f1 g2⟩
      have em : nI k + (-1) = nI k - 1 := by rw [Int32.sub_eq_add_neg]
      simp (disch := omega) only [↓zp_dn, ↓zp_hV, ↓zp_hI, ↓zp_hL, ↓zp_hR, ↓zp_hX, zp_eV, zp_eI, zp_eL, zp_eR, zp_eX, zp_eXl, zp_iV, zp_iI, zp_iL, zp_iR, ↓zp_sm, ↓zp_nls, ↓zp_nln, zp_bo0, zp_bo1, zp_okE, zp_ok2E, zp_rfE, ↓reduceIte, if_true, if_false, zp_leT, zp_leF, zp_ltT, zp_ltF, zp_eqT, zp_eqF, zp_leTl, zp_leFl, zp_ltTl, zp_ltFl, zp_leTr, zp_leFr, zp_ltTr, zp_ltFr, zp_eqTr, zp_eqFr, zp_eqTl, zp_eqFl, zp_eqFll, eq_self, zp_addl, zp_addr, zp_mull, zp_mulr, zp_subr, zp_subl, nI_add, pk_mul, e1, zw_b1F, Bool.false_eq_true, em]
      exact g1
theorem zc_kdsL (d : Nat) {A : zf_A} {wa le su : Int32} {s : zf_S} {i : Nat} (hA : zf_okE A) (hc : s.1 < A.1) (hh : s.2.1 < A.2.1) (hi : i < 20) : ∀ (k w : Nat) (M : zi_M) (x y : Int32), w + k = 6 → zf_cE M (A, x, wa, le, su) → zf_is (M.1 7 i) s → ∃ M', zi_run (d + 5) zm_X9_kinds 48 [some (.inr (.inr (9, some 0))), none, some (.inr (.inr (1, some i))), some (.inl y), some (.inl (nI w))] [] M = some (some (.inl (zw_kds (fun v => zw_has (A, nI v, wa, le, su) s) w k y)), M') ∧ zw_fq M M' := by
  intro k
  induction k with
  | zero =>
    intro w M x y hw _ _
    refine ⟨M, ?_, zw_fq_rfl M⟩
    rw [ze_X9_kinds_48]
    simp (disch := omega) only [↓zp_dn, ↓zp_hV, ↓zp_hI, ↓zp_hL, ↓zp_hR, ↓zp_hX, zp_eV, zp_eI, zp_eL, zp_eR, zp_eX, zp_eXl, zp_iV, zp_iI, zp_iL, zp_iR, ↓zp_sm, ↓zp_nls, ↓zp_nln, zp_bo0, zp_bo1, zp_okE, zp_ok2E, zp_rfE, ↓reduceIte, if_true, if_false, zp_leT, zp_leF, zp_ltT, zp_ltF, zp_eqT, zp_eqF, zp_leTl, zp_leFl, zp_ltTl, zp_ltFl, zp_leTr, zp_leFr, zp_ltTr, zp_ltFr, zp_eqTr, zp_eqFr, zp_eqTl, zp_eqFl, zp_eqFll, eq_self, zp_addl, zp_addr, zp_mull, zp_mulr, zp_subr, zp_subl, nI_add, pk_mul, zw_kds]
  | succ k ih =>
    intro w M x y hw hE hs
    have hE2 : zf_cE (zi_sI M 2 0 1 (nI w)) (A, nI w, wa, le, su) := zf_cE_s1 hE (nI w)
    have hs2 := zw_fq_is (zw_fq_2 M 1 (nI w)) hi hs
    obtain ⟨M1, e1, e2⟩ := zc_hasWay d (E := (A, nI w, wa, le, su)) hA hE2 hs2 hc hh
    have f1 := zw_fq_tr (zw_fq_2 M 1 (nI w)) (zw_fr_fq e2)
    obtain ⟨M', g1, g2⟩ := ih (w + 1) M1 (nI w) (y ||| (if zw_has (A, nI w, wa, le, su) s then 1 <<< (nI w &&& 31) else 0)) (by omega) (zf_cE_fr e2 hE2) (zw_fq_is f1 hi hs)
    refine ⟨M', ?_, zw_fq_tr f1 g2⟩
    rw [ze_X9_kinds_48, zw_kds, ← g1]
    cases hb : zw_has (A, nI w, wa, le, su) s with
    | true =>
      rw [hb] at e1
      simp (disch := omega) only [↓zp_dn, ↓zp_hV, ↓zp_hI, ↓zp_hL, ↓zp_hR, ↓zp_hX, zp_eV, zp_eI, zp_eL, zp_eR, zp_eX, zp_eXl, zp_iV, zp_iI, zp_iL, zp_iR, ↓zp_sm, ↓zp_nls, ↓zp_nln, zp_bo0, zp_bo1, zp_okE, zp_ok2E, zp_rfE, ↓reduceIte, if_true, if_false, zp_leT, zp_leF, zp_ltT, zp_ltF, zp_eqT, zp_eqF, zp_leTl, zp_leFl, zp_ltTl, zp_ltFl, zp_leTr, zp_leFr, zp_ltTr, zp_ltFr, zp_eqTr, zp_eqFr, zp_eqTl, zp_eqFl, zp_eqFll, eq_self, zp_addl, zp_addr, zp_mull, zp_mulr, zp_subr, zp_subl, nI_add, pk_mul, e1, zw_b1T, zp_1n0, ze_X9_kinds_82]
    | false =>
      rw [hb] at e1
      simp (disch := omega) only [↓zp_dn, ↓zp_hV, ↓zp_hI, ↓zp_hL, ↓zp_hR, ↓zp_hX, zp_eV, zp_eI, zp_eL, zp_eR, zp_eX, zp_eXl, zp_iV, zp_iI, zp_iL, zp_iR, ↓zp_sm, ↓zp_nls, ↓zp_nln, zp_bo0, zp_bo1, zp_okE, zp_ok2E, zp_rfE, ↓reduceIte, if_true, if_false, zp_leT, zp_leF, zp_ltT, zp_ltF, zp_eqT, zp_eqF, zp_leTl, zp_leFl, zp_ltTl, zp_ltFl, zp_leTr, zp_leFr, zp_ltTr, zp_ltFr, zp_eqTr, zp_eqFr, zp_eqTl, zp_eqFl, zp_eqFll, eq_self, zp_addl, zp_addr, zp_mull, zp_mulr, zp_subr, zp_subl, nI_add, pk_mul, e1, zw_b1F, Bool.false_eq_true, ze_X9_kinds_82, Int32.or_zero]
/-- in the reference: mayGo -/
theorem zp_ifr {p : Prop} [Decidable p] (d : Nat) (r : zi_R) (pc : Nat) (L : zi_L) (S : zi_S) (M : zi_M) (a b : Int32) : (if p then zi_run d r pc L (.inl a :: S) M else zi_run d r pc L (.inl b :: S) M) = zi_run d r pc L (.inl (if p then a else b) :: S) M := by split <;> rfl
def zw_Em (E : zf_E) (t v : Int32) : zf_E := (E.1, if t = 0 then v else E.2.1, if t = 8 then v else E.2.2.1, if t = 6 then v else E.2.2.2.1, if t = 9 then v else E.2.2.2.2)
def zw_Sm (s : zf_S) (t v : Int32) : zf_S := (s.1, s.2.1, if t = 3 then v else s.2.2.1, s.2.2.2)
def zw_mm (M : zi_M) (E : zf_E) (s : zf_S) (t v : Int32) : zi_M := zi_sI (zi_sI (zi_sI (zi_sI (zi_sI (zp_rt M E s) 10 0 17 (zw_Em E t v).2.1) 10 0 20 (zw_Sm s t v).2.2.1) 10 0 25 (zw_Em E t v).2.2.2.1) 10 0 24 (zw_Em E t v).2.2.1) 10 0 26 (zw_Em E t v).2.2.2.2
theorem zr_mg6 (d : Nat) {M : zi_M} {A : zf_A} {K : zf_K} (hR : zf_rK (M.1 28 0) K) {i : Nat} (hi : i < K.2.1) (h4 : K.2.1 ≤ 4) (t v : Int32) {code : Nat} (hc : code < 729) : zi_run (d + 1) zm_X10_mayGo 6 [some (.inr (.inr (10, some 0))), some (.inl (nI i)), some (.inl t), some (.inl v), some (.inl 0), some (.inl (nI code))] [] M = zi_cI (zi_run d zm_X10_goes 0 [some (.inr (.inr (10, some 0))), some (.inl (nI code)), none, none, none, none] [] (zw_mm M (zf_en A K i) (zf_sp K i) t v)) (fun x M' => zi_run (d + 1) zm_X10_mayGo 6 [some (.inr (.inr (10, some 0))), some (.inl (nI i)), some (.inl t), some (.inl v), some (.inl x), some (.inl (nI (code + 1)))] [] M') := by
  have m17 : (zp_rt M (zf_en A K i) (zf_sp K i)).1 10 0 17 = (K.2.2.1 i).1 := by simp [zp_rt1]
  have m20 : (zp_rt M (zf_en A K i) (zf_sp K i)).1 10 0 20 = (zf_sp K i).2.2.1 := by simp [zp_rt1, zf_wr]
  have m24 : (zp_rt M (zf_en A K i) (zf_sp K i)).1 10 0 24 = (K.2.2.1 i).2.1 := by simp [zp_rt1]
  have m25 : (zp_rt M (zf_en A K i) (zf_sp K i)).1 10 0 25 = (K.2.2.1 i).2.2.1 := by simp [zp_rt1]
  have m26 : (zp_rt M (zf_en A K i) (zf_sp K i)).1 10 0 26 = K.1 := by simp [zp_rt1]
  rw [ze_X10_mayGo_6]
  have c1 : ¬ 729 ≤ nI code := nI_ge (b := 729) hc (by decide)
  rw [if_neg c1, if_pos rfl, zp_dn, zr_takes (A := A) _ hR hi h4, zp_cV, zp_ifr, ze_X10_mayGo_37, zp_ifr, ze_X10_mayGo_54, zp_ifr, ze_X10_mayGo_72, zp_ifr, ze_X10_mayGo_90, zp_ifr, ze_X10_mayGo_108, zp_dn, nI_1]
  simp only [zp_sI1, Nat.reduceEqDiff, Nat.reduceLT, Nat.reduceLeDiff, Nat.reduceAdd, Nat.reduceMul, Nat.reduceSub, reduceCtorEq, Int32.reduceLT, Int32.reduceLE, not_true_eq_false, not_false_eq_true, and_true, true_and, and_false, false_and, or_true, true_or, or_false, false_or, ↓reduceIte, m17, m20, m24, m25, m26]
  rfl
theorem zw_mm_E {M : zi_M} {E : zf_E} (h : zf_rA (M.1 28 0) E.1) (s : zf_S) (t v : Int32) : zf_rE (zw_mm M E s t v) (zw_Em E t v) := ⟨h, by simp [zw_mm, zp_sI1], by simp [zw_mm, zp_sI1], by simp [zw_mm, zp_sI1], by simp [zw_mm, zp_sI1]⟩
theorem zw_mm_s (M : zi_M) (E : zf_E) (s : zf_S) (t v : Int32) : zf_rs (zw_mm M E s t v) (zw_Sm s t v) := by
  have := zp_rt_is M E s
  obtain ⟨a0, a1, a2, a3, a4, a5⟩ := this
  refine ⟨?_, ?_, ?_, ?_, ?_, ?_⟩
  · simpa [zw_mm, zp_sI1, zw_Sm] using a0
  · simpa [zw_mm, zp_sI1, zw_Sm] using a1
  · simp [zw_mm, zp_sI1]
  · simpa [zw_mm, zp_sI1, zw_Sm] using a3
  · simpa [zw_mm, zp_sI1, zw_Sm] using a4
  · simpa [zw_mm, zp_sI1, zw_Sm] using a5
theorem zw_mm_nb (M : zi_M) (E : zf_E) (s : zf_S) (t v : Int32) : zq_nb M (zw_mm M E s t v) := zq_nb_sI (zq_nb_sI (zq_nb_sI (zq_nb_sI (zq_nb_sI (zq_nb_rt (zq_nb_rfl M) E s) (by simp [zq_gp])) (by simp [zq_gp])) (by simp [zq_gp])) (by simp [zq_gp])) (by simp [zq_gp])
theorem zr_mgL (d : Nat) {M0 : zi_M} {A : zf_A} {K : zf_K} (hE : zf_okE A) (hRA : zf_rA (M0.1 28 0) A) (hR : zf_rK (M0.1 28 0) K) {i : Nat} (hi : i < K.2.1) (h4 : K.2.1 ≤ 4) (hok : zf_okS A (zf_sp K i)) (t v : Int32) : ∀ (k code : Nat) (M : zi_M), code + k = 729 → zq_nb M0 M → M.2 = M0.2 → ∃ M', zi_run (d + 5) zm_X10_mayGo 6 [some (.inr (.inr (10, some 0))), some (.inl (nI i)), some (.inl t), some (.inl v), some (.inl 0), some (.inl (nI code))] [] M = some (some (.inl (zw_b1 (!(zw_lst (zw_go (zw_Em (zf_en A K i) t v) 6 (zw_Sm (zf_sp K i) t v)) code k).isEmpty))), M') ∧ zq_nb M0 M' ∧ M'.2 = M0.2 := by
  intro k
  induction k with
  | zero =>
    intro code M hc hb h2
    refine ⟨M, ?_, hb, h2⟩
    rw [ze_X10_mayGo_6]
    simp (disch := omega) only [↓zp_dn, ↓zp_hV, ↓zp_hI, ↓zp_hL, ↓zp_hR, ↓zp_hX, zp_eV, zp_eI, zp_eL, zp_eR, zp_eX, zp_eXl, zp_iV, zp_iI, zp_iL, zp_iR, ↓zp_sm, ↓zp_nls, ↓zp_nln, zp_bo0, zp_bo1, zp_okE, zp_ok2E, zp_rfE, ↓reduceIte, if_true, if_false, zp_leT, zp_leF, zp_ltT, zp_ltF, zp_eqT, zp_eqF, zp_leTl, zp_leFl, zp_ltTl, zp_ltFl, zp_leTr, zp_leFr, zp_ltTr, zp_ltFr, zp_eqTr, zp_eqFr, zp_eqTl, zp_eqFl, zp_eqFll, eq_self, zp_addl, zp_addr, zp_mull, zp_mulr, zp_subr, zp_subl, nI_add, pk_mul, zw_lst]
    rfl
  | succ k ih =>
    intro code M hc hb h2
    have e28 := zq_nb_28 hb
    have hRA1 : zf_rA (M.1 28 0) A := by rw [e28]; exact hRA
    have hR1 : zf_rK (M.1 28 0) K := by rw [e28]; exact hR
    obtain ⟨M', t2, t3, _⟩ := zr_goes d (E := zw_Em (zf_en A K i) t v) hE (M := zw_mm M (zf_en A K i) (zf_sp K i) t v) (s := zw_Sm (zf_sp K i) t v) (zw_mm_E (E := zf_en A K i) hRA1 _ t v) (zw_mm_s M _ _ t v) hok.1 hok.2.1 (code := code) (by omega)
    have nb1 : zq_nb M0 M' := zq_nb_tr hb (zq_nb_tr (zw_mm_nb M _ _ t v) (zw_rf_nb t3))
    have l1 : M'.2 = M0.2 := t3.1.trans h2
    rw [zr_mg6 (A := A) (d + 4) hR1 hi h4 t v (by omega), t2]
    cases eg : zw_go (zw_Em (zf_en A K i) t v) 6 (zw_Sm (zf_sp K i) t v) code with
    | none =>
      rw [zw_lst_n eg]
      simp only [Option.isSome, zw_b1F, zp_cI]
      exact ih (code + 1) M' (by omega) nb1 l1
    | some w =>
      rw [zw_lst_s eg]
      simp only [Option.isSome, zw_b1T, zp_cI]
      refine ⟨M', ?_, nb1, l1⟩
      rw [ze_X10_mayGo_6, if_neg zp_1n0]
      simp only [zp_bo1, ite_self]; rfl
theorem zr_mayGo (d : Nat) {M : zi_M} {A : zf_A} {K : zf_K} (hE : zf_okE A) (hRA : zf_rA (M.1 28 0) A) (hR : zf_rK (M.1 28 0) K) {i : Nat} (hi : i < K.2.1) (h4 : K.2.1 ≤ 4) (hok : zf_okS A (zf_sp K i)) (t v : Int32) : ∃ M', zi_run (d + 5) zm_X10_mayGo 0 [some (.inr (.inr (10, some 0))), some (.inl (nI i)), some (.inl t), some (.inl v), none, none] [] M = some (some (.inl (zw_b1 (zw_has (zw_Em (zf_en A K i) t v) (zw_Sm (zf_sp K i) t v)))), M') ∧ zq_nb M M' ∧ M'.2 = M.2 := by
  obtain ⟨M', e1, e2, e3⟩ := zr_mgL d hE hRA hR hi h4 hok t v 729 0 M (by omega) (zq_nb_rfl M) rfl
  refine ⟨M', ?_, e2, e3⟩
  rw [ze_X10_mayGo_0, zw_has, ← zw_all]; exact e1
theorem zr_leastL (d : Nat) {M0 : zi_M} {A : zf_A} {K : zf_K} (hE : zf_okE A) (hRA : zf_rA (M0.1 28 0) A) (hR : zf_rK (M0.1 28 0) K) {i : Nat} (hi : i < K.2.1) (h4 : K.2.1 ≤ 4) (hok : zf_okS A (zf_sp K i)) (t : Int32) {N : Nat} (hN : N < 1000) : ∀ (k w : Nat) (M : zi_M), w + k = N + 1 → zq_nb M0 M → M.2 = M0.2 → ∃ M', zi_run (d + 6) zm_X10_least 3 [some (.inr (.inr (10, some 0))), some (.inl (nI i)), some (.inl t), some (.inl (nI N)), some (.inl (nI w))] [] M = some (some (.inl (zw_lea (fun v => zw_has (zw_Em (zf_en A K i) t (nI v)) (zw_Sm (zf_sp K i) t (nI v))) w k)), M') ∧ zq_nb M0 M' ∧ M'.2 = M0.2 := by
  intro k
  induction k with
  | zero =>
    intro w M hw hb h2
    refine ⟨M, ?_, hb, h2⟩
    rw [ze_X10_least_3]
    simp (disch := omega) only [↓zp_dn, ↓zp_hV, ↓zp_hI, ↓zp_hL, ↓zp_hR, ↓zp_hX, zp_eV, zp_eI, zp_eL, zp_eR, zp_eX, zp_eXl, zp_iV, zp_iI, zp_iL, zp_iR, ↓zp_sm, ↓zp_nls, ↓zp_nln, zp_bo0, zp_bo1, zp_okE, zp_ok2E, zp_rfE, ↓reduceIte, if_true, if_false, zp_leT, zp_leF, zp_ltT, zp_ltF, zp_eqT, zp_eqF, zp_leTl, zp_leFl, zp_ltTl, zp_ltFl, zp_leTr, zp_leFr, zp_ltTr, zp_ltFr, zp_eqTr, zp_eqFr, zp_eqTl, zp_eqFl, zp_eqFll, eq_self, zp_addl, zp_addr, zp_mull, zp_mulr, zp_subr, zp_subl, nI_add, pk_mul, zw_lea]
  | succ k ih =>
    intro w M hw hb h2
    have e28 := zq_nb_28 hb
    obtain ⟨M1, e1, e2, e3⟩ := zr_mayGo d (M := M) hE (by rw [e28]; exact hRA) (by rw [e28]; exact hR) hi h4 hok t (nI w)
    rw [ze_X10_least_3, zw_lea]
    cases hb1 : zw_has (zw_Em (zf_en A K i) t (nI w)) (zw_Sm (zf_sp K i) t (nI w)) with
    | true =>
      rw [hb1] at e1
      refine ⟨M1, ?_, zq_nb_tr hb e2, e3.trans h2⟩
      simp (disch := omega) only [↓zp_dn, ↓zp_hV, ↓zp_hI, ↓zp_hL, ↓zp_hR, ↓zp_hX, zp_eV, zp_eI, zp_eL, zp_eR, zp_eX, zp_eXl, zp_iV, zp_iI, zp_iL, zp_iR, ↓zp_sm, ↓zp_nls, ↓zp_nln, zp_bo0, zp_bo1, zp_okE, zp_ok2E, zp_rfE, ↓reduceIte, if_true, if_false, zp_leT, zp_leF, zp_ltT, zp_ltF, zp_eqT, zp_eqF, zp_leTl, zp_leFl, zp_ltTl, zp_ltFl, zp_leTr, zp_leFr, zp_ltTr, zp_ltFr, zp_eqTr, zp_eqFr, zp_eqTl, zp_eqFl, zp_eqFll, eq_self, zp_addl, zp_addr, zp_mull, zp_mulr, zp_subr, zp_subl, nI_add, pk_mul, e1, zw_b1T, zp_1n0]
    | false =>
      rw [hb1] at e1
      simp (disch := omega) only [↓zp_dn, ↓zp_hV, ↓zp_hI, ↓zp_hL, ↓zp_hR, ↓zp_hX, zp_eV, zp_eI, zp_eL, zp_eR, zp_eX, zp_eXl, zp_iV, zp_iI, zp_iL, zp_iR, ↓zp_sm, ↓zp_nls, ↓zp_nln, zp_bo0, zp_bo1, zp_okE, zp_ok2E, zp_rfE, ↓reduceIte, if_true, if_false, zp_leT, zp_leF, zp_ltT, zp_ltF, zp_eqT, zp_eqF, zp_leTl, zp_leFl, zp_ltTl, zp_ltFl, zp_leTr, zp_leFr, zp_ltTr, zp_ltFr, zp_eqTr, zp_eqFr, zp_eqTl, zp_eqFl, zp_eqFll, eq_self, zp_addl, zp_addr, zp_mull, zp_mulr, zp_subr, zp_subl, nI_add, pk_mul, e1, zw_b1F, Bool.false_eq_true]
      exact ih (w + 1) M1 (by omega) (zq_nb_tr hb e2) (e3.trans h2)
theorem zr_greL (d : Nat) {M0 : zi_M} {A : zf_A} {K : zf_K} (hE : zf_okE A) (hRA : zf_rA (M0.1 28 0) A) (hR : zf_rK (M0.1 28 0) K) {i : Nat} (hi : i < K.2.1) (h4 : K.2.1 ≤ 4) (hok : zf_okS A (zf_sp K i)) (t : Int32) : ∀ (k : Nat) (M : zi_M), k < 1000 → zq_nb M0 M → M.2 = M0.2 → ∃ M', zi_run (d + 6) zm_X10_greatest 3 [some (.inr (.inr (10, some 0))), some (.inl (nI i)), some (.inl t), none, some (.inl (nI k - 1))] [] M = some (some (.inl (zw_gre (fun v => zw_has (zw_Em (zf_en A K i) t (nI v)) (zw_Sm (zf_sp K i) t (nI v))) k)), M') ∧ zq_nb M0 M' ∧ M'.2 = M0.2 := by
  intro k
  induction k with
  | zero =>
    intro M _ hb h2
    refine ⟨M, ?_, hb, h2⟩
    rw [ze_X10_greatest_3]
    simp (disch := omega) only [↓zp_dn, ↓zp_hV, ↓zp_hI, ↓zp_hL, ↓zp_hR, ↓zp_hX, zp_eV, zp_eI, zp_eL, zp_eR, zp_eX, zp_eXl, zp_iV, zp_iI, zp_iL, zp_iR, ↓zp_sm, ↓zp_nls, ↓zp_nln, zp_bo0, zp_bo1, zp_okE, zp_ok2E, zp_rfE, ↓reduceIte, if_true, if_false, zp_leT, zp_leF, zp_ltT, zp_ltF, zp_eqT, zp_eqF, zp_leTl, zp_leFl, zp_ltTl, zp_ltFl, zp_leTr, zp_leFr, zp_ltTr, zp_ltFr, zp_eqTr, zp_eqFr, zp_eqTl, zp_eqFl, zp_eqFll, eq_self, zp_addl, zp_addr, zp_mull, zp_mulr, zp_subr, zp_subl, nI_add, pk_mul, zp_0m1, zp_m10, zw_gre]
  | succ k ih =>
    intro M hk hb h2
    have e28 := zq_nb_28 hb
    obtain ⟨M1, e1, e2, e3⟩ := zr_mayGo d (M := M) hE (by rw [e28]; exact hRA) (by rw [e28]; exact hR) hi h4 hok t (nI k)
    rw [zp_p1, ze_X10_greatest_3, zw_gre]
    cases hb1 : zw_has (zw_Em (zf_en A K i) t (nI k)) (zw_Sm (zf_sp K i) t (nI k)) with
    | true =>
      rw [hb1] at e1
      refine ⟨M1, ?_, zq_nb_tr hb e2, e3.trans h2⟩
      simp (disch := omega) only [↓zp_dn, ↓zp_hV, ↓zp_hI, ↓zp_hL, ↓zp_hR, ↓zp_hX, zp_eV, zp_eI, zp_eL, zp_eR, zp_eX, zp_eXl, zp_iV, zp_iI, zp_iL, zp_iR, ↓zp_sm, ↓zp_nls, ↓zp_nln, zp_bo0, zp_bo1, zp_okE, zp_ok2E, zp_rfE, ↓reduceIte, if_true, if_false, zp_leT, zp_leF, zp_ltT, zp_ltF, zp_eqT, zp_eqF, zp_leTl, zp_leFl, zp_ltTl, zp_ltFl, zp_leTr, zp_leFr, zp_ltTr, zp_ltFr, zp_eqTr, zp_eqFr, zp_eqTl, zp_eqFl, zp_eqFll, eq_self, zp_addl, zp_addr, zp_mull, zp_mulr, zp_subr, zp_subl, nI_add, pk_mul, e1, zw_b1T, zp_1n0]
    | false =>
      rw [hb1] at e1
      have em : nI k + (-1) = nI k - 1 := by rw [Int32.sub_eq_add_neg]
      simp (disch := omega) only [↓zp_dn, ↓zp_hV, ↓zp_hI, ↓zp_hL, ↓zp_hR, ↓zp_hX, zp_eV, zp_eI, zp_eL, zp_eR, zp_eX, zp_eXl, zp_iV, zp_iI, zp_iL, zp_iR, ↓zp_sm, ↓zp_nls, ↓zp_nln, zp_bo0, zp_bo1, zp_okE, zp_ok2E, zp_rfE, ↓reduceIte, if_true, if_false, zp_leT, zp_leF, zp_ltT, zp_ltF, zp_eqT, zp_eqF, zp_leTl, zp_leFl, zp_ltTl, zp_ltFl, zp_leTr, zp_leFr, zp_ltTr, zp_ltFr, zp_eqTr, zp_eqFr, zp_eqTl, zp_eqFl, zp_eqFll, eq_self, zp_addl, zp_addr, zp_mull, zp_mulr, zp_subr, zp_subl, nI_add, pk_mul, e1, zw_b1F, Bool.false_eq_true, em]
      exact ih M1 (by omega) (zq_nb_tr hb e2) (e3.trans h2)
theorem zr_kdsL (d : Nat) {M0 : zi_M} {A : zf_A} {K : zf_K} (hE : zf_okE A) (hRA : zf_rA (M0.1 28 0) A) (hR : zf_rK (M0.1 28 0) K) {i : Nat} (hi : i < K.2.1) (h4 : K.2.1 ≤ 4) (hok : zf_okS A (zf_sp K i)) : ∀ (k w : Nat) (M : zi_M) (y : Int32), w + k = 6 → zq_nb M0 M → M.2 = M0.2 → ∃ M', zi_run (d + 6) zm_X10_kinds 25 [some (.inr (.inr (10, some 0))), some (.inl (nI i)), some (.inl y), some (.inl (nI w))] [] M = some (some (.inl (zw_kds (fun v => zw_has (zw_Em (zf_en A K i) 0 (nI v)) (zw_Sm (zf_sp K i) 0 (nI v))) w k y)), M') ∧ zq_nb M0 M' ∧ M'.2 = M0.2 := by
  intro k
  induction k with
  | zero =>
    intro w M y hw hb h2
    refine ⟨M, ?_, hb, h2⟩
    rw [ze_X10_kinds_25]
    simp (disch := omega) only [↓zp_dn, ↓zp_hV, ↓zp_hI, ↓zp_hL, ↓zp_hR, ↓zp_hX, zp_eV, zp_eI, zp_eL, zp_eR, zp_eX, zp_eXl, zp_iV, zp_iI, zp_iL, zp_iR, ↓zp_sm, ↓zp_nls, ↓zp_nln, zp_bo0, zp_bo1, zp_okE, zp_ok2E, zp_rfE, ↓reduceIte, if_true, if_false, zp_leT, zp_leF, zp_ltT, zp_ltF, zp_eqT, zp_eqF, zp_leTl, zp_leFl, zp_ltTl, zp_ltFl, zp_leTr, zp_leFr, zp_ltTr, zp_ltFr, zp_eqTr, zp_eqFr, zp_eqTl, zp_eqFl, zp_eqFll, eq_self, zp_addl, zp_addr, zp_mull, zp_mulr, zp_subr, zp_subl, nI_add, pk_mul, zw_kds]
  | succ k ih =>
    intro w M y hw hb h2
    have e28 := zq_nb_28 hb
    obtain ⟨M1, e1, e2, e3⟩ := zr_mayGo d (M := M) hE (by rw [e28]; exact hRA) (by rw [e28]; exact hR) hi h4 hok 0 (nI w)
    obtain ⟨M', g1, g2⟩ := ih (w + 1) M1 (y ||| (if zw_has (zw_Em (zf_en A K i) 0 (nI w)) (zw_Sm (zf_sp K i) 0 (nI w)) then 1 <<< (nI w &&& 31) else 0)) (by omega) (zq_nb_tr hb e2) (e3.trans h2)
    refine ⟨M', ?_, g2⟩
    rw [ze_X10_kinds_25, zw_kds, ← g1]
    cases hb1 : zw_has (zw_Em (zf_en A K i) 0 (nI w)) (zw_Sm (zf_sp K i) 0 (nI w)) with
    | true =>
      rw [hb1] at e1
      simp (disch := omega) only [↓zp_dn, ↓zp_hV, ↓zp_hI, ↓zp_hL, ↓zp_hR, ↓zp_hX, zp_eV, zp_eI, zp_eL, zp_eR, zp_eX, zp_eXl, zp_iV, zp_iI, zp_iL, zp_iR, ↓zp_sm, ↓zp_nls, ↓zp_nln, zp_bo0, zp_bo1, zp_okE, zp_ok2E, zp_rfE, ↓reduceIte, if_true, if_false, zp_leT, zp_leF, zp_ltT, zp_ltF, zp_eqT, zp_eqF, zp_leTl, zp_leFl, zp_ltTl, zp_ltFl, zp_leTr, zp_leFr, zp_ltTr, zp_ltFr, zp_eqTr, zp_eqFr, zp_eqTl, zp_eqFl, zp_eqFll, eq_self, zp_addl, zp_addr, zp_mull, zp_mulr, zp_subr, zp_subl, nI_add, pk_mul, e1, zw_b1T, zp_1n0, ze_X10_kinds_48]
    | false =>
      rw [hb1] at e1
      simp (disch := omega) only [↓zp_dn, ↓zp_hV, ↓zp_hI, ↓zp_hL, ↓zp_hR, ↓zp_hX, zp_eV, zp_eI, zp_eL, zp_eR, zp_eX, zp_eXl, zp_iV, zp_iI, zp_iL, zp_iR, ↓zp_sm, ↓zp_nls, ↓zp_nln, zp_bo0, zp_bo1, zp_okE, zp_ok2E, zp_rfE, ↓reduceIte, if_true, if_false, zp_leT, zp_leF, zp_ltT, zp_ltF, zp_eqT, zp_eqF, zp_leTl, zp_leFl, zp_ltTl, zp_ltFl, zp_leTr, zp_leFr, zp_ltTr, zp_ltFr, zp_eqTr, zp_eqFr, zp_eqTl, zp_eqFl, zp_eqFll, eq_self, zp_addl, zp_addr, zp_mull, zp_mulr, zp_subr, zp_subl, nI_add, pk_mul, e1, zw_b1F, Bool.false_eq_true, ze_X10_kinds_48]
theorem zq_okI {n : Nat} {xs : Nat → Int32} {M M1 M2 : zi_M} (hI : zq_inv n xs M) (h1 : zq_nb M M1) (l1 : M1.2 = M.2) (h2 : zq_nb M1 M2) (l2 : M2.2 = M1.2) : zq_inv n xs M2 := zq_inv_nb (zq_nb_tr h1 h2) (fun a => by
  simp only [zq_longs, l2.trans l1] at a ⊢; exact a) hI
