/-! THE PURE PART: post -/
def zw_rg (M M' : zi_M) : Prop := M'.2 = M.2 ∧ ∀ c k j, c ≠ 34 → c ≠ 35 → ¬ (c = 10 ∧ j ≠ 8 ∧ j ≠ 9) → M'.1 c k j = M.1 c k j
theorem zw_rg_rfl (M : zi_M) : zw_rg M M := ⟨rfl, fun _ _ _ _ _ _ => rfl⟩
theorem zw_rg_tr {M M1 M2 : zi_M} (h : zw_rg M M1) (h2 : zw_rg M1 M2) : zw_rg M M2 := ⟨h2.1.trans h.1, fun c k j a b e => (h2.2 c k j a b e).trans (h.2 c k j a b e)⟩
theorem zw_rf_rg {M M1 : zi_M} (h : zw_rf M M1) : zw_rg M M1 := ⟨h.1, fun c k j a b e => h.2 c k j a b (fun q => e ⟨q.1, by omega, by omega⟩)⟩
theorem zw_rg_nb {M M' : zi_M} (h : zw_rg M M') : zq_nb M M' := by
  intro c k s e
  refine h.2 c k s ?_ ?_ ?_
  · intro hc; subst hc; exact e (by simp [zq_gp])
  · intro hc; subst hc; exact e (by simp [zq_gp])
  · intro hc; obtain ⟨a, b, b'⟩ := hc; subst a; exact e (by simp [zq_gp, b, b'])
theorem zw_rg_10 {M M1 : zi_M} (h : zw_rg M M1) {s : Nat} (h8 : s ≠ 8) (h9 : s ≠ 9) (x : Int32) : zw_rg M (zi_sI M1 10 0 s x) := ⟨h.1, fun c k j a b e => by
  rw [zp_sI1]
  by_cases h1 : c = 10
  · by_cases h2 : j = s
    · exact absurd ⟨h1, by omega, by omega⟩ e
    · rw [if_pos h1, if_neg h2]; exact h.2 c k j a b e
  · rw [if_neg h1]; exact h.2 c k j a b e⟩
theorem zw_rg_rt (M : zi_M) (E : zf_E) (s : zf_S) : zw_rg M (zp_rt M E s) := ⟨rfl, fun c k j a b e => by
  rw [zp_rt1]
  by_cases h1 : c = 10
  · have hj : j = 8 ∨ j = 9 := by
      by_cases q : j = 8
      · exact Or.inl q
      · by_cases q2 : j = 9
        · exact Or.inr q2
        · exact absurd ⟨h1, q, q2⟩ e
    rw [if_pos h1]
    by_cases h2 : k = 0
    · subst h1; subst h2
      rw [if_pos rfl, if_neg (by omega), if_neg (by omega), if_neg (by omega), if_neg (by omega)]
      simp only [zf_wr]
      rw [if_neg (by omega), if_neg (by omega), if_neg (by omega), if_neg (by omega), if_neg (by omega), if_neg (by omega)]
    · rw [if_neg h2]
  · rw [if_neg h1]⟩
theorem zw_mm_rg (M : zi_M) (E : zf_E) (s : zf_S) (t v : Int32) : zw_rg M (zw_mm M E s t v) := zw_rg_10 (zw_rg_10 (zw_rg_10 (zw_rg_10 (zw_rg_10 (zw_rg_rt M E s) (by decide) (by decide) _) (by decide) (by decide) _) (by decide) (by decide) _) (by decide) (by decide) _) (by decide) (by decide) _
theorem zr_mgG (d : Nat) {M0 : zi_M} {A : zf_A} {K : zf_K} (hE : zf_okE A) (hRA : zf_rA (M0.1 28 0) A) (hR : zf_rK (M0.1 28 0) K) {i : Nat} (hi : i < K.2.1) (h4 : K.2.1 ≤ 4) (hok : zf_okS A (zf_sp K i)) (t v : Int32) : ∀ (k code : Nat) (M : zi_M), code + k = 729 → zw_rg M0 M → ∃ M', zi_run (d + 5) zm_X10_mayGo 6 [some (.inr (.inr (10, some 0))), some (.inl (nI i)), some (.inl t), some (.inl v), some (.inl 0), some (.inl (nI code))] [] M = some (some (.inl (zw_b1 (!(zw_lst (zw_go (zw_Em (zf_en A K i) t v) 6 (zw_Sm (zf_sp K i) t v)) code k).isEmpty))), M') ∧ zw_rg M0 M' := by
  intro k
  induction k with
  | zero =>
    intro code M hc hb
    refine ⟨M, ?_, hb⟩
    rw [ze_X10_mayGo_6]
    simp (disch := omega) only [↓zp_dn, ↓zp_hV, ↓zp_hI, ↓zp_hL, ↓zp_hR, ↓zp_hX, zp_eV, zp_eI, zp_eL, zp_eR, zp_eX, zp_eXl, zp_iV, zp_iI, zp_iL, zp_iR, ↓zp_sm, ↓zp_nls, ↓zp_nln, zp_bo0, zp_bo1, zp_okE, zp_ok2E, zp_rfE, ↓reduceIte, if_true, if_false, zp_leT, zp_leF, zp_ltT, zp_ltF, zp_eqT, zp_eqF, zp_leTl, zp_leFl, zp_ltTl, zp_ltFl, zp_leTr, zp_leFr, zp_ltTr, zp_ltFr, zp_eqTr, zp_eqFr, zp_eqTl, zp_eqFl, zp_eqFll, eq_self, zp_addl, zp_addr, zp_mull, zp_mulr, zp_subr, zp_subl, nI_add, pk_mul, zw_lst]
    rfl
  | succ k ih =>
    intro code M hc hb
    have e28 := zq_nb_28 (zw_rg_nb hb)
    have hRA1 : zf_rA (M.1 28 0) A := by rw [e28]; exact hRA
    have hR1 : zf_rK (M.1 28 0) K := by rw [e28]; exact hR
    obtain ⟨M', t2, t3, _⟩ := zr_goes d (E := zw_Em (zf_en A K i) t v) hE (M := zw_mm M (zf_en A K i) (zf_sp K i) t v) (s := zw_Sm (zf_sp K i) t v) (zw_mm_E (E := zf_en A K i) hRA1 _ t v) (zw_mm_s M _ _ t v) hok.1 hok.2.1 (code := code) (by omega)
    have nb1 : zw_rg M0 M' := zw_rg_tr hb (zw_rg_tr (zw_mm_rg M _ _ t v) (zw_rf_rg t3))
    rw [zr_mg6 (A := A) (d + 4) hR1 hi h4 t v (by omega), t2]
    cases eg : zw_go (zw_Em (zf_en A K i) t v) 6 (zw_Sm (zf_sp K i) t v) code with
    | none =>
      rw [zw_lst_n eg]
      simp only [Option.isSome, zw_b1F, zp_cI]
      exact ih (code + 1) M' (by omega) nb1
    | some w =>
      rw [zw_lst_s eg]
      simp only [Option.isSome, zw_b1T, zp_cI]
      refine ⟨M', ?_, nb1⟩
      rw [ze_X10_mayGo_6, if_neg zp_1n0]
      simp only [zp_bo1, ite_self]; rfl
theorem zr_greG (d : Nat) {M0 : zi_M} {A : zf_A} {K : zf_K} (hE : zf_okE A) (hRA : zf_rA (M0.1 28 0) A) (hR : zf_rK (M0.1 28 0) K) {i : Nat} (hi : i < K.2.1) (h4 : K.2.1 ≤ 4) (hok : zf_okS A (zf_sp K i)) (t : Int32) : ∀ (k : Nat) (M : zi_M), k < 1000 → zw_rg M0 M → ∃ M', zi_run (d + 6) zm_X10_greatest 3 [some (.inr (.inr (10, some 0))), some (.inl (nI i)), some (.inl t), none, some (.inl (nI k - 1))] [] M = some (some (.inl (zw_gre (fun v => zw_has (zw_Em (zf_en A K i) t (nI v)) (zw_Sm (zf_sp K i) t (nI v))) k)), M') ∧ zw_rg M0 M' := by
  intro k
  induction k with
  | zero =>
    intro M _ hb
    refine ⟨M, ?_, hb⟩
    rw [ze_X10_greatest_3]
    simp (disch := omega) only [↓zp_dn, ↓zp_hV, ↓zp_hI, ↓zp_hL, ↓zp_hR, ↓zp_hX, zp_eV, zp_eI, zp_eL, zp_eR, zp_eX, zp_eXl, zp_iV, zp_iI, zp_iL, zp_iR, ↓zp_sm, ↓zp_nls, ↓zp_nln, zp_bo0, zp_bo1, zp_okE, zp_ok2E, zp_rfE, ↓reduceIte, if_true, if_false, zp_leT, zp_leF, zp_ltT, zp_ltF, zp_eqT, zp_eqF, zp_leTl, zp_leFl, zp_ltTl, zp_ltFl, zp_leTr, zp_leFr, zp_ltTr, zp_ltFr, zp_eqTr, zp_eqFr, zp_eqTl, zp_eqFl, zp_eqFll, eq_self, zp_addl, zp_addr, zp_mull, zp_mulr, zp_subr, zp_subl, nI_add, pk_mul, zp_0m1, zp_m10, zw_gre]
  | succ k ih =>
    intro M hk hb
    have e28 := zq_nb_28 (zw_rg_nb hb)
    obtain ⟨M1, e1, e2⟩ := zr_mgG d (M0 := M) hE (by rw [e28]; exact hRA) (by rw [e28]; exact hR) hi h4 hok t (nI k) 729 0 M (by omega) (zw_rg_rfl M)
    rw [zw_all] at e1
    have e1' : zi_run (d + 5) zm_X10_mayGo 0 [some (.inr (.inr (10, some 0))), some (.inl (nI i)), some (.inl t), some (.inl (nI k)), none, none] [] M = some (some (.inl (zw_b1 (zw_has (zw_Em (zf_en A K i) t (nI k)) (zw_Sm (zf_sp K i) t (nI k))))), M1) := (ze_X10_mayGo_0 (d + 5) (nI i) t (nI k) M).trans e1
    rw [zp_p1, ze_X10_greatest_3, zw_gre]
    cases hb1 : zw_has (zw_Em (zf_en A K i) t (nI k)) (zw_Sm (zf_sp K i) t (nI k)) with
    | true =>
      rw [hb1] at e1'
      refine ⟨M1, ?_, zw_rg_tr hb e2⟩
      simp (disch := omega) only [↓zp_dn, ↓zp_hV, ↓zp_hI, ↓zp_hL, ↓zp_hR, ↓zp_hX, zp_eV, zp_eI, zp_eL, zp_eR, zp_eX, zp_eXl, zp_iV, zp_iI, zp_iL, zp_iR, ↓zp_sm, ↓zp_nls, ↓zp_nln, zp_bo0, zp_bo1, zp_okE, zp_ok2E, zp_rfE, ↓reduceIte, if_true, if_false, zp_leT, zp_leF, zp_ltT, zp_ltF, zp_eqT, zp_eqF, zp_leTl, zp_leFl, zp_ltTl, zp_ltFl, zp_leTr, zp_leFr, zp_ltTr, zp_ltFr, zp_eqTr, zp_eqFr, zp_eqTl, zp_eqFl, zp_eqFll, eq_self, zp_addl, zp_addr, zp_mull, zp_mulr, zp_subr, zp_subl, nI_add, pk_mul, e1', zw_b1T, zp_1n0]
    | false =>
      rw [hb1] at e1'
      have em : nI k + (-1) = nI k - 1 := by rw [Int32.sub_eq_add_neg]
      simp (disch := omega) only [↓zp_dn, ↓zp_hV, ↓zp_hI, ↓zp_hL, ↓zp_hR, ↓zp_hX, zp_eV, zp_eI, zp_eL, zp_eR, zp_eX, zp_eXl, zp_iV, zp_iI, zp_iL, zp_iR, ↓zp_sm, ↓zp_nls, ↓zp_nln, zp_bo0, zp_bo1, zp_okE, zp_ok2E, zp_rfE, ↓reduceIte, if_true, if_false, zp_leT, zp_leF, zp_ltT, zp_ltF, zp_eqT, zp_eqF, zp_leTl, zp_leFl, zp_ltTl, zp_ltFl, zp_leTr, zp_leFr, zp_ltTr, zp_ltFr, zp_eqTr, zp_eqFr, zp_eqTl, zp_eqFl, zp_eqFll, eq_self, zp_addl, zp_addr, zp_mull, zp_mulr, zp_subr, zp_subl, nI_add, pk_mul, e1', zw_b1F, Bool.false_eq_true, em]
      exact ih M1 (by omega) (zw_rg_tr hb e2)
/-- the most LETTERS, as a number -/
def zs_mx (P : Nat → Bool) : Nat := if P 3 then 3 else if P 2 then 2 else if P 1 then 1 else 0
theorem zs_mx3 (P : Nat → Bool) : zs_mx P ≤ 3 := by
  unfold zs_mx; repeat' split
  all_goals omega
theorem zs_mxR (P : Nat → Bool) : zi_max 0 (zw_gre P 4) = nI (zs_mx P) := by
  simp only [zw_gre, zs_mx]
  cases P 3 <;> cases P 2 <;> cases P 1 <;> cases P 0 <;> decide
def zs_lb (m : Nat) : Nat := 2 ^ (m + 1) - 1
theorem zs_mxC {P : Nat → Bool} (h32 : P 3 = true → P 2 = true) (h21 : P 2 = true → P 1 = true) : zw_kds P 1 3 1 = nI (zs_lb (zs_mx P)) := by
  simp only [zw_kds, zs_mx, zs_lb]
  cases h3 : P 3
  · cases h2 : P 2
    · cases P 1 <;> decide
    · rw [h21 h2]; decide
  · rw [h32 h3, h21 (h32 h3)]; decide
theorem zs_bit : ∀ m, m < 4 → ∀ v, v < 4 → ((((nI (zs_lb m)) >>> ((nI v) &&& 31)) &&& 1) = 0 ↔ m < v) := by decide +kernel
/-- letters alone don't change what is left out of a WAY's costs -/
theorem zs_ht_E (A : zf_A) (kd wa su x y : Int32) (t : zf_S) (b : Nat) : zf_heat (A, kd, wa, x, su) (zf_mv (A, kd, wa, x, su) t b) = zf_heat (A, kd, wa, y, su) (zf_mv (A, kd, wa, y, su) t b) := by simp only [zf_heat, zf_warm, zf_mv]
theorem zs_cl_E (A : zf_A) (kd wa su x y : Int32) (t : zf_S) (b : Nat) : zf_clog (A, kd, wa, x, su) (zf_mv (A, kd, wa, x, su) t b) = zf_clog (A, kd, wa, y, su) (zf_mv (A, kd, wa, y, su) t b) := by simp only [zf_clog, zf_mv]
theorem zs_bt_E (A : zf_A) (kd wa su x y : Int32) (t : zf_S) (b : Nat) : zs_bt (A, kd, wa, x, su) t b = zs_bt (A, kd, wa, y, su) t b := by
  simp only [zs_bt]; rw [zs_ht_E A kd wa su x y, zs_cl_E A kd wa su x y]
theorem zs_g_E (A : zf_A) (kd wa su x y : Int32) (t : zf_S) (b : Nat) : zs_g (A, kd, wa, x, su) t b ↔ zs_g (A, kd, wa, y, su) t b := by
  simp only [zs_g]; rw [zs_ht_E A kd wa su x y, zs_cl_E A kd wa su x y]
theorem zs_c_E (A : zf_A) (kd wa su x y : Int32) (t : zf_S) (b l : Nat) : zs_c (A, kd, wa, x, su) t b l = zs_c (A, kd, wa, y, su) t b l := (rfl)
theorem zs_br_E (A : zf_A) (kd wa su x y : Int32) (t : zf_S) (b l : Nat) (f : zf_S → List Nat) : zs_br (A, kd, wa, x, su) l f t b = zs_br (A, kd, wa, y, su) l f t b := by
  by_cases h : zs_g (A, kd, wa, x, su) t b
  · rw [zs_br, if_pos h, zs_br, if_pos ((zs_g_E A kd wa su x y t b).mp h), zs_bt_E A kd wa su x y, zs_c_E A kd wa su x y]
  · rw [zs_br, if_neg h, zs_br, if_neg (fun q => h ((zs_g_E A kd wa su x y t b).mpr q))]
theorem zs_C_E (A : zf_A) (kd wa su x y : Int32) (l : Nat) : ∀ n, zs_C (A, kd, wa, x, su) l n = zs_C (A, kd, wa, y, su) l n := by
  intro n
  induction n with
  | zero => rfl
  | succ n ih =>
    funext t
    simp only [zs_C, ih, zs_br_E A kd wa su x y]
theorem zs_hasM {A : zf_A} {kd wa su : Int32} {s : zf_S} {t : Nat} (ht : t ≤ 40) (hf : s.2.2.2.2.2 = 0) (hs : s.2.2.1 = nI t) {l l' : Nat} (hl : l ≤ 3) (hll : l' ≤ l) (h : zw_has (A, kd, wa, nI l, su) s = true) : zw_has (A, kd, wa, nI l', su) s = true := by
  have e : s = zs_sh s (nI t) := by
    rw [← hs]
    show s = (s.1, s.2.1, s.2.2.1, s.2.2.2.1, s.2.2.2.2.1, 0)
    rw [← hf]
  rw [zw_hasE, e] at h ⊢
  obtain ⟨c, c1, c2⟩ := (zs_has (A, kd, wa, nI l, su) hl rfl 6 s t ht).mp h
  obtain ⟨c', c3, c4⟩ := zs_C_mono (A, kd, wa, nI l, su) hll 6 s c c1
  rw [zs_C_E A kd wa su (nI l) (nI l') l' 6] at c3
  exact (zs_has (A, kd, wa, nI l', su) (by omega) rfl 6 s t ht).mpr ⟨c', c3, by omega⟩
/-- how many LETTERS flyer i can bring -/
def zs_P (A : zf_A) (K : zf_K) (i v : Nat) : Bool := zw_has (A, (K.2.2.1 i).1, (K.2.2.1 i).2.1, nI v, K.1) (zf_sp K i)
def zs_m (A : zf_A) (K : zf_K) (i : Nat) : Nat := if i < K.2.1 then (if (zf_sp K i).2.2.2.2.2 = 0 then zs_mx (zs_P A K i) else 0) else 0
theorem zs_m3 (A : zf_A) (K : zf_K) (i : Nat) : zs_m A K i ≤ 3 := by
  unfold zs_m; repeat' split
  · exact zs_mx3 _
  · omega
  · omega
theorem zc_loadL (d : Nat) {A : zf_A} {kd wa su : Int32} {s : zf_S} {i : Nat} (hA : zf_okE A) (hc : s.1 < A.1) (hh : s.2.1 < A.2.1) (hi : i < 20) : ∀ (k w : Nat) (M : zi_M) (x y : Int32), w + k = 4 → zf_cE M (A, kd, wa, x, su) → zf_is (M.1 7 i) s → ∃ M', zi_run (d + 5) zm_X9_loadsOf 35 [some (.inr (.inr (9, some 0))), some (.inr (.inr (1, some i))), some (.inl y), some (.inl (nI w))] [] M = some (some (.inl (zw_kds (fun v => zw_has (A, kd, wa, nI v, su) s) w k y)), M') ∧ zw_fq M M' := by
  intro k
  induction k with
  | zero =>
    intro w M x y hw _ _
    refine ⟨M, ?_, zw_fq_rfl M⟩
    rw [ze_X9_loadsOf_35]
    simp (disch := omega) only [↓zp_dn, ↓zp_hV, ↓zp_hI, ↓zp_hL, ↓zp_hR, ↓zp_hX, zp_eV, zp_eI, zp_eL, zp_eR, zp_eX, zp_eXl, zp_iV, zp_iI, zp_iL, zp_iR, ↓zp_sm, ↓zp_nls, ↓zp_nln, zp_bo0, zp_bo1, zp_okE, zp_ok2E, zp_rfE, ↓reduceIte, if_true, if_false, zp_leT, zp_leF, zp_ltT, zp_ltF, zp_eqT, zp_eqF, zp_leTl, zp_leFl, zp_ltTl, zp_ltFl, zp_leTr, zp_leFr, zp_ltTr, zp_ltFr, zp_eqTr, zp_eqFr, zp_eqTl, zp_eqFl, zp_eqFll, eq_self, zp_addl, zp_addr, zp_mull, zp_mulr, zp_subr, zp_subl, nI_add, pk_mul, zw_kds]
  | succ k ih =>
    intro w M x y hw hE hs
    have hE2 : zf_cE (zi_sI M 2 0 3 (nI w)) (A, kd, wa, nI w, su) := zf_cE_s3 hE (nI w)
    have hs2 := zw_fq_is (zw_fq_2 M 3 (nI w)) hi hs
    obtain ⟨M1, e1, e2⟩ := zc_hasWay d (E := (A, kd, wa, nI w, su)) hA hE2 hs2 hc hh
    have f1 := zw_fq_tr (zw_fq_2 M 3 (nI w)) (zw_fr_fq e2)
    obtain ⟨M', g1, g2⟩ := ih (w + 1) M1 (nI w) (y ||| (if zw_has (A, kd, wa, nI w, su) s then 1 <<< (nI w &&& 31) else 0)) (by omega) (zf_cE_fr e2 hE2) (zw_fq_is f1 hi hs)
    refine ⟨M', ?_, zw_fq_tr f1 g2⟩
    rw [ze_X9_loadsOf_35, zw_kds, ← g1]
    cases hb : zw_has (A, kd, wa, nI w, su) s with
    | true =>
      rw [hb] at e1
      simp (disch := omega) only [↓zp_dn, ↓zp_hV, ↓zp_hI, ↓zp_hL, ↓zp_hR, ↓zp_hX, zp_eV, zp_eI, zp_eL, zp_eR, zp_eX, zp_eXl, zp_iV, zp_iI, zp_iL, zp_iR, ↓zp_sm, ↓zp_nls, ↓zp_nln, zp_bo0, zp_bo1, zp_okE, zp_ok2E, zp_rfE, ↓reduceIte, if_true, if_false, zp_leT, zp_leF, zp_ltT, zp_ltF, zp_eqT, zp_eqF, zp_leTl, zp_leFl, zp_ltTl, zp_ltFl, zp_leTr, zp_leFr, zp_ltTr, zp_ltFr, zp_eqTr, zp_eqFr, zp_eqTl, zp_eqFl, zp_eqFll, eq_self, zp_addl, zp_addr, zp_mull, zp_mulr, zp_subr, zp_subl, nI_add, pk_mul, e1, zw_b1T, zp_1n0, ze_X9_loadsOf_65]
    | false =>
      rw [hb] at e1
      simp (disch := omega) only [↓zp_dn, ↓zp_hV, ↓zp_hI, ↓zp_hL, ↓zp_hR, ↓zp_hX, zp_eV, zp_eI, zp_eL, zp_eR, zp_eX, zp_eXl, zp_iV, zp_iI, zp_iL, zp_iR, ↓zp_sm, ↓zp_nls, ↓zp_nln, zp_bo0, zp_bo1, zp_okE, zp_ok2E, zp_rfE, ↓reduceIte, if_true, if_false, zp_leT, zp_leF, zp_ltT, zp_ltF, zp_eqT, zp_eqF, zp_leTl, zp_leFl, zp_ltTl, zp_ltFl, zp_leTr, zp_leFr, zp_ltTr, zp_ltFr, zp_eqTr, zp_eqFr, zp_eqTl, zp_eqFl, zp_eqFll, eq_self, zp_addl, zp_addr, zp_mull, zp_mulr, zp_subr, zp_subl, nI_add, pk_mul, e1, zw_b1F, Bool.false_eq_true, ze_X9_loadsOf_65, Int32.or_zero]
theorem zw_fq_bd (M : zi_M) (E : zf_E) : zw_fq M (zp_bd M E) := ⟨zp_bd2 M E, fun c k j _ _ h _ => zp_bd1 M E h k j⟩
theorem zc_loads (d : Nat) {M : zi_M} {A : zf_A} {K : zf_K} (hS : zq_sky M A K) {i : Nat} (hi4 : i < 4) : ∃ o M', (∀ e, zi_run e zm_X6_birdAt 0 [some (.inr (.inr (6, some 0))), some (.inl (nI i))] [] M = some (some (.inr (.inr (1, o))), M)) ∧ zi_run (d + 5) zm_X9_loadsOf 0 [some (.inr (.inr (9, some 0))), some (.inr (.inr (1, o))), none, none] [] M = some (some (.inl (nI (zs_lb (zs_m A K i)))), M') ∧ zw_fq M M' := by
  by_cases hi : i < K.2.1
  · obtain ⟨hE, hok, hsp⟩ := zq_fl hS hi
    have h5 : M.1 7 i 5 = (zf_sp K i).2.2.2.2.2 := hsp.2.2.2.2.2
    have k0 : M.1 6 0 5 = K.1 := hS.2.2.2.1.1
    by_cases hf : (zf_sp K i).2.2.2.2.2 = 0
    · obtain ⟨M', l1, l2⟩ := zc_loadL d (i := i) hE hok.1 hok.2.1 (by omega) 3 1 _ _ 1 (by omega) (zp_bd_E (E := zf_en A K i) hS.2.2.1) (zp_bd_is hsp)
      obtain ⟨t, ht, hst⟩ := hok.2.2 hf
      refine ⟨some i, M', fun e => zc_bird e hS hi, ?_, zw_fq_tr (zw_fq_bd M _) l2⟩
      have e1 : zs_m A K i = zs_mx (zs_P A K i) := by rw [zs_m, if_pos hi, if_pos hf]
      rw [e1, ← zs_mxC (P := zs_P A K i) (fun h => zs_hasM (t := t) (by omega) hf hst (l := 3) (by omega) (by omega) h) (fun h => zs_hasM (t := t) (by omega) hf hst (l := 2) (by omega) (by omega) h), ze_X9_loadsOf_0]
      simp (disch := omega) only [↓zp_dn, ↓zp_hV, ↓zp_hI, ↓zp_hL, ↓zp_hR, ↓zp_hX, zp_eV, zp_eI, zp_eL, zp_eR, zp_eX, zp_eXl, zp_iV, zp_iI, zp_iL, zp_iR, ↓zp_sm, ↓zp_nls, ↓zp_nln, zp_bo0, zp_bo1, zp_okE, zp_ok2E, zp_rfE, ↓reduceIte, if_true, if_false, h5, if_pos hf, k0, zc_board _ hS hi]
      exact l1
    · refine ⟨some i, M, fun e => zc_bird e hS hi, ?_, zw_fq_rfl M⟩
      have e1 : zs_m A K i = 0 := by rw [zs_m, if_pos hi, if_neg hf]
      rw [e1, ze_X9_loadsOf_0]
      simp (disch := omega) only [↓zp_dn, ↓zp_hV, ↓zp_hI, ↓zp_hL, ↓zp_hR, ↓zp_hX, zp_eV, zp_eI, zp_eL, zp_eR, zp_eX, zp_eXl, zp_iV, zp_iI, zp_iL, zp_iR, ↓zp_sm, ↓zp_nls, ↓zp_nln, zp_bo0, zp_bo1, zp_okE, zp_ok2E, zp_rfE, ↓reduceIte, if_true, if_false, h5, if_neg hf]
      rfl
  · refine ⟨none, M, fun e => zc_birdF e hS (by omega) (by omega), ?_, zw_fq_rfl M⟩
    have e1 : zs_m A K i = 0 := by rw [zs_m, if_neg hi]
    rw [e1, ze_X9_loadsOf_0]
    simp only [↓zp_dn, ↓zp_hV, ↓zp_hI, ↓zp_hL, ↓zp_hR, ↓zp_hX, zp_eV, zp_eI, zp_eL, zp_eR, zp_eX, zp_eXl, zp_iV, zp_iI, zp_iL, zp_iR, ↓zp_sm, ↓zp_nls, ↓zp_nln, zp_bo0, zp_bo1, zp_okE, zp_ok2E, zp_rfE, ↓reduceIte, if_true, if_false]
    rfl
theorem zc_post38 (d : Nat) {M0 : zi_M} {A : zf_A} {K : zf_K} (hS : zq_sky M0 A K) (n : Int32) (r : Nat) : ∀ (k i : Nat) (M : zi_M), i + k = 4 → zq_nb M0 M → M.2 = M0.2 → (∀ j, j < i → M.1 23 0 j = nI (zs_lb (zs_m A K j))) → ∃ M', zi_run (d + 6) zm_X9_post 38 [some (.inr (.inr (9, some 0))), some (.inl n), none, some (.inr (.inr (5, some r))), some (.inl (nI i)), none, none, none] [] M = zi_run (d + 6) zm_X9_post 80 [some (.inr (.inr (9, some 0))), some (.inl n), none, some (.inr (.inr (5, some r))), some (.inl (-9)), some (.inl 0), some (.inl 0), none] [] M' ∧ zq_nb M0 M' ∧ M'.2 = M0.2 ∧ ∀ j, j < 4 → M'.1 23 0 j = nI (zs_lb (zs_m A K j)) := by
  intro k
  induction k with
  | zero =>
    intro i M hi hb h2 hl
    refine ⟨M, ?_, hb, h2, fun j hj => hl j (by omega)⟩
    rw [ze_X9_post_38]
    simp (disch := omega) only [↓zp_dn, ↓zp_hV, ↓zp_hI, ↓zp_hL, ↓zp_hR, ↓zp_hX, zp_eV, zp_eI, zp_eL, zp_eR, zp_eX, zp_eXl, zp_iV, zp_iI, zp_iL, zp_iR, ↓zp_sm, ↓zp_nls, ↓zp_nln, zp_bo0, zp_bo1, zp_okE, zp_ok2E, zp_rfE, ↓reduceIte, if_true, if_false, zp_leT, zp_leF, zp_ltT, zp_ltF, zp_eqT, zp_eqF, zp_leTl, zp_leFl, zp_ltTl, zp_ltFl, zp_leTr, zp_leFr, zp_ltTr, zp_ltFr, zp_eqTr, zp_eqFr, zp_eqTl, zp_eqFl, zp_eqFll, eq_self, zp_addl, zp_addr, zp_mull, zp_mulr, zp_subr, zp_subl, nI_add, pk_mul]
  | succ k ih =>
    intro i M hi hb h2 hl
    obtain ⟨o, M1, e1, e2, e3⟩ := zc_loads d (zq_sky_nb hb hS) (i := i) (by omega)
    obtain ⟨M', f1, f2⟩ := ih (i + 1) (zi_sI M1 23 0 i (nI (zs_lb (zs_m A K i)))) (by omega) (zq_nb_sI (zq_nb_tr hb (zw_fq_nb e3)) (by simp [zq_gp])) (e3.1.trans h2) (fun j hj => by
      by_cases e : j = i
      · subst e; simp [zp_sI1]
      · simp only [zp_sI1, ↓reduceIte, if_neg e]
        rw [e3.2 23 0 j (by omega) (by omega) (by omega) (by omega)]
        exact hl j (by omega))
    refine ⟨M', ?_, f2⟩
    rw [← f1, ze_X9_post_38]
    simp (disch := omega) only [↓zp_dn, ↓zp_hV, ↓zp_hI, ↓zp_hL, ↓zp_hR, ↓zp_hX, zp_eV, zp_eI, zp_eL, zp_eR, zp_eX, zp_eXl, zp_iV, zp_iI, zp_iL, zp_iR, ↓zp_sm, ↓zp_nls, ↓zp_nln, zp_bo0, zp_bo1, zp_okE, zp_ok2E, zp_rfE, ↓reduceIte, if_true, if_false, zp_leT, zp_leF, zp_ltT, zp_ltF, zp_eqT, zp_eqF, zp_leTl, zp_leFl, zp_ltTl, zp_ltFl, zp_leTr, zp_leFr, zp_ltTr, zp_ltFr, zp_eqTr, zp_eqFr, zp_eqTl, zp_eqFl, zp_eqFll, eq_self, zp_addl, zp_addr, zp_mull, zp_mulr, zp_subr, zp_subl, nI_add, pk_mul, e1, e2]
