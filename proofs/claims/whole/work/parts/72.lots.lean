/-! THE PURE PART: lots -/
def zt_cn (c : Nat → Bool) : Nat → Nat → Nat
  | 0, _ => 0
  | k + 1, b => (if c b then 1 else 0) + zt_cn c k (b + 1)
def zt_pk (c : Nat → Bool) : Nat → Nat → Nat → Nat
  | 0, _, b => b
  | k + 1, l, b => if c b then (if l = 0 then b else zt_pk c k (l - 1) (b + 1)) else zt_pk c k l (b + 1)
theorem zt_cn_le (c : Nat → Bool) : ∀ (k b : Nat), zt_cn c k b ≤ k := by
  intro k
  induction k with
  | zero => intro b; exact Nat.le_refl 0
  | succ k ih => intro b; have := ih (b + 1); rw [zt_cn]; split <;> omega
theorem zt_pk_in (c : Nat → Bool) : ∀ (k l b : Nat), l < zt_cn c k b → b ≤ zt_pk c k l b ∧ zt_pk c k l b < b + k ∧ c (zt_pk c k l b) = true := by
  intro k
  induction k with
  | zero => intro l b h; simp [zt_cn] at h
  | succ k ih =>
    intro l b h
    rw [zt_cn] at h
    rw [zt_pk]
    by_cases hc : c b = true
    · rw [if_pos hc] at h ⊢
      by_cases hl : l = 0
      · rw [if_pos hl]; exact ⟨Nat.le_refl b, by omega, hc⟩
      · rw [if_neg hl]
        have := ih (l - 1) (b + 1) (by omega)
        exact ⟨by omega, by omega, this.2.2⟩
    · rw [if_neg hc] at h ⊢
      have := ih l (b + 1) (by omega)
      exact ⟨by omega, by omega, this.2.2⟩
def zt_os (c : Nat → Bool) : Int32 := 0 ||| (if c 0 then zv_b 0 else 0) ||| (if c 1 then zv_b 1 else 0) ||| (if c 2 then zv_b 2 else 0)
theorem zt_osE (E : zf_E) (s : zf_S) : zv_os E s = zt_os (fun b => decide (zf_can E.1 s b)) := by
  simp only [zv_os, zt_os, zv_op, decide_eq_true_eq]
theorem zc_bitc (d : Nat) (c : Nat → Bool) (M : zi_M) : zi_run d zm_J6_bitCount_0f7a4 0 [some (.inl (zt_os c))] [] M = some (some (.inl (nI (zt_cn c 3 0))), M) := by
  rw [ze_J6_bitCount_0f7a4_0]
  refine congrArg (fun y : Int32 => (some (some (Sum.inl y), M) : zi_O)) ?_
  simp only [zt_os, zt_cn]
  cases c 0 <;> cases c 1 <;> cases c 2 <;> decide +kernel
theorem zt_bit (c : Nat → Bool) {b : Nat} (hb : b < 3) : ((zt_os c >>> (nI b &&& 31)) &&& 1 = 0) ↔ c b = false := by
  have h' : b = 0 ∨ b = 1 ∨ b = 2 := by omega
  simp only [zt_os]
  rcases h' with e | e | e <;> subst e
  · cases c 0 <;> cases c 1 <;> cases c 2 <;> decide
  · cases c 0 <;> cases c 1 <;> cases c 2 <;> decide
  · cases c 0 <;> cases c 1 <;> cases c 2 <;> decide
theorem zc_bitAt (d : Nat) (c : Nat → Bool) (M : zi_M) : ∀ (k l b : Nat), b + k = 3 → l < zt_cn c k b → zi_run d zm_X9_bitAt 4 [some (.inl (zt_os c)), none, some (.inl (nI l)), some (.inl (nI b))] [] M = some (some (.inl (nI (zt_pk c k l b))), M) := by
  intro k
  induction k with
  | zero => intro l b _ h; simp [zt_cn] at h
  | succ k ih =>
    intro l b hb h
    have hle := zt_cn_le c k (b + 1)
    rw [zt_cn] at h
    rw [ze_X9_bitAt_4, zt_pk]
    have hbit := zt_bit c (b := b) (by omega)
    cases hc : c b with
    | true =>
      rw [hc] at h hbit
      have hb' : ¬ (zt_os c >>> (nI b &&& 31)) &&& 1 = 0 := fun q => by cases hbit.mp q
      rw [if_pos rfl] at h
      by_cases hl : l = 0
      · simp (disch := omega) only [↓zp_dn, ↓zp_hV, ↓zp_hI, ↓zp_hL, ↓zp_hR, ↓zp_hX, zp_eV, zp_eI, zp_eL, zp_eR, zp_eX, zp_eXl, zp_iV, zp_iI, zp_iL, zp_iR, ↓zp_sm, ↓zp_nls, ↓zp_nln, zp_bo0, zp_bo1, zp_okE, zp_ok2E, zp_rfE, ↓reduceIte, if_true, if_false, zp_leT, zp_leF, zp_ltT, zp_ltF, zp_eqT, zp_eqF, zp_leTl, zp_leFl, zp_ltTl, zp_ltFl, zp_leTr, zp_leFr, zp_ltTr, zp_ltFr, zp_eqTr, zp_eqFr, zp_eqTl, zp_eqFl, zp_eqFll, eq_self, zp_addl, zp_addr, zp_mull, zp_mulr, zp_subr, zp_subl, nI_add, pk_mul, if_neg hb', if_pos hl]
      · have em : nI l + (-1) = nI (l - 1) := sb_m1 (by omega)
        simp (disch := omega) only [↓zp_dn, ↓zp_hV, ↓zp_hI, ↓zp_hL, ↓zp_hR, ↓zp_hX, zp_eV, zp_eI, zp_eL, zp_eR, zp_eX, zp_eXl, zp_iV, zp_iI, zp_iL, zp_iR, ↓zp_sm, ↓zp_nls, ↓zp_nln, zp_bo0, zp_bo1, zp_okE, zp_ok2E, zp_rfE, ↓reduceIte, if_true, if_false, zp_leT, zp_leF, zp_ltT, zp_ltF, zp_eqT, zp_eqF, zp_leTl, zp_leFl, zp_ltTl, zp_ltFl, zp_leTr, zp_leFr, zp_ltTr, zp_ltFr, zp_eqTr, zp_eqFr, zp_eqTl, zp_eqFl, zp_eqFll, eq_self, zp_addl, zp_addr, zp_mull, zp_mulr, zp_subr, zp_subl, nI_add, pk_mul, if_neg hb', if_neg hl, ze_X9_bitAt_30, em]
        exact ih (l - 1) (b + 1) (by omega) (by omega)
    | false =>
      rw [hc] at h hbit
      have hb' := hbit.mpr rfl
      rw [if_neg (by decide)] at h
      simp (disch := omega) only [↓zp_dn, ↓zp_hV, ↓zp_hI, ↓zp_hL, ↓zp_hR, ↓zp_hX, zp_eV, zp_eI, zp_eL, zp_eR, zp_eX, zp_eXl, zp_iV, zp_iI, zp_iL, zp_iR, ↓zp_sm, ↓zp_nls, ↓zp_nln, zp_bo0, zp_bo1, zp_okE, zp_ok2E, zp_rfE, ↓reduceIte, if_true, if_false, zp_leT, zp_leF, zp_ltT, zp_ltF, zp_eqT, zp_eqF, zp_leTl, zp_leFl, zp_ltTl, zp_ltFl, zp_leTr, zp_leFr, zp_ltTr, zp_ltFr, zp_eqTr, zp_eqFr, zp_eqTl, zp_eqFl, zp_eqFll, eq_self, zp_addl, zp_addr, zp_mull, zp_mulr, zp_subr, zp_subl, nI_add, pk_mul, if_pos hb', Bool.false_eq_true, ze_X9_bitAt_30]
      exact ih l (b + 1) (by omega) (by omega)
def zt_y (y : Nat) : Nat := y * 48271 % 2147483647
theorem zt_y_lt (y : Nat) : zt_y y < 2147483647 := Nat.mod_lt _ (by decide)
theorem zt_yE {y : Nat} (h : y < 2 ^ 31) : (lN y * 48271) - (lN y * 48271) / 2147483647 * 2147483647 = lN (zt_y y) := by
  have e : lN y * 48271 = lN (y * 48271) := lN_mul y 48271
  rw [e]
  exact pk_lRem (a := y * 48271) (b := 2147483647) (by omega) (by decide) (by decide)
theorem zt_lE {y c : Nat} (hc : 0 < c) (hc3 : c ≤ 3) : Int64.toInt32 (lN (zt_y y) - lN (zt_y y) / Int32.toInt64 (nI c) * Int32.toInt64 (nI c)) = nI (zt_y y % c) := by
  have := zt_y_lt y
  rw [nI_l (by omega), pk_lRem (by omega) hc (by omega), lN_i]
abbrev zt_cb (A : zf_A) (K : zf_K) (i : Nat) : Nat → Bool := fun b => decide (zf_can A (zf_sp K i) b)
def zt_l (A : zf_A) (i : Nat) : Nat → zf_K → Nat → Nat → Nat × zf_K
  | 0, K, _, dn => (dn, K)
  | k + 1, K, y, dn => if zt_cn (zt_cb A K i) 3 0 = 0 then (dn, K) else zt_l A i k (zf_do A K i (zt_pk (zt_cb A K i) 3 (zt_y y % zt_cn (zt_cb A K i) 3 0) 0)) (zt_y y) (dn + 1)
theorem zc_lotsL (d : Nat) {A : zf_A} (hA : zf_okE A) {i n : Nat} (hn9 : n ≤ 9) : ∀ (k : Nat) (K : zf_K) (y dn : Nat) (M : zi_M), dn + k = n → zf_okK A K → zf_cK M 0 K → i < K.2.1 → zf_cE M (zf_en A K i) → K.2.2.2.1 + k ≤ 40 → y < 2 ^ 31 → ∃ M', zi_run (d + 4) zm_X9_lots 96 [some (.inr (.inr (9, some 0))), some (.inl (nI i)), some (.inl (nI n)), none, some (.inr (.inr (1, some i))), some (.inr (.inl (lN y))), none, some (.inl (nI dn)), none, none] [] M = some (some (.inl (nI (zt_l A i k K y dn).1)), M') ∧ zy_fC M M' ∧ zf_cK M' 0 (zt_l A i k K y dn).2 ∧ zf_okK A (zt_l A i k K y dn).2 := by
  intro k
  induction k with
  | zero =>
    intro K y dn M hdn hok hcK hi hE h40 hy
    refine ⟨M, ?_, zy_fC_rfl M, hcK, hok⟩
    have e : dn = n := by omega
    rw [ze_X9_lots_96, zt_l, e]
    simp (disch := omega) only [↓zp_dn, ↓zp_hV, ↓zp_hI, ↓zp_hL, ↓zp_hR, ↓zp_hX, zp_eV, zp_eI, zp_eL, zp_eR, zp_eX, zp_eXl, zp_iV, zp_iI, zp_iL, zp_iR, ↓zp_sm, ↓zp_nls, ↓zp_nln, zp_bo0, zp_bo1, zp_okE, zp_ok2E, zp_rfE, ↓reduceIte, if_true, if_false, zp_leT, zp_leF, zp_ltT, zp_ltF, zp_eqT, zp_eqF, zp_leTl, zp_leFl, zp_ltTl, zp_ltFl, zp_leTr, zp_leFr, zp_ltTr, zp_ltFr, zp_eqTr, zp_eqFr, zp_eqTl, zp_eqFl, zp_eqFll, eq_self, zp_addl, zp_addr, zp_mull, zp_mulr, zp_subr, zp_subl, nI_add, pk_mul]
  | succ k ih =>
    intro K y dn M hdn hok hcK hi hE h40 hy
    have h4 := hok.1
    obtain ⟨⟨o1, o2, _⟩, _⟩ := hok.2.2.1 i hi
    have hs : zf_is (M.1 7 i) (zf_sp K i) := by have := (hcK.2.2.2.1 i hi).2.2.2; rwa [Nat.mul_zero, Nat.zero_add] at this
    obtain ⟨M1, e1, f1⟩ := zc_open d (E := zf_en A K i) hA hE (i := i) (by omega) hs o1 o2
    have e1 : zi_run (d + 3) zm_X9_openBeats 0 [some (.inr (.inr (9, some 0))), some (.inr (.inr (1, some i))), none, none] [] M = some (some (.inl (zt_os (zt_cb A K i))), M1) := by rw [zt_osE] at e1; exact e1
    have hcK1 : zf_cK M1 0 K := zf_cK_ag (zq_nb_ag (zv_fr_nb f1) (by decide)) (by omega) rfl hok.1 hok.2.1 hcK
    have hE1 := zf_cE_vf f1 hE
    have hcn := zt_cn_le (zt_cb A K i) 3 0
    rw [ze_X9_lots_96, zt_l]
    by_cases h0 : zt_cn (zt_cb A K i) 3 0 = 0
    · refine ⟨M1, ?_, zy_fC_vf f1, ?_, ?_⟩
      · rw [if_pos h0]
        simp (disch := omega) only [↓zp_dn, ↓zp_hV, ↓zp_hI, ↓zp_hL, ↓zp_hR, ↓zp_hX, zp_eV, zp_eI, zp_eL, zp_eR, zp_eX, zp_eXl, zp_iV, zp_iI, zp_iL, zp_iR, ↓zp_sm, ↓zp_nls, ↓zp_nln, zp_bo0, zp_bo1, zp_okE, zp_ok2E, zp_rfE, ↓reduceIte, if_true, if_false, zp_leT, zp_leF, zp_ltT, zp_ltF, zp_eqT, zp_eqF, zp_leTl, zp_leFl, zp_ltTl, zp_ltFl, zp_leTr, zp_leFr, zp_ltTr, zp_ltFr, zp_eqTr, zp_eqFr, zp_eqTl, zp_eqFl, zp_eqFll, eq_self, zp_addl, zp_addr, zp_mull, zp_mulr, zp_subr, zp_subl, nI_add, pk_mul, e1, zc_bitc, h0]
      · rw [if_pos h0]; exact hcK1
      · rw [if_pos h0]; exact hok
    · have hpos : 0 < zt_cn (zt_cb A K i) 3 0 := by omega
      have hlt : zt_y y % zt_cn (zt_cb A K i) 3 0 < zt_cn (zt_cb A K i) 3 0 := Nat.mod_lt _ hpos
      have hpk := zt_pk_in (zt_cb A K i) 3 _ 0 hlt
      have hcan : zf_can A (zf_sp K i) (zt_pk (zt_cb A K i) 3 (zt_y y % zt_cn (zt_cb A K i) 3 0) 0) := of_decide_eq_true hpk.2.2
      have hb3 : zt_pk (zt_cb A K i) 3 (zt_y y % zt_cn (zt_cb A K i) 3 0) 0 < 3 := by omega
      have hbeat : K.2.2.2.1 < 40 := by omega
      have pf := zc_perform d hA hok hcK1 hi hE1 hb3
      rw [if_pos hcan, if_pos hbeat] at pf
      have fM := zy_fM M1 (K := K) (i := i) (by omega) hbeat (zf_bt (zf_en A K i) (zf_sp K i) (zt_pk (zt_cb A K i) 3 (zt_y y % zt_cn (zt_cb A K i) 3 0) 0))
      have cK2 := zy_M_cK hok hcK1 hi (zt_pk (zt_cb A K i) 3 (zt_y y % zt_cn (zt_cb A K i) 3 0) 0) hbeat
      have ok2 := zf_do_ok hA hok hi hb3 hcan hbeat
      have hz : ¬ Int32.toInt64 (nI (zt_cn (zt_cb A K i) 3 0)) = 0 := by
        rw [nI_l (by omega)]
        exact fun h => by have := (pk_lEQ (a := zt_cn (zt_cb A K i) 3 0) (b := 0) (by omega) (by omega)).mp h; omega
      have hyl := zt_y_lt y
      obtain ⟨M', g1, g2, g3, g4⟩ := ih (zf_do A K i (zt_pk (zt_cb A K i) 3 (zt_y y % zt_cn (zt_cb A K i) 3 0) 0)) (zt_y y) (dn + 1) _ (by omega) ok2 cK2 hi (by rw [zf_do_en]; exact zf_cE_fC fM hE1) (by show K.2.2.2.1 + 1 + k ≤ 40; omega) (by omega)
      have hba := zc_bitAt (d + 3) (zt_cb A K i) M1 3 (zt_y y % zt_cn (zt_cb A K i) 3 0) 0 (by omega) hlt
      have hba' := (ze_X9_bitAt_0 (d + 3) (zt_os (zt_cb A K i)) (nI (zt_y y % zt_cn (zt_cb A K i) 3 0)) M1).trans hba
      refine ⟨M', ?_, zy_fC_tr (zy_fC_vf f1) (zy_fC_tr fM g2), ?_, ?_⟩
      · rw [if_neg h0, ← g1]
        simp (disch := omega) only [↓zp_dn, ↓zp_hV, ↓zp_hI, ↓zp_hL, ↓zp_hR, ↓zp_hX, zp_eV, zp_eI, zp_eL, zp_eR, zp_eX, zp_eXl, zp_iV, zp_iI, zp_iL, zp_iR, ↓zp_sm, ↓zp_nls, ↓zp_nln, zp_bo0, zp_bo1, zp_okE, zp_ok2E, zp_rfE, ↓reduceIte, if_true, if_false, zp_leT, zp_leF, zp_ltT, zp_ltF, zp_eqT, zp_eqF, zp_leTl, zp_leFl, zp_ltTl, zp_ltFl, zp_leTr, zp_leFr, zp_ltTr, zp_ltFr, zp_eqTr, zp_eqFr, zp_eqTl, zp_eqFl, zp_eqFll, eq_self, zp_addl, zp_addr, zp_mull, zp_mulr, zp_subr, zp_subl, nI_add, pk_mul, e1, zc_bitc, if_neg hz, zt_yE, zt_lE hpos hcn, hba', pf]
      · rw [if_neg h0]; exact g3
      · rw [if_neg h0]; exact g4
theorem zr_many (d : Nat) {A : zf_A} {K : zf_K} {i : Nat} (hA : zf_okE A) {M : zi_M} (hE : zf_rE M (zf_en A K i)) (hs : zf_rs M (zf_sp K i)) (hc : (zf_sp K i).1 < A.1) (hh : (zf_sp K i).2.1 < A.2.1) (n x6 : Int32) (y : Int64) : ∀ (k b m : Nat), b + k = 3 → m ≤ b → zi_run (d + 3) zm_X10_lots 85 [some (.inr (.inr (10, some 0))), some (.inl (nI i)), some (.inl n), none, some (.inr (.inl y)), none, some (.inl x6), some (.inl (nI m)), some (.inl (nI b)), none] [] M = zi_run (d + 3) zm_X10_lots 85 [some (.inr (.inr (10, some 0))), some (.inl (nI i)), some (.inl n), none, some (.inr (.inl y)), none, some (.inl x6), some (.inl (nI (m + zt_cn (zt_cb A K i) k b))), some (.inl (nI 3)), none] [] M := by
  intro k
  induction k with
  | zero => intro b m hb _; rw [show b = 3 from by omega]; rfl
  | succ k ih =>
    intro b m hb hm
    rw [ze_X10_lots_85, zt_cn]
    have hcb := zr_canBeat d (E := zf_en A K i) hA hE hs hc hh (b := b) (by omega)
    by_cases hcan : zf_can A (zf_sp K i) b
    · rw [if_pos hcan] at hcb
      have e : zt_cb A K i b = true := decide_eq_true hcan
      simp (disch := omega) only [↓zp_dn, ↓zp_hV, ↓zp_hI, ↓zp_hL, ↓zp_hR, ↓zp_hX, zp_eV, zp_eI, zp_eL, zp_eR, zp_eX, zp_eXl, zp_iV, zp_iI, zp_iL, zp_iR, ↓zp_sm, ↓zp_nls, ↓zp_nln, zp_bo0, zp_bo1, zp_okE, zp_ok2E, zp_rfE, ↓reduceIte, if_true, if_false, zp_leT, zp_leF, zp_ltT, zp_ltF, zp_eqT, zp_eqF, zp_leTl, zp_leFl, zp_ltTl, zp_ltFl, zp_leTr, zp_leFr, zp_ltTr, zp_ltFr, zp_eqTr, zp_eqFr, zp_eqTl, zp_eqFl, zp_eqFll, eq_self, zp_addl, zp_addr, zp_mull, zp_mulr, zp_subr, zp_subl, nI_add, pk_mul, hcb, zp_1n0, ze_X10_lots_107, e]
      rw [ih (b + 1) (m + 1) (by omega) (by omega), show m + 1 + zt_cn (zt_cb A K i) k (b + 1) = m + (1 + zt_cn (zt_cb A K i) k (b + 1)) from by omega]
    · rw [if_neg hcan] at hcb
      have e : zt_cb A K i b = false := decide_eq_false hcan
      simp (disch := omega) only [↓zp_dn, ↓zp_hV, ↓zp_hI, ↓zp_hL, ↓zp_hR, ↓zp_hX, zp_eV, zp_eI, zp_eL, zp_eR, zp_eX, zp_eXl, zp_iV, zp_iI, zp_iL, zp_iR, ↓zp_sm, ↓zp_nls, ↓zp_nln, zp_bo0, zp_bo1, zp_okE, zp_ok2E, zp_rfE, ↓reduceIte, if_true, if_false, zp_leT, zp_leF, zp_ltT, zp_ltF, zp_eqT, zp_eqF, zp_leTl, zp_leFl, zp_ltTl, zp_ltFl, zp_leTr, zp_leFr, zp_ltTr, zp_ltFr, zp_eqTr, zp_eqFr, zp_eqTl, zp_eqFl, zp_eqFll, eq_self, zp_addl, zp_addr, zp_mull, zp_mulr, zp_subr, zp_subl, nI_add, pk_mul, hcb, ze_X10_lots_107, e, Bool.false_eq_true, Int32.add_zero, Nat.add_zero, Nat.zero_add]
      exact ih (b + 1) m (by omega) (by omega)
theorem zr_scan (d : Nat) {A : zf_A} {K : zf_K} {i : Nat} (hA : zf_okE A) {M : zi_M} (hE : zf_rE M (zf_en A K i)) (hs : zf_rs M (zf_sp K i)) (hc : (zf_sp K i).1 < A.1) (hh : (zf_sp K i).2.1 < A.2.1) (n x6 : Int32) (y : Int64) : ∀ (k l b : Nat), b + k = 3 → l < zt_cn (zt_cb A K i) k b → zi_run (d + 3) zm_X10_lots 148 [some (.inr (.inr (10, some 0))), some (.inl (nI i)), some (.inl n), none, some (.inr (.inl y)), none, some (.inl x6), none, some (.inl (nI l)), some (.inl (nI b))] [] M = zi_cV (zi_run (d + 2) zm_X10_does 0 [some (.inr (.inr (10, some 0))), some (.inl (nI i)), some (.inl (nI (zt_pk (zt_cb A K i) k l b))), none] [] M) (fun M' => zi_run (d + 3) zm_X10_lots 68 [some (.inr (.inr (10, some 0))), some (.inl (nI i)), some (.inl n), none, some (.inr (.inl y)), none, some (.inl (x6 + 1)), none, none, none] [] M') := by
  intro k
  induction k with
  | zero => intro l b _ h; simp [zt_cn] at h
  | succ k ih =>
    intro l b hb h
    have hle := zt_cn_le (zt_cb A K i) k (b + 1)
    rw [zt_cn] at h
    rw [ze_X10_lots_148, zt_pk]
    have hcb := zr_canBeat d (E := zf_en A K i) hA hE hs hc hh (b := b) (by omega)
    by_cases hcan : zf_can A (zf_sp K i) b
    · rw [if_pos hcan] at hcb
      have e : zt_cb A K i b = true := decide_eq_true hcan
      rw [e] at h ⊢
      rw [if_pos rfl] at h
      by_cases hl : l = 0
      · simp (disch := omega) only [↓zp_dn, ↓zp_hV, ↓zp_hI, ↓zp_hL, ↓zp_hR, ↓zp_hX, zp_eV, zp_eI, zp_eL, zp_eR, zp_eX, zp_eXl, zp_iV, zp_iI, zp_iL, zp_iR, ↓zp_sm, ↓zp_nls, ↓zp_nln, zp_bo0, zp_bo1, zp_okE, zp_ok2E, zp_rfE, ↓reduceIte, if_true, if_false, zp_leT, zp_leF, zp_ltT, zp_ltF, zp_eqT, zp_eqF, zp_leTl, zp_leFl, zp_ltTl, zp_ltFl, zp_leTr, zp_leFr, zp_ltTr, zp_ltFr, zp_eqTr, zp_eqFr, zp_eqTl, zp_eqFl, zp_eqFll, eq_self, zp_addl, zp_addr, zp_mull, zp_mulr, zp_subr, zp_subl, nI_add, pk_mul, hcb, zp_1n0, if_pos hl]
      · rw [if_pos rfl, if_neg hl, ← ih (l - 1) (b + 1) (by omega) (by omega)]
        simp (disch := omega) only [↓zp_dn, ↓zp_hV, ↓zp_hI, ↓zp_hL, ↓zp_hR, ↓zp_hX, zp_eV, zp_eI, zp_eL, zp_eR, zp_eX, zp_eXl, zp_iV, zp_iI, zp_iL, zp_iR, ↓zp_sm, ↓zp_nls, ↓zp_nln, zp_bo0, zp_bo1, zp_okE, zp_ok2E, zp_rfE, ↓reduceIte, if_true, if_false, zp_leT, zp_leF, zp_ltT, zp_ltF, zp_eqT, zp_eqF, zp_leTl, zp_leFl, zp_ltTl, zp_ltFl, zp_leTr, zp_leFr, zp_ltTr, zp_ltFr, zp_eqTr, zp_eqFr, zp_eqTl, zp_eqFl, zp_eqFll, eq_self, zp_addl, zp_addr, zp_mull, zp_mulr, zp_subr, zp_subl, nI_add, pk_mul, hcb, zp_1n0, ze_X10_lots_162, ze_X10_lots_178]
    · rw [if_neg hcan] at hcb
      have e : zt_cb A K i b = false := decide_eq_false hcan
      rw [e] at h ⊢
      rw [if_neg (by decide)] at h
      rw [if_neg (show ¬ false = true from by decide), ← ih l (b + 1) (by omega) (by omega)]
      by_cases hl : l = 0
      · simp (disch := omega) only [↓zp_dn, ↓zp_hV, ↓zp_hI, ↓zp_hL, ↓zp_hR, ↓zp_hX, zp_eV, zp_eI, zp_eL, zp_eR, zp_eX, zp_eXl, zp_iV, zp_iI, zp_iL, zp_iR, ↓zp_sm, ↓zp_nls, ↓zp_nln, zp_bo0, zp_bo1, zp_okE, zp_ok2E, zp_rfE, ↓reduceIte, if_true, if_false, zp_leT, zp_leF, zp_ltT, zp_ltF, zp_eqT, zp_eqF, zp_leTl, zp_leFl, zp_ltTl, zp_ltFl, zp_leTr, zp_leFr, zp_ltTr, zp_ltFr, zp_eqTr, zp_eqFr, zp_eqTl, zp_eqFl, zp_eqFll, eq_self, zp_addl, zp_addr, zp_mull, zp_mulr, zp_subr, zp_subl, nI_add, pk_mul, hcb, hl, ze_X10_lots_162, ze_X10_lots_178, Int32.sub_zero]
      · simp (disch := omega) only [↓zp_dn, ↓zp_hV, ↓zp_hI, ↓zp_hL, ↓zp_hR, ↓zp_hX, zp_eV, zp_eI, zp_eL, zp_eR, zp_eX, zp_eXl, zp_iV, zp_iI, zp_iL, zp_iR, ↓zp_sm, ↓zp_nls, ↓zp_nln, zp_bo0, zp_bo1, zp_okE, zp_ok2E, zp_rfE, ↓reduceIte, if_true, if_false, zp_leT, zp_leF, zp_ltT, zp_ltF, zp_eqT, zp_eqF, zp_leTl, zp_leFl, zp_ltTl, zp_ltFl, zp_leTr, zp_leFr, zp_ltTr, zp_ltFr, zp_eqTr, zp_eqFr, zp_eqTl, zp_eqFl, zp_eqFll, eq_self, zp_addl, zp_addr, zp_mull, zp_mulr, zp_subr, zp_subl, nI_add, pk_mul, hcb, ze_X10_lots_162, ze_X10_lots_178, Int32.sub_zero]
theorem zr_lotsL (d : Nat) {A : zf_A} (hA : zf_okE A) {i n : Nat} (hn9 : n ≤ 9) : ∀ (k : Nat) (K : zf_K) (y dn : Nat) (M : zi_M), dn + k = n → zf_okK A K → zf_rA (M.1 28 0) A → zf_rK (M.1 28 0) K → i < K.2.1 → K.2.2.2.1 + k ≤ 40 → y < 2 ^ 31 → ∃ M', zi_run (d + 5) zm_X10_lots 68 [some (.inr (.inr (10, some 0))), some (.inl (nI i)), some (.inl (nI n)), none, some (.inr (.inl (lN y))), none, some (.inl (nI dn)), none, none, none] [] M = some (some (.inl (nI (zt_l A i k K y dn).1)), M') ∧ zy_fR M M' ∧ zf_rA (M'.1 28 0) A ∧ zf_rK (M'.1 28 0) (zt_l A i k K y dn).2 := by
  intro k
  induction k with
  | zero =>
    intro K y dn M hdn hok hRA hR hi h40 hy
    refine ⟨M, ?_, zy_fR_rfl M, hRA, hR⟩
    rw [ze_X10_lots_68, zt_l]
    simp (disch := omega) only [↓zp_dn, ↓zp_hV, ↓zp_hI, ↓zp_hL, ↓zp_hR, ↓zp_hX, zp_eV, zp_eI, zp_eL, zp_eR, zp_eX, zp_eXl, zp_iV, zp_iI, zp_iL, zp_iR, ↓zp_sm, ↓zp_nls, ↓zp_nln, zp_bo0, zp_bo1, zp_okE, zp_ok2E, zp_rfE, ↓reduceIte, if_true, if_false, zp_leT, zp_leF, zp_ltT, zp_ltF, zp_eqT, zp_eqF, zp_leTl, zp_leFl, zp_ltTl, zp_ltFl, zp_leTr, zp_leFr, zp_ltTr, zp_ltFr, zp_eqTr, zp_eqFr, zp_eqTl, zp_eqFl, zp_eqFll, eq_self, zp_addl, zp_addr, zp_mull, zp_mulr, zp_subr, zp_subl, nI_add, pk_mul]
  | succ k ih =>
    intro K y dn M hdn hok hRA hR hi h40 hy
    have h4 := hok.1
    obtain ⟨⟨o1, o2, _⟩, _⟩ := hok.2.2.1 i hi
    have hE1 := zp_rt_E (M := M) (E := zf_en A K i) hRA (zf_sp K i)
    have hs1 := zp_rt_is M (zf_en A K i) (zf_sp K i)
    have f1 := zy_fR_rt M (zf_en A K i) (zf_sp K i)
    have hcn := zt_cn_le (zt_cb A K i) 3 0
    have mn := zr_many (d + 2) (K := K) (i := i) hA hE1 hs1 o1 o2 (nI n) (nI dn) (lN y) 3 0 0 (by omega) (by omega)
    rw [Nat.zero_add] at mn
    have st : zi_run (d + 5) zm_X10_lots 68 [some (.inr (.inr (10, some 0))), some (.inl (nI i)), some (.inl (nI n)), none, some (.inr (.inl (lN y))), none, some (.inl (nI dn)), none, none, none] [] M = zi_run (d + 5) zm_X10_lots 85 [some (.inr (.inr (10, some 0))), some (.inl (nI i)), some (.inl (nI n)), none, some (.inr (.inl (lN y))), none, some (.inl (nI dn)), some (.inl (nI (zt_cn (zt_cb A K i) 3 0))), some (.inl (nI 3)), none] [] (zp_rt M (zf_en A K i) (zf_sp K i)) := by
      refine Eq.trans ?_ mn
      rw [ze_X10_lots_68]
      simp (disch := omega) only [↓zp_dn, ↓zp_hV, ↓zp_hI, ↓zp_hL, ↓zp_hR, ↓zp_hX, zp_eV, zp_eI, zp_eL, zp_eR, zp_eX, zp_eXl, zp_iV, zp_iI, zp_iL, zp_iR, ↓zp_sm, ↓zp_nls, ↓zp_nln, zp_bo0, zp_bo1, zp_okE, zp_ok2E, zp_rfE, ↓reduceIte, if_true, if_false, zp_leT, zp_leF, zp_ltT, zp_ltF, zp_eqT, zp_eqF, zp_leTl, zp_leFl, zp_ltTl, zp_ltFl, zp_leTr, zp_leFr, zp_ltTr, zp_ltFr, zp_eqTr, zp_eqFr, zp_eqTl, zp_eqFl, zp_eqFll, eq_self, zp_addl, zp_addr, zp_mull, zp_mulr, zp_subr, zp_subl, nI_add, pk_mul, zr_takes (A := A) _ hR hi h4]
      rfl
    rw [st, ze_X10_lots_85, zt_l]
    by_cases h0 : zt_cn (zt_cb A K i) 3 0 = 0
    · refine ⟨_, ?_, f1, ?_, ?_⟩
      · rw [if_pos h0]
        simp (disch := omega) only [↓zp_dn, ↓zp_hV, ↓zp_hI, ↓zp_hL, ↓zp_hR, ↓zp_hX, zp_eV, zp_eI, zp_eL, zp_eR, zp_eX, zp_eXl, zp_iV, zp_iI, zp_iL, zp_iR, ↓zp_sm, ↓zp_nls, ↓zp_nln, zp_bo0, zp_bo1, zp_okE, zp_ok2E, zp_rfE, ↓reduceIte, if_true, if_false, zp_leT, zp_leF, zp_ltT, zp_ltF, zp_eqT, zp_eqF, zp_leTl, zp_leFl, zp_ltTl, zp_ltFl, zp_leTr, zp_leFr, zp_ltTr, zp_ltFr, zp_eqTr, zp_eqFr, zp_eqTl, zp_eqFl, zp_eqFll, eq_self, zp_addl, zp_addr, zp_mull, zp_mulr, zp_subr, zp_subl, nI_add, pk_mul, h0]
      · exact hRA
      · rw [if_pos h0]; exact hR
    · have hpos : 0 < zt_cn (zt_cb A K i) 3 0 := by omega
      have hlt : zt_y y % zt_cn (zt_cb A K i) 3 0 < zt_cn (zt_cb A K i) 3 0 := Nat.mod_lt _ hpos
      have hpk := zt_pk_in (zt_cb A K i) 3 _ 0 hlt
      have hcan : zf_can A (zf_sp K i) (zt_pk (zt_cb A K i) 3 (zt_y y % zt_cn (zt_cb A K i) 3 0) 0) := of_decide_eq_true hpk.2.2
      have hb3 : zt_pk (zt_cb A K i) 3 (zt_y y % zt_cn (zt_cb A K i) 3 0) 0 < 3 := by omega
      have hbeat : K.2.2.2.1 < 40 := by omega
      have hz : ¬ Int32.toInt64 (nI (zt_cn (zt_cb A K i) 3 0)) = 0 := by
        rw [nI_l (by omega)]
        exact fun h => by have := (pk_lEQ (a := zt_cn (zt_cb A K i) 3 0) (b := 0) (by omega) (by omega)).mp h; omega
      have hyl := zt_y_lt y
      obtain ⟨M2, q1, q2, q3, q4, q5⟩ := zr_does d hA hok (M := zp_rt M (zf_en A K i) (zf_sp K i)) hRA hR hi hb3 hcan hbeat
      have ok2 := zf_do_ok hA hok hi hb3 hcan hbeat
      obtain ⟨M', g1, g2, g3, g4⟩ := ih (zf_do A K i (zt_pk (zt_cb A K i) 3 (zt_y y % zt_cn (zt_cb A K i) 3 0) 0)) (zt_y y) (dn + 1) M2 (by omega) ok2 q4 q5 hi (by show K.2.2.2.1 + 1 + k ≤ 40; omega) (by omega)
      have sc := zr_scan (d + 2) (K := K) (i := i) hA hE1 hs1 o1 o2 (nI n) (nI dn) (lN (zt_y y)) 3 (zt_y y % zt_cn (zt_cb A K i) 3 0) 0 (by omega) hlt
      refine ⟨M', ?_, zy_fR_tr f1 (zy_fR_tr q2 g2), g3, ?_⟩
      · rw [if_neg h0, ← g1]
        simp (disch := omega) only [↓zp_dn, ↓zp_hV, ↓zp_hI, ↓zp_hL, ↓zp_hR, ↓zp_hX, zp_eV, zp_eI, zp_eL, zp_eR, zp_eX, zp_eXl, zp_iV, zp_iI, zp_iL, zp_iR, ↓zp_sm, ↓zp_nls, ↓zp_nln, zp_bo0, zp_bo1, zp_okE, zp_ok2E, zp_rfE, ↓reduceIte, if_true, if_false, zp_leT, zp_leF, zp_ltT, zp_ltF, zp_eqT, zp_eqF, zp_leTl, zp_leFl, zp_ltTl, zp_ltFl, zp_leTr, zp_leFr, zp_ltTr, zp_ltFr, zp_eqTr, zp_eqFr, zp_eqTl, zp_eqFl, zp_eqFll, eq_self, zp_addl, zp_addr, zp_mull, zp_mulr, zp_subr, zp_subl, nI_add, pk_mul, if_neg hz, zt_yE, zt_lE hpos hcn]
        refine Eq.trans sc ?_
        rw [q1, zp_cV, nI_1]
      · rw [if_neg h0]; exact g4
theorem zo_lots (d : Nat) {n : Nat} {xs : Nat → Int32} {M : zi_M} (hI : zq_inv n xs M) (i m y : Int32) : zp_ok (zi_run (d + 5) zm_X9_lots 0 [some (.inr (.inr (9, some 0))), some (.inl i), some (.inl m), some (.inl y), none, none, none, none, none, none] [] M) (zp_rf (d + 5) zm_X10_lots [some (.inr (.inr (10, some 0))), some (.inl i), some (.inl m), some (.inl y), none, none, none, none, none, none]) (zq_inv n xs) := by
  obtain ⟨A, K, hS⟩ := hI.2.2.2.2.1
  have h4 := hS.2.1.1
  have hR := hS.2.2.2.2.2.1
  have lcm : ∀ y : Int32, (lg_cmp (Int32.toInt64 y) 2147483647 < 0) = (y < 2147483647) := fun y => by
    rw [zp_cmp1]; exact propext (zp_lt64 y 2147483647)
  rcases zp_int i with hi | ⟨i, hi, rfl⟩
  · simp (disch := omega) only [ze_X9_lots_0, ze_X10_lots_0, zc_birdN _ hi, zr_flyerN _ hi, ze_X5_room_0, ze_X5_size_0, ze_X5_isThere_0, ze_X5_has_0, ze_X5_hasRun_0, ze_X5_get_0, ze_X5_set_0, ze_X5_drop_0, ze_X5_takeRun_0, ze_X9_rowAt_0, ze_X9_textAt_0, ze_X9_refuse_0, ze_X10_isRow_0, ze_X10_isText_0, ze_X10_finds_0, ze_X10_tells_0, zp_in_0_5, zp_in_0_3, zp_in_0_7, zp_in_1_5, zp_in_0_9, zp_in_0_2, zp_in_48_57, zp_in_0_12, zp_in_1_4, zp_in_1_9, zp_in_1_2147483646, zp_in_0_8, zp_in_0, ↓zp_dn, ↓zp_hV, ↓zp_hI, ↓zp_hL, ↓zp_hR, ↓zp_hX, zp_eV, zp_eI, zp_eL, zp_eR, zp_eX, zp_eXl, zp_iV, zp_iI, zp_iL, zp_iR, ↓zp_sm, ↓zp_nls, ↓zp_nln, zp_bo0, zp_bo1, zp_okE, zp_ok2E, zp_rfE, ↓reduceIte, if_true, if_false, zp_ofn, zp_sI1, zp_w1, zp_sL1, zp_sR1, zp_l1, zp_leT, zp_leF, zp_ltT, zp_ltF, zp_eqT, zp_eqF, zp_leTl, zp_leFl, zp_ltTl, zp_ltFl, zp_leTr, zp_leFr, zp_ltTr, zp_ltFr, zp_eqTr, zp_eqFr, zp_eqTl, zp_eqFl, zp_eqFll, eq_self, zp_addl, zp_addr, zp_mull, zp_mulr, zp_subr, zp_subl, nI_add, pk_mul, Nat.reduceEqDiff, Nat.reduceLT, Nat.reduceLeDiff, Nat.reduceAdd, Nat.reduceMul, Nat.reduceSub, reduceCtorEq, Int32.reduceLT, Int32.reduceLE, not_true_eq_false, not_false_eq_true, and_true, true_and, and_false, false_and, or_true, true_or, or_false, false_or]; exact hI
  by_cases hiF : i < K.2.1
  case neg => simp (disch := omega) only [ze_X9_lots_0, ze_X10_lots_0, zc_birdF _ hS (Nat.le_of_not_lt hiF) hi, zr_flyerF _ hR (Nat.le_of_not_lt hiF) hi h4, ze_X5_room_0, ze_X5_size_0, ze_X5_isThere_0, ze_X5_has_0, ze_X5_hasRun_0, ze_X5_get_0, ze_X5_set_0, ze_X5_drop_0, ze_X5_takeRun_0, ze_X9_rowAt_0, ze_X9_textAt_0, ze_X9_refuse_0, ze_X10_isRow_0, ze_X10_isText_0, ze_X10_finds_0, ze_X10_tells_0, zp_in_0_5, zp_in_0_3, zp_in_0_7, zp_in_1_5, zp_in_0_9, zp_in_0_2, zp_in_48_57, zp_in_0_12, zp_in_1_4, zp_in_1_9, zp_in_1_2147483646, zp_in_0_8, zp_in_0, ↓zp_dn, ↓zp_hV, ↓zp_hI, ↓zp_hL, ↓zp_hR, ↓zp_hX, zp_eV, zp_eI, zp_eL, zp_eR, zp_eX, zp_eXl, zp_iV, zp_iI, zp_iL, zp_iR, ↓zp_sm, ↓zp_nls, ↓zp_nln, zp_bo0, zp_bo1, zp_okE, zp_ok2E, zp_rfE, ↓reduceIte, if_true, if_false, zp_ofn, zp_sI1, zp_w1, zp_sL1, zp_sR1, zp_l1, zp_leT, zp_leF, zp_ltT, zp_ltF, zp_eqT, zp_eqF, zp_leTl, zp_leFl, zp_ltTl, zp_ltFl, zp_leTr, zp_leFr, zp_ltTr, zp_ltFr, zp_eqTr, zp_eqFr, zp_eqTl, zp_eqFl, zp_eqFll, eq_self, zp_addl, zp_addr, zp_mull, zp_mulr, zp_subr, zp_subl, nI_add, pk_mul, Nat.reduceEqDiff, Nat.reduceLT, Nat.reduceLeDiff, Nat.reduceAdd, Nat.reduceMul, Nat.reduceSub, reduceCtorEq, Int32.reduceLT, Int32.reduceLE, not_true_eq_false, not_false_eq_true, and_true, true_and, and_false, false_and, or_true, true_or, or_false, false_or]; exact hI
  obtain ⟨hE, hok, hsp⟩ := zq_fl hS hiF
  have h5 : M.1 7 i 5 = (zf_sp K i).2.2.2.2.2 := hsp.2.2.2.2.2
  rcases zp_int m with hm | ⟨m, hm, rfl⟩
  · simp (disch := omega) only [ze_X9_lots_0, ze_X10_lots_0, zc_bird _ hS hiF, zr_flyer _ hR hiF h4, ze_X5_room_0, ze_X5_size_0, ze_X5_isThere_0, ze_X5_has_0, ze_X5_hasRun_0, ze_X5_get_0, ze_X5_set_0, ze_X5_drop_0, ze_X5_takeRun_0, ze_X9_rowAt_0, ze_X9_textAt_0, ze_X9_refuse_0, ze_X10_isRow_0, ze_X10_isText_0, ze_X10_finds_0, ze_X10_tells_0, zp_in_0_5, zp_in_0_3, zp_in_0_7, zp_in_1_5, zp_in_0_9, zp_in_0_2, zp_in_48_57, zp_in_0_12, zp_in_1_4, zp_in_1_9, zp_in_1_2147483646, zp_in_0_8, zp_in_0, ↓zp_dn, ↓zp_hV, ↓zp_hI, ↓zp_hL, ↓zp_hR, ↓zp_hX, zp_eV, zp_eI, zp_eL, zp_eR, zp_eX, zp_eXl, zp_iV, zp_iI, zp_iL, zp_iR, ↓zp_sm, ↓zp_nls, ↓zp_nln, zp_bo0, zp_bo1, zp_okE, zp_ok2E, zp_rfE, ↓reduceIte, if_true, if_false, zp_ofn, zp_sI1, zp_w1, zp_sL1, zp_sR1, zp_l1, zp_leT, zp_leF, zp_ltT, zp_ltF, zp_eqT, zp_eqF, zp_leTl, zp_leFl, zp_ltTl, zp_ltFl, zp_leTr, zp_leFr, zp_ltTr, zp_ltFr, zp_eqTr, zp_eqFr, zp_eqTl, zp_eqFl, zp_eqFll, eq_self, zp_addl, zp_addr, zp_mull, zp_mulr, zp_subr, zp_subl, nI_add, pk_mul, Nat.reduceEqDiff, Nat.reduceLT, Nat.reduceLeDiff, Nat.reduceAdd, Nat.reduceMul, Nat.reduceSub, reduceCtorEq, Int32.reduceLT, Int32.reduceLE, not_true_eq_false, not_false_eq_true, and_true, true_and, and_false, false_and, or_true, true_or, or_false, false_or, zp_n0 hm, zp_n1 hm, zp_n2 hm, zp_n3 hm, zp_n4 hm, zp_n3l hm, zp_n4l hm]; exact hI
  by_cases hm1 : m < 1
  · simp (disch := omega) only [ze_X9_lots_0, ze_X10_lots_0, zc_bird _ hS hiF, zr_flyer _ hR hiF h4, ze_X5_room_0, ze_X5_size_0, ze_X5_isThere_0, ze_X5_has_0, ze_X5_hasRun_0, ze_X5_get_0, ze_X5_set_0, ze_X5_drop_0, ze_X5_takeRun_0, ze_X9_rowAt_0, ze_X9_textAt_0, ze_X9_refuse_0, ze_X10_isRow_0, ze_X10_isText_0, ze_X10_finds_0, ze_X10_tells_0, zp_in_0_5, zp_in_0_3, zp_in_0_7, zp_in_1_5, zp_in_0_9, zp_in_0_2, zp_in_48_57, zp_in_0_12, zp_in_1_4, zp_in_1_9, zp_in_1_2147483646, zp_in_0_8, zp_in_0, ↓zp_dn, ↓zp_hV, ↓zp_hI, ↓zp_hL, ↓zp_hR, ↓zp_hX, zp_eV, zp_eI, zp_eL, zp_eR, zp_eX, zp_eXl, zp_iV, zp_iI, zp_iL, zp_iR, ↓zp_sm, ↓zp_nls, ↓zp_nln, zp_bo0, zp_bo1, zp_okE, zp_ok2E, zp_rfE, ↓reduceIte, if_true, if_false, zp_ofn, zp_sI1, zp_w1, zp_sL1, zp_sR1, zp_l1, zp_leT, zp_leF, zp_ltT, zp_ltF, zp_eqT, zp_eqF, zp_leTl, zp_leFl, zp_ltTl, zp_ltFl, zp_leTr, zp_leFr, zp_ltTr, zp_ltFr, zp_eqTr, zp_eqFr, zp_eqTl, zp_eqFl, zp_eqFll, eq_self, zp_addl, zp_addr, zp_mull, zp_mulr, zp_subr, zp_subl, nI_add, pk_mul, Nat.reduceEqDiff, Nat.reduceLT, Nat.reduceLeDiff, Nat.reduceAdd, Nat.reduceMul, Nat.reduceSub, reduceCtorEq, Int32.reduceLT, Int32.reduceLE, not_true_eq_false, not_false_eq_true, and_true, true_and, and_false, false_and, or_true, true_or, or_false, false_or]; exact hI
  by_cases hm9 : 9 < m
  · simp (disch := omega) only [ze_X9_lots_0, ze_X10_lots_0, zc_bird _ hS hiF, zr_flyer _ hR hiF h4, ze_X5_room_0, ze_X5_size_0, ze_X5_isThere_0, ze_X5_has_0, ze_X5_hasRun_0, ze_X5_get_0, ze_X5_set_0, ze_X5_drop_0, ze_X5_takeRun_0, ze_X9_rowAt_0, ze_X9_textAt_0, ze_X9_refuse_0, ze_X10_isRow_0, ze_X10_isText_0, ze_X10_finds_0, ze_X10_tells_0, zp_in_0_5, zp_in_0_3, zp_in_0_7, zp_in_1_5, zp_in_0_9, zp_in_0_2, zp_in_48_57, zp_in_0_12, zp_in_1_4, zp_in_1_9, zp_in_1_2147483646, zp_in_0_8, zp_in_0, ↓zp_dn, ↓zp_hV, ↓zp_hI, ↓zp_hL, ↓zp_hR, ↓zp_hX, zp_eV, zp_eI, zp_eL, zp_eR, zp_eX, zp_eXl, zp_iV, zp_iI, zp_iL, zp_iR, ↓zp_sm, ↓zp_nls, ↓zp_nln, zp_bo0, zp_bo1, zp_okE, zp_ok2E, zp_rfE, ↓reduceIte, if_true, if_false, zp_ofn, zp_sI1, zp_w1, zp_sL1, zp_sR1, zp_l1, zp_leT, zp_leF, zp_ltT, zp_ltF, zp_eqT, zp_eqF, zp_leTl, zp_leFl, zp_ltTl, zp_ltFl, zp_leTr, zp_leFr, zp_ltTr, zp_ltFr, zp_eqTr, zp_eqFr, zp_eqTl, zp_eqFl, zp_eqFll, eq_self, zp_addl, zp_addr, zp_mull, zp_mulr, zp_subr, zp_subl, nI_add, pk_mul, Nat.reduceEqDiff, Nat.reduceLT, Nat.reduceLeDiff, Nat.reduceAdd, Nat.reduceMul, Nat.reduceSub, reduceCtorEq, Int32.reduceLT, Int32.reduceLE, not_true_eq_false, not_false_eq_true, and_true, true_and, and_false, false_and, or_true, true_or, or_false, false_or]; exact hI
  rcases zp_int y with hy | ⟨y, hy, rfl⟩
  · simp (disch := omega) only [ze_X9_lots_0, ze_X10_lots_0, zc_bird _ hS hiF, zr_flyer _ hR hiF h4, ze_X5_room_0, ze_X5_size_0, ze_X5_isThere_0, ze_X5_has_0, ze_X5_hasRun_0, ze_X5_get_0, ze_X5_set_0, ze_X5_drop_0, ze_X5_takeRun_0, ze_X9_rowAt_0, ze_X9_textAt_0, ze_X9_refuse_0, ze_X10_isRow_0, ze_X10_isText_0, ze_X10_finds_0, ze_X10_tells_0, zp_in_0_5, zp_in_0_3, zp_in_0_7, zp_in_1_5, zp_in_0_9, zp_in_0_2, zp_in_48_57, zp_in_0_12, zp_in_1_4, zp_in_1_9, zp_in_1_2147483646, zp_in_0_8, zp_in_0, ↓zp_dn, ↓zp_hV, ↓zp_hI, ↓zp_hL, ↓zp_hR, ↓zp_hX, zp_eV, zp_eI, zp_eL, zp_eR, zp_eX, zp_eXl, zp_iV, zp_iI, zp_iL, zp_iR, ↓zp_sm, ↓zp_nls, ↓zp_nln, zp_bo0, zp_bo1, zp_okE, zp_ok2E, zp_rfE, ↓reduceIte, if_true, if_false, zp_ofn, zp_sI1, zp_w1, zp_sL1, zp_sR1, zp_l1, zp_leT, zp_leF, zp_ltT, zp_ltF, zp_eqT, zp_eqF, zp_leTl, zp_leFl, zp_ltTl, zp_ltFl, zp_leTr, zp_leFr, zp_ltTr, zp_ltFr, zp_eqTr, zp_eqFr, zp_eqTl, zp_eqFl, zp_eqFll, eq_self, zp_addl, zp_addr, zp_mull, zp_mulr, zp_subr, zp_subl, nI_add, pk_mul, Nat.reduceEqDiff, Nat.reduceLT, Nat.reduceLeDiff, Nat.reduceAdd, Nat.reduceMul, Nat.reduceSub, reduceCtorEq, Int32.reduceLT, Int32.reduceLE, not_true_eq_false, not_false_eq_true, and_true, true_and, and_false, false_and, or_true, true_or, or_false, false_or, zp_n0 hy, zp_n1 hy, zp_n2 hy, zp_n3 hy, zp_n4 hy, zp_n3l hy, zp_n4l hy]; exact hI
  by_cases hy1 : y < 1
  · simp (disch := omega) only [ze_X9_lots_0, ze_X10_lots_0, zc_bird _ hS hiF, zr_flyer _ hR hiF h4, ze_X5_room_0, ze_X5_size_0, ze_X5_isThere_0, ze_X5_has_0, ze_X5_hasRun_0, ze_X5_get_0, ze_X5_set_0, ze_X5_drop_0, ze_X5_takeRun_0, ze_X9_rowAt_0, ze_X9_textAt_0, ze_X9_refuse_0, ze_X10_isRow_0, ze_X10_isText_0, ze_X10_finds_0, ze_X10_tells_0, zp_in_0_5, zp_in_0_3, zp_in_0_7, zp_in_1_5, zp_in_0_9, zp_in_0_2, zp_in_48_57, zp_in_0_12, zp_in_1_4, zp_in_1_9, zp_in_1_2147483646, zp_in_0_8, zp_in_0, ↓zp_dn, ↓zp_hV, ↓zp_hI, ↓zp_hL, ↓zp_hR, ↓zp_hX, zp_eV, zp_eI, zp_eL, zp_eR, zp_eX, zp_eXl, zp_iV, zp_iI, zp_iL, zp_iR, ↓zp_sm, ↓zp_nls, ↓zp_nln, zp_bo0, zp_bo1, zp_okE, zp_ok2E, zp_rfE, ↓reduceIte, if_true, if_false, zp_ofn, zp_sI1, zp_w1, zp_sL1, zp_sR1, zp_l1, zp_leT, zp_leF, zp_ltT, zp_ltF, zp_eqT, zp_eqF, zp_leTl, zp_leFl, zp_ltTl, zp_ltFl, zp_leTr, zp_leFr, zp_ltTr, zp_ltFr, zp_eqTr, zp_eqFr, zp_eqTl, zp_eqFl, zp_eqFll, eq_self, zp_addl, zp_addr, zp_mull, zp_mulr, zp_subr, zp_subl, nI_add, pk_mul, Nat.reduceEqDiff, Nat.reduceLT, Nat.reduceLeDiff, Nat.reduceAdd, Nat.reduceMul, Nat.reduceSub, reduceCtorEq, Int32.reduceLT, Int32.reduceLE, not_true_eq_false, not_false_eq_true, and_true, true_and, and_false, false_and, or_true, true_or, or_false, false_or]; exact hI
  by_cases hy2 : y < 2147483647
  case neg => simp (disch := omega) only [ze_X9_lots_0, ze_X10_lots_0, zc_bird _ hS hiF, zr_flyer _ hR hiF h4, lcm, ze_X5_room_0, ze_X5_size_0, ze_X5_isThere_0, ze_X5_has_0, ze_X5_hasRun_0, ze_X5_get_0, ze_X5_set_0, ze_X5_drop_0, ze_X5_takeRun_0, ze_X9_rowAt_0, ze_X9_textAt_0, ze_X9_refuse_0, ze_X10_isRow_0, ze_X10_isText_0, ze_X10_finds_0, ze_X10_tells_0, zp_in_0_5, zp_in_0_3, zp_in_0_7, zp_in_1_5, zp_in_0_9, zp_in_0_2, zp_in_48_57, zp_in_0_12, zp_in_1_4, zp_in_1_9, zp_in_1_2147483646, zp_in_0_8, zp_in_0, ↓zp_dn, ↓zp_hV, ↓zp_hI, ↓zp_hL, ↓zp_hR, ↓zp_hX, zp_eV, zp_eI, zp_eL, zp_eR, zp_eX, zp_eXl, zp_iV, zp_iI, zp_iL, zp_iR, ↓zp_sm, ↓zp_nls, ↓zp_nln, zp_bo0, zp_bo1, zp_okE, zp_ok2E, zp_rfE, ↓reduceIte, if_true, if_false, zp_ofn, zp_sI1, zp_w1, zp_sL1, zp_sR1, zp_l1, zp_leT, zp_leF, zp_ltT, zp_ltF, zp_eqT, zp_eqF, zp_leTl, zp_leFl, zp_ltTl, zp_ltFl, zp_leTr, zp_leFr, zp_ltTr, zp_ltFr, zp_eqTr, zp_eqFr, zp_eqTl, zp_eqFl, zp_eqFll, eq_self, zp_addl, zp_addr, zp_mull, zp_mulr, zp_subr, zp_subl, nI_add, pk_mul, Nat.reduceEqDiff, Nat.reduceLT, Nat.reduceLeDiff, Nat.reduceAdd, Nat.reduceMul, Nat.reduceSub, reduceCtorEq, Int32.reduceLT, Int32.reduceLE, not_true_eq_false, not_false_eq_true, and_true, true_and, and_false, false_and, or_true, true_or, or_false, false_or]; exact hI
  have b6 : M.1 6 0 6 = nI K.2.2.2.1 := hS.2.2.2.1.2.2.1
  have r4 : M.1 28 0 4 = nI K.2.2.2.1 := hR.2.2.1
  have h40 := hS.2.1.2.1
  by_cases hf : (zf_sp K i).2.2.2.2.2 = 0
  case neg => simp (disch := omega) only [ze_X9_lots_0, ze_X10_lots_0, zc_bird _ hS hiF, zr_flyer _ hR hiF h4, lcm, zr_fallen _ hR hiF h4, h5, if_neg hf, ze_X5_room_0, ze_X5_size_0, ze_X5_isThere_0, ze_X5_has_0, ze_X5_hasRun_0, ze_X5_get_0, ze_X5_set_0, ze_X5_drop_0, ze_X5_takeRun_0, ze_X9_rowAt_0, ze_X9_textAt_0, ze_X9_refuse_0, ze_X10_isRow_0, ze_X10_isText_0, ze_X10_finds_0, ze_X10_tells_0, zp_in_0_5, zp_in_0_3, zp_in_0_7, zp_in_1_5, zp_in_0_9, zp_in_0_2, zp_in_48_57, zp_in_0_12, zp_in_1_4, zp_in_1_9, zp_in_1_2147483646, zp_in_0_8, zp_in_0, ↓zp_dn, ↓zp_hV, ↓zp_hI, ↓zp_hL, ↓zp_hR, ↓zp_hX, zp_eV, zp_eI, zp_eL, zp_eR, zp_eX, zp_eXl, zp_iV, zp_iI, zp_iL, zp_iR, ↓zp_sm, ↓zp_nls, ↓zp_nln, zp_bo0, zp_bo1, zp_okE, zp_ok2E, zp_rfE, ↓reduceIte, if_true, if_false, zp_ofn, zp_sI1, zp_w1, zp_sL1, zp_sR1, zp_l1, zp_leT, zp_leF, zp_ltT, zp_ltF, zp_eqT, zp_eqF, zp_leTl, zp_leFl, zp_ltTl, zp_ltFl, zp_leTr, zp_leFr, zp_ltTr, zp_ltFr, zp_eqTr, zp_eqFr, zp_eqTl, zp_eqFl, zp_eqFll, eq_self, zp_addl, zp_addr, zp_mull, zp_mulr, zp_subr, zp_subl, nI_add, pk_mul, Nat.reduceEqDiff, Nat.reduceLT, Nat.reduceLeDiff, Nat.reduceAdd, Nat.reduceMul, Nat.reduceSub, reduceCtorEq, Int32.reduceLT, Int32.reduceLE, not_true_eq_false, not_false_eq_true, and_true, true_and, and_false, false_and, or_true, true_or, or_false, false_or]; exact hI
  by_cases hfull : K.2.2.2.1 + m ≤ 40
  case neg => simp (disch := omega) only [ze_X9_lots_0, ze_X10_lots_0, zc_bird _ hS hiF, zr_flyer _ hR hiF h4, lcm, zr_fallen _ hR hiF h4, h5, if_pos hf, b6, r4, ze_X5_room_0, ze_X5_size_0, ze_X5_isThere_0, ze_X5_has_0, ze_X5_hasRun_0, ze_X5_get_0, ze_X5_set_0, ze_X5_drop_0, ze_X5_takeRun_0, ze_X9_rowAt_0, ze_X9_textAt_0, ze_X9_refuse_0, ze_X10_isRow_0, ze_X10_isText_0, ze_X10_finds_0, ze_X10_tells_0, zp_in_0_5, zp_in_0_3, zp_in_0_7, zp_in_1_5, zp_in_0_9, zp_in_0_2, zp_in_48_57, zp_in_0_12, zp_in_1_4, zp_in_1_9, zp_in_1_2147483646, zp_in_0_8, zp_in_0, ↓zp_dn, ↓zp_hV, ↓zp_hI, ↓zp_hL, ↓zp_hR, ↓zp_hX, zp_eV, zp_eI, zp_eL, zp_eR, zp_eX, zp_eXl, zp_iV, zp_iI, zp_iL, zp_iR, ↓zp_sm, ↓zp_nls, ↓zp_nln, zp_bo0, zp_bo1, zp_okE, zp_ok2E, zp_rfE, ↓reduceIte, if_true, if_false, zp_ofn, zp_sI1, zp_w1, zp_sL1, zp_sR1, zp_l1, zp_leT, zp_leF, zp_ltT, zp_ltF, zp_eqT, zp_eqF, zp_leTl, zp_leFl, zp_ltTl, zp_ltFl, zp_leTr, zp_leFr, zp_ltTr, zp_ltFr, zp_eqTr, zp_eqFr, zp_eqTl, zp_eqFl, zp_eqFll, eq_self, zp_addl, zp_addr, zp_mull, zp_mulr, zp_subr, zp_subl, nI_add, pk_mul, Nat.reduceEqDiff, Nat.reduceLT, Nat.reduceLeDiff, Nat.reduceAdd, Nat.reduceMul, Nat.reduceSub, reduceCtorEq, Int32.reduceLT, Int32.reduceLE, not_true_eq_false, not_false_eq_true, and_true, true_and, and_false, false_and, or_true, true_or, or_false, false_or]; exact hI
  have k0 : M.1 6 0 5 = K.1 := hS.2.2.2.1.1
  have nbd : zq_nb M (zp_bd M (zf_en A K i)) := zq_nb_bd (zq_nb_rfl M) _
  have hS1 := zq_sky_nb nbd hS
  obtain ⟨M1, c1, c2, c3, c4⟩ := zc_lotsL (d + 1) hE (i := i) (n := m) (by omega) m K y 0 (zp_bd M (zf_en A K i)) (by omega) hS1.2.1 hS1.2.2.2.1 hiF (zp_bd_E (E := zf_en A K i) hS.2.2.1) hfull (by omega)
  have e28 : M1.1 28 0 = M.1 28 0 := funext fun j => c2.2 28 0 j (by omega) (by omega) (by omega)
  have hA2 : zf_rA (M1.1 28 0) A := by rw [e28]; exact hS.2.2.2.2.1
  have hR2 : zf_rK (M1.1 28 0) K := by rw [e28]; exact hR
  have r42 : M1.1 28 0 4 = nI K.2.2.2.1 := hR2.2.2.1
  obtain ⟨M2, q1, q2, q3, q4⟩ := zr_lotsL d hE (i := i) (n := m) (by omega) m K y 0 M1 (by omega) hS.2.1 hA2 hR2 hiF hfull (by omega)
  rw [ze_X9_lots_0]
  simp (disch := omega) only [zc_bird _ hS hiF, lcm, h5, if_pos hf, b6, k0, zc_board _ hS hiF, ↓zp_dn, ↓zp_hV, ↓zp_hI, ↓zp_hL, ↓zp_hR, ↓zp_hX, zp_eV, zp_eI, zp_eL, zp_eR, zp_eX, zp_eXl, zp_iV, zp_iI, zp_iL, zp_iR, ↓zp_sm, ↓zp_nls, ↓zp_nln, zp_bo0, zp_bo1, zp_okE, zp_ok2E, zp_rfE, ↓reduceIte, if_true, if_false, zp_leT, zp_leF, zp_ltT, zp_ltF, zp_eqT, zp_eqF, zp_leTl, zp_leFl, zp_ltTl, zp_ltFl, zp_leTr, zp_leFr, zp_ltTr, zp_ltFr, zp_eqTr, zp_eqFr, zp_eqTl, zp_eqFl, zp_eqFll, eq_self, zp_addl, zp_addr, zp_mull, zp_mulr, zp_subr, zp_subl, nI_add, pk_mul]
  rw [nI_l (by omega)]
  refine Eq.mpr (congrArg (fun o => zp_ok o _ _) c1) ?_
  rw [zp_okE, zp_rfE, ze_X10_lots_0]
  simp (disch := omega) only [zr_flyer _ hR2 hiF h4, zr_fallen _ hR2 hiF h4, if_pos hf, r42, ze_X5_room_0, ze_X5_size_0, ze_X5_isThere_0, ze_X5_has_0, ze_X5_hasRun_0, ze_X5_get_0, ze_X5_set_0, ze_X5_drop_0, ze_X5_takeRun_0, ze_X9_rowAt_0, ze_X9_textAt_0, ze_X9_refuse_0, ze_X10_isRow_0, ze_X10_isText_0, ze_X10_finds_0, ze_X10_tells_0, zp_in_0_5, zp_in_0_3, zp_in_0_7, zp_in_1_5, zp_in_0_9, zp_in_0_2, zp_in_48_57, zp_in_0_12, zp_in_1_4, zp_in_1_9, zp_in_1_2147483646, zp_in_0_8, zp_in_0, ↓zp_dn, ↓zp_hV, ↓zp_hI, ↓zp_hL, ↓zp_hR, ↓zp_hX, zp_eV, zp_eI, zp_eL, zp_eR, zp_eX, zp_eXl, zp_iV, zp_iI, zp_iL, zp_iR, ↓zp_sm, ↓zp_nls, ↓zp_nln, zp_bo0, zp_bo1, zp_okE, zp_ok2E, zp_rfE, ↓reduceIte, if_true, if_false, zp_ofn, zp_sI1, zp_w1, zp_sL1, zp_sR1, zp_l1, zp_leT, zp_leF, zp_ltT, zp_ltF, zp_eqT, zp_eqF, zp_leTl, zp_leFl, zp_ltTl, zp_ltFl, zp_leTr, zp_leFr, zp_ltTr, zp_ltFr, zp_eqTr, zp_eqFr, zp_eqTl, zp_eqFl, zp_eqFll, eq_self, zp_addl, zp_addr, zp_mull, zp_mulr, zp_subr, zp_subl, nI_add, pk_mul, Nat.reduceEqDiff, Nat.reduceLT, Nat.reduceLeDiff, Nat.reduceAdd, Nat.reduceMul, Nat.reduceSub, reduceCtorEq, Int32.reduceLT, Int32.reduceLE, not_true_eq_false, not_false_eq_true, and_true, true_and, and_false, false_and, or_true, true_or, or_false, false_or]
  rw [nI_l (by omega)]
  refine Eq.mpr (congrArg (fun o => zp_ok2 o _ _) q1) ?_
  rw [zp_ok2E]
  exact ⟨rfl, zy_fin (zq_nb_vI hI nbd rfl) hS1 c2 c3 c4 q2 q3 q4⟩
