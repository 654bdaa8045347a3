/-! THE PURE PART: boats -/
def zb_h (C s k : Nat) : Bool := decide (s / 2 ^ (C - 1 - k) % 2 = 1)
def zb_ab (a b : Nat) : Nat := if a ≤ b then b - a else a - b
def zb_near (N C s c : Nat) : Nat → Nat
  | 0 => N
  | k + 1 => if zb_h C s k && decide (zb_ab k c < zb_near N C s c k) then zb_ab k c else zb_near N C s c k
def zb_far (N C s : Nat) : Nat → Nat
  | 0 => 0
  | c + 1 => if zb_far N C s c < zb_near N C s c C then zb_near N C s c C else zb_far N C s c
def zb_cnt (s : Nat) : Nat → Nat
  | 0 => 0
  | c + 1 => zb_cnt s c + s / 2 ^ c % 2
def zb_cl (C s : Nat) : Nat → List Nat
  | 0 => []
  | k + 1 => if zb_h C s k then zb_cl C s k ++ [k] else zb_cl C s k
theorem zb_bit : ∀ s, s < 128 → ∀ e, e < 7 → ((nI s >>> (nI e &&& 31)) &&& 1) = nI (s / 2 ^ e % 2) := by decide +kernel
theorem zb_nears : ∀ C, C < 8 → ∀ s, s < 2 ^ C → 0 < s → ∀ c, c < C → zb_near 7 C s c C = zb_near 100 C s c C := by decide +kernel
theorem zb_far6 : ∀ C, C < 8 → ∀ s, s < 2 ^ C → 0 < s → zb_far 7 C s C ≤ 6 := by decide +kernel
theorem zb_cll : ∀ C, C < 8 → ∀ s, s < 2 ^ C → (zb_cl C s C).length = zb_cnt s C := by decide +kernel
theorem zb_near_le (N C s c k : Nat) : zb_near N C s c k ≤ N := by
  induction k with
  | zero => exact Nat.le_refl N
  | succ k ih =>
    simp only [zb_near]
    split
    · rename_i h
      simp only [Bool.and_eq_true, decide_eq_true_eq] at h
      omega
    · exact ih
theorem zb_far_le (N C s c : Nat) : zb_far N C s c ≤ N := by
  induction c with
  | zero => exact Nat.zero_le N
  | succ c ih =>
    simp only [zb_far]
    split
    · exact zb_near_le N C s c C
    · exact ih
theorem zb_fars {C s : Nat} (hC : C < 8) (hs : s < 2 ^ C) (h0 : 0 < s) : ∀ c, c ≤ C → zb_far 7 C s c = zb_far 100 C s c := by
  intro c
  induction c with
  | zero => intro _; rfl
  | succ c ih =>
    intro h
    simp only [zb_far]
    rw [ih (by omega), zb_nears C hC s hs h0 c (by omega)]
theorem zb_cnt_le (s c : Nat) : zb_cnt s c ≤ c := by
  induction c with
  | zero => exact Nat.le_refl 0
  | succ c ih => simp only [zb_cnt]; have := Nat.mod_lt (s / 2 ^ c) (show 0 < 2 from by decide); omega
theorem zb_bc : ∀ C, C < 8 → ∀ s, s < 2 ^ C → (((((((((nI s) - ((((nI s).toUInt32 >>> (Int32.toUInt32 1 &&& Int32.toUInt32 31)).toInt32) &&& 1431655765)) &&& 858993459) + (((((nI s) - ((((nI s).toUInt32 >>> (Int32.toUInt32 1 &&& Int32.toUInt32 31)).toInt32) &&& 1431655765)).toUInt32 >>> (Int32.toUInt32 2 &&& Int32.toUInt32 31)).toInt32) &&& 858993459)) + ((((((nI s) - ((((nI s).toUInt32 >>> (Int32.toUInt32 1 &&& Int32.toUInt32 31)).toInt32) &&& 1431655765)) &&& 858993459) + (((((nI s) - ((((nI s).toUInt32 >>> (Int32.toUInt32 1 &&& Int32.toUInt32 31)).toInt32) &&& 1431655765)).toUInt32 >>> (Int32.toUInt32 2 &&& Int32.toUInt32 31)).toInt32) &&& 858993459)).toUInt32 >>> (Int32.toUInt32 4 &&& Int32.toUInt32 31)).toInt32)) &&& 252645135) + ((((((((nI s) - ((((nI s).toUInt32 >>> (Int32.toUInt32 1 &&& Int32.toUInt32 31)).toInt32) &&& 1431655765)) &&& 858993459) + (((((nI s) - ((((nI s).toUInt32 >>> (Int32.toUInt32 1 &&& Int32.toUInt32 31)).toInt32) &&& 1431655765)).toUInt32 >>> (Int32.toUInt32 2 &&& Int32.toUInt32 31)).toInt32) &&& 858993459)) + ((((((nI s) - ((((nI s).toUInt32 >>> (Int32.toUInt32 1 &&& Int32.toUInt32 31)).toInt32) &&& 1431655765)) &&& 858993459) + (((((nI s) - ((((nI s).toUInt32 >>> (Int32.toUInt32 1 &&& Int32.toUInt32 31)).toInt32) &&& 1431655765)).toUInt32 >>> (Int32.toUInt32 2 &&& Int32.toUInt32 31)).toInt32) &&& 858993459)).toUInt32 >>> (Int32.toUInt32 4 &&& Int32.toUInt32 31)).toInt32)) &&& 252645135).toUInt32 >>> (Int32.toUInt32 8 &&& Int32.toUInt32 31)).toInt32)) + (((((((((nI s) - ((((nI s).toUInt32 >>> (Int32.toUInt32 1 &&& Int32.toUInt32 31)).toInt32) &&& 1431655765)) &&& 858993459) + (((((nI s) - ((((nI s).toUInt32 >>> (Int32.toUInt32 1 &&& Int32.toUInt32 31)).toInt32) &&& 1431655765)).toUInt32 >>> (Int32.toUInt32 2 &&& Int32.toUInt32 31)).toInt32) &&& 858993459)) + ((((((nI s) - ((((nI s).toUInt32 >>> (Int32.toUInt32 1 &&& Int32.toUInt32 31)).toInt32) &&& 1431655765)) &&& 858993459) + (((((nI s) - ((((nI s).toUInt32 >>> (Int32.toUInt32 1 &&& Int32.toUInt32 31)).toInt32) &&& 1431655765)).toUInt32 >>> (Int32.toUInt32 2 &&& Int32.toUInt32 31)).toInt32) &&& 858993459)).toUInt32 >>> (Int32.toUInt32 4 &&& Int32.toUInt32 31)).toInt32)) &&& 252645135) + ((((((((nI s) - ((((nI s).toUInt32 >>> (Int32.toUInt32 1 &&& Int32.toUInt32 31)).toInt32) &&& 1431655765)) &&& 858993459) + (((((nI s) - ((((nI s).toUInt32 >>> (Int32.toUInt32 1 &&& Int32.toUInt32 31)).toInt32) &&& 1431655765)).toUInt32 >>> (Int32.toUInt32 2 &&& Int32.toUInt32 31)).toInt32) &&& 858993459)) + ((((((nI s) - ((((nI s).toUInt32 >>> (Int32.toUInt32 1 &&& Int32.toUInt32 31)).toInt32) &&& 1431655765)) &&& 858993459) + (((((nI s) - ((((nI s).toUInt32 >>> (Int32.toUInt32 1 &&& Int32.toUInt32 31)).toInt32) &&& 1431655765)).toUInt32 >>> (Int32.toUInt32 2 &&& Int32.toUInt32 31)).toInt32) &&& 858993459)).toUInt32 >>> (Int32.toUInt32 4 &&& Int32.toUInt32 31)).toInt32)) &&& 252645135).toUInt32 >>> (Int32.toUInt32 8 &&& Int32.toUInt32 31)).toInt32)).toUInt32 >>> (Int32.toUInt32 16 &&& Int32.toUInt32 31)).toInt32)) &&& 63) = nI (zb_cnt s C) := by decide +kernel
theorem zc_bitc7 (d : Nat) (M : zi_M) {C s : Nat} (hC : C < 8) (hs : s < 2 ^ C) : zi_run d zm_J6_bitCount_0f7a4 0 [some (.inl (nI s))] [] M = some (some (.inl (nI (zb_cnt s C))), M) := by
  rw [ze_J6_bitCount_0f7a4_0]
  exact congrArg (fun y : Int32 => (some (some (Sum.inl y), M) : zi_O)) (zb_bc C hC s hs)
theorem zb_hE {C s k : Nat} (hC : C < 8) (hs : s < 2 ^ C) (hk : k < C) : ((nI s >>> (nI (C - 1 - k) &&& 31)) &&& 1 = 1) ↔ zb_h C s k = true := by
  have h7 : 2 ^ C ≤ 2 ^ 7 := Nat.pow_le_pow_right (by decide) (by omega)
  rw [zb_bit s (by omega) (C - 1 - k) (by omega), zb_h, decide_eq_true_eq]
  exact nI_eq (b := 1) (by have := Nat.mod_lt (s / 2 ^ (C - 1 - k)) (show 0 < 2 from by decide); omega) (by decide)
theorem zc_hasBoat (d : Nat) {M : zi_M} {C s k : Nat} (hC2 : 2 ≤ C) (hC : C < 8) (h0 : M.1 0 0 1 = nI C) (hs : s < 2 ^ C) (hk : k < C) : zi_run d zm_X9_hasBoat 0 [some (.inr (.inr (9, some 0))), some (.inl (nI s)), some (.inl (nI k))] [] M = some (some (.inl (zw_b1 (zb_h C s k))), M) := by
  rw [ze_X9_hasBoat_0, h0]
  have e : nI C - 1 - nI k = nI (C - 1 - k) := by
    rw [show nI C - 1 = nI (C - 1) from pk_sub (b := 1) (by omega), pk_sub (by omega)]
  rw [e]
  have hE := zb_hE hC hs hk
  cases h : zb_h C s k with
  | true => rw [if_pos (hE.mpr h)]; rfl
  | false => rw [if_neg (fun q => by rw [hE, h] at q; cases q)]; rfl
theorem zb_absN {a b : Nat} (ha : a < 100) (hb : b < 100) : zi_abs (nI a - nI b) = nI (zb_ab b a) := by
  unfold zi_abs zb_ab
  by_cases h : b ≤ a
  · rw [pk_sub h, if_pos (nI_pos' (by omega)), if_pos h]
  · have hn := pk_sneg (a := a) (b := b) (by omega) (by omega)
    rw [if_neg ((zp_ltnle _ _).mp hn), if_neg h]
    have e : (0 : Int32) - (nI a - nI b) = nI b - nI a := by
      rw [Int32.zero_sub, Int32.neg_sub]
    rw [e, pk_sub (by omega)]
theorem zb_ab_c (a b : Nat) : zb_ab a b = zb_ab b a := by
  unfold zb_ab; split <;> split <;> omega
theorem zb_ab_lt {a b : Nat} (ha : a < 7) (hb : b < 7) : zb_ab a b < 7 := by
  unfold zb_ab; split <;> omega
theorem zc_far (d : Nat) {M : zi_M} {C s : Nat} (hC2 : 2 ≤ C) (hC : C < 8) (h0 : M.1 0 0 1 = nI C) (hs : s < 2 ^ C) : zi_run (d + 1) zm_X9_farthestFrom 0 [some (.inr (.inr (9, some 0))), some (.inl (nI s)), none, none, none, none] [] M = some (some (.inl (nI (zb_far 7 C s C))), M) := by
  rw [ze_X9_farthestFrom_0]
  refine zp_for (fun c => zi_run (d + 1) zm_X9_farthestFrom 4 [some (.inr (.inr (9, some 0))), some (.inl (nI s)), some (.inl (nI (zb_far 7 C s c))), some (.inl (nI c)), none, none] [] M) C _ ?_ ?_ 0 (Nat.zero_le _)
  · rw [ze_X9_farthestFrom_4]
    simp (disch := omega) only [↓zp_dn, ↓zp_hV, ↓zp_hI, ↓zp_hL, ↓zp_hR, ↓zp_hX, zp_eV, zp_eI, zp_eL, zp_eR, zp_eX, zp_eXl, zp_iV, zp_iI, zp_iL, zp_iR, ↓zp_sm, ↓zp_nls, ↓zp_nln, zp_bo0, zp_bo1, zp_okE, zp_ok2E, zp_rfE, ↓reduceIte, if_true, if_false, zp_leT, zp_leF, zp_ltT, zp_ltF, zp_eqT, zp_eqF, zp_leTl, zp_leFl, zp_ltTl, zp_ltFl, zp_leTr, zp_leFr, zp_ltTr, zp_ltFr, zp_eqTr, zp_eqFr, zp_eqTl, zp_eqFl, zp_eqFll, eq_self, zp_addl, zp_addr, zp_mull, zp_mulr, zp_subr, zp_subl, nI_add, pk_mul, h0]
  · intro c hc
    have hfl := zb_far_le 7 C s c
    have hnl := zb_near_le 7 C s c C
    have inner : zi_run (d + 1) zm_X9_farthestFrom 22 [some (.inr (.inr (9, some 0))), some (.inl (nI s)), some (.inl (nI (zb_far 7 C s c))), some (.inl (nI c)), some (.inl 7), some (.inl 0)] [] M = zi_run (d + 1) zm_X9_farthestFrom 22 [some (.inr (.inr (9, some 0))), some (.inl (nI s)), some (.inl (nI (zb_far 7 C s c))), some (.inl (nI c)), some (.inl (nI (zb_near 7 C s c C))), some (.inl (nI C))] [] M := by
      refine zp_for (fun k => zi_run (d + 1) zm_X9_farthestFrom 22 [some (.inr (.inr (9, some 0))), some (.inl (nI s)), some (.inl (nI (zb_far 7 C s c))), some (.inl (nI c)), some (.inl (nI (zb_near 7 C s c k))), some (.inl (nI k))] [] M) C _ rfl ?_ 0 (Nat.zero_le _)
      intro k hk
      have hkl := zb_near_le 7 C s c k
      have hab := zb_ab_lt (a := k) (b := c) (by omega) (by omega)
      rw [ze_X9_farthestFrom_22, zb_near]
      cases h : zb_h C s k with
      | false => simp (disch := omega) only [↓zp_dn, ↓zp_hV, ↓zp_hI, ↓zp_hL, ↓zp_hR, ↓zp_hX, zp_eV, zp_eI, zp_eL, zp_eR, zp_eX, zp_eXl, zp_iV, zp_iI, zp_iL, zp_iR, ↓zp_sm, ↓zp_nls, ↓zp_nln, zp_bo0, zp_bo1, zp_okE, zp_ok2E, zp_rfE, ↓reduceIte, if_true, if_false, zp_leT, zp_leF, zp_ltT, zp_ltF, zp_eqT, zp_eqF, zp_leTl, zp_leFl, zp_ltTl, zp_ltFl, zp_leTr, zp_leFr, zp_ltTr, zp_ltFr, zp_eqTr, zp_eqFr, zp_eqTl, zp_eqFl, zp_eqFll, eq_self, zp_addl, zp_addr, zp_mull, zp_mulr, zp_subr, zp_subl, nI_add, pk_mul, h0, zc_hasBoat _ hC2 hC h0 hs hk, h, zw_b1F, ze_X9_farthestFrom_58, Bool.false_and, Bool.false_eq_true]
      | true =>
        have ea : zi_abs (nI k - nI c) = nI (zb_ab k c) := by rw [zb_absN (by omega) (by omega), zb_ab_c]
        by_cases hlt : zb_ab k c < zb_near 7 C s c k
        · have em : zi_min (nI (zb_near 7 C s c k)) (nI (zb_ab k c)) = nI (zb_ab k c) := by rw [zi_min, if_pos (nI_lt hlt (by omega))]
          simp (disch := omega) only [↓zp_dn, ↓zp_hV, ↓zp_hI, ↓zp_hL, ↓zp_hR, ↓zp_hX, zp_eV, zp_eI, zp_eL, zp_eR, zp_eX, zp_eXl, zp_iV, zp_iI, zp_iL, zp_iR, ↓zp_sm, ↓zp_nls, ↓zp_nln, zp_bo0, zp_bo1, zp_okE, zp_ok2E, zp_rfE, ↓reduceIte, if_true, if_false, zp_leT, zp_leF, zp_ltT, zp_ltF, zp_eqT, zp_eqF, zp_leTl, zp_leFl, zp_ltTl, zp_ltFl, zp_leTr, zp_leFr, zp_ltTr, zp_ltFr, zp_eqTr, zp_eqFr, zp_eqTl, zp_eqFl, zp_eqFll, eq_self, zp_addl, zp_addr, zp_mull, zp_mulr, zp_subr, zp_subl, nI_add, pk_mul, h0, zc_hasBoat _ hC2 hC h0 hs hk, h, zw_b1T, zp_1n0, ea, em, ze_X9_farthestFrom_58, Bool.true_and, decide_eq_true hlt]
        · have em : zi_min (nI (zb_near 7 C s c k)) (nI (zb_ab k c)) = nI (zb_near 7 C s c k) := by rw [zi_min, if_neg (nI_nlt (by omega) (by omega))]
          simp (disch := omega) only [↓zp_dn, ↓zp_hV, ↓zp_hI, ↓zp_hL, ↓zp_hR, ↓zp_hX, zp_eV, zp_eI, zp_eL, zp_eR, zp_eX, zp_eXl, zp_iV, zp_iI, zp_iL, zp_iR, ↓zp_sm, ↓zp_nls, ↓zp_nln, zp_bo0, zp_bo1, zp_okE, zp_ok2E, zp_rfE, ↓reduceIte, if_true, if_false, zp_leT, zp_leF, zp_ltT, zp_ltF, zp_eqT, zp_eqF, zp_leTl, zp_leFl, zp_ltTl, zp_ltFl, zp_leTr, zp_leFr, zp_ltTr, zp_ltFr, zp_eqTr, zp_eqFr, zp_eqTl, zp_eqFl, zp_eqFll, eq_self, zp_addl, zp_addr, zp_mull, zp_mulr, zp_subr, zp_subl, nI_add, pk_mul, h0, zc_hasBoat _ hC2 hC h0 hs hk, h, zw_b1T, zp_1n0, ea, em, ze_X9_farthestFrom_58, Bool.true_and, decide_eq_false hlt, Bool.false_eq_true]
    rw [ze_X9_farthestFrom_4, zb_far]
    by_cases hlt : zb_far 7 C s c < zb_near 7 C s c C
    · have em : zi_max (nI (zb_far 7 C s c)) (nI (zb_near 7 C s c C)) = nI (zb_near 7 C s c C) := by rw [zi_max, if_pos (nI_lt hlt (by omega))]
      simp (disch := omega) only [↓zp_dn, ↓zp_hV, ↓zp_hI, ↓zp_hL, ↓zp_hR, ↓zp_hX, zp_eV, zp_eI, zp_eL, zp_eR, zp_eX, zp_eXl, zp_iV, zp_iI, zp_iL, zp_iR, ↓zp_sm, ↓zp_nls, ↓zp_nln, zp_bo0, zp_bo1, zp_okE, zp_ok2E, zp_rfE, ↓reduceIte, if_true, if_false, zp_leT, zp_leF, zp_ltT, zp_ltF, zp_eqT, zp_eqF, zp_leTl, zp_leFl, zp_ltTl, zp_ltFl, zp_leTr, zp_leFr, zp_ltTr, zp_ltFr, zp_eqTr, zp_eqFr, zp_eqTl, zp_eqFl, zp_eqFll, eq_self, zp_addl, zp_addr, zp_mull, zp_mulr, zp_subr, zp_subl, nI_add, pk_mul, h0, inner, ze_X9_farthestFrom_22, em, if_pos hlt]
    · have em : zi_max (nI (zb_far 7 C s c)) (nI (zb_near 7 C s c C)) = nI (zb_far 7 C s c) := by rw [zi_max, if_neg (nI_nlt (by omega) (by omega))]
      simp (disch := omega) only [↓zp_dn, ↓zp_hV, ↓zp_hI, ↓zp_hL, ↓zp_hR, ↓zp_hX, zp_eV, zp_eI, zp_eL, zp_eR, zp_eX, zp_eXl, zp_iV, zp_iI, zp_iL, zp_iR, ↓zp_sm, ↓zp_nls, ↓zp_nln, zp_bo0, zp_bo1, zp_okE, zp_ok2E, zp_rfE, ↓reduceIte, if_true, if_false, zp_leT, zp_leF, zp_ltT, zp_ltF, zp_eqT, zp_eqF, zp_leTl, zp_leFl, zp_ltTl, zp_ltFl, zp_leTr, zp_leFr, zp_ltTr, zp_ltFr, zp_eqTr, zp_eqFr, zp_eqTl, zp_eqFl, zp_eqFll, eq_self, zp_addl, zp_addr, zp_mull, zp_mulr, zp_subr, zp_subl, nI_add, pk_mul, h0, inner, ze_X9_farthestFrom_22, em, if_neg hlt]
/-- the best set so far -/
def zb_f (n C : Nat) (acc : Option Nat) (s : Nat) : Option Nat := if zb_cnt s C = n then (match acc with
  | none => some s
  | some b => if zb_far 7 C s C < zb_far 7 C b C then some s else some b) else acc
def zb_l (n C : Nat) : Nat → Option Nat → Option Nat
  | 0, acc => acc
  | s + 1, acc => zb_l n C s (zb_f n C acc (s + 1))
def zb_v (N C : Nat) (acc : Option Nat) : Nat := match acc with
  | none => N
  | some s => zb_far 7 C s C
def zb_w (acc : Option Nat) : Nat := match acc with
  | none => 0
  | some s => s
theorem zb_some : ∀ C, C < 8 → 2 ≤ C → ∀ n, n < 5 → 1 ≤ n → n ≤ C → (zb_l n C (2 ^ C - 1) none).isSome = true := by decide +kernel
theorem zb_f_in {n C : Nat} {acc : Option Nat} {s : Nat} (hs : s < 2 ^ C) (h0 : 0 < s) (ha : ∀ b, acc = some b → b < 2 ^ C ∧ 0 < b ∧ zb_cnt b C = n) : ∀ b, zb_f n C acc s = some b → b < 2 ^ C ∧ 0 < b ∧ zb_cnt b C = n := by
  intro b hb
  unfold zb_f at hb
  by_cases hc : zb_cnt s C = n
  · rw [if_pos hc] at hb
    cases acc with
    | none => cases hb; exact ⟨hs, h0, hc⟩
    | some a =>
      simp only at hb
      split at hb
      · cases hb; exact ⟨hs, h0, hc⟩
      · exact ha b hb
  · rw [if_neg hc] at hb; exact ha b hb
theorem zb_l_in {n C : Nat} : ∀ (s : Nat) (acc : Option Nat), s < 2 ^ C → (∀ b, acc = some b → b < 2 ^ C ∧ 0 < b ∧ zb_cnt b C = n) → ∀ b, zb_l n C s acc = some b → b < 2 ^ C ∧ 0 < b ∧ zb_cnt b C = n := by
  intro s
  induction s with
  | zero => intro acc _ ha b hb; exact ha b hb
  | succ s ih => intro acc hs ha b hb; exact ih (zb_f n C acc (s + 1)) (by omega) (zb_f_in hs (by omega) ha) b hb
theorem zc_boatsL (d : Nat) {M : zi_M} {C n r : Nat} (hC2 : 2 ≤ C) (hC : C < 8) (h0 : M.1 0 0 1 = nI C) (hn : n ≤ 4) : ∀ (s : Nat) (acc : Option Nat), s < 2 ^ C → (∀ b, acc = some b → b < 2 ^ C ∧ 0 < b ∧ zb_cnt b C = n) → zi_run (d + 2) zm_X9_boats 72 [some (.inr (.inr (9, some 0))), some (.inl (nI n)), none, some (.inr (.inr (5, some r))), some (.inl (nI (zb_v 7 C acc))), some (.inl (nI (zb_w acc))), some (.inl (nI s)), none] [] M = zi_run (d + 2) zm_X9_boats 72 [some (.inr (.inr (9, some 0))), some (.inl (nI n)), none, some (.inr (.inr (5, some r))), some (.inl (nI (zb_v 7 C (zb_l n C s acc)))), some (.inl (nI (zb_w (zb_l n C s acc)))), some (.inl (nI 0)), none] [] M := by
  intro s
  have h7 : 2 ^ C ≤ 2 ^ 7 := Nat.pow_le_pow_right (by decide) (by omega)
  induction s with
  | zero => intro acc _ _; rfl
  | succ s ih =>
    intro acc hs ha
    rw [zb_l, ← ih (zb_f n C acc (s + 1)) (by omega) (zb_f_in hs (by omega) ha), ze_X9_boats_72]
    have hcl := zb_cnt_le (s + 1) C
    have em : nI (s + 1) + (-1) = nI s := pk_m1 s
    have hf6 := zb_far6 C hC (s + 1) hs (by omega)
    have hf7 := zb_far_le 7 C (s + 1) C
    by_cases hc : zb_cnt (s + 1) C = n
    · cases acc with
      | none =>
        have e : zb_f n C none (s + 1) = some (s + 1) := by simp only [zb_f, if_pos hc]
        rw [e]
        simp (disch := omega) only [↓zp_dn, ↓zp_hV, ↓zp_hI, ↓zp_hL, ↓zp_hR, ↓zp_hX, zp_eV, zp_eI, zp_eL, zp_eR, zp_eX, zp_eXl, zp_iV, zp_iI, zp_iL, zp_iR, ↓zp_sm, ↓zp_nls, ↓zp_nln, zp_bo0, zp_bo1, zp_okE, zp_ok2E, zp_rfE, ↓reduceIte, if_true, if_false, zp_leT, zp_leF, zp_ltT, zp_ltF, zp_eqT, zp_eqF, zp_leTl, zp_leFl, zp_ltTl, zp_ltFl, zp_leTr, zp_leFr, zp_ltTr, zp_ltFr, zp_eqTr, zp_eqFr, zp_eqTl, zp_eqFl, zp_eqFll, eq_self, zp_addl, zp_addr, zp_mull, zp_mulr, zp_subr, zp_subl, nI_add, pk_mul, zc_bitc7 _ _ hC hs, hc, zc_far _ hC2 hC h0 hs, zb_v, zb_w, ze_X9_boats_115, em]
      | some b =>
        have hb6 := zb_far_le 7 C b C
        by_cases hlt : zb_far 7 C (s + 1) C < zb_far 7 C b C
        · have e : zb_f n C (some b) (s + 1) = some (s + 1) := by simp only [zb_f, if_pos hc, if_pos hlt]
          rw [e]
          simp (disch := omega) only [↓zp_dn, ↓zp_hV, ↓zp_hI, ↓zp_hL, ↓zp_hR, ↓zp_hX, zp_eV, zp_eI, zp_eL, zp_eR, zp_eX, zp_eXl, zp_iV, zp_iI, zp_iL, zp_iR, ↓zp_sm, ↓zp_nls, ↓zp_nln, zp_bo0, zp_bo1, zp_okE, zp_ok2E, zp_rfE, ↓reduceIte, if_true, if_false, zp_leT, zp_leF, zp_ltT, zp_ltF, zp_eqT, zp_eqF, zp_leTl, zp_leFl, zp_ltTl, zp_ltFl, zp_leTr, zp_leFr, zp_ltTr, zp_ltFr, zp_eqTr, zp_eqFr, zp_eqTl, zp_eqFl, zp_eqFll, eq_self, zp_addl, zp_addr, zp_mull, zp_mulr, zp_subr, zp_subl, nI_add, pk_mul, zc_bitc7 _ _ hC hs, hc, zc_far _ hC2 hC h0 hs, zb_v, zb_w, ze_X9_boats_115, em]
        · have e : zb_f n C (some b) (s + 1) = some b := by simp only [zb_f, if_pos hc, if_neg hlt]
          rw [e]
          simp (disch := omega) only [↓zp_dn, ↓zp_hV, ↓zp_hI, ↓zp_hL, ↓zp_hR, ↓zp_hX, zp_eV, zp_eI, zp_eL, zp_eR, zp_eX, zp_eXl, zp_iV, zp_iI, zp_iL, zp_iR, ↓zp_sm, ↓zp_nls, ↓zp_nln, zp_bo0, zp_bo1, zp_okE, zp_ok2E, zp_rfE, ↓reduceIte, if_true, if_false, zp_leT, zp_leF, zp_ltT, zp_ltF, zp_eqT, zp_eqF, zp_leTl, zp_leFl, zp_ltTl, zp_ltFl, zp_leTr, zp_leFr, zp_ltTr, zp_ltFr, zp_eqTr, zp_eqFr, zp_eqTl, zp_eqFl, zp_eqFll, eq_self, zp_addl, zp_addr, zp_mull, zp_mulr, zp_subr, zp_subl, nI_add, pk_mul, zc_bitc7 _ _ hC hs, hc, zc_far _ hC2 hC h0 hs, zb_v, zb_w, ze_X9_boats_115, em]
    · have e : zb_f n C acc (s + 1) = acc := by simp only [zb_f, if_neg hc]
      rw [e]
      simp (disch := omega) only [↓zp_dn, ↓zp_hV, ↓zp_hI, ↓zp_hL, ↓zp_hR, ↓zp_hX, zp_eV, zp_eI, zp_eL, zp_eR, zp_eX, zp_eXl, zp_iV, zp_iI, zp_iL, zp_iR, ↓zp_sm, ↓zp_nls, ↓zp_nln, zp_bo0, zp_bo1, zp_okE, zp_ok2E, zp_rfE, ↓reduceIte, if_true, if_false, zp_leT, zp_leF, zp_ltT, zp_ltF, zp_eqT, zp_eqF, zp_leTl, zp_leFl, zp_ltTl, zp_ltFl, zp_leTr, zp_leFr, zp_ltTr, zp_ltFr, zp_eqTr, zp_eqFr, zp_eqTl, zp_eqFl, zp_eqFll, eq_self, zp_addl, zp_addr, zp_mull, zp_mulr, zp_subr, zp_subl, nI_add, pk_mul, zc_bitc7 _ _ hC hs, ze_X9_boats_115, em]
