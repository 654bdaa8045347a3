/-! THE PURE PART: post, the shares -/
def zs_sr (c i : Nat) : Nat := c / 4 ^ (3 - i) % 4
theorem zs_sr4 (c i : Nat) : zs_sr c i < 4 := Nat.mod_lt _ (by decide)
theorem zs_shr : ∀ c, c < 256 → ∀ i, i < 4 → ((nI c >>> ((nI (2 * (3 - i))) &&& 31)) &&& 3) = nI (zs_sr c i) := by decide +kernel
def zs_pos (v : Nat) : Nat := if v = 0 then 0 else 1
def zs_sm (c : Nat) : Nat → Nat
  | 0 => 0
  | i + 1 => zs_sm c i + zs_sr c i
def zs_cr (c : Nat) : Nat → Nat
  | 0 => 0
  | i + 1 => zs_cr c i + zs_pos (zs_sr c i)
theorem zs_sm_le (c i : Nat) : zs_sm c i ≤ 3 * i := by
  induction i with
  | zero => exact Nat.le_refl 0
  | succ i ih => have := zs_sr4 c i; simp only [zs_sm]; omega
theorem zs_cr_le (c i : Nat) : zs_cr c i ≤ i := by
  induction i with
  | zero => exact Nat.le_refl 0
  | succ i ih => simp only [zs_cr, zs_pos]; split <;> omega
def zs_gd (m : Nat → Nat) (c : Nat) : Nat → Bool
  | 0 => true
  | i + 1 => zs_gd m c i && decide (zs_sr c i ≤ m i)
theorem zc_carS (d : Nat) {M : zi_M} {m : Nat → Nat} (hm : ∀ j, j < 4 → m j ≤ 3) (hl : ∀ j, j < 4 → M.1 23 0 j = nI (zs_lb (m j))) {c : Nat} (hc : c < 256) (n : Int32) {i : Nat} (hi : i < 4) : zi_run (d + 1) zm_X9_carriersOf 8 [some (.inr (.inr (9, some 0))), some (.inl (nI c)), some (.inl n), some (.inl (nI (zs_cr c i))), some (.inl (nI (zs_sm c i))), some (.inl (nI i)), none] [] M = if zs_sr c i ≤ m i then zi_run (d + 1) zm_X9_carriersOf 8 [some (.inr (.inr (9, some 0))), some (.inl (nI c)), some (.inl n), some (.inl (nI (zs_cr c (i + 1)))), some (.inl (nI (zs_sm c (i + 1)))), some (.inl (nI (i + 1))), none] [] M else some (some (.inl (-9)), M) := by
  have h4 := zs_sr4 c i
  have hb := zs_bit (m i) (by have := hm i hi; omega) (zs_sr c i) h4
  rw [ze_X9_carriersOf_8]
  by_cases h : zs_sr c i ≤ m i
  · have hb' : ¬ (((nI (zs_lb (m i))) >>> ((nI (zs_sr c i)) &&& 31)) &&& 1) = 0 := fun q => by have := hb.mp q; omega
    rw [if_pos h]
    by_cases h0 : zs_sr c i = 0
    · simp (disch := omega) only [↓zp_dn, ↓zp_hV, ↓zp_hI, ↓zp_hL, ↓zp_hR, ↓zp_hX, zp_eV, zp_eI, zp_eL, zp_eR, zp_eX, zp_eXl, zp_iV, zp_iI, zp_iL, zp_iR, ↓zp_sm, ↓zp_nls, ↓zp_nln, zp_bo0, zp_bo1, zp_okE, zp_ok2E, zp_rfE, ↓reduceIte, if_true, if_false, zp_leT, zp_leF, zp_ltT, zp_ltF, zp_eqT, zp_eqF, zp_leTl, zp_leFl, zp_ltTl, zp_ltFl, zp_leTr, zp_leFr, zp_ltTr, zp_ltFr, zp_eqTr, zp_eqFr, zp_eqTl, zp_eqFl, zp_eqFll, eq_self, zp_addl, zp_addr, zp_mull, zp_mulr, zp_subr, zp_subl, nI_add, pk_mul, ze_X9_shareOf_0, zs_shr c hc i hi, hl i hi, if_neg hb', ze_X9_carriersOf_55, zs_sm, zs_cr, zs_pos, if_pos h0, Nat.add_zero]
    · simp (disch := omega) only [↓zp_dn, ↓zp_hV, ↓zp_hI, ↓zp_hL, ↓zp_hR, ↓zp_hX, zp_eV, zp_eI, zp_eL, zp_eR, zp_eX, zp_eXl, zp_iV, zp_iI, zp_iL, zp_iR, ↓zp_sm, ↓zp_nls, ↓zp_nln, zp_bo0, zp_bo1, zp_okE, zp_ok2E, zp_rfE, ↓reduceIte, if_true, if_false, zp_leT, zp_leF, zp_ltT, zp_ltF, zp_eqT, zp_eqF, zp_leTl, zp_leFl, zp_ltTl, zp_ltFl, zp_leTr, zp_leFr, zp_ltTr, zp_ltFr, zp_eqTr, zp_eqFr, zp_eqTl, zp_eqFl, zp_eqFll, eq_self, zp_addl, zp_addr, zp_mull, zp_mulr, zp_subr, zp_subl, nI_add, pk_mul, ze_X9_shareOf_0, zs_shr c hc i hi, hl i hi, if_neg hb', ze_X9_carriersOf_55, zs_sm, zs_cr, zs_pos, if_neg h0]
  · have hb' := hb.mpr (by omega)
    rw [if_neg h]
    simp (disch := omega) only [↓zp_dn, ↓zp_hV, ↓zp_hI, ↓zp_hL, ↓zp_hR, ↓zp_hX, zp_eV, zp_eI, zp_eL, zp_eR, zp_eX, zp_eXl, zp_iV, zp_iI, zp_iL, zp_iR, ↓zp_sm, ↓zp_nls, ↓zp_nln, zp_bo0, zp_bo1, zp_okE, zp_ok2E, zp_rfE, ↓reduceIte, if_true, if_false, zp_leT, zp_leF, zp_ltT, zp_ltF, zp_eqT, zp_eqF, zp_leTl, zp_leFl, zp_ltTl, zp_ltFl, zp_leTr, zp_leFr, zp_ltTr, zp_ltFr, zp_eqTr, zp_eqFr, zp_eqTl, zp_eqFl, zp_eqFll, eq_self, zp_addl, zp_addr, zp_mull, zp_mulr, zp_subr, zp_subl, nI_add, pk_mul, ze_X9_shareOf_0, zs_shr c hc i hi, hl i hi, if_pos hb']
theorem zc_car (d : Nat) {M : zi_M} {m : Nat → Nat} (hm : ∀ j, j < 4 → m j ≤ 3) (hl : ∀ j, j < 4 → M.1 23 0 j = nI (zs_lb (m j))) {c n : Nat} (hc : c < 256) (hn : n ≤ 12) : zi_run (d + 1) zm_X9_carriersOf 0 [some (.inr (.inr (9, some 0))), some (.inl (nI c)), some (.inl (nI n)), none, none, none, none] [] M = some (some (.inl (if zs_gd m c 4 = true ∧ zs_sm c 4 = n then nI (zs_cr c 4) else -9)), M) := by
  have hsm := zs_sm_le c 4
  rw [ze_X9_carriersOf_0]
  have s0 := zc_carS d hm hl hc (nI n) (i := 0) (by omega)
  have s1 := zc_carS d hm hl hc (nI n) (i := 1) (by omega)
  have s2 := zc_carS d hm hl hc (nI n) (i := 2) (by omega)
  have s3 := zc_carS d hm hl hc (nI n) (i := 3) (by omega)
  have s4 : zi_run (d + 1) zm_X9_carriersOf 8 [some (.inr (.inr (9, some 0))), some (.inl (nI c)), some (.inl (nI n)), some (.inl (nI (zs_cr c 4))), some (.inl (nI (zs_sm c 4))), some (.inl (nI 4)), none] [] M = if zs_sm c 4 = n then some (some (.inl (nI (zs_cr c 4))), M) else some (some (.inl (-9)), M) := by
    rw [ze_X9_carriersOf_8]
    by_cases h : zs_sm c 4 = n
    · rw [if_pos h]; simp (disch := omega) only [↓zp_dn, ↓zp_hV, ↓zp_hI, ↓zp_hL, ↓zp_hR, ↓zp_hX, zp_eV, zp_eI, zp_eL, zp_eR, zp_eX, zp_eXl, zp_iV, zp_iI, zp_iL, zp_iR, ↓zp_sm, ↓zp_nls, ↓zp_nln, zp_bo0, zp_bo1, zp_okE, zp_ok2E, zp_rfE, ↓reduceIte, if_true, if_false, zp_leT, zp_leF, zp_ltT, zp_ltF, zp_eqT, zp_eqF, zp_leTl, zp_leFl, zp_ltTl, zp_ltFl, zp_leTr, zp_leFr, zp_ltTr, zp_ltFr, zp_eqTr, zp_eqFr, zp_eqTl, zp_eqFl, zp_eqFll, eq_self, zp_addl, zp_addr, zp_mull, zp_mulr, zp_subr, zp_subl, nI_add, pk_mul, h]
    · rw [if_neg h]; simp (disch := omega) only [↓zp_dn, ↓zp_hV, ↓zp_hI, ↓zp_hL, ↓zp_hR, ↓zp_hX, zp_eV, zp_eI, zp_eL, zp_eR, zp_eX, zp_eXl, zp_iV, zp_iI, zp_iL, zp_iR, ↓zp_sm, ↓zp_nls, ↓zp_nln, zp_bo0, zp_bo1, zp_okE, zp_ok2E, zp_rfE, ↓reduceIte, if_true, if_false, zp_leT, zp_leF, zp_ltT, zp_ltF, zp_eqT, zp_eqF, zp_leTl, zp_leFl, zp_ltTl, zp_ltFl, zp_leTr, zp_leFr, zp_ltTr, zp_ltFr, zp_eqTr, zp_eqFr, zp_eqTl, zp_eqFl, zp_eqFll, eq_self, zp_addl, zp_addr, zp_mull, zp_mulr, zp_subr, zp_subl, nI_add, pk_mul]
  refine Eq.trans (b := zi_run (d + 1) zm_X9_carriersOf 8 [some (.inr (.inr (9, some 0))), some (.inl (nI c)), some (.inl (nI n)), some (.inl (nI (zs_cr c 0))), some (.inl (nI (zs_sm c 0))), some (.inl (nI 0)), none] [] M) rfl ?_
  rw [s0]
  by_cases h0 : zs_sr c 0 ≤ m 0
  · rw [if_pos h0, s1]
    by_cases h1 : zs_sr c 1 ≤ m 1
    · rw [if_pos h1, s2]
      by_cases h2 : zs_sr c 2 ≤ m 2
      · rw [if_pos h2, s3]
        by_cases h3 : zs_sr c 3 ≤ m 3
        · rw [if_pos h3, s4]
          have hg : zs_gd m c 4 = true := by simp [zs_gd, h0, h1, h2, h3]
          by_cases h : zs_sm c 4 = n
          · rw [if_pos h, if_pos ⟨hg, h⟩]
          · rw [if_neg h, if_neg (fun q => h q.2)]
        · rw [if_neg h3, if_neg (fun q => h3 (by have := q.1; simp [zs_gd] at this; omega))]
      · rw [if_neg h2, if_neg (fun q => h2 (by have := q.1; simp [zs_gd] at this; omega))]
    · rw [if_neg h1, if_neg (fun q => h1 (by have := q.1; simp [zs_gd] at this; omega))]
  · rw [if_neg h0, if_neg (fun q => h0 (by have := q.1; simp [zs_gd] at this; omega))]
/-- the best shares so far -/
def zs_pf (m : Nat → Nat) (n : Nat) (acc : Option Nat) (c : Nat) : Option Nat := if zs_gd m c 4 = true ∧ zs_sm c 4 = n then (match acc with
  | none => some c
  | some b => if zs_cr c 4 < zs_cr b 4 then some c else some b) else acc
def zs_pl (m : Nat → Nat) (n : Nat) : Nat → Nat → Option Nat → Option Nat
  | _, 0, acc => acc
  | c, k + 1, acc => zs_pl m n (c + 1) k (zs_pf m n acc c)
def zs_p4 (acc : Option Nat) : Int32 := match acc with
  | none => -9
  | some c => nI (zs_cr c 4)
def zs_p5 (acc : Option Nat) : Int32 := match acc with
  | none => 0
  | some c => nI c
theorem zc_post80 (d : Nat) {M : zi_M} {m : Nat → Nat} (hm : ∀ j, j < 4 → m j ≤ 3) (hl : ∀ j, j < 4 → M.1 23 0 j = nI (zs_lb (m j))) {n : Nat} (hn : n ≤ 12) (r : Nat) : ∀ (k c : Nat) (acc : Option Nat), c + k = 256 → zi_run (d + 2) zm_X9_post 80 [some (.inr (.inr (9, some 0))), some (.inl (nI n)), none, some (.inr (.inr (5, some r))), some (.inl (zs_p4 acc)), some (.inl (zs_p5 acc)), some (.inl (nI c)), none] [] M = zi_run (d + 2) zm_X9_post 80 [some (.inr (.inr (9, some 0))), some (.inl (nI n)), none, some (.inr (.inr (5, some r))), some (.inl (zs_p4 (zs_pl m n c k acc))), some (.inl (zs_p5 (zs_pl m n c k acc))), some (.inl (nI 256)), none] [] M := by
  intro k
  induction k with
  | zero => intro c acc hc; rw [show c = 256 from by omega]; rfl
  | succ k ih =>
    intro c acc hc
    rw [zs_pl, ← ih (c + 1) (zs_pf m n acc c) (by omega), ze_X9_post_80]
    have hcr := zs_cr_le c 4
    have h1 : zi_run (d + 1) zm_X9_carriersOf 0 [some (.inr (.inr (9, some 0))), some (.inl (nI c)), some (.inl (nI n)), none, none, none, none] [] M = _ := zc_car d hm hl (by omega) hn
    by_cases hg : zs_gd m c 4 = true ∧ zs_sm c 4 = n
    · rw [if_pos hg] at h1
      cases acc with
      | none =>
        have e : zs_pf m n none c = some c := by simp only [zs_pf, if_pos hg]
        rw [e]
        simp (disch := omega) only [↓zp_dn, ↓zp_hV, ↓zp_hI, ↓zp_hL, ↓zp_hR, ↓zp_hX, zp_eV, zp_eI, zp_eL, zp_eR, zp_eX, zp_eXl, zp_iV, zp_iI, zp_iL, zp_iR, ↓zp_sm, ↓zp_nls, ↓zp_nln, zp_bo0, zp_bo1, zp_okE, zp_ok2E, zp_rfE, ↓reduceIte, if_true, if_false, zp_leT, zp_leF, zp_ltT, zp_ltF, zp_eqT, zp_eqF, zp_leTl, zp_leFl, zp_ltTl, zp_ltFl, zp_leTr, zp_leFr, zp_ltTr, zp_ltFr, zp_eqTr, zp_eqFr, zp_eqTl, zp_eqFl, zp_eqFll, eq_self, zp_addl, zp_addr, zp_mull, zp_mulr, zp_subr, zp_subl, nI_add, pk_mul, h1, zs_p4, zs_p5, zp_e9, ze_X9_post_121, ze_X9_post_129]
      | some b =>
        have hbr := zs_cr_le b 4
        by_cases hlt : zs_cr c 4 < zs_cr b 4
        · have e : zs_pf m n (some b) c = some c := by simp only [zs_pf, if_pos hg, if_pos hlt]
          rw [e]
          simp (disch := omega) only [↓zp_dn, ↓zp_hV, ↓zp_hI, ↓zp_hL, ↓zp_hR, ↓zp_hX, zp_eV, zp_eI, zp_eL, zp_eR, zp_eX, zp_eXl, zp_iV, zp_iI, zp_iL, zp_iR, ↓zp_sm, ↓zp_nls, ↓zp_nln, zp_bo0, zp_bo1, zp_okE, zp_ok2E, zp_rfE, ↓reduceIte, if_true, if_false, zp_leT, zp_leF, zp_ltT, zp_ltF, zp_eqT, zp_eqF, zp_leTl, zp_leFl, zp_ltTl, zp_ltFl, zp_leTr, zp_leFr, zp_ltTr, zp_ltFr, zp_eqTr, zp_eqFr, zp_eqTl, zp_eqFl, zp_eqFll, eq_self, zp_addl, zp_addr, zp_mull, zp_mulr, zp_subr, zp_subl, nI_add, pk_mul, h1, zs_p4, zs_p5, zp_e9, ze_X9_post_121, ze_X9_post_129]
        · have e : zs_pf m n (some b) c = some b := by simp only [zs_pf, if_pos hg, if_neg hlt]
          rw [e]
          simp (disch := omega) only [↓zp_dn, ↓zp_hV, ↓zp_hI, ↓zp_hL, ↓zp_hR, ↓zp_hX, zp_eV, zp_eI, zp_eL, zp_eR, zp_eX, zp_eXl, zp_iV, zp_iI, zp_iL, zp_iR, ↓zp_sm, ↓zp_nls, ↓zp_nln, zp_bo0, zp_bo1, zp_okE, zp_ok2E, zp_rfE, ↓reduceIte, if_true, if_false, zp_leT, zp_leF, zp_ltT, zp_ltF, zp_eqT, zp_eqF, zp_leTl, zp_leFl, zp_ltTl, zp_ltFl, zp_leTr, zp_leFr, zp_ltTr, zp_ltFr, zp_eqTr, zp_eqFr, zp_eqTl, zp_eqFl, zp_eqFll, eq_self, zp_addl, zp_addr, zp_mull, zp_mulr, zp_subr, zp_subl, nI_add, pk_mul, h1, zs_p4, zs_p5, zp_e9, ze_X9_post_129]
    · rw [if_neg hg] at h1
      have e : zs_pf m n acc c = acc := by simp only [zs_pf, if_neg hg]
      rw [e]
      simp (disch := omega) only [↓zp_dn, ↓zp_hV, ↓zp_hI, ↓zp_hL, ↓zp_hR, ↓zp_hX, zp_eV, zp_eI, zp_eL, zp_eR, zp_eX, zp_eXl, zp_iV, zp_iI, zp_iL, zp_iR, ↓zp_sm, ↓zp_nls, ↓zp_nln, zp_bo0, zp_bo1, zp_okE, zp_ok2E, zp_rfE, ↓reduceIte, if_true, if_false, zp_leT, zp_leF, zp_ltT, zp_ltF, zp_eqT, zp_eqF, zp_leTl, zp_leFl, zp_ltTl, zp_ltFl, zp_leTr, zp_leFr, zp_ltTr, zp_ltFr, zp_eqTr, zp_eqFr, zp_eqTl, zp_eqFl, zp_eqFll, eq_self, zp_addl, zp_addr, zp_mull, zp_mulr, zp_subr, zp_subl, nI_add, pk_mul, h1, ze_X9_post_129]
/-- a share row as a WAY -/
def zs_wv (k c : Nat) : zw_w := (List.range k).map (fun j => (zs_sr c j, (0, 0, 0, 0, 0, 0)))
theorem zs_wv_len (k c : Nat) : (zs_wv k c).length = k := by simp [zs_wv]
theorem zs_wv_at {k c j : Nat} {q : Nat × zf_S} (h : (zs_wv k c)[j]? = some q) : j < k ∧ q.1 = zs_sr c j := by
  have hj := (List.getElem?_eq_some_iff.mp h).1
  rw [zs_wv_len] at hj
  refine ⟨hj, ?_⟩
  simp only [zs_wv, List.getElem?_map] at h
  rw [List.getElem?_range hj] at h
  cases h; rfl
theorem zc_wrSh (d : Nat) {M : zi_M} {k c r : Nat} (hk : k ≤ 4) (h6 : M.1 6 0 4 = nI k) (hc : c < 256) (hr : r < 6) : zi_run (d + 2) zm_X9_writeShares 0 [some (.inr (.inr (9, some 0))), some (.inl (nI c)), some (.inr (.inr (5, some r))), none] [] M = some (none, zp_w (zi_sI M 5 r 1 (nI k)) 12 r (fun j => if j < k then nI (zs_sr c j) else M.1 12 r j)) := by
  rw [ze_X9_writeShares_0]
  simp (disch := omega) only [↓zp_dn, ↓zp_hV, ↓zp_hI, ↓zp_hL, ↓zp_hR, ↓zp_hX, zp_eV, zp_eI, zp_eL, zp_eR, zp_eX, zp_eXl, zp_iV, zp_iI, zp_iL, zp_iR, ↓zp_sm, ↓zp_nls, ↓zp_nln, zp_bo0, zp_bo1, zp_okE, zp_ok2E, zp_rfE, ↓reduceIte, if_true, if_false, zp_leT, zp_leF, zp_ltT, zp_ltF, zp_eqT, zp_eqF, zp_leTl, zp_leFl, zp_ltTl, zp_ltFl, zp_leTr, zp_leFr, zp_ltTr, zp_ltFr, zp_eqTr, zp_eqFr, zp_eqTl, zp_eqFl, zp_eqFll, eq_self, zp_addl, zp_addr, zp_mull, zp_mulr, zp_subr, zp_subl, nI_add, pk_mul, h6, zl_make _ r k 40 0 M (zp_ln r hr) (by omega) (by decide)]
  refine Eq.trans ?_ (zp_for (fun i => zi_run (d + 2) zm_X9_writeShares 14 [some (.inr (.inr (9, some 0))), some (.inl (nI c)), some (.inr (.inr (5, some r))), some (.inl (nI i))] [] (zp_w (zi_sI M 5 r 1 (nI k)) 12 r (fun j => if j < i then nI (zs_sr c j) else if j < k then 0 else M.1 12 r j))) k (some (none, zp_w (zi_sI M 5 r 1 (nI k)) 12 r (fun j => if j < k then nI (zs_sr c j) else M.1 12 r j))) ?_ ?_ 0 (Nat.zero_le _))
  · simp only [Nat.not_lt_zero, if_false]; rfl
  · rw [ze_X9_writeShares_14]
    simp (disch := omega) only [↓zp_dn, ↓zp_hV, ↓zp_hI, ↓zp_hL, ↓zp_hR, ↓zp_hX, zp_eV, zp_eI, zp_eL, zp_eR, zp_eX, zp_eXl, zp_iV, zp_iI, zp_iL, zp_iR, ↓zp_sm, ↓zp_nls, ↓zp_nln, zp_bo0, zp_bo1, zp_okE, zp_ok2E, zp_rfE, ↓reduceIte, if_true, if_false, zp_leT, zp_leF, zp_ltT, zp_ltF, zp_eqT, zp_eqF, zp_leTl, zp_leFl, zp_ltTl, zp_ltFl, zp_leTr, zp_leFr, zp_ltTr, zp_ltFr, zp_eqTr, zp_eqFr, zp_eqTl, zp_eqFl, zp_eqFll, eq_self, zp_addl, zp_addr, zp_mull, zp_mulr, zp_subr, zp_subl, nI_add, pk_mul, zp_w1, zp_sI1, Nat.reduceEqDiff, Nat.reduceLT, Nat.reduceLeDiff, Nat.reduceAdd, Nat.reduceMul, Nat.reduceSub, reduceCtorEq, Int32.reduceLT, Int32.reduceLE, not_true_eq_false, not_false_eq_true, and_true, true_and, and_false, false_and, or_true, true_or, or_false, false_or, h6]
    congr 2
    refine zp_wU _ _ _ (fun j => ?_)
    by_cases e : j < k <;> simp [e]
  · intro i hi
    rw [ze_X9_writeShares_14]
    simp (disch := omega) only [↓zp_dn, ↓zp_hV, ↓zp_hI, ↓zp_hL, ↓zp_hR, ↓zp_hX, zp_eV, zp_eI, zp_eL, zp_eR, zp_eX, zp_eXl, zp_iV, zp_iI, zp_iL, zp_iR, ↓zp_sm, ↓zp_nls, ↓zp_nln, zp_bo0, zp_bo1, zp_okE, zp_ok2E, zp_rfE, ↓reduceIte, if_true, if_false, zp_leT, zp_leF, zp_ltT, zp_ltF, zp_eqT, zp_eqF, zp_leTl, zp_leFl, zp_ltTl, zp_ltFl, zp_leTr, zp_leFr, zp_ltTr, zp_ltFr, zp_eqTr, zp_eqFr, zp_eqTl, zp_eqFl, zp_eqFll, eq_self, zp_addl, zp_addr, zp_mull, zp_mulr, zp_subr, zp_subl, nI_add, pk_mul, ze_X9_shareOf_0, zs_shr c hc i (by omega), ze_X5_set_0, ze_X5_has_0, zp_ln r hr, zp_ofn, zp_w1, zp_sI1, Nat.reduceEqDiff, Nat.reduceLT, Nat.reduceLeDiff, Nat.reduceAdd, Nat.reduceMul, Nat.reduceSub, reduceCtorEq, Int32.reduceLT, Int32.reduceLE, not_true_eq_false, not_false_eq_true, and_true, true_and, and_false, false_and, or_true, true_or, or_false, false_or, h6]
    rw [zp_wsI]
    congr 1
    refine zp_wU _ _ _ (fun j => ?_)
    by_cases h1 : j = i
    · subst h1; simp
    · by_cases h2 : j < i
      · simp [h1, h2, Nat.lt_succ_of_lt h2]
      · simp [h1, h2, show ¬ j < i + 1 from by omega]
