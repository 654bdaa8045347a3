/-! THE PURE PART: reading a SKY: over plain numbers; the class, its AIR -/
def zx_ai (c : Int32) : Option Nat := if 46 = c then some 0 else if 99 = c then some 1 else if 115 = c then some 2 else if 103 = c then some 3 else if 62 = c then some 4 else if 35 = c then some 5 else none
def zx_ki (c : Int32) : Option Nat := if 102 = c then some 0 else if 111 = c then some 1 else if 98 = c then some 2 else if 108 = c then some 3 else if 110 = c then some 4 else if 97 = c then some 5 else none
def zx_o (o : Option Nat) : Int32 := match o with | some a => nI a | none => -1
def zx_g (f : Nat → Int32) (n p : Nat) : Int32 := if p < n then f p else 1000
theorem zx_ai_lt {c : Int32} {a : Nat} (h : zx_ai c = some a) : a < 6 := by
  unfold zx_ai at h
  repeat' split at h
  all_goals first | (cases h; omega) | cases h
theorem zx_ki_lt {c : Int32} {a : Nat} (h : zx_ki c = some a) : a < 6 := by
  unfold zx_ki at h
  repeat' split at h
  all_goals first | (cases h; omega) | cases h
/-- blanks -/
def zx_sk (g : Nat → Int32) : Nat → Nat → Nat
  | 0, p => p
  | k + 1, p => if g p = 32 then zx_sk g k (p + 1) else p
/-- how many signs of AIR stand there -/
def zx_w (g : Nat → Int32) : Nat → Nat → Nat
  | 0, _ => 0
  | k + 1, p => if (zx_ai (g p)).isSome then zx_w g k (p + 1) + 1 else 0
theorem zx_w_le (g : Nat → Int32) : ∀ k p, zx_w g k p ≤ k := by
  intro k
  induction k with
  | zero => intro p; exact Nat.le_refl 0
  | succ k ih =>
    intro p
    unfold zx_w
    have := ih (p + 1)
    split <;> omega
/-- the AIR: is it one, the place, COLUMNS, HEIGHTS -/
def zx_L (g : Nat → Int32) : Nat → Nat → Nat → Nat → Bool × Nat × Nat × Nat
  | 0, h, p, w => (false, p, w, h)
  | k + 1, h, p, w =>
    if zx_w g (if h = 0 then 7 else w) p < 2 ∨ (h ≠ 0 ∧ zx_w g (if h = 0 then 7 else w) p ≠ w) then (false, p + zx_w g (if h = 0 then 7 else w) p, w, h)
    else if g (p + zx_w g (if h = 0 then 7 else w) p) = 61 then (true, p + zx_w g (if h = 0 then 7 else w) p + 1, zx_w g (if h = 0 then 7 else w) p, h + 1)
    else if g (p + zx_w g (if h = 0 then 7 else w) p) = 47 ∧ h ≠ 4 then zx_L g k (h + 1) (p + zx_w g (if h = 0 then 7 else w) p + 1) (zx_w g (if h = 0 then 7 else w) p)
    else (false, p + zx_w g (if h = 0 then 7 else w) p, w, h)
/-- the text that the class reads -/
def zx_tc (M : zi_M) (t n : Nat) (f : Nat → Int32) : Prop := M.2.2 4 0 2 = some (6 + t) ∧ M.1 5 (6 + t) 1 = nI n ∧ (∀ j, M.1 12 (6 + t) j = f j) ∧ M.1 91 0 0 = 46 ∧ M.1 91 0 1 = 99 ∧ M.1 91 0 2 = 115 ∧ M.1 91 0 3 = 103 ∧ M.1 91 0 4 = 62 ∧ M.1 91 0 5 = 35 ∧ M.1 92 0 0 = 102 ∧ M.1 92 0 1 = 111 ∧ M.1 92 0 2 = 98 ∧ M.1 92 0 3 = 108 ∧ M.1 92 0 4 = 110 ∧ M.1 92 0 5 = 97
/-- what a reading class may leave behind -/
def zx_fr (M M' : zi_M) : Prop := M'.2 = M.2 ∧ ∀ c k j, ¬ (c = 4) → ¬ (c = 0 ∧ k = 1) → ¬ (c = 11 ∧ k = 1) → ¬ (c = 6 ∧ k = 4 ∧ j ≠ 6) → ¬ (c = 1 ∧ 16 ≤ k) → ¬ (c = 7 ∧ 16 ≤ k ∧ k < 20) → M'.1 c k j = M.1 c k j
theorem zx_fr_rfl (M : zi_M) : zx_fr M M := ⟨rfl, fun _ _ _ _ _ _ _ _ _ => rfl⟩
theorem zx_fr_tr {M M1 M2 : zi_M} (h : zx_fr M M1) (h2 : zx_fr M1 M2) : zx_fr M M2 := ⟨h2.1.trans h.1, fun c k j a b e f g i => (h2.2 c k j a b e f g i).trans (h.2 c k j a b e f g i)⟩
theorem zx_fr_nb {M M' : zi_M} (h : zx_fr M M') : zq_nb M M' := fun c k j e => by
  refine h.2 c k j (fun a => e (by rw [a]; simp [zq_gp])) (fun a => e (by rw [a.1, a.2]; simp [zq_gp])) (fun a => e (by rw [a.1, a.2]; simp [zq_gp])) (fun a => e (by rw [a.1, a.2.1]; simp [zq_gp, a.2.2])) (fun a => e (by rw [a.1]; simp [zq_gp, show ¬ k < 4 from by omega, show ¬ k < 16 from by omega])) (fun a => e (by rw [a.1]; exact zq_g7n (by omega) (by omega) j))
theorem zx_fr_I {M M1 : zi_M} (h : zx_fr M M1) {c k s : Nat} (hc : c = 4 ∨ (c = 0 ∧ k = 1) ∨ (c = 11 ∧ k = 1) ∨ (c = 6 ∧ k = 4 ∧ s ≠ 6) ∨ (c = 1 ∧ 16 ≤ k) ∨ (c = 7 ∧ 16 ≤ k ∧ k < 20)) (x : Int32) : zx_fr M (zi_sI M1 c k s x) := ⟨h.1, fun c' k' j a b e f g i => by
  rw [zp_sI1]
  by_cases h1 : c' = c
  · by_cases h2 : k' = k
    · by_cases h3 : j = s
      · subst h1; subst h2; subst h3
        rcases hc with q | q | q | q | q | q
        · exact absurd q a
        · exact absurd q b
        · exact absurd q e
        · exact absurd q f
        · exact absurd q g
        · exact absurd q i
      · rw [if_pos h1, if_pos h2, if_neg h3]; exact h.2 c' k' j a b e f g i
    · rw [if_pos h1, if_neg h2, ite_self]; exact h.2 c' k' j a b e f g i
  · rw [if_neg h1]; exact h.2 c' k' j a b e f g i⟩
theorem zx_tc_fr {M M' : zi_M} {t n : Nat} {f : Nat → Int32} (h : zx_fr M M') (hT : zx_tc M t n f) : zx_tc M' t n f := by
  have e : ∀ c k j, c = 5 ∨ c = 12 ∨ c = 91 ∨ c = 92 → M'.1 c k j = M.1 c k j := fun c k j hc => h.2 c k j (by omega) (by omega) (by omega) (by omega) (by omega) (by omega)
  obtain ⟨a, b, c, d0, d1, d2, d3, d4, d5, e0, e1, e2, e3, e4, e5⟩ := hT
  exact ⟨by rw [h.1]; exact a, by rw [e 5 _ _ (by omega)]; exact b, fun j => by rw [e 12 _ _ (by omega)]; exact c j, by rw [e 91 _ _ (by omega)]; exact d0, by rw [e 91 _ _ (by omega)]; exact d1, by rw [e 91 _ _ (by omega)]; exact d2, by rw [e 91 _ _ (by omega)]; exact d3, by rw [e 91 _ _ (by omega)]; exact d4, by rw [e 91 _ _ (by omega)]; exact d5, by rw [e 92 _ _ (by omega)]; exact e0, by rw [e 92 _ _ (by omega)]; exact e1, by rw [e 92 _ _ (by omega)]; exact e2, by rw [e 92 _ _ (by omega)]; exact e3, by rw [e 92 _ _ (by omega)]; exact e4, by rw [e 92 _ _ (by omega)]; exact e5⟩
theorem zc_here (d : Nat) {M : zi_M} {t n : Nat} {f : Nat → Int32} (hT : zx_tc M t n f) (hn : n ≤ 80) {p : Nat} (hp : M.1 4 0 3 = nI p) (hp8 : p ≤ 1000) : zi_run (d + 1) zm_X4_here 0 [some (.inr (.inr (4, some 0)))] [] M = some (some (.inl (zx_g f n p)), M) := by
  obtain ⟨a, b, c, _⟩ := hT
  rw [ze_X4_here_0, zx_g]
  by_cases h : p < n
  · simp (disch := omega) only [↓zp_dn, ↓zp_hV, ↓zp_hI, ↓zp_hL, ↓zp_hR, ↓zp_hX, zp_eV, zp_eI, zp_eL, zp_eR, zp_eX, zp_eXl, zp_iV, zp_iI, zp_iL, zp_iR, ↓zp_sm, ↓zp_nls, ↓zp_nln, zp_bo0, zp_bo1, zp_okE, zp_ok2E, zp_rfE, ↓reduceIte, if_true, if_false, zp_leT, zp_leF, zp_ltT, zp_ltF, zp_eqT, zp_eqF, zp_leTl, zp_leFl, zp_ltTl, zp_ltFl, zp_leTr, zp_leFr, zp_ltTr, zp_ltFr, zp_eqTr, zp_eqFr, zp_eqTl, zp_eqFl, zp_eqFll, eq_self, zp_addl, zp_addr, zp_mull, zp_mulr, zp_subr, zp_subl, nI_add, pk_mul, a, hp, ze_X5_has_0, b, zp_ln6, zp_ofn, zp_1n0, zl_get _ (6 + t) p n 80 M (zp_ln6 t) b h hn (by decide), c, if_pos h]
  · simp (disch := omega) only [↓zp_dn, ↓zp_hV, ↓zp_hI, ↓zp_hL, ↓zp_hR, ↓zp_hX, zp_eV, zp_eI, zp_eL, zp_eR, zp_eX, zp_eXl, zp_iV, zp_iI, zp_iL, zp_iR, ↓zp_sm, ↓zp_nls, ↓zp_nln, zp_bo0, zp_bo1, zp_okE, zp_ok2E, zp_rfE, ↓reduceIte, if_true, if_false, zp_leT, zp_leF, zp_ltT, zp_ltF, zp_eqT, zp_eqF, zp_leTl, zp_leFl, zp_ltTl, zp_ltFl, zp_leTr, zp_leFr, zp_ltTr, zp_ltFr, zp_eqTr, zp_eqFr, zp_eqTl, zp_eqFl, zp_eqFll, eq_self, zp_addl, zp_addr, zp_mull, zp_mulr, zp_subr, zp_subl, nI_add, pk_mul, a, hp, ze_X5_has_0, b, zp_ln6, zp_ofn, if_neg h]
theorem zc_plA (d : Nat) {M : zi_M} {t n : Nat} {f : Nat → Int32} (hT : zx_tc M t n f) (c : Int32) : zi_run d zm_X4_placeOf 0 [some (.inl c), some (.inr (.inr (91, some 0))), none] [] M = some (some (.inl (zx_o (zx_ai c))), M) := by
  obtain ⟨_, _, _, d0, d1, d2, d3, d4, d5, _⟩ := hT
  rw [ze_X4_placeOf_0_91, ze_X4_placeOf_2_91, zx_ai]
  by_cases h0 : 46 = c
  · simp (disch := omega) only [↓zp_dn, ↓zp_hV, ↓zp_hI, ↓zp_hL, ↓zp_hR, ↓zp_hX, zp_eV, zp_eI, zp_eL, zp_eR, zp_eX, zp_eXl, zp_iV, zp_iI, zp_iL, zp_iR, ↓zp_sm, ↓zp_nls, ↓zp_nln, zp_bo0, zp_bo1, zp_okE, zp_ok2E, zp_rfE, ↓reduceIte, if_true, if_false, zp_leT, zp_leF, zp_ltT, zp_ltF, zp_eqT, zp_eqF, zp_leTl, zp_leFl, zp_ltTl, zp_ltFl, zp_leTr, zp_leFr, zp_ltTr, zp_ltFr, zp_eqTr, zp_eqFr, zp_eqTl, zp_eqFl, zp_eqFll, eq_self, zp_addl, zp_addr, zp_mull, zp_mulr, zp_subr, zp_subl, nI_add, pk_mul, d0, if_pos h0, zx_o]; rfl
  by_cases h1 : 99 = c
  · simp (disch := omega) only [↓zp_dn, ↓zp_hV, ↓zp_hI, ↓zp_hL, ↓zp_hR, ↓zp_hX, zp_eV, zp_eI, zp_eL, zp_eR, zp_eX, zp_eXl, zp_iV, zp_iI, zp_iL, zp_iR, ↓zp_sm, ↓zp_nls, ↓zp_nln, zp_bo0, zp_bo1, zp_okE, zp_ok2E, zp_rfE, ↓reduceIte, if_true, if_false, zp_leT, zp_leF, zp_ltT, zp_ltF, zp_eqT, zp_eqF, zp_leTl, zp_leFl, zp_ltTl, zp_ltFl, zp_leTr, zp_leFr, zp_ltTr, zp_ltFr, zp_eqTr, zp_eqFr, zp_eqTl, zp_eqFl, zp_eqFll, eq_self, zp_addl, zp_addr, zp_mull, zp_mulr, zp_subr, zp_subl, nI_add, pk_mul, ze_X4_placeOf_2_91, d0, d1, if_neg h0, if_pos h1, Int32.reduceAdd, zx_o]; rfl
  by_cases h2 : 115 = c
  · simp (disch := omega) only [↓zp_dn, ↓zp_hV, ↓zp_hI, ↓zp_hL, ↓zp_hR, ↓zp_hX, zp_eV, zp_eI, zp_eL, zp_eR, zp_eX, zp_eXl, zp_iV, zp_iI, zp_iL, zp_iR, ↓zp_sm, ↓zp_nls, ↓zp_nln, zp_bo0, zp_bo1, zp_okE, zp_ok2E, zp_rfE, ↓reduceIte, if_true, if_false, zp_leT, zp_leF, zp_ltT, zp_ltF, zp_eqT, zp_eqF, zp_leTl, zp_leFl, zp_ltTl, zp_ltFl, zp_leTr, zp_leFr, zp_ltTr, zp_ltFr, zp_eqTr, zp_eqFr, zp_eqTl, zp_eqFl, zp_eqFll, eq_self, zp_addl, zp_addr, zp_mull, zp_mulr, zp_subr, zp_subl, nI_add, pk_mul, ze_X4_placeOf_2_91, d0, d1, d2, if_neg h0, if_neg h1, if_pos h2, Int32.reduceAdd, zx_o]; rfl
  by_cases h3 : 103 = c
  · simp (disch := omega) only [↓zp_dn, ↓zp_hV, ↓zp_hI, ↓zp_hL, ↓zp_hR, ↓zp_hX, zp_eV, zp_eI, zp_eL, zp_eR, zp_eX, zp_eXl, zp_iV, zp_iI, zp_iL, zp_iR, ↓zp_sm, ↓zp_nls, ↓zp_nln, zp_bo0, zp_bo1, zp_okE, zp_ok2E, zp_rfE, ↓reduceIte, if_true, if_false, zp_leT, zp_leF, zp_ltT, zp_ltF, zp_eqT, zp_eqF, zp_leTl, zp_leFl, zp_ltTl, zp_ltFl, zp_leTr, zp_leFr, zp_ltTr, zp_ltFr, zp_eqTr, zp_eqFr, zp_eqTl, zp_eqFl, zp_eqFll, eq_self, zp_addl, zp_addr, zp_mull, zp_mulr, zp_subr, zp_subl, nI_add, pk_mul, ze_X4_placeOf_2_91, d0, d1, d2, d3, if_neg h0, if_neg h1, if_neg h2, if_pos h3, Int32.reduceAdd, zx_o]; rfl
  by_cases h4 : 62 = c
  · simp (disch := omega) only [↓zp_dn, ↓zp_hV, ↓zp_hI, ↓zp_hL, ↓zp_hR, ↓zp_hX, zp_eV, zp_eI, zp_eL, zp_eR, zp_eX, zp_eXl, zp_iV, zp_iI, zp_iL, zp_iR, ↓zp_sm, ↓zp_nls, ↓zp_nln, zp_bo0, zp_bo1, zp_okE, zp_ok2E, zp_rfE, ↓reduceIte, if_true, if_false, zp_leT, zp_leF, zp_ltT, zp_ltF, zp_eqT, zp_eqF, zp_leTl, zp_leFl, zp_ltTl, zp_ltFl, zp_leTr, zp_leFr, zp_ltTr, zp_ltFr, zp_eqTr, zp_eqFr, zp_eqTl, zp_eqFl, zp_eqFll, eq_self, zp_addl, zp_addr, zp_mull, zp_mulr, zp_subr, zp_subl, nI_add, pk_mul, ze_X4_placeOf_2_91, d0, d1, d2, d3, d4, if_neg h0, if_neg h1, if_neg h2, if_neg h3, if_pos h4, Int32.reduceAdd, zx_o]; rfl
  by_cases h5 : 35 = c
  · simp (disch := omega) only [↓zp_dn, ↓zp_hV, ↓zp_hI, ↓zp_hL, ↓zp_hR, ↓zp_hX, zp_eV, zp_eI, zp_eL, zp_eR, zp_eX, zp_eXl, zp_iV, zp_iI, zp_iL, zp_iR, ↓zp_sm, ↓zp_nls, ↓zp_nln, zp_bo0, zp_bo1, zp_okE, zp_ok2E, zp_rfE, ↓reduceIte, if_true, if_false, zp_leT, zp_leF, zp_ltT, zp_ltF, zp_eqT, zp_eqF, zp_leTl, zp_leFl, zp_ltTl, zp_ltFl, zp_leTr, zp_leFr, zp_ltTr, zp_ltFr, zp_eqTr, zp_eqFr, zp_eqTl, zp_eqFl, zp_eqFll, eq_self, zp_addl, zp_addr, zp_mull, zp_mulr, zp_subr, zp_subl, nI_add, pk_mul, ze_X4_placeOf_2_91, d0, d1, d2, d3, d4, d5, if_neg h0, if_neg h1, if_neg h2, if_neg h3, if_neg h4, if_pos h5, Int32.reduceAdd, zx_o]; rfl
  · simp (disch := omega) only [↓zp_dn, ↓zp_hV, ↓zp_hI, ↓zp_hL, ↓zp_hR, ↓zp_hX, zp_eV, zp_eI, zp_eL, zp_eR, zp_eX, zp_eXl, zp_iV, zp_iI, zp_iL, zp_iR, ↓zp_sm, ↓zp_nls, ↓zp_nln, zp_bo0, zp_bo1, zp_okE, zp_ok2E, zp_rfE, ↓reduceIte, if_true, if_false, zp_leT, zp_leF, zp_ltT, zp_ltF, zp_eqT, zp_eqF, zp_leTl, zp_leFl, zp_ltTl, zp_ltFl, zp_leTr, zp_leFr, zp_ltTr, zp_ltFr, zp_eqTr, zp_eqFr, zp_eqTl, zp_eqFl, zp_eqFll, eq_self, zp_addl, zp_addr, zp_mull, zp_mulr, zp_subr, zp_subl, nI_add, pk_mul, ze_X4_placeOf_2_91, d0, d1, d2, d3, d4, d5, if_neg h0, if_neg h1, if_neg h2, if_neg h3, if_neg h4, if_neg h5, Int32.reduceAdd, zx_o]; rfl
theorem zc_plK (d : Nat) {M : zi_M} {t n : Nat} {f : Nat → Int32} (hT : zx_tc M t n f) (c : Int32) : zi_run d zm_X4_placeOf 0 [some (.inl c), some (.inr (.inr (92, some 0))), none] [] M = some (some (.inl (zx_o (zx_ki c))), M) := by
  obtain ⟨_, _, _, _, _, _, _, _, _, d0, d1, d2, d3, d4, d5⟩ := hT
  rw [ze_X4_placeOf_0_92, ze_X4_placeOf_2_92, zx_ki]
  by_cases h0 : 102 = c
  · simp (disch := omega) only [↓zp_dn, ↓zp_hV, ↓zp_hI, ↓zp_hL, ↓zp_hR, ↓zp_hX, zp_eV, zp_eI, zp_eL, zp_eR, zp_eX, zp_eXl, zp_iV, zp_iI, zp_iL, zp_iR, ↓zp_sm, ↓zp_nls, ↓zp_nln, zp_bo0, zp_bo1, zp_okE, zp_ok2E, zp_rfE, ↓reduceIte, if_true, if_false, zp_leT, zp_leF, zp_ltT, zp_ltF, zp_eqT, zp_eqF, zp_leTl, zp_leFl, zp_ltTl, zp_ltFl, zp_leTr, zp_leFr, zp_ltTr, zp_ltFr, zp_eqTr, zp_eqFr, zp_eqTl, zp_eqFl, zp_eqFll, eq_self, zp_addl, zp_addr, zp_mull, zp_mulr, zp_subr, zp_subl, nI_add, pk_mul, d0, if_pos h0, zx_o]; rfl
  by_cases h1 : 111 = c
  · simp (disch := omega) only [↓zp_dn, ↓zp_hV, ↓zp_hI, ↓zp_hL, ↓zp_hR, ↓zp_hX, zp_eV, zp_eI, zp_eL, zp_eR, zp_eX, zp_eXl, zp_iV, zp_iI, zp_iL, zp_iR, ↓zp_sm, ↓zp_nls, ↓zp_nln, zp_bo0, zp_bo1, zp_okE, zp_ok2E, zp_rfE, ↓reduceIte, if_true, if_false, zp_leT, zp_leF, zp_ltT, zp_ltF, zp_eqT, zp_eqF, zp_leTl, zp_leFl, zp_ltTl, zp_ltFl, zp_leTr, zp_leFr, zp_ltTr, zp_ltFr, zp_eqTr, zp_eqFr, zp_eqTl, zp_eqFl, zp_eqFll, eq_self, zp_addl, zp_addr, zp_mull, zp_mulr, zp_subr, zp_subl, nI_add, pk_mul, ze_X4_placeOf_2_92, d0, d1, if_neg h0, if_pos h1, Int32.reduceAdd, zx_o]; rfl
  by_cases h2 : 98 = c
  · simp (disch := omega) only [↓zp_dn, ↓zp_hV, ↓zp_hI, ↓zp_hL, ↓zp_hR, ↓zp_hX, zp_eV, zp_eI, zp_eL, zp_eR, zp_eX, zp_eXl, zp_iV, zp_iI, zp_iL, zp_iR, ↓zp_sm, ↓zp_nls, ↓zp_nln, zp_bo0, zp_bo1, zp_okE, zp_ok2E, zp_rfE, ↓reduceIte, if_true, if_false, zp_leT, zp_leF, zp_ltT, zp_ltF, zp_eqT, zp_eqF, zp_leTl, zp_leFl, zp_ltTl, zp_ltFl, zp_leTr, zp_leFr, zp_ltTr, zp_ltFr, zp_eqTr, zp_eqFr, zp_eqTl, zp_eqFl, zp_eqFll, eq_self, zp_addl, zp_addr, zp_mull, zp_mulr, zp_subr, zp_subl, nI_add, pk_mul, ze_X4_placeOf_2_92, d0, d1, d2, if_neg h0, if_neg h1, if_pos h2, Int32.reduceAdd, zx_o]; rfl
  by_cases h3 : 108 = c
  · simp (disch := omega) only [↓zp_dn, ↓zp_hV, ↓zp_hI, ↓zp_hL, ↓zp_hR, ↓zp_hX, zp_eV, zp_eI, zp_eL, zp_eR, zp_eX, zp_eXl, zp_iV, zp_iI, zp_iL, zp_iR, ↓zp_sm, ↓zp_nls, ↓zp_nln, zp_bo0, zp_bo1, zp_okE, zp_ok2E, zp_rfE, ↓reduceIte, if_true, if_false, zp_leT, zp_leF, zp_ltT, zp_ltF, zp_eqT, zp_eqF, zp_leTl, zp_leFl, zp_ltTl, zp_ltFl, zp_leTr, zp_leFr, zp_ltTr, zp_ltFr, zp_eqTr, zp_eqFr, zp_eqTl, zp_eqFl, zp_eqFll, eq_self, zp_addl, zp_addr, zp_mull, zp_mulr, zp_subr, zp_subl, nI_add, pk_mul, ze_X4_placeOf_2_92, d0, d1, d2, d3, if_neg h0, if_neg h1, if_neg h2, if_pos h3, Int32.reduceAdd, zx_o]; rfl
  by_cases h4 : 110 = c
  · simp (disch := omega) only [↓zp_dn, ↓zp_hV, ↓zp_hI, ↓zp_hL, ↓zp_hR, ↓zp_hX, zp_eV, zp_eI, zp_eL, zp_eR, zp_eX, zp_eXl, zp_iV, zp_iI, zp_iL, zp_iR, ↓zp_sm, ↓zp_nls, ↓zp_nln, zp_bo0, zp_bo1, zp_okE, zp_ok2E, zp_rfE, ↓reduceIte, if_true, if_false, zp_leT, zp_leF, zp_ltT, zp_ltF, zp_eqT, zp_eqF, zp_leTl, zp_leFl, zp_ltTl, zp_ltFl, zp_leTr, zp_leFr, zp_ltTr, zp_ltFr, zp_eqTr, zp_eqFr, zp_eqTl, zp_eqFl, zp_eqFll, eq_self, zp_addl, zp_addr, zp_mull, zp_mulr, zp_subr, zp_subl, nI_add, pk_mul, ze_X4_placeOf_2_92, d0, d1, d2, d3, d4, if_neg h0, if_neg h1, if_neg h2, if_neg h3, if_pos h4, Int32.reduceAdd, zx_o]; rfl
  by_cases h5 : 97 = c
  · simp (disch := omega) only [↓zp_dn, ↓zp_hV, ↓zp_hI, ↓zp_hL, ↓zp_hR, ↓zp_hX, zp_eV, zp_eI, zp_eL, zp_eR, zp_eX, zp_eXl, zp_iV, zp_iI, zp_iL, zp_iR, ↓zp_sm, ↓zp_nls, ↓zp_nln, zp_bo0, zp_bo1, zp_okE, zp_ok2E, zp_rfE, ↓reduceIte, if_true, if_false, zp_leT, zp_leF, zp_ltT, zp_ltF, zp_eqT, zp_eqF, zp_leTl, zp_leFl, zp_ltTl, zp_ltFl, zp_leTr, zp_leFr, zp_ltTr, zp_ltFr, zp_eqTr, zp_eqFr, zp_eqTl, zp_eqFl, zp_eqFll, eq_self, zp_addl, zp_addr, zp_mull, zp_mulr, zp_subr, zp_subl, nI_add, pk_mul, ze_X4_placeOf_2_92, d0, d1, d2, d3, d4, d5, if_neg h0, if_neg h1, if_neg h2, if_neg h3, if_neg h4, if_pos h5, Int32.reduceAdd, zx_o]; rfl
  · simp (disch := omega) only [↓zp_dn, ↓zp_hV, ↓zp_hI, ↓zp_hL, ↓zp_hR, ↓zp_hX, zp_eV, zp_eI, zp_eL, zp_eR, zp_eX, zp_eXl, zp_iV, zp_iI, zp_iL, zp_iR, ↓zp_sm, ↓zp_nls, ↓zp_nln, zp_bo0, zp_bo1, zp_okE, zp_ok2E, zp_rfE, ↓reduceIte, if_true, if_false, zp_leT, zp_leF, zp_ltT, zp_ltF, zp_eqT, zp_eqF, zp_leTl, zp_leFl, zp_ltTl, zp_ltFl, zp_leTr, zp_leFr, zp_ltTr, zp_ltFr, zp_eqTr, zp_eqFr, zp_eqTl, zp_eqFl, zp_eqFll, eq_self, zp_addl, zp_addr, zp_mull, zp_mulr, zp_subr, zp_subl, nI_add, pk_mul, ze_X4_placeOf_2_92, d0, d1, d2, d3, d4, d5, if_neg h0, if_neg h1, if_neg h2, if_neg h3, if_neg h4, if_neg h5, Int32.reduceAdd, zx_o]; rfl
/-- the place alone goes on -/
def zx_f4 (M M' : zi_M) : Prop := M'.2 = M.2 ∧ ∀ c k j, c ≠ 4 → M'.1 c k j = M.1 c k j
theorem zx_f4_fr {M M' : zi_M} (h : zx_f4 M M') : zx_fr M M' := ⟨h.1, fun c k j a _ _ _ _ _ => h.2 c k j a⟩
theorem zc_skip (d : Nat) {t n : Nat} {f : Nat → Int32} (hn : n ≤ 80) : ∀ (k : Nat) (M : zi_M) (p : Nat), k = 80 - p → p ≤ 1000 → zx_tc M t n f → M.1 4 0 3 = nI p → ∃ M', zi_run (d + 2) zm_X4_skipBlanks 0 [some (.inr (.inr (4, some 0)))] [] M = some (none, M') ∧ zx_f4 M M' ∧ M'.1 4 0 3 = nI (zx_sk (zx_g f n) k p) := by
  intro k
  induction k with
  | zero =>
    intro M p hk hp1 hT hp
    refine ⟨M, ?_, ⟨rfl, fun _ _ _ _ => rfl⟩, hp⟩
    rw [ze_X4_skipBlanks_0]
    simp (disch := omega) only [↓zp_dn, ↓zp_hV, ↓zp_hI, ↓zp_hL, ↓zp_hR, ↓zp_hX, zp_eV, zp_eI, zp_eL, zp_eR, zp_eX, zp_eXl, zp_iV, zp_iI, zp_iL, zp_iR, ↓zp_sm, ↓zp_nls, ↓zp_nln, zp_bo0, zp_bo1, zp_okE, zp_ok2E, zp_rfE, ↓reduceIte, if_true, if_false, zp_leT, zp_leF, zp_ltT, zp_ltF, zp_eqT, zp_eqF, zp_leTl, zp_leFl, zp_ltTl, zp_ltFl, zp_leTr, zp_leFr, zp_ltTr, zp_ltFr, zp_eqTr, zp_eqFr, zp_eqTl, zp_eqFl, zp_eqFll, eq_self, zp_addl, zp_addr, zp_mull, zp_mulr, zp_subr, zp_subl, nI_add, pk_mul, hp]
  | succ k ih =>
    intro M p hk hp1 hT hp
    rw [ze_X4_skipBlanks_0, zx_sk]
    have hh : ∀ e, zi_run (e + 1) zm_X4_here 0 [some (.inr (.inr (4, some 0)))] [] M = _ := fun e => zc_here e hT hn hp (by omega)
    by_cases hb : zx_g f n p = 32
    · rw [if_pos hb]
      obtain ⟨M', e1, e2, e3⟩ := ih (zi_sI M 4 0 3 (nI (p + 1))) (p + 1) (by omega) (by omega) (zx_tc_fr (zx_fr_I (zx_fr_rfl M) (by omega) _) hT) (by simp [zp_sI1])
      refine ⟨M', ?_, ⟨e2.1, fun c k j hc => by rw [e2.2 c k j hc, zp_sI1, if_neg hc]⟩, e3⟩
      refine Eq.trans ?_ e1
      simp (disch := omega) only [↓zp_dn, ↓zp_hV, ↓zp_hI, ↓zp_hL, ↓zp_hR, ↓zp_hX, zp_eV, zp_eI, zp_eL, zp_eR, zp_eX, zp_eXl, zp_iV, zp_iI, zp_iL, zp_iR, ↓zp_sm, ↓zp_nls, ↓zp_nln, zp_bo0, zp_bo1, zp_okE, zp_ok2E, zp_rfE, ↓reduceIte, if_true, if_false, zp_leT, zp_leF, zp_ltT, zp_ltF, zp_eqT, zp_eqF, zp_leTl, zp_leFl, zp_ltTl, zp_ltFl, zp_leTr, zp_leFr, zp_ltTr, zp_ltFr, zp_eqTr, zp_eqFr, zp_eqTl, zp_eqFl, zp_eqFll, eq_self, zp_addl, zp_addr, zp_mull, zp_mulr, zp_subr, zp_subl, nI_add, pk_mul, hp, hh, if_pos hb]
    · rw [if_neg hb]
      refine ⟨M, ?_, ⟨rfl, fun _ _ _ _ => rfl⟩, hp⟩
      simp (disch := omega) only [↓zp_dn, ↓zp_hV, ↓zp_hI, ↓zp_hL, ↓zp_hR, ↓zp_hX, zp_eV, zp_eI, zp_eL, zp_eR, zp_eX, zp_eXl, zp_iV, zp_iI, zp_iL, zp_iR, ↓zp_sm, ↓zp_nls, ↓zp_nln, zp_bo0, zp_bo1, zp_okE, zp_ok2E, zp_rfE, ↓reduceIte, if_true, if_false, zp_leT, zp_leF, zp_ltT, zp_ltF, zp_eqT, zp_eqF, zp_leTl, zp_leFl, zp_ltTl, zp_ltFl, zp_leTr, zp_leFr, zp_ltTr, zp_ltFr, zp_eqTr, zp_eqFr, zp_eqTl, zp_eqFl, zp_eqFll, eq_self, zp_addl, zp_addr, zp_mull, zp_mulr, zp_subr, zp_subl, nI_add, pk_mul, hp, hh, if_neg hb]
/-- a line of AIR -/
theorem zc_line (d : Nat) {t n : Nat} {f : Nat → Int32} (hn : n ≤ 80) {h p lim : Nat} (hh : h < 5) (hlim : lim ≤ 7) (hp : p + lim ≤ 1000) {M0 : zi_M} : ∀ (k c : Nat) (M : zi_M), c + k = lim → zx_tc M t n f → M.1 4 0 3 = nI (p + c) → (∀ j, j < c → M.1 11 1 (7 * h + j) = zx_o (zx_ai (zx_g f n (p + j)))) → (M.2 = M0.2 ∧ ∀ c' k' j, c' ≠ 4 → ¬ (c' = 11 ∧ k' = 1 ∧ 7 * h ≤ j) → M.1 c' k' j = M0.1 c' k' j) → ∃ M', zi_run (d + 2) zm_X4_readLine 19 [some (.inr (.inr (4, some 0))), some (.inl (nI h)), some (.inl (nI lim)), some (.inl (nI c)), none] [] M = zi_run (d + 2) zm_X4_readLine 71 [some (.inr (.inr (4, some 0))), some (.inl (nI h)), none, some (.inl (nI (c + zx_w (zx_g f n) k (p + c)))), none] [] M' ∧ M'.1 4 0 3 = nI (p + (c + zx_w (zx_g f n) k (p + c))) ∧ (∀ j, j < c + zx_w (zx_g f n) k (p + c) → M'.1 11 1 (7 * h + j) = zx_o (zx_ai (zx_g f n (p + j)))) ∧ (M'.2 = M0.2 ∧ ∀ c' k' j, c' ≠ 4 → ¬ (c' = 11 ∧ k' = 1 ∧ 7 * h ≤ j) → M'.1 c' k' j = M0.1 c' k' j) := by
  intro k
  induction k with
  | zero =>
    intro c M hk hT hpl hc hf
    refine ⟨M, ?_, by rw [zx_w]; exact hpl, by rw [zx_w]; exact hc, hf⟩
    rw [ze_X4_readLine_19, zx_w]
    simp (disch := omega) only [↓zp_dn, ↓zp_hV, ↓zp_hI, ↓zp_hL, ↓zp_hR, ↓zp_hX, zp_eV, zp_eI, zp_eL, zp_eR, zp_eX, zp_eXl, zp_iV, zp_iI, zp_iL, zp_iR, ↓zp_sm, ↓zp_nls, ↓zp_nln, zp_bo0, zp_bo1, zp_okE, zp_ok2E, zp_rfE, ↓reduceIte, if_true, if_false, zp_leT, zp_leF, zp_ltT, zp_ltF, zp_eqT, zp_eqF, zp_leTl, zp_leFl, zp_ltTl, zp_ltFl, zp_leTr, zp_leFr, zp_ltTr, zp_ltFr, zp_eqTr, zp_eqFr, zp_eqTl, zp_eqFl, zp_eqFll, eq_self, zp_addl, zp_addr, zp_mull, zp_mulr, zp_subr, zp_subl, nI_add, pk_mul]
    rfl
  | succ k ih =>
    intro c M hk hT hpl hc hf
    have hr : ∀ e, zi_run (e + 1) zm_X4_here 0 [some (.inr (.inr (4, some 0)))] [] M = _ := fun e => zc_here e hT hn hpl (by omega)
    rw [ze_X4_readLine_19, zx_w]
    cases ha : zx_ai (zx_g f n (p + c)) with
    | none =>
      refine ⟨M, ?_, ?_, ?_, hf⟩
      · have n1 : ¬ (0 : Int32) ≤ -1 := by decide
        simp (disch := omega) only [↓zp_dn, ↓zp_hV, ↓zp_hI, ↓zp_hL, ↓zp_hR, ↓zp_hX, zp_eV, zp_eI, zp_eL, zp_eR, zp_eX, zp_eXl, zp_iV, zp_iI, zp_iL, zp_iR, ↓zp_sm, ↓zp_nls, ↓zp_nln, zp_bo0, zp_bo1, zp_okE, zp_ok2E, zp_rfE, ↓reduceIte, if_true, if_false, zp_leT, zp_leF, zp_ltT, zp_ltF, zp_eqT, zp_eqF, zp_leTl, zp_leFl, zp_ltTl, zp_ltFl, zp_leTr, zp_leFr, zp_ltTr, zp_ltFr, zp_eqTr, zp_eqFr, zp_eqTl, zp_eqFl, zp_eqFll, eq_self, zp_addl, zp_addr, zp_mull, zp_mulr, zp_subr, zp_subl, nI_add, pk_mul, hr, zc_plA _ hT, ha, zx_o, if_neg n1, Option.isSome, Bool.false_eq_true, Nat.add_zero]
      · simp only [Option.isSome, Bool.false_eq_true, if_false, Nat.add_zero]; exact hpl
      · simp only [Option.isSome, Bool.false_eq_true, if_false, Nat.add_zero]; exact hc
    | some a =>
      have ha6 := zx_ai_lt ha
      obtain ⟨M', e1, e2, e3, e4⟩ := ih (c + 1) (zi_sI (zi_sI M 11 1 (7 * h + c) (nI a)) 4 0 3 (nI (p + c + 1))) (by omega) (zx_tc_fr (zx_fr_I (zx_fr_I (zx_fr_rfl M) (by omega) _) (by omega) _) hT) (by simp [zp_sI1, Nat.add_assoc]) (fun j hj => by
        rw [zp_sI1, if_neg (by decide), zp_sI1, if_pos rfl, if_pos rfl]
        by_cases hjc : j = c
        · rw [hjc, if_pos rfl, ha]; rfl
        · rw [if_neg (by omega)]; exact hc j (by omega)) ⟨hf.1, fun c' k' j a1 a2 => by
        rw [zp_sI1, if_neg a1, zp_sI1]
        by_cases q1 : c' = 11
        · by_cases q2 : k' = 1
          · rw [if_pos q1, if_pos q2, if_neg (fun q3 => a2 ⟨q1, q2, by omega⟩)]; exact hf.2 c' k' j a1 a2
          · rw [if_pos q1, if_neg q2, ite_self]; exact hf.2 c' k' j a1 a2
        · rw [if_neg q1]; exact hf.2 c' k' j a1 a2⟩
      rw [show c + 1 + zx_w (zx_g f n) k (p + (c + 1)) = c + (zx_w (zx_g f n) k (p + c + 1) + 1) from by rw [show p + (c + 1) = p + c + 1 from rfl]; omega] at e1 e2 e3
      simp only [Option.isSome, if_true]
      refine ⟨M', ?_, e2, e3, e4⟩
      refine Eq.trans ?_ e1
      simp (disch := omega) only [↓zp_dn, ↓zp_hV, ↓zp_hI, ↓zp_hL, ↓zp_hR, ↓zp_hX, zp_eV, zp_eI, zp_eL, zp_eR, zp_eX, zp_eXl, zp_iV, zp_iI, zp_iL, zp_iR, ↓zp_sm, ↓zp_nls, ↓zp_nln, zp_bo0, zp_bo1, zp_okE, zp_ok2E, zp_rfE, ↓reduceIte, if_true, if_false, zp_leT, zp_leF, zp_ltT, zp_ltF, zp_eqT, zp_eqF, zp_leTl, zp_leFl, zp_ltTl, zp_ltFl, zp_leTr, zp_leFr, zp_ltTr, zp_ltFr, zp_eqTr, zp_eqFr, zp_eqTl, zp_eqFl, zp_eqFll, eq_self, zp_addl, zp_addr, zp_mull, zp_mulr, zp_subr, zp_subl, nI_add, pk_mul, hr, zc_plA _ hT, ha, zx_o, ze_X0_fill_0, zp_sI1, hpl, Nat.reduceEqDiff, Nat.reduceLT, Nat.reduceLeDiff, Nat.reduceAdd, Nat.reduceMul, Nat.reduceSub, reduceCtorEq, Int32.reduceLT, Int32.reduceLE, not_true_eq_false, not_false_eq_true, and_true, true_and, and_false, false_and, or_true, true_or, or_false, false_or]
      rw [Nat.mul_comm h 7]
