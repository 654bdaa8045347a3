/-! THE PURE PART: GUSTS, over plain numbers; the class -/
def zg_sk (t : zf_S) : zf_S := (t.1, t.2.1 - 1, t.2.2)
abbrev zg_gu (A : zf_A) (t : zf_S) : Prop := ¬ zf_over A t ∧ 0 < t.2.1 ∧ zf_at A t.1 (t.2.1 - 1) ≠ 5
def zg_G (E : zf_E) (p : Nat) (X : zf_S → Nat) (s : zf_S) (b : Nat) : Nat := if zf_can E.1 s b then (if zg_gu E.1 (zf_mv E s b) then (12 - p) * X (zf_st E (zf_mv E s b)) + p * X (zf_st E (zg_sk (zf_mv E s b))) else 12 * X (zf_st E (zf_mv E s b))) else 0
def zg_mx (g : Nat → Nat) (l : List Nat) (m : Nat) : Nat := l.foldl (fun m b => max m (g b)) m
def zg_X (E : zf_E) (p : Nat) (ch : Nat → List Nat) : Nat → Nat → zf_S → Nat
  | 0, _, s => if s.2.2.2.2.2 = 0 then (if zf_over E.1 s then 1 else 0) else 0
  | n + 1, d, s => if s.2.2.2.2.2 = 0 then (if zf_over E.1 s then 12 ^ (n + 1) else zg_mx (zg_G E p (zg_X E p ch n (d + 1)) s) (ch d) 0) else 0
theorem zg_G_le {E : zf_E} {p : Nat} (hp : p ≤ 12) {X : zf_S → Nat} {B : Nat} (hX : ∀ t, X t ≤ B) (s : zf_S) (b : Nat) : zg_G E p X s b ≤ 12 * B := by
  unfold zg_G
  split
  · split
    · have h1 : (12 - p) * X (zf_st E (zf_mv E s b)) ≤ (12 - p) * B := Nat.mul_le_mul_left _ (hX _)
      have h2 : p * X (zf_st E (zg_sk (zf_mv E s b))) ≤ p * B := Nat.mul_le_mul_left _ (hX _)
      have h3 : (12 - p) * B + p * B = 12 * B := by rw [← Nat.add_mul, show 12 - p + p = 12 from by omega]
      omega
    · exact Nat.mul_le_mul_left _ (hX _)
  · exact Nat.zero_le _
theorem zg_mx_le {g : Nat → Nat} {B : Nat} (hg : ∀ b, g b ≤ B) : ∀ (l : List Nat) (m : Nat), m ≤ B → zg_mx g l m ≤ B := by
  intro l
  induction l with
  | nil => intro m h; exact h
  | cons b l ih => intro m h; exact ih (max m (g b)) (by have := hg b; omega)
theorem zg_X_le (E : zf_E) {p : Nat} (hp : p ≤ 12) (ch : Nat → List Nat) : ∀ (n d : Nat) (s : zf_S), zg_X E p ch n d s ≤ 12 ^ n := by
  intro n
  induction n with
  | zero => intro d s; simp only [zg_X]; repeat' split
            all_goals simp
  | succ n ih =>
    intro d s
    simp only [zg_X]
    split
    · split
      · exact Nat.le_refl _
      · refine zg_mx_le (fun b => ?_) _ _ (Nat.zero_le _)
        have := zg_G_le (E := E) hp (ih (d + 1)) s b
        rw [Nat.pow_succ]; omega
    · exact Nat.zero_le _
/-- what the class's GUSTS may change below depth d -/
def zg_fr (d : Nat) (M M' : zi_M) : Prop := M'.2 = M.2 ∧ ∀ c k j, ¬ (c = 7 ∧ 30 + d < k ∧ k < 37) → M'.1 c k j = M.1 c k j
theorem zg_fr_rfl (d : Nat) (M : zi_M) : zg_fr d M M := ⟨rfl, fun _ _ _ _ => rfl⟩
theorem zg_fr_tr {d : Nat} {M M1 M2 : zi_M} (h : zg_fr d M M1) (h2 : zg_fr d M1 M2) : zg_fr d M M2 := ⟨h2.1.trans h.1, fun c k j e => (h2.2 c k j e).trans (h.2 c k j e)⟩
theorem zg_fr_up {d : Nat} {M M1 : zi_M} (h : zg_fr (d + 1) M M1) : zg_fr d M M1 := ⟨h.1, fun c k j e => h.2 c k j (fun q => e ⟨q.1, by omega, q.2.2⟩)⟩
theorem zg_fr_sp {d : Nat} (hd : d < 6) (M : zi_M) (s : zf_S) : zg_fr d M (zp_sp M (30 + (d + 1)) s) := ⟨rfl, fun c k j e => by rw [zp_sp1, zp_h1 (fun q => e ⟨q.1, by omega, by omega⟩)]⟩
theorem zf_cE_g {d : Nat} {M M' : zi_M} {E : zf_E} (h : zg_fr d M M') (hE : zf_cE M E) : zf_cE M' E := by
  obtain ⟨⟨e1, e2, e3⟩, f1, f2, f3, f4⟩ := hE
  have e : ∀ c k j, c ≠ 7 → M'.1 c k j = M.1 c k j := fun c k j hc => h.2 c k j (by omega)
  exact ⟨⟨by rw [e 0 0 1 (by omega), e1], by rw [e 0 0 2 (by omega), e2], fun x y hx hy => by rw [e 11 _ _ (by omega)]; exact e3 x y hx hy⟩, by rw [e 2 0 1 (by omega), f1], by rw [e 2 0 2 (by omega), f2], by rw [e 2 0 3 (by omega), f3], by rw [e 2 0 4 (by omega), f4]⟩
theorem zf_is_g {d : Nat} {M M' : zi_M} (h : zg_fr d M M') {i : Nat} (hi : i ≤ 30 + d) {s : zf_S} (hs : zf_is (M.1 7 i) s) : zf_is (M'.1 7 i) s := by
  have e : M'.1 7 i = M.1 7 i := funext fun j => h.2 7 i j (by omega)
  rw [e]; exact hs
/-- which BEATS one tries: all, or the PLAN's -/
def zg_sc (M : zi_M) (ch : Nat → List Nat) : Prop := (M.2.2 3 0 3 = none ∧ ch = fun _ => [0, 1, 2]) ∨ ∃ r m, r < 6 ∧ m ≤ 40 ∧ M.2.2 3 0 3 = some r ∧ M.1 5 r 1 = nI m ∧ (∀ j, j < m → zj_P (M.1 12 r j)) ∧ ch = fun d => if d < m then [zj_b (M.1 12 r d)] else []
theorem zg_sc_g {d : Nat} {M M' : zi_M} {ch : Nat → List Nat} (h : zg_fr d M M') (hc : zg_sc M ch) : zg_sc M' ch := by
  rcases hc with ⟨a, b⟩ | ⟨r, m, a1, a2, a3, a4, a5, a6⟩
  · exact Or.inl ⟨by rw [h.1]; exact a, b⟩
  · have e12 : ∀ j, M'.1 12 r j = M.1 12 r j := fun j => h.2 12 r j (by omega)
    exact Or.inr ⟨r, m, a1, a2, by rw [h.1]; exact a3, by rw [h.2 5 r 1 (by omega)]; exact a4, fun j hj => by rw [e12]; exact a5 j hj, by rw [a6]; funext d; rw [e12]⟩
/-- the state in which the class counts chances -/
def zg_ok (M : zi_M) (E : zf_E) (p : Nat) (ch : Nat → List Nat) : Prop := zf_cE M E ∧ M.1 3 0 2 = nI p ∧ zg_sc M ch
theorem zg_ok_g {d : Nat} {M M' : zi_M} {E : zf_E} {p : Nat} {ch : Nat → List Nat} (h : zg_fr d M M') (hk : zg_ok M E p ch) : zg_ok M' E p ch := ⟨zf_cE_g h hk.1, by rw [h.2 3 0 2 (by omega)]; exact hk.2.1, zg_sc_g h hk.2.2⟩
/-- the claim at n BEATS left -/
def zg_C (E : zf_E) (p : Nat) (ch : Nat → List Nat) (n : Nat) : Prop := ∀ (d dd : Nat) (s : zf_S) (M : zi_M), dd + n = 6 → zg_ok M E p ch → zf_is (M.1 7 (30 + dd)) s → s.1 < E.1.1 → s.2.1 < E.1.2.1 → ∃ M', zi_run (d + 3 * n + 1) zm_X3_chance 0 [some (.inr (.inr (3, some 0))), some (.inl (nI dd)), none, none] [] M = some (some (.inl (nI (12 ^ dd * zg_X E p ch n dd s))), M') ∧ zg_fr dd M M'
theorem zc_settled {E : zf_E} (hA : zf_okE E.1) {p : Nat} {ch : Nat → List Nat} {n : Nat} (hC : zg_C E p ch n) (d : Nat) {dd : Nat} {t : zf_S} {M : zi_M} (hn : dd + 1 + n = 6) (hk : zg_ok M E p ch) (ht : zf_is (M.1 7 (30 + (dd + 1))) t) (h1 : t.1 < E.1.1) (h2 : t.2.1 < E.1.2.1) : ∃ M', zi_run (d + 3 * n + 2) zm_X3_settledChance 0 [some (.inr (.inr (3, some 0))), some (.inl (nI (dd + 1)))] [] M = some (some (.inl (nI (12 ^ (dd + 1) * zg_X E p ch n (dd + 1) (zf_st E t)))), M') ∧ zg_fr dd M M' := by
  have fr := zg_fr_sp (d := dd) (by omega) M (zf_st E t)
  obtain ⟨M', e1, e2⟩ := hC d (dd + 1) (zf_st E t) (zp_sp M (30 + (dd + 1)) (zf_st E t)) hn (zg_ok_g fr hk) (zp_sp_is M _ _) h1 h2
  refine ⟨M', ?_, zg_fr_tr fr (zg_fr_up e2)⟩
  have hst : zi_run (d + 3 * n + 1) zm_X2_settle 0 [some (.inr (.inr (2, some 0))), some (.inr (.inr (7, some (30 + (dd + 1))))), none, none] [] M = some (none, zp_sp M (30 + (dd + 1)) (zf_st E t)) := zc_settle (d + 3 * n) hA hk.1 ht h1 h2
  rw [ze_X3_settledChance_0]
  simp (disch := omega) only [↓zp_dn, ↓zp_hV, ↓zp_hI, ↓zp_hL, ↓zp_hR, ↓zp_hX, zp_eV, zp_eI, zp_eL, zp_eR, zp_eX, zp_eXl, zp_iV, zp_iI, zp_iL, zp_iR, ↓zp_sm, ↓zp_nls, ↓zp_nln, zp_bo0, zp_bo1, zp_okE, zp_ok2E, zp_rfE, ↓reduceIte, if_true, if_false, zp_leT, zp_leF, zp_ltT, zp_ltF, zp_eqT, zp_eqF, zp_leTl, zp_leFl, zp_ltTl, zp_ltFl, zp_leTr, zp_leFr, zp_ltTr, zp_ltFr, zp_eqTr, zp_eqFr, zp_eqTl, zp_eqFl, zp_eqFll, eq_self, zp_addl, zp_addr, zp_mull, zp_mulr, zp_subr, zp_subl, nI_add, pk_mul, hst, e1]
theorem zg_12 : ∀ dd, dd ≤ 6 → 12 ^ dd ≤ 2985984 := by decide
theorem zg_v6 {E : zf_E} {p : Nat} (hp : p ≤ 12) (ch : Nat → List Nat) {n dd : Nat} (hn : dd + n = 6) (d : Nat) (s : zf_S) : 12 ^ dd * zg_X E p ch n d s ≤ 2985984 := by
  have h1 := zg_X_le E hp ch n d s
  have h2 : 12 ^ dd * zg_X E p ch n d s ≤ 12 ^ dd * 12 ^ n := Nat.mul_le_mul_left _ h1
  rw [← Nat.pow_add, hn] at h2
  exact h2
theorem zc_cby {E : zf_E} (hA : zf_okE E.1) {p : Nat} (hp : p ≤ 12) {ch : Nat → List Nat} {n : Nat} (hC : zg_C E p ch n) (d : Nat) {dd : Nat} {s : zf_S} {M : zi_M} (hn : dd + 1 + n = 6) (hk : zg_ok M E p ch) (hs : zf_is (M.1 7 (30 + dd)) s) (h1 : s.1 < E.1.1) (h2 : s.2.1 < E.1.2.1) {b : Nat} (hb : b < 3) : ∃ M', zi_run (d + 3 * n + 3) zm_X3_chanceBy 0 [some (.inr (.inr (3, some 0))), some (.inl (nI dd)), some (.inl (nI b)), none, none, none] [] M = some (some (.inl (nI (12 ^ dd * zg_G E p (zg_X E p ch n (dd + 1)) s b))), M') ∧ zg_fr dd M M' := by
  have mv : ∀ N, zg_ok N E p ch → zf_is (N.1 7 (30 + dd)) s → zi_run (d + 3 * n + 2) zm_X2_move 0 [some (.inr (.inr (2, some 0))), some (.inr (.inr (7, some (30 + dd)))), some (.inl (nI b)), some (.inr (.inr (7, some (30 + (dd + 1))))), none, none, none] [] N = if zf_can E.1 s b then some (some (.inl 1), zp_sp N (30 + (dd + 1)) (zf_mv E s b)) else some (some (.inl 0), N) := fun N h3 h4 => zc_move (d + 3 * n + 1) hA h3.1 h4 h1 h2 hb
  have em := mv M hk hs
  rw [ze_X3_chanceBy_0, zg_G]
  by_cases hcan : zf_can E.1 s b
  case neg =>
    rw [if_neg hcan] at em ⊢
    refine ⟨M, ?_, zg_fr_rfl dd M⟩
    simp (disch := omega) only [↓zp_dn, ↓zp_hV, ↓zp_hI, ↓zp_hL, ↓zp_hR, ↓zp_hX, zp_eV, zp_eI, zp_eL, zp_eR, zp_eX, zp_eXl, zp_iV, zp_iI, zp_iL, zp_iR, ↓zp_sm, ↓zp_nls, ↓zp_nln, zp_bo0, zp_bo1, zp_okE, zp_ok2E, zp_rfE, ↓reduceIte, if_true, if_false, zp_leT, zp_leF, zp_ltT, zp_ltF, zp_eqT, zp_eqF, zp_leTl, zp_leFl, zp_ltTl, zp_ltFl, zp_leTr, zp_leFr, zp_ltTr, zp_ltFr, zp_eqTr, zp_eqFr, zp_eqTl, zp_eqFl, zp_eqFll, eq_self, zp_addl, zp_addr, zp_mull, zp_mulr, zp_subr, zp_subl, nI_add, pk_mul, em, Nat.mul_zero]
    rfl
  rw [if_pos hcan] at em ⊢
  have fr := zg_fr_sp (d := dd) (by omega) M (zf_mv E s b)
  have hk1 := zg_ok_g fr hk
  have his := zp_sp_is M (30 + (dd + 1)) (zf_mv E s b)
  have b1 : (zf_mv E s b).1 < E.1.1 := zf_col_lt hA s
  have b2 : (zf_mv E s b).2.1 < E.1.2.1 := hcan.2.2.2.1
  have p1 := hk1.2.1
  have e12 : 12 ^ (dd + 1) = 12 ^ dd * 12 := Nat.pow_succ ..
  have calm : ∃ M', zi_run (d + 3 * n + 3) zm_X3_chanceBy 75 [some (.inr (.inr (3, some 0))), some (.inl (nI dd)), none, none, none, none] [] (zp_sp M (30 + (dd + 1)) (zf_mv E s b)) = some (some (.inl (nI (12 ^ dd * (12 * zg_X E p ch n (dd + 1) (zf_st E (zf_mv E s b)))))), M') ∧ zg_fr dd M M' := by
    obtain ⟨M', c1, c2⟩ := zc_settled hA hC d hn hk1 his b1 b2
    refine ⟨M', ?_, zg_fr_tr fr c2⟩
    rw [ze_X3_chanceBy_75]
    simp (disch := omega) only [↓zp_dn, ↓zp_hV, ↓zp_hI, ↓zp_hL, ↓zp_hR, ↓zp_hX, zp_eV, zp_eI, zp_eL, zp_eR, zp_eX, zp_eXl, zp_iV, zp_iI, zp_iL, zp_iR, ↓zp_sm, ↓zp_nls, ↓zp_nln, zp_bo0, zp_bo1, zp_okE, zp_ok2E, zp_rfE, ↓reduceIte, if_true, if_false, zp_leT, zp_leF, zp_ltT, zp_ltF, zp_eqT, zp_eqF, zp_leTl, zp_leFl, zp_ltTl, zp_ltFl, zp_leTr, zp_leFr, zp_ltTr, zp_ltFr, zp_eqTr, zp_eqFr, zp_eqTl, zp_eqFl, zp_eqFll, eq_self, zp_addl, zp_addr, zp_mull, zp_mulr, zp_subr, zp_subl, nI_add, pk_mul, c1]
    rw [e12, Nat.mul_assoc]
  by_cases hp0 : p = 0
  · obtain ⟨M', c1, c2⟩ := calm
    refine ⟨M', ?_, c2⟩
    have ez : (if zg_gu E.1 (zf_mv E s b) then (12 - p) * zg_X E p ch n (dd + 1) (zf_st E (zf_mv E s b)) + p * zg_X E p ch n (dd + 1) (zf_st E (zg_sk (zf_mv E s b))) else 12 * zg_X E p ch n (dd + 1) (zf_st E (zf_mv E s b))) = 12 * zg_X E p ch n (dd + 1) (zf_st E (zf_mv E s b)) := by
      rw [hp0]; simp
    rw [ez]
    simp (disch := omega) only [↓zp_dn, ↓zp_hV, ↓zp_hI, ↓zp_hL, ↓zp_hR, ↓zp_hX, zp_eV, zp_eI, zp_eL, zp_eR, zp_eX, zp_eXl, zp_iV, zp_iI, zp_iL, zp_iR, ↓zp_sm, ↓zp_nls, ↓zp_nln, zp_bo0, zp_bo1, zp_okE, zp_ok2E, zp_rfE, ↓reduceIte, if_true, if_false, zp_leT, zp_leF, zp_ltT, zp_ltF, zp_eqT, zp_eqF, zp_leTl, zp_leFl, zp_ltTl, zp_ltFl, zp_leTr, zp_leFr, zp_ltTr, zp_ltFr, zp_eqTr, zp_eqFr, zp_eqTl, zp_eqFl, zp_eqFll, eq_self, zp_addl, zp_addr, zp_mull, zp_mulr, zp_subr, zp_subl, nI_add, pk_mul, em, zp_1n0, p1, c1]
  · have io : ∀ e, zi_run e zm_X2_isOver 0 [some (.inr (.inr (2, some 0))), some (.inr (.inr (7, some (30 + (dd + 1)))))] [] (zp_sp M (30 + (dd + 1)) (zf_mv E s b)) = _ := fun e => zc_isOver e hA hk1.1.1 his.1 b1
    by_cases ho : zf_over E.1 (zf_mv E s b)
    · obtain ⟨M', c1, c2⟩ := calm
      refine ⟨M', ?_, c2⟩
      rw [if_neg (fun q : zg_gu E.1 (zf_mv E s b) => q.1 ho)]
      simp (disch := omega) only [↓zp_dn, ↓zp_hV, ↓zp_hI, ↓zp_hL, ↓zp_hR, ↓zp_hX, zp_eV, zp_eI, zp_eL, zp_eR, zp_eX, zp_eXl, zp_iV, zp_iI, zp_iL, zp_iR, ↓zp_sm, ↓zp_nls, ↓zp_nln, zp_bo0, zp_bo1, zp_okE, zp_ok2E, zp_rfE, ↓reduceIte, if_true, if_false, zp_leT, zp_leF, zp_ltT, zp_ltF, zp_eqT, zp_eqF, zp_leTl, zp_leFl, zp_ltTl, zp_ltFl, zp_leTr, zp_leFr, zp_ltTr, zp_ltFr, zp_eqTr, zp_eqFr, zp_eqTl, zp_eqFl, zp_eqFll, eq_self, zp_addl, zp_addr, zp_mull, zp_mulr, zp_subr, zp_subl, nI_add, pk_mul, em, zp_1n0, p1, io, if_pos ho, c1]
    · have hh31 : (zf_mv E s b).2.1 < 2 ^ 31 := by have := hA.2.2.2; omega
      have cs : ∀ e, zi_run (e + 1) zm_X2_canSink 0 [some (.inr (.inr (2, some 0))), some (.inr (.inr (7, some (30 + (dd + 1)))))] [] (zp_sp M (30 + (dd + 1)) (zf_mv E s b)) = if zg_gu E.1 (zf_mv E s b) then some (some (.inl 1), zp_sp M (30 + (dd + 1)) (zf_mv E s b)) else some (some (.inl 0), zp_sp M (30 + (dd + 1)) (zf_mv E s b)) := fun e => by
        rw [ze_X2_canSink_0, his.1, his.2.1]
        by_cases hz : (zf_mv E s b).2.1 = 0
        · rw [if_neg (fun q : zg_gu E.1 (zf_mv E s b) => by have := q.2.1; omega), hz, nI_0, show (0 : Int32) - 1 = -1 from by decide]
          simp (disch := omega) only [↓zp_dn, ↓zp_hV, ↓zp_hI, ↓zp_hL, ↓zp_hR, ↓zp_hX, zp_eV, zp_eI, zp_eL, zp_eR, zp_eX, zp_eXl, zp_iV, zp_iI, zp_iL, zp_iR, ↓zp_sm, ↓zp_nls, ↓zp_nln, zp_bo0, zp_bo1, zp_okE, zp_ok2E, zp_rfE, ↓reduceIte, if_true, if_false, zc_lookN _ hA hk1.1.1 b1]
        · have es : nI (zf_mv E s b).2.1 - 1 = nI ((zf_mv E s b).2.1 - 1) := pk_sub (b := 1) (by omega)
          rw [es]
          by_cases h5 : zf_at E.1 (zf_mv E s b).1 ((zf_mv E s b).2.1 - 1) = 5
          · rw [if_neg (fun q : zg_gu E.1 (zf_mv E s b) => q.2.2 h5)]
            simp (disch := omega) only [↓zp_dn, ↓zp_hV, ↓zp_hI, ↓zp_hL, ↓zp_hR, ↓zp_hX, zp_eV, zp_eI, zp_eL, zp_eR, zp_eX, zp_eXl, zp_iV, zp_iI, zp_iL, zp_iR, ↓zp_sm, ↓zp_nls, ↓zp_nln, zp_bo0, zp_bo1, zp_okE, zp_ok2E, zp_rfE, ↓reduceIte, if_true, if_false, zc_look _ hA hk1.1.1 b1 (show (zf_mv E s b).2.1 - 1 < E.1.2.1 from by omega), if_pos h5]
          · rw [if_pos (show zg_gu E.1 (zf_mv E s b) from ⟨ho, by omega, h5⟩)]
            simp (disch := omega) only [↓zp_dn, ↓zp_hV, ↓zp_hI, ↓zp_hL, ↓zp_hR, ↓zp_hX, zp_eV, zp_eI, zp_eL, zp_eR, zp_eX, zp_eXl, zp_iV, zp_iI, zp_iL, zp_iR, ↓zp_sm, ↓zp_nls, ↓zp_nln, zp_bo0, zp_bo1, zp_okE, zp_ok2E, zp_rfE, ↓reduceIte, if_true, if_false, zc_look _ hA hk1.1.1 b1 (show (zf_mv E s b).2.1 - 1 < E.1.2.1 from by omega), if_neg h5]
      by_cases hg : zg_gu E.1 (zf_mv E s b)
      · rw [if_pos hg]
        have hsk : zi_sI (zp_sp M (30 + (dd + 1)) (zf_mv E s b)) 7 (30 + (dd + 1)) 1 (nI ((zf_mv E s b).2.1 - 1)) = zp_sp M (30 + (dd + 1)) (zg_sk (zf_mv E s b)) := by
          refine zp_sp_eq rfl (fun c k' j h => ?_) ?_ (fun j hj => ?_)
          · rw [zp_o1 h, zp_sp1, zp_h1 h]
          · obtain ⟨a0, a1, a2, a3, a4, a5⟩ := his
            exact ⟨by simpa [zp_sI1, zg_sk] using a0, by simp [zp_sI1, zg_sk], by simpa [zp_sI1, zg_sk] using a2, by simpa [zp_sI1, zg_sk] using a3, by simpa [zp_sI1, zg_sk] using a4, by simpa [zp_sI1, zg_sk] using a5⟩
          · rw [zp_o2 (by omega), zp_sp1, if_pos rfl, if_pos rfl]
            simp only [zf_wr]; rw [if_neg (by omega), if_neg (by omega), if_neg (by omega), if_neg (by omega), if_neg (by omega), if_neg (by omega)]
        have es : nI (zf_mv E s b).2.1 - 1 = nI ((zf_mv E s b).2.1 - 1) := pk_sub (b := 1) hg.2.1
        have frs := zg_fr_sp (d := dd) (by omega) M (zg_sk (zf_mv E s b))
        obtain ⟨M2, c1, c2⟩ := zc_settled hA hC d hn (zg_ok_g frs hk) (zp_sp_is M (30 + (dd + 1)) (zg_sk (zf_mv E s b))) b1 (show (zf_mv E s b).2.1 - 1 < E.1.2.1 from by omega)
        have f2 := zg_fr_tr frs c2
        have hk2 := zg_ok_g f2 hk
        have p2 := hk2.2.1
        have x1 := his.2.1
        by_cases hp12 : p = 12
        · refine ⟨M2, ?_, f2⟩
          simp (disch := omega) only [↓zp_dn, ↓zp_hV, ↓zp_hI, ↓zp_hL, ↓zp_hR, ↓zp_hX, zp_eV, zp_eI, zp_eL, zp_eR, zp_eX, zp_eXl, zp_iV, zp_iI, zp_iL, zp_iR, ↓zp_sm, ↓zp_nls, ↓zp_nln, zp_bo0, zp_bo1, zp_okE, zp_ok2E, zp_rfE, ↓reduceIte, if_true, if_false, zp_leT, zp_leF, zp_ltT, zp_ltF, zp_eqT, zp_eqF, zp_leTl, zp_leFl, zp_ltTl, zp_ltFl, zp_leTr, zp_leFr, zp_ltTr, zp_ltFr, zp_eqTr, zp_eqFr, zp_eqTl, zp_eqFl, zp_eqFll, eq_self, zp_addl, zp_addr, zp_mull, zp_mulr, zp_subr, zp_subl, nI_add, pk_mul, em, zp_1n0, p1, io, if_neg ho, cs, if_pos hg, x1, es, hsk, c1, p2]
          rw [hp12, e12, Nat.mul_assoc, Nat.sub_self, Nat.zero_mul, Nat.zero_add]
        · have em2 := mv M2 hk2 (zf_is_g f2 (by omega) hs)
          rw [if_pos hcan] at em2
          have fr3 := zg_fr_tr f2 (zg_fr_sp (d := dd) (by omega) M2 (zf_mv E s b))
          obtain ⟨M4, c3, c4⟩ := zc_settled hA hC d hn (zg_ok_g fr3 hk) (zp_sp_is M2 (30 + (dd + 1)) (zf_mv E s b)) b1 b2
          have f4 := zg_fr_tr fr3 c4
          have p4 := (zg_ok_g f4 hk).2.1
          refine ⟨M4, ?_, f4⟩
          have v1 := zg_v6 (E := E) hp ch (n := n) (dd := dd + 1) hn (dd + 1) (zf_st E (zg_sk (zf_mv E s b)))
          have v2 := zg_v6 (E := E) hp ch (n := n) (dd := dd + 1) hn (dd + 1) (zf_st E (zf_mv E s b))
          have ar : nI (p * (12 ^ (dd + 1) * zg_X E p ch n (dd + 1) (zf_st E (zg_sk (zf_mv E s b)))) + (12 - p) * (12 ^ (dd + 1) * zg_X E p ch n (dd + 1) (zf_st E (zf_mv E s b)))) / 12 = nI (12 ^ dd * ((12 - p) * zg_X E p ch n (dd + 1) (zf_st E (zf_mv E s b)) + p * zg_X E p ch n (dd + 1) (zf_st E (zg_sk (zf_mv E s b))))) := by
            rw [show (12 : Int32) = nI 12 from rfl]
            generalize hS : 12 ^ (dd + 1) * zg_X E p ch n (dd + 1) (zf_st E (zg_sk (zf_mv E s b))) = S at v1 ⊢
            generalize hT : 12 ^ (dd + 1) * zg_X E p ch n (dd + 1) (zf_st E (zf_mv E s b)) = T at v2 ⊢
            have bd1 : p * S ≤ 12 * 2985984 := Nat.mul_le_mul (by omega) v1
            have bd2 : (12 - p) * T ≤ 12 * 2985984 := Nat.mul_le_mul (by omega) v2
            rw [pk_div (by omega) (by decide) (by decide)]
            congr 1
            rw [← hS, ← hT, e12]
            generalize zg_X E p ch n (dd + 1) (zf_st E (zg_sk (zf_mv E s b))) = x
            generalize zg_X E p ch n (dd + 1) (zf_st E (zf_mv E s b)) = y
            generalize 12 ^ dd = w
            have e1 : p * (w * 12 * x) + (12 - p) * (w * 12 * y) = 12 * (w * ((12 - p) * y + p * x)) := by
              rw [Nat.mul_add, Nat.mul_add, Nat.add_comm]
              congr 1
              · rw [show (12 - p) * (w * 12 * y) = 12 * (w * ((12 - p) * y)) from by simp only [Nat.mul_assoc, Nat.mul_left_comm, Nat.mul_comm]]
              · simp only [Nat.mul_assoc, Nat.mul_left_comm, Nat.mul_comm]
            rw [e1, Nat.mul_div_cancel_left _ (by decide)]
          simp (disch := omega) only [↓zp_dn, ↓zp_hV, ↓zp_hI, ↓zp_hL, ↓zp_hR, ↓zp_hX, zp_eV, zp_eI, zp_eL, zp_eR, zp_eX, zp_eXl, zp_iV, zp_iI, zp_iL, zp_iR, ↓zp_sm, ↓zp_nls, ↓zp_nln, zp_bo0, zp_bo1, zp_okE, zp_ok2E, zp_rfE, ↓reduceIte, if_true, if_false, zp_leT, zp_leF, zp_ltT, zp_ltF, zp_eqT, zp_eqF, zp_leTl, zp_leFl, zp_ltTl, zp_ltFl, zp_leTr, zp_leFr, zp_ltTr, zp_ltFr, zp_eqTr, zp_eqFr, zp_eqTl, zp_eqFl, zp_eqFll, eq_self, zp_addl, zp_addr, zp_mull, zp_mulr, zp_subr, zp_subl, nI_add, pk_mul, em, zp_1n0, p1, io, if_neg ho, cs, if_pos hg, x1, es, hsk, c1, p2, em2, c3, p4]
          rw [ar]
      · obtain ⟨M', c1, c2⟩ := calm
        refine ⟨M', ?_, c2⟩
        rw [if_neg hg]
        simp (disch := omega) only [↓zp_dn, ↓zp_hV, ↓zp_hI, ↓zp_hL, ↓zp_hR, ↓zp_hX, zp_eV, zp_eI, zp_eL, zp_eR, zp_eX, zp_eXl, zp_iV, zp_iI, zp_iL, zp_iR, ↓zp_sm, ↓zp_nls, ↓zp_nln, zp_bo0, zp_bo1, zp_okE, zp_ok2E, zp_rfE, ↓reduceIte, if_true, if_false, zp_leT, zp_leF, zp_ltT, zp_ltF, zp_eqT, zp_eqF, zp_leTl, zp_leFl, zp_ltTl, zp_ltFl, zp_leTr, zp_leFr, zp_ltTr, zp_ltFr, zp_eqTr, zp_eqFr, zp_eqTl, zp_eqFl, zp_eqFll, eq_self, zp_addl, zp_addr, zp_mull, zp_mulr, zp_subr, zp_subl, nI_add, pk_mul, em, zp_1n0, p1, io, if_neg ho, cs, if_neg hg, c1]
theorem zg_maxN {a b : Nat} (ha : a < 2 ^ 31) (hb : b < 2 ^ 31) : zi_max (nI a) (nI b) = nI (max a b) := by
  unfold zi_max
  by_cases h : a < b
  · rw [if_pos (nI_lt h hb), Nat.max_eq_right (by omega)]
  · rw [if_neg (nI_nlt (by omega) ha), Nat.max_eq_left (by omega)]
theorem zg_mulmax (w a b : Nat) : max (w * a) (w * b) = w * max a b := by
  by_cases h : a ≤ b
  · rw [Nat.max_eq_right h, Nat.max_eq_right (Nat.mul_le_mul_left w h)]
  · have h' : b ≤ a := by omega
    rw [Nat.max_eq_left h', Nat.max_eq_left (Nat.mul_le_mul_left w h')]
theorem zc_chance0 (E : zf_E) (hA : zf_okE E.1) (p : Nat) (ch : Nat → List Nat) : zg_C E p ch 0 := by
  intro d dd s M hn hk hs h1 h2
  have e6 : dd = 6 := by omega
  subst e6
  have h5 := hs.2.2.2.2.2
  rw [Nat.mul_zero, Nat.add_zero, ze_X3_chance_0, zg_X]
  by_cases hf : s.2.2.2.2.2 = 0
  case neg =>
    refine ⟨M, ?_, zg_fr_rfl 6 M⟩
    rw [if_neg hf]
    simp (disch := omega) only [↓zp_dn, ↓zp_hV, ↓zp_hI, ↓zp_hL, ↓zp_hR, ↓zp_hX, zp_eV, zp_eI, zp_eL, zp_eR, zp_eX, zp_eXl, zp_iV, zp_iI, zp_iL, zp_iR, ↓zp_sm, ↓zp_nls, ↓zp_nln, zp_bo0, zp_bo1, zp_okE, zp_ok2E, zp_rfE, ↓reduceIte, if_true, if_false, zp_leT, zp_leF, zp_ltT, zp_ltF, zp_eqT, zp_eqF, zp_leTl, zp_leFl, zp_ltTl, zp_ltFl, zp_leTr, zp_leFr, zp_ltTr, zp_ltFr, zp_eqTr, zp_eqFr, zp_eqTl, zp_eqFl, zp_eqFll, eq_self, zp_addl, zp_addr, zp_mull, zp_mulr, zp_subr, zp_subl, nI_add, pk_mul, h5, if_neg hf]; rfl
  rw [if_pos hf]
  by_cases ho : zf_over E.1 s
  · refine ⟨M, ?_, zg_fr_rfl 6 M⟩
    rw [if_pos ho]
    simp (disch := omega) only [↓zp_dn, ↓zp_hV, ↓zp_hI, ↓zp_hL, ↓zp_hR, ↓zp_hX, zp_eV, zp_eI, zp_eL, zp_eR, zp_eX, zp_eXl, zp_iV, zp_iI, zp_iL, zp_iR, ↓zp_sm, ↓zp_nls, ↓zp_nln, zp_bo0, zp_bo1, zp_okE, zp_ok2E, zp_rfE, ↓reduceIte, if_true, if_false, zp_leT, zp_leF, zp_ltT, zp_ltF, zp_eqT, zp_eqF, zp_leTl, zp_leFl, zp_ltTl, zp_ltFl, zp_leTr, zp_leFr, zp_ltTr, zp_ltFr, zp_eqTr, zp_eqFr, zp_eqTl, zp_eqFl, zp_eqFll, eq_self, zp_addl, zp_addr, zp_mull, zp_mulr, zp_subr, zp_subl, nI_add, pk_mul, h5, if_pos hf, zc_isOver _ hA hk.1.1 hs.1 h1, if_pos ho, zp_1n0]; rfl
  · rw [if_neg ho]
    have by0 : ∀ (x : Int32) (N : zi_M), zi_run d zm_X3_chanceBy 0 [some (.inr (.inr (3, some 0))), some (.inl (nI 6)), some (.inl x), none, none, none] [] N = some (some (.inl 0), N) := fun x N => by
      rw [ze_X3_chanceBy_0]; simp (disch := omega) only [↓zp_dn, ↓zp_hV, ↓zp_hI, ↓zp_hL, ↓zp_hR, ↓zp_hX, zp_eV, zp_eI, zp_eL, zp_eR, zp_eX, zp_eXl, zp_iV, zp_iI, zp_iL, zp_iR, ↓zp_sm, ↓zp_nls, ↓zp_nln, zp_bo0, zp_bo1, zp_okE, zp_ok2E, zp_rfE, ↓reduceIte, if_true, if_false, zp_leT, zp_leF, zp_ltT, zp_ltF, zp_eqT, zp_eqF, zp_leTl, zp_leFl, zp_ltTl, zp_ltFl, zp_leTr, zp_leFr, zp_ltTr, zp_ltFr, zp_eqTr, zp_eqFr, zp_eqTl, zp_eqFl, zp_eqFll, eq_self, zp_addl, zp_addr, zp_mull, zp_mulr, zp_subr, zp_subl, nI_add, pk_mul]
    refine ⟨M, ?_, zg_fr_rfl 6 M⟩
    rcases hk.2.2 with ⟨q1, q2⟩ | ⟨r, m, q1, q2, q3, q4, q5, q6⟩
    · have z : zi_max 0 0 = 0 := by decide
      have nc : ¬ (2985984 : Int32) ≤ 0 := by decide
      simp (disch := omega) only [↓zp_dn, ↓zp_hV, ↓zp_hI, ↓zp_hL, ↓zp_hR, ↓zp_hX, zp_eV, zp_eI, zp_eL, zp_eR, zp_eX, zp_eXl, zp_iV, zp_iI, zp_iL, zp_iR, ↓zp_sm, ↓zp_nls, ↓zp_nln, zp_bo0, zp_bo1, zp_okE, zp_ok2E, zp_rfE, ↓reduceIte, if_true, if_false, zp_leT, zp_leF, zp_ltT, zp_ltF, zp_eqT, zp_eqF, zp_leTl, zp_leFl, zp_ltTl, zp_ltFl, zp_leTr, zp_leFr, zp_ltTr, zp_ltFr, zp_eqTr, zp_eqFr, zp_eqTl, zp_eqFl, zp_eqFll, eq_self, zp_addl, zp_addr, zp_mull, zp_mulr, zp_subr, zp_subl, nI_add, pk_mul, h5, if_pos hf, zc_isOver _ hA hk.1.1 hs.1 h1, if_neg ho, q1, ze_X3_chance_83, if_neg nc, by0, z, Nat.reduceEqDiff, Nat.reduceLT, Nat.reduceLeDiff, Nat.reduceAdd, Nat.reduceMul, Nat.reduceSub, reduceCtorEq, Int32.reduceLT, Int32.reduceLE, not_true_eq_false, not_false_eq_true, and_true, true_and, and_false, false_and, or_true, true_or, or_false, false_or, Int32.reduceAdd]
      rfl
    · by_cases h6m : 6 < m
      · simp (disch := omega) only [↓zp_dn, ↓zp_hV, ↓zp_hI, ↓zp_hL, ↓zp_hR, ↓zp_hX, zp_eV, zp_eI, zp_eL, zp_eR, zp_eX, zp_eXl, zp_iV, zp_iI, zp_iL, zp_iR, ↓zp_sm, ↓zp_nls, ↓zp_nln, zp_bo0, zp_bo1, zp_okE, zp_ok2E, zp_rfE, ↓reduceIte, if_true, if_false, zp_leT, zp_leF, zp_ltT, zp_ltF, zp_eqT, zp_eqF, zp_leTl, zp_leFl, zp_ltTl, zp_ltFl, zp_leTr, zp_leFr, zp_ltTr, zp_ltFr, zp_eqTr, zp_eqFr, zp_eqTl, zp_eqFl, zp_eqFll, eq_self, zp_addl, zp_addr, zp_mull, zp_mulr, zp_subr, zp_subl, nI_add, pk_mul, h5, if_pos hf, zc_isOver _ hA hk.1.1 hs.1 h1, if_neg ho, q3, ze_X5_has_0, q4, zp_ln r q1, zp_ofn, zp_1n0, zl_get _ r 6 m 40 M (zp_ln r q1) q4 h6m q2 (by decide), by0]
        rfl
      · simp (disch := omega) only [↓zp_dn, ↓zp_hV, ↓zp_hI, ↓zp_hL, ↓zp_hR, ↓zp_hX, zp_eV, zp_eI, zp_eL, zp_eR, zp_eX, zp_eXl, zp_iV, zp_iI, zp_iL, zp_iR, ↓zp_sm, ↓zp_nls, ↓zp_nln, zp_bo0, zp_bo1, zp_okE, zp_ok2E, zp_rfE, ↓reduceIte, if_true, if_false, zp_leT, zp_leF, zp_ltT, zp_ltF, zp_eqT, zp_eqF, zp_leTl, zp_leFl, zp_ltTl, zp_ltFl, zp_leTr, zp_leFr, zp_ltTr, zp_ltFr, zp_eqTr, zp_eqFr, zp_eqTl, zp_eqFl, zp_eqFll, eq_self, zp_addl, zp_addr, zp_mull, zp_mulr, zp_subr, zp_subl, nI_add, pk_mul, h5, if_pos hf, zc_isOver _ hA hk.1.1 hs.1 h1, if_neg ho, q3, ze_X5_has_0, q4, zp_ln r q1, zp_ofn]
        rfl
theorem zc_chance (E : zf_E) (hA : zf_okE E.1) {p : Nat} (hp : p ≤ 12) (ch : Nat → List Nat) : ∀ n, zg_C E p ch n := by
  intro n
  induction n with
  | zero => exact zc_chance0 E hA p ch
  | succ n ih =>
    intro d dd s M hn hk hs h1 h2
    have h5 := hs.2.2.2.2.2
    rw [show d + 3 * (n + 1) + 1 = (d + 3 * n + 3) + 1 from by omega, ze_X3_chance_0, zg_X]
    by_cases hf : s.2.2.2.2.2 = 0
    case neg =>
      refine ⟨M, ?_, zg_fr_rfl dd M⟩
      rw [if_neg hf]
      simp (disch := omega) only [↓zp_dn, ↓zp_hV, ↓zp_hI, ↓zp_hL, ↓zp_hR, ↓zp_hX, zp_eV, zp_eI, zp_eL, zp_eR, zp_eX, zp_eXl, zp_iV, zp_iI, zp_iL, zp_iR, ↓zp_sm, ↓zp_nls, ↓zp_nln, zp_bo0, zp_bo1, zp_okE, zp_ok2E, zp_rfE, ↓reduceIte, if_true, if_false, zp_leT, zp_leF, zp_ltT, zp_ltF, zp_eqT, zp_eqF, zp_leTl, zp_leFl, zp_ltTl, zp_ltFl, zp_leTr, zp_leFr, zp_ltTr, zp_ltFr, zp_eqTr, zp_eqFr, zp_eqTl, zp_eqFl, zp_eqFll, eq_self, zp_addl, zp_addr, zp_mull, zp_mulr, zp_subr, zp_subl, nI_add, pk_mul, h5, if_neg hf, Nat.mul_zero]; rfl
    rw [if_pos hf]
    by_cases ho : zf_over E.1 s
    · refine ⟨M, ?_, zg_fr_rfl dd M⟩
      rw [if_pos ho, ← Nat.pow_add, hn]
      simp (disch := omega) only [↓zp_dn, ↓zp_hV, ↓zp_hI, ↓zp_hL, ↓zp_hR, ↓zp_hX, zp_eV, zp_eI, zp_eL, zp_eR, zp_eX, zp_eXl, zp_iV, zp_iI, zp_iL, zp_iR, ↓zp_sm, ↓zp_nls, ↓zp_nln, zp_bo0, zp_bo1, zp_okE, zp_ok2E, zp_rfE, ↓reduceIte, if_true, if_false, zp_leT, zp_leF, zp_ltT, zp_ltF, zp_eqT, zp_eqF, zp_leTl, zp_leFl, zp_ltTl, zp_ltFl, zp_leTr, zp_leFr, zp_ltTr, zp_ltFr, zp_eqTr, zp_eqFr, zp_eqTl, zp_eqFl, zp_eqFll, eq_self, zp_addl, zp_addr, zp_mull, zp_mulr, zp_subr, zp_subl, nI_add, pk_mul, h5, if_pos hf, zc_isOver _ hA hk.1.1 hs.1 h1, if_pos ho, zp_1n0]; rfl
    · rw [if_neg ho]
      have cb : ∀ (N : zi_M) (b : Nat), zg_fr dd M N → b < 3 → ∃ M', zi_run (d + 3 * n + 3) zm_X3_chanceBy 0 [some (.inr (.inr (3, some 0))), some (.inl (nI dd)), some (.inl (nI b)), none, none, none] [] N = some (some (.inl (nI (12 ^ dd * zg_G E p (zg_X E p ch n (dd + 1)) s b))), M') ∧ zg_fr dd M M' := fun N b hN hb => by
        obtain ⟨M', e1, e2⟩ := zc_cby hA hp ih d (by omega) (zg_ok_g hN hk) (zf_is_g hN (by omega) hs) h1 h2 hb
        exact ⟨M', e1, zg_fr_tr hN e2⟩
      have gb : ∀ b, 12 ^ dd * zg_G E p (zg_X E p ch n (dd + 1)) s b ≤ 2985984 := fun b => by
        have h3 := zg_G_le (E := E) hp (zg_X_le E hp ch n (dd + 1)) s b
        have h4 : 12 ^ dd * zg_G E p (zg_X E p ch n (dd + 1)) s b ≤ 12 ^ dd * (12 * 12 ^ n) := Nat.mul_le_mul_left _ h3
        rw [show 12 * 12 ^ n = 12 ^ (n + 1) from by rw [Nat.pow_succ]; omega, ← Nat.pow_add, hn] at h4
        exact h4
      generalize hw : 12 ^ dd = w at cb gb ⊢
      generalize hg : zg_G E p (zg_X E p ch n (dd + 1)) s = g at cb gb ⊢
      rcases hk.2.2 with ⟨q1, q2⟩ | ⟨r, m, q1, q2, q3, q4, q5, q6⟩
      · have lp : ∀ (k b m : Nat) (N : zi_M), b + k = 3 → zg_fr dd M N → w * m ≤ 2985984 → ∃ M', zi_run (d + 3 * n + 3 + 1) zm_X3_chance 83 [some (.inr (.inr (3, some 0))), some (.inl (nI dd)), some (.inl (nI (w * m))), some (.inl (nI b))] [] N = some (some (.inl (nI (w * zg_mx g (List.range' b k) m))), M') ∧ zg_fr dd M M' := by
          intro k
          induction k with
          | zero =>
            intro b m N hb hN hm
            refine ⟨N, ?_, hN⟩
            rw [ze_X3_chance_83]
            simp (disch := omega) only [↓zp_dn, ↓zp_hV, ↓zp_hI, ↓zp_hL, ↓zp_hR, ↓zp_hX, zp_eV, zp_eI, zp_eL, zp_eR, zp_eX, zp_eXl, zp_iV, zp_iI, zp_iL, zp_iR, ↓zp_sm, ↓zp_nls, ↓zp_nln, zp_bo0, zp_bo1, zp_okE, zp_ok2E, zp_rfE, ↓reduceIte, if_true, if_false, zp_leT, zp_leF, zp_ltT, zp_ltF, zp_eqT, zp_eqF, zp_leTl, zp_leFl, zp_ltTl, zp_ltFl, zp_leTr, zp_leFr, zp_ltTr, zp_ltFr, zp_eqTr, zp_eqFr, zp_eqTl, zp_eqFl, zp_eqFll, eq_self, zp_addl, zp_addr, zp_mull, zp_mulr, zp_subr, zp_subl, nI_add, pk_mul]; rfl
          | succ k ihk =>
            intro b m N hb hN hm
            have hgb := gb b
            rw [ze_X3_chance_83]
            by_cases hfull : 2985984 ≤ w * m
            · refine ⟨N, ?_, hN⟩
              have e : w * zg_mx g (List.range' b (k + 1)) m = w * m := by
                have gen : ∀ (l : List Nat) (x : Nat), m ≤ x → w * x ≤ 2985984 → w * zg_mx g l x = w * m := by
                  intro l
                  induction l with
                  | nil =>
                    intro x hx hx2
                    have : w * m ≤ w * x := Nat.mul_le_mul_left w hx
                    show w * x = w * m; omega
                  | cons b l ihl =>
                    intro x hx hx2
                    refine ihl (max x (g b)) (by omega) ?_
                    rw [← zg_mulmax]
                    have := gb b
                    omega
                exact gen _ m (Nat.le_refl m) hm
              rw [e]
              simp (disch := omega) only [↓zp_dn, ↓zp_hV, ↓zp_hI, ↓zp_hL, ↓zp_hR, ↓zp_hX, zp_eV, zp_eI, zp_eL, zp_eR, zp_eX, zp_eXl, zp_iV, zp_iI, zp_iL, zp_iR, ↓zp_sm, ↓zp_nls, ↓zp_nln, zp_bo0, zp_bo1, zp_okE, zp_ok2E, zp_rfE, ↓reduceIte, if_true, if_false, zp_leT, zp_leF, zp_ltT, zp_ltF, zp_eqT, zp_eqF, zp_leTl, zp_leFl, zp_ltTl, zp_ltFl, zp_leTr, zp_leFr, zp_ltTr, zp_ltFr, zp_eqTr, zp_eqFr, zp_eqTl, zp_eqFl, zp_eqFll, eq_self, zp_addl, zp_addr, zp_mull, zp_mulr, zp_subr, zp_subl, nI_add, pk_mul]
            · obtain ⟨M1, c1, c2⟩ := cb N b hN (by omega)
              obtain ⟨M', f1, f2⟩ := ihk (b + 1) (max m (g b)) M1 (by omega) c2 (by rw [← zg_mulmax]; omega)
              refine ⟨M', ?_, f2⟩
              have em : zi_max (nI (w * m)) (nI (w * g b)) = nI (w * max m (g b)) := by rw [zg_maxN (by omega) (by omega), zg_mulmax]
              rw [show List.range' b (k + 1) = b :: List.range' (b + 1) k from rfl]
              refine Eq.trans ?_ f1
              simp (disch := omega) only [↓zp_dn, ↓zp_hV, ↓zp_hI, ↓zp_hL, ↓zp_hR, ↓zp_hX, zp_eV, zp_eI, zp_eL, zp_eR, zp_eX, zp_eXl, zp_iV, zp_iI, zp_iL, zp_iR, ↓zp_sm, ↓zp_nls, ↓zp_nln, zp_bo0, zp_bo1, zp_okE, zp_ok2E, zp_rfE, ↓reduceIte, if_true, if_false, zp_leT, zp_leF, zp_ltT, zp_ltF, zp_eqT, zp_eqF, zp_leTl, zp_leFl, zp_ltTl, zp_ltFl, zp_leTr, zp_leFr, zp_ltTr, zp_ltFr, zp_eqTr, zp_eqFr, zp_eqTl, zp_eqFl, zp_eqFll, eq_self, zp_addl, zp_addr, zp_mull, zp_mulr, zp_subr, zp_subl, nI_add, pk_mul, c1, em]
        obtain ⟨M', f1, f2⟩ := lp 3 0 0 M (by omega) (zg_fr_rfl dd M) (by omega)
        refine ⟨M', ?_, f2⟩
        rw [q2]
        refine Eq.trans ?_ f1
        simp (disch := omega) only [↓zp_dn, ↓zp_hV, ↓zp_hI, ↓zp_hL, ↓zp_hR, ↓zp_hX, zp_eV, zp_eI, zp_eL, zp_eR, zp_eX, zp_eXl, zp_iV, zp_iI, zp_iL, zp_iR, ↓zp_sm, ↓zp_nls, ↓zp_nln, zp_bo0, zp_bo1, zp_okE, zp_ok2E, zp_rfE, ↓reduceIte, if_true, if_false, zp_leT, zp_leF, zp_ltT, zp_ltF, zp_eqT, zp_eqF, zp_leTl, zp_leFl, zp_ltTl, zp_ltFl, zp_leTr, zp_leFr, zp_ltTr, zp_ltFr, zp_eqTr, zp_eqFr, zp_eqTl, zp_eqFl, zp_eqFll, eq_self, zp_addl, zp_addr, zp_mull, zp_mulr, zp_subr, zp_subl, nI_add, pk_mul, h5, if_pos hf, zc_isOver _ hA hk.1.1 hs.1 h1, if_neg ho, q1, Nat.mul_zero]
        rfl
      · by_cases hm : dd < m
        · have hb := zj_bE (q5 dd hm)
          obtain ⟨M1, c1, c2⟩ := cb M (zj_b (M.1 12 r dd)) (zg_fr_rfl dd M) hb.2
          refine ⟨M1, ?_, c2⟩
          have hget : ∀ e, zi_run e zm_X5_get 0 [some (.inr (.inr (5, some r))), some (.inl (nI dd))] [] M = some (some (.inl (nI (zj_b (M.1 12 r dd)))), M) := fun e => by
            rw [zl_get e r dd m 40 M (zp_ln r q1) q4 hm q2 (by decide)]; rw [← hb.1]
          have e1 : zg_mx g (ch dd) 0 = g (zj_b (M.1 12 r dd)) := by
            rw [q6]; simp only [if_pos hm, zg_mx, List.foldl_cons, List.foldl_nil, Nat.zero_max]
          rw [e1]
          simp (disch := omega) only [↓zp_dn, ↓zp_hV, ↓zp_hI, ↓zp_hL, ↓zp_hR, ↓zp_hX, zp_eV, zp_eI, zp_eL, zp_eR, zp_eX, zp_eXl, zp_iV, zp_iI, zp_iL, zp_iR, ↓zp_sm, ↓zp_nls, ↓zp_nln, zp_bo0, zp_bo1, zp_okE, zp_ok2E, zp_rfE, ↓reduceIte, if_true, if_false, zp_leT, zp_leF, zp_ltT, zp_ltF, zp_eqT, zp_eqF, zp_leTl, zp_leFl, zp_ltTl, zp_ltFl, zp_leTr, zp_leFr, zp_ltTr, zp_ltFr, zp_eqTr, zp_eqFr, zp_eqTl, zp_eqFl, zp_eqFll, eq_self, zp_addl, zp_addr, zp_mull, zp_mulr, zp_subr, zp_subl, nI_add, pk_mul, h5, if_pos hf, zc_isOver _ hA hk.1.1 hs.1 h1, if_neg ho, q3, ze_X5_has_0, q4, zp_ln r q1, zp_ofn, zp_1n0, hget, c1]
        · refine ⟨M, ?_, zg_fr_rfl dd M⟩
          have e1 : zg_mx g (ch dd) 0 = 0 := by
            rw [q6]; simp only [if_neg hm, zg_mx, List.foldl_nil]
          rw [e1, Nat.mul_zero]
          simp (disch := omega) only [↓zp_dn, ↓zp_hV, ↓zp_hI, ↓zp_hL, ↓zp_hR, ↓zp_hX, zp_eV, zp_eI, zp_eL, zp_eR, zp_eX, zp_eXl, zp_iV, zp_iI, zp_iL, zp_iR, ↓zp_sm, ↓zp_nls, ↓zp_nln, zp_bo0, zp_bo1, zp_okE, zp_ok2E, zp_rfE, ↓reduceIte, if_true, if_false, zp_leT, zp_leF, zp_ltT, zp_ltF, zp_eqT, zp_eqF, zp_leTl, zp_leFl, zp_ltTl, zp_ltFl, zp_leTr, zp_leFr, zp_ltTr, zp_ltFr, zp_eqTr, zp_eqFr, zp_eqTl, zp_eqFl, zp_eqFll, eq_self, zp_addl, zp_addr, zp_mull, zp_mulr, zp_subr, zp_subl, nI_add, pk_mul, h5, if_pos hf, zc_isOver _ hA hk.1.1 hs.1 h1, if_neg ho, q3, ze_X5_has_0, q4, zp_ln r q1, zp_ofn]
          rfl
