/-! THE PURE PART: GUSTS, the reference: the level's start, its end, the whole pile -/
def zg_W (N : zi_M) (dd b B : Nat) : zi_M := zi_sI (zi_sI (zi_sL (zi_sI N 39 0 dd (nI b)) 42 0 dd (lN B)) 43 0 dd (-9)) 40 0 dd 1
theorem zr_g0b (d : Nat) {A : zf_A} (hA : zf_okE A) {N : zi_M} (hRA : zf_rA (N.1 28 0) A) {dd : Nat} (hd : dd ≤ 6) {s : zf_S} (h18 : N.1 10 0 18 = nI s.1) (h23 : N.1 10 0 23 = s.2.2.2.2.2) (h1 : s.1 < A.1) {x2 : Int32} (p : Nat) (y : Int64) (b : Nat) (x : Int32) : zi_run (d + 4) zm_X10_chances 94 [some (.inr (.inr (10, some 0))), none, some (.inl x2), some (.inl (nI p)), some (.inl (nI dd)), some (.inr (.inl y)), none, some (.inl (nI b)), none] [.inl x] N = zg_run d x2 p (nI dd) y (zg_W N dd (if s.2.2.2.2.2 = 0 ∧ ¬ zf_over A s ∧ x = 0 then b else 3) (if s.2.2.2.2.2 = 0 ∧ zf_over A s then 12 ^ (8 - dd) else 0)) := by
  have ov : ∀ e, zi_run (e + 1) zm_X10_isOver 0 [some (.inr (.inr (10, some 0)))] [] N = _ := fun e => zr_isOver e hA hRA h18 h1
  have ov2 : ∀ e z, zi_run (e + 1) zm_X10_isOver 0 [some (.inr (.inr (10, some 0)))] [] (zi_sI N 39 0 dd z) = if zf_over A s then some (some (.inl 1), zi_sI N 39 0 dd z) else some (some (.inl 0), zi_sI N 39 0 dd z) := fun e z => zr_isOver e hA (show zf_rA ((zi_sI N 39 0 dd z).1 28 0) A from hRA) (show (zi_sI N 39 0 dd z).1 10 0 18 = nI s.1 from h18) h1
  have e8 : 8 - nI dd = nI (8 - dd) := pk_sub (a := 8) (by omega)
  show _ = zi_run (d + 4) _ _ _ _ _
  rw [ze_X10_chances_94]
  by_cases hf : s.2.2.2.2.2 = 0
  · by_cases ho : zf_over A s
    · rw [if_neg (fun q : s.2.2.2.2.2 = 0 ∧ ¬ zf_over A s ∧ x = 0 => q.2.1 ho), if_pos (show s.2.2.2.2.2 = 0 ∧ zf_over A s from ⟨hf, ho⟩)]
      simp (disch := omega) only [↓zp_dn, ↓zp_hV, ↓zp_hI, ↓zp_hL, ↓zp_hR, ↓zp_hX, zp_eV, zp_eI, zp_eL, zp_eR, zp_eX, zp_eXl, zp_iV, zp_iI, zp_iL, zp_iR, ↓zp_sm, ↓zp_nls, ↓zp_nln, zp_bo0, zp_bo1, zp_okE, zp_ok2E, zp_rfE, ↓reduceIte, if_true, if_false, zp_leT, zp_leF, zp_ltT, zp_ltF, zp_eqT, zp_eqF, zp_leTl, zp_leFl, zp_ltTl, zp_ltFl, zp_leTr, zp_leFr, zp_ltTr, zp_ltFr, zp_eqTr, zp_eqFr, zp_eqTl, zp_eqFl, zp_eqFll, eq_self, zp_addl, zp_addr, zp_mull, zp_mulr, zp_subr, zp_subl, nI_add, pk_mul, h23, if_pos hf, ov, ov2, if_pos ho, zp_1n0, ze_X10_chances_121, ze_X10_chances_127, ze_X10_chances_160, e8, zr_twelves]
      rfl
    · rw [if_neg (fun q : s.2.2.2.2.2 = 0 ∧ zf_over A s => ho q.2)]
      by_cases hx : x = 0
      · rw [if_pos (show s.2.2.2.2.2 = 0 ∧ ¬ zf_over A s ∧ x = 0 from ⟨hf, ho, hx⟩)]
        simp (disch := omega) only [↓zp_dn, ↓zp_hV, ↓zp_hI, ↓zp_hL, ↓zp_hR, ↓zp_hX, zp_eV, zp_eI, zp_eL, zp_eR, zp_eX, zp_eXl, zp_iV, zp_iI, zp_iL, zp_iR, ↓zp_sm, ↓zp_nls, ↓zp_nln, zp_bo0, zp_bo1, zp_okE, zp_ok2E, zp_rfE, ↓reduceIte, if_true, if_false, zp_leT, zp_leF, zp_ltT, zp_ltF, zp_eqT, zp_eqF, zp_leTl, zp_leFl, zp_ltTl, zp_ltFl, zp_leTr, zp_leFr, zp_ltTr, zp_ltFr, zp_eqTr, zp_eqFr, zp_eqTl, zp_eqFl, zp_eqFll, eq_self, zp_addl, zp_addr, zp_mull, zp_mulr, zp_subr, zp_subl, nI_add, pk_mul, h23, if_pos hf, ov, ov2, if_neg ho, if_pos hx, ze_X10_chances_127, ze_X10_chances_159, ze_X10_chances_160]
        rfl
      · rw [if_neg (fun q : s.2.2.2.2.2 = 0 ∧ ¬ zf_over A s ∧ x = 0 => hx q.2.2)]
        simp (disch := omega) only [↓zp_dn, ↓zp_hV, ↓zp_hI, ↓zp_hL, ↓zp_hR, ↓zp_hX, zp_eV, zp_eI, zp_eL, zp_eR, zp_eX, zp_eXl, zp_iV, zp_iI, zp_iL, zp_iR, ↓zp_sm, ↓zp_nls, ↓zp_nln, zp_bo0, zp_bo1, zp_okE, zp_ok2E, zp_rfE, ↓reduceIte, if_true, if_false, zp_leT, zp_leF, zp_ltT, zp_ltF, zp_eqT, zp_eqF, zp_leTl, zp_leFl, zp_ltTl, zp_ltFl, zp_leTr, zp_leFr, zp_ltTr, zp_ltFr, zp_eqTr, zp_eqFr, zp_eqTl, zp_eqFl, zp_eqFll, eq_self, zp_addl, zp_addr, zp_mull, zp_mulr, zp_subr, zp_subl, nI_add, pk_mul, h23, if_pos hf, ov, ov2, if_neg ho, if_neg hx, ze_X10_chances_121, ze_X10_chances_127, ze_X10_chances_159, ze_X10_chances_160]
        rfl
  · rw [if_neg (fun q : s.2.2.2.2.2 = 0 ∧ ¬ zf_over A s ∧ x = 0 => hf q.1), if_neg (fun q : s.2.2.2.2.2 = 0 ∧ zf_over A s => hf q.1)]
    simp (disch := omega) only [↓zp_dn, ↓zp_hV, ↓zp_hI, ↓zp_hL, ↓zp_hR, ↓zp_hX, zp_eV, zp_eI, zp_eL, zp_eR, zp_eX, zp_eXl, zp_iV, zp_iI, zp_iL, zp_iR, ↓zp_sm, ↓zp_nls, ↓zp_nln, zp_bo0, zp_bo1, zp_okE, zp_ok2E, zp_rfE, ↓reduceIte, if_true, if_false, zp_leT, zp_leF, zp_ltT, zp_ltF, zp_eqT, zp_eqF, zp_leTl, zp_leFl, zp_ltTl, zp_ltFl, zp_leTr, zp_leFr, zp_ltTr, zp_ltFr, zp_eqTr, zp_eqFr, zp_eqTl, zp_eqFl, zp_eqFll, eq_self, zp_addl, zp_addr, zp_mull, zp_mulr, zp_subr, zp_subl, nI_add, pk_mul, h23, if_neg hf, ze_X10_chances_121, ze_X10_chances_127, ze_X10_chances_159, ze_X10_chances_160]
    rfl
theorem zr_g0 (d : Nat) {E : zf_E} (hA : zf_okE E.1) {M : zi_M} (hE : zf_rE M E) {dd : Nat} (hd : dd ≤ 6) {s : zf_S} (h1 : s.1 < E.1.1) {x2 : Int32} {ch : Nat → List Nat} (hc : zg_rc M x2 ch) (p : Nat) (y : Int64) (hs : zf_is (fun j => M.1 38 0 (7 * dd + j)) s) (h0 : M.1 40 0 dd = 0) : ∃ M', zg_run d x2 p (nI dd) y M = zg_run d x2 p (nI dd) y M' ∧ zg_fR dd M M' ∧ zg_lv M' dd s 1 (if s.2.2.2.2.2 = 0 ∧ ¬ zf_over E.1 s then (ch dd).headD 3 else 3) (if s.2.2.2.2.2 = 0 ∧ zf_over E.1 s then 12 ^ (8 - dd) else 0) (-9) := by
  have h0' : (zp_rp M s).1 40 0 dd = 0 := by simp [zp_rp1, h0]
  have hs1 := zp_rp_is M s
  have hR := (zf_rE_rp hE s).1
  have fin : ∀ b B, b = (if s.2.2.2.2.2 = 0 ∧ ¬ zf_over E.1 s then (ch dd).headD 3 else 3) → B = (if s.2.2.2.2.2 = 0 ∧ zf_over E.1 s then 12 ^ (8 - dd) else 0) → zg_run d x2 p (nI dd) y M = zg_run d x2 p (nI dd) y (zg_W (zp_rp M s) dd b B) → ∃ M', zg_run d x2 p (nI dd) y M = zg_run d x2 p (nI dd) y M' ∧ zg_fR dd M M' ∧ zg_lv M' dd s 1 (if s.2.2.2.2.2 = 0 ∧ ¬ zf_over E.1 s then (ch dd).headD 3 else 3) (if s.2.2.2.2.2 = 0 ∧ zf_over E.1 s then 12 ^ (8 - dd) else 0) (-9) := fun b B hb hB e => by
    refine ⟨_, e, zg_fR_I (zg_fR_I (zg_fR_L (zg_fR_I (zg_fR_rp (zg_fR_rfl dd M) s) (by omega) _) (by omega) _) (by omega) _) (by omega) _, ?_⟩
    rw [← hb, ← hB]
    exact ⟨by simpa [zg_W, zf_is, zp_sI1, zp_sL1, zp_rp1] using hs, by simp [zg_W, zp_sI1]; rfl, by simp [zg_W, zp_sI1, zp_sL1], by simp [zg_W, zp_sI2, zp_sL2], by simp [zg_W, zp_sI1]⟩
  have st := fun e => zr_stands e (show dd < 9 from by omega) hs
  rcases hc with ⟨q1, q2⟩ | ⟨r, m, a1, a2, a3, a4, a5, a6⟩
  · refine fin (if s.2.2.2.2.2 = 0 ∧ ¬ zf_over E.1 s ∧ (0 : Int32) = 0 then 0 else 3) _ ?_ rfl ?_
    · simp [q2]
    · refine Eq.trans ?_ (zr_g0b d hA hR hd hs1.1 hs1.2.2.2.2.2 h1 p y 0 0)
      show zi_run (d + 4) _ _ _ _ _ = _
      rw [ze_X10_chances_16]
      simp (disch := omega) only [↓zp_dn, ↓zp_hV, ↓zp_hI, ↓zp_hL, ↓zp_hR, ↓zp_hX, zp_eV, zp_eI, zp_eL, zp_eR, zp_eX, zp_eXl, zp_iV, zp_iI, zp_iL, zp_iR, ↓zp_sm, ↓zp_nls, ↓zp_nln, zp_bo0, zp_bo1, zp_okE, zp_ok2E, zp_rfE, ↓reduceIte, if_true, if_false, zp_leT, zp_leF, zp_ltT, zp_ltF, zp_eqT, zp_eqF, zp_leTl, zp_leFl, zp_ltTl, zp_ltFl, zp_leTr, zp_leFr, zp_ltTr, zp_ltFr, zp_eqTr, zp_eqFr, zp_eqTl, zp_eqFl, zp_eqFll, eq_self, zp_addl, zp_addr, zp_mull, zp_mulr, zp_subr, zp_subl, nI_add, pk_mul, st, h0', if_pos q1, ze_X10_chances_54, ze_X10_chances_70, ze_X10_chances_93]
      rfl
  · have e24 : (zp_rp M s).1 24 0 r = nI m := by simp [zp_rp1, a4]
    have e25 : (zp_rp M s).1 25 0 (40 * r + dd) = M.1 25 0 (40 * r + dd) := by simp [zp_rp1]
    have n9 : ¬ nI r = (-9 : Int32) := by
      intro q
      have : nI r < 0 := by rw [q]; decide
      simp (disch := omega) only [zp_leT, zp_leF, zp_ltT, zp_ltF, zp_eqT, zp_eqF, zp_leTl, zp_leFl, zp_ltTl, zp_ltFl, zp_leTr, zp_leFr, zp_ltTr, zp_ltFr, zp_eqTr, zp_eqFr, zp_eqTl, zp_eqFl, zp_eqFll, eq_self, zp_addl, zp_addr, zp_mull, zp_mulr, zp_subr, zp_subl, nI_add, pk_mul] at this
    subst a3
    by_cases hm : dd < m
    · have hb := zj_bE (a5 dd hm)
      refine fin (if s.2.2.2.2.2 = 0 ∧ ¬ zf_over E.1 s ∧ (0 : Int32) = 0 then zj_b (M.1 25 0 (40 * r + dd)) else 3) _ ?_ rfl ?_
      · simp [a6, hm]
      · refine Eq.trans ?_ (zr_g0b d hA hR hd hs1.1 hs1.2.2.2.2.2 h1 p y (zj_b (M.1 25 0 (40 * r + dd))) 0)
        rw [← hb.1]
        show zi_run (d + 4) _ _ _ _ _ = _
        rw [ze_X10_chances_16]
        simp (disch := omega) only [↓zp_dn, ↓zp_hV, ↓zp_hI, ↓zp_hL, ↓zp_hR, ↓zp_hX, zp_eV, zp_eI, zp_eL, zp_eR, zp_eX, zp_eXl, zp_iV, zp_iI, zp_iL, zp_iR, ↓zp_sm, ↓zp_nls, ↓zp_nln, zp_bo0, zp_bo1, zp_okE, zp_ok2E, zp_rfE, ↓reduceIte, if_true, if_false, zp_leT, zp_leF, zp_ltT, zp_ltF, zp_eqT, zp_eqF, zp_leTl, zp_leFl, zp_ltTl, zp_ltFl, zp_leTr, zp_leFr, zp_ltTr, zp_ltFr, zp_eqTr, zp_eqFr, zp_eqTl, zp_eqFl, zp_eqFll, eq_self, zp_addl, zp_addr, zp_mull, zp_mulr, zp_subr, zp_subl, nI_add, pk_mul, st, h0', if_neg n9, e24, e25, ze_X10_chances_70, ze_X10_chances_93]
    · refine fin (if s.2.2.2.2.2 = 0 ∧ ¬ zf_over E.1 s ∧ (1 : Int32) = 0 then 0 else 3) _ ?_ rfl ?_
      · simp [a6, hm]
      · refine Eq.trans ?_ (zr_g0b d hA hR hd hs1.1 hs1.2.2.2.2.2 h1 p y 0 1)
        show zi_run (d + 4) _ _ _ _ _ = _
        rw [ze_X10_chances_16]
        simp (disch := omega) only [↓zp_dn, ↓zp_hV, ↓zp_hI, ↓zp_hL, ↓zp_hR, ↓zp_hX, zp_eV, zp_eI, zp_eL, zp_eR, zp_eX, zp_eXl, zp_iV, zp_iI, zp_iL, zp_iR, ↓zp_sm, ↓zp_nls, ↓zp_nln, zp_bo0, zp_bo1, zp_okE, zp_ok2E, zp_rfE, ↓reduceIte, if_true, if_false, zp_leT, zp_leF, zp_ltT, zp_ltF, zp_eqT, zp_eqF, zp_leTl, zp_leFl, zp_ltTl, zp_ltFl, zp_leTr, zp_leFr, zp_ltTr, zp_ltFr, zp_eqTr, zp_eqFr, zp_eqTl, zp_eqFl, zp_eqFll, eq_self, zp_addl, zp_addr, zp_mull, zp_mulr, zp_subr, zp_subl, nI_add, pk_mul, st, h0', if_neg n9, e24, ze_X10_chances_54, ze_X10_chances_70]
        rfl
/-- phase 2: a GUST may be -/
theorem zr_g2g (d : Nat) {E : zf_E} (hA : zf_okE E.1) {M : zi_M} (hE : zf_rE M E) {dd : Nat} (hd : dd < 8) {s : zf_S} (h1 : s.1 < E.1.1) (h2 : s.2.1 < E.1.2.1) {b B : Nat} {P x2 : Int32} {p : Nat} (hp : p ≤ 12) (v : Nat) (hb : b < 3) (hl : zg_lv M dd s 2 b B P) (hcan : zf_can E.1 s b) (hg : zg_gu E.1 (zf_mv E s b)) : ∃ M', zg_run d x2 p (nI dd) (lN v) M = zg_run d x2 p (nI (dd + 1)) (lN v) M' ∧ zg_fR dd M M' ∧ zg_lv M' dd s 3 b B P ∧ M'.2.1 41 0 dd = lN (v * (12 - p)) ∧ zf_is (fun j => M'.1 38 0 (7 * (dd + 1) + j)) (zf_st E (zg_sk (zf_mv E s b))) ∧ M'.1 40 0 (dd + 1) = 0 := by
  obtain ⟨l1, l2, l3, l4, l5⟩ := hl
  have l2' : (zp_rp M s).1 40 0 dd = 2 := by simp [zp_rp1, l2]; rfl
  have l3' : (zp_rp M s).1 39 0 dd = nI b := by simp [zp_rp1, l3]
  have hE1 := zf_rE_rp hE s
  have hs1 := zp_rp_is M s
  have mv : ∀ e, zi_run (e + 2) zm_X10_moves 0 [some (.inr (.inr (10, some 0))), some (.inl (nI b))] [] (zp_rp M s) = _ := fun e => zr_moves e hA hE1 hs1 h1 h2 hb hcan.2.2.1
  have hE2 := zf_rE_rp hE1 (zf_mv E s b)
  have hs2 := zp_rp_is (zp_rp M s) (zf_mv E s b)
  have gu : ∀ e, zi_run (e + 2) zm_X10_mayGust 0 [some (.inr (.inr (10, some 0)))] [] (zp_rp (zp_rp M s) (zf_mv E s b)) = _ := fun e => zr_gust e hA hE2.1 hs2.1 hs2.2.1 (zf_col_lt hA s) hcan.2.2.2.1
  have h19 : (zp_rp (zp_rp M s) (zf_mv E s b)).1 10 0 19 = nI (zf_mv E s b).2.1 := hs2.2.1
  have hh : 0 < (zf_mv E s b).2.1 := hg.2.1
  have hh5 : (zf_mv E s b).2.1 < E.1.2.1 := hcan.2.2.2.1
  have a5 := hA.2.2.2
  have e1 : nI (zf_mv E s b).2.1 - 1 = nI ((zf_mv E s b).2.1 - 1) := pk_sub (b := 1) (by omega)
  have e12 : 12 - nI p = nI (12 - p) := pk_sub (a := 12) (by omega)
  have e64 : lN v * Int32.toInt64 (nI (12 - p)) = lN (v * (12 - p)) := by rw [nI_l (by omega), lN_mul]
  obtain ⟨N, hN⟩ : ∃ N, N = zi_sI (zi_sI (zi_sL (zp_rp (zp_rp M s) (zf_mv E s b)) 41 0 dd (lN (v * (12 - p)))) 40 0 dd 3) 10 0 19 (nI ((zf_mv E s b).2.1 - 1)) := ⟨_, rfl⟩
  have frN : zg_fR dd M N := by rw [hN]; exact zg_fR_I (zg_fR_I (zg_fR_L (zg_fR_rp (zg_fR_rp (zg_fR_rfl dd M) _) _) (by omega) _) (by omega) _) (by omega) _
  have hsN : zf_rs N (zg_sk (zf_mv E s b)) := by
    rw [hN]
    have := hs2
    simp [zf_rs, zf_is] at this
    simp [zf_rs, zf_is, zp_sI1, zp_sL1, zg_sk, this]
  have lvN : zg_lv N dd s 3 b B P := by
    rw [hN]
    exact ⟨by simpa [zf_is, zp_sI1, zp_sL1, zp_rp1] using l1, by simp [zp_sI1]; rfl, by simpa [zp_sI1, zp_sL1, zp_rp1] using l3, by simpa [zp_sI2, zp_sL2, zp_rp2] using l4, by simpa [zp_sI1, zp_sL1, zp_rp1] using l5⟩
  have gN : N.2.1 41 0 dd = lN (v * (12 - p)) := by rw [hN]; simp [zp_sI2, zp_sL2]
  have st : ∀ e, zi_run (e + 1) zm_X10_settles 0 [some (.inr (.inr (10, some 0))), none, none] [] N = _ := fun e => zr_settles e hA (zf_rE_g frN hE) hsN (zf_col_lt hA s) (show (zf_mv E s b).2.1 - 1 < _ from by omega)
  have hrs := zp_rp_is N (zf_st E (zg_sk (zf_mv E s b)))
  have frN2 := zg_fR_rp (zg_fR_rfl (dd + 1) N) (zf_st E (zg_sk (zf_mv E s b)))
  have frL := zg_li_fR (dd := dd + 1) frN2 (zf_st E (zg_sk (zf_mv E s b)))
  refine ⟨zg_li (zp_rp N (zf_st E (zg_sk (zf_mv E s b)))) (dd + 1) (zf_st E (zg_sk (zf_mv E s b))), ?_, zg_fR_tr frN (zg_fR_up frL), zg_lv_g frL lvN, by rw [frL.2.1 41 0 dd (by omega)]; exact gN, (zg_li_is _ _ _).1, (zg_li_is _ _ _).2⟩
  show zi_run (d + 4) _ _ _ _ _ = zi_run (d + 4) _ _ _ _ _
  have sE : (zi_sI (zi_sI (zi_sL (zp_rp (zp_rp M s) (zf_mv E s b)) 41 0 dd (lN (v * (12 - p)))) 40 0 dd 3) 10 0 19 (nI ((zf_mv E s b).2.1 - 1))) = N := hN.symm
  rw [ze_X10_chances_16]
  simp (disch := omega) only [↓zp_dn, ↓zp_hV, ↓zp_hI, ↓zp_hL, ↓zp_hR, ↓zp_hX, zp_eV, zp_eI, zp_eL, zp_eR, zp_eX, zp_eXl, zp_iV, zp_iI, zp_iL, zp_iR, ↓zp_sm, ↓zp_nls, ↓zp_nln, zp_bo0, zp_bo1, zp_okE, zp_ok2E, zp_rfE, ↓reduceIte, if_true, if_false, zp_leT, zp_leF, zp_ltT, zp_ltF, zp_eqT, zp_eqF, zp_leTl, zp_leFl, zp_ltTl, zp_ltFl, zp_leTr, zp_leFr, zp_ltTr, zp_ltFr, zp_eqTr, zp_eqFr, zp_eqTl, zp_eqFl, zp_eqFll, eq_self, zp_addl, zp_addr, zp_mull, zp_mulr, zp_subr, zp_subl, nI_add, pk_mul, zr_stands _ (show dd < 9 from by omega) l1, l2', l3', zp_1n0, mv, gu, if_pos hg, ze_X10_chances_346, ze_X10_chances_365, ze_X10_chances_394, e12, e64, zp_sL1, h19, e1, sE, st, zr_lies _ (show dd + 1 < 9 from by omega) hrs]
theorem zr_g2n (d : Nat) {E : zf_E} (hA : zf_okE E.1) {M : zi_M} (hE : zf_rE M E) {dd : Nat} (hd : dd < 8) {s : zf_S} (h1 : s.1 < E.1.1) (h2 : s.2.1 < E.1.2.1) {b B : Nat} {P x2 : Int32} {p : Nat} (v : Nat) (hb : b < 3) (hl : zg_lv M dd s 2 b B P) (hcan : zf_can E.1 s b) (hg : ¬ zg_gu E.1 (zf_mv E s b)) : ∃ M', zg_run d x2 p (nI dd) (lN v) M = zg_run d x2 p (nI dd) (lN v) M' ∧ zg_fR dd M M' ∧ zg_lv M' dd s 4 b B P ∧ M'.2.1 41 0 dd = lN (v * 12) := by
  obtain ⟨l1, l2, l3, l4, l5⟩ := hl
  have l2' : (zp_rp M s).1 40 0 dd = 2 := by simp [zp_rp1, l2]; rfl
  have l3' : (zp_rp M s).1 39 0 dd = nI b := by simp [zp_rp1, l3]
  have hE1 := zf_rE_rp hE s
  have hs1 := zp_rp_is M s
  have mv : ∀ e, zi_run (e + 2) zm_X10_moves 0 [some (.inr (.inr (10, some 0))), some (.inl (nI b))] [] (zp_rp M s) = _ := fun e => zr_moves e hA hE1 hs1 h1 h2 hb hcan.2.2.1
  have hE2 := zf_rE_rp hE1 (zf_mv E s b)
  have hs2 := zp_rp_is (zp_rp M s) (zf_mv E s b)
  have gu : ∀ e, zi_run (e + 2) zm_X10_mayGust 0 [some (.inr (.inr (10, some 0)))] [] (zp_rp (zp_rp M s) (zf_mv E s b)) = _ := fun e => zr_gust e hA hE2.1 hs2.1 hs2.2.1 (zf_col_lt hA s) hcan.2.2.2.1
  have e64 : lN v * Int32.toInt64 12 = lN (v * 12) := by rw [show (12 : Int32) = nI 12 from rfl, nI_l (by omega), lN_mul]
  refine ⟨zi_sI (zi_sL (zp_rp (zp_rp M s) (zf_mv E s b)) 41 0 dd (lN (v * 12))) 40 0 dd 4, ?_, zg_fR_I (zg_fR_L (zg_fR_rp (zg_fR_rp (zg_fR_rfl dd M) _) _) (by omega) _) (by omega) _, ?_, by simp [zp_sI2, zp_sL2]⟩
  · show zi_run (d + 4) _ _ _ _ _ = zi_run (d + 4) _ _ _ _ _
    rw [ze_X10_chances_16]
    simp (disch := omega) only [↓zp_dn, ↓zp_hV, ↓zp_hI, ↓zp_hL, ↓zp_hR, ↓zp_hX, zp_eV, zp_eI, zp_eL, zp_eR, zp_eX, zp_eXl, zp_iV, zp_iI, zp_iL, zp_iR, ↓zp_sm, ↓zp_nls, ↓zp_nln, zp_bo0, zp_bo1, zp_okE, zp_ok2E, zp_rfE, ↓reduceIte, if_true, if_false, zp_leT, zp_leF, zp_ltT, zp_ltF, zp_eqT, zp_eqF, zp_leTl, zp_leFl, zp_ltTl, zp_ltFl, zp_leTr, zp_leFr, zp_ltTr, zp_ltFr, zp_eqTr, zp_eqFr, zp_eqTl, zp_eqFl, zp_eqFll, eq_self, zp_addl, zp_addr, zp_mull, zp_mulr, zp_subr, zp_subl, nI_add, pk_mul, zr_stands _ (show dd < 9 from by omega) l1, l2', l3', zp_1n0, mv, gu, if_neg hg, ze_X10_chances_346, ze_X10_chances_365, ze_X10_chances_394, e64]
  · exact ⟨by simpa [zf_is, zp_sI1, zp_sL1, zp_rp1] using l1, by simp [zp_sI1]; rfl, by simpa [zp_sI1, zp_sL1, zp_rp1] using l3, by simpa [zp_sI2, zp_sL2, zp_rp2] using l4, by simpa [zp_sI1, zp_sL1, zp_rp1] using l5⟩
/-- phases 3 and 4: the BEAT is weighed -/
theorem zr_g3 (d : Nat) {M : zi_M} {dd : Nat} (hd : dd < 8) {s : zf_S} {b B g : Nat} {P x2 : Int32} {p : Nat} (v w q : Nat) (hw : w = 3 ∧ q = g + v * p ∨ w = 4 ∧ q = g) (hp : p ≤ 12) (hb : b < 3) (hq : q < 2 ^ 40) (hB : B < 2 ^ 40) (hl : zg_lv M dd s w b B P) (hg : M.2.1 41 0 dd = lN g) : ∃ M', zg_run d x2 p (nI dd) (lN v) M = zg_run d x2 p (nI dd) (lN v) M' ∧ zg_fR dd M M' ∧ zg_lv M' dd s 1 (zg_nb x2 b) (max B q) (if B < q then nI b else P) := by
  obtain ⟨l1, l2, l3, l4, l5⟩ := hl
  have l3' : (zp_rp M s).1 39 0 dd = nI b := by simp [zp_rp1, l3]
  have l5' : (zp_rp M s).1 43 0 dd = P := by simp [zp_rp1, l5]
  have l4' : (zp_rp M s).2.1 42 0 dd = lN B := l4
  have hg' : (zp_rp M s).2.1 41 0 dd = lN g := hg
  have e64 : lN v * Int32.toInt64 (nI p) = lN (v * p) := by rw [nI_l (by omega), lN_mul]
  obtain ⟨N, hN⟩ : ∃ N, N = zi_sI (zi_sI (zi_sL (zi_sI (zi_sL (zp_rp M s) 41 0 dd (lN q)) 43 0 dd (if B < q then nI b else P)) 42 0 dd (lN (max B q))) 39 0 dd (nI (zg_nb x2 b))) 40 0 dd 1 := ⟨_, rfl⟩
  refine ⟨N, ?_, by rw [hN]; exact zg_fR_I (zg_fR_I (zg_fR_L (zg_fR_I (zg_fR_L (zg_fR_rp (zg_fR_rfl dd M) _) (by omega) _) (by omega) _) (by omega) _) (by omega) _) (by omega) _, ?_⟩
  · show zi_run (d + 4) _ _ _ _ _ = zi_run (d + 4) _ _ _ _ _
    have head : zi_run (d + 4) zm_X10_chances 16 [some (.inr (.inr (10, some 0))), none, some (.inl x2), some (.inl (nI p)), some (.inl (nI dd)), some (.inr (.inl (lN v))), none, none, none] [] M = zi_run (d + 4) zm_X10_chances 468 [some (.inr (.inr (10, some 0))), none, some (.inl x2), some (.inl (nI p)), some (.inl (nI dd)), some (.inr (.inl (lN v))), none, none, none] [.inl (if B < q then nI b else P), .inl (nI dd), .inr (.inr (43, some 0))] (zi_sL (zp_rp M s) 41 0 dd (lN q)) := by
      have tl : ∀ y2 y3 : Int64, y2 + y3 = lN q → zi_run (d + 4) zm_X10_chances 425 [some (.inr (.inr (10, some 0))), none, some (.inl x2), some (.inl (nI p)), some (.inl (nI dd)), some (.inr (.inl (lN v))), none, none, none] [.inr (.inl y3), .inr (.inl y2), .inl (nI dd), .inr (.inr (41, some 0))] (zp_rp M s) = zi_run (d + 4) zm_X10_chances 468 [some (.inr (.inr (10, some 0))), none, some (.inl x2), some (.inl (nI p)), some (.inl (nI dd)), some (.inr (.inl (lN v))), none, none, none] [.inl (if B < q then nI b else P), .inl (nI dd), .inr (.inr (43, some 0))] (zi_sL (zp_rp M s) 41 0 dd (lN q)) := fun y2 y3 e => by
        rw [ze_X10_chances_425]
        by_cases hbq : B < q
        · simp (disch := omega) only [↓zp_dn, ↓zp_hV, ↓zp_hI, ↓zp_hL, ↓zp_hR, ↓zp_hX, zp_eV, zp_eI, zp_eL, zp_eR, zp_eX, zp_eXl, zp_iV, zp_iI, zp_iL, zp_iR, ↓zp_sm, ↓zp_nls, ↓zp_nln, zp_bo0, zp_bo1, zp_okE, zp_ok2E, zp_rfE, ↓reduceIte, if_true, if_false, zp_leT, zp_leF, zp_ltT, zp_ltF, zp_eqT, zp_eqF, zp_leTl, zp_leFl, zp_ltTl, zp_ltFl, zp_leTr, zp_leFr, zp_ltTr, zp_ltFr, zp_eqTr, zp_eqFr, zp_eqTl, zp_eqFl, zp_eqFll, eq_self, zp_addl, zp_addr, zp_mull, zp_mulr, zp_subr, zp_subl, nI_add, pk_mul, e, l4', l3', l5', zp_sL2, zp_cmp3, zp_lltT hbq (show q < 2 ^ 63 from by omega), not_true_eq_false, if_pos hbq]
        · simp (disch := omega) only [↓zp_dn, ↓zp_hV, ↓zp_hI, ↓zp_hL, ↓zp_hR, ↓zp_hX, zp_eV, zp_eI, zp_eL, zp_eR, zp_eX, zp_eXl, zp_iV, zp_iI, zp_iL, zp_iR, ↓zp_sm, ↓zp_nls, ↓zp_nln, zp_bo0, zp_bo1, zp_okE, zp_ok2E, zp_rfE, ↓reduceIte, if_true, if_false, zp_leT, zp_leF, zp_ltT, zp_ltF, zp_eqT, zp_eqF, zp_leTl, zp_leFl, zp_ltTl, zp_ltFl, zp_leTr, zp_leFr, zp_ltTr, zp_ltFr, zp_eqTr, zp_eqFr, zp_eqTl, zp_eqFl, zp_eqFll, eq_self, zp_addl, zp_addr, zp_mull, zp_mulr, zp_subr, zp_subl, nI_add, pk_mul, e, l4', l3', l5', zp_sL2, zp_cmp3, zp_lltF (show q ≤ B from by omega) (show B < 2 ^ 63 from by omega), not_false_eq_true, if_neg hbq]
      rw [ze_X10_chances_16]
      rcases hw with ⟨hw, hqe⟩ | ⟨hw, hqe⟩
      · have l2' : (zp_rp M s).1 40 0 dd = 3 := by simp [zp_rp1, l2, hw]; rfl
        have e : lN g + lN (v * p) = lN q := by rw [lN_add, hqe]
        simp (disch := omega) only [↓zp_dn, ↓zp_hV, ↓zp_hI, ↓zp_hL, ↓zp_hR, ↓zp_hX, zp_eV, zp_eI, zp_eL, zp_eR, zp_eX, zp_eXl, zp_iV, zp_iI, zp_iL, zp_iR, ↓zp_sm, ↓zp_nls, ↓zp_nln, zp_bo0, zp_bo1, zp_okE, zp_ok2E, zp_rfE, ↓reduceIte, if_true, if_false, zp_leT, zp_leF, zp_ltT, zp_ltF, zp_eqT, zp_eqF, zp_leTl, zp_leFl, zp_ltTl, zp_ltFl, zp_leTr, zp_leFr, zp_ltTr, zp_ltFr, zp_eqTr, zp_eqFr, zp_eqTl, zp_eqFl, zp_eqFll, eq_self, zp_addl, zp_addr, zp_mull, zp_mulr, zp_subr, zp_subl, nI_add, pk_mul, zr_stands _ (show dd < 9 from by omega) l1, l2', hg', e64, tl _ _ e]
      · have l2' : (zp_rp M s).1 40 0 dd = 4 := by simp [zp_rp1, l2, hw]; rfl
        have e : lN g + 0 = lN q := by rw [hqe]; exact Int64.add_zero _
        simp (disch := omega) only [↓zp_dn, ↓zp_hV, ↓zp_hI, ↓zp_hL, ↓zp_hR, ↓zp_hX, zp_eV, zp_eI, zp_eL, zp_eR, zp_eX, zp_eXl, zp_iV, zp_iI, zp_iL, zp_iR, ↓zp_sm, ↓zp_nls, ↓zp_nln, zp_bo0, zp_bo1, zp_okE, zp_ok2E, zp_rfE, ↓reduceIte, if_true, if_false, zp_leT, zp_leF, zp_ltT, zp_ltF, zp_eqT, zp_eqF, zp_leTl, zp_leFl, zp_ltTl, zp_ltFl, zp_leTr, zp_leFr, zp_ltTr, zp_ltFr, zp_eqTr, zp_eqFr, zp_eqTl, zp_eqFl, zp_eqFll, eq_self, zp_addl, zp_addr, zp_mull, zp_mulr, zp_subr, zp_subl, nI_add, pk_mul, zr_stands _ (show dd < 9 from by omega) l1, l2', hg', tl _ _ e]
    rw [head, ze_X10_chances_468]
    have tl2 : ∀ y2 : Int64, y2 = lN (max B q) → zi_run (d + 4) zm_X10_chances 510 [some (.inr (.inr (10, some 0))), none, some (.inl x2), some (.inl (nI p)), some (.inl (nI dd)), some (.inr (.inl (lN v))), none, none, none] [.inr (.inl y2), .inl (nI dd), .inr (.inr (42, some 0))] (zi_sI (zi_sL (zp_rp M s) 41 0 dd (lN q)) 43 0 dd (if B < q then nI b else P)) = zi_run (d + 4) zm_X10_chances 16 [some (.inr (.inr (10, some 0))), none, some (.inl x2), some (.inl (nI p)), some (.inl (nI dd)), some (.inr (.inl (lN v))), none, none, none] [] N := fun y2 e => by
      rw [ze_X10_chances_510, hN, e, zg_nb]
      have l3'' : (zi_sI (zi_sL (zp_rp M s) 41 0 dd (lN q)) 43 0 dd (if B < q then nI b else P)).1 39 0 dd = nI b := by rw [zp_sI1]; simpa [zp_sL1] using l3'
      by_cases hx : x2 = -9
      · simp (disch := omega) only [↓zp_dn, ↓zp_hV, ↓zp_hI, ↓zp_hL, ↓zp_hR, ↓zp_hX, zp_eV, zp_eI, zp_eL, zp_eR, zp_eX, zp_eXl, zp_iV, zp_iI, zp_iL, zp_iR, ↓zp_sm, ↓zp_nls, ↓zp_nln, zp_bo0, zp_bo1, zp_okE, zp_ok2E, zp_rfE, ↓reduceIte, if_true, if_false, zp_leT, zp_leF, zp_ltT, zp_ltF, zp_eqT, zp_eqF, zp_leTl, zp_leFl, zp_ltTl, zp_ltFl, zp_leTr, zp_leFr, zp_ltTr, zp_ltFr, zp_eqTr, zp_eqFr, zp_eqTl, zp_eqFl, zp_eqFll, eq_self, zp_addl, zp_addr, zp_mull, zp_mulr, zp_subr, zp_subl, nI_add, pk_mul, if_pos hx, l3'', ze_X10_chances_536]
      · simp (disch := omega) only [↓zp_dn, ↓zp_hV, ↓zp_hI, ↓zp_hL, ↓zp_hR, ↓zp_hX, zp_eV, zp_eI, zp_eL, zp_eR, zp_eX, zp_eXl, zp_iV, zp_iI, zp_iL, zp_iR, ↓zp_sm, ↓zp_nls, ↓zp_nln, zp_bo0, zp_bo1, zp_okE, zp_ok2E, zp_rfE, ↓reduceIte, if_true, if_false, zp_leT, zp_leF, zp_ltT, zp_ltF, zp_eqT, zp_eqF, zp_leTl, zp_leFl, zp_ltTl, zp_ltFl, zp_leTr, zp_leFr, zp_ltTr, zp_ltFr, zp_eqTr, zp_eqFr, zp_eqTl, zp_eqFl, zp_eqFll, eq_self, zp_addl, zp_addr, zp_mull, zp_mulr, zp_subr, zp_subl, nI_add, pk_mul, if_neg hx, ze_X10_chances_536]
        rfl
    by_cases hbq : B < q
    · have em : max B q = q := by omega
      simp (disch := omega) only [↓zp_dn, ↓zp_hV, ↓zp_hI, ↓zp_hL, ↓zp_hR, ↓zp_hX, zp_eV, zp_eI, zp_eL, zp_eR, zp_eX, zp_eXl, zp_iV, zp_iI, zp_iL, zp_iR, ↓zp_sm, ↓zp_nls, ↓zp_nln, zp_bo0, zp_bo1, zp_okE, zp_ok2E, zp_rfE, ↓reduceIte, if_true, if_false, zp_leT, zp_leF, zp_ltT, zp_ltF, zp_eqT, zp_eqF, zp_leTl, zp_leFl, zp_ltTl, zp_ltFl, zp_leTr, zp_leFr, zp_ltTr, zp_ltFr, zp_eqTr, zp_eqFr, zp_eqTl, zp_eqFl, zp_eqFll, eq_self, zp_addl, zp_addr, zp_mull, zp_mulr, zp_subr, zp_subl, nI_add, pk_mul, l4', zp_sL2, zp_cmp3, zp_lltT hbq (show q < 2 ^ 63 from by omega), not_true_eq_false, tl2 (lN q) (by rw [em]), Nat.reduceEqDiff]
    · have em : max B q = B := by omega
      simp (disch := omega) only [↓zp_dn, ↓zp_hV, ↓zp_hI, ↓zp_hL, ↓zp_hR, ↓zp_hX, zp_eV, zp_eI, zp_eL, zp_eR, zp_eX, zp_eXl, zp_iV, zp_iI, zp_iL, zp_iR, ↓zp_sm, ↓zp_nls, ↓zp_nln, zp_bo0, zp_bo1, zp_okE, zp_ok2E, zp_rfE, ↓reduceIte, if_true, if_false, zp_leT, zp_leF, zp_ltT, zp_ltF, zp_eqT, zp_eqF, zp_leTl, zp_leFl, zp_ltTl, zp_ltFl, zp_leTr, zp_leFr, zp_ltTr, zp_ltFr, zp_eqTr, zp_eqFr, zp_eqTl, zp_eqFl, zp_eqFll, eq_self, zp_addl, zp_addr, zp_mull, zp_mulr, zp_subr, zp_subl, nI_add, pk_mul, l4', zp_sL2, zp_cmp3, zp_lltF (show q ≤ B from by omega) (show B < 2 ^ 63 from by omega), not_false_eq_true, tl2 (lN B) (by rw [em]), Nat.reduceEqDiff]
  · rw [hN]
    exact ⟨by simpa [zf_is, zp_sI1, zp_sL1, zp_rp1] using l1, by simp [zp_sI1]; rfl, by simp [zp_sI1], by simp [zp_sI2, zp_sL2], by simp [zp_sI1, zp_sL1]⟩
