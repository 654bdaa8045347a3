/-! THE PURE PART: over, can -/
theorem zp_for2 (F : Nat → zi_O) (n : Nat) (R : zi_O) (he : F n = R) (i0 : Nat) (hs : ∀ i, i0 ≤ i → i < n → F i = F (i + 1)) (h0 : i0 ≤ n) : F i0 = R := by
  have : ∀ k i, i + k = n → i0 ≤ i → F i = R := by
    intro k
    induction k with
    | zero => intro i hi _; rw [show i = n from by omega]; exact he
    | succ k ih => intro i hi h; rw [hs i h (by omega)]; exact ih (i + 1) (by omega) (by omega)
  exact this (n - i0) i0 (by omega) (Nat.le_refl _)
def zv_o (A : zf_A) (K : zf_K) : Nat → Int32
  | 0 => 0
  | i + 1 => if (zf_sp K i).2.2.2.2.2 = 0 then (if zf_over A (zf_sp K i) then zv_o A K i ||| (1 <<< (nI i &&& 31)) else zv_o A K i) else zv_o A K i
def zv_f (K : zf_K) : Nat → Int32
  | 0 => 0
  | i + 1 => if (zf_sp K i).2.2.2.2.2 = 0 then zv_f K i else zv_f K i ||| (1 <<< (nI i &&& 31))
theorem zc_overL (d : Nat) {M : zi_M} {A : zf_A} {K : zf_K} (hS : zq_sky M A K) : zi_run (d + 1) zm_X9_over 6 [some (.inr (.inr (9, some 0))), some (.inl 0), some (.inl 0), some (.inl 0), none] [] M = some (some (.inl (zv_o A K K.2.1)), zi_sI M 9 0 13 (zv_f K K.2.1)) := by
  have h4 := hS.2.1.1
  refine Eq.trans ?_ (Eq.trans (zp_for (fun i => zi_run (d + 1) zm_X9_over 6 [some (.inr (.inr (9, some 0))), some (.inl (zv_o A K i)), some (.inl (zv_f K i)), some (.inl (nI i)), none] [] M) K.2.1 (zi_run (d + 1) zm_X9_over 6 [some (.inr (.inr (9, some 0))), some (.inl (zv_o A K K.2.1)), some (.inl (zv_f K K.2.1)), some (.inl (nI K.2.1)), none] [] M) rfl ?_ 0 (Nat.zero_le _)) ?_)
  · rfl
  · intro i hi
    obtain ⟨hE, hok, hsp⟩ := zq_fl hS hi
    have h5 : M.1 7 i 5 = (zf_sp K i).2.2.2.2.2 := hsp.2.2.2.2.2
    rw [ze_X9_over_6, zv_o, zv_f]
    by_cases hf : (zf_sp K i).2.2.2.2.2 = 0
    · by_cases ho : zf_over A (zf_sp K i)
      · simp (disch := omega) only [↓zp_dn, ↓zp_hV, ↓zp_hI, ↓zp_hL, ↓zp_hR, ↓zp_hX, zp_eV, zp_eI, zp_eL, zp_eR, zp_eX, zp_eXl, zp_iV, zp_iI, zp_iL, zp_iR, ↓zp_sm, ↓zp_nls, ↓zp_nln, zp_bo0, zp_bo1, zp_okE, zp_ok2E, zp_rfE, ↓reduceIte, if_true, if_false, zp_leT, zp_leF, zp_ltT, zp_ltF, zp_eqT, zp_eqF, zp_leTl, zp_leFl, zp_ltTl, zp_ltFl, zp_leTr, zp_leFr, zp_ltTr, zp_ltFr, zp_eqTr, zp_eqFr, zp_eqTl, zp_eqFl, zp_eqFll, eq_self, zp_addl, zp_addr, zp_mull, zp_mulr, zp_subr, zp_subl, nI_add, pk_mul, zc_bird _ hS hi, h5, if_pos hf, zc_isOver _ hE hS.2.2.1 hsp.1 hok.1, if_pos ho, ze_X9_over_70]
      · simp (disch := omega) only [↓zp_dn, ↓zp_hV, ↓zp_hI, ↓zp_hL, ↓zp_hR, ↓zp_hX, zp_eV, zp_eI, zp_eL, zp_eR, zp_eX, zp_eXl, zp_iV, zp_iI, zp_iL, zp_iR, ↓zp_sm, ↓zp_nls, ↓zp_nln, zp_bo0, zp_bo1, zp_okE, zp_ok2E, zp_rfE, ↓reduceIte, if_true, if_false, zp_leT, zp_leF, zp_ltT, zp_ltF, zp_eqT, zp_eqF, zp_leTl, zp_leFl, zp_ltTl, zp_ltFl, zp_leTr, zp_leFr, zp_ltTr, zp_ltFr, zp_eqTr, zp_eqFr, zp_eqTl, zp_eqFl, zp_eqFll, eq_self, zp_addl, zp_addr, zp_mull, zp_mulr, zp_subr, zp_subl, nI_add, pk_mul, zc_bird _ hS hi, h5, if_pos hf, zc_isOver _ hE hS.2.2.1 hsp.1 hok.1, if_neg ho, ze_X9_over_70]
    · simp (disch := omega) only [↓zp_dn, ↓zp_hV, ↓zp_hI, ↓zp_hL, ↓zp_hR, ↓zp_hX, zp_eV, zp_eI, zp_eL, zp_eR, zp_eX, zp_eXl, zp_iV, zp_iI, zp_iL, zp_iR, ↓zp_sm, ↓zp_nls, ↓zp_nln, zp_bo0, zp_bo1, zp_okE, zp_ok2E, zp_rfE, ↓reduceIte, if_true, if_false, zp_leT, zp_leF, zp_ltT, zp_ltF, zp_eqT, zp_eqF, zp_leTl, zp_leFl, zp_ltTl, zp_ltFl, zp_leTr, zp_leFr, zp_ltTr, zp_ltFr, zp_eqTr, zp_eqFr, zp_eqTl, zp_eqFl, zp_eqFll, eq_self, zp_addl, zp_addr, zp_mull, zp_mulr, zp_subr, zp_subl, nI_add, pk_mul, zc_bird _ hS hi, h5, if_neg hf, ze_X9_over_70]
  · refine zp_for2 (fun i => zi_run (d + 1) zm_X9_over 6 [some (.inr (.inr (9, some 0))), some (.inl (zv_o A K K.2.1)), some (.inl (zv_f K K.2.1)), some (.inl (nI i)), none] [] M) 4 (some (some (.inl (zv_o A K K.2.1)), zi_sI M 9 0 13 (zv_f K K.2.1))) ?_ K.2.1 ?_ h4
    · rw [ze_X9_over_6]
      simp (disch := omega) only [↓zp_dn, ↓zp_hV, ↓zp_hI, ↓zp_hL, ↓zp_hR, ↓zp_hX, zp_eV, zp_eI, zp_eL, zp_eR, zp_eX, zp_eXl, zp_iV, zp_iI, zp_iL, zp_iR, ↓zp_sm, ↓zp_nls, ↓zp_nln, zp_bo0, zp_bo1, zp_okE, zp_ok2E, zp_rfE, ↓reduceIte, if_true, if_false, zp_leT, zp_leF, zp_ltT, zp_ltF, zp_eqT, zp_eqF, zp_leTl, zp_leFl, zp_ltTl, zp_ltFl, zp_leTr, zp_leFr, zp_ltTr, zp_ltFr, zp_eqTr, zp_eqFr, zp_eqTl, zp_eqFl, zp_eqFll, eq_self, zp_addl, zp_addr, zp_mull, zp_mulr, zp_subr, zp_subl, nI_add, pk_mul]
    · intro i hiK hi
      rw [ze_X9_over_6]
      simp (disch := omega) only [↓zp_dn, ↓zp_hV, ↓zp_hI, ↓zp_hL, ↓zp_hR, ↓zp_hX, zp_eV, zp_eI, zp_eL, zp_eR, zp_eX, zp_eXl, zp_iV, zp_iI, zp_iL, zp_iR, ↓zp_sm, ↓zp_nls, ↓zp_nln, zp_bo0, zp_bo1, zp_okE, zp_ok2E, zp_rfE, ↓reduceIte, if_true, if_false, zp_leT, zp_leF, zp_ltT, zp_ltF, zp_eqT, zp_eqF, zp_leTl, zp_leFl, zp_ltTl, zp_ltFl, zp_leTr, zp_leFr, zp_ltTr, zp_ltFr, zp_eqTr, zp_eqFr, zp_eqTl, zp_eqFl, zp_eqFll, eq_self, zp_addl, zp_addr, zp_mull, zp_mulr, zp_subr, zp_subl, nI_add, pk_mul, zc_birdF _ hS hiK, ze_X9_over_70]
theorem zr_overL (d : Nat) {M0 : zi_M} {A : zf_A} {K : zf_K} (hS : zq_sky M0 A K) : ∀ (k i : Nat) (M : zi_M), i + k = K.2.1 → zq_nb M0 M → M.2 = M0.2 → ∃ M', zi_run (d + 2) zm_X10_over 6 [some (.inr (.inr (10, some 0))), some (.inl (zv_o A K i)), some (.inl (zv_f K i)), some (.inl (nI i))] [] M = some (some (.inl (zv_o A K K.2.1)), zi_sI M' 10 0 9 (zv_f K K.2.1)) ∧ zq_nb M0 M' ∧ M'.2 = M0.2 := by
  have h4 := hS.2.1.1
  intro k
  induction k with
  | zero =>
    intro i M hi hb h2
    have r3 : M.1 28 0 3 = nI K.2.1 := by rw [zq_nb_28 hb]; exact hS.2.2.2.2.2.1.2.1
    have e : i = K.2.1 := by omega
    refine ⟨M, ?_, hb, h2⟩
    rw [ze_X10_over_6, e]
    simp (disch := omega) only [↓zp_dn, ↓zp_hV, ↓zp_hI, ↓zp_hL, ↓zp_hR, ↓zp_hX, zp_eV, zp_eI, zp_eL, zp_eR, zp_eX, zp_eXl, zp_iV, zp_iI, zp_iL, zp_iR, ↓zp_sm, ↓zp_nls, ↓zp_nln, zp_bo0, zp_bo1, zp_okE, zp_ok2E, zp_rfE, ↓reduceIte, if_true, if_false, zp_leT, zp_leF, zp_ltT, zp_ltF, zp_eqT, zp_eqF, zp_leTl, zp_leFl, zp_ltTl, zp_ltFl, zp_leTr, zp_leFr, zp_ltTr, zp_ltFr, zp_eqTr, zp_eqFr, zp_eqTl, zp_eqFl, zp_eqFll, eq_self, zp_addl, zp_addr, zp_mull, zp_mulr, zp_subr, zp_subl, nI_add, pk_mul, r3]
  | succ k ih =>
    intro i M hi hb h2
    have hiF : i < K.2.1 := by omega
    have e28 := zq_nb_28 hb
    have hA2 : zf_rA (M.1 28 0) A := by rw [e28]; exact hS.2.2.2.2.1
    have hR2 : zf_rK (M.1 28 0) K := by rw [e28]; exact hS.2.2.2.2.2.1
    have r3 : M.1 28 0 3 = nI K.2.1 := hR2.2.1
    obtain ⟨hE, hok, hsp⟩ := zq_fl hS hiF
    have hrs := zp_rt_is M (zf_en A K i) (zf_sp K i)
    have m18 : (zp_rt M (zf_en A K i) (zf_sp K i)).1 10 0 18 = nI (zf_sp K i).1 := hrs.1
    have m23 : (zp_rt M (zf_en A K i) (zf_sp K i)).1 10 0 23 = (zf_sp K i).2.2.2.2.2 := hrs.2.2.2.2.2
    have hA3 : zf_rA ((zp_rt M (zf_en A K i) (zf_sp K i)).1 28 0) A := hA2
    obtain ⟨M', f1, f2⟩ := ih (i + 1) (zp_rt M (zf_en A K i) (zf_sp K i)) (by omega) (zq_nb_rt hb _ _) h2
    refine ⟨M', ?_, f2⟩
    rw [← f1, ze_X10_over_6, zv_o, zv_f]
    by_cases hf : (zf_sp K i).2.2.2.2.2 = 0
    · by_cases ho : zf_over A (zf_sp K i)
      · simp (disch := omega) only [↓zp_dn, ↓zp_hV, ↓zp_hI, ↓zp_hL, ↓zp_hR, ↓zp_hX, zp_eV, zp_eI, zp_eL, zp_eR, zp_eX, zp_eXl, zp_iV, zp_iI, zp_iL, zp_iR, ↓zp_sm, ↓zp_nls, ↓zp_nln, zp_bo0, zp_bo1, zp_okE, zp_ok2E, zp_rfE, ↓reduceIte, if_true, if_false, zp_leT, zp_leF, zp_ltT, zp_ltF, zp_eqT, zp_eqF, zp_leTl, zp_leFl, zp_ltTl, zp_ltFl, zp_leTr, zp_leFr, zp_ltTr, zp_ltFr, zp_eqTr, zp_eqFr, zp_eqTl, zp_eqFl, zp_eqFll, eq_self, zp_addl, zp_addr, zp_mull, zp_mulr, zp_subr, zp_subl, nI_add, pk_mul, r3, zr_takes (A := A) _ hR2 hiF h4, zr_isOver _ hE hA3 m18 hok.1, if_pos ho, m23, if_pos hf, ze_X10_over_43, ze_X10_over_60, Int32.or_zero, zp_1n0]
      · simp (disch := omega) only [↓zp_dn, ↓zp_hV, ↓zp_hI, ↓zp_hL, ↓zp_hR, ↓zp_hX, zp_eV, zp_eI, zp_eL, zp_eR, zp_eX, zp_eXl, zp_iV, zp_iI, zp_iL, zp_iR, ↓zp_sm, ↓zp_nls, ↓zp_nln, zp_bo0, zp_bo1, zp_okE, zp_ok2E, zp_rfE, ↓reduceIte, if_true, if_false, zp_leT, zp_leF, zp_ltT, zp_ltF, zp_eqT, zp_eqF, zp_leTl, zp_leFl, zp_ltTl, zp_ltFl, zp_leTr, zp_leFr, zp_ltTr, zp_ltFr, zp_eqTr, zp_eqFr, zp_eqTl, zp_eqFl, zp_eqFll, eq_self, zp_addl, zp_addr, zp_mull, zp_mulr, zp_subr, zp_subl, nI_add, pk_mul, r3, zr_takes (A := A) _ hR2 hiF h4, zr_isOver _ hE hA3 m18 hok.1, if_neg ho, m23, if_pos hf, ze_X10_over_42, ze_X10_over_43, ze_X10_over_60, Int32.or_zero]
    · by_cases ho : zf_over A (zf_sp K i)
      · simp (disch := omega) only [↓zp_dn, ↓zp_hV, ↓zp_hI, ↓zp_hL, ↓zp_hR, ↓zp_hX, zp_eV, zp_eI, zp_eL, zp_eR, zp_eX, zp_eXl, zp_iV, zp_iI, zp_iL, zp_iR, ↓zp_sm, ↓zp_nls, ↓zp_nln, zp_bo0, zp_bo1, zp_okE, zp_ok2E, zp_rfE, ↓reduceIte, if_true, if_false, zp_leT, zp_leF, zp_ltT, zp_ltF, zp_eqT, zp_eqF, zp_leTl, zp_leFl, zp_ltTl, zp_ltFl, zp_leTr, zp_leFr, zp_ltTr, zp_ltFr, zp_eqTr, zp_eqFr, zp_eqTl, zp_eqFl, zp_eqFll, eq_self, zp_addl, zp_addr, zp_mull, zp_mulr, zp_subr, zp_subl, nI_add, pk_mul, r3, zr_takes (A := A) _ hR2 hiF h4, zr_isOver _ hE hA3 m18 hok.1, if_pos ho, m23, if_neg hf, ze_X10_over_42, ze_X10_over_43, ze_X10_over_60, Int32.or_zero, zp_1n0]
      · simp (disch := omega) only [↓zp_dn, ↓zp_hV, ↓zp_hI, ↓zp_hL, ↓zp_hR, ↓zp_hX, zp_eV, zp_eI, zp_eL, zp_eR, zp_eX, zp_eXl, zp_iV, zp_iI, zp_iL, zp_iR, ↓zp_sm, ↓zp_nls, ↓zp_nln, zp_bo0, zp_bo1, zp_okE, zp_ok2E, zp_rfE, ↓reduceIte, if_true, if_false, zp_leT, zp_leF, zp_ltT, zp_ltF, zp_eqT, zp_eqF, zp_leTl, zp_leFl, zp_ltTl, zp_ltFl, zp_leTr, zp_leFr, zp_ltTr, zp_ltFr, zp_eqTr, zp_eqFr, zp_eqTl, zp_eqFl, zp_eqFll, eq_self, zp_addl, zp_addr, zp_mull, zp_mulr, zp_subr, zp_subl, nI_add, pk_mul, r3, zr_takes (A := A) _ hR2 hiF h4, zr_isOver _ hE hA3 m18 hok.1, if_neg ho, m23, if_neg hf, ze_X10_over_42, ze_X10_over_43, ze_X10_over_60, Int32.or_zero]
theorem zo_over (d : Nat) {n : Nat} {xs : Nat → Int32} {M : zi_M} (hI : zq_inv n xs M) : zp_ok (zi_run (d + 5) zm_X9_over 0 [some (.inr (.inr (9, some 0))), none, none, none, none] [] M) (zp_rf (d + 5) zm_X10_over [some (.inr (.inr (10, some 0))), none, none, none]) (zq_inv n xs) := by
  obtain ⟨A, K, hS⟩ := hI.2.2.2.2.1
  have c1 := zc_overL (d + 4) hS
  have nt : zq_nt M (zi_sI M 9 0 13 (zv_f K K.2.1)) := zq_nt_9 (zq_nb_nt (zq_nb_rfl M)) _
  have hS2 := zq_sky_ag (zq_nt_ag nt (by decide) (by decide)) (zq_nt_ag nt (by decide) (by decide)) hS
  obtain ⟨M', q1, q2, q3⟩ := zr_overL (d + 3) hS2 K.2.1 0 _ (by omega) (zq_nb_rfl _) rfl
  rw [ze_X9_over_0, c1, zp_okE, zp_rfE, ze_X10_over_0]
  refine Eq.mpr (congrArg (fun o => zp_ok2 o _ _) q1) ?_
  rw [zp_ok2E]
  refine ⟨rfl, zq_inv_nt (zq_nt_10 (zq_nt_nb nt q2) _) ?_ (fun a => ?_) hI⟩
  · have e13 : M'.1 9 0 13 = zv_f K K.2.1 := by rw [q2 9 0 13 (by simp [zq_gp])]; simp [zp_sI1]
    simp [zp_sI1, e13]
  · have : (zi_sI M' 10 0 9 (zv_f K K.2.1)).2 = M.2 := q3
    simp only [zq_longs, this] at a ⊢; exact a
/-- can: what each BEAT would do -/
theorem zf_fell_in (E : zf_E) (s : zf_S) : zf_fell E s = 0 ∨ zf_fell E s = 1 ∨ zf_fell E s = 2 ∨ zf_fell E s = 3 := by
  unfold zf_fell; repeat' split
  all_goals simp
def zv_fr (M M' : zi_M) : Prop := M'.2 = M.2 ∧ ∀ c k j, ¬ (c = 7 ∧ k = 40) → M'.1 c k j = M.1 c k j
theorem zv_fr_rfl (M : zi_M) : zv_fr M M := ⟨rfl, fun _ _ _ _ => rfl⟩
theorem zv_fr_tr {M M1 M2 : zi_M} (h : zv_fr M M1) (h2 : zv_fr M1 M2) : zv_fr M M2 := ⟨h2.1.trans h.1, fun c k j e => (h2.2 c k j e).trans (h.2 c k j e)⟩
theorem zv_fr_sp (M : zi_M) (s : zf_S) : zv_fr M (zp_sp M 40 s) := ⟨rfl, fun c k j e => by rw [zp_sp1, zp_h1 e]⟩
theorem zv_fr_nb {M M' : zi_M} (h : zv_fr M M') : zq_nb M M' := by
  intro c k s e
  refine h.2 c k s ?_
  intro hc; obtain ⟨a, b⟩ := hc; subst a; exact e (zq_g7n (by omega) (by omega) s)
theorem zf_cE_vf {M M' : zi_M} {E : zf_E} (h : zv_fr M M') (hE : zf_cE M E) : zf_cE M' E := by
  obtain ⟨⟨e1, e2, e3⟩, f1, f2, f3, f4⟩ := hE
  have e : ∀ c k j, c ≠ 7 → M'.1 c k j = M.1 c k j := fun c k j hc => h.2 c k j (by omega)
  exact ⟨⟨by rw [e 0 0 1 (by omega), e1], by rw [e 0 0 2 (by omega), e2], fun x y hx hy => by rw [e 11 _ _ (by omega)]; exact e3 x y hx hy⟩, by rw [e 2 0 1 (by omega), f1], by rw [e 2 0 2 (by omega), f2], by rw [e 2 0 3 (by omega), f3], by rw [e 2 0 4 (by omega), f4]⟩
theorem zf_is_vf {M M' : zi_M} (h : zv_fr M M') {i : Nat} (hi : i < 40) {s : zf_S} (hs : zf_is (M.1 7 i) s) : zf_is (M'.1 7 i) s := by
  have e : M'.1 7 i = M.1 7 i := funext fun j => h.2 7 i j (by omega)
  rw [e]; exact hs
def zv_b (b : Nat) : Int32 := 1 <<< (nI b &&& 31)
def zv_op (E : zf_E) (s : zf_S) (b : Nat) : Int32 := if zf_can E.1 s b then zv_b b else 0
def zv_fa (E : zf_E) (s : zf_S) (b : Nat) : Int32 := if zf_can E.1 s b then (if zf_fell E (zf_mv E s b) = 0 then 0 else zv_b b) else 0
theorem zc_canS (d : Nat) {M : zi_M} {E : zf_E} (hA : zf_okE E.1) (hE : zf_cE M E) {i : Nat} {s : zf_S} (hs : zf_is (M.1 7 i) s) (hc : s.1 < E.1.1) (hh : s.2.1 < E.1.2.1) {b : Nat} (hb : b < 3) (x : Int32) : ∃ M', zi_run (d + 3) zm_X9_can 35 [some (.inr (.inr (9, some 0))), none, some (.inr (.inr (1, some i))), some (.inl x), some (.inl (nI b))] [] M = zi_run (d + 3) zm_X9_can 35 [some (.inr (.inr (9, some 0))), none, some (.inr (.inr (1, some i))), some (.inl (x ||| zv_fa E s b)), some (.inl (nI (b + 1)))] [] M' ∧ zv_fr M M' := by
  have m1 : (-1 : Int32) ≤ 0 := by decide
  rw [ze_X9_can_35, zv_fa]
  by_cases hcan : zf_can E.1 s b
  · refine ⟨zp_sp M 40 (zf_bt E s b), ?_, zv_fr_sp M _⟩
    by_cases hf : zf_fell E (zf_mv E s b) = 0
    · have hf' : zf_fell E (zf_mv E s b) ≤ 0 := by rw [hf]; decide
      simp (disch := omega) only [↓zp_dn, ↓zp_hV, ↓zp_hI, ↓zp_hL, ↓zp_hR, ↓zp_hX, zp_eV, zp_eI, zp_eL, zp_eR, zp_eX, zp_eXl, zp_iV, zp_iI, zp_iL, zp_iR, ↓zp_sm, ↓zp_nls, ↓zp_nln, zp_bo0, zp_bo1, zp_okE, zp_ok2E, zp_rfE, ↓reduceIte, if_true, if_false, zp_leT, zp_leF, zp_ltT, zp_ltF, zp_eqT, zp_eqF, zp_leTl, zp_leFl, zp_ltTl, zp_ltFl, zp_leTr, zp_leFr, zp_ltTr, zp_ltFr, zp_eqTr, zp_eqFr, zp_eqTl, zp_eqFl, zp_eqFll, eq_self, zp_addl, zp_addr, zp_mull, zp_mulr, zp_subr, zp_subl, nI_add, pk_mul, zc_fly _ hA hE hs hc hh hb, if_pos hcan, if_pos hf', if_pos hf, ze_X9_can_68, Int32.or_zero]
    · have hf' : ¬ zf_fell E (zf_mv E s b) ≤ 0 := by
        rcases zf_fell_in E (zf_mv E s b) with e | e | e | e
        · exact absurd e hf
        · rw [e]; decide
        · rw [e]; decide
        · rw [e]; decide
      simp (disch := omega) only [↓zp_dn, ↓zp_hV, ↓zp_hI, ↓zp_hL, ↓zp_hR, ↓zp_hX, zp_eV, zp_eI, zp_eL, zp_eR, zp_eX, zp_eXl, zp_iV, zp_iI, zp_iL, zp_iR, ↓zp_sm, ↓zp_nls, ↓zp_nln, zp_bo0, zp_bo1, zp_okE, zp_ok2E, zp_rfE, ↓reduceIte, if_true, if_false, zp_leT, zp_leF, zp_ltT, zp_ltF, zp_eqT, zp_eqF, zp_leTl, zp_leFl, zp_ltTl, zp_ltFl, zp_leTr, zp_leFr, zp_ltTr, zp_ltFr, zp_eqTr, zp_eqFr, zp_eqTl, zp_eqFl, zp_eqFll, eq_self, zp_addl, zp_addr, zp_mull, zp_mulr, zp_subr, zp_subl, nI_add, pk_mul, zc_fly _ hA hE hs hc hh hb, if_pos hcan, if_neg hf', if_neg hf, ze_X9_can_68, zv_b]
  · refine ⟨M, ?_, zv_fr_rfl M⟩
    simp (disch := omega) only [↓zp_dn, ↓zp_hV, ↓zp_hI, ↓zp_hL, ↓zp_hR, ↓zp_hX, zp_eV, zp_eI, zp_eL, zp_eR, zp_eX, zp_eXl, zp_iV, zp_iI, zp_iL, zp_iR, ↓zp_sm, ↓zp_nls, ↓zp_nln, zp_bo0, zp_bo1, zp_okE, zp_ok2E, zp_rfE, ↓reduceIte, if_true, if_false, zp_leT, zp_leF, zp_ltT, zp_ltF, zp_eqT, zp_eqF, zp_leTl, zp_leFl, zp_ltTl, zp_ltFl, zp_leTr, zp_leFr, zp_ltTr, zp_ltFr, zp_eqTr, zp_eqFr, zp_eqTl, zp_eqFl, zp_eqFll, eq_self, zp_addl, zp_addr, zp_mull, zp_mulr, zp_subr, zp_subl, nI_add, pk_mul, zc_fly _ hA hE hs hc hh hb, if_neg hcan, if_pos m1, ze_X9_can_68, Int32.or_zero]
theorem zc_openS (d : Nat) {M : zi_M} {E : zf_E} (hA : zf_okE E.1) (hE : zf_cE M E) {i : Nat} {s : zf_S} (hs : zf_is (M.1 7 i) s) (hc : s.1 < E.1.1) (hh : s.2.1 < E.1.2.1) {b : Nat} (hb : b < 3) (x : Int32) : ∃ M', zi_run (d + 3) zm_X9_openBeats 4 [some (.inr (.inr (9, some 0))), some (.inr (.inr (1, some i))), some (.inl x), some (.inl (nI b))] [] M = zi_run (d + 3) zm_X9_openBeats 4 [some (.inr (.inr (9, some 0))), some (.inr (.inr (1, some i))), some (.inl (x ||| zv_op E s b)), some (.inl (nI (b + 1)))] [] M' ∧ zv_fr M M' := by
  rw [ze_X9_openBeats_4, zv_op]
  by_cases hcan : zf_can E.1 s b
  · refine ⟨zp_sp M 40 (zf_bt E s b), ?_, zv_fr_sp M _⟩
    have hf' : ¬ zf_fell E (zf_mv E s b) = -1 := by
      rcases zf_fell_in E (zf_mv E s b) with e | e | e | e <;> rw [e] <;> decide
    simp (disch := omega) only [↓zp_dn, ↓zp_hV, ↓zp_hI, ↓zp_hL, ↓zp_hR, ↓zp_hX, zp_eV, zp_eI, zp_eL, zp_eR, zp_eX, zp_eXl, zp_iV, zp_iI, zp_iL, zp_iR, ↓zp_sm, ↓zp_nls, ↓zp_nln, zp_bo0, zp_bo1, zp_okE, zp_ok2E, zp_rfE, ↓reduceIte, if_true, if_false, zp_leT, zp_leF, zp_ltT, zp_ltF, zp_eqT, zp_eqF, zp_leTl, zp_leFl, zp_ltTl, zp_ltFl, zp_leTr, zp_leFr, zp_ltTr, zp_ltFr, zp_eqTr, zp_eqFr, zp_eqTl, zp_eqFl, zp_eqFll, eq_self, zp_addl, zp_addr, zp_mull, zp_mulr, zp_subr, zp_subl, nI_add, pk_mul, zc_fly _ hA hE hs hc hh hb, if_pos hcan, if_neg hf', ze_X9_openBeats_35, zv_b]
  · refine ⟨M, ?_, zv_fr_rfl M⟩
    simp (disch := omega) only [↓zp_dn, ↓zp_hV, ↓zp_hI, ↓zp_hL, ↓zp_hR, ↓zp_hX, zp_eV, zp_eI, zp_eL, zp_eR, zp_eX, zp_eXl, zp_iV, zp_iI, zp_iL, zp_iR, ↓zp_sm, ↓zp_nls, ↓zp_nln, zp_bo0, zp_bo1, zp_okE, zp_ok2E, zp_rfE, ↓reduceIte, if_true, if_false, zp_leT, zp_leF, zp_ltT, zp_ltF, zp_eqT, zp_eqF, zp_leTl, zp_leFl, zp_ltTl, zp_ltFl, zp_leTr, zp_leFr, zp_ltTr, zp_ltFr, zp_eqTr, zp_eqFr, zp_eqTl, zp_eqFl, zp_eqFll, eq_self, zp_addl, zp_addr, zp_mull, zp_mulr, zp_subr, zp_subl, nI_add, pk_mul, zc_fly _ hA hE hs hc hh hb, if_neg hcan, ze_X9_openBeats_35, Int32.or_zero]
def zv_os (E : zf_E) (s : zf_S) : Int32 := 0 ||| zv_op E s 0 ||| zv_op E s 1 ||| zv_op E s 2
def zv_fs (E : zf_E) (s : zf_S) : Int32 := 0 ||| zv_fa E s 0 ||| zv_fa E s 1 ||| zv_fa E s 2
theorem zc_open (d : Nat) {M : zi_M} {E : zf_E} (hA : zf_okE E.1) (hE : zf_cE M E) {i : Nat} (hi : i < 40) {s : zf_S} (hs : zf_is (M.1 7 i) s) (hc : s.1 < E.1.1) (hh : s.2.1 < E.1.2.1) : ∃ M', zi_run (d + 3) zm_X9_openBeats 0 [some (.inr (.inr (9, some 0))), some (.inr (.inr (1, some i))), none, none] [] M = some (some (.inl (zv_os E s)), M') ∧ zv_fr M M' := by
  obtain ⟨M1, e1, f1⟩ := zc_openS d hA hE hs hc hh (b := 0) (by omega) 0
  obtain ⟨M2, e2, f2⟩ := zc_openS d hA (zf_cE_vf f1 hE) (zf_is_vf f1 hi hs) hc hh (b := 1) (by omega) (0 ||| zv_op E s 0)
  have f12 := zv_fr_tr f1 f2
  obtain ⟨M3, e3, f3⟩ := zc_openS d hA (zf_cE_vf f12 hE) (zf_is_vf f12 hi hs) hc hh (b := 2) (by omega) (0 ||| zv_op E s 0 ||| zv_op E s 1)
  refine ⟨M3, ?_, zv_fr_tr f12 f3⟩
  rw [ze_X9_openBeats_0]
  refine Eq.trans e1 (Eq.trans e2 (Eq.trans e3 ?_))
  rw [ze_X9_openBeats_4]
  simp (disch := omega) only [↓zp_dn, ↓zp_hV, ↓zp_hI, ↓zp_hL, ↓zp_hR, ↓zp_hX, zp_eV, zp_eI, zp_eL, zp_eR, zp_eX, zp_eXl, zp_iV, zp_iI, zp_iL, zp_iR, ↓zp_sm, ↓zp_nls, ↓zp_nln, zp_bo0, zp_bo1, zp_okE, zp_ok2E, zp_rfE, ↓reduceIte, if_true, if_false, zp_leT, zp_leF, zp_ltT, zp_ltF, zp_eqT, zp_eqF, zp_leTl, zp_leFl, zp_ltTl, zp_ltFl, zp_leTr, zp_leFr, zp_ltTr, zp_ltFr, zp_eqTr, zp_eqFr, zp_eqTl, zp_eqFl, zp_eqFll, eq_self, zp_addl, zp_addr, zp_mull, zp_mulr, zp_subr, zp_subl, nI_add, pk_mul, zv_os]
theorem zr_canS (d : Nat) {M : zi_M} {A : zf_A} {K : zf_K} (hA : zf_okE A) (hRA : zf_rA (M.1 28 0) A) (hR : zf_rK (M.1 28 0) K) {i : Nat} (hi : i < K.2.1) (h4 : K.2.1 ≤ 4) (hok : zf_okS A (zf_sp K i)) {b : Nat} (hb : b < 3) (x y : Int32) : ∃ M', zi_run (d + 4) zm_X10_can 17 [some (.inr (.inr (10, some 0))), some (.inl (nI i)), some (.inl x), some (.inl y), some (.inl (nI b))] [] M = zi_run (d + 4) zm_X10_can 17 [some (.inr (.inr (10, some 0))), some (.inl (nI i)), some (.inl (x ||| zv_op (zf_en A K i) (zf_sp K i) b)), some (.inl (y ||| zv_fa (zf_en A K i) (zf_sp K i) b)), some (.inl (nI (b + 1)))] [] M' ∧ zq_nb M M' ∧ M'.2 = M.2 := by
  have hE1 := zp_rt_E (M := M) (E := zf_en A K i) hRA (zf_sp K i)
  have hs1 := zp_rt_is M (zf_en A K i) (zf_sp K i)
  rw [ze_X10_can_17, zv_op, zv_fa]
  by_cases hcan : zf_can (zf_en A K i).1 (zf_sp K i) b
  · have m23 : (zp_rp (zp_rt M (zf_en A K i) (zf_sp K i)) (zf_bt (zf_en A K i) (zf_sp K i) b)).1 10 0 23 = zf_fell (zf_en A K i) (zf_mv (zf_en A K i) (zf_sp K i) b) := (zp_rp_is _ (zf_bt (zf_en A K i) (zf_sp K i) b)).2.2.2.2.2
    refine ⟨_, ?_, zq_nb_rp (zq_nb_rt (zq_nb_rfl M) (zf_en A K i) (zf_sp K i)) (zf_bt (zf_en A K i) (zf_sp K i) b), rfl⟩
    by_cases hf : zf_fell (zf_en A K i) (zf_mv (zf_en A K i) (zf_sp K i) b) = 0
    · simp (disch := omega) only [↓zp_dn, ↓zp_hV, ↓zp_hI, ↓zp_hL, ↓zp_hR, ↓zp_hX, zp_eV, zp_eI, zp_eL, zp_eR, zp_eX, zp_eXl, zp_iV, zp_iI, zp_iL, zp_iR, ↓zp_sm, ↓zp_nls, ↓zp_nln, zp_bo0, zp_bo1, zp_okE, zp_ok2E, zp_rfE, ↓reduceIte, if_true, if_false, zp_leT, zp_leF, zp_ltT, zp_ltF, zp_eqT, zp_eqF, zp_leTl, zp_leFl, zp_ltTl, zp_ltFl, zp_leTr, zp_leFr, zp_ltTr, zp_ltFr, zp_eqTr, zp_eqFr, zp_eqTl, zp_eqFl, zp_eqFll, eq_self, zp_addl, zp_addr, zp_mull, zp_mulr, zp_subr, zp_subl, nI_add, pk_mul, zr_takes (A := A) _ hR hi h4, zr_canBeat (E := zf_en A K i) _ hA hE1 hs1 hok.1 hok.2.1 hb, if_pos hcan, zp_1n0, zr_beats (E := zf_en A K i) _ hA hE1 hs1 hok.1 hok.2.1 hb hcan, m23, if_pos hf, ze_X10_can_66, ze_X10_can_68, zv_b]
    · simp (disch := omega) only [↓zp_dn, ↓zp_hV, ↓zp_hI, ↓zp_hL, ↓zp_hR, ↓zp_hX, zp_eV, zp_eI, zp_eL, zp_eR, zp_eX, zp_eXl, zp_iV, zp_iI, zp_iL, zp_iR, ↓zp_sm, ↓zp_nls, ↓zp_nln, zp_bo0, zp_bo1, zp_okE, zp_ok2E, zp_rfE, ↓reduceIte, if_true, if_false, zp_leT, zp_leF, zp_ltT, zp_ltF, zp_eqT, zp_eqF, zp_leTl, zp_leFl, zp_ltTl, zp_ltFl, zp_leTr, zp_leFr, zp_ltTr, zp_ltFr, zp_eqTr, zp_eqFr, zp_eqTl, zp_eqFl, zp_eqFll, eq_self, zp_addl, zp_addr, zp_mull, zp_mulr, zp_subr, zp_subl, nI_add, pk_mul, zr_takes (A := A) _ hR hi h4, zr_canBeat (E := zf_en A K i) _ hA hE1 hs1 hok.1 hok.2.1 hb, if_pos hcan, zp_1n0, zr_beats (E := zf_en A K i) _ hA hE1 hs1 hok.1 hok.2.1 hb hcan, m23, if_neg hf, ze_X10_can_66, ze_X10_can_68, zv_b]
  · refine ⟨_, ?_, zq_nb_rt (zq_nb_rfl M) (zf_en A K i) (zf_sp K i), rfl⟩
    simp (disch := omega) only [↓zp_dn, ↓zp_hV, ↓zp_hI, ↓zp_hL, ↓zp_hR, ↓zp_hX, zp_eV, zp_eI, zp_eL, zp_eR, zp_eX, zp_eXl, zp_iV, zp_iI, zp_iL, zp_iR, ↓zp_sm, ↓zp_nls, ↓zp_nln, zp_bo0, zp_bo1, zp_okE, zp_ok2E, zp_rfE, ↓reduceIte, if_true, if_false, zp_leT, zp_leF, zp_ltT, zp_ltF, zp_eqT, zp_eqF, zp_leTl, zp_leFl, zp_ltTl, zp_ltFl, zp_leTr, zp_leFr, zp_ltTr, zp_ltFr, zp_eqTr, zp_eqFr, zp_eqTl, zp_eqFl, zp_eqFll, eq_self, zp_addl, zp_addr, zp_mull, zp_mulr, zp_subr, zp_subl, nI_add, pk_mul, zr_takes (A := A) _ hR hi h4, zr_canBeat (E := zf_en A K i) _ hA hE1 hs1 hok.1 hok.2.1 hb, if_neg hcan, ze_X10_can_68, Int32.or_zero]
theorem zo_can (d : Nat) {n : Nat} {xs : Nat → Int32} {M : zi_M} (hI : zq_inv n xs M) (i : Int32) : zp_ok (zi_run (d + 5) zm_X9_can 0 [some (.inr (.inr (9, some 0))), some (.inl i), none, none, none] [] M) (zp_rf (d + 5) zm_X10_can [some (.inr (.inr (10, some 0))), some (.inl i), none, none, none]) (zq_inv n xs) := by
  obtain ⟨A, K, hS⟩ := hI.2.2.2.2.1
  have h4 := hS.2.1.1
  have hR := hS.2.2.2.2.2.1
  rcases zp_int i with hi | ⟨i, hi, rfl⟩
  · simp (disch := omega) only [ze_X9_can_0, ze_X10_can_0, zc_birdN _ hi, zr_flyerN _ hi, ze_X5_room_0, ze_X5_size_0, ze_X5_isThere_0, ze_X5_has_0, ze_X5_hasRun_0, ze_X5_get_0, ze_X5_set_0, ze_X5_drop_0, ze_X5_takeRun_0, ze_X9_rowAt_0, ze_X9_textAt_0, ze_X9_refuse_0, ze_X10_isRow_0, ze_X10_isText_0, ze_X10_finds_0, ze_X10_tells_0, zp_in_0_5, zp_in_0_3, zp_in_0_7, zp_in_1_5, zp_in_0_9, zp_in_0_2, zp_in_48_57, zp_in_0_12, zp_in_1_4, zp_in_1_9, zp_in_1_2147483646, zp_in_0_8, zp_in_0, ↓zp_dn, ↓zp_hV, ↓zp_hI, ↓zp_hL, ↓zp_hR, ↓zp_hX, zp_eV, zp_eI, zp_eL, zp_eR, zp_eX, zp_eXl, zp_iV, zp_iI, zp_iL, zp_iR, ↓zp_sm, ↓zp_nls, ↓zp_nln, zp_bo0, zp_bo1, zp_okE, zp_ok2E, zp_rfE, ↓reduceIte, if_true, if_false, zp_ofn, zp_sI1, zp_w1, zp_sL1, zp_sR1, zp_l1, zp_leT, zp_leF, zp_ltT, zp_ltF, zp_eqT, zp_eqF, zp_leTl, zp_leFl, zp_ltTl, zp_ltFl, zp_leTr, zp_leFr, zp_ltTr, zp_ltFr, zp_eqTr, zp_eqFr, zp_eqTl, zp_eqFl, zp_eqFll, eq_self, zp_addl, zp_addr, zp_mull, zp_mulr, zp_subr, zp_subl, nI_add, pk_mul, Nat.reduceEqDiff, Nat.reduceLT, Nat.reduceLeDiff, Nat.reduceAdd, Nat.reduceMul, Nat.reduceSub, reduceCtorEq, Int32.reduceLT, Int32.reduceLE, not_true_eq_false, not_false_eq_true, and_true, true_and, and_false, false_and, or_true, true_or, or_false, false_or]; exact hI
  by_cases hiF : i < K.2.1
  case neg => simp (disch := omega) only [ze_X9_can_0, ze_X10_can_0, zc_birdF _ hS (Nat.le_of_not_lt hiF) hi, zr_flyerF _ hR (Nat.le_of_not_lt hiF) hi h4, ze_X5_room_0, ze_X5_size_0, ze_X5_isThere_0, ze_X5_has_0, ze_X5_hasRun_0, ze_X5_get_0, ze_X5_set_0, ze_X5_drop_0, ze_X5_takeRun_0, ze_X9_rowAt_0, ze_X9_textAt_0, ze_X9_refuse_0, ze_X10_isRow_0, ze_X10_isText_0, ze_X10_finds_0, ze_X10_tells_0, zp_in_0_5, zp_in_0_3, zp_in_0_7, zp_in_1_5, zp_in_0_9, zp_in_0_2, zp_in_48_57, zp_in_0_12, zp_in_1_4, zp_in_1_9, zp_in_1_2147483646, zp_in_0_8, zp_in_0, ↓zp_dn, ↓zp_hV, ↓zp_hI, ↓zp_hL, ↓zp_hR, ↓zp_hX, zp_eV, zp_eI, zp_eL, zp_eR, zp_eX, zp_eXl, zp_iV, zp_iI, zp_iL, zp_iR, ↓zp_sm, ↓zp_nls, ↓zp_nln, zp_bo0, zp_bo1, zp_okE, zp_ok2E, zp_rfE, ↓reduceIte, if_true, if_false, zp_ofn, zp_sI1, zp_w1, zp_sL1, zp_sR1, zp_l1, zp_leT, zp_leF, zp_ltT, zp_ltF, zp_eqT, zp_eqF, zp_leTl, zp_leFl, zp_ltTl, zp_ltFl, zp_leTr, zp_leFr, zp_ltTr, zp_ltFr, zp_eqTr, zp_eqFr, zp_eqTl, zp_eqFl, zp_eqFll, eq_self, zp_addl, zp_addr, zp_mull, zp_mulr, zp_subr, zp_subl, nI_add, pk_mul, Nat.reduceEqDiff, Nat.reduceLT, Nat.reduceLeDiff, Nat.reduceAdd, Nat.reduceMul, Nat.reduceSub, reduceCtorEq, Int32.reduceLT, Int32.reduceLE, not_true_eq_false, not_false_eq_true, and_true, true_and, and_false, false_and, or_true, true_or, or_false, false_or]; exact hI
  obtain ⟨hE, hok, hsp⟩ := zq_fl hS hiF
  have k0 : M.1 6 0 5 = K.1 := hS.2.2.2.1.1
  have hcE : zf_cE (zp_bd M (zf_en A K i)) (zf_en A K i) := zp_bd_E hS.2.2.1
  have hs0 : zf_is ((zp_bd M (zf_en A K i)).1 7 i) (zf_sp K i) := zp_bd_is hsp
  have hi40 : i < 40 := by omega
  obtain ⟨M1, e1, f1⟩ := zc_canS (d + 2) (E := zf_en A K i) hE hcE hs0 hok.1 hok.2.1 (b := 0) (by omega) 0
  obtain ⟨M2, e2, f2⟩ := zc_canS (d + 2) (E := zf_en A K i) hE (zf_cE_vf f1 hcE) (zf_is_vf f1 hi40 hs0) hok.1 hok.2.1 (b := 1) (by omega) (0 ||| zv_fa (zf_en A K i) (zf_sp K i) 0)
  have f12 := zv_fr_tr f1 f2
  obtain ⟨M3, e3, f3⟩ := zc_canS (d + 2) (E := zf_en A K i) hE (zf_cE_vf f12 hcE) (zf_is_vf f12 hi40 hs0) hok.1 hok.2.1 (b := 2) (by omega) (0 ||| zv_fa (zf_en A K i) (zf_sp K i) 0 ||| zv_fa (zf_en A K i) (zf_sp K i) 1)
  have f13 := zv_fr_tr f12 f3
  have hcE3 : zf_cE (zi_sI M3 9 0 13 (zv_fs (zf_en A K i) (zf_sp K i))) (zf_en A K i) := zf_cE_ag (fun c k j hc => by rw [zp_sI1, if_neg (by omega)]) (zf_cE_vf f13 hcE)
  have hs3 : zf_is ((zi_sI M3 9 0 13 (zv_fs (zf_en A K i) (zf_sp K i))).1 7 i) (zf_sp K i) := zf_is_vf f13 hi40 hs0
  obtain ⟨M4, e4, f4⟩ := zc_open (d + 1) (E := zf_en A K i) hE hcE3 hi40 hs3 hok.1 hok.2.1
  have nb3 : zq_nb M M3 := zq_nb_tr (zq_nb_bd (zq_nb_rfl M) _) (zv_fr_nb f13)
  have nt4 : zq_nt M M4 := zq_nt_nb (zq_nt_9 (zq_nb_nt nb3) _) (zv_fr_nb f4)
  have l4 : M4.2 = M.2 := f4.1.trans (f13.1.trans (zp_bd2 M _))
  have e13 : M4.1 9 0 13 = zv_fs (zf_en A K i) (zf_sp K i) := by rw [f4.2 9 0 13 (by omega)]; simp [zp_sI1]
  have e28 : M4.1 28 0 = M.1 28 0 := funext fun j => nt4 28 0 j (by simp [zq_gp]) (by omega) (by omega)
  have hA4 : zf_rA (M4.1 28 0) A := by rw [e28]; exact hS.2.2.2.2.1
  have hR4 : zf_rK (M4.1 28 0) K := by rw [e28]; exact hR
  obtain ⟨N1, g1, n1, u1⟩ := zr_canS (d + 1) hE hA4 hR4 hiF h4 hok (b := 0) (by omega) 0 0
  have q1 := zq_nb_28 n1
  obtain ⟨N2, g2, n2, u2⟩ := zr_canS (d + 1) (M := N1) hE (by rw [q1]; exact hA4) (by rw [q1]; exact hR4) hiF h4 hok (b := 1) (by omega) (0 ||| zv_op (zf_en A K i) (zf_sp K i) 0) (0 ||| zv_fa (zf_en A K i) (zf_sp K i) 0)
  have n12 := zq_nb_tr n1 n2
  have q2 := zq_nb_28 n12
  obtain ⟨N3, g3, n3, u3⟩ := zr_canS (d + 1) (M := N2) hE (by rw [q2]; exact hA4) (by rw [q2]; exact hR4) hiF h4 hok (b := 2) (by omega) (0 ||| zv_op (zf_en A K i) (zf_sp K i) 0 ||| zv_op (zf_en A K i) (zf_sp K i) 1) (0 ||| zv_fa (zf_en A K i) (zf_sp K i) 0 ||| zv_fa (zf_en A K i) (zf_sp K i) 1)
  have n13 := zq_nb_tr n12 n3
  have g4 : zi_run (d + 5) zm_X10_can 17 [some (.inr (.inr (10, some 0))), some (.inl (nI i)), some (.inl 0), some (.inl 0), some (.inl 0)] [] M4 = some (some (.inl (zv_os (zf_en A K i) (zf_sp K i))), zi_sI N3 10 0 9 (zv_fs (zf_en A K i) (zf_sp K i))) := by
    refine Eq.trans g1 (Eq.trans g2 (Eq.trans g3 ?_))
    rw [ze_X10_can_17]
    simp (disch := omega) only [↓zp_dn, ↓zp_hV, ↓zp_hI, ↓zp_hL, ↓zp_hR, ↓zp_hX, zp_eV, zp_eI, zp_eL, zp_eR, zp_eX, zp_eXl, zp_iV, zp_iI, zp_iL, zp_iR, ↓zp_sm, ↓zp_nls, ↓zp_nln, zp_bo0, zp_bo1, zp_okE, zp_ok2E, zp_rfE, ↓reduceIte, if_true, if_false, zp_leT, zp_leF, zp_ltT, zp_ltF, zp_eqT, zp_eqF, zp_leTl, zp_leFl, zp_ltTl, zp_ltFl, zp_leTr, zp_leFr, zp_ltTr, zp_ltFr, zp_eqTr, zp_eqFr, zp_eqTl, zp_eqFl, zp_eqFll, eq_self, zp_addl, zp_addr, zp_mull, zp_mulr, zp_subr, zp_subl, nI_add, pk_mul, zv_os, zv_fs]
  have c4 : zi_run (d + 5) zm_X9_can 35 [some (.inr (.inr (9, some 0))), none, some (.inr (.inr (1, some i))), some (.inl 0), some (.inl 0)] [] (zp_bd M (zf_en A K i)) = some (some (.inl (zv_os (zf_en A K i) (zf_sp K i))), M4) := by
    refine Eq.trans e1 (Eq.trans e2 (Eq.trans e3 ?_))
    rw [ze_X9_can_35]
    have e4' : zi_run (d + 4) zm_X9_openBeats 0 [some (.inr (.inr (9, some 0))), some (.inr (.inr (1, some i))), none, none] [] (zi_sI M3 9 0 13 (0 ||| zv_fa (zf_en A K i) (zf_sp K i) 0 ||| zv_fa (zf_en A K i) (zf_sp K i) 1 ||| zv_fa (zf_en A K i) (zf_sp K i) 2)) = _ := e4
    simp (disch := omega) only [↓zp_dn, ↓zp_hV, ↓zp_hI, ↓zp_hL, ↓zp_hR, ↓zp_hX, zp_eV, zp_eI, zp_eL, zp_eR, zp_eX, zp_eXl, zp_iV, zp_iI, zp_iL, zp_iR, ↓zp_sm, ↓zp_nls, ↓zp_nln, zp_bo0, zp_bo1, zp_okE, zp_ok2E, zp_rfE, ↓reduceIte, if_true, if_false, zp_leT, zp_leF, zp_ltT, zp_ltF, zp_eqT, zp_eqF, zp_leTl, zp_leFl, zp_ltTl, zp_ltFl, zp_leTr, zp_leFr, zp_ltTr, zp_ltFr, zp_eqTr, zp_eqFr, zp_eqTl, zp_eqFl, zp_eqFll, eq_self, zp_addl, zp_addr, zp_mull, zp_mulr, zp_subr, zp_subl, nI_add, pk_mul, e4']
  rw [ze_X9_can_0]
  simp (disch := omega) only [zc_bird _ hS hiF, k0, zc_board _ hS hiF, ↓zp_dn, ↓zp_hV, ↓zp_hI, ↓zp_hL, ↓zp_hR, ↓zp_hX, zp_eV, zp_eI, zp_eL, zp_eR, zp_eX, zp_eXl, zp_iV, zp_iI, zp_iL, zp_iR, ↓zp_sm, ↓zp_nls, ↓zp_nln, zp_bo0, zp_bo1, zp_okE, zp_ok2E, zp_rfE, ↓reduceIte, if_true, if_false]
  rw [c4, zp_okE, zp_rfE, ze_X10_can_0]
  simp (disch := omega) only [zr_flyer _ hR4 hiF h4, ze_X5_room_0, ze_X5_size_0, ze_X5_isThere_0, ze_X5_has_0, ze_X5_hasRun_0, ze_X5_get_0, ze_X5_set_0, ze_X5_drop_0, ze_X5_takeRun_0, ze_X9_rowAt_0, ze_X9_textAt_0, ze_X9_refuse_0, ze_X10_isRow_0, ze_X10_isText_0, ze_X10_finds_0, ze_X10_tells_0, zp_in_0_5, zp_in_0_3, zp_in_0_7, zp_in_1_5, zp_in_0_9, zp_in_0_2, zp_in_48_57, zp_in_0_12, zp_in_1_4, zp_in_1_9, zp_in_1_2147483646, zp_in_0_8, zp_in_0, ↓zp_dn, ↓zp_hV, ↓zp_hI, ↓zp_hL, ↓zp_hR, ↓zp_hX, zp_eV, zp_eI, zp_eL, zp_eR, zp_eX, zp_eXl, zp_iV, zp_iI, zp_iL, zp_iR, ↓zp_sm, ↓zp_nls, ↓zp_nln, zp_bo0, zp_bo1, zp_okE, zp_ok2E, zp_rfE, ↓reduceIte, if_true, if_false, zp_ofn, zp_sI1, zp_w1, zp_sL1, zp_sR1, zp_l1, zp_leT, zp_leF, zp_ltT, zp_ltF, zp_eqT, zp_eqF, zp_leTl, zp_leFl, zp_ltTl, zp_ltFl, zp_leTr, zp_leFr, zp_ltTr, zp_ltFr, zp_eqTr, zp_eqFr, zp_eqTl, zp_eqFl, zp_eqFll, eq_self, zp_addl, zp_addr, zp_mull, zp_mulr, zp_subr, zp_subl, nI_add, pk_mul, Nat.reduceEqDiff, Nat.reduceLT, Nat.reduceLeDiff, Nat.reduceAdd, Nat.reduceMul, Nat.reduceSub, reduceCtorEq, Int32.reduceLT, Int32.reduceLE, not_true_eq_false, not_false_eq_true, and_true, true_and, and_false, false_and, or_true, true_or, or_false, false_or]
  rw [g4, zp_ok2E]
  refine ⟨rfl, zq_inv_nt (zq_nt_10 (zq_nt_nb nt4 n13) _) ?_ (fun a => ?_) hI⟩
  · simp [zp_sI1, n13 9 0 13 (by simp [zq_gp]), e13]
  · have : (zi_sI N3 10 0 9 (zv_fs (zf_en A K i) (zf_sp K i))).2 = M.2 := u3.trans (u2.trans (u1.trans l4))
    simp only [zq_longs, this] at a ⊢; exact a
