/-! THE PURE PART: mark, over, can -/
theorem zq_nb_cg {M M' : zi_M} (h : zq_nb M M') (c k s : Nat) (x : Int32) : zq_nb (zi_sI M c k s x) (zi_sI M' c k s x) := by
  intro c' k' s' e
  simp only [zp_sI1, h c' k' s' e]
theorem zq_findx {n : Nat} {xs : Nat → Int32} {M Mx : zi_M} (hI : zq_inv n xs M) (f : Nat) (x : Int32) (h : zq_nb (zi_sI (zi_sI M 9 0 12 x) 22 0 f (M.1 22 0 f + 1)) Mx) (hl : Mx.2 = M.2) : zq_inv n xs (zi_sI (zi_sI Mx 10 0 8 x) 31 0 f (Mx.1 31 0 f + 1)) := by
  have e : Mx.1 31 0 f = M.1 31 0 f := by rw [h 31 0 f (by simp [zq_gp])]; simp [zp_sI1]
  rw [e]
  exact zq_inv_nb (zq_nb_cg (zq_nb_cg h 10 0 8 x) 31 0 f _) (fun a => by
    simp only [zq_longs, zp_sI2, hl] at a ⊢; exact a) (zq_find hI f x)
/-- a loop whose memory is only described -/
theorem zp_forE {σ : Type} (F : Nat → σ → zi_O) (n : Nat) (P : Nat → σ → Prop) (Q : zi_O → Prop) (he : ∀ M, P n M → Q (F n M)) (hs : ∀ i M, i < n → P i M → ∃ M', P (i + 1) M' ∧ F i M = F (i + 1) M') : ∀ i M, i ≤ n → P i M → Q (F i M) := by
  intro i
  induction hm : n - i generalizing i with
  | zero => intro M hi h; have e : i = n := by omega
            subst e; exact he M h
  | succ m ih => intro M hi h
                 obtain ⟨M', h', e⟩ := hs i M (by omega) h
                 rw [e]; exact ih (i + 1) (by omega) M' (by omega) h'
/-- how many others are in a column -/
def zf_oth (K : zf_K) (i c : Nat) : Nat → Nat
  | 0 => 0
  | n + 1 => if n = i then zf_oth K i c n else if (zf_sp K n).1 = c then zf_oth K i c n + 1 else zf_oth K i c n
theorem zf_oth_le (K : zf_K) (i c n : Nat) : zf_oth K i c n ≤ n := by
  induction n with
  | zero => exact Nat.le_refl 0
  | succ n ih => simp only [zf_oth]; split
                 · omega
                 · split <;> omega
theorem zc_others (d : Nat) {M : zi_M} {A : zf_A} {K : zf_K} (hS : zq_sky M A K) {i c : Nat} (hi : i < 4) (hc : c < 8) : zi_run d zm_X6_othersIn 0 [some (.inr (.inr (6, some 0))), some (.inl (nI i)), some (.inl (nI c)), none, none] [] M = some (some (.inl (nI (zf_oth K i c K.2.1))), M) := by
  have h4 := hS.2.1.1
  have e4 := hS.2.2.2.1.2.1
  rw [ze_X6_othersIn_0]
  refine zp_for (fun q => zi_run d zm_X6_othersIn 5 [some (.inr (.inr (6, some 0))), some (.inl (nI i)), some (.inl (nI c)), some (.inl (nI (zf_oth K i c q))), some (.inl (nI q))] [] M) K.2.1 _ ?_ ?_ 0 (Nat.zero_le _)
  · simp (disch := omega) only [ze_X6_othersIn_5, e4, ↓zp_dn, ↓zp_hV, ↓zp_hI, ↓zp_hL, ↓zp_hR, ↓zp_hX, zp_eV, zp_eI, zp_eL, zp_eR, zp_eX, zp_eXl, zp_iV, zp_iI, zp_iL, zp_iR, ↓zp_sm, ↓zp_nls, ↓zp_nln, zp_bo0, zp_bo1, zp_okE, zp_ok2E, zp_rfE, ↓reduceIte, if_true, if_false, zp_leT, zp_leF, zp_ltT, zp_ltF, zp_eqT, zp_eqF, zp_leTl, zp_leFl, zp_ltTl, zp_ltFl, zp_leTr, zp_leFr, zp_ltTr, zp_ltFr, zp_eqTr, zp_eqFr, zp_eqTl, zp_eqFl, zp_eqFll, eq_self, zp_addl, zp_addr, zp_mull, zp_mulr, zp_subr, zp_subl, nI_add, pk_mul]
  · intro q hq
    have hs := (zq_fl hS hq).2.2.1
    have hok := (zq_fl hS hq).2.1.1
    have h7 := (zf_okA7 hS.1).1
    have hle := zf_oth_le K i c q
    by_cases e : q = i
    · subst e
      simp (disch := omega) only [ze_X6_othersIn_5, ze_X6_othersIn_46, e4, ↓zp_dn, ↓zp_hV, ↓zp_hI, ↓zp_hL, ↓zp_hR, ↓zp_hX, zp_eV, zp_eI, zp_eL, zp_eR, zp_eX, zp_eXl, zp_iV, zp_iI, zp_iL, zp_iR, ↓zp_sm, ↓zp_nls, ↓zp_nln, zp_bo0, zp_bo1, zp_okE, zp_ok2E, zp_rfE, ↓reduceIte, if_true, if_false, zp_leT, zp_leF, zp_ltT, zp_ltF, zp_eqT, zp_eqF, zp_leTl, zp_leFl, zp_ltTl, zp_ltFl, zp_leTr, zp_leFr, zp_ltTr, zp_ltFr, zp_eqTr, zp_eqFr, zp_eqTl, zp_eqFl, zp_eqFll, eq_self, zp_addl, zp_addr, zp_mull, zp_mulr, zp_subr, zp_subl, nI_add, pk_mul, zf_oth]
    · by_cases e2 : (zf_sp K q).1 = c
      · simp (disch := omega) only [ze_X6_othersIn_5, ze_X6_othersIn_46, e4, ↓zp_dn, ↓zp_hV, ↓zp_hI, ↓zp_hL, ↓zp_hR, ↓zp_hX, zp_eV, zp_eI, zp_eL, zp_eR, zp_eX, zp_eXl, zp_iV, zp_iI, zp_iL, zp_iR, ↓zp_sm, ↓zp_nls, ↓zp_nln, zp_bo0, zp_bo1, zp_okE, zp_ok2E, zp_rfE, ↓reduceIte, if_true, if_false, zp_leT, zp_leF, zp_ltT, zp_ltF, zp_eqT, zp_eqF, zp_leTl, zp_leFl, zp_ltTl, zp_ltFl, zp_leTr, zp_leFr, zp_ltTr, zp_ltFr, zp_eqTr, zp_eqFr, zp_eqTl, zp_eqFl, zp_eqFll, eq_self, zp_addl, zp_addr, zp_mull, zp_mulr, zp_subr, zp_subl, nI_add, pk_mul, Nat.mul_zero, Nat.zero_add, hs, zf_oth, if_neg e, if_pos e2]
      · simp (disch := omega) only [ze_X6_othersIn_5, ze_X6_othersIn_46, e4, ↓zp_dn, ↓zp_hV, ↓zp_hI, ↓zp_hL, ↓zp_hR, ↓zp_hX, zp_eV, zp_eI, zp_eL, zp_eR, zp_eX, zp_eXl, zp_iV, zp_iI, zp_iL, zp_iR, ↓zp_sm, ↓zp_nls, ↓zp_nln, zp_bo0, zp_bo1, zp_okE, zp_ok2E, zp_rfE, ↓reduceIte, if_true, if_false, zp_leT, zp_leF, zp_ltT, zp_ltF, zp_eqT, zp_eqF, zp_leTl, zp_leFl, zp_ltTl, zp_ltFl, zp_leTr, zp_leFr, zp_ltTr, zp_ltFr, zp_eqTr, zp_eqFr, zp_eqTl, zp_eqFl, zp_eqFll, eq_self, zp_addl, zp_addr, zp_mull, zp_mulr, zp_subr, zp_subl, nI_add, pk_mul, Nat.mul_zero, Nat.zero_add, hs, zf_oth, if_neg e, if_neg e2]
theorem zr_beside (d : Nat) {M : zi_M} {A : zf_A} {K : zf_K} (hok : zf_okK A K) (hA : A.1 ≤ 7) (hR : zf_rK (M.1 28 0) K) {i c : Nat} (hi : i < 4) (hc : c < 8) (h18 : M.1 10 0 18 = nI c) (x : Int32) : zi_run (d + 1) zm_X10_mark 83 [some (.inr (.inr (10, some 0))), some (.inl (nI i)), some (.inl x), none, some (.inl 0), some (.inl 0)] [] M = zi_run (d + 1) zm_X10_mark 83 [some (.inr (.inr (10, some 0))), some (.inl (nI i)), some (.inl x), none, some (.inl (nI (zf_oth K i c K.2.1))), some (.inl (nI K.2.1))] [] M := by
  have h4 := hok.1
  have e3 := hR.2.1
  refine zp_for (fun q => zi_run (d + 1) zm_X10_mark 83 [some (.inr (.inr (10, some 0))), some (.inl (nI i)), some (.inl x), none, some (.inl (nI (zf_oth K i c q))), some (.inl (nI q))] [] M) K.2.1 _ rfl ?_ 0 (Nat.zero_le _)
  intro q hq
  have hs : M.1 28 0 (40 + 9 * q + 1) = nI (zf_sp K q).1 := (hR.2.2.2.1 q hq).2.2.2.1
  have hq1 : (zf_sp K q).1 < A.1 := (hok.2.2.1 q hq).1.1
  have hle := zf_oth_le K i c q
  rw [ze_X10_mark_83]
  by_cases e : q = i
  · subst e
    simp (disch := omega) only [ze_X10_mark_128, ze_X10_mark_129, e3, ↓zp_dn, ↓zp_hV, ↓zp_hI, ↓zp_hL, ↓zp_hR, ↓zp_hX, zp_eV, zp_eI, zp_eL, zp_eR, zp_eX, zp_eXl, zp_iV, zp_iI, zp_iL, zp_iR, ↓zp_sm, ↓zp_nls, ↓zp_nln, zp_bo0, zp_bo1, zp_okE, zp_ok2E, zp_rfE, ↓reduceIte, if_true, if_false, zp_leT, zp_leF, zp_ltT, zp_ltF, zp_eqT, zp_eqF, zp_leTl, zp_leFl, zp_ltTl, zp_ltFl, zp_leTr, zp_leFr, zp_ltTr, zp_ltFr, zp_eqTr, zp_eqFr, zp_eqTl, zp_eqFl, zp_eqFll, eq_self, zp_addl, zp_addr, zp_mull, zp_mulr, zp_subr, zp_subl, nI_add, pk_mul, zf_oth, Int32.add_zero]
  · by_cases e2 : (zf_sp K q).1 = c
    · simp (disch := omega) only [ze_X10_mark_128, ze_X10_mark_129, e3, ↓zp_dn, ↓zp_hV, ↓zp_hI, ↓zp_hL, ↓zp_hR, ↓zp_hX, zp_eV, zp_eI, zp_eL, zp_eR, zp_eX, zp_eXl, zp_iV, zp_iI, zp_iL, zp_iR, ↓zp_sm, ↓zp_nls, ↓zp_nln, zp_bo0, zp_bo1, zp_okE, zp_ok2E, zp_rfE, ↓reduceIte, if_true, if_false, zp_leT, zp_leF, zp_ltT, zp_ltF, zp_eqT, zp_eqF, zp_leTl, zp_leFl, zp_ltTl, zp_ltFl, zp_leTr, zp_leFr, zp_ltTr, zp_ltFr, zp_eqTr, zp_eqFr, zp_eqTl, zp_eqFl, zp_eqFll, eq_self, zp_addl, zp_addr, zp_mull, zp_mulr, zp_subr, zp_subl, nI_add, pk_mul, hs, h18, zf_oth, if_neg e, if_pos e2, Int32.add_zero]
    · simp (disch := omega) only [ze_X10_mark_128, ze_X10_mark_129, e3, ↓zp_dn, ↓zp_hV, ↓zp_hI, ↓zp_hL, ↓zp_hR, ↓zp_hX, zp_eV, zp_eI, zp_eL, zp_eR, zp_eX, zp_eXl, zp_iV, zp_iI, zp_iL, zp_iR, ↓zp_sm, ↓zp_nls, ↓zp_nln, zp_bo0, zp_bo1, zp_okE, zp_ok2E, zp_rfE, ↓reduceIte, if_true, if_false, zp_leT, zp_leF, zp_ltT, zp_ltF, zp_eqT, zp_eqF, zp_leTl, zp_leFl, zp_ltTl, zp_ltFl, zp_leTr, zp_leFr, zp_ltTr, zp_ltFr, zp_eqTr, zp_eqFr, zp_eqTl, zp_eqFl, zp_eqFll, eq_self, zp_addl, zp_addr, zp_mull, zp_mulr, zp_subr, zp_subl, nI_add, pk_mul, hs, h18, zf_oth, if_neg e, if_neg e2, Int32.add_zero]
