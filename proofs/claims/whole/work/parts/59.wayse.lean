/-! THE PURE PART: heights, feathers -/
theorem zp_sl5 {h : Nat} (hh : h < 5) : (31 : Int32) &&& (1 <<< (nI h &&& 31)) = 1 <<< (nI h &&& 31) := by
  have h' : h = 0 ∨ h = 1 ∨ h = 2 ∨ h = 3 ∨ h = 4 := by omega
  rcases h' with e | e | e | e | e <;> subst e <;> decide
theorem zp_sl7 {a : Nat} (hh : a ≤ 7) : (1 : Int32) <<< (nI a &&& 31) = nI (2 ^ a) := by
  have h' : a = 0 ∨ a = 1 ∨ a = 2 ∨ a = 3 ∨ a = 4 ∨ a = 5 ∨ a = 6 ∨ a = 7 := by omega
  rcases h' with e | e | e | e | e | e | e | e <;> subst e <;> decide
theorem zw_come_in {E : zf_E} (hA : zf_okE E.1) {w : zw_w} {s : zf_S} (h : zw_ok E s w) (c : Nat) : zw_come w c = -9 ∨ ∃ q : Nat, q < 5 ∧ zw_come w c = nI q := by
  have hs := zw_ok_sp hA h
  clear h
  have a4 := hA.2.2.2
  have gen : ∀ (w : zw_w) (x : Int32), (∀ q, q ∈ w → q.2.2.1 < E.1.2.1) → (x = -9 ∨ ∃ q : Nat, q < 5 ∧ x = nI q) → (w.foldl (fun x q => if q.2.1 = c then nI q.2.2.1 else x) x = -9 ∨ ∃ q : Nat, q < 5 ∧ w.foldl (fun x q => if q.2.1 = c then nI q.2.2.1 else x) x = nI q) := by
    intro w
    induction w with
    | nil => intro x _ hx; exact hx
    | cons q w ih =>
      intro x hq hx
      simp only [List.foldl_cons]
      refine ih _ (fun q' hq' => hq q' (by simp [hq'])) ?_
      by_cases e : q.2.1 = c
      · rw [if_pos e]
        have := hq q (by simp)
        exact Or.inr ⟨q.2.2.1, by omega, rfl⟩
      · rw [if_neg e]; exact hx
  exact gen w (-9) (fun q hq => (hs q hq).2.2.1) (Or.inl rfl)
theorem zw_31 {E : zf_E} (hA : zf_okE E.1) {w : zw_w} {s : zf_S} (h : zw_ok E s w) (c : Nat) : (31 : Int32) &&& zw_bit (zw_come w c) = zw_bit (zw_come w c) := by
  rcases zw_come_in hA h c with e | ⟨q, hq, e⟩
  · rw [e]; decide
  · rw [e, zw_bit, if_neg (by rw [zp_e9 (by omega)]; exact fun x => x)]; exact zp_sl5 hq
/-- heights, in the class: n WAYS so far, some, each -/
def zw_hf (c : Nat) : List zw_w → Nat → Int32 → Int32 → Int32 × Int32
  | [], _, a, e => (a, e)
  | w :: ws, n, a, e => zw_hf c ws (n + 1) (a ||| zw_hts w c) (if n = 0 then zw_hts w c else e &&& zw_hts w c)
/-- in the reference -/
def zw_hg (c : Nat) : List zw_w → Nat → Int32 → Int32 → Int32 × Int32
  | [], n, a, e => (a, if n = 0 then 0 else e)
  | w :: ws, n, a, e => zw_hg c ws (n + 1) (a ||| zw_bit (zw_come w c)) (e &&& zw_bit (zw_come w c))
theorem zw_hfg1 {E : zf_E} (hA : zf_okE E.1) {s : zf_S} (c : Nat) : ∀ (ws : List zw_w), (∀ w, w ∈ ws → zw_ok E s w) → ∀ (n : Nat) (a e : Int32), 0 < n → zw_hf c ws n a e = zw_hg c ws n a e := by
  intro ws
  induction ws with
  | nil => intro _ n a e hn; simp only [zw_hf, zw_hg, if_neg (show ¬ n = 0 from by omega)]
  | cons w ws ih =>
    intro hw n a e hn
    simp only [zw_hf, zw_hg, if_neg (show ¬ n = 0 from by omega)]
    rw [zw_hts_come hA (hw w (by simp)) c]
    exact ih (fun v hv => hw v (by simp [hv])) (n + 1) _ _ (by omega)
theorem zw_hfg {E : zf_E} (hA : zf_okE E.1) {s : zf_S} (c : Nat) (ws : List zw_w) (hw : ∀ w, w ∈ ws → zw_ok E s w) (a : Int32) : zw_hf c ws 0 a 0 = zw_hg c ws 0 a 31 := by
  cases ws with
  | nil => rfl
  | cons w ws =>
    simp only [zw_hf, zw_hg, if_true]
    rw [zw_hts_come hA (hw w (by simp)) c, zw_31 hA (hw w (by simp)) c]
    exact zw_hfg1 hA c ws (fun v hv => hw v (by simp [hv])) 1 _ _ (by omega)
theorem zw_ok8 {E : zf_E} (hA : zf_okE E.1) {w : zw_w} {s : zf_S} (h : zw_ok E s w) : ∀ q, q ∈ w → q.2.1 < 8 := fun q hq => by
  have := (zw_ok_sp hA h q hq).2.1; have := hA.2.1; omega
theorem zc_htsL (d : Nat) {E : zf_E} {s0 : zf_S} {c : Nat} (hc : c < 8) : ∀ (ws : List zw_w) (n : Nat) (M : zi_M) (a e : Int32), zw_I M E s0 ws → (∀ w, w ∈ ws → zw_ok E s0 w) → n + ws.length ≤ 729 → ∃ M', zi_run (d + 4) zm_X9_heights 57 [some (.inr (.inr (9, some 0))), none, some (.inl (nI c)), none, some (.inl a), some (.inl e), some (.inl (nI n)), none] [] M = some (some (.inl (zw_hf c ws n a e).1), zi_sI M' 9 0 13 (zw_hf c ws n a e).2) ∧ zw_fr M M' := by
  intro ws
  induction ws with
  | nil =>
    intro n M a e h _ hn
    by_cases h9 : n = 729
    · subst h9
      refine ⟨M, ?_, zw_fr_rfl M⟩
      rw [ze_X9_heights_57]
      simp (disch := omega) only [↓zp_dn, ↓zp_hV, ↓zp_hI, ↓zp_hL, ↓zp_hR, ↓zp_hX, zp_eV, zp_eI, zp_eL, zp_eR, zp_eX, zp_eXl, zp_iV, zp_iI, zp_iL, zp_iR, ↓zp_sm, ↓zp_nls, ↓zp_nln, zp_bo0, zp_bo1, zp_okE, zp_ok2E, zp_rfE, ↓reduceIte, if_true, if_false, zp_leT, zp_leF, zp_ltT, zp_ltF, zp_eqT, zp_eqF, zp_leTl, zp_leFl, zp_ltTl, zp_ltFl, zp_leTr, zp_leFr, zp_ltTr, zp_ltFr, zp_eqTr, zp_eqFr, zp_eqTl, zp_eqFl, zp_eqFll, eq_self, zp_addl, zp_addr, zp_mull, zp_mulr, zp_subr, zp_subl, nI_add, pk_mul, ze_X9_heights_115, zw_hf]
    · obtain ⟨M', e1, e2⟩ := zw_next d h
      simp only [List.length_nil, Nat.add_zero] at hn
      refine ⟨M', ?_, e2⟩
      rw [ze_X9_heights_57]
      simp (disch := omega) only [↓zp_dn, ↓zp_hV, ↓zp_hI, ↓zp_hL, ↓zp_hR, ↓zp_hX, zp_eV, zp_eI, zp_eL, zp_eR, zp_eX, zp_eXl, zp_iV, zp_iI, zp_iL, zp_iR, ↓zp_sm, ↓zp_nls, ↓zp_nln, zp_bo0, zp_bo1, zp_okE, zp_ok2E, zp_rfE, ↓reduceIte, if_true, if_false, zp_leT, zp_leF, zp_ltT, zp_ltF, zp_eqT, zp_eqF, zp_leTl, zp_leFl, zp_ltTl, zp_ltFl, zp_leTr, zp_leFr, zp_ltTr, zp_ltFr, zp_eqTr, zp_eqFr, zp_eqTl, zp_eqFl, zp_eqFll, eq_self, zp_addl, zp_addr, zp_mull, zp_mulr, zp_subr, zp_subl, nI_add, pk_mul, e1, ze_X9_heights_115, zw_hf]
  | cons w ws ih =>
    intro n M a e h hw hn
    simp only [List.length_cons] at hn
    obtain ⟨M1, e1, e2, e3, e4⟩ := zw_next d h
    have h8 := zw_ok8 h.1 (hw w (by simp))
    obtain ⟨M', f1, f2⟩ := ih (n + 1) M1 (a ||| zw_hts w c) (if n = 0 then zw_hts w c else e &&& zw_hts w c) e3 (fun v hv => hw v (by simp [hv])) (by omega)
    refine ⟨M', ?_, zw_fr_tr e2 f2⟩
    rw [ze_X9_heights_57, zw_hf, ← f1]
    by_cases n0 : n = 0
    · simp (disch := omega) only [↓zp_dn, ↓zp_hV, ↓zp_hI, ↓zp_hL, ↓zp_hR, ↓zp_hX, zp_eV, zp_eI, zp_eL, zp_eR, zp_eX, zp_eXl, zp_iV, zp_iI, zp_iL, zp_iR, ↓zp_sm, ↓zp_nls, ↓zp_nln, zp_bo0, zp_bo1, zp_okE, zp_ok2E, zp_rfE, ↓reduceIte, if_true, if_false, zp_leT, zp_leF, zp_ltT, zp_ltF, zp_eqT, zp_eqF, zp_leTl, zp_leFl, zp_ltTl, zp_ltFl, zp_leTr, zp_leFr, zp_ltTr, zp_ltFr, zp_eqTr, zp_eqFr, zp_eqTl, zp_eqFl, zp_eqFll, eq_self, zp_addl, zp_addr, zp_mull, zp_mulr, zp_subr, zp_subl, nI_add, pk_mul, e1, zp_1n0, zc_hts _ e4 h8 hc, ze_X9_heights_107, if_pos n0]
    · simp (disch := omega) only [↓zp_dn, ↓zp_hV, ↓zp_hI, ↓zp_hL, ↓zp_hR, ↓zp_hX, zp_eV, zp_eI, zp_eL, zp_eR, zp_eX, zp_eXl, zp_iV, zp_iI, zp_iL, zp_iR, ↓zp_sm, ↓zp_nls, ↓zp_nln, zp_bo0, zp_bo1, zp_okE, zp_ok2E, zp_rfE, ↓reduceIte, if_true, if_false, zp_leT, zp_leF, zp_ltT, zp_ltF, zp_eqT, zp_eqF, zp_leTl, zp_leFl, zp_ltTl, zp_ltFl, zp_leTr, zp_leFr, zp_ltTr, zp_ltFr, zp_eqTr, zp_eqFr, zp_eqTl, zp_eqFl, zp_eqFll, eq_self, zp_addl, zp_addr, zp_mull, zp_mulr, zp_subr, zp_subl, nI_add, pk_mul, e1, zp_1n0, zc_hts _ e4 h8 hc, ze_X9_heights_107, if_neg n0]
theorem zr_htsL (d : Nat) {M0 : zi_M} {A : zf_A} {K : zf_K} (hE : zf_okE A) (hRA : zf_rA (M0.1 28 0) A) (hR : zf_rK (M0.1 28 0) K) {i : Nat} (hi : i < K.2.1) (h4 : K.2.1 ≤ 4) (hok : zf_okS A (zf_sp K i)) {c : Nat} (hc7 : c < 7) : ∀ (k code n : Nat) (M : zi_M) (a e : Int32), code + k = 729 → n ≤ code → zq_nb M0 M → M.2 = M0.2 → ∃ M', zi_run (d + 5) zm_X10_heights 47 [some (.inr (.inr (10, some 0))), some (.inl (nI i)), some (.inl (nI c)), some (.inl a), some (.inl e), some (.inl (nI n)), some (.inl (nI code)), none] [] M = some (some (.inl (zw_hg c (zw_lst (zw_go (zf_en A K i) 6 (zf_sp K i)) code k) n a e).1), zi_sI M' 10 0 9 (zw_hg c (zw_lst (zw_go (zf_en A K i) 6 (zf_sp K i)) code k) n a e).2) ∧ zq_nb M0 M' ∧ M'.2 = M0.2 := by
  intro k
  induction k with
  | zero =>
    intro code n M a e hc hn hb h2
    refine ⟨M, ?_, hb, h2⟩
    rw [ze_X10_heights_47]
    by_cases n0 : n = 0
    · simp (disch := omega) only [↓zp_dn, ↓zp_hV, ↓zp_hI, ↓zp_hL, ↓zp_hR, ↓zp_hX, zp_eV, zp_eI, zp_eL, zp_eR, zp_eX, zp_eXl, zp_iV, zp_iI, zp_iL, zp_iR, ↓zp_sm, ↓zp_nls, ↓zp_nln, zp_bo0, zp_bo1, zp_okE, zp_ok2E, zp_rfE, ↓reduceIte, if_true, if_false, zp_leT, zp_leF, zp_ltT, zp_ltF, zp_eqT, zp_eqF, zp_leTl, zp_leFl, zp_ltTl, zp_ltFl, zp_leTr, zp_leFr, zp_ltTr, zp_ltFr, zp_eqTr, zp_eqFr, zp_eqTl, zp_eqFl, zp_eqFll, eq_self, zp_addl, zp_addr, zp_mull, zp_mulr, zp_subr, zp_subl, nI_add, pk_mul, ze_X10_heights_127, zw_lst, zw_hg, if_pos n0]
    · simp (disch := omega) only [↓zp_dn, ↓zp_hV, ↓zp_hI, ↓zp_hL, ↓zp_hR, ↓zp_hX, zp_eV, zp_eI, zp_eL, zp_eR, zp_eX, zp_eXl, zp_iV, zp_iI, zp_iL, zp_iR, ↓zp_sm, ↓zp_nls, ↓zp_nln, zp_bo0, zp_bo1, zp_okE, zp_ok2E, zp_rfE, ↓reduceIte, if_true, if_false, zp_leT, zp_leF, zp_ltT, zp_ltF, zp_eqT, zp_eqF, zp_leTl, zp_leFl, zp_ltTl, zp_ltFl, zp_leTr, zp_leFr, zp_ltTr, zp_ltFr, zp_eqTr, zp_eqFr, zp_eqTl, zp_eqFl, zp_eqFll, eq_self, zp_addl, zp_addr, zp_mull, zp_mulr, zp_subr, zp_subl, nI_add, pk_mul, ze_X10_heights_127, zw_lst, zw_hg, if_neg n0]
  | succ k ih =>
    intro code n M a e hc hn hb h2
    have e28 := zq_nb_28 hb
    obtain ⟨M1, M', t1, t2, t3, t4, t5⟩ := zr_tg d (M := M) hE (by rw [e28]; exact hRA) (by rw [e28]; exact hR) hi h4 hok (code := code) (by omega)
    cases eg : zw_go (zf_en A K i) 6 (zf_sp K i) code with
    | none =>
      rw [eg] at t2
      rw [zw_lst_n eg, ze_X10_heights_47]
      simp (disch := omega) only [↓zp_dn, ↓zp_hV, ↓zp_hI, ↓zp_hL, ↓zp_hR, ↓zp_hX, zp_eV, zp_eI, zp_eL, zp_eR, zp_eX, zp_eXl, zp_iV, zp_iI, zp_iL, zp_iR, ↓zp_sm, ↓zp_nls, ↓zp_nln, zp_bo0, zp_bo1, zp_okE, zp_ok2E, zp_rfE, ↓reduceIte, if_true, if_false, zp_leT, zp_leF, zp_ltT, zp_ltF, zp_eqT, zp_eqF, zp_leTl, zp_leFl, zp_ltTl, zp_ltFl, zp_leTr, zp_leFr, zp_ltTr, zp_ltFr, zp_eqTr, zp_eqFr, zp_eqTl, zp_eqFl, zp_eqFll, eq_self, zp_addl, zp_addr, zp_mull, zp_mulr, zp_subr, zp_subl, nI_add, pk_mul, t1, t2, Option.isSome, zw_b1F, ze_X10_heights_109]
      exact ih (code + 1) n M' a e (by omega) (by omega) (zq_nb_tr hb t3) (t4.trans h2)
    | some w =>
      rw [eg] at t2
      have h35 := (t5 w eg).2.2.2.2.2 c hc7
      obtain ⟨M'', f1, f2⟩ := ih (code + 1) (n + 1) M' (a ||| zw_bit (zw_come w c)) (e &&& zw_bit (zw_come w c)) (by omega) (by omega) (zq_nb_tr hb t3) (t4.trans h2)
      refine ⟨M'', ?_, f2⟩
      rw [zw_lst_s eg, ze_X10_heights_47, zw_hg, ← f1]
      by_cases e9 : zw_come w c = -9
      · simp (disch := omega) only [↓zp_dn, ↓zp_hV, ↓zp_hI, ↓zp_hL, ↓zp_hR, ↓zp_hX, zp_eV, zp_eI, zp_eL, zp_eR, zp_eX, zp_eXl, zp_iV, zp_iI, zp_iL, zp_iR, ↓zp_sm, ↓zp_nls, ↓zp_nln, zp_bo0, zp_bo1, zp_okE, zp_ok2E, zp_rfE, ↓reduceIte, if_true, if_false, zp_leT, zp_leF, zp_ltT, zp_ltF, zp_eqT, zp_eqF, zp_leTl, zp_leFl, zp_ltTl, zp_ltFl, zp_leTr, zp_leFr, zp_ltTr, zp_ltFr, zp_eqTr, zp_eqFr, zp_eqTl, zp_eqFl, zp_eqFll, eq_self, zp_addl, zp_addr, zp_mull, zp_mulr, zp_subr, zp_subl, nI_add, pk_mul, t1, t2, Option.isSome, zw_b1T, zp_1n0, h35, if_pos e9, ze_X10_heights_92, ze_X10_heights_109, zw_bit]
      · simp (disch := omega) only [↓zp_dn, ↓zp_hV, ↓zp_hI, ↓zp_hL, ↓zp_hR, ↓zp_hX, zp_eV, zp_eI, zp_eL, zp_eR, zp_eX, zp_eXl, zp_iV, zp_iI, zp_iL, zp_iR, ↓zp_sm, ↓zp_nls, ↓zp_nln, zp_bo0, zp_bo1, zp_okE, zp_ok2E, zp_rfE, ↓reduceIte, if_true, if_false, zp_leT, zp_leF, zp_ltT, zp_ltF, zp_eqT, zp_eqF, zp_leTl, zp_leFl, zp_ltTl, zp_ltFl, zp_leTr, zp_leFr, zp_ltTr, zp_ltFr, zp_eqTr, zp_eqFr, zp_eqTl, zp_eqFl, zp_eqFll, eq_self, zp_addl, zp_addr, zp_mull, zp_mulr, zp_subr, zp_subl, nI_add, pk_mul, t1, t2, Option.isSome, zw_b1T, zp_1n0, h35, if_neg e9, ze_X10_heights_92, ze_X10_heights_109, zw_bit]
theorem zo_heights (d : Nat) {n : Nat} {xs : Nat → Int32} {M : zi_M} (hI : zq_inv n xs M) (i c : Int32) : zp_ok (zi_run (d + 5) zm_X9_heights 0 [some (.inr (.inr (9, some 0))), some (.inl i), some (.inl c), none, none, none, none, none] [] M) (zp_rf (d + 5) zm_X10_heights [some (.inr (.inr (10, some 0))), some (.inl i), some (.inl c), none, none, none, none, none]) (zq_inv n xs) := by
  obtain ⟨A, K, hS⟩ := hI.2.2.2.2.1
  have h4 := hS.2.1.1
  have hR := hS.2.2.2.2.2.1
  rcases zp_int i with hi | ⟨i, hi, rfl⟩
  · simp (disch := omega) only [ze_X9_heights_0, ze_X10_heights_0, zc_birdN _ hi, zr_flyerN _ hi, ze_X5_room_0, ze_X5_size_0, ze_X5_isThere_0, ze_X5_has_0, ze_X5_hasRun_0, ze_X5_get_0, ze_X5_set_0, ze_X5_drop_0, ze_X5_takeRun_0, ze_X9_rowAt_0, ze_X9_textAt_0, ze_X9_refuse_0, ze_X10_isRow_0, ze_X10_isText_0, ze_X10_finds_0, ze_X10_tells_0, zp_in_0_5, zp_in_0_3, zp_in_0_7, zp_in_1_5, zp_in_0_9, zp_in_0_2, zp_in_48_57, zp_in_0_12, zp_in_1_4, zp_in_1_9, zp_in_1_2147483646, zp_in_0_8, zp_in_0, ↓zp_dn, ↓zp_hV, ↓zp_hI, ↓zp_hL, ↓zp_hR, ↓zp_hX, zp_eV, zp_eI, zp_eL, zp_eR, zp_eX, zp_eXl, zp_iV, zp_iI, zp_iL, zp_iR, ↓zp_sm, ↓zp_nls, ↓zp_nln, zp_bo0, zp_bo1, zp_okE, zp_ok2E, zp_rfE, ↓reduceIte, if_true, if_false, zp_ofn, zp_sI1, zp_w1, zp_sL1, zp_sR1, zp_l1, zp_leT, zp_leF, zp_ltT, zp_ltF, zp_eqT, zp_eqF, zp_leTl, zp_leFl, zp_ltTl, zp_ltFl, zp_leTr, zp_leFr, zp_ltTr, zp_ltFr, zp_eqTr, zp_eqFr, zp_eqTl, zp_eqFl, zp_eqFll, eq_self, zp_addl, zp_addr, zp_mull, zp_mulr, zp_subr, zp_subl, nI_add, pk_mul, Nat.reduceEqDiff, Nat.reduceLT, Nat.reduceLeDiff, Nat.reduceAdd, Nat.reduceMul, Nat.reduceSub, reduceCtorEq, Int32.reduceLT, Int32.reduceLE, not_true_eq_false, not_false_eq_true, and_true, true_and, and_false, false_and, or_true, true_or, or_false, false_or]; exact hI
  by_cases hiF : i < K.2.1
  case neg => simp (disch := omega) only [ze_X9_heights_0, ze_X10_heights_0, zc_birdF _ hS (Nat.le_of_not_lt hiF) hi, zr_flyerF _ hR (Nat.le_of_not_lt hiF) hi h4, ze_X5_room_0, ze_X5_size_0, ze_X5_isThere_0, ze_X5_has_0, ze_X5_hasRun_0, ze_X5_get_0, ze_X5_set_0, ze_X5_drop_0, ze_X5_takeRun_0, ze_X9_rowAt_0, ze_X9_textAt_0, ze_X9_refuse_0, ze_X10_isRow_0, ze_X10_isText_0, ze_X10_finds_0, ze_X10_tells_0, zp_in_0_5, zp_in_0_3, zp_in_0_7, zp_in_1_5, zp_in_0_9, zp_in_0_2, zp_in_48_57, zp_in_0_12, zp_in_1_4, zp_in_1_9, zp_in_1_2147483646, zp_in_0_8, zp_in_0, ↓zp_dn, ↓zp_hV, ↓zp_hI, ↓zp_hL, ↓zp_hR, ↓zp_hX, zp_eV, zp_eI, zp_eL, zp_eR, zp_eX, zp_eXl, zp_iV, zp_iI, zp_iL, zp_iR, ↓zp_sm, ↓zp_nls, ↓zp_nln, zp_bo0, zp_bo1, zp_okE, zp_ok2E, zp_rfE, ↓reduceIte, if_true, if_false, zp_ofn, zp_sI1, zp_w1, zp_sL1, zp_sR1, zp_l1, zp_leT, zp_leF, zp_ltT, zp_ltF, zp_eqT, zp_eqF, zp_leTl, zp_leFl, zp_ltTl, zp_ltFl, zp_leTr, zp_leFr, zp_ltTr, zp_ltFr, zp_eqTr, zp_eqFr, zp_eqTl, zp_eqFl, zp_eqFll, eq_self, zp_addl, zp_addr, zp_mull, zp_mulr, zp_subr, zp_subl, nI_add, pk_mul, Nat.reduceEqDiff, Nat.reduceLT, Nat.reduceLeDiff, Nat.reduceAdd, Nat.reduceMul, Nat.reduceSub, reduceCtorEq, Int32.reduceLT, Int32.reduceLE, not_true_eq_false, not_false_eq_true, and_true, true_and, and_false, false_and, or_true, true_or, or_false, false_or]; exact hI
  obtain ⟨hE, hok, hsp⟩ := zq_fl hS hiF
  have hE' := hE
  obtain ⟨a1, a2, a3, a4⟩ := hE'
  have c0 : M.1 0 0 1 = nI A.1 := hS.2.2.1.1
  have h5 : M.1 7 i 5 = (zf_sp K i).2.2.2.2.2 := hsp.2.2.2.2.2
  rcases zp_int c with hc | ⟨c, hc, rfl⟩
  · simp (disch := omega) only [ze_X9_heights_0, ze_X10_heights_0, zc_bird _ hS hiF, zr_flyer _ hR hiF h4, zr_last _ hE hS.2.2.2.2.1, ze_X5_room_0, ze_X5_size_0, ze_X5_isThere_0, ze_X5_has_0, ze_X5_hasRun_0, ze_X5_get_0, ze_X5_set_0, ze_X5_drop_0, ze_X5_takeRun_0, ze_X9_rowAt_0, ze_X9_textAt_0, ze_X9_refuse_0, ze_X10_isRow_0, ze_X10_isText_0, ze_X10_finds_0, ze_X10_tells_0, zp_in_0_5, zp_in_0_3, zp_in_0_7, zp_in_1_5, zp_in_0_9, zp_in_0_2, zp_in_48_57, zp_in_0_12, zp_in_1_4, zp_in_1_9, zp_in_1_2147483646, zp_in_0_8, zp_in_0, ↓zp_dn, ↓zp_hV, ↓zp_hI, ↓zp_hL, ↓zp_hR, ↓zp_hX, zp_eV, zp_eI, zp_eL, zp_eR, zp_eX, zp_eXl, zp_iV, zp_iI, zp_iL, zp_iR, ↓zp_sm, ↓zp_nls, ↓zp_nln, zp_bo0, zp_bo1, zp_okE, zp_ok2E, zp_rfE, ↓reduceIte, if_true, if_false, zp_ofn, zp_sI1, zp_w1, zp_sL1, zp_sR1, zp_l1, zp_leT, zp_leF, zp_ltT, zp_ltF, zp_eqT, zp_eqF, zp_leTl, zp_leFl, zp_ltTl, zp_ltFl, zp_leTr, zp_leFr, zp_ltTr, zp_ltFr, zp_eqTr, zp_eqFr, zp_eqTl, zp_eqFl, zp_eqFll, eq_self, zp_addl, zp_addr, zp_mull, zp_mulr, zp_subr, zp_subl, nI_add, pk_mul, Nat.reduceEqDiff, Nat.reduceLT, Nat.reduceLeDiff, Nat.reduceAdd, Nat.reduceMul, Nat.reduceSub, reduceCtorEq, Int32.reduceLT, Int32.reduceLE, not_true_eq_false, not_false_eq_true, and_true, true_and, and_false, false_and, or_true, true_or, or_false, false_or, zp_n0 hc, zp_n1 hc, zp_n2 hc, zp_n3 hc, zp_n4 hc, zp_n3l hc, zp_n4l hc]; exact hI
  by_cases hcA : c < A.1
  case neg => simp (disch := omega) only [ze_X9_heights_0, ze_X10_heights_0, zc_bird _ hS hiF, zr_flyer _ hR hiF h4, zr_last _ hE hS.2.2.2.2.1, c0, ze_X5_room_0, ze_X5_size_0, ze_X5_isThere_0, ze_X5_has_0, ze_X5_hasRun_0, ze_X5_get_0, ze_X5_set_0, ze_X5_drop_0, ze_X5_takeRun_0, ze_X9_rowAt_0, ze_X9_textAt_0, ze_X9_refuse_0, ze_X10_isRow_0, ze_X10_isText_0, ze_X10_finds_0, ze_X10_tells_0, zp_in_0_5, zp_in_0_3, zp_in_0_7, zp_in_1_5, zp_in_0_9, zp_in_0_2, zp_in_48_57, zp_in_0_12, zp_in_1_4, zp_in_1_9, zp_in_1_2147483646, zp_in_0_8, zp_in_0, ↓zp_dn, ↓zp_hV, ↓zp_hI, ↓zp_hL, ↓zp_hR, ↓zp_hX, zp_eV, zp_eI, zp_eL, zp_eR, zp_eX, zp_eXl, zp_iV, zp_iI, zp_iL, zp_iR, ↓zp_sm, ↓zp_nls, ↓zp_nln, zp_bo0, zp_bo1, zp_okE, zp_ok2E, zp_rfE, ↓reduceIte, if_true, if_false, zp_ofn, zp_sI1, zp_w1, zp_sL1, zp_sR1, zp_l1, zp_leT, zp_leF, zp_ltT, zp_ltF, zp_eqT, zp_eqF, zp_leTl, zp_leFl, zp_ltTl, zp_ltFl, zp_leTr, zp_leFr, zp_ltTr, zp_ltFr, zp_eqTr, zp_eqFr, zp_eqTl, zp_eqFl, zp_eqFll, eq_self, zp_addl, zp_addr, zp_mull, zp_mulr, zp_subr, zp_subl, nI_add, pk_mul, Nat.reduceEqDiff, Nat.reduceLT, Nat.reduceLeDiff, Nat.reduceAdd, Nat.reduceMul, Nat.reduceSub, reduceCtorEq, Int32.reduceLT, Int32.reduceLE, not_true_eq_false, not_false_eq_true, and_true, true_and, and_false, false_and, or_true, true_or, or_false, false_or]; exact hI
  by_cases hf : (zf_sp K i).2.2.2.2.2 = 0
  case neg => simp (disch := omega) only [ze_X9_heights_0, ze_X10_heights_0, zc_bird _ hS hiF, zr_flyer _ hR hiF h4, zr_last _ hE hS.2.2.2.2.1, c0, zr_fallen _ hR hiF h4, h5, if_neg hf, ze_X5_room_0, ze_X5_size_0, ze_X5_isThere_0, ze_X5_has_0, ze_X5_hasRun_0, ze_X5_get_0, ze_X5_set_0, ze_X5_drop_0, ze_X5_takeRun_0, ze_X9_rowAt_0, ze_X9_textAt_0, ze_X9_refuse_0, ze_X10_isRow_0, ze_X10_isText_0, ze_X10_finds_0, ze_X10_tells_0, zp_in_0_5, zp_in_0_3, zp_in_0_7, zp_in_1_5, zp_in_0_9, zp_in_0_2, zp_in_48_57, zp_in_0_12, zp_in_1_4, zp_in_1_9, zp_in_1_2147483646, zp_in_0_8, zp_in_0, ↓zp_dn, ↓zp_hV, ↓zp_hI, ↓zp_hL, ↓zp_hR, ↓zp_hX, zp_eV, zp_eI, zp_eL, zp_eR, zp_eX, zp_eXl, zp_iV, zp_iI, zp_iL, zp_iR, ↓zp_sm, ↓zp_nls, ↓zp_nln, zp_bo0, zp_bo1, zp_okE, zp_ok2E, zp_rfE, ↓reduceIte, if_true, if_false, zp_ofn, zp_sI1, zp_w1, zp_sL1, zp_sR1, zp_l1, zp_leT, zp_leF, zp_ltT, zp_ltF, zp_eqT, zp_eqF, zp_leTl, zp_leFl, zp_ltTl, zp_ltFl, zp_leTr, zp_leFr, zp_ltTr, zp_ltFr, zp_eqTr, zp_eqFr, zp_eqTl, zp_eqFl, zp_eqFll, eq_self, zp_addl, zp_addr, zp_mull, zp_mulr, zp_subr, zp_subl, nI_add, pk_mul, Nat.reduceEqDiff, Nat.reduceLT, Nat.reduceLeDiff, Nat.reduceAdd, Nat.reduceMul, Nat.reduceSub, reduceCtorEq, Int32.reduceLT, Int32.reduceLE, not_true_eq_false, not_false_eq_true, and_true, true_and, and_false, false_and, or_true, true_or, or_false, false_or]; exact hI
  obtain ⟨M1, s1, s2, s3, s4⟩ := zc_setOut (d + 2) hS hiF
  have hlen := zw_len729 (zf_en A K i) (zf_sp K i)
  obtain ⟨M2, l1, l2⟩ := zc_htsL (d + 1) (c := c) (by omega) _ 0 M1 0 0 s4 (fun w hw => zw_ways_ok _ 6 _ w hw) (by omega)
  have nb2 : zq_nt M (zi_sI M2 9 0 13 (zw_hf c (zw_ways (zf_en A K i) 6 (zf_sp K i)) 0 0 0).2) := zq_nt_9 (zq_nb_nt (zq_nb_tr s2 (zw_fr_nb l2))) _
  have e28 : (zi_sI M2 9 0 13 (zw_hf c (zw_ways (zf_en A K i) 6 (zf_sp K i)) 0 0 0).2).1 28 0 = M.1 28 0 := Eq.trans (b := M2.1 28 0) rfl (zq_nb_28 (zq_nb_tr s2 (zw_fr_nb l2)))
  have hA2 : zf_rA ((zi_sI M2 9 0 13 (zw_hf c (zw_ways (zf_en A K i) 6 (zf_sp K i)) 0 0 0).2).1 28 0) A := by rw [e28]; exact hS.2.2.2.2.1
  have hR2 : zf_rK ((zi_sI M2 9 0 13 (zw_hf c (zw_ways (zf_en A K i) 6 (zf_sp K i)) 0 0 0).2).1 28 0) K := by rw [e28]; exact hR
  obtain ⟨M3, q1, q2, q3⟩ := zr_htsL d hE hA2 hR2 hiF h4 hok (c := c) (by omega) 729 0 0 _ 0 31 (by omega) (by omega) (zq_nb_rfl _) rfl
  rw [zw_all, ← zw_hfg (E := zf_en A K i) hE c _ (fun w hw => zw_ways_ok _ 6 _ w hw) 0] at q1
  rw [ze_X9_heights_0]
  simp (disch := omega) only [zc_bird _ hS hiF, c0, h5, if_pos hf, s1, ze_X5_room_0, ze_X5_size_0, ze_X5_isThere_0, ze_X5_has_0, ze_X5_hasRun_0, ze_X5_get_0, ze_X5_set_0, ze_X5_drop_0, ze_X5_takeRun_0, ze_X9_rowAt_0, ze_X9_textAt_0, ze_X9_refuse_0, ze_X10_isRow_0, ze_X10_isText_0, ze_X10_finds_0, ze_X10_tells_0, zp_in_0_5, zp_in_0_3, zp_in_0_7, zp_in_1_5, zp_in_0_9, zp_in_0_2, zp_in_48_57, zp_in_0_12, zp_in_1_4, zp_in_1_9, zp_in_1_2147483646, zp_in_0_8, zp_in_0, ↓zp_dn, ↓zp_hV, ↓zp_hI, ↓zp_hL, ↓zp_hR, ↓zp_hX, zp_eV, zp_eI, zp_eL, zp_eR, zp_eX, zp_eXl, zp_iV, zp_iI, zp_iL, zp_iR, ↓zp_sm, ↓zp_nls, ↓zp_nln, zp_bo0, zp_bo1, zp_okE, zp_ok2E, zp_rfE, ↓reduceIte, if_true, if_false, zp_ofn, zp_sI1, zp_w1, zp_sL1, zp_sR1, zp_l1, zp_leT, zp_leF, zp_ltT, zp_ltF, zp_eqT, zp_eqF, zp_leTl, zp_leFl, zp_ltTl, zp_ltFl, zp_leTr, zp_leFr, zp_ltTr, zp_ltFr, zp_eqTr, zp_eqFr, zp_eqTl, zp_eqFl, zp_eqFll, eq_self, zp_addl, zp_addr, zp_mull, zp_mulr, zp_subr, zp_subl, nI_add, pk_mul, Nat.reduceEqDiff, Nat.reduceLT, Nat.reduceLeDiff, Nat.reduceAdd, Nat.reduceMul, Nat.reduceSub, reduceCtorEq, Int32.reduceLT, Int32.reduceLE, not_true_eq_false, not_false_eq_true, and_true, true_and, and_false, false_and, or_true, true_or, or_false, false_or]
  refine Eq.mpr (congrArg (fun o => zp_ok o _ _) l1) ?_
  rw [zp_okE, zp_rfE, ze_X10_heights_0]
  simp (disch := omega) only [zr_flyer _ hR2 hiF h4, zr_last _ hE hA2, zr_fallen _ hR2 hiF h4, if_pos hf, ze_X5_room_0, ze_X5_size_0, ze_X5_isThere_0, ze_X5_has_0, ze_X5_hasRun_0, ze_X5_get_0, ze_X5_set_0, ze_X5_drop_0, ze_X5_takeRun_0, ze_X9_rowAt_0, ze_X9_textAt_0, ze_X9_refuse_0, ze_X10_isRow_0, ze_X10_isText_0, ze_X10_finds_0, ze_X10_tells_0, zp_in_0_5, zp_in_0_3, zp_in_0_7, zp_in_1_5, zp_in_0_9, zp_in_0_2, zp_in_48_57, zp_in_0_12, zp_in_1_4, zp_in_1_9, zp_in_1_2147483646, zp_in_0_8, zp_in_0, ↓zp_dn, ↓zp_hV, ↓zp_hI, ↓zp_hL, ↓zp_hR, ↓zp_hX, zp_eV, zp_eI, zp_eL, zp_eR, zp_eX, zp_eXl, zp_iV, zp_iI, zp_iL, zp_iR, ↓zp_sm, ↓zp_nls, ↓zp_nln, zp_bo0, zp_bo1, zp_okE, zp_ok2E, zp_rfE, ↓reduceIte, if_true, if_false, zp_ofn, zp_sI1, zp_w1, zp_sL1, zp_sR1, zp_l1, zp_leT, zp_leF, zp_ltT, zp_ltF, zp_eqT, zp_eqF, zp_leTl, zp_leFl, zp_ltTl, zp_ltFl, zp_leTr, zp_leFr, zp_ltTr, zp_ltFr, zp_eqTr, zp_eqFr, zp_eqTl, zp_eqFl, zp_eqFll, eq_self, zp_addl, zp_addr, zp_mull, zp_mulr, zp_subr, zp_subl, nI_add, pk_mul, Nat.reduceEqDiff, Nat.reduceLT, Nat.reduceLeDiff, Nat.reduceAdd, Nat.reduceMul, Nat.reduceSub, reduceCtorEq, Int32.reduceLT, Int32.reduceLE, not_true_eq_false, not_false_eq_true, and_true, true_and, and_false, false_and, or_true, true_or, or_false, false_or]
  refine Eq.mpr (congrArg (fun o => zp_ok2 o _ _) q1) ?_
  rw [zp_ok2E]
  refine ⟨rfl, zq_inv_nt (zq_nt_10 (zq_nt_nb nb2 q2) _) ?_ (fun a => ?_) hI⟩
  · have e13 : M3.1 9 0 13 = (zw_hf c (zw_ways (zf_en A K i) 6 (zf_sp K i)) 0 0 0).2 := by rw [q2 9 0 13 (by simp [zq_gp])]; simp [zp_sI1]
    simp [zp_sI1, e13]
  · have : (zi_sI M3 10 0 9 (zw_hf c (zw_ways (zf_en A K i) 6 (zf_sp K i)) 0 0 0).2).2 = M.2 := q3.trans (l2.1.trans s3)
    simp only [zq_longs, this] at a ⊢; exact a
/-- feathers: how many, which ends -/
def zw_ff (E : zf_E) (st : Int32) : List zw_w → Nat → Int32 → Nat × Int32
  | [], n, a => (n, a)
  | w :: ws, n, a => if zw_hot E w = st then zw_ff E st ws (n + 1) (a ||| zw_hts w (E.1.1 - 1)) else zw_ff E st ws n a
theorem zw_ff_le (E : zf_E) (st : Int32) : ∀ (ws : List zw_w) (n : Nat) (a : Int32), (zw_ff E st ws n a).1 ≤ n + ws.length := by
  intro ws
  induction ws with
  | nil => intro n a; simp [zw_ff]
  | cons w ws ih =>
    intro n a
    simp only [zw_ff, List.length_cons]
    split
    · have := ih (n + 1) (a ||| zw_hts w (E.1.1 - 1)); omega
    · have := ih n a; omega
theorem zc_feaL (d : Nat) {E : zf_E} {s0 : zf_S} {st : Int32} : ∀ (ws : List zw_w) (n k : Nat) (M : zi_M) (a : Int32), zw_I M E s0 ws → (∀ w, w ∈ ws → zw_ok E s0 w) → n + ws.length ≤ 729 → k ≤ n → ∃ M', zi_run (d + 4) zm_X9_feathers 59 [some (.inr (.inr (9, some 0))), none, some (.inl st), none, some (.inl (nI k)), some (.inl a), some (.inl (nI n))] [] M = zi_run (d + 4) zm_X9_feathers 121 [some (.inr (.inr (9, some 0))), none, none, none, some (.inl (nI (zw_ff E st ws k a).1)), some (.inl (zw_ff E st ws k a).2), none] [] M' ∧ zw_fr M M' := by
  intro ws
  induction ws with
  | nil =>
    intro n k M a h _ hn _
    by_cases h9 : n = 729
    · subst h9
      refine ⟨M, ?_, zw_fr_rfl M⟩
      rw [ze_X9_feathers_59]
      simp (disch := omega) only [↓zp_dn, ↓zp_hV, ↓zp_hI, ↓zp_hL, ↓zp_hR, ↓zp_hX, zp_eV, zp_eI, zp_eL, zp_eR, zp_eX, zp_eXl, zp_iV, zp_iI, zp_iL, zp_iR, ↓zp_sm, ↓zp_nls, ↓zp_nln, zp_bo0, zp_bo1, zp_okE, zp_ok2E, zp_rfE, ↓reduceIte, if_true, if_false, zp_leT, zp_leF, zp_ltT, zp_ltF, zp_eqT, zp_eqF, zp_leTl, zp_leFl, zp_ltTl, zp_ltFl, zp_leTr, zp_leFr, zp_ltTr, zp_ltFr, zp_eqTr, zp_eqFr, zp_eqTl, zp_eqFl, zp_eqFll, eq_self, zp_addl, zp_addr, zp_mull, zp_mulr, zp_subr, zp_subl, nI_add, pk_mul, zw_ff]
    · obtain ⟨M', e1, e2⟩ := zw_next d h
      simp only [List.length_nil, Nat.add_zero] at hn
      refine ⟨M', ?_, e2⟩
      rw [ze_X9_feathers_59]
      simp (disch := omega) only [↓zp_dn, ↓zp_hV, ↓zp_hI, ↓zp_hL, ↓zp_hR, ↓zp_hX, zp_eV, zp_eI, zp_eL, zp_eR, zp_eX, zp_eXl, zp_iV, zp_iI, zp_iL, zp_iR, ↓zp_sm, ↓zp_nls, ↓zp_nln, zp_bo0, zp_bo1, zp_okE, zp_ok2E, zp_rfE, ↓reduceIte, if_true, if_false, zp_leT, zp_leF, zp_ltT, zp_ltF, zp_eqT, zp_eqF, zp_leTl, zp_leFl, zp_ltTl, zp_ltFl, zp_leTr, zp_leFr, zp_ltTr, zp_ltFr, zp_eqTr, zp_eqFr, zp_eqTl, zp_eqFl, zp_eqFll, eq_self, zp_addl, zp_addr, zp_mull, zp_mulr, zp_subr, zp_subl, nI_add, pk_mul, e1, zw_ff]
  | cons w ws ih =>
    intro n k M a h hw hn hk
    simp only [List.length_cons] at hn
    have hA := h.1
    have hA' := hA
    obtain ⟨a1, a2, a3, a4⟩ := hA'
    obtain ⟨M1, e1, e2, e3, e4⟩ := zw_next d h
    have h8 := zw_ok8 hA (hw w (by simp))
    have c0 : M1.1 0 0 1 = nI E.1.1 := e3.2.1.1.1
    have cw : M1.1 2 0 2 = E.2.2.1 := e3.2.1.2.2.1
    rw [ze_X9_feathers_59, zw_ff]
    by_cases hs : zw_hot E w = st
    · obtain ⟨M', f1, f2⟩ := ih (n + 1) (k + 1) M1 (a ||| zw_hts w (E.1.1 - 1)) e3 (fun v hv => hw v (by simp [hv])) (by omega) (by omega)
      refine ⟨M', ?_, zw_fr_tr e2 f2⟩
      rw [if_pos hs, ← f1]
      simp (disch := omega) only [↓zp_dn, ↓zp_hV, ↓zp_hI, ↓zp_hL, ↓zp_hR, ↓zp_hX, zp_eV, zp_eI, zp_eL, zp_eR, zp_eX, zp_eXl, zp_iV, zp_iI, zp_iL, zp_iR, ↓zp_sm, ↓zp_nls, ↓zp_nln, zp_bo0, zp_bo1, zp_okE, zp_ok2E, zp_rfE, ↓reduceIte, if_true, if_false, zp_leT, zp_leF, zp_ltT, zp_ltF, zp_eqT, zp_eqF, zp_leTl, zp_leFl, zp_ltTl, zp_ltFl, zp_leTr, zp_leFr, zp_ltTr, zp_ltFr, zp_eqTr, zp_eqFr, zp_eqTl, zp_eqFl, zp_eqFll, eq_self, zp_addl, zp_addr, zp_mull, zp_mulr, zp_subr, zp_subl, nI_add, pk_mul, e1, zp_1n0, zc_dripc (E := E) _ e4 cw, if_pos hs, c0, zc_hts _ e4 h8 (show E.1.1 - 1 < 8 from by omega), ze_X9_feathers_115]
    · obtain ⟨M', f1, f2⟩ := ih (n + 1) k M1 a e3 (fun v hv => hw v (by simp [hv])) (by omega) (by omega)
      refine ⟨M', ?_, zw_fr_tr e2 f2⟩
      rw [if_neg hs, ← f1]
      simp (disch := omega) only [↓zp_dn, ↓zp_hV, ↓zp_hI, ↓zp_hL, ↓zp_hR, ↓zp_hX, zp_eV, zp_eI, zp_eL, zp_eR, zp_eX, zp_eXl, zp_iV, zp_iI, zp_iL, zp_iR, ↓zp_sm, ↓zp_nls, ↓zp_nln, zp_bo0, zp_bo1, zp_okE, zp_ok2E, zp_rfE, ↓reduceIte, if_true, if_false, zp_leT, zp_leF, zp_ltT, zp_ltF, zp_eqT, zp_eqF, zp_leTl, zp_leFl, zp_ltTl, zp_ltFl, zp_leTr, zp_leFr, zp_ltTr, zp_ltFr, zp_eqTr, zp_eqFr, zp_eqTl, zp_eqFl, zp_eqFll, eq_self, zp_addl, zp_addr, zp_mull, zp_mulr, zp_subr, zp_subl, nI_add, pk_mul, e1, zp_1n0, zc_dripc (E := E) _ e4 cw, if_neg hs, ze_X9_feathers_115]
theorem zr_feaL (d : Nat) {M0 : zi_M} {A : zf_A} {K : zf_K} (hE : zf_okE A) (hRA : zf_rA (M0.1 28 0) A) (hR : zf_rK (M0.1 28 0) K) {i : Nat} (hi : i < K.2.1) (h4 : K.2.1 ≤ 4) (hok : zf_okS A (zf_sp K i)) {st : Int32} : ∀ (k code n : Nat) (M : zi_M) (a : Int32), code + k = 729 → n ≤ code → zq_nb M0 M → M.2 = M0.2 → ∃ M', zi_run (d + 5) zm_X10_feathers 49 [some (.inr (.inr (10, some 0))), some (.inl (nI i)), some (.inl st), some (.inr (.inl (lN n))), none, some (.inl a), some (.inl (nI code))] [] M = some (some (.inl 1), zi_sI (zi_sL (zi_sL M' 10 0 10 (lN (zw_ff (zf_en A K i) st (zw_lst (zw_go (zf_en A K i) 6 (zf_sp K i)) code k) n a).1)) 10 0 11 1) 10 0 9 (zw_ff (zf_en A K i) st (zw_lst (zw_go (zf_en A K i) 6 (zf_sp K i)) code k) n a).2) ∧ zq_nb M0 M' ∧ M'.2 = M0.2 := by
  intro k
  induction k with
  | zero =>
    intro code n M a hc hn hb h2
    refine ⟨M, ?_, hb, h2⟩
    rw [ze_X10_feathers_49]
    simp (disch := omega) only [↓zp_dn, ↓zp_hV, ↓zp_hI, ↓zp_hL, ↓zp_hR, ↓zp_hX, zp_eV, zp_eI, zp_eL, zp_eR, zp_eX, zp_eXl, zp_iV, zp_iI, zp_iL, zp_iR, ↓zp_sm, ↓zp_nls, ↓zp_nln, zp_bo0, zp_bo1, zp_okE, zp_ok2E, zp_rfE, ↓reduceIte, if_true, if_false, zp_leT, zp_leF, zp_ltT, zp_ltF, zp_eqT, zp_eqF, zp_leTl, zp_leFl, zp_ltTl, zp_ltFl, zp_leTr, zp_leFr, zp_ltTr, zp_ltFr, zp_eqTr, zp_eqFr, zp_eqTl, zp_eqFl, zp_eqFll, eq_self, zp_addl, zp_addr, zp_mull, zp_mulr, zp_subr, zp_subl, nI_add, pk_mul, zw_lst, zw_ff]
  | succ k ih =>
    intro code n M a hc hn hb h2
    have e28 := zq_nb_28 hb
    obtain ⟨M1, M', t1, t2, t3, t4, t5⟩ := zr_tg d (M := M) hE (by rw [e28]; exact hRA) (by rw [e28]; exact hR) hi h4 hok (code := code) (by omega)
    cases eg : zw_go (zf_en A K i) 6 (zf_sp K i) code with
    | none =>
      rw [eg] at t2
      rw [zw_lst_n eg, ze_X10_feathers_49]
      simp (disch := omega) only [↓zp_dn, ↓zp_hV, ↓zp_hI, ↓zp_hL, ↓zp_hR, ↓zp_hX, zp_eV, zp_eI, zp_eL, zp_eR, zp_eX, zp_eXl, zp_iV, zp_iI, zp_iL, zp_iR, ↓zp_sm, ↓zp_nls, ↓zp_nln, zp_bo0, zp_bo1, zp_okE, zp_ok2E, zp_rfE, ↓reduceIte, if_true, if_false, zp_leT, zp_leF, zp_ltT, zp_ltF, zp_eqT, zp_eqF, zp_leTl, zp_leFl, zp_ltTl, zp_ltFl, zp_leTr, zp_leFr, zp_ltTr, zp_ltFr, zp_eqTr, zp_eqFr, zp_eqTl, zp_eqFl, zp_eqFll, eq_self, zp_addl, zp_addr, zp_mull, zp_mulr, zp_subr, zp_subl, nI_add, pk_mul, t1, t2, Option.isSome, zw_b1F, ze_X10_feathers_105]
      exact ih (code + 1) n M' a (by omega) (by omega) (zq_nb_tr hb t3) (t4.trans h2)
    | some w =>
      rw [eg] at t2
      have hwo := zw_go_ok eg (by omega)
      obtain ⟨r1, r2, r3, r4, _⟩ := t5 w eg
      rw [zw_lst_s eg, ze_X10_feathers_49, zw_ff]
      by_cases hs : zw_hot (zf_en A K i) w = st
      · obtain ⟨M'', f1, f2⟩ := ih (code + 1) (n + 1) M' (a ||| zw_hts w ((zf_en A K i).1.1 - 1)) (by omega) (by omega) (zq_nb_tr hb t3) (t4.trans h2)
        refine ⟨M'', ?_, f2⟩
        rw [if_pos hs, ← f1]
        by_cases hne : w = []
        · subst hne
          have e0 : zw_hts [] ((zf_en A K i).1.1 - 1) = 0 := rfl
          simp (disch := omega) only [↓zp_dn, ↓zp_hV, ↓zp_hI, ↓zp_hL, ↓zp_hR, ↓zp_hX, zp_eV, zp_eI, zp_eL, zp_eR, zp_eX, zp_eXl, zp_iV, zp_iI, zp_iL, zp_iR, ↓zp_sm, ↓zp_nls, ↓zp_nln, zp_bo0, zp_bo1, zp_okE, zp_ok2E, zp_rfE, ↓reduceIte, if_true, if_false, zp_leT, zp_leF, zp_ltT, zp_ltF, zp_eqT, zp_eqF, zp_leTl, zp_leFl, zp_ltTl, zp_ltFl, zp_leTr, zp_leFr, zp_ltTr, zp_ltFr, zp_eqTr, zp_eqFr, zp_eqTl, zp_eqFl, zp_eqFll, eq_self, zp_addl, zp_addr, zp_mull, zp_mulr, zp_subr, zp_subl, nI_add, pk_mul, t1, t2, Option.isSome, zw_b1T, zp_1n0, r4, if_pos hs, r2, List.length_nil, ze_X10_feathers_102, ze_X10_feathers_105, e0, lN_1]
        · have hl : 0 < w.length := List.length_pos_iff.mpr hne
          have r19 : M'.1 10 0 19 = nI (zw_end (zf_sp K i) w).2.1 := r1.2.1
          have e0 : zw_hts w ((zf_en A K i).1.1 - 1) = 1 <<< (nI (zw_end (zf_sp K i) w).2.1 &&& 31) := by
            have hin := zw_come_in (E := zf_en A K i) hE hwo ((zf_en A K i).1.1 - 1)
            rw [zw_hts_come (E := zf_en A K i) hE hwo]
            rw [zw_come_end (E := zf_en A K i) hE hwo hne] at hin ⊢
            have h5 : (zw_end (zf_sp K i) w).2.1 < 2 ^ 31 := by
              obtain ⟨v, q, e⟩ := zw_snoc w hne
              have hq : w[v.length]? = some q := by rw [e, List.getElem?_append_right (Nat.le_refl _), Nat.sub_self]; rfl
              rw [zw_end_at (s := zf_sp K i) hq (by rw [e]; simp)]
              have x1 := (zw_ok_sp (E := zf_en A K i) hE hwo q (by rw [e]; simp)).2.2.1
              have x2 := hE.2.2.2
              have x3 : q.2.2.1 < A.2.1 := x1
              omega
            rw [zw_bit, if_neg (by rw [zp_e9 h5]; exact fun x => x)]
          simp (disch := omega) only [↓zp_dn, ↓zp_hV, ↓zp_hI, ↓zp_hL, ↓zp_hR, ↓zp_hX, zp_eV, zp_eI, zp_eL, zp_eR, zp_eX, zp_eXl, zp_iV, zp_iI, zp_iL, zp_iR, ↓zp_sm, ↓zp_nls, ↓zp_nln, zp_bo0, zp_bo1, zp_okE, zp_ok2E, zp_rfE, ↓reduceIte, if_true, if_false, zp_leT, zp_leF, zp_ltT, zp_ltF, zp_eqT, zp_eqF, zp_leTl, zp_leFl, zp_ltTl, zp_ltFl, zp_leTr, zp_leFr, zp_ltTr, zp_ltFr, zp_eqTr, zp_eqFr, zp_eqTl, zp_eqFl, zp_eqFll, eq_self, zp_addl, zp_addr, zp_mull, zp_mulr, zp_subr, zp_subl, nI_add, pk_mul, t1, t2, Option.isSome, zw_b1T, zp_1n0, r4, if_pos hs, r2, r19, ze_X10_feathers_102, ze_X10_feathers_105, e0, lN_1]
      · rw [if_neg hs]
        simp (disch := omega) only [↓zp_dn, ↓zp_hV, ↓zp_hI, ↓zp_hL, ↓zp_hR, ↓zp_hX, zp_eV, zp_eI, zp_eL, zp_eR, zp_eX, zp_eXl, zp_iV, zp_iI, zp_iL, zp_iR, ↓zp_sm, ↓zp_nls, ↓zp_nln, zp_bo0, zp_bo1, zp_okE, zp_ok2E, zp_rfE, ↓reduceIte, if_true, if_false, zp_leT, zp_leF, zp_ltT, zp_ltF, zp_eqT, zp_eqF, zp_leTl, zp_leFl, zp_ltTl, zp_ltFl, zp_leTr, zp_leFr, zp_ltTr, zp_ltFr, zp_eqTr, zp_eqFr, zp_eqTl, zp_eqFl, zp_eqFll, eq_self, zp_addl, zp_addr, zp_mull, zp_mulr, zp_subr, zp_subl, nI_add, pk_mul, t1, t2, Option.isSome, zw_b1T, zp_1n0, r4, if_neg hs, ze_X10_feathers_105]
        exact ih (code + 1) n M' a (by omega) (by omega) (zq_nb_tr hb t3) (t4.trans h2)
theorem zo_feathers (d : Nat) {n : Nat} {xs : Nat → Int32} {M : zi_M} (hI : zq_inv n xs M) (i c : Int32) : zp_ok (zi_run (d + 5) zm_X9_feathers 0 [some (.inr (.inr (9, some 0))), some (.inl i), some (.inl c), none, none, none, none] [] M) (zp_rf (d + 5) zm_X10_feathers [some (.inr (.inr (10, some 0))), some (.inl i), some (.inl c), none, none, none, none]) (zq_inv n xs) := by
  obtain ⟨A, K, hS⟩ := hI.2.2.2.2.1
  have h4 := hS.2.1.1
  have hR := hS.2.2.2.2.2.1
  rcases zp_int i with hi | ⟨i, hi, rfl⟩
  · simp (disch := omega) only [ze_X9_feathers_0, ze_X10_feathers_0, zc_birdN _ hi, zr_flyerN _ hi, ze_X5_room_0, ze_X5_size_0, ze_X5_isThere_0, ze_X5_has_0, ze_X5_hasRun_0, ze_X5_get_0, ze_X5_set_0, ze_X5_drop_0, ze_X5_takeRun_0, ze_X9_rowAt_0, ze_X9_textAt_0, ze_X9_refuse_0, ze_X10_isRow_0, ze_X10_isText_0, ze_X10_finds_0, ze_X10_tells_0, zp_in_0_5, zp_in_0_3, zp_in_0_7, zp_in_1_5, zp_in_0_9, zp_in_0_2, zp_in_48_57, zp_in_0_12, zp_in_1_4, zp_in_1_9, zp_in_1_2147483646, zp_in_0_8, zp_in_0, ↓zp_dn, ↓zp_hV, ↓zp_hI, ↓zp_hL, ↓zp_hR, ↓zp_hX, zp_eV, zp_eI, zp_eL, zp_eR, zp_eX, zp_eXl, zp_iV, zp_iI, zp_iL, zp_iR, ↓zp_sm, ↓zp_nls, ↓zp_nln, zp_bo0, zp_bo1, zp_okE, zp_ok2E, zp_rfE, ↓reduceIte, if_true, if_false, zp_ofn, zp_sI1, zp_w1, zp_sL1, zp_sR1, zp_l1, zp_leT, zp_leF, zp_ltT, zp_ltF, zp_eqT, zp_eqF, zp_leTl, zp_leFl, zp_ltTl, zp_ltFl, zp_leTr, zp_leFr, zp_ltTr, zp_ltFr, zp_eqTr, zp_eqFr, zp_eqTl, zp_eqFl, zp_eqFll, eq_self, zp_addl, zp_addr, zp_mull, zp_mulr, zp_subr, zp_subl, nI_add, pk_mul, Nat.reduceEqDiff, Nat.reduceLT, Nat.reduceLeDiff, Nat.reduceAdd, Nat.reduceMul, Nat.reduceSub, reduceCtorEq, Int32.reduceLT, Int32.reduceLE, not_true_eq_false, not_false_eq_true, and_true, true_and, and_false, false_and, or_true, true_or, or_false, false_or]; exact hI
  by_cases hiF : i < K.2.1
  case neg => simp (disch := omega) only [ze_X9_feathers_0, ze_X10_feathers_0, zc_birdF _ hS (Nat.le_of_not_lt hiF) hi, zr_flyerF _ hR (Nat.le_of_not_lt hiF) hi h4, ze_X5_room_0, ze_X5_size_0, ze_X5_isThere_0, ze_X5_has_0, ze_X5_hasRun_0, ze_X5_get_0, ze_X5_set_0, ze_X5_drop_0, ze_X5_takeRun_0, ze_X9_rowAt_0, ze_X9_textAt_0, ze_X9_refuse_0, ze_X10_isRow_0, ze_X10_isText_0, ze_X10_finds_0, ze_X10_tells_0, zp_in_0_5, zp_in_0_3, zp_in_0_7, zp_in_1_5, zp_in_0_9, zp_in_0_2, zp_in_48_57, zp_in_0_12, zp_in_1_4, zp_in_1_9, zp_in_1_2147483646, zp_in_0_8, zp_in_0, ↓zp_dn, ↓zp_hV, ↓zp_hI, ↓zp_hL, ↓zp_hR, ↓zp_hX, zp_eV, zp_eI, zp_eL, zp_eR, zp_eX, zp_eXl, zp_iV, zp_iI, zp_iL, zp_iR, ↓zp_sm, ↓zp_nls, ↓zp_nln, zp_bo0, zp_bo1, zp_okE, zp_ok2E, zp_rfE, ↓reduceIte, if_true, if_false, zp_ofn, zp_sI1, zp_w1, zp_sL1, zp_sR1, zp_l1, zp_leT, zp_leF, zp_ltT, zp_ltF, zp_eqT, zp_eqF, zp_leTl, zp_leFl, zp_ltTl, zp_ltFl, zp_leTr, zp_leFr, zp_ltTr, zp_ltFr, zp_eqTr, zp_eqFr, zp_eqTl, zp_eqFl, zp_eqFll, eq_self, zp_addl, zp_addr, zp_mull, zp_mulr, zp_subr, zp_subl, nI_add, pk_mul, Nat.reduceEqDiff, Nat.reduceLT, Nat.reduceLeDiff, Nat.reduceAdd, Nat.reduceMul, Nat.reduceSub, reduceCtorEq, Int32.reduceLT, Int32.reduceLE, not_true_eq_false, not_false_eq_true, and_true, true_and, and_false, false_and, or_true, true_or, or_false, false_or]; exact hI
  obtain ⟨hE, hok, hsp⟩ := zq_fl hS hiF
  have hE' := hE
  obtain ⟨a1, a2, a3, a4⟩ := hE'
  have c0 : M.1 0 0 1 = nI A.1 := hS.2.2.1.1
  have r0 : M.1 28 0 0 = nI A.1 := hS.2.2.2.2.1.1
  have h5 : M.1 7 i 5 = (zf_sp K i).2.2.2.2.2 := hsp.2.2.2.2.2
  have hsl := zp_sl7 a2
  have hp : 2 ^ A.1 ≤ 2 ^ 7 := Nat.pow_le_pow_right (by decide) a2
  have hp0 : 0 < 2 ^ A.1 := Nat.two_pow_pos _
  rcases zp_int c with hc | ⟨c, hc, rfl⟩
  · simp (disch := omega) only [ze_X9_feathers_0, ze_X10_feathers_0, zc_bird _ hS hiF, zr_flyer _ hR hiF h4, r0, hsl, ze_X5_room_0, ze_X5_size_0, ze_X5_isThere_0, ze_X5_has_0, ze_X5_hasRun_0, ze_X5_get_0, ze_X5_set_0, ze_X5_drop_0, ze_X5_takeRun_0, ze_X9_rowAt_0, ze_X9_textAt_0, ze_X9_refuse_0, ze_X10_isRow_0, ze_X10_isText_0, ze_X10_finds_0, ze_X10_tells_0, zp_in_0_5, zp_in_0_3, zp_in_0_7, zp_in_1_5, zp_in_0_9, zp_in_0_2, zp_in_48_57, zp_in_0_12, zp_in_1_4, zp_in_1_9, zp_in_1_2147483646, zp_in_0_8, zp_in_0, ↓zp_dn, ↓zp_hV, ↓zp_hI, ↓zp_hL, ↓zp_hR, ↓zp_hX, zp_eV, zp_eI, zp_eL, zp_eR, zp_eX, zp_eXl, zp_iV, zp_iI, zp_iL, zp_iR, ↓zp_sm, ↓zp_nls, ↓zp_nln, zp_bo0, zp_bo1, zp_okE, zp_ok2E, zp_rfE, ↓reduceIte, if_true, if_false, zp_ofn, zp_sI1, zp_w1, zp_sL1, zp_sR1, zp_l1, zp_leT, zp_leF, zp_ltT, zp_ltF, zp_eqT, zp_eqF, zp_leTl, zp_leFl, zp_ltTl, zp_ltFl, zp_leTr, zp_leFr, zp_ltTr, zp_ltFr, zp_eqTr, zp_eqFr, zp_eqTl, zp_eqFl, zp_eqFll, eq_self, zp_addl, zp_addr, zp_mull, zp_mulr, zp_subr, zp_subl, nI_add, pk_mul, Nat.reduceEqDiff, Nat.reduceLT, Nat.reduceLeDiff, Nat.reduceAdd, Nat.reduceMul, Nat.reduceSub, reduceCtorEq, Int32.reduceLT, Int32.reduceLE, not_true_eq_false, not_false_eq_true, and_true, true_and, and_false, false_and, or_true, true_or, or_false, false_or, zp_n0 hc, zp_n1 hc, zp_n2 hc, zp_n3 hc, zp_n4 hc, zp_n3l hc, zp_n4l hc]; exact hI
  by_cases hcA : c < 2 ^ A.1
  case neg => simp (disch := omega) only [ze_X9_feathers_0, ze_X10_feathers_0, zc_bird _ hS hiF, zr_flyer _ hR hiF h4, c0, r0, hsl, ze_X5_room_0, ze_X5_size_0, ze_X5_isThere_0, ze_X5_has_0, ze_X5_hasRun_0, ze_X5_get_0, ze_X5_set_0, ze_X5_drop_0, ze_X5_takeRun_0, ze_X9_rowAt_0, ze_X9_textAt_0, ze_X9_refuse_0, ze_X10_isRow_0, ze_X10_isText_0, ze_X10_finds_0, ze_X10_tells_0, zp_in_0_5, zp_in_0_3, zp_in_0_7, zp_in_1_5, zp_in_0_9, zp_in_0_2, zp_in_48_57, zp_in_0_12, zp_in_1_4, zp_in_1_9, zp_in_1_2147483646, zp_in_0_8, zp_in_0, ↓zp_dn, ↓zp_hV, ↓zp_hI, ↓zp_hL, ↓zp_hR, ↓zp_hX, zp_eV, zp_eI, zp_eL, zp_eR, zp_eX, zp_eXl, zp_iV, zp_iI, zp_iL, zp_iR, ↓zp_sm, ↓zp_nls, ↓zp_nln, zp_bo0, zp_bo1, zp_okE, zp_ok2E, zp_rfE, ↓reduceIte, if_true, if_false, zp_ofn, zp_sI1, zp_w1, zp_sL1, zp_sR1, zp_l1, zp_leT, zp_leF, zp_ltT, zp_ltF, zp_eqT, zp_eqF, zp_leTl, zp_leFl, zp_ltTl, zp_ltFl, zp_leTr, zp_leFr, zp_ltTr, zp_ltFr, zp_eqTr, zp_eqFr, zp_eqTl, zp_eqFl, zp_eqFll, eq_self, zp_addl, zp_addr, zp_mull, zp_mulr, zp_subr, zp_subl, nI_add, pk_mul, Nat.reduceEqDiff, Nat.reduceLT, Nat.reduceLeDiff, Nat.reduceAdd, Nat.reduceMul, Nat.reduceSub, reduceCtorEq, Int32.reduceLT, Int32.reduceLE, not_true_eq_false, not_false_eq_true, and_true, true_and, and_false, false_and, or_true, true_or, or_false, false_or]; exact hI
  by_cases hf : (zf_sp K i).2.2.2.2.2 = 0
  case neg => simp (disch := omega) only [ze_X9_feathers_0, ze_X10_feathers_0, zc_bird _ hS hiF, zr_flyer _ hR hiF h4, c0, r0, hsl, zr_fallen _ hR hiF h4, h5, if_neg hf, ze_X5_room_0, ze_X5_size_0, ze_X5_isThere_0, ze_X5_has_0, ze_X5_hasRun_0, ze_X5_get_0, ze_X5_set_0, ze_X5_drop_0, ze_X5_takeRun_0, ze_X9_rowAt_0, ze_X9_textAt_0, ze_X9_refuse_0, ze_X10_isRow_0, ze_X10_isText_0, ze_X10_finds_0, ze_X10_tells_0, zp_in_0_5, zp_in_0_3, zp_in_0_7, zp_in_1_5, zp_in_0_9, zp_in_0_2, zp_in_48_57, zp_in_0_12, zp_in_1_4, zp_in_1_9, zp_in_1_2147483646, zp_in_0_8, zp_in_0, ↓zp_dn, ↓zp_hV, ↓zp_hI, ↓zp_hL, ↓zp_hR, ↓zp_hX, zp_eV, zp_eI, zp_eL, zp_eR, zp_eX, zp_eXl, zp_iV, zp_iI, zp_iL, zp_iR, ↓zp_sm, ↓zp_nls, ↓zp_nln, zp_bo0, zp_bo1, zp_okE, zp_ok2E, zp_rfE, ↓reduceIte, if_true, if_false, zp_ofn, zp_sI1, zp_w1, zp_sL1, zp_sR1, zp_l1, zp_leT, zp_leF, zp_ltT, zp_ltF, zp_eqT, zp_eqF, zp_leTl, zp_leFl, zp_ltTl, zp_ltFl, zp_leTr, zp_leFr, zp_ltTr, zp_ltFr, zp_eqTr, zp_eqFr, zp_eqTl, zp_eqFl, zp_eqFll, eq_self, zp_addl, zp_addr, zp_mull, zp_mulr, zp_subr, zp_subl, nI_add, pk_mul, Nat.reduceEqDiff, Nat.reduceLT, Nat.reduceLeDiff, Nat.reduceAdd, Nat.reduceMul, Nat.reduceSub, reduceCtorEq, Int32.reduceLT, Int32.reduceLE, not_true_eq_false, not_false_eq_true, and_true, true_and, and_false, false_and, or_true, true_or, or_false, false_or]; exact hI
  obtain ⟨M1, s1, s2, s3, s4⟩ := zc_setOut (d + 2) hS hiF
  have hlen := zw_len729 (zf_en A K i) (zf_sp K i)
  obtain ⟨M2, l1, l2⟩ := zc_feaL (d + 1) (st := nI c) _ 0 0 M1 0 s4 (fun w hw => zw_ways_ok _ 6 _ w hw) (by omega) (by omega)
  have hle := zw_ff_le (zf_en A K i) (nI c) (zw_ways (zf_en A K i) 6 (zf_sp K i)) 0 0
  generalize hff : zw_ff (zf_en A K i) (nI c) (zw_ways (zf_en A K i) 6 (zf_sp K i)) 0 0 = ff at l1 hle
  have nb0 : zq_nb M (zi_sL (zi_sL M2 9 0 14 (lN ff.1)) 9 0 15 1) := zq_nb_sL (zq_nb_sL (zq_nb_tr s2 (zw_fr_nb l2)))
  have nb2 : zq_nt M (zi_sI (zi_sL (zi_sL M2 9 0 14 (lN ff.1)) 9 0 15 1) 9 0 13 ff.2) := zq_nt_9 (zq_nb_nt nb0) _
  have e28 : (zi_sI (zi_sL (zi_sL M2 9 0 14 (lN ff.1)) 9 0 15 1) 9 0 13 ff.2).1 28 0 = M.1 28 0 := Eq.trans (b := M2.1 28 0) rfl (zq_nb_28 (zq_nb_tr s2 (zw_fr_nb l2)))
  have hA2 : zf_rA ((zi_sI (zi_sL (zi_sL M2 9 0 14 (lN ff.1)) 9 0 15 1) 9 0 13 ff.2).1 28 0) A := by rw [e28]; exact hS.2.2.2.2.1
  have hR2 : zf_rK ((zi_sI (zi_sL (zi_sL M2 9 0 14 (lN ff.1)) 9 0 15 1) 9 0 13 ff.2).1 28 0) K := by rw [e28]; exact hR
  have r02 : (zi_sI (zi_sL (zi_sL M2 9 0 14 (lN ff.1)) 9 0 15 1) 9 0 13 ff.2).1 28 0 0 = nI A.1 := hA2.1
  obtain ⟨M3, q1, q2, q3⟩ := zr_feaL d hE hA2 hR2 hiF h4 hok (st := nI c) 729 0 0 _ 0 (by omega) (by omega) (zq_nb_rfl _) rfl
  rw [zw_all, hff] at q1
  rw [ze_X9_feathers_0]
  simp (disch := omega) only [zc_bird _ hS hiF, c0, hsl, h5, if_pos hf, s1, ze_X5_room_0, ze_X5_size_0, ze_X5_isThere_0, ze_X5_has_0, ze_X5_hasRun_0, ze_X5_get_0, ze_X5_set_0, ze_X5_drop_0, ze_X5_takeRun_0, ze_X9_rowAt_0, ze_X9_textAt_0, ze_X9_refuse_0, ze_X10_isRow_0, ze_X10_isText_0, ze_X10_finds_0, ze_X10_tells_0, zp_in_0_5, zp_in_0_3, zp_in_0_7, zp_in_1_5, zp_in_0_9, zp_in_0_2, zp_in_48_57, zp_in_0_12, zp_in_1_4, zp_in_1_9, zp_in_1_2147483646, zp_in_0_8, zp_in_0, ↓zp_dn, ↓zp_hV, ↓zp_hI, ↓zp_hL, ↓zp_hR, ↓zp_hX, zp_eV, zp_eI, zp_eL, zp_eR, zp_eX, zp_eXl, zp_iV, zp_iI, zp_iL, zp_iR, ↓zp_sm, ↓zp_nls, ↓zp_nln, zp_bo0, zp_bo1, zp_okE, zp_ok2E, zp_rfE, ↓reduceIte, if_true, if_false, zp_ofn, zp_sI1, zp_w1, zp_sL1, zp_sR1, zp_l1, zp_leT, zp_leF, zp_ltT, zp_ltF, zp_eqT, zp_eqF, zp_leTl, zp_leFl, zp_ltTl, zp_ltFl, zp_leTr, zp_leFr, zp_ltTr, zp_ltFr, zp_eqTr, zp_eqFr, zp_eqTl, zp_eqFl, zp_eqFll, eq_self, zp_addl, zp_addr, zp_mull, zp_mulr, zp_subr, zp_subl, nI_add, pk_mul, Nat.reduceEqDiff, Nat.reduceLT, Nat.reduceLeDiff, Nat.reduceAdd, Nat.reduceMul, Nat.reduceSub, reduceCtorEq, Int32.reduceLT, Int32.reduceLE, not_true_eq_false, not_false_eq_true, and_true, true_and, and_false, false_and, or_true, true_or, or_false, false_or]
  refine Eq.mpr (congrArg (fun o => zp_ok o _ _) l1) ?_
  rw [ze_X9_feathers_121]
  simp (disch := omega) only [zc_tell1n, ↓zp_dn, ↓zp_hV, ↓zp_hI, ↓zp_hL, ↓zp_hR, ↓zp_hX, zp_eV, zp_eI, zp_eL, zp_eR, zp_eX, zp_eXl, zp_iV, zp_iI, zp_iL, zp_iR, ↓zp_sm, ↓zp_nls, ↓zp_nln, zp_bo0, zp_bo1, zp_okE, zp_ok2E, zp_rfE, ↓reduceIte, if_true, if_false]
  rw [ze_X10_feathers_0]
  simp (disch := omega) only [zr_flyer _ hR2 hiF h4, r02, hsl, zr_fallen _ hR2 hiF h4, if_pos hf, ze_X5_room_0, ze_X5_size_0, ze_X5_isThere_0, ze_X5_has_0, ze_X5_hasRun_0, ze_X5_get_0, ze_X5_set_0, ze_X5_drop_0, ze_X5_takeRun_0, ze_X9_rowAt_0, ze_X9_textAt_0, ze_X9_refuse_0, ze_X10_isRow_0, ze_X10_isText_0, ze_X10_finds_0, ze_X10_tells_0, zp_in_0_5, zp_in_0_3, zp_in_0_7, zp_in_1_5, zp_in_0_9, zp_in_0_2, zp_in_48_57, zp_in_0_12, zp_in_1_4, zp_in_1_9, zp_in_1_2147483646, zp_in_0_8, zp_in_0, ↓zp_dn, ↓zp_hV, ↓zp_hI, ↓zp_hL, ↓zp_hR, ↓zp_hX, zp_eV, zp_eI, zp_eL, zp_eR, zp_eX, zp_eXl, zp_iV, zp_iI, zp_iL, zp_iR, ↓zp_sm, ↓zp_nls, ↓zp_nln, zp_bo0, zp_bo1, zp_okE, zp_ok2E, zp_rfE, ↓reduceIte, if_true, if_false, zp_ofn, zp_sI1, zp_w1, zp_sL1, zp_sR1, zp_l1, zp_leT, zp_leF, zp_ltT, zp_ltF, zp_eqT, zp_eqF, zp_leTl, zp_leFl, zp_ltTl, zp_ltFl, zp_leTr, zp_leFr, zp_ltTr, zp_ltFr, zp_eqTr, zp_eqFr, zp_eqTl, zp_eqFl, zp_eqFll, eq_self, zp_addl, zp_addr, zp_mull, zp_mulr, zp_subr, zp_subl, nI_add, pk_mul, Nat.reduceEqDiff, Nat.reduceLT, Nat.reduceLeDiff, Nat.reduceAdd, Nat.reduceMul, Nat.reduceSub, reduceCtorEq, Int32.reduceLT, Int32.reduceLE, not_true_eq_false, not_false_eq_true, and_true, true_and, and_false, false_and, or_true, true_or, or_false, false_or]
  refine Eq.mpr (congrArg (fun o => zp_ok2 o _ _) q1) ?_
  rw [zp_ok2E]
  refine ⟨rfl, zq_inv_nt (zq_nt_10 (zq_nt_nb nb2 (zq_nb_sL (zq_nb_sL q2))) _) ?_ (fun a => ?_) hI⟩
  · have e13 : M3.1 9 0 13 = ff.2 := by rw [q2 9 0 13 (by simp [zq_gp])]; simp [zp_sI1]
    simp [zp_sI1, zp_sL1, e13]
  · have e14 : M3.2.1 9 0 14 = lN ff.1 := by rw [q3]; simp [zp_sI2, zp_sL2]
    have e15 : M3.2.1 9 0 15 = 1 := by rw [q3]; simp [zp_sI2, zp_sL2]
    simp [zq_longs, zp_sI2, zp_sL2, e14, e15]
