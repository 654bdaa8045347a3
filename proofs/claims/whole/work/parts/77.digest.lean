/-! THE PURE PART: digest -/
def zh_it (F : Nat → Int64 → Int64) : Nat → Nat → Int64 → Int64
  | 0, _, y => y
  | k + 1, i, y => zh_it F k (i + 1) (F i y)
theorem zh_for (R : Nat → Int64 → zi_O) (F : Nat → Int64 → Int64) (n : Nat) (hs : ∀ i y, i < n → R i y = R (i + 1) (F i y)) : ∀ (k i : Nat) (y : Int64), i + k = n → R i y = R n (zh_it F k i y) := by
  intro k
  induction k with
  | zero => intro i y hi; rw [show i = n from by omega]; rfl
  | succ k ih => intro i y hi; rw [hs i y (by omega), zh_it]; exact ih (i + 1) (F i y) (by omega)
theorem zh_it_c {F G : Nat → Int64 → Int64} : ∀ (k i : Nat) (y : Int64), (∀ j y, i ≤ j → j < i + k → F j y = G j y) → zh_it F k i y = zh_it G k i y := by
  intro k
  induction k with
  | zero => intro i y _; rfl
  | succ k ih => intro i y h; rw [zh_it, zh_it, h i y (by omega) (by omega)]; exact ih (i + 1) _ (fun j y a b => h j y (by omega) (by omega))
abbrev zh_v (f : Nat → Int32) : Nat → Int64 → Int64 := fun j y => (31 * y) + Int32.toInt64 (f j)
def zh_row (s : Int32) (f : Nat → Int32) (y : Int64) : Int64 := zh_it (zh_v f) s.toNatClampNeg 0 ((31 * y) + Int32.toInt64 s)
theorem zh_row_c {a b : Int32} {f g : Nat → Int32} {N : Nat} (hN : N < 2 ^ 31) (h : zq_row a f b g N) (y : Int64) : zh_row a f y = zh_row b g y := by
  rcases h with ⟨e1, e2⟩ | ⟨m, hm, e1, e2, e3⟩
  · have z : (-1 : Int32).toNatClampNeg = 0 := by decide
    rw [e1, e2, zh_row, zh_row, z]; simp only [zh_it]
  · rw [e1, e2, zh_row, zh_row, nI_clamp (by omega)]
    exact zh_it_c m 0 _ (fun j y _ hj => by simp only [zh_v]; rw [e3 j (by omega)])
theorem zc_digOn (d : Nat) {M : zi_M} {k L N : Nat} {b : Int32} {g : Nat → Int32} (hL : zi_ln 12 k = L) (hLN : N ≤ L) (h31 : L < 2 ^ 31) (h : zq_row (M.1 5 k 1) (M.1 12 k) b g N) (y : Int64) : zi_run (d + 1) zm_X5_digestOn 0 [some (.inr (.inr (5, some k))), some (.inr (.inl y)), none, none, none, none] [] M = some (some (.inr (.inl (zh_row (M.1 5 k 1) (M.1 12 k) y))), M) := by
  rw [ze_X5_digestOn_0]
  rcases h with ⟨e1, e2⟩ | ⟨m, hm, e1, e2, e3⟩
  · have z : (-1 : Int32).toNatClampNeg = 0 := by decide
    rw [ze_X5_digestOn_15, e1, if_pos (show (-1 : Int32) ≤ 0 from by decide), zh_row, z, zh_it]
  · rw [zh_row, e1, nI_clamp (by omega)]
    refine Eq.trans (zh_for (fun i y => zi_run (d + 1) zm_X5_digestOn 15 [some (.inr (.inr (5, some k))), none, none, some (.inr (.inl y)), none, some (.inl (nI i))] [] M) (zh_v (M.1 12 k)) m ?_ m 0 _ (by omega)) ?_
    · intro i y hi
      show zi_run (d + 1) zm_X5_digestOn 15 [some (.inr (.inr (5, some k))), none, none, some (.inr (.inl y)), none, some (.inl (nI i))] [] M = _
      rw [ze_X5_digestOn_15]
      simp (disch := omega) only [↓zp_dn, ↓zp_hV, ↓zp_hI, ↓zp_hL, ↓zp_hR, ↓zp_hX, zp_eV, zp_eI, zp_eL, zp_eR, zp_eX, zp_eXl, zp_iV, zp_iI, zp_iL, zp_iR, ↓zp_sm, ↓zp_nls, ↓zp_nln, zp_bo0, zp_bo1, zp_okE, zp_ok2E, zp_rfE, ↓reduceIte, if_true, if_false, zp_leT, zp_leF, zp_ltT, zp_ltF, zp_eqT, zp_eqF, zp_leTl, zp_leFl, zp_ltTl, zp_ltFl, zp_leTr, zp_leFr, zp_ltTr, zp_ltFr, zp_eqTr, zp_eqFr, zp_eqTl, zp_eqFl, zp_eqFll, eq_self, zp_addl, zp_addr, zp_mull, zp_mulr, zp_subr, zp_subl, nI_add, pk_mul, e1, zl_get _ k i m L M hL e1 hi (by omega) h31]
    · show zi_run (d + 1) zm_X5_digestOn 15 [some (.inr (.inr (5, some k))), none, none, some (.inr (.inl _)), none, some (.inl (nI m))] [] M = _
      rw [ze_X5_digestOn_15]
      simp (disch := omega) only [↓zp_dn, ↓zp_hV, ↓zp_hI, ↓zp_hL, ↓zp_hR, ↓zp_hX, zp_eV, zp_eI, zp_eL, zp_eR, zp_eX, zp_eXl, zp_iV, zp_iI, zp_iL, zp_iR, ↓zp_sm, ↓zp_nls, ↓zp_nln, zp_bo0, zp_bo1, zp_okE, zp_ok2E, zp_rfE, ↓reduceIte, if_true, if_false, zp_leT, zp_leF, zp_ltT, zp_ltF, zp_eqT, zp_eqF, zp_leTl, zp_leFl, zp_ltTl, zp_ltFl, zp_leTr, zp_leFr, zp_ltTr, zp_ltFr, zp_eqTr, zp_eqFr, zp_eqTl, zp_eqFl, zp_eqFll, eq_self, zp_addl, zp_addr, zp_mull, zp_mulr, zp_subr, zp_subl, nI_add, pk_mul, e1]
/-- kept skies -/
abbrev zh_kr (M : zi_M) : Nat → Int64 → Int64 := fun j y => (31 * y) + Int32.toInt64 (if M.1 30 0 j = 0 then -1 else M.1 29 0 (356 * j + 4))
abbrev zh_rr (M : zi_M) : Nat → Int64 → Int64 := fun r y => zh_row (M.1 24 0 r) (fun j => M.1 25 0 (40 * r + j)) y
abbrev zh_tt (M : zi_M) : Nat → Int64 → Int64 := fun r y => zh_row (M.1 26 0 r) (fun j => M.1 27 0 (80 * r + j)) y
abbrev zh_bb (M : zi_M) : Nat → Int64 → Int64 := fun i y => zh_it (zh_v (fun w => M.1 28 0 (40 + 9 * i + w))) 8 0 y
def zh_all (A : zf_A) (K : zf_K) (M : zi_M) : Int64 := zh_it (zh_tt M) 4 0 (zh_it (zh_rr M) 6 0 (zh_it (zh_kr M) 3 0 (zh_it (zh_bb M) K.2.1 0 (zh_it (zh_v (zn_t A K M)) 9 0 17))))
theorem zc_digest (d : Nat) {n : Nat} {xs : Nat → Int32} {M : zi_M} (hI : zq_inv n xs M) {A : zf_A} {K : zf_K} (hS : zq_sky M A K) : zi_run (d + 3) zm_X9_digest 0 [some (.inr (.inr (9, some 0))), none, none, none, none, none] [] M = some (some (.inr (.inl (zh_all A K M))), M) := by
  have h4 := hS.2.1.1
  rw [ze_X9_digest_0]
  have s1 : zi_run (d + 3) zm_X9_digest 6 [some (.inr (.inr (9, some 0))), some (.inr (.inl 17)), none, some (.inl 0), none, none] [] M = zi_run (d + 3) zm_X9_digest 33 [some (.inr (.inr (9, some 0))), some (.inr (.inl (zh_it (zh_v (zn_t A K M)) 9 0 17))), none, some (.inl 0), none, none] [] M := by
    refine Eq.trans (zh_for (fun i y => zi_run (d + 3) zm_X9_digest 6 [some (.inr (.inr (9, some 0))), some (.inr (.inl y)), none, some (.inl (nI i)), none, none] [] M) (zh_v (zn_t A K M)) 9 ?_ 9 0 17 (by omega)) ?_
    · intro i y hi
      show zi_run (d + 3) zm_X9_digest 6 [some (.inr (.inr (9, some 0))), some (.inr (.inl y)), none, some (.inl (nI i)), none, none] [] M = _
      rw [ze_X9_digest_6]
      simp (disch := omega) only [↓zp_dn, ↓zp_hV, ↓zp_hI, ↓zp_hL, ↓zp_hR, ↓zp_hX, zp_eV, zp_eI, zp_eL, zp_eR, zp_eX, zp_eXl, zp_iV, zp_iI, zp_iL, zp_iR, ↓zp_sm, ↓zp_nls, ↓zp_nln, zp_bo0, zp_bo1, zp_okE, zp_ok2E, zp_rfE, ↓reduceIte, if_true, if_false, zp_leT, zp_leF, zp_ltT, zp_ltF, zp_eqT, zp_eqF, zp_leTl, zp_leFl, zp_ltTl, zp_ltFl, zp_leTr, zp_leFr, zp_ltTr, zp_ltFr, zp_eqTr, zp_eqFr, zp_eqTl, zp_eqFl, zp_eqFll, eq_self, zp_addl, zp_addr, zp_mull, zp_mulr, zp_subr, zp_subl, nI_add, pk_mul, zc_tally _ hI hS hi]
    · show zi_run (d + 3) zm_X9_digest 6 [some (.inr (.inr (9, some 0))), some (.inr (.inl _)), none, some (.inl (nI 9)), none, none] [] M = _
      rw [ze_X9_digest_6]
      simp (disch := omega) only [↓zp_dn, ↓zp_hV, ↓zp_hI, ↓zp_hL, ↓zp_hR, ↓zp_hX, zp_eV, zp_eI, zp_eL, zp_eR, zp_eX, zp_eXl, zp_iV, zp_iI, zp_iL, zp_iR, ↓zp_sm, ↓zp_nls, ↓zp_nln, zp_bo0, zp_bo1, zp_okE, zp_ok2E, zp_rfE, ↓reduceIte, if_true, if_false, zp_leT, zp_leF, zp_ltT, zp_ltF, zp_eqT, zp_eqF, zp_leTl, zp_leFl, zp_ltTl, zp_ltFl, zp_leTr, zp_leFr, zp_ltTr, zp_ltFr, zp_eqTr, zp_eqFr, zp_eqTl, zp_eqFl, zp_eqFll, eq_self, zp_addl, zp_addr, zp_mull, zp_mulr, zp_subr, zp_subl, nI_add, pk_mul]
  have s2 : ∀ y, zi_run (d + 3) zm_X9_digest 33 [some (.inr (.inr (9, some 0))), some (.inr (.inl y)), none, some (.inl 0), none, none] [] M = zi_run (d + 3) zm_X9_digest 33 [some (.inr (.inr (9, some 0))), some (.inr (.inl (zh_it (zh_bb M) K.2.1 0 y))), none, some (.inl (nI K.2.1)), none, none] [] M := by
    intro y
    refine zh_for (fun i y => zi_run (d + 3) zm_X9_digest 33 [some (.inr (.inr (9, some 0))), some (.inr (.inl y)), none, some (.inl (nI i)), none, none] [] M) (zh_bb M) K.2.1 ?_ K.2.1 0 y (by omega)
    intro i y hi
    show zi_run (d + 3) zm_X9_digest 33 [some (.inr (.inr (9, some 0))), some (.inr (.inl y)), none, some (.inl (nI i)), none, none] [] M = _
    rw [ze_X9_digest_33]
    simp (disch := omega) only [↓zp_dn, ↓zp_hV, ↓zp_hI, ↓zp_hL, ↓zp_hR, ↓zp_hX, zp_eV, zp_eI, zp_eL, zp_eR, zp_eX, zp_eXl, zp_iV, zp_iI, zp_iL, zp_iR, ↓zp_sm, ↓zp_nls, ↓zp_nln, zp_bo0, zp_bo1, zp_okE, zp_ok2E, zp_rfE, ↓reduceIte, if_true, if_false, zp_leT, zp_leF, zp_ltT, zp_ltF, zp_eqT, zp_eqF, zp_leTl, zp_leFl, zp_ltTl, zp_ltFl, zp_leTr, zp_leFr, zp_ltTr, zp_ltFr, zp_eqTr, zp_eqFr, zp_eqTl, zp_eqFl, zp_eqFll, eq_self, zp_addl, zp_addr, zp_mull, zp_mulr, zp_subr, zp_subl, nI_add, pk_mul, zc_bird _ hS hi]
    refine Eq.trans (zh_for (fun w y => zi_run (d + 3) zm_X9_digest 59 [some (.inr (.inr (9, some 0))), some (.inr (.inl y)), none, some (.inl (nI i)), some (.inr (.inr (1, some i))), some (.inl (nI w))] [] M) (zh_v (fun w => M.1 28 0 (40 + 9 * i + w))) 8 ?_ 8 0 y (by omega)) ?_
    · intro w y hw
      show zi_run (d + 3) zm_X9_digest 59 [some (.inr (.inr (9, some 0))), some (.inr (.inl y)), none, some (.inl (nI i)), some (.inr (.inr (1, some i))), some (.inl (nI w))] [] M = _
      rw [ze_X9_digest_59]
      simp (disch := omega) only [↓zp_dn, ↓zp_hV, ↓zp_hI, ↓zp_hL, ↓zp_hR, ↓zp_hX, zp_eV, zp_eI, zp_eL, zp_eR, zp_eX, zp_eXl, zp_iV, zp_iI, zp_iL, zp_iR, ↓zp_sm, ↓zp_nls, ↓zp_nln, zp_bo0, zp_bo1, zp_okE, zp_ok2E, zp_rfE, ↓reduceIte, if_true, if_false, zp_leT, zp_leF, zp_ltT, zp_ltF, zp_eqT, zp_eqF, zp_leTl, zp_leFl, zp_ltTl, zp_ltFl, zp_leTr, zp_leFr, zp_ltTr, zp_ltFr, zp_eqTr, zp_eqFr, zp_eqTl, zp_eqFl, zp_eqFll, eq_self, zp_addl, zp_addr, zp_mull, zp_mulr, zp_subr, zp_subl, nI_add, pk_mul, zc_tell _ hS hi hw]
    · show zi_run (d + 3) zm_X9_digest 59 [some (.inr (.inr (9, some 0))), some (.inr (.inl _)), none, some (.inl (nI i)), some (.inr (.inr (1, some i))), some (.inl (nI 8))] [] M = _
      rw [ze_X9_digest_59]
      simp (disch := omega) only [↓zp_dn, ↓zp_hV, ↓zp_hI, ↓zp_hL, ↓zp_hR, ↓zp_hX, zp_eV, zp_eI, zp_eL, zp_eR, zp_eX, zp_eXl, zp_iV, zp_iI, zp_iL, zp_iR, ↓zp_sm, ↓zp_nls, ↓zp_nln, zp_bo0, zp_bo1, zp_okE, zp_ok2E, zp_rfE, ↓reduceIte, if_true, if_false, zp_leT, zp_leF, zp_ltT, zp_ltF, zp_eqT, zp_eqF, zp_leTl, zp_leFl, zp_ltTl, zp_ltFl, zp_leTr, zp_leFr, zp_ltTr, zp_ltFr, zp_eqTr, zp_eqFr, zp_eqTl, zp_eqFl, zp_eqFll, eq_self, zp_addl, zp_addr, zp_mull, zp_mulr, zp_subr, zp_subl, nI_add, pk_mul, ze_X9_digest_87]
  have s3 : ∀ y, zi_run (d + 3) zm_X9_digest 33 [some (.inr (.inr (9, some 0))), some (.inr (.inl y)), none, some (.inl (nI K.2.1)), none, none] [] M = zi_run (d + 3) zm_X9_digest 95 [some (.inr (.inr (9, some 0))), some (.inr (.inl y)), none, some (.inl 0), none, none] [] M := by
    intro y
    refine zp_for2 (fun i => zi_run (d + 3) zm_X9_digest 33 [some (.inr (.inr (9, some 0))), some (.inr (.inl y)), none, some (.inl (nI i)), none, none] [] M) 4 _ ?_ K.2.1 ?_ h4
    · rw [ze_X9_digest_33]
      simp (disch := omega) only [↓zp_dn, ↓zp_hV, ↓zp_hI, ↓zp_hL, ↓zp_hR, ↓zp_hX, zp_eV, zp_eI, zp_eL, zp_eR, zp_eX, zp_eXl, zp_iV, zp_iI, zp_iL, zp_iR, ↓zp_sm, ↓zp_nls, ↓zp_nln, zp_bo0, zp_bo1, zp_okE, zp_ok2E, zp_rfE, ↓reduceIte, if_true, if_false, zp_leT, zp_leF, zp_ltT, zp_ltF, zp_eqT, zp_eqF, zp_leTl, zp_leFl, zp_ltTl, zp_ltFl, zp_leTr, zp_leFr, zp_ltTr, zp_ltFr, zp_eqTr, zp_eqFr, zp_eqTl, zp_eqFl, zp_eqFll, eq_self, zp_addl, zp_addr, zp_mull, zp_mulr, zp_subr, zp_subl, nI_add, pk_mul]
    · intro i h1 h2
      rw [ze_X9_digest_33]
      simp (disch := omega) only [↓zp_dn, ↓zp_hV, ↓zp_hI, ↓zp_hL, ↓zp_hR, ↓zp_hX, zp_eV, zp_eI, zp_eL, zp_eR, zp_eX, zp_eXl, zp_iV, zp_iI, zp_iL, zp_iR, ↓zp_sm, ↓zp_nls, ↓zp_nln, zp_bo0, zp_bo1, zp_okE, zp_ok2E, zp_rfE, ↓reduceIte, if_true, if_false, zp_leT, zp_leF, zp_ltT, zp_ltF, zp_eqT, zp_eqF, zp_leTl, zp_leFl, zp_ltTl, zp_ltFl, zp_leTr, zp_leFr, zp_ltTr, zp_ltFr, zp_eqTr, zp_eqFr, zp_eqTl, zp_eqFl, zp_eqFll, eq_self, zp_addl, zp_addr, zp_mull, zp_mulr, zp_subr, zp_subl, nI_add, pk_mul, zc_birdF _ hS h1, ze_X9_digest_87]
  have s4 : ∀ y, zi_run (d + 3) zm_X9_digest 95 [some (.inr (.inr (9, some 0))), some (.inr (.inl y)), none, some (.inl 0), none, none] [] M = zi_run (d + 3) zm_X9_digest 141 [some (.inr (.inr (9, some 0))), some (.inr (.inl (zh_it (zh_kr M) 3 0 y))), none, some (.inl 0), none, none] [] M := by
    intro y
    refine Eq.trans (zh_for (fun i y => zi_run (d + 3) zm_X9_digest 95 [some (.inr (.inr (9, some 0))), some (.inr (.inl y)), none, some (.inl (nI i)), none, none] [] M) (zh_kr M) 3 ?_ 3 0 y (by omega)) ?_
    · intro i y hi
      show zi_run (d + 3) zm_X9_digest 95 [some (.inr (.inr (9, some 0))), some (.inr (.inl y)), none, some (.inl (nI i)), none, none] [] M = _
      rw [ze_X9_digest_95]
      rcases hS.2.2.2.2.2.2 i hi with ⟨e1, e2⟩ | ⟨e1, e2, K', _, e4, _, e6⟩
      · simp (disch := omega) only [↓zp_dn, ↓zp_hV, ↓zp_hI, ↓zp_hL, ↓zp_hR, ↓zp_hX, zp_eV, zp_eI, zp_eL, zp_eR, zp_eX, zp_eXl, zp_iV, zp_iI, zp_iL, zp_iR, ↓zp_sm, ↓zp_nls, ↓zp_nln, zp_bo0, zp_bo1, zp_okE, zp_ok2E, zp_rfE, ↓reduceIte, if_true, if_false, zp_leT, zp_leF, zp_ltT, zp_ltF, zp_eqT, zp_eqF, zp_leTl, zp_leFl, zp_ltTl, zp_ltFl, zp_leTr, zp_leFr, zp_ltTr, zp_ltFr, zp_eqTr, zp_eqFr, zp_eqTl, zp_eqFl, zp_eqFll, eq_self, zp_addl, zp_addr, zp_mull, zp_mulr, zp_subr, zp_subl, nI_add, pk_mul, e1, ze_X9_digest_130, zh_kr, e2]
      · have b6 : M.1 6 (1 + i) 6 = nI K'.2.2.2.1 := e4.2.2.1
        have b29 : M.1 29 0 (356 * i + 4) = nI K'.2.2.2.1 := e6.2.2.1
        simp (disch := omega) only [↓zp_dn, ↓zp_hV, ↓zp_hI, ↓zp_hL, ↓zp_hR, ↓zp_hX, zp_eV, zp_eI, zp_eL, zp_eR, zp_eX, zp_eXl, zp_iV, zp_iI, zp_iL, zp_iR, ↓zp_sm, ↓zp_nls, ↓zp_nln, zp_bo0, zp_bo1, zp_okE, zp_ok2E, zp_rfE, ↓reduceIte, if_true, if_false, zp_leT, zp_leF, zp_ltT, zp_ltF, zp_eqT, zp_eqF, zp_leTl, zp_leFl, zp_ltTl, zp_ltFl, zp_leTr, zp_leFr, zp_ltTr, zp_ltFr, zp_eqTr, zp_eqFr, zp_eqTl, zp_eqFl, zp_eqFll, eq_self, zp_addl, zp_addr, zp_mull, zp_mulr, zp_subr, zp_subl, nI_add, pk_mul, e1, zp_1n0, ze_X9_digest_130, zh_kr, e2, b6, b29]
    · show zi_run (d + 3) zm_X9_digest 95 [some (.inr (.inr (9, some 0))), some (.inr (.inl _)), none, some (.inl (nI 3)), none, none] [] M = _
      rw [ze_X9_digest_95]
      simp (disch := omega) only [↓zp_dn, ↓zp_hV, ↓zp_hI, ↓zp_hL, ↓zp_hR, ↓zp_hX, zp_eV, zp_eI, zp_eL, zp_eR, zp_eX, zp_eXl, zp_iV, zp_iI, zp_iL, zp_iR, ↓zp_sm, ↓zp_nls, ↓zp_nln, zp_bo0, zp_bo1, zp_okE, zp_ok2E, zp_rfE, ↓reduceIte, if_true, if_false, zp_leT, zp_leF, zp_ltT, zp_ltF, zp_eqT, zp_eqF, zp_leTl, zp_leFl, zp_ltTl, zp_ltFl, zp_leTr, zp_leFr, zp_ltTr, zp_ltFr, zp_eqTr, zp_eqFr, zp_eqTl, zp_eqFl, zp_eqFll, eq_self, zp_addl, zp_addr, zp_mull, zp_mulr, zp_subr, zp_subl, nI_add, pk_mul]
  have s5 : ∀ y, zi_run (d + 3) zm_X9_digest 141 [some (.inr (.inr (9, some 0))), some (.inr (.inl y)), none, some (.inl 0), none, none] [] M = zi_run (d + 3) zm_X9_digest 166 [some (.inr (.inr (9, some 0))), some (.inr (.inl (zh_it (zh_rr M) 6 0 y))), none, some (.inl 0), none, none] [] M := by
    intro y
    refine Eq.trans (zh_for (fun i y => zi_run (d + 3) zm_X9_digest 141 [some (.inr (.inr (9, some 0))), some (.inr (.inl y)), none, some (.inl (nI i)), none, none] [] M) (zh_rr M) 6 ?_ 6 0 y (by omega)) ?_
    · intro i y hi
      show zi_run (d + 3) zm_X9_digest 141 [some (.inr (.inr (9, some 0))), some (.inr (.inl y)), none, some (.inl (nI i)), none, none] [] M = _
      rw [ze_X9_digest_141]
      simp (disch := omega) only [↓zp_dn, ↓zp_hV, ↓zp_hI, ↓zp_hL, ↓zp_hR, ↓zp_hX, zp_eV, zp_eI, zp_eL, zp_eR, zp_eX, zp_eXl, zp_iV, zp_iI, zp_iL, zp_iR, ↓zp_sm, ↓zp_nls, ↓zp_nln, zp_bo0, zp_bo1, zp_okE, zp_ok2E, zp_rfE, ↓reduceIte, if_true, if_false, zp_leT, zp_leF, zp_ltT, zp_ltF, zp_eqT, zp_eqF, zp_leTl, zp_leFl, zp_ltTl, zp_ltFl, zp_leTr, zp_leFr, zp_ltTr, zp_ltFr, zp_eqTr, zp_eqFr, zp_eqTl, zp_eqFl, zp_eqFll, eq_self, zp_addl, zp_addr, zp_mull, zp_mulr, zp_subr, zp_subl, nI_add, pk_mul, zc_digOn _ (zp_ln i hi) (Nat.le_refl 40) (by decide) (hI.1 i hi), zh_rr, ← zh_row_c (by decide) (hI.1 i hi)]
    · show zi_run (d + 3) zm_X9_digest 141 [some (.inr (.inr (9, some 0))), some (.inr (.inl _)), none, some (.inl (nI 6)), none, none] [] M = _
      rw [ze_X9_digest_141]
      simp (disch := omega) only [↓zp_dn, ↓zp_hV, ↓zp_hI, ↓zp_hL, ↓zp_hR, ↓zp_hX, zp_eV, zp_eI, zp_eL, zp_eR, zp_eX, zp_eXl, zp_iV, zp_iI, zp_iL, zp_iR, ↓zp_sm, ↓zp_nls, ↓zp_nln, zp_bo0, zp_bo1, zp_okE, zp_ok2E, zp_rfE, ↓reduceIte, if_true, if_false, zp_leT, zp_leF, zp_ltT, zp_ltF, zp_eqT, zp_eqF, zp_leTl, zp_leFl, zp_ltTl, zp_ltFl, zp_leTr, zp_leFr, zp_ltTr, zp_ltFr, zp_eqTr, zp_eqFr, zp_eqTl, zp_eqFl, zp_eqFll, eq_self, zp_addl, zp_addr, zp_mull, zp_mulr, zp_subr, zp_subl, nI_add, pk_mul]
  have s6 : ∀ y, zi_run (d + 3) zm_X9_digest 166 [some (.inr (.inr (9, some 0))), some (.inr (.inl y)), none, some (.inl 0), none, none] [] M = some (some (.inr (.inl (zh_it (zh_tt M) 4 0 y))), M) := by
    intro y
    refine Eq.trans (zh_for (fun i y => zi_run (d + 3) zm_X9_digest 166 [some (.inr (.inr (9, some 0))), some (.inr (.inl y)), none, some (.inl (nI i)), none, none] [] M) (zh_tt M) 4 ?_ 4 0 y (by omega)) ?_
    · intro i y hi
      show zi_run (d + 3) zm_X9_digest 166 [some (.inr (.inr (9, some 0))), some (.inr (.inl y)), none, some (.inl (nI i)), none, none] [] M = _
      rw [ze_X9_digest_166]
      simp (disch := omega) only [↓zp_dn, ↓zp_hV, ↓zp_hI, ↓zp_hL, ↓zp_hR, ↓zp_hX, zp_eV, zp_eI, zp_eL, zp_eR, zp_eX, zp_eXl, zp_iV, zp_iI, zp_iL, zp_iR, ↓zp_sm, ↓zp_nls, ↓zp_nln, zp_bo0, zp_bo1, zp_okE, zp_ok2E, zp_rfE, ↓reduceIte, if_true, if_false, zp_leT, zp_leF, zp_ltT, zp_ltF, zp_eqT, zp_eqF, zp_leTl, zp_leFl, zp_ltTl, zp_ltFl, zp_leTr, zp_leFr, zp_ltTr, zp_ltFr, zp_eqTr, zp_eqFr, zp_eqTl, zp_eqFl, zp_eqFll, eq_self, zp_addl, zp_addr, zp_mull, zp_mulr, zp_subr, zp_subl, nI_add, pk_mul, zc_digOn _ (zp_ln6 i) (Nat.le_refl 80) (by decide) (hI.2.1 i hi).1, zh_tt, ← zh_row_c (by decide) (hI.2.1 i hi).1]
    · show zi_run (d + 3) zm_X9_digest 166 [some (.inr (.inr (9, some 0))), some (.inr (.inl _)), none, some (.inl (nI 4)), none, none] [] M = _
      rw [ze_X9_digest_166]
      simp (disch := omega) only [↓zp_dn, ↓zp_hV, ↓zp_hI, ↓zp_hL, ↓zp_hR, ↓zp_hX, zp_eV, zp_eI, zp_eL, zp_eR, zp_eX, zp_eXl, zp_iV, zp_iI, zp_iL, zp_iR, ↓zp_sm, ↓zp_nls, ↓zp_nln, zp_bo0, zp_bo1, zp_okE, zp_ok2E, zp_rfE, ↓reduceIte, if_true, if_false, zp_leT, zp_leF, zp_ltT, zp_ltF, zp_eqT, zp_eqF, zp_leTl, zp_leFl, zp_ltTl, zp_ltFl, zp_leTr, zp_leFr, zp_ltTr, zp_ltFr, zp_eqTr, zp_eqFr, zp_eqTl, zp_eqFl, zp_eqFll, eq_self, zp_addl, zp_addr, zp_mull, zp_mulr, zp_subr, zp_subl, nI_add, pk_mul]
  rw [s1, s2, s3, s4, s5, s6]; rfl
theorem zr_row2 (d : Nat) {M : zi_M} {r : Nat} (hr : r < 6) {a : Int32} {f : Nat → Int32} (h : zq_row a f (M.1 24 0 r) (fun j => M.1 25 0 (40 * r + j)) 40) (y : Int64) : zi_run d zm_X10_digest 159 [some (.inr (.inr (10, some 0))), some (.inr (.inl ((31 * y) + Int32.toInt64 (M.1 24 0 r)))), none, some (.inl (nI r)), some (.inl 0)] [] M = zi_run d zm_X10_digest 136 [some (.inr (.inr (10, some 0))), some (.inr (.inl (zh_row (M.1 24 0 r) (fun j => M.1 25 0 (40 * r + j)) y))), none, some (.inl (nI (r + 1))), none] [] M := by
  rcases h with ⟨e1, e2⟩ | ⟨m, hm, e1, e2, e3⟩
  · rw [ze_X10_digest_159]
    have l : (-1 : Int32) ≤ 0 := by decide
    have z : (-1 : Int32).toNatClampNeg = 0 := by decide
    simp (disch := omega) only [↓zp_dn, ↓zp_hV, ↓zp_hI, ↓zp_hL, ↓zp_hR, ↓zp_hX, zp_eV, zp_eI, zp_eL, zp_eR, zp_eX, zp_eXl, zp_iV, zp_iI, zp_iL, zp_iR, ↓zp_sm, ↓zp_nls, ↓zp_nln, zp_bo0, zp_bo1, zp_okE, zp_ok2E, zp_rfE, ↓reduceIte, if_true, if_false, zp_leT, zp_leF, zp_ltT, zp_ltF, zp_eqT, zp_eqF, zp_leTl, zp_leFl, zp_ltTl, zp_ltFl, zp_leTr, zp_leFr, zp_ltTr, zp_ltFr, zp_eqTr, zp_eqFr, zp_eqTl, zp_eqFl, zp_eqFll, eq_self, zp_addl, zp_addr, zp_mull, zp_mulr, zp_subr, zp_subl, nI_add, pk_mul, e2, if_pos l, zh_row, z, zh_it]
  · rw [zh_row, e2, nI_clamp (by omega)]
    refine Eq.trans (zh_for (fun i y => zi_run d zm_X10_digest 159 [some (.inr (.inr (10, some 0))), some (.inr (.inl y)), none, some (.inl (nI r)), some (.inl (nI i))] [] M) (zh_v (fun j => M.1 25 0 (40 * r + j))) m ?_ m 0 _ (by omega)) ?_
    · intro i y hi
      show zi_run d zm_X10_digest 159 [some (.inr (.inr (10, some 0))), some (.inr (.inl y)), none, some (.inl (nI r)), some (.inl (nI i))] [] M = _
      rw [ze_X10_digest_159]
      simp (disch := omega) only [↓zp_dn, ↓zp_hV, ↓zp_hI, ↓zp_hL, ↓zp_hR, ↓zp_hX, zp_eV, zp_eI, zp_eL, zp_eR, zp_eX, zp_eXl, zp_iV, zp_iI, zp_iL, zp_iR, ↓zp_sm, ↓zp_nls, ↓zp_nln, zp_bo0, zp_bo1, zp_okE, zp_ok2E, zp_rfE, ↓reduceIte, if_true, if_false, zp_leT, zp_leF, zp_ltT, zp_ltF, zp_eqT, zp_eqF, zp_leTl, zp_leFl, zp_ltTl, zp_ltFl, zp_leTr, zp_leFr, zp_ltTr, zp_ltFr, zp_eqTr, zp_eqFr, zp_eqTl, zp_eqFl, zp_eqFll, eq_self, zp_addl, zp_addr, zp_mull, zp_mulr, zp_subr, zp_subl, nI_add, pk_mul, e2]
    · show zi_run d zm_X10_digest 159 [some (.inr (.inr (10, some 0))), some (.inr (.inl _)), none, some (.inl (nI r)), some (.inl (nI m))] [] M = _
      rw [ze_X10_digest_159]
      simp (disch := omega) only [↓zp_dn, ↓zp_hV, ↓zp_hI, ↓zp_hL, ↓zp_hR, ↓zp_hX, zp_eV, zp_eI, zp_eL, zp_eR, zp_eX, zp_eXl, zp_iV, zp_iI, zp_iL, zp_iR, ↓zp_sm, ↓zp_nls, ↓zp_nln, zp_bo0, zp_bo1, zp_okE, zp_ok2E, zp_rfE, ↓reduceIte, if_true, if_false, zp_leT, zp_leF, zp_ltT, zp_ltF, zp_eqT, zp_eqF, zp_leTl, zp_leFl, zp_ltTl, zp_ltFl, zp_leTr, zp_leFr, zp_ltTr, zp_ltFr, zp_eqTr, zp_eqFr, zp_eqTl, zp_eqFl, zp_eqFll, eq_self, zp_addl, zp_addr, zp_mull, zp_mulr, zp_subr, zp_subl, nI_add, pk_mul, e2]
theorem zr_text2 (d : Nat) {M : zi_M} {r : Nat} (hr : r < 4) {a : Int32} {f : Nat → Int32} (h : zq_row a f (M.1 26 0 r) (fun j => M.1 27 0 (80 * r + j)) 80) (y : Int64) : zi_run d zm_X10_digest 226 [some (.inr (.inr (10, some 0))), some (.inr (.inl ((31 * y) + Int32.toInt64 (M.1 26 0 r)))), none, some (.inl (nI r)), some (.inl 0)] [] M = zi_run d zm_X10_digest 204 [some (.inr (.inr (10, some 0))), some (.inr (.inl (zh_row (M.1 26 0 r) (fun j => M.1 27 0 (80 * r + j)) y))), none, some (.inl (nI (r + 1))), none] [] M := by
  rcases h with ⟨e1, e2⟩ | ⟨m, hm, e1, e2, e3⟩
  · rw [ze_X10_digest_226]
    have l : (-1 : Int32) ≤ 0 := by decide
    have z : (-1 : Int32).toNatClampNeg = 0 := by decide
    simp (disch := omega) only [↓zp_dn, ↓zp_hV, ↓zp_hI, ↓zp_hL, ↓zp_hR, ↓zp_hX, zp_eV, zp_eI, zp_eL, zp_eR, zp_eX, zp_eXl, zp_iV, zp_iI, zp_iL, zp_iR, ↓zp_sm, ↓zp_nls, ↓zp_nln, zp_bo0, zp_bo1, zp_okE, zp_ok2E, zp_rfE, ↓reduceIte, if_true, if_false, zp_leT, zp_leF, zp_ltT, zp_ltF, zp_eqT, zp_eqF, zp_leTl, zp_leFl, zp_ltTl, zp_ltFl, zp_leTr, zp_leFr, zp_ltTr, zp_ltFr, zp_eqTr, zp_eqFr, zp_eqTl, zp_eqFl, zp_eqFll, eq_self, zp_addl, zp_addr, zp_mull, zp_mulr, zp_subr, zp_subl, nI_add, pk_mul, e2, if_pos l, zh_row, z, zh_it]
  · rw [zh_row, e2, nI_clamp (by omega)]
    refine Eq.trans (zh_for (fun i y => zi_run d zm_X10_digest 226 [some (.inr (.inr (10, some 0))), some (.inr (.inl y)), none, some (.inl (nI r)), some (.inl (nI i))] [] M) (zh_v (fun j => M.1 27 0 (80 * r + j))) m ?_ m 0 _ (by omega)) ?_
    · intro i y hi
      show zi_run d zm_X10_digest 226 [some (.inr (.inr (10, some 0))), some (.inr (.inl y)), none, some (.inl (nI r)), some (.inl (nI i))] [] M = _
      rw [ze_X10_digest_226]
      simp (disch := omega) only [↓zp_dn, ↓zp_hV, ↓zp_hI, ↓zp_hL, ↓zp_hR, ↓zp_hX, zp_eV, zp_eI, zp_eL, zp_eR, zp_eX, zp_eXl, zp_iV, zp_iI, zp_iL, zp_iR, ↓zp_sm, ↓zp_nls, ↓zp_nln, zp_bo0, zp_bo1, zp_okE, zp_ok2E, zp_rfE, ↓reduceIte, if_true, if_false, zp_leT, zp_leF, zp_ltT, zp_ltF, zp_eqT, zp_eqF, zp_leTl, zp_leFl, zp_ltTl, zp_ltFl, zp_leTr, zp_leFr, zp_ltTr, zp_ltFr, zp_eqTr, zp_eqFr, zp_eqTl, zp_eqFl, zp_eqFll, eq_self, zp_addl, zp_addr, zp_mull, zp_mulr, zp_subr, zp_subl, nI_add, pk_mul, e2]
    · show zi_run d zm_X10_digest 226 [some (.inr (.inr (10, some 0))), some (.inr (.inl _)), none, some (.inl (nI r)), some (.inl (nI m))] [] M = _
      rw [ze_X10_digest_226]
      simp (disch := omega) only [↓zp_dn, ↓zp_hV, ↓zp_hI, ↓zp_hL, ↓zp_hR, ↓zp_hX, zp_eV, zp_eI, zp_eL, zp_eR, zp_eX, zp_eXl, zp_iV, zp_iI, zp_iL, zp_iR, ↓zp_sm, ↓zp_nls, ↓zp_nln, zp_bo0, zp_bo1, zp_okE, zp_ok2E, zp_rfE, ↓reduceIte, if_true, if_false, zp_leT, zp_leF, zp_ltT, zp_ltF, zp_eqT, zp_eqF, zp_leTl, zp_leFl, zp_ltTl, zp_ltFl, zp_leTr, zp_leFr, zp_ltTr, zp_ltFr, zp_eqTr, zp_eqFr, zp_eqTl, zp_eqFl, zp_eqFll, eq_self, zp_addl, zp_addr, zp_mull, zp_mulr, zp_subr, zp_subl, nI_add, pk_mul, e2]
theorem zr_digest (d : Nat) {n : Nat} {xs : Nat → Int32} {M : zi_M} (hI : zq_inv n xs M) {A : zf_A} {K : zf_K} (hS : zq_sky M A K) : zi_run (d + 3) zm_X10_digest 0 [some (.inr (.inr (10, some 0))), none, none, none, none] [] M = some (some (.inr (.inl (zh_all A K M))), M) := by
  have h4 := hS.2.1.1
  have r3 : M.1 28 0 3 = nI K.2.1 := hS.2.2.2.2.2.1.2.1
  rw [ze_X10_digest_0]
  have s1 : zi_run (d + 3) zm_X10_digest 6 [some (.inr (.inr (10, some 0))), some (.inr (.inl 17)), none, some (.inl 0), none] [] M = zi_run (d + 3) zm_X10_digest 33 [some (.inr (.inr (10, some 0))), some (.inr (.inl (zh_it (zh_v (zn_t A K M)) 9 0 17))), none, some (.inl 0), none] [] M := by
    refine Eq.trans (zh_for (fun i y => zi_run (d + 3) zm_X10_digest 6 [some (.inr (.inr (10, some 0))), some (.inr (.inl y)), none, some (.inl (nI i)), none] [] M) (zh_v (zn_t A K M)) 9 ?_ 9 0 17 (by omega)) ?_
    · intro i y hi
      show zi_run (d + 3) zm_X10_digest 6 [some (.inr (.inr (10, some 0))), some (.inr (.inl y)), none, some (.inl (nI i)), none] [] M = _
      rw [ze_X10_digest_6]
      simp (disch := omega) only [↓zp_dn, ↓zp_hV, ↓zp_hI, ↓zp_hL, ↓zp_hR, ↓zp_hX, zp_eV, zp_eI, zp_eL, zp_eR, zp_eX, zp_eXl, zp_iV, zp_iI, zp_iL, zp_iR, ↓zp_sm, ↓zp_nls, ↓zp_nln, zp_bo0, zp_bo1, zp_okE, zp_ok2E, zp_rfE, ↓reduceIte, if_true, if_false, zp_leT, zp_leF, zp_ltT, zp_ltF, zp_eqT, zp_eqF, zp_leTl, zp_leFl, zp_ltTl, zp_ltFl, zp_leTr, zp_leFr, zp_ltTr, zp_ltFr, zp_eqTr, zp_eqFr, zp_eqTl, zp_eqFl, zp_eqFll, eq_self, zp_addl, zp_addr, zp_mull, zp_mulr, zp_subr, zp_subl, nI_add, pk_mul, zr_countOf _ hS hi]
    · show zi_run (d + 3) zm_X10_digest 6 [some (.inr (.inr (10, some 0))), some (.inr (.inl _)), none, some (.inl (nI 9)), none] [] M = _
      rw [ze_X10_digest_6]
      simp (disch := omega) only [↓zp_dn, ↓zp_hV, ↓zp_hI, ↓zp_hL, ↓zp_hR, ↓zp_hX, zp_eV, zp_eI, zp_eL, zp_eR, zp_eX, zp_eXl, zp_iV, zp_iI, zp_iL, zp_iR, ↓zp_sm, ↓zp_nls, ↓zp_nln, zp_bo0, zp_bo1, zp_okE, zp_ok2E, zp_rfE, ↓reduceIte, if_true, if_false, zp_leT, zp_leF, zp_ltT, zp_ltF, zp_eqT, zp_eqF, zp_leTl, zp_leFl, zp_ltTl, zp_ltFl, zp_leTr, zp_leFr, zp_ltTr, zp_ltFr, zp_eqTr, zp_eqFr, zp_eqTl, zp_eqFl, zp_eqFll, eq_self, zp_addl, zp_addr, zp_mull, zp_mulr, zp_subr, zp_subl, nI_add, pk_mul]
  have s2 : ∀ y, zi_run (d + 3) zm_X10_digest 33 [some (.inr (.inr (10, some 0))), some (.inr (.inl y)), none, some (.inl 0), none] [] M = zi_run (d + 3) zm_X10_digest 90 [some (.inr (.inr (10, some 0))), some (.inr (.inl (zh_it (zh_bb M) K.2.1 0 y))), none, some (.inl 0), none] [] M := by
    intro y
    refine Eq.trans (zh_for (fun i y => zi_run (d + 3) zm_X10_digest 33 [some (.inr (.inr (10, some 0))), some (.inr (.inl y)), none, some (.inl (nI i)), none] [] M) (zh_bb M) K.2.1 ?_ K.2.1 0 y (by omega)) ?_
    · intro i y hi
      show zi_run (d + 3) zm_X10_digest 33 [some (.inr (.inr (10, some 0))), some (.inr (.inl y)), none, some (.inl (nI i)), none] [] M = _
      rw [ze_X10_digest_33]
      simp (disch := omega) only [↓zp_dn, ↓zp_hV, ↓zp_hI, ↓zp_hL, ↓zp_hR, ↓zp_hX, zp_eV, zp_eI, zp_eL, zp_eR, zp_eX, zp_eXl, zp_iV, zp_iI, zp_iL, zp_iR, ↓zp_sm, ↓zp_nls, ↓zp_nln, zp_bo0, zp_bo1, zp_okE, zp_ok2E, zp_rfE, ↓reduceIte, if_true, if_false, zp_leT, zp_leF, zp_ltT, zp_ltF, zp_eqT, zp_eqF, zp_leTl, zp_leFl, zp_ltTl, zp_ltFl, zp_leTr, zp_leFr, zp_ltTr, zp_ltFr, zp_eqTr, zp_eqFr, zp_eqTl, zp_eqFl, zp_eqFll, eq_self, zp_addl, zp_addr, zp_mull, zp_mulr, zp_subr, zp_subl, nI_add, pk_mul, r3]
      refine Eq.trans (zh_for (fun w y => zi_run (d + 3) zm_X10_digest 46 [some (.inr (.inr (10, some 0))), some (.inr (.inl y)), none, some (.inl (nI i)), some (.inl (nI w))] [] M) (zh_v (fun w => M.1 28 0 (40 + 9 * i + w))) 8 ?_ 8 0 y (by omega)) ?_
      · intro w y hw
        show zi_run (d + 3) zm_X10_digest 46 [some (.inr (.inr (10, some 0))), some (.inr (.inl y)), none, some (.inl (nI i)), some (.inl (nI w))] [] M = _
        rw [ze_X10_digest_46]
        simp (disch := omega) only [↓zp_dn, ↓zp_hV, ↓zp_hI, ↓zp_hL, ↓zp_hR, ↓zp_hX, zp_eV, zp_eI, zp_eL, zp_eR, zp_eX, zp_eXl, zp_iV, zp_iI, zp_iL, zp_iR, ↓zp_sm, ↓zp_nls, ↓zp_nln, zp_bo0, zp_bo1, zp_okE, zp_ok2E, zp_rfE, ↓reduceIte, if_true, if_false, zp_leT, zp_leF, zp_ltT, zp_ltF, zp_eqT, zp_eqF, zp_leTl, zp_leFl, zp_ltTl, zp_ltFl, zp_leTr, zp_leFr, zp_ltTr, zp_ltFr, zp_eqTr, zp_eqFr, zp_eqTl, zp_eqFl, zp_eqFll, eq_self, zp_addl, zp_addr, zp_mull, zp_mulr, zp_subr, zp_subl, nI_add, pk_mul]
      · show zi_run (d + 3) zm_X10_digest 46 [some (.inr (.inr (10, some 0))), some (.inr (.inl _)), none, some (.inl (nI i)), some (.inl (nI 8))] [] M = _
        rw [ze_X10_digest_46]
        simp (disch := omega) only [↓zp_dn, ↓zp_hV, ↓zp_hI, ↓zp_hL, ↓zp_hR, ↓zp_hX, zp_eV, zp_eI, zp_eL, zp_eR, zp_eX, zp_eXl, zp_iV, zp_iI, zp_iL, zp_iR, ↓zp_sm, ↓zp_nls, ↓zp_nln, zp_bo0, zp_bo1, zp_okE, zp_ok2E, zp_rfE, ↓reduceIte, if_true, if_false, zp_leT, zp_leF, zp_ltT, zp_ltF, zp_eqT, zp_eqF, zp_leTl, zp_leFl, zp_ltTl, zp_ltFl, zp_leTr, zp_leFr, zp_ltTr, zp_ltFr, zp_eqTr, zp_eqFr, zp_eqTl, zp_eqFl, zp_eqFll, eq_self, zp_addl, zp_addr, zp_mull, zp_mulr, zp_subr, zp_subl, nI_add, pk_mul]
    · show zi_run (d + 3) zm_X10_digest 33 [some (.inr (.inr (10, some 0))), some (.inr (.inl _)), none, some (.inl (nI K.2.1)), none] [] M = _
      rw [ze_X10_digest_33]
      simp (disch := omega) only [↓zp_dn, ↓zp_hV, ↓zp_hI, ↓zp_hL, ↓zp_hR, ↓zp_hX, zp_eV, zp_eI, zp_eL, zp_eR, zp_eX, zp_eXl, zp_iV, zp_iI, zp_iL, zp_iR, ↓zp_sm, ↓zp_nls, ↓zp_nln, zp_bo0, zp_bo1, zp_okE, zp_ok2E, zp_rfE, ↓reduceIte, if_true, if_false, zp_leT, zp_leF, zp_ltT, zp_ltF, zp_eqT, zp_eqF, zp_leTl, zp_leFl, zp_ltTl, zp_ltFl, zp_leTr, zp_leFr, zp_ltTr, zp_ltFr, zp_eqTr, zp_eqFr, zp_eqTl, zp_eqFl, zp_eqFll, eq_self, zp_addl, zp_addr, zp_mull, zp_mulr, zp_subr, zp_subl, nI_add, pk_mul, r3]
  have s4 : ∀ y, zi_run (d + 3) zm_X10_digest 90 [some (.inr (.inr (10, some 0))), some (.inr (.inl y)), none, some (.inl 0), none] [] M = zi_run (d + 3) zm_X10_digest 136 [some (.inr (.inr (10, some 0))), some (.inr (.inl (zh_it (zh_kr M) 3 0 y))), none, some (.inl 0), none] [] M := by
    intro y
    refine Eq.trans (zh_for (fun i y => zi_run (d + 3) zm_X10_digest 90 [some (.inr (.inr (10, some 0))), some (.inr (.inl y)), none, some (.inl (nI i)), none] [] M) (zh_kr M) 3 ?_ 3 0 y (by omega)) ?_
    · intro i y hi
      show zi_run (d + 3) zm_X10_digest 90 [some (.inr (.inr (10, some 0))), some (.inr (.inl y)), none, some (.inl (nI i)), none] [] M = _
      rw [ze_X10_digest_90]
      by_cases e : M.1 30 0 i = 0
      · simp (disch := omega) only [↓zp_dn, ↓zp_hV, ↓zp_hI, ↓zp_hL, ↓zp_hR, ↓zp_hX, zp_eV, zp_eI, zp_eL, zp_eR, zp_eX, zp_eXl, zp_iV, zp_iI, zp_iL, zp_iR, ↓zp_sm, ↓zp_nls, ↓zp_nln, zp_bo0, zp_bo1, zp_okE, zp_ok2E, zp_rfE, ↓reduceIte, if_true, if_false, zp_leT, zp_leF, zp_ltT, zp_ltF, zp_eqT, zp_eqF, zp_leTl, zp_leFl, zp_ltTl, zp_ltFl, zp_leTr, zp_leFr, zp_ltTr, zp_ltFr, zp_eqTr, zp_eqFr, zp_eqTl, zp_eqFl, zp_eqFll, eq_self, zp_addl, zp_addr, zp_mull, zp_mulr, zp_subr, zp_subl, nI_add, pk_mul, if_pos e, ze_X10_digest_125, zh_kr]
      · simp (disch := omega) only [↓zp_dn, ↓zp_hV, ↓zp_hI, ↓zp_hL, ↓zp_hR, ↓zp_hX, zp_eV, zp_eI, zp_eL, zp_eR, zp_eX, zp_eXl, zp_iV, zp_iI, zp_iL, zp_iR, ↓zp_sm, ↓zp_nls, ↓zp_nln, zp_bo0, zp_bo1, zp_okE, zp_ok2E, zp_rfE, ↓reduceIte, if_true, if_false, zp_leT, zp_leF, zp_ltT, zp_ltF, zp_eqT, zp_eqF, zp_leTl, zp_leFl, zp_ltTl, zp_ltFl, zp_leTr, zp_leFr, zp_ltTr, zp_ltFr, zp_eqTr, zp_eqFr, zp_eqTl, zp_eqFl, zp_eqFll, eq_self, zp_addl, zp_addr, zp_mull, zp_mulr, zp_subr, zp_subl, nI_add, pk_mul, if_neg e, ze_X10_digest_125, zh_kr]
    · show zi_run (d + 3) zm_X10_digest 90 [some (.inr (.inr (10, some 0))), some (.inr (.inl _)), none, some (.inl (nI 3)), none] [] M = _
      rw [ze_X10_digest_90]
      simp (disch := omega) only [↓zp_dn, ↓zp_hV, ↓zp_hI, ↓zp_hL, ↓zp_hR, ↓zp_hX, zp_eV, zp_eI, zp_eL, zp_eR, zp_eX, zp_eXl, zp_iV, zp_iI, zp_iL, zp_iR, ↓zp_sm, ↓zp_nls, ↓zp_nln, zp_bo0, zp_bo1, zp_okE, zp_ok2E, zp_rfE, ↓reduceIte, if_true, if_false, zp_leT, zp_leF, zp_ltT, zp_ltF, zp_eqT, zp_eqF, zp_leTl, zp_leFl, zp_ltTl, zp_ltFl, zp_leTr, zp_leFr, zp_ltTr, zp_ltFr, zp_eqTr, zp_eqFr, zp_eqTl, zp_eqFl, zp_eqFll, eq_self, zp_addl, zp_addr, zp_mull, zp_mulr, zp_subr, zp_subl, nI_add, pk_mul]
  have s5 : ∀ y, zi_run (d + 3) zm_X10_digest 136 [some (.inr (.inr (10, some 0))), some (.inr (.inl y)), none, some (.inl 0), none] [] M = zi_run (d + 3) zm_X10_digest 204 [some (.inr (.inr (10, some 0))), some (.inr (.inl (zh_it (zh_rr M) 6 0 y))), none, some (.inl 0), none] [] M := by
    intro y
    refine Eq.trans (zh_for (fun i y => zi_run (d + 3) zm_X10_digest 136 [some (.inr (.inr (10, some 0))), some (.inr (.inl y)), none, some (.inl (nI i)), none] [] M) (zh_rr M) 6 ?_ 6 0 y (by omega)) ?_
    · intro i y hi
      show zi_run (d + 3) zm_X10_digest 136 [some (.inr (.inr (10, some 0))), some (.inr (.inl y)), none, some (.inl (nI i)), none] [] M = _
      rw [ze_X10_digest_136]
      simp (disch := omega) only [↓zp_dn, ↓zp_hV, ↓zp_hI, ↓zp_hL, ↓zp_hR, ↓zp_hX, zp_eV, zp_eI, zp_eL, zp_eR, zp_eX, zp_eXl, zp_iV, zp_iI, zp_iL, zp_iR, ↓zp_sm, ↓zp_nls, ↓zp_nln, zp_bo0, zp_bo1, zp_okE, zp_ok2E, zp_rfE, ↓reduceIte, if_true, if_false, zp_leT, zp_leF, zp_ltT, zp_ltF, zp_eqT, zp_eqF, zp_leTl, zp_leFl, zp_ltTl, zp_ltFl, zp_leTr, zp_leFr, zp_ltTr, zp_ltFr, zp_eqTr, zp_eqFr, zp_eqTl, zp_eqFl, zp_eqFll, eq_self, zp_addl, zp_addr, zp_mull, zp_mulr, zp_subr, zp_subl, nI_add, pk_mul, zr_row2 _ hi (hI.1 i hi)]
    · show zi_run (d + 3) zm_X10_digest 136 [some (.inr (.inr (10, some 0))), some (.inr (.inl _)), none, some (.inl (nI 6)), none] [] M = _
      rw [ze_X10_digest_136]
      simp (disch := omega) only [↓zp_dn, ↓zp_hV, ↓zp_hI, ↓zp_hL, ↓zp_hR, ↓zp_hX, zp_eV, zp_eI, zp_eL, zp_eR, zp_eX, zp_eXl, zp_iV, zp_iI, zp_iL, zp_iR, ↓zp_sm, ↓zp_nls, ↓zp_nln, zp_bo0, zp_bo1, zp_okE, zp_ok2E, zp_rfE, ↓reduceIte, if_true, if_false, zp_leT, zp_leF, zp_ltT, zp_ltF, zp_eqT, zp_eqF, zp_leTl, zp_leFl, zp_ltTl, zp_ltFl, zp_leTr, zp_leFr, zp_ltTr, zp_ltFr, zp_eqTr, zp_eqFr, zp_eqTl, zp_eqFl, zp_eqFll, eq_self, zp_addl, zp_addr, zp_mull, zp_mulr, zp_subr, zp_subl, nI_add, pk_mul]
  have s6 : ∀ y, zi_run (d + 3) zm_X10_digest 204 [some (.inr (.inr (10, some 0))), some (.inr (.inl y)), none, some (.inl 0), none] [] M = some (some (.inr (.inl (zh_it (zh_tt M) 4 0 y))), M) := by
    intro y
    refine Eq.trans (zh_for (fun i y => zi_run (d + 3) zm_X10_digest 204 [some (.inr (.inr (10, some 0))), some (.inr (.inl y)), none, some (.inl (nI i)), none] [] M) (zh_tt M) 4 ?_ 4 0 y (by omega)) ?_
    · intro i y hi
      show zi_run (d + 3) zm_X10_digest 204 [some (.inr (.inr (10, some 0))), some (.inr (.inl y)), none, some (.inl (nI i)), none] [] M = _
      rw [ze_X10_digest_204]
      simp (disch := omega) only [↓zp_dn, ↓zp_hV, ↓zp_hI, ↓zp_hL, ↓zp_hR, ↓zp_hX, zp_eV, zp_eI, zp_eL, zp_eR, zp_eX, zp_eXl, zp_iV, zp_iI, zp_iL, zp_iR, ↓zp_sm, ↓zp_nls, ↓zp_nln, zp_bo0, zp_bo1, zp_okE, zp_ok2E, zp_rfE, ↓reduceIte, if_true, if_false, zp_leT, zp_leF, zp_ltT, zp_ltF, zp_eqT, zp_eqF, zp_leTl, zp_leFl, zp_ltTl, zp_ltFl, zp_leTr, zp_leFr, zp_ltTr, zp_ltFr, zp_eqTr, zp_eqFr, zp_eqTl, zp_eqFl, zp_eqFll, eq_self, zp_addl, zp_addr, zp_mull, zp_mulr, zp_subr, zp_subl, nI_add, pk_mul, zr_text2 _ hi (hI.2.1 i hi).1]
    · show zi_run (d + 3) zm_X10_digest 204 [some (.inr (.inr (10, some 0))), some (.inr (.inl _)), none, some (.inl (nI 4)), none] [] M = _
      rw [ze_X10_digest_204]
      simp (disch := omega) only [↓zp_dn, ↓zp_hV, ↓zp_hI, ↓zp_hL, ↓zp_hR, ↓zp_hX, zp_eV, zp_eI, zp_eL, zp_eR, zp_eX, zp_eXl, zp_iV, zp_iI, zp_iL, zp_iR, ↓zp_sm, ↓zp_nls, ↓zp_nln, zp_bo0, zp_bo1, zp_okE, zp_ok2E, zp_rfE, ↓reduceIte, if_true, if_false, zp_leT, zp_leF, zp_ltT, zp_ltF, zp_eqT, zp_eqF, zp_leTl, zp_leFl, zp_ltTl, zp_ltFl, zp_leTr, zp_leFr, zp_ltTr, zp_ltFr, zp_eqTr, zp_eqFr, zp_eqTl, zp_eqFl, zp_eqFll, eq_self, zp_addl, zp_addr, zp_mull, zp_mulr, zp_subr, zp_subl, nI_add, pk_mul]
  rw [s1, s2, s4, s5, s6]; rfl
theorem zo_digest (d : Nat) {n : Nat} {xs : Nat → Int32} {M : zi_M} (hI : zq_inv n xs M) : zp_ok (zi_run (d + 5) zm_X9_digest 0 [some (.inr (.inr (9, some 0))), none, none, none, none, none] [] M) (zp_rf (d + 5) zm_X10_digest [some (.inr (.inr (10, some 0))), none, none, none, none]) (zq_inv n xs) := by
  obtain ⟨A, K, hS⟩ := hI.2.2.2.2.1
  rw [zc_digest (d + 2) hI hS, zp_okE, zp_rfE, zr_digest (d + 2) hI hS, zp_ok2E]
  exact ⟨rfl, hI⟩
