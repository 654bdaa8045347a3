/-! THE PURE PART: Euclid; frames of the calls on WAYS; ways, soonest, lightest, nth -/
theorem zt_half {b r : Nat} (hr : 0 < r) (hb : r ≤ b) : 2 * (b % r) < b := by
  have h1 := Nat.mod_lt b hr
  have h2 := Nat.div_add_mod b r
  have h3 : 1 ≤ b / r := Nat.div_pos hb hr
  have h4 : r * 1 ≤ r * (b / r) := Nat.mul_le_mul_left r h3
  omega
theorem zt_gcd (a b : Nat) : Nat.gcd a b = Nat.gcd b (a % b) := by
  rw [Nat.gcd_comm a b, Nat.gcd_rec b a, Nat.gcd_comm]
theorem zc_tellS (d : Nat) (M : zi_M) (y1 y3 : Int64) {a b n : Nat} (hn : n < 100) (h0 : 0 < b) (ha : a < 2 ^ 62) (hb : b < 2 ^ 62) : zi_run d zm_X9_tell 9 [some (.inr (.inr (9, some 0))), some (.inr (.inl y1)), none, some (.inr (.inl y3)), none, some (.inr (.inl (lN a))), none, some (.inr (.inl (lN b))), none, some (.inl (nI n)), none, none] [] M = zi_run d zm_X9_tell 9 [some (.inr (.inr (9, some 0))), some (.inr (.inl y1)), none, some (.inr (.inl y3)), none, some (.inr (.inl (lN b))), none, some (.inr (.inl (lN (a % b)))), none, some (.inl (nI (n + 1))), none, none] [] M := by
  have e : ¬ lN b = 0 := fun h => by have := (pk_lEQ (a := b) (b := 0) (by omega) (by omega)).mp h; omega
  have e2 : lN a - lN a / lN b * lN b = lN (a % b) := pk_lRem (by omega) h0 (by omega)
  rw [ze_X9_tell_9]
  simp (disch := omega) only [↓zp_dn, ↓zp_hV, ↓zp_hI, ↓zp_hL, ↓zp_hR, ↓zp_hX, zp_eV, zp_eI, zp_eL, zp_eR, zp_eX, zp_eXl, zp_iV, zp_iI, zp_iL, zp_iR, ↓zp_sm, ↓zp_nls, ↓zp_nln, zp_bo0, zp_bo1, zp_okE, zp_ok2E, zp_rfE, ↓reduceIte, if_true, if_false, zp_leT, zp_leF, zp_ltT, zp_ltF, zp_eqT, zp_eqF, zp_leTl, zp_leFl, zp_ltTl, zp_ltFl, zp_leTr, zp_leFr, zp_ltTr, zp_ltFr, zp_eqTr, zp_eqFr, zp_eqTl, zp_eqFl, zp_eqFll, eq_self, zp_addl, zp_addr, zp_mull, zp_mulr, zp_subr, zp_subl, nI_add, pk_mul, zp_cmp4, if_neg e, e2]
theorem zc_telln (d : Nat) (M : zi_M) (y1 y3 : Int64) {a n : Nat} : zi_run d zm_X9_tell 9 [some (.inr (.inr (9, some 0))), some (.inr (.inl y1)), none, some (.inr (.inl y3)), none, some (.inr (.inl (lN a))), none, some (.inr (.inl (lN 0))), none, some (.inl (nI n)), none, none] [] M = zi_run d zm_X9_tell 44 [some (.inr (.inr (9, some 0))), some (.inr (.inl y1)), none, some (.inr (.inl y3)), none, some (.inr (.inl (lN a))), none, none, none, none, none, none] [] M := by
  have e : lg_cmp (lN 0) 0 = 0 := by rw [zp_cmp4]; rfl
  rw [ze_X9_tell_9, if_pos e]; split <;> rfl
theorem zc_tellE (d : Nat) (M : zi_M) (y1 y3 : Int64) : ∀ (k a b n : Nat), b < 2 ^ k → k ≤ 40 → n + 2 * k < 100 → a < 2 ^ 62 → zi_run d zm_X9_tell 9 [some (.inr (.inr (9, some 0))), some (.inr (.inl y1)), none, some (.inr (.inl y3)), none, some (.inr (.inl (lN a))), none, some (.inr (.inl (lN b))), none, some (.inl (nI n)), none, none] [] M = zi_run d zm_X9_tell 44 [some (.inr (.inr (9, some 0))), some (.inr (.inl y1)), none, some (.inr (.inl y3)), none, some (.inr (.inl (lN (Nat.gcd a b)))), none, none, none, none, none, none] [] M := by
  intro k
  induction k with
  | zero =>
    intro a b n hb _ hn ha
    have e : b = 0 := by simpa using hb
    subst e
    rw [zc_telln, Nat.gcd_zero_right]
  | succ k ih =>
    intro a b n hb hk hn ha
    have hp : 2 ^ (k + 1) ≤ 2 ^ 41 := Nat.pow_le_pow_right (by decide) (by omega)
    rcases Nat.eq_zero_or_pos b with e | e
    · subst e; rw [zc_telln, Nat.gcd_zero_right]
    · rw [zc_tellS d M y1 y3 (by omega) e ha (by omega), zt_gcd]
      have hr := Nat.mod_lt a e
      rcases Nat.eq_zero_or_pos (a % b) with e2 | e2
      · rw [e2, zc_telln, Nat.gcd_zero_right]
      · have hh := zt_half e2 (show a % b ≤ b from by omega)
        rw [zc_tellS d M y1 y3 (by omega) e2 (by omega) (by omega), zt_gcd b (a % b)]
        exact ih (a % b) (b % (a % b)) (n + 1 + 1) (by rw [Nat.pow_succ] at hb; omega) (by omega) (by omega) (by omega)
theorem zc_tellG (d : Nat) (M : zi_M) {u l : Nat} (hu : u < 2 ^ 62) (h0 : 0 < l) (hl : l < 2 ^ 40) : zi_run d zm_X9_tell 0 [some (.inr (.inr (9, some 0))), some (.inr (.inl (lN u))), none, some (.inr (.inl (lN l))), none, none, none, none, none, none, none, none] [] M = some (none, zi_sL (zi_sL M 9 0 14 (lN (u / Nat.gcd u l))) 9 0 15 (lN (l / Nat.gcd u l))) := by
  have hg : 0 < Nat.gcd u l := Nat.gcd_pos_of_pos_right u h0
  have hgl : Nat.gcd u l ≤ l := Nat.gcd_le_right u h0
  have e : ¬ lN (Nat.gcd u l) = 0 := fun h => by have := (pk_lEQ (a := Nat.gcd u l) (b := 0) (by omega) (by omega)).mp h; omega
  have e2 : 0 < lN (Nat.gcd u l) := (pk_lLT (a := 0) (b := Nat.gcd u l) (by omega) (by omega)).mpr hg
  rw [ze_X9_tell_0]
  refine (zc_tellE d M (lN u) (lN l) 40 u l 0 hl (by omega) (by omega) hu).trans ?_
  have e3 : 0 < lg_cmp (lN (Nat.gcd u l)) 0 := by rw [zp_cmp2]; exact e2
  rw [ze_X9_tell_44, if_pos e3, ze_X9_tell_54, if_neg e, if_neg e, pk_lDiv (by omega) hg (by omega), pk_lDiv (by omega) hg (by omega)]
theorem zr_divisor (d : Nat) (M : zi_M) : ∀ (b a : Nat), a < 2 ^ 62 → b < 2 ^ 62 → zi_run d zm_X10_divisor 6 [none, none, none, none, some (.inr (.inl (lN a))), none, some (.inr (.inl (lN b))), none, none, none] [] M = some (some (.inr (.inl (lN (Nat.gcd a b)))), M) := by
  intro b
  induction b using Nat.strongRecOn with
  | _ b ih =>
    intro a ha hb
    rcases Nat.eq_zero_or_pos b with e | e
    · subst e
      have e : lg_cmp (lN 0) 0 = 0 := by rw [zp_cmp4]; rfl
      rw [ze_X10_divisor_6, if_pos e, Nat.gcd_zero_right]
    · have hr := Nat.mod_lt a e
      have e1 : ¬ lN b = 0 := fun h => by have := (pk_lEQ (a := b) (b := 0) (by omega) (by omega)).mp h; omega
      have e0 : ¬ lg_cmp (lN b) 0 = 0 := by rw [zp_cmp4]; exact e1
      rw [ze_X10_divisor_6, if_neg e0, if_neg e1, pk_lRem (by omega) e (by omega), zt_gcd]
      exact ih (a % b) hr b hb (by omega)
theorem zc_tell1n (d : Nat) (M : zi_M) {n : Nat} (hn : n < 2 ^ 31) : zi_run d zm_X9_tell 0 [some (.inr (.inr (9, some 0))), some (.inr (.inl (Int32.toInt64 (nI n)))), none, some (.inr (.inl 1)), none, none, none, none, none, none, none, none] [] M = some (none, zi_sL (zi_sL M 9 0 14 (lN n)) 9 0 15 1) := by
  rw [nI_l hn]
  have := zc_tellG d M (u := n) (l := 1) (by omega) (by decide) (by decide)
  rw [Nat.gcd_one_right, Nat.div_one] at this
  exact this
/-- kinds that the walker reads -/
theorem zf_cE_ag {M M' : zi_M} {E : zf_E} (e : ∀ c k j, c = 0 ∨ c = 2 ∨ c = 7 ∨ c = 8 ∨ c = 11 ∨ c = 17 → M'.1 c k j = M.1 c k j) (hE : zf_cE M E) : zf_cE M' E := by
  obtain ⟨⟨e1, e2, e3⟩, f1, f2, f3, f4⟩ := hE
  exact ⟨⟨by rw [e 0 0 1 (by omega), e1], by rw [e 0 0 2 (by omega), e2], fun x y hx hy => by rw [e 11 _ _ (by omega)]; exact e3 x y hx hy⟩, by rw [e 2 0 1 (by omega), f1], by rw [e 2 0 2 (by omega), f2], by rw [e 2 0 3 (by omega), f3], by rw [e 2 0 4 (by omega), f4]⟩
theorem zw_I_ag {M M' : zi_M} {E : zf_E} {s0 : zf_S} {ws : List zw_w} (e : ∀ c k j, c = 0 ∨ c = 2 ∨ c = 7 ∨ c = 8 ∨ c = 11 ∨ c = 17 → M'.1 c k j = M.1 c k j) (h : zw_I M E s0 ws) : zw_I M' E s0 ws := by
  have e7 : ∀ k, M'.1 7 k = M.1 7 k := fun k => funext fun j => e 7 k j (by omega)
  have e8 : ∀ j, M'.1 8 0 j = M.1 8 0 j := fun j => e 8 0 j (by omega)
  have e17 : ∀ j, M'.1 17 0 j = M.1 17 0 j := fun j => e 17 0 j (by omega)
  obtain ⟨a1, a2, a3, a4, a5, a6⟩ := h
  refine ⟨a1, zf_cE_ag e a2, by rw [e7]; exact a3, a4, a5, ?_⟩
  rcases a6 with ⟨b1, b2, b3, b4⟩ | ⟨b1, m, sp, nb, ⟨c1, c2, c3, c4⟩, b3, b4, b5⟩
  · exact Or.inl ⟨by rw [e8, b1], by rw [e8, b2], by rw [e17, b3], b4⟩
  · refine Or.inr ⟨by rw [e8, b1], m, sp, nb, ⟨zf_cE_ag e c1, by rw [e8, c2], c3, fun j hj => ?_⟩, b3, b4, b5⟩
    rw [e7, e17]; exact c4 j hj
theorem zw_I_wr {M : zi_M} {E : zf_E} {s0 : zf_S} {ws : List zw_w} (h : zw_I M E s0 ws) (r : Nat) (w : zw_w) : zw_I (zw_wrC M r w) E s0 ws := zw_I_ag (fun c k j hc => by
  rw [zw_wrC, zp_w1, if_neg (by omega), zp_sI1, if_neg (by omega)]) h
/-- the start of a walk -/
theorem zc_start (d : Nat) {M : zi_M} {E : zf_E} (hA : zf_okE E.1) (hE : zf_cE M E) {k1 : Nat} {s : zf_S} (hs : zf_is (M.1 7 k1) s) (hc : s.1 < E.1.1) (hh : s.2.1 < E.1.2.1) : ∃ M', zi_run (d + 1) zm_X8_start 0 [some (.inr (.inr (8, some 0))), some (.inr (.inr (7, some k1)))] [] M = some (none, M') ∧ zw_fr M M' ∧ zw_I M' E s (zw_ways E 6 s) := by
  have f : zw_fr M (zi_sI (zi_sI (zi_sI (zp_sp M 20 s) 17 0 0 (-1)) 8 0 3 0) 8 0 4 1) := zw_fr_8 (zw_fr_8 (zw_fr_17 (zw_fr_sp (zw_fr_rfl M) (by omega) (by omega) s) _ _) _ _) _ _
  refine ⟨_, ?_, f, hA, zf_cE_fr f hE, ?_, hc, hh, Or.inl ⟨by simp [zp_sI1], by simp [zp_sI1], by simp [zp_sI1], rfl⟩⟩
  · rw [ze_X8_start_0]
    simp (disch := omega) only [↓zp_dn, ↓zp_hV, ↓zp_hI, ↓zp_hL, ↓zp_hR, ↓zp_hX, zp_eV, zp_eI, zp_eL, zp_eR, zp_eX, zp_eXl, zp_iV, zp_iI, zp_iL, zp_iR, ↓zp_sm, ↓zp_nls, ↓zp_nln, zp_bo0, zp_bo1, zp_okE, zp_ok2E, zp_rfE, ↓reduceIte, if_true, if_false, zp_leT, zp_leF, zp_ltT, zp_ltF, zp_eqT, zp_eqF, zp_leTl, zp_leFl, zp_ltTl, zp_ltFl, zp_leTr, zp_leFr, zp_ltTr, zp_ltFr, zp_eqTr, zp_eqFr, zp_eqTl, zp_eqFl, zp_eqFll, eq_self, zp_addl, zp_addr, zp_mull, zp_mulr, zp_subr, zp_subl, nI_add, pk_mul, zc_take _ M (20 + 0) k1 hs]
  · have := zp_sp_is M 20 s
    simpa [zf_is, zp_sI1] using this
theorem zc_setOut (d : Nat) {M : zi_M} {A : zf_A} {K : zf_K} (hS : zq_sky M A K) {i : Nat} (hi : i < K.2.1) : ∃ M', zi_run (d + 2) zm_X9_setOut 0 [some (.inr (.inr (9, some 0))), some (.inr (.inr (1, some i)))] [] M = some (none, M') ∧ zq_nb M M' ∧ M'.2 = M.2 ∧ zw_I M' (zf_en A K i) (zf_sp K i) (zw_ways (zf_en A K i) 6 (zf_sp K i)) := by
  obtain ⟨hE, hok, hsp⟩ := zq_fl hS hi
  have k0 : M.1 6 0 5 = K.1 := hS.2.2.2.1.1
  have hs : zf_is ((zp_bd M (zf_en A K i)).1 7 i) (zf_sp K i) := by
    have e : (zp_bd M (zf_en A K i)).1 7 i = M.1 7 i := funext fun j => zp_bd1 M _ (by decide) i j
    rw [e]; exact hsp
  obtain ⟨M', e1, e2, e3⟩ := zc_start d (E := zf_en A K i) hE (zp_bd_E hS.2.2.1) hs hok.1 hok.2.1
  refine ⟨M', ?_, zq_nb_tr (zq_nb_bd (zq_nb_rfl M) _) (zw_fr_nb e2), e2.1.trans (zp_bd2 M _), e3⟩
  rw [ze_X9_setOut_0]
  simp only [↓zp_dn, ↓zp_hV, ↓zp_hI, ↓zp_hL, ↓zp_hR, ↓zp_hX, zp_eV, zp_eI, zp_eL, zp_eR, zp_eX, zp_eXl, zp_iV, zp_iI, zp_iL, zp_iR, ↓zp_sm, ↓zp_nls, ↓zp_nln, zp_bo0, zp_bo1, zp_okE, zp_ok2E, zp_rfE, ↓reduceIte, if_true, if_false, k0, zc_board _ hS hi, e1]
theorem zw_go_mem {E : zf_E} {s : zf_S} {c : Nat} {w : zw_w} (h : zw_go E 6 s c = some w) (hc : c < 729) : w ∈ zw_ways E 6 s := by
  rw [← zw_go_ways]
  have e : (3 ^ 6 : Nat) = c + ((728 - c) + 1) := by omega
  rw [e, zw_lst_add, Nat.zero_add, zw_lst_s h]
  simp
theorem zw_go_ok {E : zf_E} {s : zf_S} {c : Nat} {w : zw_w} (h : zw_go E 6 s c = some w) (hc : c < 729) : zw_ok E s w := zw_ways_ok E 6 s w (zw_go_mem h hc)
/-- takes, goes -/
theorem zr_tg (d : Nat) {M : zi_M} {A : zf_A} {K : zf_K} (hE : zf_okE A) (hRA : zf_rA (M.1 28 0) A) (hR : zf_rK (M.1 28 0) K) {i : Nat} (hi : i < K.2.1) (h4 : K.2.1 ≤ 4) (hok : zf_okS A (zf_sp K i)) {code : Nat} (hc : code < 729) : ∃ M1 M', (∀ e, zi_run e zm_X10_takes 0 [some (.inr (.inr (10, some 0))), some (.inl (nI i)), none] [] M = some (none, M1)) ∧ zi_run (d + 4) zm_X10_goes 0 [some (.inr (.inr (10, some 0))), some (.inl (nI code)), none, none, none, none] [] M1 = some (some (.inl (zw_b1 (zw_go (zf_en A K i) 6 (zf_sp K i) code).isSome)), M') ∧ zq_nb M M' ∧ M'.2 = M.2 ∧ ∀ w, zw_go (zf_en A K i) 6 (zf_sp K i) code = some w → zw_res M' (zf_en A K i) (zf_sp K i) w := by
  obtain ⟨M', e1, e2, e3⟩ := zr_goes d (E := zf_en A K i) hE (M := zp_rt M (zf_en A K i) (zf_sp K i)) (zp_rt_E (E := zf_en A K i) hRA _) (zp_rt_is M (zf_en A K i) (zf_sp K i)) hok.1 hok.2.1 hc
  exact ⟨_, M', fun e => zr_takes e hR hi h4, e1, zq_nb_tr (zq_nb_rt (zq_nb_rfl M) _ _) (zw_rf_nb e2), e2.1.trans (zp_rt2 M _ _), e3⟩
theorem zq_nb_28 {M M' : zi_M} (h : zq_nb M M') : M'.1 28 0 = M.1 28 0 := funext fun j => h 28 0 j (by simp [zq_gp])
theorem zq_nr_28 {r : Nat} {M M' : zi_M} (h : zq_nr r M M') : M'.1 28 0 = M.1 28 0 := funext fun j => h 28 0 j (by simp [zq_gp]) (by omega) (by omega) (by omega) (by omega)
/-- what holds in a loop that writes row r, in the class, in the reference -/
def zw_LC (M0 M : zi_M) (r : Nat) (acc : Option zw_w) : Prop := zq_nr r M0 M ∧ M.2 = M0.2 ∧ zw_rC M0 M r acc ∧ (M.1 24 0 r = M0.1 24 0 r ∧ ∀ j, j < 40 → M.1 25 0 (40 * r + j) = M0.1 25 0 (40 * r + j))
def zw_LR (M0 M : zi_M) (r : Nat) (acc : Option zw_w) : Prop := zq_nr r M0 M ∧ M.2 = M0.2 ∧ zw_rR M0 M r acc ∧ ∀ j, M.1 5 r 1 = M0.1 5 r 1 ∧ M.1 12 r j = M0.1 12 r j
theorem zw_LC_nb {M0 M M' : zi_M} {r : Nat} {acc : Option zw_w} (hr : r < 6) (h : zq_nb M M') (h2 : M'.2 = M.2) (hL : zw_LC M0 M r acc) : zw_LC M0 M' r acc := by
  obtain ⟨a, b, c, e1, e2⟩ := hL
  have q5 : M'.1 5 r 1 = M.1 5 r 1 := h 5 r 1 (by simp [zq_gp, hr])
  have q12 : ∀ j, M'.1 12 r j = M.1 12 r j := fun j => h 12 r j (by simp [zq_gp, hr])
  have q24 : M'.1 24 0 r = M.1 24 0 r := h 24 0 r (by simp [zq_gp])
  have q25 : ∀ j, M'.1 25 0 j = M.1 25 0 j := fun j => h 25 0 j (by simp [zq_gp])
  refine ⟨zq_nr_tr a (zq_nb_nr h), h2.trans b, ?_, by rw [q24, e1], fun j hj => by rw [q25, e2 j hj]⟩
  cases acc with
  | none => exact ⟨by rw [q5]; exact c.1, fun j => by rw [q12]; exact c.2 j⟩
  | some w => exact ⟨by rw [q5]; exact c.1, fun j q hq => by rw [q12]; exact c.2 j q hq⟩
theorem zw_LR_nb {M0 M M' : zi_M} {r : Nat} {acc : Option zw_w} (hr : r < 6) (h : zq_nb M M') (h2 : M'.2 = M.2) (hL : zw_LR M0 M r acc) : zw_LR M0 M' r acc := by
  obtain ⟨a, b, c, e⟩ := hL
  have q5 : M'.1 5 r 1 = M.1 5 r 1 := h 5 r 1 (by simp [zq_gp, hr])
  have q12 : ∀ j, M'.1 12 r j = M.1 12 r j := fun j => h 12 r j (by simp [zq_gp, hr])
  have q24 : M'.1 24 0 r = M.1 24 0 r := h 24 0 r (by simp [zq_gp])
  have q25 : ∀ j, M'.1 25 0 j = M.1 25 0 j := fun j => h 25 0 j (by simp [zq_gp])
  refine ⟨zq_nr_tr a (zq_nb_nr h), h2.trans b, ?_, fun j => ⟨by rw [q5, (e j).1], by rw [q12, (e j).2]⟩⟩
  cases acc with
  | none => exact ⟨by rw [q24]; exact c.1, fun j hj => by rw [q25]; exact c.2 j hj⟩
  | some w => exact ⟨by rw [q24]; exact c.1, fun j q hq => by rw [q25]; exact c.2 j q hq⟩
theorem zw_LC_w {M0 M : zi_M} {r : Nat} {acc : Option zw_w} {s0 : zf_S} {w : zw_w} (hr : r < 6) (hc : zw_cur M s0 w) (hL : zw_LC M0 M r acc) : zw_LC M0 (zw_wrC M r w) r (some w) := by
  obtain ⟨a, b, c, e1, e2⟩ := hL
  refine ⟨zq_nr_tr a (zq_nr_C M hr w), b, zw_rC_w hc, ?_, fun j hj => ?_⟩
  · simp only [zw_wrC, zp_w1, zp_sI1, Nat.reduceEqDiff, Nat.reduceLT, Nat.reduceLeDiff, Nat.reduceAdd, Nat.reduceMul, Nat.reduceSub, reduceCtorEq, Int32.reduceLT, Int32.reduceLE, not_true_eq_false, not_false_eq_true, and_true, true_and, and_false, false_and, or_true, true_or, or_false, false_or, ↓reduceIte]; exact e1
  · simp only [zw_wrC, zp_w1, zp_sI1, Nat.reduceEqDiff, Nat.reduceLT, Nat.reduceLeDiff, Nat.reduceAdd, Nat.reduceMul, Nat.reduceSub, reduceCtorEq, Int32.reduceLT, Int32.reduceLE, not_true_eq_false, not_false_eq_true, and_true, true_and, and_false, false_and, or_true, true_or, or_false, false_or, ↓reduceIte]; exact e2 j hj
theorem zw_LR_w {M0 M : zi_M} {r : Nat} {acc : Option zw_w} {E : zf_E} {s0 : zf_S} {w : zw_w} (hc : zw_res M E s0 w) (hL : zw_LR M0 M r acc) : zw_LR M0 (zw_wrR M r w) r (some w) := by
  obtain ⟨a, b, c, e⟩ := hL
  refine ⟨zq_nr_tr a (zq_nr_R M hc.2.2.1), b, zw_rR_w hc, fun j => ⟨?_, ?_⟩⟩
  · simp only [zw_wrR, zp_l1, zp_sI1, Nat.reduceEqDiff, Nat.reduceLT, Nat.reduceLeDiff, Nat.reduceAdd, Nat.reduceMul, Nat.reduceSub, reduceCtorEq, Int32.reduceLT, Int32.reduceLE, not_true_eq_false, not_false_eq_true, and_true, true_and, and_false, false_and, or_true, true_or, or_false, false_or, ↓reduceIte]; exact (e j).1
  · simp only [zw_wrR, zp_l1, zp_sI1, Nat.reduceEqDiff, Nat.reduceLT, Nat.reduceLeDiff, Nat.reduceAdd, Nat.reduceMul, Nat.reduceSub, reduceCtorEq, Int32.reduceLT, Int32.reduceLE, not_true_eq_false, not_false_eq_true, and_true, true_and, and_false, false_and, or_true, true_or, or_false, false_or, ↓reduceIte]; exact (e j).2
theorem zw_LC_0 (M : zi_M) (r : Nat) : zw_LC M M r none := ⟨zq_nr_rfl r M, rfl, ⟨rfl, fun _ => rfl⟩, rfl, fun _ _ => rfl⟩
theorem zw_LR_0 (M : zi_M) (r : Nat) : zw_LR M M r none := ⟨zq_nr_rfl r M, rfl, ⟨rfl, fun _ _ => rfl⟩, fun _ => ⟨rfl, rfl⟩⟩
theorem zw_L_inv {n : Nat} {xs : Nat → Int32} {M M1 M2 : zi_M} {r : Nat} {acc : Option zw_w} (hI : zq_inv n xs M) (hr : r < 6) (hw : ∀ w, acc = some w → w.length ≤ 40) (h1 : zw_LC M M1 r acc) (h2 : zw_LR M1 M2 r acc) : zq_inv n xs M2 := zw_rows hI hr hw h1.1 h2.1 h1.2.2.1 h2.2.2.2 h1.2.2.2 h2.2.2.1 (h2.2.1.trans h1.2.1)
/-- ways -/
theorem zc_waysL (d : Nat) {E : zf_E} {s0 : zf_S} : ∀ (ws : List zw_w) (n : Nat) (M : zi_M), zw_I M E s0 ws → n + ws.length ≤ 729 → ∃ M', zi_run (d + 4) zm_X9_ways 35 [some (.inr (.inr (9, some 0))), none, none, some (.inl (nI n))] [] M = zi_run (d + 4) zm_X9_ways 58 [some (.inr (.inr (9, some 0))), none, none, some (.inl (nI (n + ws.length)))] [] M' ∧ zw_fr M M' := by
  intro ws
  induction ws with
  | nil =>
    intro n M h hn
    by_cases h9 : n = 729
    · subst h9
      refine ⟨M, ?_, zw_fr_rfl M⟩
      rw [ze_X9_ways_35]
      simp (disch := omega) only [↓zp_dn, ↓zp_hV, ↓zp_hI, ↓zp_hL, ↓zp_hR, ↓zp_hX, zp_eV, zp_eI, zp_eL, zp_eR, zp_eX, zp_eXl, zp_iV, zp_iI, zp_iL, zp_iR, ↓zp_sm, ↓zp_nls, ↓zp_nln, zp_bo0, zp_bo1, zp_okE, zp_ok2E, zp_rfE, ↓reduceIte, if_true, if_false, zp_leT, zp_leF, zp_ltT, zp_ltF, zp_eqT, zp_eqF, zp_leTl, zp_leFl, zp_ltTl, zp_ltFl, zp_leTr, zp_leFr, zp_ltTr, zp_ltFr, zp_eqTr, zp_eqFr, zp_eqTl, zp_eqFl, zp_eqFll, eq_self, zp_addl, zp_addr, zp_mull, zp_mulr, zp_subr, zp_subl, nI_add, pk_mul, List.length_nil, Nat.add_zero]
    · obtain ⟨M', e1, e2⟩ := zw_next d h
      refine ⟨M', ?_, e2⟩
      simp only [List.length_nil, Nat.add_zero] at hn ⊢
      rw [ze_X9_ways_35]
      simp (disch := omega) only [↓zp_dn, ↓zp_hV, ↓zp_hI, ↓zp_hL, ↓zp_hR, ↓zp_hX, zp_eV, zp_eI, zp_eL, zp_eR, zp_eX, zp_eXl, zp_iV, zp_iI, zp_iL, zp_iR, ↓zp_sm, ↓zp_nls, ↓zp_nln, zp_bo0, zp_bo1, zp_okE, zp_ok2E, zp_rfE, ↓reduceIte, if_true, if_false, zp_leT, zp_leF, zp_ltT, zp_ltF, zp_eqT, zp_eqF, zp_leTl, zp_leFl, zp_ltTl, zp_ltFl, zp_leTr, zp_leFr, zp_ltTr, zp_ltFr, zp_eqTr, zp_eqFr, zp_eqTl, zp_eqFl, zp_eqFll, eq_self, zp_addl, zp_addr, zp_mull, zp_mulr, zp_subr, zp_subl, nI_add, pk_mul, e1]
  | cons w ws ih =>
    intro n M h hn
    simp only [List.length_cons] at hn ⊢
    obtain ⟨M1, e1, e2, e3, e4⟩ := zw_next d h
    obtain ⟨M', e5, e6⟩ := ih (n + 1) M1 e3 (by omega)
    refine ⟨M', ?_, zw_fr_tr e2 e6⟩
    rw [ze_X9_ways_35]
    simp (disch := omega) only [↓zp_dn, ↓zp_hV, ↓zp_hI, ↓zp_hL, ↓zp_hR, ↓zp_hX, zp_eV, zp_eI, zp_eL, zp_eR, zp_eX, zp_eXl, zp_iV, zp_iI, zp_iL, zp_iR, ↓zp_sm, ↓zp_nls, ↓zp_nln, zp_bo0, zp_bo1, zp_okE, zp_ok2E, zp_rfE, ↓reduceIte, if_true, if_false, zp_leT, zp_leF, zp_ltT, zp_ltF, zp_eqT, zp_eqF, zp_leTl, zp_leFl, zp_ltTl, zp_ltFl, zp_leTr, zp_leFr, zp_ltTr, zp_ltFr, zp_eqTr, zp_eqFr, zp_eqTl, zp_eqFl, zp_eqFll, eq_self, zp_addl, zp_addr, zp_mull, zp_mulr, zp_subr, zp_subl, nI_add, pk_mul, e1]
    rw [e5, show n + 1 + ws.length = n + (ws.length + 1) from by omega]
theorem zr_waysL (d : Nat) {M0 : zi_M} {A : zf_A} {K : zf_K} (hE : zf_okE A) (hRA : zf_rA (M0.1 28 0) A) (hR : zf_rK (M0.1 28 0) K) {i : Nat} (hi : i < K.2.1) (h4 : K.2.1 ≤ 4) (hok : zf_okS A (zf_sp K i)) : ∀ (k code n : Nat) (M : zi_M), code + k = 729 → n ≤ code → zq_nb M0 M → M.2 = M0.2 → ∃ M', zi_run (d + 5) zm_X10_ways 26 [some (.inr (.inr (10, some 0))), some (.inl (nI i)), some (.inr (.inl (lN n))), none, some (.inl (nI code))] [] M = some (some (.inl 1), zi_sL (zi_sL M' 10 0 10 (lN (n + (zw_lst (zw_go (zf_en A K i) 6 (zf_sp K i)) code k).length))) 10 0 11 1) ∧ zq_nb M0 M' ∧ M'.2 = M0.2 := by
  intro k
  induction k with
  | zero =>
    intro code n M hc _ hb h2
    refine ⟨M, ?_, hb, h2⟩
    rw [ze_X10_ways_26]
    simp (disch := omega) only [↓zp_dn, ↓zp_hV, ↓zp_hI, ↓zp_hL, ↓zp_hR, ↓zp_hX, zp_eV, zp_eI, zp_eL, zp_eR, zp_eX, zp_eXl, zp_iV, zp_iI, zp_iL, zp_iR, ↓zp_sm, ↓zp_nls, ↓zp_nln, zp_bo0, zp_bo1, zp_okE, zp_ok2E, zp_rfE, ↓reduceIte, if_true, if_false, zp_leT, zp_leF, zp_ltT, zp_ltF, zp_eqT, zp_eqF, zp_leTl, zp_leFl, zp_ltTl, zp_ltFl, zp_leTr, zp_leFr, zp_ltTr, zp_ltFr, zp_eqTr, zp_eqFr, zp_eqTl, zp_eqFl, zp_eqFll, eq_self, zp_addl, zp_addr, zp_mull, zp_mulr, zp_subr, zp_subl, nI_add, pk_mul, zw_lst, List.length_nil, Nat.add_zero]
  | succ k ih =>
    intro code n M hc hn hb h2
    have e28 := zq_nb_28 hb
    obtain ⟨M1, M', t1, t2, t3, t4, t5⟩ := zr_tg d (M := M) hE (by rw [e28]; exact hRA) (by rw [e28]; exact hR) hi h4 hok (code := code) (by omega)
    cases e : zw_go (zf_en A K i) 6 (zf_sp K i) code with
    | none =>
      rw [e] at t2
      obtain ⟨M'', e5, e6⟩ := ih (code + 1) n M' (by omega) (by omega) (zq_nb_tr hb t3) (t4.trans h2)
      refine ⟨M'', ?_, e6⟩
      rw [ze_X10_ways_26, zw_lst_n e]
      simp (disch := omega) only [↓zp_dn, ↓zp_hV, ↓zp_hI, ↓zp_hL, ↓zp_hR, ↓zp_hX, zp_eV, zp_eI, zp_eL, zp_eR, zp_eX, zp_eXl, zp_iV, zp_iI, zp_iL, zp_iR, ↓zp_sm, ↓zp_nls, ↓zp_nln, zp_bo0, zp_bo1, zp_okE, zp_ok2E, zp_rfE, ↓reduceIte, if_true, if_false, zp_leT, zp_leF, zp_ltT, zp_ltF, zp_eqT, zp_eqF, zp_leTl, zp_leFl, zp_ltTl, zp_ltFl, zp_leTr, zp_leFr, zp_ltTr, zp_ltFr, zp_eqTr, zp_eqFr, zp_eqTl, zp_eqFl, zp_eqFll, eq_self, zp_addl, zp_addr, zp_mull, zp_mulr, zp_subr, zp_subl, nI_add, pk_mul, t1, t2, Option.isSome, zw_b1F, ze_X10_ways_54]
      rw [show (0 : Int64) = lN 0 from rfl, lN_add]; exact e5
    | some w =>
      rw [e] at t2
      obtain ⟨M'', e5, e6⟩ := ih (code + 1) (n + 1) M' (by omega) (by omega) (zq_nb_tr hb t3) (t4.trans h2)
      refine ⟨M'', ?_, e6⟩
      have n1 : ¬ (1 : Int32) = 0 := by decide
      rw [ze_X10_ways_26, zw_lst_s e]
      simp (disch := omega) only [↓zp_dn, ↓zp_hV, ↓zp_hI, ↓zp_hL, ↓zp_hR, ↓zp_hX, zp_eV, zp_eI, zp_eL, zp_eR, zp_eX, zp_eXl, zp_iV, zp_iI, zp_iL, zp_iR, ↓zp_sm, ↓zp_nls, ↓zp_nln, zp_bo0, zp_bo1, zp_okE, zp_ok2E, zp_rfE, ↓reduceIte, if_true, if_false, zp_leT, zp_leF, zp_ltT, zp_ltF, zp_eqT, zp_eqF, zp_leTl, zp_leFl, zp_ltTl, zp_ltFl, zp_leTr, zp_leFr, zp_ltTr, zp_ltFr, zp_eqTr, zp_eqFr, zp_eqTl, zp_eqFl, zp_eqFll, eq_self, zp_addl, zp_addr, zp_mull, zp_mulr, zp_subr, zp_subl, nI_add, pk_mul, t1, t2, Option.isSome, zw_b1T, if_neg n1, ze_X10_ways_54]
      rw [lN_1, e5, List.length_cons, show n + 1 + (zw_lst (zw_go (zf_en A K i) 6 (zf_sp K i)) (code + 1) k).length = n + ((zw_lst (zw_go (zf_en A K i) 6 (zf_sp K i)) (code + 1) k).length + 1) from by omega]
theorem zw_all (E : zf_E) (s : zf_S) : zw_lst (zw_go E 6 s) 0 729 = zw_ways E 6 s := zw_go_ways E 6 s
theorem zw_len729 (E : zf_E) (s : zf_S) : (zw_ways E 6 s).length ≤ 729 := zw_ways_len E 6 s
theorem zo_ways (d : Nat) {n : Nat} {xs : Nat → Int32} {M : zi_M} (hI : zq_inv n xs M) (i : Int32) : zp_ok (zi_run (d + 5) zm_X9_ways 0 [some (.inr (.inr (9, some 0))), some (.inl i), none, none] [] M) (zp_rf (d + 5) zm_X10_ways [some (.inr (.inr (10, some 0))), some (.inl i), none, none, none]) (zq_inv n xs) := by
  obtain ⟨A, K, hS⟩ := hI.2.2.2.2.1
  have h4 := hS.2.1.1
  have hR := hS.2.2.2.2.2.1
  rcases zp_int i with hi | ⟨i, hi, rfl⟩
  · simp (disch := omega) only [ze_X9_ways_0, ze_X10_ways_0, zc_birdN _ hi, zr_flyerN _ hi, ze_X5_room_0, ze_X5_size_0, ze_X5_isThere_0, ze_X5_has_0, ze_X5_hasRun_0, ze_X5_get_0, ze_X5_set_0, ze_X5_drop_0, ze_X5_takeRun_0, ze_X9_rowAt_0, ze_X9_textAt_0, ze_X9_refuse_0, ze_X10_isRow_0, ze_X10_isText_0, ze_X10_finds_0, ze_X10_tells_0, zp_in_0_5, zp_in_0_3, zp_in_0_7, zp_in_1_5, zp_in_0_9, zp_in_0_2, zp_in_48_57, zp_in_0_12, zp_in_1_4, zp_in_1_9, zp_in_1_2147483646, zp_in_0_8, zp_in_0, ↓zp_dn, ↓zp_hV, ↓zp_hI, ↓zp_hL, ↓zp_hR, ↓zp_hX, zp_eV, zp_eI, zp_eL, zp_eR, zp_eX, zp_eXl, zp_iV, zp_iI, zp_iL, zp_iR, ↓zp_sm, ↓zp_nls, ↓zp_nln, zp_bo0, zp_bo1, zp_okE, zp_ok2E, zp_rfE, ↓reduceIte, if_true, if_false, zp_ofn, zp_sI1, zp_w1, zp_sL1, zp_sR1, zp_l1, zp_leT, zp_leF, zp_ltT, zp_ltF, zp_eqT, zp_eqF, zp_leTl, zp_leFl, zp_ltTl, zp_ltFl, zp_leTr, zp_leFr, zp_ltTr, zp_ltFr, zp_eqTr, zp_eqFr, zp_eqTl, zp_eqFl, zp_eqFll, eq_self, zp_addl, zp_addr, zp_mull, zp_mulr, zp_subr, zp_subl, nI_add, pk_mul, Nat.reduceEqDiff, Nat.reduceLT, Nat.reduceLeDiff, Nat.reduceAdd, Nat.reduceMul, Nat.reduceSub, reduceCtorEq, Int32.reduceLT, Int32.reduceLE, not_true_eq_false, not_false_eq_true, and_true, true_and, and_false, false_and, or_true, true_or, or_false, false_or]; exact hI
  by_cases hiF : i < K.2.1
  case neg => simp (disch := omega) only [ze_X9_ways_0, ze_X10_ways_0, zc_birdF _ hS (Nat.le_of_not_lt hiF) hi, zr_flyerF _ hR (Nat.le_of_not_lt hiF) hi h4, ze_X5_room_0, ze_X5_size_0, ze_X5_isThere_0, ze_X5_has_0, ze_X5_hasRun_0, ze_X5_get_0, ze_X5_set_0, ze_X5_drop_0, ze_X5_takeRun_0, ze_X9_rowAt_0, ze_X9_textAt_0, ze_X9_refuse_0, ze_X10_isRow_0, ze_X10_isText_0, ze_X10_finds_0, ze_X10_tells_0, zp_in_0_5, zp_in_0_3, zp_in_0_7, zp_in_1_5, zp_in_0_9, zp_in_0_2, zp_in_48_57, zp_in_0_12, zp_in_1_4, zp_in_1_9, zp_in_1_2147483646, zp_in_0_8, zp_in_0, ↓zp_dn, ↓zp_hV, ↓zp_hI, ↓zp_hL, ↓zp_hR, ↓zp_hX, zp_eV, zp_eI, zp_eL, zp_eR, zp_eX, zp_eXl, zp_iV, zp_iI, zp_iL, zp_iR, ↓zp_sm, ↓zp_nls, ↓zp_nln, zp_bo0, zp_bo1, zp_okE, zp_ok2E, zp_rfE, ↓reduceIte, if_true, if_false, zp_ofn, zp_sI1, zp_w1, zp_sL1, zp_sR1, zp_l1, zp_leT, zp_leF, zp_ltT, zp_ltF, zp_eqT, zp_eqF, zp_leTl, zp_leFl, zp_ltTl, zp_ltFl, zp_leTr, zp_leFr, zp_ltTr, zp_ltFr, zp_eqTr, zp_eqFr, zp_eqTl, zp_eqFl, zp_eqFll, eq_self, zp_addl, zp_addr, zp_mull, zp_mulr, zp_subr, zp_subl, nI_add, pk_mul, Nat.reduceEqDiff, Nat.reduceLT, Nat.reduceLeDiff, Nat.reduceAdd, Nat.reduceMul, Nat.reduceSub, reduceCtorEq, Int32.reduceLT, Int32.reduceLE, not_true_eq_false, not_false_eq_true, and_true, true_and, and_false, false_and, or_true, true_or, or_false, false_or]; exact hI
  obtain ⟨hE, hok, hsp⟩ := zq_fl hS hiF
  have h5 : M.1 7 i 5 = (zf_sp K i).2.2.2.2.2 := hsp.2.2.2.2.2
  by_cases hf : (zf_sp K i).2.2.2.2.2 = 0
  case neg => simp (disch := omega) only [ze_X9_ways_0, ze_X10_ways_0, zc_bird _ hS hiF, zr_flyer _ hR hiF h4, zr_fallen _ hR hiF h4, h5, if_neg hf, ze_X5_room_0, ze_X5_size_0, ze_X5_isThere_0, ze_X5_has_0, ze_X5_hasRun_0, ze_X5_get_0, ze_X5_set_0, ze_X5_drop_0, ze_X5_takeRun_0, ze_X9_rowAt_0, ze_X9_textAt_0, ze_X9_refuse_0, ze_X10_isRow_0, ze_X10_isText_0, ze_X10_finds_0, ze_X10_tells_0, zp_in_0_5, zp_in_0_3, zp_in_0_7, zp_in_1_5, zp_in_0_9, zp_in_0_2, zp_in_48_57, zp_in_0_12, zp_in_1_4, zp_in_1_9, zp_in_1_2147483646, zp_in_0_8, zp_in_0, ↓zp_dn, ↓zp_hV, ↓zp_hI, ↓zp_hL, ↓zp_hR, ↓zp_hX, zp_eV, zp_eI, zp_eL, zp_eR, zp_eX, zp_eXl, zp_iV, zp_iI, zp_iL, zp_iR, ↓zp_sm, ↓zp_nls, ↓zp_nln, zp_bo0, zp_bo1, zp_okE, zp_ok2E, zp_rfE, ↓reduceIte, if_true, if_false, zp_ofn, zp_sI1, zp_w1, zp_sL1, zp_sR1, zp_l1, zp_leT, zp_leF, zp_ltT, zp_ltF, zp_eqT, zp_eqF, zp_leTl, zp_leFl, zp_ltTl, zp_ltFl, zp_leTr, zp_leFr, zp_ltTr, zp_ltFr, zp_eqTr, zp_eqFr, zp_eqTl, zp_eqFl, zp_eqFll, eq_self, zp_addl, zp_addr, zp_mull, zp_mulr, zp_subr, zp_subl, nI_add, pk_mul, Nat.reduceEqDiff, Nat.reduceLT, Nat.reduceLeDiff, Nat.reduceAdd, Nat.reduceMul, Nat.reduceSub, reduceCtorEq, Int32.reduceLT, Int32.reduceLE, not_true_eq_false, not_false_eq_true, and_true, true_and, and_false, false_and, or_true, true_or, or_false, false_or]; exact hI
  obtain ⟨M1, s1, s2, s3, s4⟩ := zc_setOut (d + 2) hS hiF
  obtain ⟨M2, l1, l2⟩ := zc_waysL (d + 1) _ 0 M1 s4 (by have := zw_len729 (zf_en A K i) (zf_sp K i); omega)
  have hlen := zw_len729 (zf_en A K i) (zf_sp K i)
  have nb2 : zq_nb M (zi_sL (zi_sL M2 9 0 14 (lN (0 + (zw_ways (zf_en A K i) 6 (zf_sp K i)).length))) 9 0 15 1) := zq_nb_sL (zq_nb_sL (zq_nb_tr s2 (zw_fr_nb l2)))
  have hS2 := zq_sky_nb nb2 hS
  rw [ze_X9_ways_0]
  simp (disch := omega) only [zc_bird _ hS hiF, h5, if_pos hf, s1, ↓zp_dn, ↓zp_hV, ↓zp_hI, ↓zp_hL, ↓zp_hR, ↓zp_hX, zp_eV, zp_eI, zp_eL, zp_eR, zp_eX, zp_eXl, zp_iV, zp_iI, zp_iL, zp_iR, ↓zp_sm, ↓zp_nls, ↓zp_nln, zp_bo0, zp_bo1, zp_okE, zp_ok2E, zp_rfE, ↓reduceIte, if_true, if_false]
  have l1' : zi_run (d + 5) zm_X9_ways 35 [some (.inr (.inr (9, some 0))), none, none, some (.inl 0)] [] M1 = zi_run (d + 5) zm_X9_ways 58 [some (.inr (.inr (9, some 0))), none, none, some (.inl (nI (0 + (zw_ways (zf_en A K i) 6 (zf_sp K i)).length)))] [] M2 := l1
  rw [l1', ze_X9_ways_58]
  simp (disch := omega) only [zc_tell1n, ↓zp_dn, ↓zp_hV, ↓zp_hI, ↓zp_hL, ↓zp_hR, ↓zp_hX, zp_eV, zp_eI, zp_eL, zp_eR, zp_eX, zp_eXl, zp_iV, zp_iI, zp_iL, zp_iR, ↓zp_sm, ↓zp_nls, ↓zp_nln, zp_bo0, zp_bo1, zp_okE, zp_ok2E, zp_rfE, ↓reduceIte, if_true, if_false]
  obtain ⟨M3, r1, r2, r3⟩ := zr_waysL d hE hS2.2.2.2.2.1 hS2.2.2.2.2.2.1 hiF h4 hok 729 0 0 _ (by omega) (by omega) (zq_nb_rfl _) rfl
  rw [zw_all] at r1
  rw [ze_X10_ways_0]
  simp (disch := omega) only [zr_flyer _ hS2.2.2.2.2.2.1 hiF h4, zr_fallen _ hS2.2.2.2.2.2.1 hiF h4, if_pos hf, ↓zp_dn, ↓zp_hV, ↓zp_hI, ↓zp_hL, ↓zp_hR, ↓zp_hX, zp_eV, zp_eI, zp_eL, zp_eR, zp_eX, zp_eXl, zp_iV, zp_iI, zp_iL, zp_iR, ↓zp_sm, ↓zp_nls, ↓zp_nln, zp_bo0, zp_bo1, zp_okE, zp_ok2E, zp_rfE, ↓reduceIte, if_true, if_false]
  have n1 : ¬ (1 : Int32) = 0 := by decide
  rw [if_neg n1]
  rw [show (some (.inr (.inl 0)) : Option zi_V) = some (.inr (.inl (lN 0))) from rfl, show (some (.inl 0) : Option zi_V) = some (.inl (nI 0)) from rfl, r1, zp_ok2E]
  refine ⟨rfl, zq_inv_nb (zq_nb_sL (zq_nb_sL (zq_nb_tr nb2 r2))) (fun _ => ?_) hI⟩
  simp [zq_longs, zp_sL2, r3]
