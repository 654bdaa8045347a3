/-! THE PURE PART: reading a SKY, the class: sun, flyers, end -/
def zx_fi (c : Int32) : Option Nat := if 48 ≤ c ∧ c ≤ 57 then some (c - 48).toNatClampNeg else none
theorem zx_fi_s {c : Int32} {v : Nat} (h : zx_fi c = some v) : v ≤ 9 ∧ c = nI (48 + v) := by
  unfold zx_fi at h
  by_cases q : 48 ≤ c ∧ c ≤ 57
  · rw [if_pos q] at h
    rcases zp_int c with hc | ⟨m, hm, hc⟩
    · exact absurd (Int32.le_trans q.1 (Int32.le_of_lt hc)) (by decide)
    · subst hc
      have a1 : 48 ≤ m := by
        apply Nat.le_of_not_lt; intro hlt
        have := q.1
        simp (disch := omega) only [zp_leT, zp_leF, zp_ltT, zp_ltF, zp_eqT, zp_eqF, zp_leTl, zp_leFl, zp_ltTl, zp_ltFl, zp_leTr, zp_leFr, zp_ltTr, zp_ltFr, zp_eqTr, zp_eqFr, zp_eqTl, zp_eqFl, zp_eqFll, eq_self, zp_addl, zp_addr, zp_mull, zp_mulr, zp_subr, zp_subl, nI_add, pk_mul] at this
      have a2 : m ≤ 57 := by
        apply Nat.le_of_not_lt; intro hlt
        have := q.2
        simp (disch := omega) only [zp_leT, zp_leF, zp_ltT, zp_ltF, zp_eqT, zp_eqF, zp_leTl, zp_leFl, zp_ltTl, zp_ltFl, zp_leTr, zp_leFr, zp_ltTr, zp_ltFr, zp_eqTr, zp_eqFr, zp_eqTl, zp_eqFl, zp_eqFll, eq_self, zp_addl, zp_addr, zp_mull, zp_mulr, zp_subr, zp_subl, nI_add, pk_mul] at this
      have e : nI m - 48 = nI (m - 48) := pk_sub (b := 48) (by omega)
      rw [e, nI_clamp (by omega)] at h
      cases h
      exact ⟨by omega, by rw [show 48 + (m - 48) = m from by omega]⟩
  · rw [if_neg q] at h; cases h
theorem zx_fi_n {c : Int32} (h : zx_fi c = none) : c - 48 < 0 ∨ 9 < c - 48 := by
  rcases zp_int (c - 48) with hc | ⟨m, hm, hc⟩
  · exact Or.inl hc
  · refine Or.inr ?_
    rw [hc]
    by_cases q : m ≤ 9
    · exfalso
      have e : c = nI (m + 48) := by
        have := Int32.sub_add_cancel c 48
        rw [hc, show (48 : Int32) = nI 48 from rfl, nI_add] at this
        exact this.symm
      have : 48 ≤ c ∧ c ≤ 57 := by
        rw [e]
        constructor
        · simp (disch := omega) only [zp_leT, zp_leF, zp_ltT, zp_ltF, zp_eqT, zp_eqF, zp_leTl, zp_leFl, zp_ltTl, zp_ltFl, zp_leTr, zp_leFr, zp_ltTr, zp_ltFr, zp_eqTr, zp_eqFr, zp_eqTl, zp_eqFl, zp_eqFll, eq_self, zp_addl, zp_addr, zp_mull, zp_mulr, zp_subr, zp_subl, nI_add, pk_mul]
        · simp (disch := omega) only [zp_leT, zp_leF, zp_ltT, zp_ltF, zp_eqT, zp_eqF, zp_leTl, zp_leFl, zp_ltTl, zp_ltFl, zp_leTr, zp_leFr, zp_ltTr, zp_ltFr, zp_eqTr, zp_eqFr, zp_eqTl, zp_eqFl, zp_eqFll, eq_self, zp_addl, zp_addr, zp_mull, zp_mulr, zp_subr, zp_subl, nI_add, pk_mul]
      unfold zx_fi at h
      rw [if_pos this] at h
      cases h
    · simp (disch := omega) only [zp_leT, zp_leF, zp_ltT, zp_ltF, zp_eqT, zp_eqF, zp_leTl, zp_leFl, zp_ltTl, zp_ltFl, zp_leTr, zp_leFr, zp_ltTr, zp_ltFr, zp_eqTr, zp_eqFr, zp_eqTl, zp_eqFl, zp_eqFll, eq_self, zp_addl, zp_addr, zp_mull, zp_mulr, zp_subr, zp_subl, nI_add, pk_mul]
theorem zc_fig (d : Nat) {M : zi_M} {t n : Nat} {f : Nat → Int32} (hT : zx_tc M t n f) (hn : n ≤ 80) {p : Nat} (hp : M.1 4 0 3 = nI p) (hp8 : p ≤ 1000) {lim : Nat} (hl : lim ≤ 10) : zi_run (d + 2) zm_X4_figureBelow 0 [some (.inr (.inr (4, some 0))), some (.inl (nI lim)), none] [] M = some (some (.inl (match zx_fi (zx_g f n p) with | some v => if v < lim then nI v else -1 | none => -1)), M) := by
  have hr : ∀ e, zi_run (e + 1) zm_X4_here 0 [some (.inr (.inr (4, some 0)))] [] M = _ := fun e => zc_here e hT hn hp hp8
  rw [ze_X4_figureBelow_0]
  cases hf : zx_fi (zx_g f n p) with
  | none =>
    rcases zx_fi_n hf with q | q
    · simp (disch := omega) only [↓zp_dn, ↓zp_hV, ↓zp_hI, ↓zp_hL, ↓zp_hR, ↓zp_hX, zp_eV, zp_eI, zp_eL, zp_eR, zp_eX, zp_eXl, zp_iV, zp_iI, zp_iL, zp_iR, ↓zp_sm, ↓zp_nls, ↓zp_nln, zp_bo0, zp_bo1, zp_okE, zp_ok2E, zp_rfE, ↓reduceIte, if_true, if_false, zp_leT, zp_leF, zp_ltT, zp_ltF, zp_eqT, zp_eqF, zp_leTl, zp_leFl, zp_ltTl, zp_ltFl, zp_leTr, zp_leFr, zp_ltTr, zp_ltFr, zp_eqTr, zp_eqFr, zp_eqTl, zp_eqFl, zp_eqFll, eq_self, zp_addl, zp_addr, zp_mull, zp_mulr, zp_subr, zp_subl, nI_add, pk_mul, hr, if_pos q]
    · have q2 : ¬ zx_g f n p - 48 < 0 := fun q3 => absurd (Int32.lt_trans q q3) (by decide)
      simp (disch := omega) only [↓zp_dn, ↓zp_hV, ↓zp_hI, ↓zp_hL, ↓zp_hR, ↓zp_hX, zp_eV, zp_eI, zp_eL, zp_eR, zp_eX, zp_eXl, zp_iV, zp_iI, zp_iL, zp_iR, ↓zp_sm, ↓zp_nls, ↓zp_nln, zp_bo0, zp_bo1, zp_okE, zp_ok2E, zp_rfE, ↓reduceIte, if_true, if_false, zp_leT, zp_leF, zp_ltT, zp_ltF, zp_eqT, zp_eqF, zp_leTl, zp_leFl, zp_ltTl, zp_ltFl, zp_leTr, zp_leFr, zp_ltTr, zp_ltFr, zp_eqTr, zp_eqFr, zp_eqTl, zp_eqFl, zp_eqFll, eq_self, zp_addl, zp_addr, zp_mull, zp_mulr, zp_subr, zp_subl, nI_add, pk_mul, hr, if_neg q2, if_pos q]
  | some v =>
    obtain ⟨h9, hc⟩ := zx_fi_s hf
    have e : nI (48 + v) - 48 = nI v := by rw [show (48 : Int32) = nI 48 from rfl, pk_sub (by omega)]; congr 1; omega
    by_cases hv : v < lim
    · simp (disch := omega) only [↓zp_dn, ↓zp_hV, ↓zp_hI, ↓zp_hL, ↓zp_hR, ↓zp_hX, zp_eV, zp_eI, zp_eL, zp_eR, zp_eX, zp_eXl, zp_iV, zp_iI, zp_iL, zp_iR, ↓zp_sm, ↓zp_nls, ↓zp_nln, zp_bo0, zp_bo1, zp_okE, zp_ok2E, zp_rfE, ↓reduceIte, if_true, if_false, zp_leT, zp_leF, zp_ltT, zp_ltF, zp_eqT, zp_eqF, zp_leTl, zp_leFl, zp_ltTl, zp_ltFl, zp_leTr, zp_leFr, zp_ltTr, zp_ltFr, zp_eqTr, zp_eqFr, zp_eqTl, zp_eqFl, zp_eqFll, eq_self, zp_addl, zp_addr, zp_mull, zp_mulr, zp_subr, zp_subl, nI_add, pk_mul, hr, hc, e, if_pos hv]
    · simp (disch := omega) only [↓zp_dn, ↓zp_hV, ↓zp_hI, ↓zp_hL, ↓zp_hR, ↓zp_hX, zp_eV, zp_eI, zp_eL, zp_eR, zp_eX, zp_eXl, zp_iV, zp_iI, zp_iL, zp_iR, ↓zp_sm, ↓zp_nls, ↓zp_nln, zp_bo0, zp_bo1, zp_okE, zp_ok2E, zp_rfE, ↓reduceIte, if_true, if_false, zp_leT, zp_leF, zp_ltT, zp_ltF, zp_eqT, zp_eqF, zp_leTl, zp_leFl, zp_ltTl, zp_ltFl, zp_leTr, zp_leFr, zp_ltTr, zp_ltFr, zp_eqTr, zp_eqFr, zp_eqTl, zp_eqFl, zp_eqFll, eq_self, zp_addl, zp_addr, zp_mull, zp_mulr, zp_subr, zp_subl, nI_add, pk_mul, hr, hc, e, if_neg hv]
/-- the flyers: is all well, the place, how many -/
def zx_F (g : Nat → Int32) (H : Nat) (cell : Nat → Int32) : Nat → Nat → Nat → Bool × Nat × Nat
  | 0, i, p => (true, p, i)
  | k + 1, i, p => match zx_ki (g p) with
    | none => (true, p, i)
    | some _ => match zx_fi (g (p + 1)) with
      | none => (false, p + 1, i)
      | some _ => match zx_fi (g (p + 2)) with
        | none => (false, p + 2, i)
        | some _ => match zx_fi (g (p + 3)) with
          | none => (false, p + 3, i)
          | some v => if H ≤ v ∨ cell v = 5 then (false, p + 3, i) else zx_F g H cell k (i + 1) (p + 4)
def zx_b (g : Nat → Int32) (pf i : Nat) : Int32 × Int32 × Int32 × zf_S := (zx_o (zx_ki (g (pf + 4 * i))), zx_o (zx_fi (g (pf + 4 * i + 1))), 0, (0, (zx_fi (g (pf + 4 * i + 3))).getD 0, zx_o (zx_fi (g (pf + 4 * i + 2))), 0, 0, 0))
theorem zx_ss (M : zi_M) (c k s : Nat) (a b : Int32) : zi_sI (zi_sI M c k s a) c k s b = zi_sI M c k s b := by
  refine zp_ext (fun c' k' j => ?_) rfl
  rw [zp_sI1, zp_sI1]
  by_cases h1 : c' = c
  · by_cases h2 : j = s
    · by_cases h3 : k' = k
      · simp [h1, h2, h3, zp_sI1]
      · simp [h1, h2, h3, zp_sI1]
    · simp [h1, h2, zp_sI1]
  · simp [h1, zp_sI1]
theorem zc_flyers (d : Nat) {t n : Nat} {f : Nat → Int32} (hn : n ≤ 80) {pf H w : Nat} (hpf : pf ≤ 200) (hH : H ≤ 5) (hw : 2 ≤ w) (hw7 : w ≤ 7) {cell : Nat → Int32} {M0 : zi_M} : ∀ (k i p : Nat) (M : zi_M), i + k = 4 → p = pf + 4 * i → zx_tc M t n f → M.1 4 0 3 = nI p → M.1 0 1 1 = nI w → M.1 0 1 2 = nI H → (∀ h, h < H → M.1 11 1 (7 * h) = cell h) → M.1 6 4 4 = nI i → (∀ j, j < i → M.1 1 (16 + j) 1 = (zx_b (zx_g f n) pf j).1 ∧ M.1 1 (16 + j) 2 = (zx_b (zx_g f n) pf j).2.1 ∧ M.1 1 (16 + j) 3 = (zx_b (zx_g f n) pf j).2.2.1 ∧ zf_is (M.1 7 (16 + j)) (zx_b (zx_g f n) pf j).2.2.2 ∧ (zx_b (zx_g f n) pf j).2.2.2.2.1 < H ∧ ∃ v : Nat, v ≤ 9 ∧ (zx_b (zx_g f n) pf j).2.2.2.2.2.1 = nI v) → (M.2 = M0.2 ∧ ∀ c k j, c ≠ 4 → ¬ (c = 6 ∧ k = 4 ∧ j = 4) → ¬ (c = 1 ∧ 16 ≤ k) → ¬ (c = 7 ∧ 16 ≤ k ∧ k < 20) → M.1 c k j = M0.1 c k j) → ∃ M', zi_run (d + 4) zm_X4_readFlyers 10 [some (.inr (.inr (4, some 0))), some (.inl (nI i)), none] [] M = some (some (.inl (if (zx_F (zx_g f n) H cell k i p).1 then 1 else 0)), M') ∧ M'.1 4 0 3 = nI (zx_F (zx_g f n) H cell k i p).2.1 ∧ (zx_F (zx_g f n) H cell k i p).2.1 ≤ 240 ∧ (M'.2 = M0.2 ∧ ∀ c k j, c ≠ 4 → ¬ (c = 6 ∧ k = 4 ∧ j = 4) → ¬ (c = 1 ∧ 16 ≤ k) → ¬ (c = 7 ∧ 16 ≤ k ∧ k < 20) → M'.1 c k j = M0.1 c k j) ∧ ((zx_F (zx_g f n) H cell k i p).1 = true → (zx_F (zx_g f n) H cell k i p).2.2 ≤ 4 ∧ M'.1 6 4 4 = nI (zx_F (zx_g f n) H cell k i p).2.2 ∧ ∀ j, j < (zx_F (zx_g f n) H cell k i p).2.2 → M'.1 1 (16 + j) 1 = (zx_b (zx_g f n) pf j).1 ∧ M'.1 1 (16 + j) 2 = (zx_b (zx_g f n) pf j).2.1 ∧ M'.1 1 (16 + j) 3 = (zx_b (zx_g f n) pf j).2.2.1 ∧ zf_is (M'.1 7 (16 + j)) (zx_b (zx_g f n) pf j).2.2.2 ∧ (zx_b (zx_g f n) pf j).2.2.2.2.1 < H ∧ ∃ v : Nat, v ≤ 9 ∧ (zx_b (zx_g f n) pf j).2.2.2.2.2.1 = nI v) := by
  intro k
  induction k with
  | zero =>
    intro i p M hk hp hT hpl h01 h02 hcl h44 hb hf
    refine ⟨M, ?_, hpl, (by rw [zx_F]; show p ≤ 240; omega), hf, fun _ => ⟨by rw [zx_F]; show i ≤ 4; omega, h44, hb⟩⟩
    rw [ze_X4_readFlyers_10, zx_F]
    simp (disch := omega) only [↓zp_dn, ↓zp_hV, ↓zp_hI, ↓zp_hL, ↓zp_hR, ↓zp_hX, zp_eV, zp_eI, zp_eL, zp_eR, zp_eX, zp_eXl, zp_iV, zp_iI, zp_iL, zp_iR, ↓zp_sm, ↓zp_nls, ↓zp_nln, zp_bo0, zp_bo1, zp_okE, zp_ok2E, zp_rfE, ↓reduceIte, if_true, if_false, zp_leT, zp_leF, zp_ltT, zp_ltF, zp_eqT, zp_eqF, zp_leTl, zp_leFl, zp_ltTl, zp_ltFl, zp_leTr, zp_leFr, zp_ltTr, zp_ltFr, zp_eqTr, zp_eqFr, zp_eqTl, zp_eqFl, zp_eqFll, eq_self, zp_addl, zp_addr, zp_mull, zp_mulr, zp_subr, zp_subl, nI_add, pk_mul]
  | succ k ih =>
    intro i p M hk hp hT hpl h01 h02 hcl h44 hb hf
    have hr : ∀ e, zi_run (e + 1) zm_X4_here 0 [some (.inr (.inr (4, some 0)))] [] M = _ := fun e => zc_here e hT hn hpl (by omega)
    rw [ze_X4_readFlyers_10]
    have n1 : ¬ (0 : Int32) ≤ -1 := by decide
    cases hk0 : zx_ki (zx_g f n p) with
    | none =>
      have eF : zx_F (zx_g f n) H cell (k + 1) i p = (true, p, i) := by rw [zx_F, hk0]
      rw [eF]
      refine ⟨M, ?_, hpl, show p ≤ 240 from by omega, hf, fun _ => ⟨show i ≤ 4 from by omega, h44, hb⟩⟩
      simp (disch := omega) only [↓zp_dn, ↓zp_hV, ↓zp_hI, ↓zp_hL, ↓zp_hR, ↓zp_hX, zp_eV, zp_eI, zp_eL, zp_eR, zp_eX, zp_eXl, zp_iV, zp_iI, zp_iL, zp_iR, ↓zp_sm, ↓zp_nls, ↓zp_nln, zp_bo0, zp_bo1, zp_okE, zp_ok2E, zp_rfE, ↓reduceIte, if_true, if_false, zp_leT, zp_leF, zp_ltT, zp_ltF, zp_eqT, zp_eqF, zp_leTl, zp_leFl, zp_ltTl, zp_ltFl, zp_leTr, zp_leFr, zp_ltTr, zp_ltFr, zp_eqTr, zp_eqFr, zp_eqTl, zp_eqFl, zp_eqFll, eq_self, zp_addl, zp_addr, zp_mull, zp_mulr, zp_subr, zp_subl, nI_add, pk_mul, hr, zc_plK _ hT, hk0, zx_o, if_neg n1]
    | some kd =>
      have hkd := zx_ki_lt hk0
      -- where the place alone has gone on
      have go : ∀ q : Nat, zx_tc (zi_sI M 4 0 3 (nI q)) t n f := fun q => zx_tc_fr (zx_fr_I (zx_fr_rfl M) (by omega) _) hT
      have fg : ∀ (e q lim : Nat), q ≤ 1000 → lim ≤ 10 → zi_run (e + 2) zm_X4_figureBelow 0 [some (.inr (.inr (4, some 0))), some (.inl (nI lim)), none] [] (zi_sI M 4 0 3 (nI q)) = some (some (.inl (match zx_fi (zx_g f n q) with | some v => if v < lim then nI v else -1 | none => -1)), zi_sI M 4 0 3 (nI q)) := fun e q lim a b => zc_fig e (go q) hn (by simp [zp_sI1]) a b
      have h02' : ∀ x : Int32, (zi_sI M 4 0 3 x).1 0 1 2 = nI H := fun x => by rw [zp_o1 (by omega)]; exact h02
      have h01' : ∀ x : Int32, (zi_sI M 4 0 3 x).1 0 1 1 = nI w := fun x => by rw [zp_o1 (by omega)]; exact h01
      have p4 : ∀ x : Int32, (zi_sI M 4 0 3 x).1 4 0 3 = x := fun x => by simp [zp_sI1]
      have fr4 : ∀ q : Nat, ((zi_sI M 4 0 3 (nI q)).2 = M0.2 ∧ ∀ c k j, c ≠ 4 → ¬ (c = 6 ∧ k = 4 ∧ j = 4) → ¬ (c = 1 ∧ 16 ≤ k) → ¬ (c = 7 ∧ 16 ≤ k ∧ k < 20) → (zi_sI M 4 0 3 (nI q)).1 c k j = M0.1 c k j) := fun q => ⟨hf.1, fun c k j a1 a2 a3 a4 => by rw [zp_o1 (fun q => a1 q.1)]; exact hf.2 c k j a1 a2 a3 a4⟩
      have bad : ∀ q : Nat, q ≤ 240 → zx_F (zx_g f n) H cell (k + 1) i p = (false, q, i) → (∀ e, zi_run (e + 3) zm_X4_readFlyer 0 [some (.inr (.inr (4, some 0))), some (.inl (nI i)), some (.inl (nI kd)), none, none, none] [] (zi_sI M 4 0 3 (nI (p + 1))) = some (some (.inl 0), zi_sI M 4 0 3 (nI q))) → ∃ M', (if 4 ≤ nI i then some (some (.inl 1), M) else zi_cI (zi_dn (d + 4) fun e => zi_run e zm_X4_here 0 [some (.inr (.inr (4, some 0)))] [] M) (fun x22 M21 => zi_cI (zi_dn (d + 4) fun e => zi_run e zm_X4_placeOf 0 [some (.inl x22), some (.inr (.inr (92, some 0))), none] [] M21) (fun x24 M23 => if 0 ≤ x24 then zi_cI (zi_dn (d + 4) fun e => zi_run e zm_X4_readFlyer 0 [some (.inr (.inr (4, some 0))), some (.inl (nI i)), some (.inl x24), none, none, none] [] (zi_sI M23 4 0 3 (M23.1 4 0 3 + 1))) (fun x26 M25 => if x26 = 0 then some (some (.inl 0), M25) else zi_run (d + 4) zm_X4_readFlyers 10 [some (.inr (.inr (4, some 0))), some (.inl (nI i + 1)), none] [] (zi_sI M25 6 4 4 (nI i + 1))) else some (some (.inl 1), M23)))) = some (some (.inl (if (zx_F (zx_g f n) H cell (k + 1) i p).1 then 1 else 0)), M') ∧ M'.1 4 0 3 = nI (zx_F (zx_g f n) H cell (k + 1) i p).2.1 ∧ (zx_F (zx_g f n) H cell (k + 1) i p).2.1 ≤ 240 ∧ (M'.2 = M0.2 ∧ ∀ c k j, c ≠ 4 → ¬ (c = 6 ∧ k = 4 ∧ j = 4) → ¬ (c = 1 ∧ 16 ≤ k) → ¬ (c = 7 ∧ 16 ≤ k ∧ k < 20) → M'.1 c k j = M0.1 c k j) ∧ ((zx_F (zx_g f n) H cell (k + 1) i p).1 = true → (zx_F (zx_g f n) H cell (k + 1) i p).2.2 ≤ 4 ∧ M'.1 6 4 4 = nI (zx_F (zx_g f n) H cell (k + 1) i p).2.2 ∧ ∀ j, j < (zx_F (zx_g f n) H cell (k + 1) i p).2.2 → M'.1 1 (16 + j) 1 = (zx_b (zx_g f n) pf j).1 ∧ M'.1 1 (16 + j) 2 = (zx_b (zx_g f n) pf j).2.1 ∧ M'.1 1 (16 + j) 3 = (zx_b (zx_g f n) pf j).2.2.1 ∧ zf_is (M'.1 7 (16 + j)) (zx_b (zx_g f n) pf j).2.2.2 ∧ (zx_b (zx_g f n) pf j).2.2.2.2.1 < H ∧ ∃ v : Nat, v ≤ 9 ∧ (zx_b (zx_g f n) pf j).2.2.2.2.2.1 = nI v) := fun q hq eF hrun => by
        rw [eF]
        refine ⟨zi_sI M 4 0 3 (nI q), ?_, by simp [zp_sI1], hq, fr4 q, fun z => by cases z⟩
        simp (disch := omega) only [↓zp_dn, ↓zp_hV, ↓zp_hI, ↓zp_hL, ↓zp_hR, ↓zp_hX, zp_eV, zp_eI, zp_eL, zp_eR, zp_eX, zp_eXl, zp_iV, zp_iI, zp_iL, zp_iR, ↓zp_sm, ↓zp_nls, ↓zp_nln, zp_bo0, zp_bo1, zp_okE, zp_ok2E, zp_rfE, ↓reduceIte, if_true, if_false, zp_leT, zp_leF, zp_ltT, zp_ltF, zp_eqT, zp_eqF, zp_leTl, zp_leFl, zp_ltTl, zp_ltFl, zp_leTr, zp_leFr, zp_ltTr, zp_ltFr, zp_eqTr, zp_eqFr, zp_eqTl, zp_eqFl, zp_eqFll, eq_self, zp_addl, zp_addr, zp_mull, zp_mulr, zp_subr, zp_subl, nI_add, pk_mul, hr, zc_plK _ hT, hk0, zx_o, hpl, hrun, Bool.false_eq_true]
      cases hf1 : zx_fi (zx_g f n (p + 1)) with
      | none =>
        refine bad (p + 1) (by omega) (by rw [zx_F, hk0]; simp only [hf1]) (fun e => ?_)
        rw [ze_X4_readFlyer_0]
        simp (disch := omega) only [↓zp_dn, ↓zp_hV, ↓zp_hI, ↓zp_hL, ↓zp_hR, ↓zp_hX, zp_eV, zp_eI, zp_eL, zp_eR, zp_eX, zp_eXl, zp_iV, zp_iI, zp_iL, zp_iR, ↓zp_sm, ↓zp_nls, ↓zp_nln, zp_bo0, zp_bo1, zp_okE, zp_ok2E, zp_rfE, ↓reduceIte, if_true, if_false, zp_leT, zp_leF, zp_ltT, zp_ltF, zp_eqT, zp_eqF, zp_leTl, zp_leFl, zp_ltTl, zp_ltFl, zp_leTr, zp_leFr, zp_ltTr, zp_ltFr, zp_eqTr, zp_eqFr, zp_eqTl, zp_eqFl, zp_eqFll, eq_self, zp_addl, zp_addr, zp_mull, zp_mulr, zp_subr, zp_subl, nI_add, pk_mul, fg, hf1, if_neg n1, show (10 : Int32) = nI 10 from rfl]
      | some a1 =>
      have ha1 := (zx_fi_s hf1).1
      cases hf2 : zx_fi (zx_g f n (p + 2)) with
      | none =>
        refine bad (p + 2) (by omega) (by rw [zx_F, hk0]; simp only [hf1, hf2]) (fun e => ?_)
        rw [ze_X4_readFlyer_0]
        simp (disch := omega) only [↓zp_dn, ↓zp_hV, ↓zp_hI, ↓zp_hL, ↓zp_hR, ↓zp_hX, zp_eV, zp_eI, zp_eL, zp_eR, zp_eX, zp_eXl, zp_iV, zp_iI, zp_iL, zp_iR, ↓zp_sm, ↓zp_nls, ↓zp_nln, zp_bo0, zp_bo1, zp_okE, zp_ok2E, zp_rfE, ↓reduceIte, if_true, if_false, zp_leT, zp_leF, zp_ltT, zp_ltF, zp_eqT, zp_eqF, zp_leTl, zp_leFl, zp_ltTl, zp_ltFl, zp_leTr, zp_leFr, zp_ltTr, zp_ltFr, zp_eqTr, zp_eqFr, zp_eqTl, zp_eqFl, zp_eqFll, eq_self, zp_addl, zp_addr, zp_mull, zp_mulr, zp_subr, zp_subl, nI_add, pk_mul, fg, hf1, hf2, if_neg n1, show (10 : Int32) = nI 10 from rfl, p4, zx_ss, if_pos (show a1 < 10 from by omega), Nat.add_assoc, Nat.reduceAdd]
      | some a2 =>
      have ha2 := (zx_fi_s hf2).1
      cases hf3 : zx_fi (zx_g f n (p + 3)) with
      | none =>
        refine bad (p + 3) (by omega) (by rw [zx_F, hk0]; simp only [hf1, hf2, hf3]) (fun e => ?_)
        rw [ze_X4_readFlyer_0]
        simp (disch := omega) only [↓zp_dn, ↓zp_hV, ↓zp_hI, ↓zp_hL, ↓zp_hR, ↓zp_hX, zp_eV, zp_eI, zp_eL, zp_eR, zp_eX, zp_eXl, zp_iV, zp_iI, zp_iL, zp_iR, ↓zp_sm, ↓zp_nls, ↓zp_nln, zp_bo0, zp_bo1, zp_okE, zp_ok2E, zp_rfE, ↓reduceIte, if_true, if_false, zp_leT, zp_leF, zp_ltT, zp_ltF, zp_eqT, zp_eqF, zp_leTl, zp_leFl, zp_ltTl, zp_ltFl, zp_leTr, zp_leFr, zp_ltTr, zp_ltFr, zp_eqTr, zp_eqFr, zp_eqTl, zp_eqFl, zp_eqFll, eq_self, zp_addl, zp_addr, zp_mull, zp_mulr, zp_subr, zp_subl, nI_add, pk_mul, fg, hf1, hf2, hf3, if_neg n1, show (10 : Int32) = nI 10 from rfl, p4, zx_ss, if_pos (show a1 < 10 from by omega), if_pos (show a2 < 10 from by omega), Nat.add_assoc, Nat.reduceAdd, h02']
        rfl
      | some v =>
      have hv9 := (zx_fi_s hf3).1
      by_cases hvH : v < H
      case neg =>
        refine bad (p + 3) (by omega) (by rw [zx_F, hk0]; simp only [hf1, hf2, hf3]; rw [if_pos (Or.inl (by omega))]) (fun e => ?_)
        rw [ze_X4_readFlyer_0]
        simp (disch := omega) only [↓zp_dn, ↓zp_hV, ↓zp_hI, ↓zp_hL, ↓zp_hR, ↓zp_hX, zp_eV, zp_eI, zp_eL, zp_eR, zp_eX, zp_eXl, zp_iV, zp_iI, zp_iL, zp_iR, ↓zp_sm, ↓zp_nls, ↓zp_nln, zp_bo0, zp_bo1, zp_okE, zp_ok2E, zp_rfE, ↓reduceIte, if_true, if_false, zp_leT, zp_leF, zp_ltT, zp_ltF, zp_eqT, zp_eqF, zp_leTl, zp_leFl, zp_ltTl, zp_ltFl, zp_leTr, zp_leFr, zp_ltTr, zp_ltFr, zp_eqTr, zp_eqFr, zp_eqTl, zp_eqFl, zp_eqFll, eq_self, zp_addl, zp_addr, zp_mull, zp_mulr, zp_subr, zp_subl, nI_add, pk_mul, fg, hf1, hf2, hf3, if_neg n1, show (10 : Int32) = nI 10 from rfl, p4, zx_ss, if_pos (show a1 < 10 from by omega), if_pos (show a2 < 10 from by omega), Nat.add_assoc, Nat.reduceAdd, h02', if_neg hvH]
        rfl
      have lk : ∀ (e : Nat) (x : Int32), zi_run e zm_X0_look 0 [some (.inr (.inr (0, some 1))), some (.inl 0), some (.inl (nI v)), none] [] (zi_sI M 4 0 3 x) = some (some (.inl (cell v)), zi_sI M 4 0 3 x) := fun e x => by
        have c1 : (zi_sI M 4 0 3 x).1 11 1 (v * 7) = cell v := by rw [zp_o1 (by omega), Nat.mul_comm]; exact hcl v hvH
        have z0 : ∀ y : Int32, y + 0 = y := Int32.add_zero
        rw [ze_X0_look_0]
        simp (disch := omega) only [↓zp_dn, ↓zp_hV, ↓zp_hI, ↓zp_hL, ↓zp_hR, ↓zp_hX, zp_eV, zp_eI, zp_eL, zp_eR, zp_eX, zp_eXl, zp_iV, zp_iI, zp_iL, zp_iR, ↓zp_sm, ↓zp_nls, ↓zp_nln, zp_bo0, zp_bo1, zp_okE, zp_ok2E, zp_rfE, ↓reduceIte, if_true, if_false, zp_leT, zp_leF, zp_ltT, zp_ltF, zp_eqT, zp_eqF, zp_leTl, zp_leFl, zp_ltTl, zp_ltFl, zp_leTr, zp_leFr, zp_ltTr, zp_ltFr, zp_eqTr, zp_eqFr, zp_eqTl, zp_eqFl, zp_eqFll, eq_self, zp_addl, zp_addr, zp_mull, zp_mulr, zp_subr, zp_subl, nI_add, pk_mul, h01', h02', z0, c1, Nat.add_zero]
        rfl
      by_cases h5 : cell v = 5
      · refine bad (p + 3) (by omega) (by rw [zx_F, hk0]; simp only [hf1, hf2, hf3]; rw [if_pos (Or.inr h5)]) (fun e => ?_)
        rw [ze_X4_readFlyer_0]
        simp (disch := omega) only [↓zp_dn, ↓zp_hV, ↓zp_hI, ↓zp_hL, ↓zp_hR, ↓zp_hX, zp_eV, zp_eI, zp_eL, zp_eR, zp_eX, zp_eXl, zp_iV, zp_iI, zp_iL, zp_iR, ↓zp_sm, ↓zp_nls, ↓zp_nln, zp_bo0, zp_bo1, zp_okE, zp_ok2E, zp_rfE, ↓reduceIte, if_true, if_false, zp_leT, zp_leF, zp_ltT, zp_ltF, zp_eqT, zp_eqF, zp_leTl, zp_leFl, zp_ltTl, zp_ltFl, zp_leTr, zp_leFr, zp_ltTr, zp_ltFr, zp_eqTr, zp_eqFr, zp_eqTl, zp_eqFl, zp_eqFll, eq_self, zp_addl, zp_addr, zp_mull, zp_mulr, zp_subr, zp_subl, nI_add, pk_mul, fg, hf1, hf2, hf3, show (10 : Int32) = nI 10 from rfl, p4, zx_ss, if_pos (show a1 < 10 from by omega), if_pos (show a2 < 10 from by omega), Nat.add_assoc, Nat.reduceAdd, h02', if_pos hvH, lk, if_pos h5]
      have eF : zx_F (zx_g f n) H cell (k + 1) i p = zx_F (zx_g f n) H cell k (i + 1) (p + 4) := by
        rw [zx_F, hk0]; simp only [hf1, hf2, hf3]; rw [if_neg (fun z => z.elim (fun z => by omega) h5)]
      rw [eF]
      obtain ⟨M5, hM5⟩ : ∃ M5, M5 = zi_sI (zi_sI (zi_sI (zi_sI (zi_sI (zi_sI (zi_sI (zi_sI (zi_sI (zi_sI (zi_sI M 4 0 3 (nI (p + 4))) 1 (16 + i) 1 (nI kd)) 1 (16 + i) 2 (nI a1)) 1 (16 + i) 3 0) 7 (16 + i) 0 0) 7 (16 + i) 1 (nI v)) 7 (16 + i) 2 (nI a2)) 7 (16 + i) 3 0) 7 (16 + i) 4 0) 7 (16 + i) 5 0) 6 4 4 (nI (i + 1)) := ⟨_, rfl⟩
      have keep : ∀ c k j, ¬ (c = 4 ∧ k = 0) → ¬ (c = 6 ∧ k = 4) → ¬ (c = 1 ∧ k = 16 + i) → ¬ (c = 7 ∧ k = 16 + i) → M5.1 c k j = M.1 c k j := fun c k j b1 b2 b3 b4 => by
        rw [hM5, zp_o1 b2, zp_o1 b4, zp_o1 b4, zp_o1 b4, zp_o1 b4, zp_o1 b4, zp_o1 b4, zp_o1 b3, zp_o1 b3, zp_o1 b3, zp_o1 b1]
      have eb : zx_b (zx_g f n) pf i = (nI kd, nI a1, 0, (0, v, nI a2, 0, 0, 0)) := by
        rw [zx_b, ← hp, hk0, hf1, hf2, hf3]; rfl
      have frM5 : zx_fr M M5 := by
        rw [hM5]
        exact zx_fr_I (zx_fr_I (zx_fr_I (zx_fr_I (zx_fr_I (zx_fr_I (zx_fr_I (zx_fr_I (zx_fr_I (zx_fr_I (zx_fr_I (zx_fr_rfl M) (by omega) _) (by omega) _) (by omega) _) (by omega) _) (by omega) _) (by omega) _) (by omega) _) (by omega) _) (by omega) _) (by omega) _) (by omega) _
      obtain ⟨M', f1, f2, f3, f4, f5⟩ := ih (i + 1) (p + 4) M5 (by omega) (by omega) (zx_tc_fr frM5 hT) (by rw [hM5]; simp [zp_sI1]) ((keep 0 1 1 (by omega) (by omega) (by omega) (by omega)).trans h01) ((keep 0 1 2 (by omega) (by omega) (by omega) (by omega)).trans h02) (fun h hh => (keep 11 1 _ (by omega) (by omega) (by omega) (by omega)).trans (hcl h hh)) (by rw [hM5]; simp [zp_sI1]) (fun j hj => by
        by_cases hji : j = i
        · subst hji
          rw [eb, hM5]
          refine ⟨by simp [zp_sI1], by simp [zp_sI1], by simp [zp_sI1], by simp [zf_is, zp_sI1]; rfl, hvH, a2, ha2, rfl⟩
        · obtain ⟨b1, b2, b3, b4, b5, b6⟩ := hb j (by omega)
          have k1 : ∀ s, M5.1 1 (16 + j) s = M.1 1 (16 + j) s := fun s => keep 1 _ _ (by omega) (by omega) (by omega) (by omega)
          have k7 : M5.1 7 (16 + j) = M.1 7 (16 + j) := funext fun s => keep 7 _ _ (by omega) (by omega) (by omega) (by omega)
          exact ⟨by rw [k1]; exact b1, by rw [k1]; exact b2, by rw [k1]; exact b3, by rw [k7]; exact b4, b5, b6⟩) ⟨frM5.1.trans hf.1, fun c k j a1 a2 a3 a4 => by
        by_cases q6 : c = 6 ∧ k = 4
        · have : M5.1 c k j = M.1 c k j := by
            rw [hM5, q6.1, q6.2, zp_sI1, if_pos rfl, if_neg (fun q => a2 ⟨q6.1, q6.2, q⟩), zp_o1 (by omega), zp_o1 (by omega), zp_o1 (by omega), zp_o1 (by omega), zp_o1 (by omega), zp_o1 (by omega), zp_o1 (by omega), zp_o1 (by omega), zp_o1 (by omega), zp_o1 (by omega)]
          rw [this]; exact hf.2 c k j a1 a2 a3 a4
        · rw [keep c k j (by omega) q6 (by omega) (by omega)]; exact hf.2 c k j a1 a2 a3 a4⟩
      refine ⟨M', ?_, f2, f3, f4, f5⟩
      refine Eq.trans ?_ f1
      have rf : ∀ e, zi_run (e + 3) zm_X4_readFlyer 0 [some (.inr (.inr (4, some 0))), some (.inl (nI i)), some (.inl (nI kd)), none, none, none] [] (zi_sI M 4 0 3 (nI (p + 1))) = some (some (.inl 1), zi_sI (zi_sI (zi_sI (zi_sI (zi_sI (zi_sI (zi_sI (zi_sI (zi_sI (zi_sI M 4 0 3 (nI (p + 4))) 1 (16 + i) 1 (nI kd)) 1 (16 + i) 2 (nI a1)) 1 (16 + i) 3 0) 7 (16 + i) 0 0) 7 (16 + i) 1 (nI v)) 7 (16 + i) 2 (nI a2)) 7 (16 + i) 3 0) 7 (16 + i) 4 0) 7 (16 + i) 5 0) := fun e => by
        rw [ze_X4_readFlyer_0]
        simp (disch := omega) only [↓zp_dn, ↓zp_hV, ↓zp_hI, ↓zp_hL, ↓zp_hR, ↓zp_hX, zp_eV, zp_eI, zp_eL, zp_eR, zp_eX, zp_eXl, zp_iV, zp_iI, zp_iL, zp_iR, ↓zp_sm, ↓zp_nls, ↓zp_nln, zp_bo0, zp_bo1, zp_okE, zp_ok2E, zp_rfE, ↓reduceIte, if_true, if_false, zp_leT, zp_leF, zp_ltT, zp_ltF, zp_eqT, zp_eqF, zp_leTl, zp_leFl, zp_ltTl, zp_ltFl, zp_leTr, zp_leFr, zp_ltTr, zp_ltFr, zp_eqTr, zp_eqFr, zp_eqTl, zp_eqFl, zp_eqFll, eq_self, zp_addl, zp_addr, zp_mull, zp_mulr, zp_subr, zp_subl, nI_add, pk_mul, fg, hf1, hf2, hf3, show (10 : Int32) = nI 10 from rfl, p4, zx_ss, if_pos (show a1 < 10 from by omega), if_pos (show a2 < 10 from by omega), Nat.add_assoc, Nat.reduceAdd, h02', if_pos hvH, lk, if_neg h5, ze_X1_begin_0]
      simp (disch := omega) only [↓zp_dn, ↓zp_hV, ↓zp_hI, ↓zp_hL, ↓zp_hR, ↓zp_hX, zp_eV, zp_eI, zp_eL, zp_eR, zp_eX, zp_eXl, zp_iV, zp_iI, zp_iL, zp_iR, ↓zp_sm, ↓zp_nls, ↓zp_nln, zp_bo0, zp_bo1, zp_okE, zp_ok2E, zp_rfE, ↓reduceIte, if_true, if_false, zp_leT, zp_leF, zp_ltT, zp_ltF, zp_eqT, zp_eqF, zp_leTl, zp_leFl, zp_ltTl, zp_ltFl, zp_leTr, zp_leFr, zp_ltTr, zp_ltFr, zp_eqTr, zp_eqFr, zp_eqTl, zp_eqFl, zp_eqFll, eq_self, zp_addl, zp_addr, zp_mull, zp_mulr, zp_subr, zp_subl, nI_add, pk_mul, hr, zc_plK _ hT, hk0, zx_o, hpl, rf, zp_1n0]
      rw [hM5]
