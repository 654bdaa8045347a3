/-! THE PURE PART: GUSTS, the reference: the whole pile -/
def zg_mp (g : Nat → Nat) (l : List Nat) (q : Nat × Int32) : Nat × Int32 := l.foldl (fun q b => if q.1 < g b then (g b, nI b) else q) q
theorem zg_mp1 (g : Nat → Nat) : ∀ (l : List Nat) (q : Nat × Int32), (zg_mp g l q).1 = zg_mx g l q.1 := by
  intro l
  induction l with
  | nil => intro q; rfl
  | cons b l ih =>
    intro q
    show (zg_mp g l (if q.1 < g b then (g b, nI b) else q)).1 = zg_mx g l (max q.1 (g b))
    rw [ih]
    by_cases h : q.1 < g b
    · rw [if_pos h, Nat.max_eq_right (by omega)]
    · rw [if_neg h, Nat.max_eq_left (by omega)]
def zg_P (E : zf_E) (p : Nat) (ch : Nat → List Nat) : Nat → Nat → zf_S → Int32
  | 0, _, _ => -9
  | n + 1, d, s => if s.2.2.2.2.2 = 0 ∧ ¬ zf_over E.1 s then (zg_mp (zg_G E p (zg_X E p ch n (d + 1)) s) (ch d) (0, -9)).2 else -9
def zg_sx (x2 : Int32) (l : List Nat) : Prop := (x2 = -9 ∧ (l = [] ∨ l = [2] ∨ l = [1, 2] ∨ l = [0, 1, 2])) ∨ (x2 ≠ -9 ∧ (l = [] ∨ ∃ b, b < 3 ∧ l = [b]))
theorem zg_sx_c {x2 : Int32} {b : Nat} {l : List Nat} (h : zg_sx x2 (b :: l)) : b < 3 ∧ zg_sx x2 l ∧ zg_nb x2 b = l.headD 3 := by
  unfold zg_sx zg_nb at *
  rcases h with ⟨a, h | h | h | h⟩ | ⟨a, h | ⟨c, hc, h⟩⟩
  · cases h
  · cases h; simp [a]
  · cases h; simp [a]
  · cases h; simp [a]
  · cases h
  · cases h; simp [a, hc]
theorem zg_9 {r : Nat} (hr : r < 2 ^ 31) : nI r ≠ (-9 : Int32) := by
  intro q
  have : nI r < 0 := by rw [q]; decide
  simp (disch := omega) only [zp_leT, zp_leF, zp_ltT, zp_ltF, zp_eqT, zp_eqF, zp_leTl, zp_leFl, zp_ltTl, zp_ltFl, zp_leTr, zp_leFr, zp_ltTr, zp_ltFr, zp_eqTr, zp_eqFr, zp_eqTl, zp_eqFl, zp_eqFll, eq_self, zp_addl, zp_addr, zp_mull, zp_mulr, zp_subr, zp_subl, nI_add, pk_mul] at this
theorem zg_rc_sx {M : zi_M} {x2 : Int32} {ch : Nat → List Nat} (h : zg_rc M x2 ch) (d : Nat) : zg_sx x2 (ch d) := by
  rcases h with ⟨q1, q2⟩ | ⟨r, m, a1, a2, a3, a4, a5, a6⟩
  · exact Or.inl ⟨q1, by rw [q2]; simp⟩
  · refine Or.inr ⟨by rw [a3]; exact zg_9 (by omega), ?_⟩
    rw [a6]
    by_cases hm : d < m
    · exact Or.inr ⟨_, (zj_bE (a5 d hm)).2, by simp [hm]⟩
    · exact Or.inl (by simp [hm])
def zg_R (E : zf_E) (p : Nat) (ch : Nat → List Nat) (n : Nat) : Prop := ∀ (d dd : Nat) (s : zf_S) (M : zi_M) (x2 : Int32) (y : Int64), dd + n = 6 → zf_rE M E → zg_rc M x2 ch → zf_is (fun j => M.1 38 0 (7 * dd + j)) s → M.1 40 0 dd = 0 → s.1 < E.1.1 → s.2.1 < E.1.2.1 → E.1.1 ≤ s.1 + 1 + n → ∃ M', zg_run d x2 p (nI dd) y M = zg_run d x2 p (nI dd - 1) (lN (144 * zg_X E p ch n dd s)) M' ∧ zg_fR dd M M' ∧ M'.2.1 42 0 dd = lN (144 * zg_X E p ch n dd s) ∧ M'.1 43 0 dd = zg_P E p ch n dd s
theorem zg_end (d : Nat) {M0 M : zi_M} {dd : Nat} (hd : dd < 9) (hf : zg_fR dd M0 M) {s : zf_S} {B : Nat} {P x2 : Int32} (p : Nat) (y : Int64) (hl : zg_lv M dd s 1 3 B P) : ∃ M', zg_run d x2 p (nI dd) y M = zg_run d x2 p (nI dd - 1) (lN B) M' ∧ zg_fR dd M0 M' ∧ M'.2.1 42 0 dd = lN B ∧ M'.1 43 0 dd = P := ⟨zp_rp M s, zr_g1e d hd p y hl, zg_fR_rp hf s, hl.2.2.2.1, by rw [zp_rp1]; simpa using hl.2.2.2.2⟩
theorem zr_level (E : zf_E) (hA : zf_okE E.1) {p : Nat} (hp : p ≤ 12) (ch : Nat → List Nat) : ∀ n, zg_R E p ch n := by
  intro n
  induction n with
  | zero =>
    intro d dd s M x2 y hn hE hc hs h0 h1 h2 h3
    obtain ⟨M1, f1, f2, f3⟩ := zr_g0 d hA hE (show dd ≤ 6 from by omega) h1 hc p y hs h0
    have ho : zf_over E.1 s := by show E.1.1 ≤ s.1 + 1; omega
    rw [if_neg (fun q : s.2.2.2.2.2 = 0 ∧ ¬ zf_over E.1 s => q.2 ho)] at f3
    have eB : (if s.2.2.2.2.2 = 0 ∧ zf_over E.1 s then 12 ^ (8 - dd) else 0) = 144 * zg_X E p ch 0 dd s := by
      have : dd = 6 := by omega
      subst this
      rw [zg_X, if_pos ho]
      by_cases hf : s.2.2.2.2.2 = 0
      · rw [if_pos hf, if_pos (show s.2.2.2.2.2 = 0 ∧ zf_over E.1 s from ⟨hf, ho⟩)]
      · rw [if_neg hf, if_neg (fun q : s.2.2.2.2.2 = 0 ∧ zf_over E.1 s => hf q.1)]
    rw [eB] at f3
    rw [f1]
    exact zg_end d (by omega) f2 p y f3
  | succ n ih =>
    intro d dd s M x2 y hn hE hc hs h0 h1 h2 h3
    obtain ⟨M1, f1, f2, f3⟩ := zr_g0 d hA hE (show dd ≤ 6 from by omega) h1 hc p y hs h0
    rw [f1, zg_P, zg_X]
    by_cases hf : s.2.2.2.2.2 = 0
    case neg =>
      rw [if_neg (fun q : s.2.2.2.2.2 = 0 ∧ ¬ zf_over E.1 s => hf q.1), if_neg (fun q : s.2.2.2.2.2 = 0 ∧ zf_over E.1 s => hf q.1)] at f3
      rw [if_neg hf, if_neg (fun q : s.2.2.2.2.2 = 0 ∧ ¬ zf_over E.1 s => hf q.1)]
      exact zg_end d (by omega) f2 p y f3
    by_cases ho : zf_over E.1 s
    · rw [if_neg (fun q : s.2.2.2.2.2 = 0 ∧ ¬ zf_over E.1 s => q.2 ho), if_pos (show s.2.2.2.2.2 = 0 ∧ zf_over E.1 s from ⟨hf, ho⟩)] at f3
      rw [if_pos hf, if_pos ho, if_neg (fun q : s.2.2.2.2.2 = 0 ∧ ¬ zf_over E.1 s => q.2 ho)]
      have eB : 12 ^ (8 - dd) = 144 * 12 ^ (n + 1) := by rw [show 8 - dd = n + 1 + 2 from by omega, Nat.pow_add, Nat.mul_comm]
      rw [eB] at f3
      exact zg_end d (by omega) f2 p y f3
    rw [if_pos (show s.2.2.2.2.2 = 0 ∧ ¬ zf_over E.1 s from ⟨hf, ho⟩), if_neg (fun q : s.2.2.2.2.2 = 0 ∧ zf_over E.1 s => ho q.2)] at f3
    rw [if_pos hf, if_neg ho, if_pos (show s.2.2.2.2.2 = 0 ∧ ¬ zf_over E.1 s from ⟨hf, ho⟩)]
    have hcol := zw_col_gt ho
    have hclt := zf_col_lt hA s
    have gB : ∀ b, zg_G E p (zg_X E p ch n (dd + 1)) s b ≤ 2985984 := fun b => by
      have h4 := zg_G_le (E := E) hp (zg_X_le E hp ch n (dd + 1)) s b
      have h5 : 12 ^ (n + 1) ≤ 2985984 := zg_12 (n + 1) (by omega)
      rw [Nat.pow_succ] at h5
      omega
    have lp : ∀ (l : List Nat) (m : Nat) (P : Int32) (N : zi_M) (y : Int64), zg_sx x2 l → zg_fR dd M N → zg_lv N dd s 1 (l.headD 3) (144 * m) P → m ≤ 2985984 → ∃ M', zg_run d x2 p (nI dd) y N = zg_run d x2 p (nI dd - 1) (lN (144 * zg_mx (zg_G E p (zg_X E p ch n (dd + 1)) s) l m)) M' ∧ zg_fR dd M M' ∧ M'.2.1 42 0 dd = lN (144 * zg_mx (zg_G E p (zg_X E p ch n (dd + 1)) s) l m) ∧ M'.1 43 0 dd = (zg_mp (zg_G E p (zg_X E p ch n (dd + 1)) s) l (m, P)).2 := by
      intro l
      induction l with
      | nil => intro m P N y hx hN hl hm; exact zg_end d (by omega) hN p y hl
      | cons b l ihl =>
        intro m P N y hx hN hl hm
        obtain ⟨hb, hx', hnb⟩ := zg_sx_c hx
        have hl' : zg_lv N dd s 1 b (144 * m) P := hl
        by_cases hcan : zf_can E.1 s b
        case neg =>
          have g0 : zg_G E p (zg_X E p ch n (dd + 1)) s b = 0 := by unfold zg_G; rw [if_neg hcan]
          obtain ⟨N1, e1, e2, e3⟩ := zr_g1n d hA (zf_rE_g hN hE) (show dd < 9 from by omega) h1 h2 (x2 := x2) p y hb hl' hcan
          rw [hnb] at e3
          have r1 : zg_mx (zg_G E p (zg_X E p ch n (dd + 1)) s) (b :: l) m = zg_mx (zg_G E p (zg_X E p ch n (dd + 1)) s) l m := by
            show zg_mx _ l (max m (zg_G E p (zg_X E p ch n (dd + 1)) s b)) = _
            rw [g0, Nat.max_eq_left (Nat.zero_le m)]
          have r2 : zg_mp (zg_G E p (zg_X E p ch n (dd + 1)) s) (b :: l) (m, P) = zg_mp (zg_G E p (zg_X E p ch n (dd + 1)) s) l (m, P) := by
            show zg_mp _ l (if m < zg_G E p (zg_X E p ch n (dd + 1)) s b then _ else (m, P)) = _
            rw [g0, if_neg (by omega)]
          rw [r1, r2, e1]
          exact ihl m P N1 y hx' (zg_fR_tr hN e2) e3 hm
        have hgb := gB b
        have nbe : nI (dd + 1) - 1 = nI dd := by rw [show (1 : Int32) = nI 1 from rfl, pk_sub (by omega)]; rfl
        have hbt : zf_bt E s b = zf_st E (zf_mv E s b) := rfl
        obtain ⟨N1, a1, a2, a3, a4, a5⟩ := zr_g1c d hA (zf_rE_g hN hE) (show dd < 8 from by omega) h1 h2 (x2 := x2) p y hb hl' hcan
        have fr1 := zg_fR_tr hN a2
        obtain ⟨N2, b1, b2, b3, b4⟩ := ih d (dd + 1) (zf_bt E s b) N1 x2 y (by omega) (zf_rE_g fr1 hE) (zg_rc_g fr1 hc) a4 a5 (by rw [hbt]; exact hclt) (by rw [hbt]; exact hcan.2.2.2.1) (by rw [hbt]; show E.1.1 ≤ zf_col E.1 s + 1 + n; omega)
        have fr2 := zg_fR_tr fr1 (zg_fR_up b2)
        have lv2 := zg_lv_g b2 a3
        rw [a1, b1, nbe]
        have wrap : ∀ (N4 : zi_M) (v w q g : Nat), zg_fR dd M N4 → zg_lv N4 dd s w b (144 * m) P → N4.2.1 41 0 dd = lN g → (w = 3 ∧ q = g + v * p ∨ w = 4 ∧ q = g) → q = 144 * zg_G E p (zg_X E p ch n (dd + 1)) s b → ∃ M', zg_run d x2 p (nI dd) (lN v) N4 = zg_run d x2 p (nI dd - 1) (lN (144 * zg_mx (zg_G E p (zg_X E p ch n (dd + 1)) s) (b :: l) m)) M' ∧ zg_fR dd M M' ∧ M'.2.1 42 0 dd = lN (144 * zg_mx (zg_G E p (zg_X E p ch n (dd + 1)) s) (b :: l) m) ∧ M'.1 43 0 dd = (zg_mp (zg_G E p (zg_X E p ch n (dd + 1)) s) (b :: l) (m, P)).2 := fun N4 v w q g hN4 hl4 hg4 hw hq => by
          obtain ⟨N5, c1, c2, c3⟩ := zr_g3 d (show dd < 8 from by omega) (x2 := x2) v w q hw hp hb (by omega) (by omega) hl4 hg4
          rw [hnb, hq, zg_mulmax] at c3
          rw [c1]
          have r2 : zg_mp (zg_G E p (zg_X E p ch n (dd + 1)) s) (b :: l) (m, P) = zg_mp (zg_G E p (zg_X E p ch n (dd + 1)) s) l (max m (zg_G E p (zg_X E p ch n (dd + 1)) s b), if 144 * m < 144 * zg_G E p (zg_X E p ch n (dd + 1)) s b then nI b else P) := by
            show zg_mp _ l (if m < zg_G E p (zg_X E p ch n (dd + 1)) s b then _ else (m, P)) = _
            by_cases hlt : m < zg_G E p (zg_X E p ch n (dd + 1)) s b
            · rw [if_pos hlt, if_pos (by omega), Nat.max_eq_right (by omega)]
            · rw [if_neg hlt, if_neg (by omega), Nat.max_eq_left (by omega)]
          rw [r2]
          exact ihl _ _ N5 (lN v) hx' (zg_fR_tr hN4 c2) c3 (Nat.max_le.mpr ⟨hm, hgb⟩)
        by_cases hg : zg_gu E.1 (zf_mv E s b)
        · obtain ⟨N3, c1, c2, c3, c4, c5, c6⟩ := zr_g2g d hA (zf_rE_g fr2 hE) (show dd < 8 from by omega) h1 h2 (x2 := x2) hp (144 * zg_X E p ch n (dd + 1) (zf_bt E s b)) hb lv2 hcan hg
          have fr3 := zg_fR_tr fr2 c2
          obtain ⟨N4, u1, u2, u3, u4⟩ := ih d (dd + 1) (zf_st E (zg_sk (zf_mv E s b))) N3 x2 (lN (144 * zg_X E p ch n (dd + 1) (zf_bt E s b))) (by omega) (zf_rE_g fr3 hE) (zg_rc_g fr3 hc) c5 c6 hclt (by have := hcan.2.2.2.1; show s.2.1 + b - 1 - 1 < _; omega) (by show E.1.1 ≤ zf_col E.1 s + 1 + n; omega)
          rw [c1, u1, nbe]
          refine wrap N4 _ 3 _ (144 * zg_X E p ch n (dd + 1) (zf_bt E s b) * (12 - p)) (zg_fR_tr fr3 (zg_fR_up u2)) (zg_lv_g u2 c3) (by rw [u2.2.1 41 0 dd (by omega)]; exact c4) (Or.inl ⟨rfl, rfl⟩) ?_
          unfold zg_G
          rw [if_pos hcan, if_pos hg, hbt, Nat.mul_add, Nat.mul_assoc, Nat.mul_assoc, Nat.mul_comm (12 - p), Nat.mul_comm p]
        · obtain ⟨N3, c1, c2, c3, c4⟩ := zr_g2n d hA (zf_rE_g fr2 hE) (show dd < 8 from by omega) h1 h2 (x2 := x2) (p := p) (144 * zg_X E p ch n (dd + 1) (zf_bt E s b)) hb lv2 hcan hg
          rw [c1]
          refine wrap N3 _ 4 _ (144 * zg_X E p ch n (dd + 1) (zf_bt E s b) * 12) (zg_fR_tr fr2 c2) c3 c4 (Or.inr ⟨rfl, rfl⟩) ?_
          unfold zg_G
          rw [if_pos hcan, if_neg hg, hbt, Nat.mul_assoc, Nat.mul_comm 12]
    exact lp (ch dd) 0 (-9) M1 y (zg_rc_sx hc dd) f2 f3 (by omega)
