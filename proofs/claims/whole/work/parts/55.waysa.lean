/-! THE PURE PART: what the calls on WAYS share -/
theorem zw_b1T : zw_b1 true = 1 := (rfl)
theorem zw_b1F : zw_b1 false = 0 := (rfl)
/-- a WAY that is one -/
def zw_ok (E : zf_E) : zf_S → zw_w → Prop
  | s, [] => zf_over E.1 s
  | s, q :: w => ¬ zf_over E.1 s ∧ q.1 < 3 ∧ zw_good E s q.1 ∧ q.2 = zf_bt E s q.1 ∧ zw_ok E q.2 w
theorem zw_br_ok {E : zf_E} {f : zf_S → List zw_w} {s : zf_S} {b : Nat} {w : zw_w} (ho : ¬ zf_over E.1 s) (hb : b < 3) (hf : ∀ t v, v ∈ f t → zw_ok E t v) (h : w ∈ zw_br E f s b) : zw_ok E s w := by
  rw [zw_br] at h
  by_cases hg : zw_good E s b
  · rw [if_pos hg] at h
    obtain ⟨v, hv, e⟩ := List.mem_map.mp h
    subst e
    exact ⟨ho, hb, hg, rfl, hf _ v hv⟩
  · rw [if_neg hg] at h; cases h
theorem zw_ways_ok (E : zf_E) (n : Nat) : ∀ (s : zf_S) (w : zw_w), w ∈ zw_ways E n s → zw_ok E s w := by
  induction n with
  | zero =>
    intro s w h
    by_cases ho : zf_over E.1 s
    · rw [zw_ways_over E 0 s ho] at h
      rw [List.mem_singleton.mp h]; exact ho
    · simp only [zw_ways, if_neg ho] at h; cases h
  | succ n ih =>
    intro s w h
    by_cases ho : zf_over E.1 s
    · rw [zw_ways_over E _ s ho] at h
      rw [List.mem_singleton.mp h]; exact ho
    · simp only [zw_ways, if_neg ho] at h
      rcases List.mem_append.mp h with h | h
      · exact zw_br_ok ho (by decide) ih h
      · rcases List.mem_append.mp h with h | h
        · exact zw_br_ok ho (by decide) ih h
        · exact zw_br_ok ho (by decide) ih h
theorem zw_ok_len {E : zf_E} (hA : zf_okE E.1) : ∀ {w : zw_w} {s : zf_S}, s.1 < E.1.1 → zw_ok E s w → s.1 + w.length < E.1.1 := by
  intro w
  induction w with
  | nil => intro s hs _; simpa using hs
  | cons q w ih =>
    intro s hs h
    obtain ⟨h1, h2, h3, h4, h5⟩ := h
    have g := zw_col_gt h1
    have l := zf_col_lt hA s
    have e : q.2.1 = zf_col E.1 s := by rw [h4]; rfl
    have := ih (s := q.2) (by rw [e]; exact l) h5
    simp only [List.length_cons]; omega
theorem zw_ok_sp {E : zf_E} (hA : zf_okE E.1) : ∀ {w : zw_w} {s : zf_S}, zw_ok E s w → ∀ q, q ∈ w → s.1 < q.2.1 ∧ q.2.1 < E.1.1 ∧ q.2.2.1 < E.1.2.1 ∧ q.1 < 3 := by
  intro w
  induction w with
  | nil => intro s _ q hq; cases hq
  | cons q w ih =>
    intro s h q' hq
    obtain ⟨h1, h2, h3, h4, h5⟩ := h
    have g := zw_col_gt h1
    have l := zf_col_lt hA s
    have e : q.2.1 = zf_col E.1 s := by rw [h4]; rfl
    rcases List.mem_cons.mp hq with e1 | e1
    · subst e1
      exact ⟨by omega, by omega, by rw [h4]; exact h3.1.2.2.2.1, h2⟩
    · have := ih h5 q' e1
      exact ⟨by omega, this.2⟩
theorem zw_end_over {E : zf_E} : ∀ {w : zw_w} {s : zf_S}, zw_ok E s w → zf_over E.1 (zw_end s w) := by
  intro w
  induction w with
  | nil => intro s h; exact h
  | cons q w ih => intro s h; exact ih h.2.2.2.2
theorem zw_end_at : ∀ {w : zw_w} {s : zf_S} {j : Nat} {q : Nat × zf_S}, w[j]? = some q → j + 1 = w.length → zw_end s w = q.2 := by
  intro w
  induction w with
  | nil => intro s j q h; simp at h
  | cons q0 w ih =>
    intro s j q h hj
    cases w with
    | nil =>
      simp only [List.length_cons, List.length_nil] at hj
      have e : j = 0 := by omega
      subst e
      cases h; rfl
    | cons q1 w =>
      simp only [List.length_cons] at hj
      obtain ⟨i, e⟩ : ∃ i, j = i + 1 := ⟨j - 1, by omega⟩
      subst e
      rw [List.getElem?_cons_succ] at h
      exact ih (s := q0.2) h (by simp only [List.length_cons]; omega)
theorem zw_cur_end {M : zi_M} {s0 : zf_S} {w : zw_w} (h : zw_cur M s0 w) : zf_is (M.1 7 (20 + w.length)) (zw_end s0 w) := by
  cases e : w with
  | nil => exact h.2.2.1
  | cons q w' =>
    have hl : w.length = w'.length + 1 := by rw [e]; rfl
    obtain ⟨q', hq⟩ : ∃ q', w[w'.length]? = some q' := ⟨_, List.getElem?_eq_getElem (by omega)⟩
    have := (h.2.2.2 w'.length _ hq).2
    rw [← e, zw_end_at hq (by omega), hl]; exact this
/-- HEIGHTS in a COLUMN, as the class gathers them -/
def zw_hts (p : zw_w) (c : Nat) : Int32 := p.foldl (fun x q => if q.2.1 = c then x ||| (1 <<< (nI q.2.2.1 &&& 31)) else x) 0
def zw_bit (x : Int32) : Int32 := if x = -9 then 0 else 1 <<< (x &&& 31)
theorem zw_hts_skip {E : zf_E} (hA : zf_okE E.1) {w : zw_w} {s : zf_S} {c : Nat} (h : zw_ok E s w) (hc : c ≤ s.1) (x y : Int32) : w.foldl (fun x q => if q.2.1 = c then x ||| (1 <<< (nI q.2.2.1 &&& 31)) else x) x = x ∧ w.foldl (fun x q => if q.2.1 = c then nI q.2.2.1 else x) y = y := by
  have hs := zw_ok_sp hA h
  clear h
  induction w with
  | nil => exact ⟨rfl, rfl⟩
  | cons q w ih =>
    have := (hs q (by simp)).1
    simp only [List.foldl_cons, if_neg (show ¬ q.2.1 = c from by omega)]
    exact ih (fun q hq => hs q (by simp [hq]))
theorem zw_hts_come {E : zf_E} (hA : zf_okE E.1) : ∀ {w : zw_w} {s : zf_S}, zw_ok E s w → ∀ c, zw_hts w c = zw_bit (zw_come w c) := by
  intro w
  induction w with
  | nil => intro s _ c; simp [zw_hts, zw_come, zw_bit]
  | cons q w ih =>
    intro s h c
    have hq := zw_ok_sp hA h q (by simp)
    obtain ⟨h1, h2, h3, h4, h5⟩ := h
    simp only [zw_hts, zw_come, List.foldl_cons]
    by_cases e : q.2.1 = c
    · have k := zw_hts_skip hA h5 (c := c) (by omega)
      rw [if_pos e, if_pos e, (k _ 0).1, (k 0 _).2]
      have a4 := hA.2.2.2
      have hne : ¬ nI q.2.2.1 = -9 := by
        intro e2
        have : (nI q.2.2.1).toInt = (-9 : Int32).toInt := by rw [e2]
        rw [nI_toInt (by omega), show (-9 : Int32).toInt = -9 from by decide] at this
        omega
      rw [zw_bit, if_neg hne, Int32.zero_or]
    · rw [if_neg e, if_neg e]
      exact ih h5 c
theorem zw_snoc : ∀ (w : zw_w), w ≠ [] → ∃ v q, w = v ++ [q] := by
  intro w
  induction w with
  | nil => intro h; exact absurd rfl h
  | cons a w ih =>
    intro _
    by_cases e : w = []
    · exact ⟨[], a, by rw [e]; rfl⟩
    · obtain ⟨v, q, h⟩ := ih e
      exact ⟨a :: v, q, by rw [h]; rfl⟩
theorem zw_hts_a (p : zw_w) (q : Nat × zf_S) (c : Nat) : zw_hts (p ++ [q]) c = if q.2.1 = c then zw_hts p c ||| (1 <<< (nI q.2.2.1 &&& 31)) else zw_hts p c := by simp [zw_hts]
theorem zw_come_end {E : zf_E} (hA : zf_okE E.1) {w : zw_w} {s : zf_S} (h : zw_ok E s w) (hne : w ≠ []) : zw_come w (E.1.1 - 1) = nI (zw_end s w).2.1 := by
  obtain ⟨v, q, e⟩ := zw_snoc w hne
  have hq : w[v.length]? = some q := by rw [e, List.getElem?_append_right (Nat.le_refl _), Nat.sub_self]; rfl
  have he : zw_end s w = q.2 := zw_end_at hq (by rw [e]; simp)
  have ho := zw_end_over h
  rw [he] at ho
  have hs := (zw_ok_sp hA h q (by rw [e]; simp)).2.1
  have ho' : E.1.1 ≤ q.2.1 + 1 := ho
  rw [he, e, zw_come_a, if_pos (by omega)]
/-- sizes -/
theorem zc_size (d : Nat) {M : zi_M} {s0 : zf_S} {w : zw_w} (h : zw_cur M s0 w) : zi_run d zm_X8_size 0 [some (.inr (.inr (8, some 0)))] [] M = some (some (.inl (nI w.length)), M) := by
  rw [ze_X8_size_0, h.1]
  have := zp_mm (n := w.length) (L := 6) h.2.1 (by decide)
  rw [show (6 : Int32) = nI 6 from rfl, this]
theorem zw_take_s {w : zw_w} {j : Nat} {q : Nat × zf_S} (h : w[j]? = some q) : w.take (j + 1) = w.take j ++ [q] := by
  rw [List.take_succ, h]; rfl
theorem zc_hts (d : Nat) {M : zi_M} {s0 : zf_S} {w : zw_w} (h : zw_cur M s0 w) (hw : ∀ q, q ∈ w → q.2.1 < 8) {c : Nat} (hc : c < 8) : zi_run (d + 1) zm_X8_heightsIn 0 [some (.inr (.inr (8, some 0))), some (.inl (nI c)), none, none] [] M = some (some (.inl (zw_hts w c)), M) := by
  have hl := h.2.1
  rw [ze_X8_heightsIn_0]
  refine Eq.trans ?_ (zp_for (fun i => zi_run (d + 1) zm_X8_heightsIn 4 [some (.inr (.inr (8, some 0))), some (.inl (nI c)), some (.inl (zw_hts (w.take i) c)), some (.inl (nI (i + 1)))] [] M) w.length (some (some (.inl (zw_hts w c)), M)) ?_ ?_ 0 (Nat.zero_le _))
  · rfl
  · rw [ze_X8_heightsIn_4, List.take_length]
    simp (disch := omega) only [↓zp_dn, ↓zp_hV, ↓zp_hI, ↓zp_hL, ↓zp_hR, ↓zp_hX, zp_eV, zp_eI, zp_eL, zp_eR, zp_eX, zp_eXl, zp_iV, zp_iI, zp_iL, zp_iR, ↓zp_sm, ↓zp_nls, ↓zp_nln, zp_bo0, zp_bo1, zp_okE, zp_ok2E, zp_rfE, ↓reduceIte, if_true, if_false, zp_leT, zp_leF, zp_ltT, zp_ltF, zp_eqT, zp_eqF, zp_leTl, zp_leFl, zp_ltTl, zp_ltFl, zp_leTr, zp_leFr, zp_ltTr, zp_ltFr, zp_eqTr, zp_eqFr, zp_eqTl, zp_eqFl, zp_eqFll, eq_self, zp_addl, zp_addr, zp_mull, zp_mulr, zp_subr, zp_subl, nI_add, pk_mul, zc_size _ h]
  · intro i hi
    have hq : w[i]? = some (w[i]'hi) := List.getElem?_eq_getElem hi
    have hm := hw _ (List.getElem_mem hi)
    obtain ⟨_, g0, g1, _⟩ := h.2.2.2 i _ hq
    rw [ze_X8_heightsIn_4, zw_take_s hq]
    rw [zw_hts_a]
    by_cases e : (w[i]'hi).2.1 = c
    · simp (disch := omega) only [↓zp_dn, ↓zp_hV, ↓zp_hI, ↓zp_hL, ↓zp_hR, ↓zp_hX, zp_eV, zp_eI, zp_eL, zp_eR, zp_eX, zp_eXl, zp_iV, zp_iI, zp_iL, zp_iR, ↓zp_sm, ↓zp_nls, ↓zp_nln, zp_bo0, zp_bo1, zp_okE, zp_ok2E, zp_rfE, ↓reduceIte, if_true, if_false, zp_leT, zp_leF, zp_ltT, zp_ltF, zp_eqT, zp_eqF, zp_leTl, zp_leFl, zp_ltTl, zp_ltFl, zp_leTr, zp_leFr, zp_ltTr, zp_ltFr, zp_eqTr, zp_eqFr, zp_eqTl, zp_eqFl, zp_eqFll, eq_self, zp_addl, zp_addr, zp_mull, zp_mulr, zp_subr, zp_subl, nI_add, pk_mul, zc_size _ h, g0, g1, if_pos e, ze_X8_heightsIn_39]
    · simp (disch := omega) only [↓zp_dn, ↓zp_hV, ↓zp_hI, ↓zp_hL, ↓zp_hR, ↓zp_hX, zp_eV, zp_eI, zp_eL, zp_eR, zp_eX, zp_eXl, zp_iV, zp_iI, zp_iL, zp_iR, ↓zp_sm, ↓zp_nls, ↓zp_nln, zp_bo0, zp_bo1, zp_okE, zp_ok2E, zp_rfE, ↓reduceIte, if_true, if_false, zp_leT, zp_leF, zp_ltT, zp_ltF, zp_eqT, zp_eqF, zp_leTl, zp_leFl, zp_ltTl, zp_ltFl, zp_leTr, zp_leFr, zp_ltTr, zp_ltFr, zp_eqTr, zp_eqFr, zp_eqTl, zp_eqFl, zp_eqFll, eq_self, zp_addl, zp_addr, zp_mull, zp_mulr, zp_subr, zp_subl, nI_add, pk_mul, zc_size _ h, g0, g1, if_neg e, ze_X8_heightsIn_39]
theorem zc_dripc (d : Nat) {M : zi_M} {E : zf_E} {s0 : zf_S} {w : zw_w} (h : zw_cur M s0 w) (h2 : M.1 2 0 2 = E.2.2.1) : zi_run (d + 1) zm_X8_dripColumns 0 [some (.inr (.inr (8, some 0))), none, none] [] M = some (some (.inl (zw_hot E w)), M) := by
  have hl := h.2.1
  rw [ze_X8_dripColumns_0]
  refine Eq.trans ?_ (zp_for (fun i => zi_run (d + 1) zm_X8_dripColumns 4 [some (.inr (.inr (8, some 0))), some (.inl (zw_hot E (w.take i))), some (.inl (nI (i + 1)))] [] M) w.length (some (some (.inl (zw_hot E w)), M)) ?_ ?_ 0 (Nat.zero_le _))
  · rfl
  · rw [ze_X8_dripColumns_4, List.take_length]
    simp (disch := omega) only [↓zp_dn, ↓zp_hV, ↓zp_hI, ↓zp_hL, ↓zp_hR, ↓zp_hX, zp_eV, zp_eI, zp_eL, zp_eR, zp_eX, zp_eXl, zp_iV, zp_iI, zp_iL, zp_iR, ↓zp_sm, ↓zp_nls, ↓zp_nln, zp_bo0, zp_bo1, zp_okE, zp_ok2E, zp_rfE, ↓reduceIte, if_true, if_false, zp_leT, zp_leF, zp_ltT, zp_ltF, zp_eqT, zp_eqF, zp_leTl, zp_leFl, zp_ltTl, zp_ltFl, zp_leTr, zp_leFr, zp_ltTr, zp_ltFr, zp_eqTr, zp_eqFr, zp_eqTl, zp_eqFl, zp_eqFll, eq_self, zp_addl, zp_addr, zp_mull, zp_mulr, zp_subr, zp_subl, nI_add, pk_mul, zc_size _ h]
  · intro i hi
    have hq : w[i]? = some (w[i]'hi) := List.getElem?_eq_getElem hi
    obtain ⟨_, g0, g1, g2, g3, _⟩ := h.2.2.2 i _ hq
    rw [ze_X8_dripColumns_4, zw_take_s hq, zw_hot_a]
    by_cases e : (w[i]'hi).2.2.2.2.1 ≤ E.2.2.1 / 2
    · simp (disch := omega) only [↓zp_dn, ↓zp_hV, ↓zp_hI, ↓zp_hL, ↓zp_hR, ↓zp_hX, zp_eV, zp_eI, zp_eL, zp_eR, zp_eX, zp_eXl, zp_iV, zp_iI, zp_iL, zp_iR, ↓zp_sm, ↓zp_nls, ↓zp_nln, zp_bo0, zp_bo1, zp_okE, zp_ok2E, zp_rfE, ↓reduceIte, if_true, if_false, zp_leT, zp_leF, zp_ltT, zp_ltF, zp_eqT, zp_eqF, zp_leTl, zp_leFl, zp_ltTl, zp_ltFl, zp_leTr, zp_leFr, zp_ltTr, zp_ltFr, zp_eqTr, zp_eqFr, zp_eqTl, zp_eqFl, zp_eqFll, eq_self, zp_addl, zp_addr, zp_mull, zp_mulr, zp_subr, zp_subl, nI_add, pk_mul, zc_size _ h, ze_X2_drips_0, g3, h2, if_pos e, ze_X8_dripColumns_42, zw_hb, Int32.or_zero]
    · simp (disch := omega) only [↓zp_dn, ↓zp_hV, ↓zp_hI, ↓zp_hL, ↓zp_hR, ↓zp_hX, zp_eV, zp_eI, zp_eL, zp_eR, zp_eX, zp_eXl, zp_iV, zp_iI, zp_iL, zp_iR, ↓zp_sm, ↓zp_nls, ↓zp_nln, zp_bo0, zp_bo1, zp_okE, zp_ok2E, zp_rfE, ↓reduceIte, if_true, if_false, zp_leT, zp_leF, zp_ltT, zp_ltF, zp_eqT, zp_eqF, zp_leTl, zp_leFl, zp_ltTl, zp_ltFl, zp_leTr, zp_leFr, zp_ltTr, zp_ltFr, zp_eqTr, zp_eqFr, zp_eqTl, zp_eqFl, zp_eqFll, eq_self, zp_addl, zp_addr, zp_mull, zp_mulr, zp_subr, zp_subl, nI_add, pk_mul, zc_size _ h, ze_X2_drips_0, g0, g3, h2, if_neg e, ze_X8_dripColumns_42, zw_hb]
theorem zc_end (d : Nat) {M : zi_M} {s0 : zf_S} {w : zw_w} (h : zw_cur M s0 w) : zi_run (d + 1) zm_X8_end 0 [some (.inr (.inr (8, some 0)))] [] M = some (some (.inr (.inr (7, some (20 + w.length)))), M) := by
  have hl := h.2.1
  rw [ze_X8_end_0]
  simp (disch := omega) only [↓zp_dn, ↓zp_hV, ↓zp_hI, ↓zp_hL, ↓zp_hR, ↓zp_hX, zp_eV, zp_eI, zp_eL, zp_eR, zp_eX, zp_eXl, zp_iV, zp_iI, zp_iL, zp_iR, ↓zp_sm, ↓zp_nls, ↓zp_nln, zp_bo0, zp_bo1, zp_okE, zp_ok2E, zp_rfE, ↓reduceIte, if_true, if_false, zp_leT, zp_leF, zp_ltT, zp_ltF, zp_eqT, zp_eqF, zp_leTl, zp_leFl, zp_ltTl, zp_ltFl, zp_leTr, zp_leFr, zp_ltTr, zp_ltFr, zp_eqTr, zp_eqFr, zp_eqTl, zp_eqFl, zp_eqFll, eq_self, zp_addl, zp_addr, zp_mull, zp_mulr, zp_subr, zp_subl, nI_add, pk_mul, zc_size _ h]
/-- the class writes a WAY into a row -/
def zw_wrC (M : zi_M) (r : Nat) (w : zw_w) : zi_M := zp_w (zi_sI M 5 r 1 (nI w.length)) 12 r (fun j => if j < w.length then M.1 17 0 j else M.1 12 r j)
theorem zc_write (d : Nat) {M : zi_M} {s0 : zf_S} {w : zw_w} (h : zw_cur M s0 w) {r : Nat} (hr : r < 6) : zi_run (d + 2) zm_X8_write 0 [some (.inr (.inr (8, some 0))), some (.inr (.inr (5, some r))), none] [] M = some (none, zw_wrC M r w) := by
  have hl := h.2.1
  have h8 := h.1
  have cur : ∀ g, zi_run (d + 1) zm_X8_size 0 [some (.inr (.inr (8, some 0)))] [] (zp_w (zi_sI M 5 r 1 (nI w.length)) 12 r g) = some (some (.inl (nI w.length)), zp_w (zi_sI M 5 r 1 (nI w.length)) 12 r g) := by
    intro g
    rw [ze_X8_size_0]
    have e : (zp_w (zi_sI M 5 r 1 (nI w.length)) 12 r g).1 8 0 3 = nI w.length := by simp [zp_w1, zp_sI1, h8]
    rw [e]
    have := zp_mm (n := w.length) (L := 6) h.2.1 (by decide)
    rw [show (6 : Int32) = nI 6 from rfl, this]
  rw [ze_X8_write_0]
  simp (disch := omega) only [↓zp_dn, ↓zp_hV, ↓zp_hI, ↓zp_hL, ↓zp_hR, ↓zp_hX, zp_eV, zp_eI, zp_eL, zp_eR, zp_eX, zp_eXl, zp_iV, zp_iI, zp_iL, zp_iR, ↓zp_sm, ↓zp_nls, ↓zp_nln, zp_bo0, zp_bo1, zp_okE, zp_ok2E, zp_rfE, ↓reduceIte, if_true, if_false, zp_leT, zp_leF, zp_ltT, zp_ltF, zp_eqT, zp_eqF, zp_leTl, zp_leFl, zp_ltTl, zp_ltFl, zp_leTr, zp_leFr, zp_ltTr, zp_ltFr, zp_eqTr, zp_eqFr, zp_eqTl, zp_eqFl, zp_eqFll, eq_self, zp_addl, zp_addr, zp_mull, zp_mulr, zp_subr, zp_subl, nI_add, pk_mul, zc_size _ h, zl_make _ r w.length 40 0 M (zp_ln r hr) (by omega) (by decide)]
  refine Eq.trans ?_ (zp_for (fun i => zi_run (d + 2) zm_X8_write 11 [some (.inr (.inr (8, some 0))), some (.inr (.inr (5, some r))), some (.inl (nI i))] [] (zp_w (zi_sI M 5 r 1 (nI w.length)) 12 r (fun j => if j < i then M.1 17 0 j else if j < w.length then 0 else M.1 12 r j))) w.length (some (none, zw_wrC M r w)) ?_ ?_ 0 (Nat.zero_le _))
  · simp only [Nat.not_lt_zero, if_false]; rfl
  · rw [ze_X8_write_11]
    simp (disch := omega) only [↓zp_dn, ↓zp_hV, ↓zp_hI, ↓zp_hL, ↓zp_hR, ↓zp_hX, zp_eV, zp_eI, zp_eL, zp_eR, zp_eX, zp_eXl, zp_iV, zp_iI, zp_iL, zp_iR, ↓zp_sm, ↓zp_nls, ↓zp_nln, zp_bo0, zp_bo1, zp_okE, zp_ok2E, zp_rfE, ↓reduceIte, if_true, if_false, zp_leT, zp_leF, zp_ltT, zp_ltF, zp_eqT, zp_eqF, zp_leTl, zp_leFl, zp_ltTl, zp_ltFl, zp_leTr, zp_leFr, zp_ltTr, zp_ltFr, zp_eqTr, zp_eqFr, zp_eqTl, zp_eqFl, zp_eqFll, eq_self, zp_addl, zp_addr, zp_mull, zp_mulr, zp_subr, zp_subl, nI_add, pk_mul, cur]
    congr 2
    refine zp_wU _ _ _ (fun j => ?_)
    by_cases e : j < w.length <;> simp [e]
  · intro i hi
    rw [ze_X8_write_11]
    simp (disch := omega) only [↓zp_dn, ↓zp_hV, ↓zp_hI, ↓zp_hL, ↓zp_hR, ↓zp_hX, zp_eV, zp_eI, zp_eL, zp_eR, zp_eX, zp_eXl, zp_iV, zp_iI, zp_iL, zp_iR, ↓zp_sm, ↓zp_nls, ↓zp_nln, zp_bo0, zp_bo1, zp_okE, zp_ok2E, zp_rfE, ↓reduceIte, if_true, if_false, zp_leT, zp_leF, zp_ltT, zp_ltF, zp_eqT, zp_eqF, zp_leTl, zp_leFl, zp_ltTl, zp_ltFl, zp_leTr, zp_leFr, zp_ltTr, zp_ltFr, zp_eqTr, zp_eqFr, zp_eqTl, zp_eqFl, zp_eqFll, eq_self, zp_addl, zp_addr, zp_mull, zp_mulr, zp_subr, zp_subl, nI_add, pk_mul, cur, ze_X5_set_0, ze_X5_has_0, zp_ln r hr, zp_ofn, zp_w1, zp_sI1, Nat.reduceEqDiff, Nat.reduceLT, Nat.reduceLeDiff, Nat.reduceAdd, Nat.reduceMul, Nat.reduceSub, reduceCtorEq, Int32.reduceLT, Int32.reduceLE, not_true_eq_false, not_false_eq_true, and_true, true_and, and_false, false_and, or_true, true_or, or_false, false_or]
    rw [zp_wsI]
    congr 1
    refine zp_wU _ _ _ (fun j => ?_)
    by_cases h1 : j = i
    · subst h1; simp
    · by_cases h2 : j < i
      · simp [h1, h2, Nat.lt_succ_of_lt h2]
      · simp [h1, h2, show ¬ j < i + 1 from by omega]
/-- the reference does -/
def zw_wrR (M : zi_M) (r : Nat) (w : zw_w) : zi_M := zp_l (zi_sI M 24 0 r (nI w.length)) 25 0 (40 * r) w.length (fun j => M.1 34 0 j)
theorem zr_lays (d : Nat) {M : zi_M} {E : zf_E} {s : zf_S} {w : zw_w} (h : zw_res M E s w) {r : Nat} (hr : r < 6) : zi_run d zm_X10_lays 0 [some (.inr (.inr (10, some 0))), some (.inl (nI r)), none] [] M = some (none, zw_wrR M r w) := by
  have hl := h.2.2.1
  have h28 := h.2.1
  rw [ze_X10_lays_0]
  simp (disch := omega) only [↓zp_dn, ↓zp_hV, ↓zp_hI, ↓zp_hL, ↓zp_hR, ↓zp_hX, zp_eV, zp_eI, zp_eL, zp_eR, zp_eX, zp_eXl, zp_iV, zp_iI, zp_iL, zp_iR, ↓zp_sm, ↓zp_nls, ↓zp_nln, zp_bo0, zp_bo1, zp_okE, zp_ok2E, zp_rfE, ↓reduceIte, if_true, if_false, zp_leT, zp_leF, zp_ltT, zp_ltF, zp_eqT, zp_eqF, zp_leTl, zp_leFl, zp_ltTl, zp_ltFl, zp_leTr, zp_leFr, zp_ltTr, zp_ltFr, zp_eqTr, zp_eqFr, zp_eqTl, zp_eqFl, zp_eqFll, eq_self, zp_addl, zp_addr, zp_mull, zp_mulr, zp_subr, zp_subl, nI_add, pk_mul, h28]
  refine Eq.trans ?_ (zp_for (fun i => zi_run d zm_X10_lays 12 [some (.inr (.inr (10, some 0))), some (.inl (nI r)), some (.inl (nI i))] [] (zp_l (zi_sI M 24 0 r (nI w.length)) 25 0 (40 * r) i (fun j => M.1 34 0 j))) w.length (some (none, zw_wrR M r w)) ?_ ?_ 0 (Nat.zero_le _))
  · simp only [zp_l0]; rfl
  · rw [ze_X10_lays_12]
    simp (disch := omega) only [↓zp_dn, ↓zp_hV, ↓zp_hI, ↓zp_hL, ↓zp_hR, ↓zp_hX, zp_eV, zp_eI, zp_eL, zp_eR, zp_eX, zp_eXl, zp_iV, zp_iI, zp_iL, zp_iR, ↓zp_sm, ↓zp_nls, ↓zp_nln, zp_bo0, zp_bo1, zp_okE, zp_ok2E, zp_rfE, ↓reduceIte, if_true, if_false, zp_leT, zp_leF, zp_ltT, zp_ltF, zp_eqT, zp_eqF, zp_leTl, zp_leFl, zp_ltTl, zp_ltFl, zp_leTr, zp_leFr, zp_ltTr, zp_ltFr, zp_eqTr, zp_eqFr, zp_eqTl, zp_eqFl, zp_eqFll, eq_self, zp_addl, zp_addr, zp_mull, zp_mulr, zp_subr, zp_subl, nI_add, pk_mul, zp_sI1, zp_w1, zp_sL1, zp_sR1, zp_l1, Nat.reduceEqDiff, Nat.reduceLT, Nat.reduceLeDiff, Nat.reduceAdd, Nat.reduceMul, Nat.reduceSub, reduceCtorEq, Int32.reduceLT, Int32.reduceLE, not_true_eq_false, not_false_eq_true, and_true, true_and, and_false, false_and, or_true, true_or, or_false, false_or, h28]
    rfl
  · intro i hi
    rw [ze_X10_lays_12]
    simp (disch := omega) only [↓zp_dn, ↓zp_hV, ↓zp_hI, ↓zp_hL, ↓zp_hR, ↓zp_hX, zp_eV, zp_eI, zp_eL, zp_eR, zp_eX, zp_eXl, zp_iV, zp_iI, zp_iL, zp_iR, ↓zp_sm, ↓zp_nls, ↓zp_nln, zp_bo0, zp_bo1, zp_okE, zp_ok2E, zp_rfE, ↓reduceIte, if_true, if_false, zp_leT, zp_leF, zp_ltT, zp_ltF, zp_eqT, zp_eqF, zp_leTl, zp_leFl, zp_ltTl, zp_ltFl, zp_leTr, zp_leFr, zp_ltTr, zp_ltFr, zp_eqTr, zp_eqFr, zp_eqTl, zp_eqFl, zp_eqFll, eq_self, zp_addl, zp_addr, zp_mull, zp_mulr, zp_subr, zp_subl, nI_add, pk_mul, zp_sI1, zp_w1, zp_sL1, zp_sR1, zp_l1, Nat.reduceEqDiff, Nat.reduceLT, Nat.reduceLeDiff, Nat.reduceAdd, Nat.reduceMul, Nat.reduceSub, reduceCtorEq, Int32.reduceLT, Int32.reduceLE, not_true_eq_false, not_false_eq_true, and_true, true_and, and_false, false_and, or_true, true_or, or_false, false_or, h28]
    rw [zp_lS _ _ _ _ _ _ _ rfl]
/-- but for one row -/
def zq_nr (r : Nat) (M M' : zi_M) : Prop := ∀ c k s, zq_gp c k s ≠ 0 → ¬ (c = 5 ∧ k = r ∧ s = 1) → ¬ (c = 12 ∧ k = r) → ¬ (c = 24 ∧ s = r) → ¬ (c = 25 ∧ 40 * r ≤ s ∧ s < 40 * r + 40) → M'.1 c k s = M.1 c k s
theorem zq_nr_rfl (r : Nat) (M : zi_M) : zq_nr r M M := fun _ _ _ _ _ _ _ _ => rfl
theorem zq_nr_tr {r : Nat} {M M1 M2 : zi_M} (h : zq_nr r M M1) (h2 : zq_nr r M1 M2) : zq_nr r M M2 := fun c k s a b e f g => (h2 c k s a b e f g).trans (h c k s a b e f g)
theorem zq_nb_nr {r : Nat} {M M1 : zi_M} (h : zq_nb M M1) : zq_nr r M M1 := fun c k s a _ _ _ _ => h c k s a
theorem zq_nr_C (M : zi_M) {r : Nat} (hr : r < 6) (w : zw_w) : zq_nr r M (zw_wrC M r w) := by
  intro c k s _ h5 h12 _ _
  rw [zw_wrC, zp_w1]
  by_cases e : c = 12
  · by_cases e2 : k = r
    · exact absurd ⟨e, e2⟩ h12
    · rw [if_pos e, if_neg e2, zp_sI1, if_neg (by omega)]
  · rw [if_neg e, zp_sI1]
    by_cases e5 : c = 5
    · by_cases e6 : s = 1
      · rw [if_pos e5, if_pos e6, if_neg (fun e7 => h5 ⟨e5, e7, e6⟩)]
      · rw [if_pos e5, if_neg e6]
    · rw [if_neg e5]
theorem zq_nr_R (M : zi_M) {r : Nat} {w : zw_w} (hw : w.length ≤ 6) : zq_nr r M (zw_wrR M r w) := by
  intro c k s _ _ _ h24 h25
  rw [zw_wrR, zp_l1]
  by_cases e : c = 25
  · by_cases e2 : k = 0
    · rw [if_pos e, if_pos e2, if_neg (fun q => h25 ⟨e, by omega, by omega⟩), zp_sI1, if_neg (by omega), e, e2]
    · rw [if_pos e, if_neg e2, zp_sI1, if_neg (by omega)]
  · rw [if_neg e, zp_sI1]
    by_cases e5 : c = 24
    · rw [if_pos e5, if_neg (fun q => h24 ⟨e5, q⟩)]
    · rw [if_neg e5]
theorem zq_nr_ag {r : Nat} {M M' : zi_M} (h : zq_nr r M M') (hr : r < 6) {g : Nat} (hg : g ≠ 0) (h1 : g ≠ 1) : zq_ag g M M' := fun c k s e => h c k s (by rw [e]; exact hg) (fun a => h1 (by rw [← e, a.1, a.2.1]; simp [zq_gp, hr])) (fun a => h1 (by rw [← e, a.1, a.2]; simp [zq_gp, hr])) (fun a => h1 (by rw [← e, a.1]; simp [zq_gp])) (fun a => h1 (by rw [← e, a.1]; simp [zq_gp]))
theorem zq_inv_nr {n : Nat} {xs : Nat → Int32} {r : Nat} {M M' : zi_M} (hr : r < 6) (h : zq_nr r M M') (hl : zq_longs M → zq_longs M') (hrow : zq_row (M'.1 5 r 1) (M'.1 12 r) (M'.1 24 0 r) (fun j => M'.1 25 0 (40 * r + j)) 40) (hI : zq_inv n xs M) : zq_inv n xs M' := by
  obtain ⟨a1, a2, a3, a4, ⟨A, K, a5⟩, a6⟩ := hI
  refine ⟨zq_rows_up a1 r hrow ?_, zq_texts_ag (zq_nr_ag h hr (by decide) (by decide)) a2, zq_told_ag (zq_nr_ag h hr (by decide) (by decide)) a3, hl a4, ⟨A, K, zq_sky_ag (zq_nr_ag h hr (by decide) (by decide)) (zq_nr_ag h hr (by decide) (by decide)) a5⟩, zq_con_ag (zq_nr_ag h hr (by decide) (by decide)) a6⟩
  intro q hq hne
  exact ⟨h 5 q 1 (by simp [zq_gp, hq]) (by omega) (by omega) (by omega) (by omega), fun j => h 12 q j (by simp [zq_gp, hq]) (by omega) (by omega) (by omega) (by omega), h 24 0 q (by simp [zq_gp]) (by omega) (by omega) (by omega) (by omega), fun j hj => h 25 0 (40 * q + j) (by simp [zq_gp]) (by omega) (by omega) (by omega) (by omega)⟩
theorem zq_row_keep {r : Nat} {M M' : zi_M} (hr : r < 6) (h1 : M'.1 5 r 1 = M.1 5 r 1) (h2 : ∀ j, M'.1 12 r j = M.1 12 r j) (h3 : M'.1 24 0 r = M.1 24 0 r) (h4 : ∀ j, j < 40 → M'.1 25 0 (40 * r + j) = M.1 25 0 (40 * r + j)) (h : zq_rows M) : zq_row (M'.1 5 r 1) (M'.1 12 r) (M'.1 24 0 r) (fun j => M'.1 25 0 (40 * r + j)) 40 := by
  rcases h r hr with ⟨f1, f2⟩ | ⟨m, f1, f2, f3, f4⟩
  · exact Or.inl ⟨by rw [h1, f1], by rw [h3, f2]⟩
  · exact Or.inr ⟨m, f1, by rw [h1, f2], by rw [h3, f3], fun j hj => (h2 j).trans ((f4 j hj).trans (h4 j (by omega)).symm)⟩
/-- row r holds a WAY, in the class, in the reference; or nothing was written -/
def zw_rC (M0 M : zi_M) (r : Nat) (acc : Option zw_w) : Prop := match acc with
  | none => M.1 5 r 1 = M0.1 5 r 1 ∧ ∀ j, M.1 12 r j = M0.1 12 r j
  | some w => M.1 5 r 1 = nI w.length ∧ ∀ j q, w[j]? = some q → M.1 12 r j = nI q.1
def zw_rR (M0 M : zi_M) (r : Nat) (acc : Option zw_w) : Prop := match acc with
  | none => M.1 24 0 r = M0.1 24 0 r ∧ ∀ j, j < 40 → M.1 25 0 (40 * r + j) = M0.1 25 0 (40 * r + j)
  | some w => M.1 24 0 r = nI w.length ∧ ∀ j q, w[j]? = some q → M.1 25 0 (40 * r + j) = nI q.1
theorem zw_rC_w {M0 M : zi_M} {r : Nat} {s0 : zf_S} {w : zw_w} (h : zw_cur M s0 w) : zw_rC M0 (zw_wrC M r w) r (some w) := by
  refine ⟨by simp [zw_wrC, zp_w1, zp_sI1], fun j q hq => ?_⟩
  have hj := (List.getElem?_eq_some_iff.mp hq).1
  simp only [zw_wrC, zp_w1, ↓reduceIte, if_pos hj]
  exact (h.2.2.2 j q hq).1
theorem zw_rR_w {M0 M : zi_M} {r : Nat} {E : zf_E} {s0 : zf_S} {w : zw_w} (h : zw_res M E s0 w) : zw_rR M0 (zw_wrR M r w) r (some w) := by
  refine ⟨by simp [zw_wrR, zp_l1, zp_sI1], fun j q hq => ?_⟩
  have hj := (List.getElem?_eq_some_iff.mp hq).1
  simp only [zw_wrR, zp_l1, ↓reduceIte, if_pos (show 40 * r ≤ 40 * r + j ∧ 40 * r + j < 40 * r + w.length from by omega), Nat.add_sub_cancel_left]
  exact h.2.2.2.2.1 j q hq
theorem zw_rows {n : Nat} {xs : Nat → Int32} {M M1 M2 : zi_M} {r : Nat} {acc : Option zw_w} (hI : zq_inv n xs M) (hr : r < 6) (hw : ∀ w, acc = some w → w.length ≤ 40) (h1 : zq_nr r M M1) (h2 : zq_nr r M1 M2) (c1 : zw_rC M M1 r acc) (c1' : ∀ j, M2.1 5 r 1 = M1.1 5 r 1 ∧ M2.1 12 r j = M1.1 12 r j) (c0 : M1.1 24 0 r = M.1 24 0 r ∧ ∀ j, j < 40 → M1.1 25 0 (40 * r + j) = M.1 25 0 (40 * r + j)) (c2 : zw_rR M1 M2 r acc) (hl : M2.2 = M.2) : zq_inv n xs M2 := by
  refine zq_inv_nr hr (zq_nr_tr h1 h2) (fun a => by simp only [zq_longs, hl] at a ⊢; exact a) ?_ hI
  cases acc with
  | none =>
    exact zq_row_keep hr ((c1' 0).1.trans c1.1) (fun j => (c1' j).2.trans (c1.2 j)) (c2.1.trans c0.1) (fun j hj => (c2.2 j hj).trans (c0.2 j hj)) hI.1
  | some w =>
    refine Or.inr ⟨w.length, hw w rfl, (c1' 0).1.trans c1.1, c2.1, fun j hj => ?_⟩
    have hq : w[j]? = some (w[j]'hj) := List.getElem?_eq_getElem hj
    show M2.1 12 r j = M2.1 25 0 (40 * r + j)
    rw [(c1' j).2, c1.2 j _ hq, c2.2 j _ hq]
