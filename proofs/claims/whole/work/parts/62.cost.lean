/-! THE PURE PART: what a WAY costs; strength -/
def zs_k (K : Int32) (l b : Nat) : Nat := if b = 2 then (if K = 1 then 3 + l else if K = 4 then 3 + l else if K = 5 then 1 + l else 2 + l) else if b = 1 then (if K = 1 then 0 else if K = 4 then 0 else if K = 3 then 1 + l else if K = 5 then l else 1) else 0
theorem zs_kE (K : Int32) {l : Nat} (hl : l ≤ 3) (b : Nat) : zf_cost K (nI l) b = nI (zs_k K l b) := by
  have h' : l = 0 ∨ l = 1 ∨ l = 2 ∨ l = 3 := by omega
  simp only [zf_cost, zs_k]
  by_cases b2 : b = 2
  · simp only [if_pos b2]
    by_cases k1 : K = 1
    · simp only [if_pos k1]; rcases h' with e | e | e | e <;> subst e <;> decide
    · simp only [if_neg k1]
      by_cases k4 : K = 4
      · simp only [if_pos k4]; rcases h' with e | e | e | e <;> subst e <;> decide
      · simp only [if_neg k4]
        by_cases k5 : K = 5
        · simp only [if_pos k5]; rcases h' with e | e | e | e <;> subst e <;> decide
        · simp only [if_neg k5]; rcases h' with e | e | e | e <;> subst e <;> decide
  · simp only [if_neg b2]
    by_cases b1 : b = 1
    · simp only [if_pos b1]
      by_cases k1 : K = 1
      · simp only [if_pos k1]; decide
      · simp only [if_neg k1]
        by_cases k4 : K = 4
        · simp only [if_pos k4]; decide
        · simp only [if_neg k4]
          by_cases k3 : K = 3
          · simp only [if_pos k3]; rcases h' with e | e | e | e <;> subst e <;> decide
          · simp only [if_neg k3]
            by_cases k5 : K = 5
            · simp only [if_pos k5]; rcases h' with e | e | e | e <;> subst e <;> decide
            · simp only [if_neg k5]; decide
    · simp only [if_neg b1]; decide
theorem zs_k6 (K : Int32) {l : Nat} (hl : l ≤ 3) (b : Nat) : zs_k K l b ≤ 6 := by
  simp only [zs_k]; repeat' split
  all_goals omega
theorem zs_kM (K : Int32) {l l' : Nat} (h : l' ≤ l) (b : Nat) : zs_k K l' b ≤ zs_k K l b := by
  simp only [zs_k]; repeat' split
  all_goals omega
def zs_c (E : zf_E) (t : zf_S) (b l : Nat) : Nat := if zf_at E.1 t.1 t.2.1 = 3 then 0 else zs_k E.2.1 l b
theorem zs_c6 (E : zf_E) (t : zf_S) (b : Nat) {l : Nat} (hl : l ≤ 3) : zs_c E t b l ≤ 6 := by
  simp only [zs_c]; split
  · omega
  · exact zs_k6 _ hl b
theorem zs_cM (E : zf_E) (t : zf_S) (b : Nat) {l l' : Nat} (h : l' ≤ l) : zs_c E t b l' ≤ zs_c E t b l := by
  simp only [zs_c]; split
  · omega
  · exact zs_kM _ h b
def zs_sh (t : zf_S) (x : Int32) : zf_S := (t.1, t.2.1, x, t.2.2.2.1, t.2.2.2.2.1, 0)
def zs_bt (E : zf_E) (t : zf_S) (b : Nat) : zf_S := (zf_col E.1 t, t.2.1 + b - 1, 0, zf_heat E (zf_mv E t b), zf_clog E (zf_mv E t b), 0)
abbrev zs_g (E : zf_E) (t : zf_S) (b : Nat) : Prop := zf_can E.1 (zs_sh t 0) b ∧ zf_heat E (zf_mv E t b) ≤ E.2.2.1 ∧ zf_clog E (zf_mv E t b) ≤ 2
theorem zs_fell0 (E : zf_E) (s : zf_S) : zf_fell E s = 0 ↔ (0 ≤ s.2.2.1 ∧ zf_heat E s ≤ E.2.2.1 ∧ zf_clog E s ≤ 2) := by
  unfold zf_fell
  by_cases h1 : 0 ≤ s.2.2.1
  · by_cases h2 : zf_heat E s ≤ E.2.2.1
    · by_cases h3 : zf_clog E s ≤ 2
      · simp [h1, h2, h3]
      · simp [h1, h2, h3]
    · simp [h1, h2]
  · simp [h1]
theorem zs_str {E : zf_E} {l : Nat} (hl : l ≤ 3) (hE : E.2.2.2.1 = nI l) (t : zf_S) (a b : Nat) : (zf_mv E (zs_sh t (nI a)) b).2.2.1 = nI a - nI (zs_c E t b l) := by
  show (if zf_at E.1 t.1 t.2.1 = 3 then nI a else nI a - zf_cost E.2.1 E.2.2.2.1 b) = _
  simp only [zs_c, hE, zs_kE E.2.1 hl b]
  split
  · rw [nI_0, Int32.sub_zero]
  · rfl
theorem zs_0le {a c : Nat} (ha : a ≤ 40) (hc : c ≤ 6) : 0 ≤ nI a - nI c ↔ c ≤ a := by
  by_cases h : c ≤ a
  · rw [pk_sub h]
    exact ⟨fun _ => h, fun _ => nI_pos' (by omega)⟩
  · have := pk_sneg (a := a) (b := c) (by omega) (by omega)
    exact ⟨fun q => absurd q ((zp_ltnle _ _).mp this), fun q => absurd q h⟩
theorem zs_good {E : zf_E} {l : Nat} (hl : l ≤ 3) (hE : E.2.2.2.1 = nI l) (t : zf_S) {a : Nat} (ha : a ≤ 40) (b : Nat) : zw_good E (zs_sh t (nI a)) b ↔ zs_g E t b ∧ zs_c E t b l ≤ a := by
  have h1 : zf_can E.1 (zs_sh t (nI a)) b ↔ zf_can E.1 (zs_sh t 0) b := Iff.rfl
  have h2 := zs_fell0 E (zf_mv E (zs_sh t (nI a)) b)
  rw [zs_str hl hE, zs_0le ha (zs_c6 E t b hl)] at h2
  have h3 : zf_heat E (zf_mv E (zs_sh t (nI a)) b) = zf_heat E (zf_mv E t b) := rfl
  have h4 : zf_clog E (zf_mv E (zs_sh t (nI a)) b) = zf_clog E (zf_mv E t b) := rfl
  rw [h3, h4] at h2
  constructor
  · intro ⟨q1, q2⟩
    have := h2.mp q2
    exact ⟨⟨h1.mp q1, this.2⟩, this.1⟩
  · intro ⟨⟨q1, q2⟩, q3⟩
    exact ⟨h1.mpr q1, h2.mpr ⟨q3, q2⟩⟩
theorem zs_btE {E : zf_E} {l : Nat} (hl : l ≤ 3) (hE : E.2.2.2.1 = nI l) (t : zf_S) {a : Nat} (ha : a ≤ 40) {b : Nat} (h : zw_good E (zs_sh t (nI a)) b) : zf_bt E (zs_sh t (nI a)) b = zs_sh (zs_bt E t b) (nI (a - zs_c E t b l)) := by
  have hc := ((zs_good hl hE t ha b).mp h).2
  have hs := zs_str hl hE t a b
  rw [pk_sub hc] at hs
  show (zf_col E.1 t, t.2.1 + b - 1, (zf_mv E (zs_sh t (nI a)) b).2.2.1, zf_heat E (zf_mv E t b), zf_clog E (zf_mv E t b), zf_fell E (zf_mv E (zs_sh t (nI a)) b)) = _
  rw [hs, h.2]; rfl
def zs_br (E : zf_E) (l : Nat) (f : zf_S → List Nat) (t : zf_S) (b : Nat) : List Nat := if zs_g E t b then (f (zs_bt E t b)).map (fun c => zs_c E t b l + c) else []
def zs_C (E : zf_E) (l : Nat) : Nat → zf_S → List Nat
  | 0, t => if zf_over E.1 t then [0] else []
  | n + 1, t => if zf_over E.1 t then [0] else zs_br E l (zs_C E l n) t 0 ++ (zs_br E l (zs_C E l n) t 1 ++ zs_br E l (zs_C E l n) t 2)
theorem zs_C_over {E : zf_E} {t : zf_S} (h : zf_over E.1 t) (l n : Nat) : zs_C E l n t = [0] := by
  cases n <;> simp only [zs_C, if_pos h]
theorem zs_brm {E : zf_E} {l : Nat} {f : zf_S → List Nat} {t : zf_S} {b c : Nat} : c ∈ zs_br E l f t b ↔ zs_g E t b ∧ ∃ c', c' ∈ f (zs_bt E t b) ∧ c = zs_c E t b l + c' := by
  rw [zs_br]
  by_cases h : zs_g E t b
  · rw [if_pos h, List.mem_map]
    exact ⟨fun ⟨c', a, e⟩ => ⟨h, c', a, e.symm⟩, fun ⟨_, c', a, e⟩ => ⟨c', a, e.symm⟩⟩
  · rw [if_neg h]
    exact ⟨fun q => (by cases q), fun q => absurd q.1 h⟩
theorem zs_C_le (E : zf_E) {l : Nat} (hl : l ≤ 3) : ∀ (n : Nat) (t : zf_S) (c : Nat), c ∈ zs_C E l n t → c ≤ 6 * n := by
  intro n
  induction n with
  | zero =>
    intro t c h
    simp only [zs_C] at h
    split at h
    · rw [List.mem_singleton.mp h]; omega
    · cases h
  | succ n ih =>
    intro t c h
    simp only [zs_C] at h
    have key : ∀ b, c ∈ zs_br E l (zs_C E l n) t b → c ≤ 6 * (n + 1) := by
      intro b hb
      obtain ⟨_, c', h1, h2⟩ := zs_brm.mp hb
      have := ih _ c' h1
      have := zs_c6 E t b hl
      omega
    split at h
    · rw [List.mem_singleton.mp h]; omega
    · rcases List.mem_append.mp h with h | h
      · exact key 0 h
      · rcases List.mem_append.mp h with h | h
        · exact key 1 h
        · exact key 2 h
theorem zs_C_mono (E : zf_E) {l l' : Nat} (hll : l' ≤ l) : ∀ (n : Nat) (t : zf_S) (c : Nat), c ∈ zs_C E l n t → ∃ c', c' ∈ zs_C E l' n t ∧ c' ≤ c := by
  intro n
  induction n with
  | zero => intro t c h; exact ⟨c, h, Nat.le_refl c⟩
  | succ n ih =>
    intro t c h
    by_cases ho : zf_over E.1 t
    · rw [zs_C_over ho] at h ⊢; exact ⟨c, h, Nat.le_refl c⟩
    · have key : ∀ b, c ∈ zs_br E l (zs_C E l n) t b → ∃ c', c' ∈ zs_br E l' (zs_C E l' n) t b ∧ c' ≤ c := by
        intro b hb
        obtain ⟨g, c1, h1, h2⟩ := zs_brm.mp hb
        obtain ⟨c2, h3, h4⟩ := ih _ c1 h1
        have := zs_cM E t b hll
        exact ⟨zs_c E t b l' + c2, zs_brm.mpr ⟨g, c2, h3, rfl⟩, by omega⟩
      simp only [zs_C, if_neg ho] at h ⊢
      rcases List.mem_append.mp h with h | h
      · obtain ⟨c', q1, q2⟩ := key 0 h
        exact ⟨c', List.mem_append.mpr (Or.inl q1), q2⟩
      · rcases List.mem_append.mp h with h | h
        · obtain ⟨c', q1, q2⟩ := key 1 h
          exact ⟨c', List.mem_append.mpr (Or.inr (List.mem_append.mpr (Or.inl q1))), q2⟩
        · obtain ⟨c', q1, q2⟩ := key 2 h
          exact ⟨c', List.mem_append.mpr (Or.inr (List.mem_append.mpr (Or.inr q1))), q2⟩
theorem zw_brm {E : zf_E} {f : zf_S → List zw_w} {s : zf_S} {b : Nat} : (∃ w, w ∈ zw_br E f s b) ↔ zw_good E s b ∧ ∃ w, w ∈ f (zf_bt E s b) := by
  rw [zw_br]
  by_cases h : zw_good E s b
  · rw [if_pos h]
    constructor
    · intro ⟨w, hw⟩
      obtain ⟨v, hv, _⟩ := List.mem_map.mp hw
      exact ⟨h, v, hv⟩
    · intro ⟨_, v, hv⟩
      exact ⟨_, List.mem_map.mpr ⟨v, hv, rfl⟩⟩
  · rw [if_neg h]
    exact ⟨fun ⟨w, q⟩ => (by cases q), fun q => absurd q.1 h⟩
/-- there is a WAY with strength a if and only if there is one that costs no more -/
theorem zs_has (E : zf_E) {l : Nat} (hl : l ≤ 3) (hE : E.2.2.2.1 = nI l) : ∀ (n : Nat) (t : zf_S) (a : Nat), a ≤ 40 → ((∃ w, w ∈ zw_ways E n (zs_sh t (nI a))) ↔ ∃ c, c ∈ zs_C E l n t ∧ c ≤ a) := by
  intro n
  induction n with
  | zero =>
    intro t a ha
    by_cases ho : zf_over E.1 t
    · rw [zs_C_over ho, zw_ways_over E 0 _ (show zf_over E.1 (zs_sh t (nI a)) from ho)]
      exact ⟨fun _ => ⟨0, by simp, Nat.zero_le a⟩, fun _ => ⟨[], by simp⟩⟩
    · have ho' : ¬ zf_over E.1 (zs_sh t (nI a)) := ho
      simp only [zw_ways, zs_C, if_neg ho, if_neg ho']
      exact ⟨fun ⟨w, q⟩ => (by cases q), fun ⟨w, q, _⟩ => (by cases q)⟩
  | succ n ih =>
    intro t a ha
    by_cases ho : zf_over E.1 t
    · rw [zs_C_over ho, zw_ways_over E (n + 1) _ (show zf_over E.1 (zs_sh t (nI a)) from ho)]
      exact ⟨fun _ => ⟨0, by simp, Nat.zero_le a⟩, fun _ => ⟨[], by simp⟩⟩
    · have ho' : ¬ zf_over E.1 (zs_sh t (nI a)) := ho
      have key : ∀ b, (∃ w, w ∈ zw_br E (zw_ways E n) (zs_sh t (nI a)) b) ↔ ∃ c, c ∈ zs_br E l (zs_C E l n) t b ∧ c ≤ a := by
        intro b
        rw [zw_brm]
        constructor
        · intro ⟨g, hw⟩
          obtain ⟨g1, g2⟩ := (zs_good hl hE t ha b).mp g
          rw [zs_btE hl hE t ha g] at hw
          obtain ⟨c, c1, c2⟩ := (ih _ _ (by omega)).mp hw
          exact ⟨zs_c E t b l + c, zs_brm.mpr ⟨g1, c, c1, rfl⟩, by omega⟩
        · intro ⟨c, hc, hca⟩
          obtain ⟨g1, c1, c2, c3⟩ := zs_brm.mp hc
          have g := (zs_good hl hE t ha b).mpr ⟨g1, by omega⟩
          refine ⟨g, ?_⟩
          rw [zs_btE hl hE t ha g]
          exact (ih _ _ (by omega)).mpr ⟨c1, c2, by omega⟩
      have e1 : ∀ (f : Nat → List zw_w), (∃ w, w ∈ f 0 ++ (f 1 ++ f 2)) ↔ ((∃ w, w ∈ f 0) ∨ (∃ w, w ∈ f 1) ∨ ∃ w, w ∈ f 2) := by
        intro f
        simp only [List.mem_append]
        exact ⟨fun ⟨w, h⟩ => h.elim (fun q => Or.inl ⟨w, q⟩) (fun h => h.elim (fun q => Or.inr (Or.inl ⟨w, q⟩)) (fun q => Or.inr (Or.inr ⟨w, q⟩))), fun h => h.elim (fun ⟨w, q⟩ => ⟨w, Or.inl q⟩) (fun h => h.elim (fun ⟨w, q⟩ => ⟨w, Or.inr (Or.inl q)⟩) (fun ⟨w, q⟩ => ⟨w, Or.inr (Or.inr q)⟩))⟩
      have e2 : ∀ (f : Nat → List Nat), (∃ w, w ∈ f 0 ++ (f 1 ++ f 2) ∧ w ≤ a) ↔ ((∃ w, w ∈ f 0 ∧ w ≤ a) ∨ (∃ w, w ∈ f 1 ∧ w ≤ a) ∨ ∃ w, w ∈ f 2 ∧ w ≤ a) := by
        intro f
        simp only [List.mem_append]
        exact ⟨fun ⟨w, h, z⟩ => h.elim (fun q => Or.inl ⟨w, q, z⟩) (fun h => h.elim (fun q => Or.inr (Or.inl ⟨w, q, z⟩)) (fun q => Or.inr (Or.inr ⟨w, q, z⟩))), fun h => h.elim (fun ⟨w, q, z⟩ => ⟨w, Or.inl q, z⟩) (fun h => h.elim (fun ⟨w, q, z⟩ => ⟨w, Or.inr (Or.inl q), z⟩) (fun ⟨w, q, z⟩ => ⟨w, Or.inr (Or.inr q), z⟩))⟩
      simp only [zw_ways, zs_C, if_neg ho, if_neg ho']
      rw [e1 (zw_br E (zw_ways E n) (zs_sh t (nI a))), e2 (zs_br E l (zs_C E l n) t), key 0, key 1, key 2]
/-- with much strength: what is left at the ends -/
theorem zs_end (E : zf_E) {l : Nat} (hl : l ≤ 3) (hE : E.2.2.2.1 = nI l) : ∀ (n : Nat) (t : zf_S) (a : Nat), a ≤ 40 → 6 * n ≤ a → (zw_ways E n (zs_sh t (nI a))).map (fun w => (zw_end (zs_sh t (nI a)) w).2.2.1) = (zs_C E l n t).map (fun c => nI (a - c)) := by
  intro n
  induction n with
  | zero =>
    intro t a ha _
    by_cases ho : zf_over E.1 t
    · rw [zs_C_over ho, zw_ways_over E 0 _ (show zf_over E.1 (zs_sh t (nI a)) from ho)]; rfl
    · have ho' : ¬ zf_over E.1 (zs_sh t (nI a)) := ho
      simp only [zw_ways, zs_C, if_neg ho, if_neg ho', List.map_nil]
  | succ n ih =>
    intro t a ha h6
    by_cases ho : zf_over E.1 t
    · rw [zs_C_over ho, zw_ways_over E (n + 1) _ (show zf_over E.1 (zs_sh t (nI a)) from ho)]; rfl
    · have ho' : ¬ zf_over E.1 (zs_sh t (nI a)) := ho
      have key : ∀ b, (zw_br E (zw_ways E n) (zs_sh t (nI a)) b).map (fun w => (zw_end (zs_sh t (nI a)) w).2.2.1) = (zs_br E l (zs_C E l n) t b).map (fun c => nI (a - c)) := by
        intro b
        have hc6 := zs_c6 E t b hl
        have hg := zs_good hl hE t ha b
        by_cases g : zw_good E (zs_sh t (nI a)) b
        · rw [zw_br, if_pos g, zs_br, if_pos (hg.mp g).1, List.map_map, List.map_map]
          have := ih (zs_bt E t b) (a - zs_c E t b l) (by omega) (by omega)
          rw [← zs_btE hl hE t ha g] at this
          refine Eq.trans ?_ (this.trans ?_)
          · rfl
          · refine List.map_congr_left (fun c _ => ?_)
            simp only [Function.comp]
            rw [Nat.sub_sub]
        · rw [zw_br, if_neg g, zs_br, if_neg (fun q => g (hg.mpr ⟨q, by omega⟩))]; rfl
      simp only [zw_ways, zs_C, if_neg ho, if_neg ho', List.map_append, key]
theorem zw_hasE (E : zf_E) (s : zf_S) : zw_has E s = true ↔ ∃ w, w ∈ zw_ways E 6 s := by
  rw [zw_has]
  cases zw_ways E 6 s with
  | nil => simp
  | cons w ws => simp
