/-! THE PURE PART, the invariant between the class's cells and the reference's -/
/-- a place, and how one is: column, height, strength, heat, clog, fell -/
abbrev zf_S : Type := Nat × Nat × Int32 × Int32 × Int32 × Int32
def zf_is (f : Nat → Int32) (s : zf_S) : Prop := f 0 = nI s.1 ∧ f 1 = nI s.2.1 ∧ f 2 = s.2.2.1 ∧ f 3 = s.2.2.2.1 ∧ f 4 = s.2.2.2.2.1 ∧ f 5 = s.2.2.2.2.2
/-- the air: columns, heights, cells -/
abbrev zf_A : Type := Nat × Nat × (Nat → Int32)
/-- a sky: sun, flyers, their kind, wax, letters, place; beats, who did each and where one was -/
abbrev zf_K : Type := Int32 × Nat × (Nat → Int32 × Int32 × Int32 × zf_S) × Nat × (Nat → Nat × zf_S)
def zf_okA (A : zf_A) : Prop := (A.1 = 0 ∧ A.2.1 = 0) ∨ (2 ≤ A.1 ∧ A.1 ≤ 7 ∧ 1 ≤ A.2.1 ∧ A.2.1 ≤ 5)
def zf_okS (A : zf_A) (s : zf_S) : Prop := s.1 < A.1 ∧ s.2.1 < A.2.1 ∧ (s.2.2.2.2.2 = 0 → ∃ t : Nat, t ≤ 9 ∧ s.2.2.1 = nI t)
def zf_okK (A : zf_A) (K : zf_K) : Prop := K.2.1 ≤ 4 ∧ K.2.2.2.1 ≤ 40 ∧ (∀ i, i < K.2.1 → zf_okS A (K.2.2.1 i).2.2.2 ∧ ∃ l : Nat, l ≤ 3 ∧ (K.2.2.1 i).2.2.1 = nI l) ∧ (∀ n, n < K.2.2.2.1 → (K.2.2.2.2 n).1 < K.2.1 ∧ zf_okS A (K.2.2.2.2 n).2)
def zf_cA (M : zi_M) (a : Nat) (A : zf_A) : Prop := M.1 0 a 1 = nI A.1 ∧ M.1 0 a 2 = nI A.2.1 ∧ ∀ h c, h < A.2.1 → c < A.1 → M.1 11 a (7 * h + c) = A.2.2 (7 * h + c)
def zf_rA (g : Nat → Int32) (A : zf_A) : Prop := g 0 = nI A.1 ∧ g 1 = nI A.2.1 ∧ ∀ h c, h < A.2.1 → c < A.1 → g (5 + (7 * h + c)) = A.2.2 (7 * h + c)
def zf_cK (M : zi_M) (s : Nat) (K : zf_K) : Prop := M.1 6 s 5 = K.1 ∧ M.1 6 s 4 = nI K.2.1 ∧ M.1 6 s 6 = nI K.2.2.2.1 ∧ (∀ i, i < K.2.1 → M.1 1 (4 * s + i) 1 = (K.2.2.1 i).1 ∧ M.1 1 (4 * s + i) 2 = (K.2.2.1 i).2.1 ∧ M.1 1 (4 * s + i) 3 = (K.2.2.1 i).2.2.1 ∧ zf_is (M.1 7 (4 * s + i)) (K.2.2.1 i).2.2.2) ∧ (∀ n, n < K.2.2.2.1 → M.1 14 s n = nI (K.2.2.2.2 n).1 ∧ zf_is (M.1 7 (100 + 40 * s + n)) (K.2.2.2.2 n).2)
def zf_rK (g : Nat → Int32) (K : zf_K) : Prop := g 2 = K.1 ∧ g 3 = nI K.2.1 ∧ g 4 = nI K.2.2.2.1 ∧ (∀ i, i < K.2.1 → g (40 + 9 * i) = (K.2.2.1 i).1 ∧ g (40 + 9 * i + 8) = (K.2.2.1 i).2.1 ∧ g (40 + 9 * i + 6) = (K.2.2.1 i).2.2.1 ∧ zf_is (fun j => g (40 + 9 * i + (if j = 5 then 7 else j + 1))) (K.2.2.1 i).2.2.2) ∧ (∀ n, n < K.2.2.2.1 → g (76 + 7 * n) = nI (K.2.2.2.2 n).1 ∧ zf_is (fun j => g (76 + 7 * n + (j + 1))) (K.2.2.2.2 n).2)
/-- rows and texts -/
def zq_row (a : Int32) (f : Nat → Int32) (b : Int32) (g : Nat → Int32) (N : Nat) : Prop := (a = -1 ∧ b = -1) ∨ ∃ n, n ≤ N ∧ a = nI n ∧ b = nI n ∧ ∀ j, j < n → f j = g j
def zq_rows (M : zi_M) : Prop := ∀ r, r < 6 → zq_row (M.1 5 r 1) (M.1 12 r) (M.1 24 0 r) (fun j => M.1 25 0 (40 * r + j)) 40
def zq_texts (M : zi_M) : Prop := ∀ t, t < 4 → zq_row (M.1 5 (6 + t) 1) (M.1 12 (6 + t)) (M.1 26 0 t) (fun j => M.1 27 0 (80 * t + j)) 80 ∧ ∀ j, M.1 12 (6 + t) j ≠ 1000
def zq_told (M : zi_M) : Prop := M.1 9 0 12 = M.1 10 0 8 ∧ M.1 9 0 13 = M.1 10 0 9 ∧ ∀ f, f < 6 → M.1 22 0 f = M.1 31 0 f
def zq_longs (M : zi_M) : Prop := M.2.1 9 0 14 = M.2.1 10 0 10 ∧ M.2.1 9 0 15 = M.2.1 10 0 11
def zq_kept (M : zi_M) (A : zf_A) (k : Nat) : Prop := (M.1 6 (1 + k) 3 = 0 ∧ M.1 30 0 k = 0) ∨ (M.1 6 (1 + k) 3 = 1 ∧ M.1 30 0 k = 1 ∧ ∃ K, zf_okK A K ∧ zf_cK M (1 + k) K ∧ zf_rA (fun j => M.1 29 0 (356 * k + j)) A ∧ zf_rK (fun j => M.1 29 0 (356 * k + j)) K)
def zq_sky (M : zi_M) (A : zf_A) (K : zf_K) : Prop := zf_okA A ∧ zf_okK A K ∧ zf_cA M 0 A ∧ zf_cK M 0 K ∧ zf_rA (M.1 28 0) A ∧ zf_rK (M.1 28 0) K ∧ ∀ k, k < 3 → zq_kept M A k
def zq_con (n : Nat) (xs : Nat → Int32) (M : zi_M) : Prop := M.1 90 = (zi_M0 n xs).1 90 ∧ M.1 91 = (zi_M0 n xs).1 91 ∧ M.1 92 = (zi_M0 n xs).1 92 ∧ M.1 6 4 6 = 0
def zq_inv (n : Nat) (xs : Nat → Int32) (M : zi_M) : Prop := zq_rows M ∧ zq_texts M ∧ zq_told M ∧ zq_longs M ∧ (∃ A K, zq_sky M A K) ∧ zq_con n xs M
/-- which group a place belongs to: 0 nobody's (what a call may leave behind), 1 rows, 2 texts, 3 told, 4 the sky that is now, 6 the kept ones, 5 constants -/
def zq_gp (c k s : Nat) : Nat := if c = 5 ∨ c = 12 then (if k < 6 then 1 else 2) else if c = 24 ∨ c = 25 then 1 else if c = 26 ∨ c = 27 then 2 else if c = 9 ∨ c = 22 ∨ c = 31 then 3 else if c = 10 then (if s = 8 ∨ s = 9 then 3 else 0) else if c = 0 ∨ c = 11 then (if k = 0 then 4 else 0) else if c = 1 then (if k < 4 then 4 else if k < 16 then 6 else 0) else if c = 6 ∨ c = 14 then (if k = 0 then 4 else if k < 4 then 6 else if c = 6 ∧ k = 4 ∧ s = 6 then 5 else 0) else if c = 7 then (if k < 4 then 4 else if k < 16 then 6 else if 100 ≤ k then (if k < 140 then 4 else 6) else 0) else if c = 28 then 4 else if c = 29 ∨ c = 30 then 6 else if 90 ≤ c then 5 else 0
/-- they agree in a group -/
def zq_ag (g : Nat) (M M' : zi_M) : Prop := ∀ c k s, zq_gp c k s = g → M'.1 c k s = M.1 c k s
theorem zq_ag_rfl (g : Nat) (M : zi_M) : zq_ag g M M := fun _ _ _ _ => rfl
theorem zq_ag_tr {g : Nat} {M M1 M2 : zi_M} (h : zq_ag g M M1) (h2 : zq_ag g M1 M2) : zq_ag g M M2 := fun c k s e => (h2 c k s e).trans (h c k s e)
theorem zq_ag_sI {g : Nat} {M M1 : zi_M} {c k s : Nat} {x : Int32} (h : zq_ag g M M1) (hn : zq_gp c k s ≠ g) : zq_ag g M (zi_sI M1 c k s x) := by
  intro c' k' s' e
  rw [zp_sI1]
  by_cases h1 : c' = c
  · by_cases h2 : s' = s
    · by_cases h3 : k' = k
      · subst h1; subst h2; subst h3; exact absurd e hn
      · rw [if_pos h1, if_pos h2, if_neg h3]; exact h c' k' s' e
    · rw [if_pos h1, if_neg h2]; exact h c' k' s' e
  · rw [if_neg h1]; exact h c' k' s' e
theorem zq_ag_w {g : Nat} {M M1 : zi_M} {c k : Nat} {f : Nat → Int32} (h : zq_ag g M M1) (hn : ∀ s, zq_gp c k s ≠ g) : zq_ag g M (zp_w M1 c k f) := by
  intro c' k' s' e
  rw [zp_w1]
  by_cases h1 : c' = c
  · by_cases h3 : k' = k
    · subst h1; subst h3; exact absurd e (hn s')
    · rw [if_pos h1, if_neg h3]; exact h c' k' s' e
  · rw [if_neg h1]; exact h c' k' s' e
theorem zq_ag_sL {g : Nat} {M M1 : zi_M} {c k s : Nat} {x : Int64} (h : zq_ag g M M1) : zq_ag g M (zi_sL M1 c k s x) := h
theorem zq_ag_sR {g : Nat} {M M1 : zi_M} {c k s : Nat} {x : Option Nat} (h : zq_ag g M M1) : zq_ag g M (zi_sR M1 c k s x) := h
theorem zq_rows_ag {M M' : zi_M} (h : zq_ag 1 M M') (hr : zq_rows M) : zq_rows M' := by
  intro r hr6
  have h1 : ∀ s, M'.1 5 r s = M.1 5 r s := fun s => h 5 r s (by simp [zq_gp, hr6])
  have h2 : M'.1 12 r = M.1 12 r := funext fun s => h 12 r s (by simp [zq_gp, hr6])
  have h3 : ∀ s, M'.1 24 0 s = M.1 24 0 s := fun s => h 24 0 s (by simp [zq_gp])
  have h4 : ∀ s, M'.1 25 0 s = M.1 25 0 s := fun s => h 25 0 s (by simp [zq_gp])
  simp only [h1, h2, h3, h4]; exact hr r hr6
theorem zq_texts_ag {M M' : zi_M} (h : zq_ag 2 M M') (hr : zq_texts M) : zq_texts M' := by
  intro r hr6
  have h1 : ∀ s, M'.1 5 (6 + r) s = M.1 5 (6 + r) s := fun s => h 5 (6 + r) s (by simp [zq_gp])
  have h2 : M'.1 12 (6 + r) = M.1 12 (6 + r) := funext fun s => h 12 (6 + r) s (by simp [zq_gp])
  have h3 : ∀ s, M'.1 26 0 s = M.1 26 0 s := fun s => h 26 0 s (by simp [zq_gp])
  have h4 : ∀ s, M'.1 27 0 s = M.1 27 0 s := fun s => h 27 0 s (by simp [zq_gp])
  simp only [h1, h2, h3, h4]; exact hr r hr6
theorem zq_told_ag {M M' : zi_M} (h : zq_ag 3 M M') (hr : zq_told M) : zq_told M' := by
  have h1 : ∀ s, M'.1 9 0 s = M.1 9 0 s := fun s => h 9 0 s (by simp [zq_gp])
  have h2 : M'.1 10 0 8 = M.1 10 0 8 := h 10 0 8 (by simp [zq_gp])
  have h2' : M'.1 10 0 9 = M.1 10 0 9 := h 10 0 9 (by simp [zq_gp])
  have h3 : ∀ s, M'.1 22 0 s = M.1 22 0 s := fun s => h 22 0 s (by simp [zq_gp])
  have h4 : ∀ s, M'.1 31 0 s = M.1 31 0 s := fun s => h 31 0 s (by simp [zq_gp])
  simp only [zq_told, h1, h2, h2', h3, h4]; exact hr
theorem zq_g1 {a : Nat} (h : a < 4) (j : Nat) : zq_gp 1 a j = 4 := by simp [zq_gp, h]
theorem zq_g1k {a : Nat} (h : 4 ≤ a) (h2 : a < 16) (j : Nat) : zq_gp 1 a j = 6 := by simp [zq_gp, show ¬ a < 4 from by omega, h2]
theorem zq_g7 {a : Nat} (h : a < 4) (j : Nat) : zq_gp 7 a j = 4 := by simp [zq_gp, h]
theorem zq_g7k {a : Nat} (h : 4 ≤ a) (h2 : a < 16) (j : Nat) : zq_gp 7 a j = 6 := by simp [zq_gp, show ¬ a < 4 from by omega, h2]
theorem zq_g7n {a : Nat} (h : 16 ≤ a) (h2 : a < 100) (j : Nat) : zq_gp 7 a j = 0 := by simp [zq_gp, show ¬ a < 4 from by omega, show ¬ a < 16 from by omega, show ¬ 100 ≤ a from by omega]
theorem zq_g7p {a : Nat} (h : 100 ≤ a) (h2 : a < 140) (j : Nat) : zq_gp 7 a j = 4 := by simp [zq_gp, show ¬ a < 4 from by omega, show ¬ a < 16 from by omega, h, h2]
theorem zq_g7q {a : Nat} (h : 140 ≤ a) (j : Nat) : zq_gp 7 a j = 6 := by simp [zq_gp, show ¬ a < 4 from by omega, show ¬ a < 16 from by omega, show 100 ≤ a from by omega, show ¬ a < 140 from by omega]
theorem zf_cK_ag {g : Nat} {M M' : zi_M} (h : zq_ag g M M') {s : Nat} (hs : s < 4) (hg : g = if s = 0 then 4 else 6) {K : zf_K} (h1 : K.2.1 ≤ 4) (h2 : K.2.2.2.1 ≤ 40) (hr : zf_cK M s K) : zf_cK M' s K := by
  have e1 : ∀ j, M'.1 6 s j = M.1 6 s j := fun j => h 6 s j (by
    rw [hg]; by_cases h0 : s = 0 <;> simp [zq_gp, hs, h0])
  have e3 : ∀ j, M'.1 14 s j = M.1 14 s j := fun j => h 14 s j (by
    rw [hg]; by_cases h0 : s = 0 <;> simp [zq_gp, hs, h0])
  obtain ⟨a1, a2, a3, a4, a5⟩ := hr
  refine ⟨by rw [e1, a1], by rw [e1, a2], by rw [e1, a3], fun i hi => ?_, fun n hn => ?_⟩
  · have e2 : ∀ j, M'.1 1 (4 * s + i) j = M.1 1 (4 * s + i) j := fun j => h 1 (4 * s + i) j (by
      rw [hg]
      by_cases h0 : s = 0
      · rw [if_pos h0]; exact zq_g1 (by omega) j
      · rw [if_neg h0]; exact zq_g1k (by omega) (by omega) j)
    have e4 : M'.1 7 (4 * s + i) = M.1 7 (4 * s + i) := funext fun j => h 7 (4 * s + i) j (by
      rw [hg]
      by_cases h0 : s = 0
      · rw [if_pos h0]; exact zq_g7 (by omega) j
      · rw [if_neg h0]; exact zq_g7k (by omega) (by omega) j)
    simp only [e2, e4]; exact a4 i hi
  · have e4 : M'.1 7 (100 + 40 * s + n) = M.1 7 (100 + 40 * s + n) := funext fun j => h 7 (100 + 40 * s + n) j (by
      rw [hg]
      by_cases h0 : s = 0
      · rw [if_pos h0]; exact zq_g7p (by omega) (by omega) j
      · rw [if_neg h0]; exact zq_g7q (by omega) j)
    simp only [e3, e4]; exact a5 n hn
theorem zf_cA_ag {M M' : zi_M} (h : zq_ag 4 M M') {A : zf_A} (hr : zf_cA M 0 A) : zf_cA M' 0 A := by
  have e1 : ∀ j, M'.1 0 0 j = M.1 0 0 j := fun j => h 0 0 j (by simp [zq_gp])
  have e2 : ∀ j, M'.1 11 0 j = M.1 11 0 j := fun j => h 11 0 j (by simp [zq_gp])
  simp only [zf_cA, e1, e2]; exact hr
theorem zq_kept_ag {M M' : zi_M} {A : zf_A} (h : zq_ag 6 M M') {k : Nat} (hk : k < 3) (hr : zq_kept M A k) : zq_kept M' A k := by
  have e29 : ∀ j, M'.1 29 0 j = M.1 29 0 j := fun j => h 29 0 j (by simp [zq_gp])
  have e30 : ∀ j, M'.1 30 0 j = M.1 30 0 j := fun j => h 30 0 j (by simp [zq_gp])
  have e6 : ∀ j, M'.1 6 (1 + k) j = M.1 6 (1 + k) j := fun j => h 6 (1 + k) j (by
    have : 1 + k < 4 := by omega
    have h0 : ¬ 1 + k = 0 := by omega
    simp only [zq_gp, this, h0, if_true, if_false]; simp)
  rcases hr with ⟨b1, b2⟩ | ⟨b1, b2, K', b3, b4, b5, b6⟩
  · exact Or.inl ⟨by rw [e6, b1], by rw [e30, b2]⟩
  · refine Or.inr ⟨by rw [e6, b1], by rw [e30, b2], K', b3, zf_cK_ag h (by omega) (by rw [if_neg (by omega)]) b3.1 b3.2.1 b4, ?_, ?_⟩
    · simp only [e29]; exact b5
    · simp only [e29]; exact b6
theorem zq_sky_mk {M M' : zi_M} {A : zf_A} {K K' : zf_K} (hr : zq_sky M A K) (h6 : zq_ag 6 M M') (h1 : zf_okK A K') (h2 : zf_cA M' 0 A) (h3 : zf_cK M' 0 K') (h4 : zf_rA (M'.1 28 0) A) (h5 : zf_rK (M'.1 28 0) K') : zq_sky M' A K' := ⟨hr.1, h1, h2, h3, h4, h5, fun k hk => zq_kept_ag h6 hk (hr.2.2.2.2.2.2 k hk)⟩
theorem zq_sky_ag {M M' : zi_M} {A : zf_A} {K : zf_K} (h : zq_ag 4 M M') (h6 : zq_ag 6 M M') (hr : zq_sky M A K) : zq_sky M' A K := by
  have e28 : M'.1 28 0 = M.1 28 0 := funext fun j => h 28 0 j (by simp [zq_gp])
  exact zq_sky_mk hr h6 hr.2.1 (zf_cA_ag h hr.2.2.1) (zf_cK_ag h (by omega) rfl hr.2.1.1 hr.2.1.2.1 hr.2.2.2.1) (by rw [e28]; exact hr.2.2.2.2.1) (by rw [e28]; exact hr.2.2.2.2.2.1)
theorem zq_con_ag {n : Nat} {xs : Nat → Int32} {M M' : zi_M} (h : zq_ag 5 M M') (hr : zq_con n xs M) : zq_con n xs M' := by
  have e : ∀ c, c = 90 ∨ c = 91 ∨ c = 92 → M'.1 c = M.1 c := fun c hc => funext fun k => funext fun s => h c k s (by
    rcases hc with e | e | e <;> subst e <;> simp [zq_gp])
  exact ⟨by rw [e 90 (by simp)]; exact hr.1, by rw [e 91 (by simp)]; exact hr.2.1, by rw [e 92 (by simp)]; exact hr.2.2.1, by rw [h 6 4 6 (by simp [zq_gp])]; exact hr.2.2.2⟩
/-- nothing but what belongs to nobody has changed -/
def zq_nb (M M' : zi_M) : Prop := ∀ c k s, zq_gp c k s ≠ 0 → M'.1 c k s = M.1 c k s
theorem zq_nb_rfl (M : zi_M) : zq_nb M M := fun _ _ _ _ => rfl
theorem zq_nb_tr {M M1 M2 : zi_M} (h : zq_nb M M1) (h2 : zq_nb M1 M2) : zq_nb M M2 := fun c k s e => (h2 c k s e).trans (h c k s e)
theorem zq_nb_ag {M M' : zi_M} (h : zq_nb M M') {g : Nat} (hg : g ≠ 0) : zq_ag g M M' := fun c k s e => h c k s (by rw [e]; exact hg)
theorem zq_nb_sI {M M1 : zi_M} {c k s : Nat} {x : Int32} (h : zq_nb M M1) (hn : zq_gp c k s = 0) : zq_nb M (zi_sI M1 c k s x) := by
  intro c' k' s' e
  exact (zq_ag_sI (g := zq_gp c' k' s') (zq_ag_rfl _ M1) (by rw [hn]; exact Ne.symm e) c' k' s' rfl).trans (h c' k' s' e)
theorem zq_nb_w {M M1 : zi_M} {c k : Nat} {f : Nat → Int32} (h : zq_nb M M1) (hn : ∀ s, zq_gp c k s = 0) : zq_nb M (zp_w M1 c k f) := by
  intro c' k' s' e
  exact (zq_ag_w (g := zq_gp c' k' s') (zq_ag_rfl _ M1) (fun s => by rw [hn]; exact Ne.symm e) c' k' s' rfl).trans (h c' k' s' e)
theorem zq_inv_nb {n : Nat} {xs : Nat → Int32} {M M' : zi_M} (h : zq_nb M M') (hl : zq_longs M → zq_longs M') (hI : zq_inv n xs M) : zq_inv n xs M' := by
  obtain ⟨a1, a2, a3, a4, ⟨A, K, a5⟩, a6⟩ := hI
  exact ⟨zq_rows_ag (zq_nb_ag h (by decide)) a1, zq_texts_ag (zq_nb_ag h (by decide)) a2, zq_told_ag (zq_nb_ag h (by decide)) a3, hl a4, ⟨A, K, zq_sky_ag (zq_nb_ag h (by decide)) (zq_nb_ag h (by decide)) a5⟩, zq_con_ag (zq_nb_ag h (by decide)) a6⟩
