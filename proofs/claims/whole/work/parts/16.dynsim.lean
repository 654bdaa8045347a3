/-! THE CONSTRUCTORS: the simulation -/
theorem zd_op_v {α : Type} {o : Option α} {K : α → zd_O} {q : Option Nat × zi_L × zd_M} (h : zd_op o K = some q) : ∃ a, o = some a ∧ K a = some q := by
  unfold zd_op at h; split at h
  · exact ⟨_, rfl, h⟩
  · cases h
theorem zd_if_v {b : Bool} {K : zd_O} {q : Option Nat × zi_L × zd_M} (h : zd_if b K = some q) : b = true ∧ K = some q := by
  unfold zd_if at h; split at h
  · exact ⟨rfl, h⟩
  · cases h
theorem zd_pi_v {S : List zi_V} {q : Int32 × List zi_V} (h : zd_pi S = some q) : S = .inl q.1 :: q.2 := by
  unfold zd_pi at h; split at h
  · cases h; rfl
  · cases h
theorem zd_pr_v {S : List zi_V} {q : Nat × List zi_V} (h : zd_pr S = some q) : S = .inr (.inr (0, some q.1)) :: q.2 := by
  unfold zd_pr at h; split at h
  · cases h; rfl
  · cases h
theorem zd_pv_v {S : List zi_V} {q : zi_V × List zi_V} (h : zd_pv S = some q) : S = q.1 :: q.2 := by
  unfold zd_pv at h; split at h
  · cases h; rfl
  · cases h
theorem zd_ob_v {c : zd_C} {q : Nat × List zi_V} (h : zd_ob c = some q) : c = .inl q := by
  unfold zd_ob at h; split at h
  · cases h; rfl
  · cases h
theorem zd_ar_v {c : zd_C} {q : Nat × Nat × List (Nat × Int32) × List (Nat × Nat)} (h : zd_ar c = some q) : c = .inr q := by
  unfold zd_ar at h; split at h
  · cases h
  · cases h; rfl
theorem zd_pp_v (n : Nat) : ∀ (S a : List zi_V) (q : List zi_V × List zi_V), zd_pp n S a = some q → ∃ as, as.length = n ∧ S = as.reverse ++ q.2 ∧ q.1 = as ++ a := by
  induction n with
  | zero => intro S a q h; cases h; exact ⟨[], rfl, rfl, rfl⟩
  | succ n ih =>
    intro S a q h
    cases S with
    | nil => cases h
    | cons v S =>
      obtain ⟨as, h1, h2, h3⟩ := ih S (v :: a) q h
      exact ⟨as ++ [v], by simp [h1], by simp [h2], by simpa using h3⟩
def zd_dk (b : ByteArray) (q : Nat × Instr) : Bool := match decode b q.1 with
  | .ok (i, n) => decide (i = q.2) && Nat.beq n (zd_n q.2)
  | .error _ => false
theorem zd_dec {r : zi_R} {pc : Nat} {i : Instr} (hd : ∀ q ∈ zi_cd r, zd_dk (zi_by r) q = true) (h : zi_at (zi_cd r) pc = some i) : decode (zi_by r) pc = .ok (i, zd_n i) := by
  have h1 := hd _ (zi_at_mem _ _ h)
  unfold zd_dk at h1
  split at h1
  · next i' n e =>
    rw [Bool.and_eq_true, decide_eq_true_eq, Nat.beq_eq] at h1
    dsimp only at h1 e
    obtain ⟨h2, h3⟩ := h1
    rw [e, h2, h3]
  · cases h1
/-- a run makes cells, and takes none away -/
theorem zd_grow (n : Nat) : ∀ (d : Nat) (r : zi_R) (pc : Nat) (L : zi_L) (S : List zi_V) (M : zd_M) (b : Option Nat) (L' : zi_L) (M' : zd_M), zd_go n d r pc L S M = some (b, L', M') → M.1 ≤ M'.1 ∧ zd_sz M ≤ zd_sz M' := by
  induction n with
  | zero => intro d r pc L S M b L' M' h; cases h
  | succ n ih =>
    intro d r pc L S M b L' M' h
    change zd_F (zd_go n) d r pc L S M = some (b, L', M') at h
    unfold zd_F at h
    have tr : ∀ {M2 : zd_M}, M.1 ≤ M2.1 ∧ zd_sz M ≤ zd_sz M2 → (M2.1 ≤ M'.1 ∧ zd_sz M2 ≤ zd_sz M') → M.1 ≤ M'.1 ∧ zd_sz M ≤ zd_sz M' := fun h1 h2 => ⟨Nat.le_trans h1.1 h2.1, Nat.le_trans h1.2 h2.2⟩
    have hA : ∀ c, M.1 ≤ (zd_ad M c).1 ∧ zd_sz M ≤ zd_sz (zd_ad M c) := fun c => ⟨Nat.le_succ _, by rw [zd_sz_ad]; omega⟩
    split at h
    · split at h
      · cases h; exact ⟨Nat.le_refl _, Nat.le_refl _⟩
      · cases h
    · next i hi =>
      cases i with
      | iconst v => exact ih _ _ _ _ _ _ _ _ _ h
      | bipush v => exact ih _ _ _ _ _ _ _ _ _ h
      | sipush v => exact ih _ _ _ _ _ _ _ _ _ h
      | lconst v => exact ih _ _ _ _ _ _ _ _ _ h
      | iload_n k =>
        simp only [zd_st] at h
        obtain ⟨v, -, h⟩ := zd_op_v h
        exact ih _ _ _ _ _ _ _ _ _ h
      | aload_n k =>
        simp only [zd_st] at h
        obtain ⟨v, -, h⟩ := zd_op_v h
        exact ih _ _ _ _ _ _ _ _ _ h
      | istore_n k =>
        simp only [zd_st] at h
        obtain ⟨v, -, h⟩ := zd_op_v h
        exact ih _ _ _ _ _ _ _ _ _ (zd_if_v h).2
      | astore_n k =>
        simp only [zd_st] at h
        obtain ⟨v, -, h⟩ := zd_op_v h
        exact ih _ _ _ _ _ _ _ _ _ (zd_if_v h).2
      | iinc k x =>
        simp only [zd_st] at h
        obtain ⟨v, -, h⟩ := zd_op_v h
        exact ih _ _ _ _ _ _ _ _ _ (zd_if_v h).2
      | dup =>
        simp only [zd_st] at h
        obtain ⟨v, -, h⟩ := zd_op_v h
        exact ih _ _ _ _ _ _ _ _ _ h
      | goto off =>
        simp only [zd_st] at h
        obtain ⟨t, -, h⟩ := zd_op_v h
        exact ih _ _ _ _ _ _ _ _ _ h
      | if_icmp cd off =>
        cases cd with
        | ge =>
          simp only [zd_st] at h
          obtain ⟨y, -, h⟩ := zd_op_v h
          obtain ⟨x, -, h⟩ := zd_op_v h
          obtain ⟨t, -, h⟩ := zd_op_v h
          split at h <;> exact ih _ _ _ _ _ _ _ _ _ h
        | gt =>
          simp only [zd_st] at h
          obtain ⟨y, -, h⟩ := zd_op_v h
          obtain ⟨x, -, h⟩ := zd_op_v h
          obtain ⟨t, -, h⟩ := zd_op_v h
          split at h <;> exact ih _ _ _ _ _ _ _ _ _ h
        | _ => simp only [zd_st] at h; cases h
      | new idx =>
        simp only [zd_st] at h
        obtain ⟨q, -, h⟩ := zd_op_v h
        exact tr (hA _) (ih _ _ _ _ _ _ _ _ _ h)
      | newarray t =>
        simp only [zd_st] at h
        obtain ⟨ty, -, h⟩ := zd_op_v h
        obtain ⟨q, -, h⟩ := zd_op_v h
        exact tr (hA _) (ih _ _ _ _ _ _ _ _ _ (zd_if_v h).2)
      | anewarray idx =>
        simp only [zd_st] at h
        obtain ⟨c, -, h⟩ := zd_op_v h
        obtain ⟨ty, -, h⟩ := zd_op_v h
        obtain ⟨q, -, h⟩ := zd_op_v h
        exact tr (hA _) (ih _ _ _ _ _ _ _ _ _ (zd_if_v h).2)
      | getfield idx =>
        simp only [zd_st] at h
        obtain ⟨q, -, h⟩ := zd_op_v h
        obtain ⟨k, -, h⟩ := zd_op_v h
        obtain ⟨-, h⟩ := zd_if_v h
        obtain ⟨o, -, h⟩ := zd_op_v h
        obtain ⟨-, h⟩ := zd_if_v h
        obtain ⟨v, -, h⟩ := zd_op_v h
        exact ih _ _ _ _ _ _ _ _ _ h
      | putfield idx =>
        simp only [zd_st] at h
        obtain ⟨q, -, h⟩ := zd_op_v h
        obtain ⟨v, -, h⟩ := zd_op_v h
        obtain ⟨-, h⟩ := zd_if_v h
        obtain ⟨k, -, h⟩ := zd_op_v h
        obtain ⟨-, h⟩ := zd_if_v h
        obtain ⟨o, ho, h⟩ := zd_op_v h
        obtain ⟨-, h⟩ := zd_if_v h
        have ho := zd_ob_v ho
        have h9 := ih _ _ _ _ _ _ _ _ _ h
        rw [zd_sz_up (by rw [ho]; simp [zd_cs])] at h9
        exact h9
      | aastore =>
        simp only [zd_st] at h
        obtain ⟨v, -, h⟩ := zd_op_v h
        obtain ⟨x, -, h⟩ := zd_op_v h
        obtain ⟨k, -, h⟩ := zd_op_v h
        obtain ⟨-, h⟩ := zd_if_v h
        obtain ⟨a, ha, h⟩ := zd_op_v h
        obtain ⟨o, -, h⟩ := zd_op_v h
        obtain ⟨-, h⟩ := zd_if_v h
        have ha := zd_ar_v ha
        have h9 := ih _ _ _ _ _ _ _ _ _ h
        rw [zd_sz_up (by rw [ha]; rfl)] at h9
        exact h9
      | iastore =>
        simp only [zd_st] at h
        obtain ⟨v, -, h⟩ := zd_op_v h
        obtain ⟨x, -, h⟩ := zd_op_v h
        obtain ⟨k, -, h⟩ := zd_op_v h
        obtain ⟨-, h⟩ := zd_if_v h
        obtain ⟨a, ha, h⟩ := zd_op_v h
        obtain ⟨-, h⟩ := zd_if_v h
        have ha := zd_ar_v ha
        have h9 := ih _ _ _ _ _ _ _ _ _ h
        rw [zd_sz_up (by rw [ha]; rfl)] at h9
        exact h9
      | invokestatic idx =>
        simp only [zd_st] at h
        obtain ⟨-, h⟩ := zd_if_v h
        obtain ⟨y, -, h⟩ := zd_op_v h
        obtain ⟨x, -, h⟩ := zd_op_v h
        exact ih _ _ _ _ _ _ _ _ _ (zd_if_v h).2
      | invokespecial idx =>
        simp only [zd_st] at h
        split at h
        · obtain ⟨q, -, h⟩ := zd_op_v h
          exact ih _ _ _ _ _ _ _ _ _ (zd_if_v h).2
        · obtain ⟨q, -, h⟩ := zd_op_v h
          obtain ⟨a, -, h⟩ := zd_op_v h
          obtain ⟨k, -, h⟩ := zd_op_v h
          obtain ⟨-, h⟩ := zd_if_v h
          split at h
          · next L2 M2 hc =>
            split at hc
            · cases hc
            · exact tr (ih _ _ _ _ _ _ _ _ _ (zd_if_v hc).2) (ih _ _ _ _ _ _ _ _ _ h)
          · cases h
      | return_ =>
        simp only [zd_st] at h
        split at h
        · cases h; exact ⟨Nat.le_refl _, Nat.le_refl _⟩
        · cases h
      | _ => simp only [zd_st] at h; cases h
