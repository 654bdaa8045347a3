/-! THE PURE PART, tools: what the blocks' words do on values, comparisons of small numbers, the memory's rows -/
theorem zp_dn (d : Nat) (K : Nat → zi_O) : zi_dn (d + 1) K = K d := (rfl)
theorem zp_cV (M : zi_M) (K : zi_M → zi_O) : zi_cV (some (none, M)) K = K M := (rfl)
theorem zp_cI (x : Int32) (M : zi_M) (K : Int32 → zi_M → zi_O) : zi_cI (some (some (.inl x), M)) K = K x M := (rfl)
theorem zp_cL (x : Int64) (M : zi_M) (K : Int64 → zi_M → zi_O) : zi_cL (some (some (.inr (.inl x)), M)) K = K x M := (rfl)
theorem zp_cR (c : Nat) (o : Option Nat) (M : zi_M) (K : Option Nat → zi_M → zi_O) : zi_cR (some (some (.inr (.inr (c, o))), M)) c K = K o M := if_pos rfl
theorem zp_cVi {p : Prop} [Decidable p] (a b : zi_O) (K : zi_M → zi_O) : zi_cV (if p then a else b) K = if p then zi_cV a K else zi_cV b K := by split <;> rfl
theorem zp_cIi {p : Prop} [Decidable p] (a b : zi_O) (K : Int32 → zi_M → zi_O) : zi_cI (if p then a else b) K = if p then zi_cI a K else zi_cI b K := by split <;> rfl
theorem zp_cLi {p : Prop} [Decidable p] (a b : zi_O) (K : Int64 → zi_M → zi_O) : zi_cL (if p then a else b) K = if p then zi_cL a K else zi_cL b K := by split <;> rfl
theorem zp_cRi {p : Prop} [Decidable p] (a b : zi_O) (c : Nat) (K : Option Nat → zi_M → zi_O) : zi_cR (if p then a else b) c K = if p then zi_cR a c K else zi_cR b c K := by split <;> rfl
theorem zp_sm (k : Nat) (K : Nat → zi_O) : zi_sm (some k) K = K k := (rfl)
theorem zp_nls (k : Nat) (A B : zi_O) : zi_nl (some k) A B = B := (rfl)
theorem zp_nln (A B : zi_O) : zi_nl none A B = A := (rfl)
theorem zp_bo0 (K : zi_O) : zi_bo 0 K = K := (rfl)
theorem zp_bo1 (K : zi_O) : zi_bo 1 K = K := by simp [zi_bo]
theorem zp_lit (n : Nat) : (OfNat.ofNat n : Int32) = nI n := (rfl)
theorem zp_litL (n : Nat) : (OfNat.ofNat n : Int64) = lN n := (rfl)
theorem zp_ix {q n : Nat} (K : Nat → zi_O) (h : q < n) (hn : n < 2 ^ 31) : zi_ix (nI q) n K = K q := by
  have h1 : ¬ nI q < 0 := nI_pos (by omega)
  have h2 : (nI q).toNatClampNeg = q := nI_clamp (by omega)
  simp only [zi_ix, if_neg h1, h2, if_neg (Nat.not_le.mpr h)]
theorem zp_ixl {q n : Nat} (K : Nat → zi_O) (h : (OfNat.ofNat q : Nat) < n) (hn : n < 2 ^ 31) : zi_ix (no_index (OfNat.ofNat q)) n K = K (OfNat.ofNat q : Nat) := zp_ix K h hn
theorem zp_leT {a b : Nat} (h : a ≤ b) (hb : b < 2 ^ 31) : (nI a ≤ nI b) = True := eq_true (nI_le h hb)
theorem zp_leF {a b : Nat} (h : b < a) (ha : a < 2 ^ 31) : (nI a ≤ nI b) = False := eq_false (nI_ge h ha)
theorem zp_ltT {a b : Nat} (h : a < b) (hb : b < 2 ^ 31) : (nI a < nI b) = True := eq_true (nI_lt h hb)
theorem zp_ltF {a b : Nat} (h : b ≤ a) (ha : a < 2 ^ 31) : (nI a < nI b) = False := eq_false (nI_nlt h ha)
theorem zp_eqT {a b : Nat} (h : a = b) : (nI a = nI b) = True := eq_true (by rw [h])
theorem zp_eqF {a b : Nat} (h : a ≠ b) (ha : a < 2 ^ 31) (hb : b < 2 ^ 31) : (nI a = nI b) = False := eq_false (fun e => h ((nI_eq ha hb).mp e))
theorem zp_leTl {a b : Nat} (h : (OfNat.ofNat a : Nat) ≤ b) (hb : b < 2 ^ 31) : ((no_index (OfNat.ofNat a) : Int32) ≤ nI b) = True := zp_leT h hb
theorem zp_leFl {a b : Nat} (h : b < (OfNat.ofNat a : Nat)) (ha : (OfNat.ofNat a : Nat) < 2 ^ 31) : ((no_index (OfNat.ofNat a) : Int32) ≤ nI b) = False := zp_leF h ha
theorem zp_ltTl {a b : Nat} (h : (OfNat.ofNat a : Nat) < b) (hb : b < 2 ^ 31) : ((no_index (OfNat.ofNat a) : Int32) < nI b) = True := zp_ltT h hb
theorem zp_ltFl {a b : Nat} (h : b ≤ (OfNat.ofNat a : Nat)) (ha : (OfNat.ofNat a : Nat) < 2 ^ 31) : ((no_index (OfNat.ofNat a) : Int32) < nI b) = False := zp_ltF h ha
theorem zp_leTr {a b : Nat} (h : a ≤ (OfNat.ofNat b : Nat)) (hb : (OfNat.ofNat b : Nat) < 2 ^ 31) : (nI a ≤ (no_index (OfNat.ofNat b) : Int32)) = True := zp_leT h hb
theorem zp_leFr {a b : Nat} (h : (OfNat.ofNat b : Nat) < a) (ha : a < 2 ^ 31) : (nI a ≤ (no_index (OfNat.ofNat b) : Int32)) = False := zp_leF h ha
theorem zp_ltTr {a b : Nat} (h : a < (OfNat.ofNat b : Nat)) (hb : (OfNat.ofNat b : Nat) < 2 ^ 31) : (nI a < (no_index (OfNat.ofNat b) : Int32)) = True := zp_ltT h hb
theorem zp_ltFr {a b : Nat} (h : (OfNat.ofNat b : Nat) ≤ a) (ha : a < 2 ^ 31) : (nI a < (no_index (OfNat.ofNat b) : Int32)) = False := zp_ltF h ha
theorem zp_eqTr {a b : Nat} (h : a = (OfNat.ofNat b : Nat)) : (nI a = (no_index (OfNat.ofNat b) : Int32)) = True := zp_eqT h
theorem zp_eqFr {a b : Nat} (h : a ≠ (OfNat.ofNat b : Nat)) (ha : a < 2 ^ 31) (hb : (OfNat.ofNat b : Nat) < 2 ^ 31) : (nI a = (no_index (OfNat.ofNat b) : Int32)) = False := zp_eqF h ha hb
theorem zp_eqTl {a b : Nat} (h : (OfNat.ofNat a : Nat) = b) : ((no_index (OfNat.ofNat a) : Int32) = nI b) = True := zp_eqT h
theorem zp_eqFl {a b : Nat} (h : (OfNat.ofNat a : Nat) ≠ b) (ha : (OfNat.ofNat a : Nat) < 2 ^ 31) (hb : b < 2 ^ 31) : ((no_index (OfNat.ofNat a) : Int32) = nI b) = False := zp_eqF h ha hb
theorem zp_addl (a b : Nat) : (no_index (OfNat.ofNat a) : Int32) + nI b = nI ((OfNat.ofNat a : Nat) + b) := nI_add a b
theorem zp_eqFll {a b : Nat} (h : (OfNat.ofNat a : Nat) ≠ (OfNat.ofNat b : Nat)) (ha : (OfNat.ofNat a : Nat) < 2 ^ 31) (hb : (OfNat.ofNat b : Nat) < 2 ^ 31) : ((no_index (OfNat.ofNat a) : Int32) = (no_index (OfNat.ofNat b) : Int32)) = False := zp_eqF h ha hb
theorem zp_addr (a b : Nat) : nI a + (no_index (OfNat.ofNat b) : Int32) = nI (a + (OfNat.ofNat b : Nat)) := nI_add a b
theorem zp_mull (a b : Nat) : (no_index (OfNat.ofNat a) : Int32) * nI b = nI ((OfNat.ofNat a : Nat) * b) := pk_mul a b
theorem zp_mulr (a b : Nat) : nI a * (no_index (OfNat.ofNat b) : Int32) = nI (a * (OfNat.ofNat b : Nat)) := pk_mul a b
theorem zp_subr {a b : Nat} (h : (OfNat.ofNat b : Nat) ≤ a) : nI a - (no_index (OfNat.ofNat b) : Int32) = nI (a - (OfNat.ofNat b : Nat)) := pk_sub h
theorem zp_subl {a b : Nat} (h : b ≤ (OfNat.ofNat a : Nat)) : (no_index (OfNat.ofNat a) : Int32) - nI b = nI ((OfNat.ofNat a : Nat) - b) := pk_sub h
theorem zp_m1lt {a : Nat} (h : a < 2 ^ 31) : ((-1 : Int32) < nI a) = True := eq_true (by rw [Int32.lt_iff_toInt_lt, nI_toInt h]; rw [show (-1 : Int32).toInt = -1 from by decide]; omega)
theorem zp_m1le {a : Nat} (h : a < 2 ^ 31) : ((-1 : Int32) ≤ nI a) = True := eq_true (by rw [Int32.le_iff_toInt_le, nI_toInt h]; rw [show (-1 : Int32).toInt = -1 from by decide]; omega)
theorem zp_ltm1 {a : Nat} (h : a < 2 ^ 31) : (nI a < (-1 : Int32)) = False := eq_false (by rw [Int32.lt_iff_toInt_lt, nI_toInt h]; rw [show (-1 : Int32).toInt = -1 from by decide]; omega)
theorem zp_lem1 {a : Nat} (h : a < 2 ^ 31) : (nI a ≤ (-1 : Int32)) = False := eq_false (by rw [Int32.le_iff_toInt_le, nI_toInt h]; rw [show (-1 : Int32).toInt = -1 from by decide]; omega)
theorem zp_0m1 : nI 0 - 1 = -1 := by decide
theorem zp_neg {a : Nat} (h : a < 2 ^ 31) (x : Int32) (hx : x < 0) : (nI a ≤ x) = False := eq_false (by
  rw [Int32.lt_iff_toInt_lt] at hx; rw [Int32.le_iff_toInt_le, nI_toInt h]; have : (0 : Int32).toInt = 0 := by decide
  omega)
/-- out of range -/
theorem zp_big {x : Int32} {n : Nat} (hn : n < 2 ^ 31) (h : nI n ≤ x) : ∃ j : Nat, n ≤ j ∧ j < 2 ^ 31 ∧ x = nI j := by
  have h0 : ¬ x < 0 := by
    rw [Int32.le_iff_toInt_le, nI_toInt hn] at h
    rw [Int32.lt_iff_toInt_lt]; have : (0 : Int32).toInt = 0 := by decide
    omega
  obtain ⟨j, hj, e⟩ := nI_of h0
  refine ⟨j, ?_, hj, e⟩
  rw [e, nI_leI hn hj] at h; exact h
/-- every int is below 0, or a small number -/
theorem zp_int (x : Int32) : x < 0 ∨ ∃ j : Nat, j < 2 ^ 31 ∧ x = nI j := by
  by_cases h : x < 0
  · exact Or.inl h
  · exact Or.inr (nI_of h)
theorem zp_n0 {x : Int32} (h : x < 0) : (x < 0) = True := eq_true h
theorem zp_n1 {x : Int32} (h : x < 0) (n : Nat) (hn : (OfNat.ofNat n : Nat) < 2 ^ 31) : ((no_index (OfNat.ofNat n) : Int32) ≤ x) = False := zp_neg hn x h
theorem zp_n2 {x : Int32} (h : x < 0) (n : Nat) (hn : (OfNat.ofNat n : Nat) < 2 ^ 31) : ((no_index (OfNat.ofNat n) : Int32) < x) = False := eq_false (fun h2 => by
  have := zp_neg hn x h
  exact (this ▸ (Int32.le_of_lt h2) : False))
theorem zp_n3 {x : Int32} (h : x < 0) (n : Nat) (hn : n < 2 ^ 31) : (x < nI n) = True := eq_true (by
  rw [Int32.lt_iff_toInt_lt] at *; rw [nI_toInt hn]; have : (0 : Int32).toInt = 0 := by decide
  omega)
theorem zp_n4 {x : Int32} (h : x < 0) (n : Nat) (hn : n < 2 ^ 31) : (x ≤ nI n) = True := eq_true (by
  rw [Int32.lt_iff_toInt_lt] at h; rw [Int32.le_iff_toInt_le, nI_toInt hn]; have : (0 : Int32).toInt = 0 := by decide
  omega)
theorem zp_n3l {x : Int32} (h : x < 0) (n : Nat) (hn : (OfNat.ofNat n : Nat) < 2 ^ 31) : (x < (no_index (OfNat.ofNat n) : Int32)) = True := zp_n3 h n hn
theorem zp_n4l {x : Int32} (h : x < 0) (n : Nat) (hn : (OfNat.ofNat n : Nat) < 2 ^ 31) : (x ≤ (no_index (OfNat.ofNat n) : Int32)) = True := zp_n4 h n hn
/-- Int32 as Int64 -/
theorem zp_lt64 (x y : Int32) : (Int32.toInt64 x < Int32.toInt64 y) ↔ x < y := by
  rw [Int64.lt_iff_toInt_lt, Int32.lt_iff_toInt_lt, Int32.toInt_toInt64, Int32.toInt_toInt64]
theorem zp_eq64 (x y : Int32) : (Int32.toInt64 x = Int32.toInt64 y) ↔ x = y := by
  rw [← Int64.toInt_inj, ← Int32.toInt_inj, Int32.toInt_toInt64, Int32.toInt_toInt64]
theorem zp_cmp1 (x y : Int64) : (lg_cmp x y < 0) = (x < y) := by
  have : (x < y ∨ x = y ∨ x > y) := by
    rw [gt_iff_lt, Int64.lt_iff_toInt_lt, Int64.lt_iff_toInt_lt, ← Int64.toInt_inj]; omega
  unfold lg_cmp
  rcases this with h | h | h
  · have h1 : ¬ x > y := by rw [gt_iff_lt, Int64.lt_iff_toInt_lt]; rw [Int64.lt_iff_toInt_lt] at h; omega
    have h2 : ¬ x = y := by intro e; rw [e, Int64.lt_iff_toInt_lt] at h; omega
    rw [if_neg h1, if_neg h2]; simp only [h]; decide
  · have h1 : ¬ x > y := by rw [h, gt_iff_lt, Int64.lt_iff_toInt_lt]; omega
    have h2 : ¬ x < y := by rw [h, Int64.lt_iff_toInt_lt]; omega
    rw [if_neg h1, if_pos h]; simp only [h2]; decide
  · have h2 : ¬ x < y := by rw [gt_iff_lt, Int64.lt_iff_toInt_lt] at h; rw [Int64.lt_iff_toInt_lt]; omega
    rw [if_pos h]; simp only [h2]; decide
theorem zp_cmp2 (x y : Int64) : (0 < lg_cmp x y) = (y < x) := by
  have : (x < y ∨ x = y ∨ x > y) := by
    rw [gt_iff_lt, Int64.lt_iff_toInt_lt, Int64.lt_iff_toInt_lt, ← Int64.toInt_inj]; omega
  unfold lg_cmp
  rcases this with h | h | h
  · have h1 : ¬ y < x := by rw [Int64.lt_iff_toInt_lt]; rw [Int64.lt_iff_toInt_lt] at h; omega
    have h2 : ¬ x = y := by intro e; rw [e, Int64.lt_iff_toInt_lt] at h; omega
    rw [if_neg (show ¬ x > y from h1), if_neg h2]; simp only [h1]; decide
  · have h1 : ¬ y < x := by rw [h, Int64.lt_iff_toInt_lt]; omega
    rw [if_neg (show ¬ x > y from h1), if_pos h]; simp only [h1]; decide
  · have h2 : y < x := h
    rw [if_pos h]; simp only [h2]; decide
theorem zp_cmp3 (x y : Int64) : (lg_cmp x y ≤ 0) = (¬ y < x) := by
  rw [← zp_cmp2]
  have : ∀ z : Int32, (z ≤ 0) = (¬ 0 < z) := by
    intro z
    simp only [Int32.le_iff_toInt_le, Int32.lt_iff_toInt_lt]
    exact propext (by omega)
  exact this _
theorem zp_cmp4 (x y : Int64) : (lg_cmp x y = 0) = (x = y) := by
  unfold lg_cmp
  by_cases h : x > y
  · rw [if_pos h]
    have h2 : ¬ x = y := by intro e; rw [e, gt_iff_lt, Int64.lt_iff_toInt_lt] at h; omega
    simp only [h2]; decide
  · rw [if_neg h]
    by_cases e : x = y
    · rw [if_pos e]; simp only [e]
    · rw [if_neg e]; simp only [e]; decide
theorem zp_in (d : Nat) (x lo hi : Int32) (M : zi_M) : zi_run d zm_X10_in 0 [some (.inr (.inl (Int32.toInt64 x))), none, some (.inr (.inl (Int32.toInt64 lo))), none, some (.inr (.inl (Int32.toInt64 hi))), none] [] M = if x < lo then some (some (.inl 0), M) else if hi < x then some (some (.inl 0), M) else some (some (.inl 1), M) := by
  rw [ze_X10_in_0]; simp only [zp_cmp1, zp_cmp2, zp_lt64]
theorem zp_in_0_5 (d : Nat) (x : Int32) (M : zi_M) : zi_run d zm_X10_in 0 [some (.inr (.inl (Int32.toInt64 x))), none, some (.inr (.inl 0)), none, some (.inr (.inl 5)), none] [] M = if x < 0 then some (some (.inl 0), M) else if 5 < x then some (some (.inl 0), M) else some (some (.inl 1), M) := zp_in d x 0 5 M
theorem zp_in_0_3 (d : Nat) (x : Int32) (M : zi_M) : zi_run d zm_X10_in 0 [some (.inr (.inl (Int32.toInt64 x))), none, some (.inr (.inl 0)), none, some (.inr (.inl 3)), none] [] M = if x < 0 then some (some (.inl 0), M) else if 3 < x then some (some (.inl 0), M) else some (some (.inl 1), M) := zp_in d x 0 3 M
theorem zp_in_0_7 (d : Nat) (x : Int32) (M : zi_M) : zi_run d zm_X10_in 0 [some (.inr (.inl (Int32.toInt64 x))), none, some (.inr (.inl 0)), none, some (.inr (.inl 7)), none] [] M = if x < 0 then some (some (.inl 0), M) else if 7 < x then some (some (.inl 0), M) else some (some (.inl 1), M) := zp_in d x 0 7 M
theorem zp_in_1_5 (d : Nat) (x : Int32) (M : zi_M) : zi_run d zm_X10_in 0 [some (.inr (.inl (Int32.toInt64 x))), none, some (.inr (.inl 1)), none, some (.inr (.inl 5)), none] [] M = if x < 1 then some (some (.inl 0), M) else if 5 < x then some (some (.inl 0), M) else some (some (.inl 1), M) := zp_in d x 1 5 M
theorem zp_in_0_9 (d : Nat) (x : Int32) (M : zi_M) : zi_run d zm_X10_in 0 [some (.inr (.inl (Int32.toInt64 x))), none, some (.inr (.inl 0)), none, some (.inr (.inl 9)), none] [] M = if x < 0 then some (some (.inl 0), M) else if 9 < x then some (some (.inl 0), M) else some (some (.inl 1), M) := zp_in d x 0 9 M
theorem zp_in_0_2 (d : Nat) (x : Int32) (M : zi_M) : zi_run d zm_X10_in 0 [some (.inr (.inl (Int32.toInt64 x))), none, some (.inr (.inl 0)), none, some (.inr (.inl 2)), none] [] M = if x < 0 then some (some (.inl 0), M) else if 2 < x then some (some (.inl 0), M) else some (some (.inl 1), M) := zp_in d x 0 2 M
theorem zp_in_48_57 (d : Nat) (x : Int32) (M : zi_M) : zi_run d zm_X10_in 0 [some (.inr (.inl (Int32.toInt64 x))), none, some (.inr (.inl 48)), none, some (.inr (.inl 57)), none] [] M = if x < 48 then some (some (.inl 0), M) else if 57 < x then some (some (.inl 0), M) else some (some (.inl 1), M) := zp_in d x 48 57 M
theorem zp_in_0_12 (d : Nat) (x : Int32) (M : zi_M) : zi_run d zm_X10_in 0 [some (.inr (.inl (Int32.toInt64 x))), none, some (.inr (.inl 0)), none, some (.inr (.inl 12)), none] [] M = if x < 0 then some (some (.inl 0), M) else if 12 < x then some (some (.inl 0), M) else some (some (.inl 1), M) := zp_in d x 0 12 M
theorem zp_in_1_4 (d : Nat) (x : Int32) (M : zi_M) : zi_run d zm_X10_in 0 [some (.inr (.inl (Int32.toInt64 x))), none, some (.inr (.inl 1)), none, some (.inr (.inl 4)), none] [] M = if x < 1 then some (some (.inl 0), M) else if 4 < x then some (some (.inl 0), M) else some (some (.inl 1), M) := zp_in d x 1 4 M
theorem zp_in_1_9 (d : Nat) (x : Int32) (M : zi_M) : zi_run d zm_X10_in 0 [some (.inr (.inl (Int32.toInt64 x))), none, some (.inr (.inl 1)), none, some (.inr (.inl 9)), none] [] M = if x < 1 then some (some (.inl 0), M) else if 9 < x then some (some (.inl 0), M) else some (some (.inl 1), M) := zp_in d x 1 9 M
theorem zp_in_1_2147483646 (d : Nat) (x : Int32) (M : zi_M) : zi_run d zm_X10_in 0 [some (.inr (.inl (Int32.toInt64 x))), none, some (.inr (.inl 1)), none, some (.inr (.inl 2147483646)), none] [] M = if x < 1 then some (some (.inl 0), M) else if 2147483646 < x then some (some (.inl 0), M) else some (some (.inl 1), M) := zp_in d x 1 2147483646 M
theorem zp_in_0_8 (d : Nat) (x : Int32) (M : zi_M) : zi_run d zm_X10_in 0 [some (.inr (.inl (Int32.toInt64 x))), none, some (.inr (.inl 0)), none, some (.inr (.inl 8)), none] [] M = if x < 0 then some (some (.inl 0), M) else if 8 < x then some (some (.inl 0), M) else some (some (.inl 1), M) := zp_in d x 0 8 M
theorem zp_in_0 (d : Nat) (x y : Int32) (M : zi_M) : zi_run d zm_X10_in 0 [some (.inr (.inl (Int32.toInt64 x))), none, some (.inr (.inl 0)), none, some (.inr (.inl (Int32.toInt64 y))), none] [] M = if x < 0 then some (some (.inl 0), M) else if y < x then some (some (.inl 0), M) else some (some (.inl 1), M) := zp_in d x 0 y M
/-- reading behind writing -/
theorem zp_sI1 (M : zi_M) (c k s : Nat) (x : Int32) (c' k' s' : Nat) : (zi_sI M c k s x).1 c' k' s' = if c' = c then (if s' = s then (if k' = k then x else M.1 c' k' s') else M.1 c' k' s') else M.1 c' k' s' := (rfl)
theorem zp_sI2 (M : zi_M) (c k s : Nat) (x : Int32) : (zi_sI M c k s x).2 = M.2 := (rfl)
theorem zp_sL1 (M : zi_M) (c k s : Nat) (x : Int64) : (zi_sL M c k s x).1 = M.1 := (rfl)
theorem zp_sL2 (M : zi_M) (c k s : Nat) (x : Int64) (c' k' s' : Nat) : (zi_sL M c k s x).2.1 c' k' s' = if c' = c then (if s' = s then (if k' = k then x else M.2.1 c' k' s') else M.2.1 c' k' s') else M.2.1 c' k' s' := (rfl)
theorem zp_sL3 (M : zi_M) (c k s : Nat) (x : Int64) : (zi_sL M c k s x).2.2 = M.2.2 := (rfl)
theorem zp_sR1 (M : zi_M) (c k s : Nat) (x : Option Nat) : (zi_sR M c k s x).1 = M.1 := (rfl)
theorem zp_sR2 (M : zi_M) (c k s : Nat) (x : Option Nat) : (zi_sR M c k s x).2.1 = M.2.1 := (rfl)
theorem zp_sR3 (M : zi_M) (c k s : Nat) (x : Option Nat) (c' k' s' : Nat) : (zi_sR M c k s x).2.2 c' k' s' = if c' = c then (if s' = s then (if k' = k then x else M.2.2 c' k' s') else M.2.2 c' k' s') else M.2.2 c' k' s' := (rfl)
/-- one cell's ints anew -/
def zp_w (M : zi_M) (c k : Nat) (g : Nat → Int32) : zi_M := (fun c' k' s' => if c' = c then (if k' = k then g s' else M.1 c' k' s') else M.1 c' k' s', M.2)
theorem zp_w1 (M : zi_M) (c k : Nat) (g : Nat → Int32) (c' k' s' : Nat) : (zp_w M c k g).1 c' k' s' = if c' = c then (if k' = k then g s' else M.1 c' k' s') else M.1 c' k' s' := (rfl)
theorem zp_w2 (M : zi_M) (c k : Nat) (g : Nat → Int32) : (zp_w M c k g).2 = M.2 := (rfl)
theorem zp_ext {M M' : zi_M} (h : ∀ c k s, M.1 c k s = M'.1 c k s) (h2 : M.2 = M'.2) : M = M' := Prod.ext (funext fun c => funext fun k => funext fun s => h c k s) h2
theorem zp_w_id (M : zi_M) (c k : Nat) (g : Nat → Int32) (h : ∀ j, g j = M.1 c k j) : zp_w M c k g = M := by
  refine zp_ext (fun c' k' s' => ?_) rfl
  rw [zp_w1]
  by_cases h1 : c' = c
  · by_cases h2 : k' = k
    · rw [if_pos h1, if_pos h2, h, h1, h2]
    · rw [if_pos h1, if_neg h2]
  · rw [if_neg h1]
theorem zp_sIw (M : zi_M) (c k s : Nat) (x : Int32) : zi_sI M c k s x = zp_w M c k (fun j => if j = s then x else M.1 c k j) := by
  refine zp_ext (fun c' k' s' => ?_) rfl
  rw [zp_w1, zp_sI1]
  by_cases h1 : c' = c
  · subst h1
    by_cases h2 : k' = k
    · subst h2; simp
    · simp [h2]
  · simp [h1]
theorem zp_ww (M : zi_M) (c k : Nat) (g h : Nat → Int32) : zp_w (zp_w M c k g) c k h = zp_w M c k h := by
  refine zp_ext (fun c' k' s' => ?_) rfl
  rw [zp_w1, zp_w1, zp_w1]
  by_cases h1 : c' = c
  · by_cases h2 : k' = k
    · simp [h1, h2]
    · simp [h1, h2]
  · simp [h1]
theorem zp_wsI (M : zi_M) (c k s : Nat) (x : Int32) (g : Nat → Int32) : zi_sI (zp_w M c k g) c k s x = zp_w M c k (fun j => if j = s then x else g j) := by
  rw [zp_sIw, zp_ww]
  congr 1
  funext j
  simp [zp_w1]
/-- class and reference answer alike, and what holds behind both -/
def zp_ok (o : zi_O) (f : zi_M → zi_O) (I : zi_M → Prop) : Prop := ∃ v M1 M2, o = some (some v, M1) ∧ f M1 = some (some v, M2) ∧ I M2
def zp_ok2 (o : zi_O) (v : zi_V) (I : zi_M → Prop) : Prop := ∃ M2, o = some (some v, M2) ∧ I M2
theorem zp_okE (v : zi_V) (M1 : zi_M) (f : zi_M → zi_O) (I : zi_M → Prop) : zp_ok (some (some v, M1)) f I = zp_ok2 (f M1) v I := by
  refine propext ⟨fun ⟨v', M1', M2, h, h2, h3⟩ => ?_, fun ⟨M2, h, h2⟩ => ⟨v, M1, M2, rfl, h, h2⟩⟩
  cases h; exact ⟨M2, h2, h3⟩
theorem zp_ok2E (v w : zi_V) (M2 : zi_M) (I : zi_M → Prop) : zp_ok2 (some (some w, M2)) v I = (w = v ∧ I M2) := by
  refine propext ⟨fun ⟨M2', h, h2⟩ => ?_, fun ⟨h, h2⟩ => ⟨M2, by rw [h], h2⟩⟩
  cases h; exact ⟨rfl, h2⟩
theorem zp_okI {p : Prop} [Decidable p] (a b : zi_O) (f : zi_M → zi_O) (I : zi_M → Prop) : zp_ok (if p then a else b) f I = ((p → zp_ok a f I) ∧ (¬ p → zp_ok b f I)) := by
  by_cases h : p <;> simp [h]
theorem zp_ok2I {p : Prop} [Decidable p] (a b : zi_O) (v : zi_V) (I : zi_M → Prop) : zp_ok2 (if p then a else b) v I = ((p → zp_ok2 a v I) ∧ (¬ p → zp_ok2 b v I)) := by
  by_cases h : p <;> simp [h]
