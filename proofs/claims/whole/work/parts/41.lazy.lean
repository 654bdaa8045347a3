/-! THE PURE PART: the blocks' words so that 'simp' goes through a block from its head on, and enters what comes behind a call only with its answer -/
abbrev zp_TV (_ : zi_M → zi_O) : Type := zi_O
abbrev zp_TI (_ : Int32 → zi_M → zi_O) : Type := zi_O
abbrev zp_TL (_ : Int64 → zi_M → zi_O) : Type := zi_O
abbrev zp_TR (_ : Option Nat → zi_M → zi_O) : Type := zi_O
abbrev zp_TX (_ : Nat → zi_O) : Type := Int32
def zp_aV (K : zi_M → zi_O) (o : zp_TV K) : zi_O := zi_cV o K
def zp_aI (K : Int32 → zi_M → zi_O) (o : zp_TI K) : zi_O := zi_cI o K
def zp_aL (K : Int64 → zi_M → zi_O) (o : zp_TL K) : zi_O := zi_cL o K
def zp_aR (c : Nat) (K : Option Nat → zi_M → zi_O) (o : zp_TR K) : zi_O := zi_cR o c K
def zp_aX (K : Nat → zi_O) (n : Nat) (i : zp_TX K) : zi_O := zi_ix i n K
theorem zp_hV (o : zi_O) (K : zi_M → zi_O) : zi_cV o K = zp_aV K o := (rfl)
theorem zp_hI (o : zi_O) (K : Int32 → zi_M → zi_O) : zi_cI o K = zp_aI K o := (rfl)
theorem zp_hL (o : zi_O) (K : Int64 → zi_M → zi_O) : zi_cL o K = zp_aL K o := (rfl)
theorem zp_hR (o : zi_O) (c : Nat) (K : Option Nat → zi_M → zi_O) : zi_cR o c K = zp_aR c K o := (rfl)
theorem zp_hX (i : Int32) (n : Nat) (K : Nat → zi_O) : zi_ix i n K = zp_aX K n i := (rfl)
theorem zp_eV (M : zi_M) (K : zi_M → zi_O) : zp_aV K (some (none, M) : zi_O) = K M := (rfl)
theorem zp_eI (x : Int32) (M : zi_M) (K : Int32 → zi_M → zi_O) : zp_aI K (some (some (.inl x), M) : zi_O) = K x M := (rfl)
theorem zp_eL (x : Int64) (M : zi_M) (K : Int64 → zi_M → zi_O) : zp_aL K (some (some (.inr (.inl x)), M) : zi_O) = K x M := (rfl)
theorem zp_eR (c : Nat) (o : Option Nat) (M : zi_M) (K : Option Nat → zi_M → zi_O) : zp_aR c K (some (some (.inr (.inr (c, o))), M) : zi_O) = K o M := zp_cR c o M K
theorem zp_iV {p : Prop} [Decidable p] (a b : zi_O) (K : zi_M → zi_O) : zp_aV K (if p then a else b : zi_O) = if p then zp_aV K a else zp_aV K b := by split <;> rfl
theorem zp_iI {p : Prop} [Decidable p] (a b : zi_O) (K : Int32 → zi_M → zi_O) : zp_aI K (if p then a else b : zi_O) = if p then zp_aI K a else zp_aI K b := by split <;> rfl
theorem zp_iL {p : Prop} [Decidable p] (a b : zi_O) (K : Int64 → zi_M → zi_O) : zp_aL K (if p then a else b : zi_O) = if p then zp_aL K a else zp_aL K b := by split <;> rfl
theorem zp_iR {p : Prop} [Decidable p] (a b : zi_O) (c : Nat) (K : Option Nat → zi_M → zi_O) : zp_aR c K (if p then a else b : zi_O) = if p then zp_aR c K a else zp_aR c K b := by split <;> rfl
theorem zp_eX {q n : Nat} (K : Nat → zi_O) (h : q < n) (hn : n < 2 ^ 31) : zp_aX K n (nI q) = K q := zp_ix K h hn
theorem zp_eXl {q n : Nat} (K : Nat → zi_O) (h : (OfNat.ofNat q : Nat) < n) (hn : n < 2 ^ 31) : zp_aX K n (no_index (OfNat.ofNat q) : Int32) = K (OfNat.ofNat q : Nat) := zp_ix K h hn
/-- the reference's call, kept shut until its memory is there -/
noncomputable def zp_rf (d : Nat) (r : zi_R) (L : zi_L) : zi_M → zi_O := fun M => zi_run d r 0 L [] M
theorem zp_rfE (d : Nat) (r : zi_R) (L : zi_L) (M : zi_M) : zp_rf d r L M = zi_run d r 0 L [] M := (rfl)
