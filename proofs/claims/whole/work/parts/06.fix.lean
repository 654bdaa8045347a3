/-! THE RUN IS A FIXED POINT -/
def zi_le (a b : zi_O) : Prop := ∀ q, a = some q → b = some q
theorem zi_le_r (a : zi_O) : zi_le a a := fun _ h => h
theorem zi_le_n (b : zi_O) : zi_le none b := fun _ h => by cases h
theorem zi_le_1i {S : zi_S} {K K' : Int32 → zi_S → zi_O} (h : ∀ x T, zi_le (K x T) (K' x T)) : zi_le (zi_1i S K) (zi_1i S K') := by
  unfold zi_1i; split
  · exact h _ _
  · exact zi_le_n _
theorem zi_le_2i {S : zi_S} {K K' : Int32 → Int32 → zi_S → zi_O} (h : ∀ x y T, zi_le (K x y T) (K' x y T)) : zi_le (zi_2i S K) (zi_2i S K') := by
  unfold zi_2i; split
  · exact h _ _ _
  · exact zi_le_n _
theorem zi_le_1l {S : zi_S} {K K' : Int64 → zi_S → zi_O} (h : ∀ x T, zi_le (K x T) (K' x T)) : zi_le (zi_1l S K) (zi_1l S K') := by
  unfold zi_1l; split
  · exact h _ _
  · exact zi_le_n _
theorem zi_le_2l {S : zi_S} {K K' : Int64 → Int64 → zi_S → zi_O} (h : ∀ x y T, zi_le (K x y T) (K' x y T)) : zi_le (zi_2l S K) (zi_2l S K') := by
  unfold zi_2l; split
  · exact h _ _ _
  · exact zi_le_n _
theorem zi_le_1r {S : zi_S} {K K' : Nat → Option Nat → zi_S → zi_O} (h : ∀ c o T, zi_le (K c o T) (K' c o T)) : zi_le (zi_1r S K) (zi_1r S K') := by
  unfold zi_1r; split
  · exact h _ _ _
  · exact zi_le_n _
theorem zi_le_sm {o : Option Nat} {K K' : Nat → zi_O} (h : ∀ k, zi_le (K k) (K' k)) : zi_le (zi_sm o K) (zi_sm o K') := by
  unfold zi_sm; split
  · exact h _
  · exact zi_le_n _
theorem zi_le_nl {o : Option Nat} {A A' B B' : zi_O} (h : zi_le A A') (g : zi_le B B') : zi_le (zi_nl o A B) (zi_nl o A' B') := by
  unfold zi_nl; split
  · exact g
  · exact h
theorem zi_le_ite {c : Prop} [Decidable c] {A A' B B' : zi_O} (h : zi_le A A') (g : zi_le B B') : zi_le (if c then A else B) (if c then A' else B') := by
  split
  · exact h
  · exact g
theorem zi_le_ix {i : Int32} {n : Nat} {K K' : Nat → zi_O} (h : ∀ k, zi_le (K k) (K' k)) : zi_le (zi_ix i n K) (zi_ix i n K') := zi_le_ite (zi_le_n _) (zi_le_ite (zi_le_n _) (h _))
theorem zi_le_li {L : zi_L} {i : Nat} {K K' : Int32 → zi_O} (h : ∀ k, zi_le (K k) (K' k)) : zi_le (zi_li L i K) (zi_li L i K') := by
  unfold zi_li; split
  · exact h _
  · exact zi_le_n _
theorem zi_le_ll {L : zi_L} {i : Nat} {K K' : Int64 → zi_O} (h : ∀ k, zi_le (K k) (K' k)) : zi_le (zi_ll L i K) (zi_ll L i K') := by
  unfold zi_ll; split
  · exact h _
  · exact zi_le_n _
theorem zi_le_la {L : zi_L} {i : Nat} {K K' : Nat → Option Nat → zi_O} (h : ∀ c k, zi_le (K c k) (K' c k)) : zi_le (zi_la L i K) (zi_la L i K') := by
  unfold zi_la; split
  · exact h _ _
  · exact zi_le_n _
theorem zi_le_p1 {L : zi_L} {i : Nat} {v : zi_V} {K K' : zi_L → zi_O} (h : ∀ k, zi_le (K k) (K' k)) : zi_le (zi_p1 L i v K) (zi_p1 L i v K') := by
  unfold zi_p1; split
  · exact h _
  · exact zi_le_n _
theorem zi_le_p2 {L : zi_L} {i : Nat} {v : zi_V} {K K' : zi_L → zi_O} (h : ∀ k, zi_le (K k) (K' k)) : zi_le (zi_p2 L i v K) (zi_p2 L i v K') := by
  unfold zi_p2; split
  · exact h _
  · exact zi_le_n _
theorem zi_le_to {pc : Nat} {off : Int} {K K' : Nat → zi_O} (h : ∀ k, zi_le (K k) (K' k)) : zi_le (zi_to pc off K) (zi_to pc off K') := by
  unfold zi_to; split
  · exact h _
  · exact zi_le_n _
theorem zi_le_if {c : ClassFile.Cond} {x y : Int32} {A A' B B' : zi_O} (h : zi_le A A') (g : zi_le B B') : zi_le (zi_if c x y A B) (zi_if c x y A' B') := by
  unfold zi_if; cases c <;> first | exact zi_le_ite h g | exact zi_le_ite g h
theorem zi_le_bo {x : Int32} {A A' : zi_O} (h : zi_le A A') : zi_le (zi_bo x A) (zi_bo x A') := zi_le_ite h (zi_le_ite h (zi_le_n _))
theorem zi_le_rs {S : zi_S} {A A' : zi_O} (h : zi_le A A') : zi_le (zi_rs S A) (zi_rs S A') := by
  unfold zi_rs; split
  · exact h
  · exact zi_le_n _
theorem zi_le_pp {K K' : List zi_V → zi_S → zi_O} (h : ∀ a T, zi_le (K a T) (K' a T)) (n : Nat) : ∀ (S : zi_S) (a : List zi_V), zi_le (zi_pp n S a K) (zi_pp n S a K') := by
  induction n with
  | zero => intro S a; exact h _ _
  | succ n ih =>
    intro S a
    cases S with
    | nil => exact zi_le_n _
    | cons v S => exact ih _ _
theorem zi_le_op {α : Type} {o : Option α} {K K' : α → zi_O} (h : ∀ k, zi_le (K k) (K' k)) : zi_le (zi_op o K) (zi_op o K') := by
  unfold zi_op; split
  · exact h _
  · exact zi_le_n _
theorem zi_le_bl {b : Bool} {A A' B B' : zi_O} (h : zi_le A A') (g : zi_le B B') : zi_le (zi_bl b A B) (zi_bl b A' B') := by
  unfold zi_bl; split
  · exact h
  · exact g
theorem zi_le_nn {o : Option Nat} {A A' : zi_O} {K K' : Nat → zi_O} (g : zi_le A A') (h : ∀ k, zi_le (K k) (K' k)) : zi_le (zi_nn o A K) (zi_nn o A' K') := by
  unfold zi_nn; split
  · exact g
  · exact h _
theorem zi_le_du {S : zi_S} {K K' : zi_S → zi_O} (h : ∀ k, zi_le (K k) (K' k)) : zi_le (zi_du S K) (zi_du S K') := by
  unfold zi_du; split
  · exact h _
  · exact h _
  · exact zi_le_n _
theorem zi_le_d2 {S : zi_S} {K K' : zi_S → zi_O} (h : ∀ k, zi_le (K k) (K' k)) : zi_le (zi_d2 S K) (zi_d2 S K') := by
  unfold zi_d2; split
  · exact h _
  · exact zi_le_n _
theorem zi_le_po {S : zi_S} {K K' : zi_S → zi_O} (h : ∀ k, zi_le (K k) (K' k)) : zi_le (zi_po S K) (zi_po S K') := by
  unfold zi_po; split
  · exact h _
  · exact h _
  · exact zi_le_n _
theorem zi_le_cV {o o' : zi_O} {K K' : zi_M → zi_O} (ho : zi_le o o') (h : ∀ k, zi_le (K k) (K' k)) : zi_le (zi_cV o K) (zi_cV o' K') := by
  intro q hq
  unfold zi_cV at hq ⊢
  split at hq
  · rw [ho _ rfl]; exact h _ _ hq
  · cases hq
theorem zi_le_cI {o o' : zi_O} {K K' : Int32 → zi_M → zi_O} (ho : zi_le o o') (h : ∀ x k, zi_le (K x k) (K' x k)) : zi_le (zi_cI o K) (zi_cI o' K') := by
  intro q hq
  unfold zi_cI at hq ⊢
  split at hq
  · rw [ho _ rfl]; exact h _ _ _ hq
  · cases hq
theorem zi_le_cL {o o' : zi_O} {K K' : Int64 → zi_M → zi_O} (ho : zi_le o o') (h : ∀ x k, zi_le (K x k) (K' x k)) : zi_le (zi_cL o K) (zi_cL o' K') := by
  intro q hq
  unfold zi_cL at hq ⊢
  split at hq
  · rw [ho _ rfl]; exact h _ _ _ hq
  · cases hq
theorem zi_le_cR {o o' : zi_O} {c : Nat} {K K' : Option Nat → zi_M → zi_O} (ho : zi_le o o') (h : ∀ x k, zi_le (K x k) (K' x k)) : zi_le (zi_cR o c K) (zi_cR o' c K') := by
  intro q hq
  unfold zi_cR at hq ⊢
  split at hq
  · rw [ho _ rfl]
    exact zi_le_ite (h _ _) (zi_le_n _) _ hq
  · cases hq
theorem zi_le_ca {r : zi_R} {o o' : zi_O} {S : zi_S} {K K' : zi_S → zi_M → zi_O} (ho : zi_le o o') (h : ∀ x k, zi_le (K x k) (K' x k)) : zi_le (zi_ca r o S K) (zi_ca r o' S K') := by
  unfold zi_ca; split
  · exact zi_le_cV ho (fun _ => h _ _)
  · exact zi_le_cL ho (fun _ _ => h _ _)
  · exact zi_le_cR ho (fun _ _ => h _ _)
  · exact zi_le_cI ho (fun _ _ => h _ _)
theorem zi_le_dn {d : Nat} {K K' : Nat → zi_O} (h : ∀ e, zi_le (K e) (K' e)) : zi_le (zi_dn d K) (zi_dn d K') := zi_le_ite (zi_le_n _) (h _)
theorem zi_le_sw {x : Int32} {d lo hi : Int} {offs : Array Int} {K K' : Int → zi_O} (h : ∀ e, zi_le (K e) (K' e)) : zi_le (zi_sw x d lo hi offs K) (zi_sw x d lo hi offs K') := by
  unfold zi_sw
  refine zi_le_ite (h _) (zi_le_ite (h _) ?_)
  split
  · exact h _
  · exact zi_le_n _
theorem zi_le_ac {M : zi_M} {S : zi_S} {K K' : zi_S → zi_M → zi_O} (h : ∀ x k, zi_le (K x k) (K' x k)) : zi_le (zi_ac M S K) (zi_ac M S K') := by
  unfold zi_ac; split
  · exact zi_le_ite (zi_le_ite (zi_le_ite (zi_le_n _) (zi_le_ite (zi_le_n _) (zi_le_ite (zi_le_n _) (zi_le_ite (zi_le_ite (zi_le_rs (h _ _)) (zi_le_n _)) (zi_le_n _))))) (zi_le_n _)) (zi_le_n _)
  · exact zi_le_n _
theorem zi_le_ma {t : Nat} {S : zi_S} {K K' : zi_S → zi_O} (h : ∀ k, zi_le (K k) (K' k)) : zi_le (zi_ma t S K) (zi_ma t S K') := zi_le_ite (zi_le_1i (fun _ _ => zi_le_rs (h _))) (zi_le_ite (zi_le_2i (fun _ _ _ => zi_le_rs (h _))) (zi_le_ite (zi_le_2i (fun _ _ _ => zi_le_rs (h _))) (zi_le_n _)))
set_option maxHeartbeats 4000000 in
theorem zi_le_st {r : zi_R} {f f' sw sw' : Nat → zi_L → zi_S → zi_M → zi_O} {call call' : zi_R → List zi_V → zi_M → zi_O} (hf : ∀ a b c d, zi_le (f a b c d) (f' a b c d)) (hs : ∀ a b c d, zi_le (sw a b c d) (sw' a b c d)) (hc : ∀ a b c, zi_le (call a b c) (call' a b c)) (i : Instr) (pc : Nat) (L : zi_L) (S : zi_S) (M : zi_M) : zi_le (zi_st r f sw call i pc L S M) (zi_st r f' sw' call' i pc L S M) := by
  cases i <;> simp only [zi_st] <;> first
    | exact zi_le_n _
    | exact zi_le_r _
    | (repeat' first
      | exact zi_le_n _
      | exact hf _ _ _ _
      | exact hs _ _ _ _
      | exact hc _ _ _
      | refine zi_le_1i (fun _ _ => ?_)
      | refine zi_le_2i (fun _ _ _ => ?_)
      | refine zi_le_1l (fun _ _ => ?_)
      | refine zi_le_2l (fun _ _ _ => ?_)
      | refine zi_le_1r (fun _ _ _ => ?_)
      | refine zi_le_sm (fun _ => ?_)
      | refine zi_le_nl ?_ ?_
      | refine zi_le_ix (fun _ => ?_)
      | refine zi_le_li (fun _ => ?_)
      | refine zi_le_ll (fun _ => ?_)
      | refine zi_le_la (fun _ _ => ?_)
      | refine zi_le_p1 (fun _ => ?_)
      | refine zi_le_p2 (fun _ => ?_)
      | refine zi_le_to (fun _ => ?_)
      | refine zi_le_if ?_ ?_
      | refine zi_le_bo ?_
      | refine zi_le_rs ?_
      | refine zi_le_pp (fun _ _ => ?_) _ _ _
      | refine zi_le_op (fun _ => ?_)
      | refine zi_le_bl ?_ ?_
      | refine zi_le_nn ?_ (fun _ => ?_)
      | refine zi_le_du (fun _ => ?_)
      | refine zi_le_ma (fun _ => ?_)
      | refine zi_le_d2 (fun _ => ?_)
      | refine zi_le_po (fun _ => ?_)
      | refine zi_le_ca ?_ (fun _ _ => ?_)
      | refine zi_le_sw (fun _ => ?_)
      | refine zi_le_ac (fun _ _ => ?_)
      | refine zi_le_ite ?_ ?_
      | exact zi_le_r _)
theorem zi_le_k {g g' f f' : zi_G} (hg : ∀ d r a b c e, zi_le (g d r a b c e) (g' d r a b c e)) (hf : ∀ d r a b c e, zi_le (f d r a b c e) (f' d r a b c e)) (d : Nat) (r : zi_R) (t : Nat) (L : zi_L) (S : zi_S) (M : zi_M) : zi_le (zi_k g f d r t L S M) (zi_k g' f' d r t L S M) := by
  unfold zi_k; split
  · exact hg _ _ _ _ _ _
  · exact hf _ _ _ _ _ _
theorem zi_le_F {g g' f f' : zi_G} (hg : ∀ d r a b c e, zi_le (g d r a b c e) (g' d r a b c e)) (hf : ∀ d r a b c e, zi_le (f d r a b c e) (f' d r a b c e)) (d : Nat) (r : zi_R) (t : Nat) (L : zi_L) (S : zi_S) (M : zi_M) : zi_le (zi_F g f d r t L S M) (zi_F g' f' d r t L S M) := by
  unfold zi_F; split
  · exact zi_le_n _
  · exact zi_le_st (fun _ _ _ _ => zi_le_k hg hf _ _ _ _ _ _) (fun _ _ _ _ => hg _ _ _ _ _ _) (fun _ _ _ => zi_le_bl (zi_le_dn (fun _ => hg _ _ _ _ _ _)) (zi_le_n _)) _ _ _ _ _
theorem zi_go_1 : ∀ (n d : Nat) (r : zi_R) (t : Nat) (L : zi_L) (S : zi_S) (M : zi_M), zi_le (zi_go n d r t L S M) (zi_go (n + 1) d r t L S M)
  | 0, _, _, _, _, _, _ => zi_le_n _
  | n + 1, _, _, _, _, _, _ => zi_le_F (fun _ _ _ _ _ _ => zi_go_1 n _ _ _ _ _ _) (fun _ _ _ _ _ _ => zi_go_1 n _ _ _ _ _ _) _ _ _ _ _ _
theorem zi_go_m {n m : Nat} (h : n ≤ m) (d : Nat) (r : zi_R) (t : Nat) (L : zi_L) (S : zi_S) (M : zi_M) : zi_le (zi_go n d r t L S M) (zi_go m d r t L S M) := by
  induction h with
  | refl => exact zi_le_r _
  | step _ ih => exact fun q hq => zi_go_1 _ _ _ _ _ _ _ q (ih q hq)
theorem zi_run_of {n d : Nat} {r : zi_R} {t : Nat} {L : zi_L} {S : zi_S} {M : zi_M} {q : Option zi_V × zi_M} (h : zi_go n d r t L S M = some q) : zi_run d r t L S M = some q := by
  have hex : ∃ n, (zi_go n d r t L S M).isSome = true := ⟨n, by rw [h]; rfl⟩
  unfold zi_run
  rw [dif_pos hex]
  obtain ⟨q', hq'⟩ := Option.isSome_iff_exists.mp (Classical.choose_spec hex)
  rw [hq']
  have h1 := zi_go_m (Nat.le_max_left n (Classical.choose hex)) d r t L S M q h
  have h2 := zi_go_m (Nat.le_max_right n (Classical.choose hex)) d r t L S M q' hq'
  rw [h1] at h2
  exact h2.symm
theorem zi_of_run {d : Nat} {r : zi_R} {t : Nat} {L : zi_L} {S : zi_S} {M : zi_M} {q : Option zi_V × zi_M} (h : zi_run d r t L S M = some q) : ∃ n, zi_go n d r t L S M = some q := by
  by_cases hex : ∃ n, (zi_go n d r t L S M).isSome = true
  · unfold zi_run at h
    rw [dif_pos hex] at h
    exact ⟨_, h⟩
  · unfold zi_run at h
    rw [dif_neg hex] at h
    cases h
/-! limits -/
def zi_lm (A : Nat → zi_O) (B : zi_O) : Prop := (∀ n m, n ≤ m → zi_le (A n) (A m)) ∧ ∀ q, B = some q → ∃ n, A n = some q
theorem zi_lm_c (a : zi_O) : zi_lm (fun _ => a) a := ⟨fun _ _ _ => zi_le_r _, fun _ h => ⟨0, h⟩⟩
theorem zi_lm_1i {S : zi_S} {K : Nat → Int32 → zi_S → zi_O} {K' : Int32 → zi_S → zi_O} (h : ∀ a b, zi_lm (fun n => K n a b) (K' a b)) : zi_lm (fun n => zi_1i S (K n)) (zi_1i S K') := by
  refine ⟨fun n m hnm => zi_le_1i (fun a b => (h a b).1 n m hnm), fun q hq => ?_⟩
  unfold zi_1i at hq ⊢
  split at hq
  · exact (h _ _).2 q hq
  · cases hq
theorem zi_lm_1l {S : zi_S} {K : Nat → Int64 → zi_S → zi_O} {K' : Int64 → zi_S → zi_O} (h : ∀ a b, zi_lm (fun n => K n a b) (K' a b)) : zi_lm (fun n => zi_1l S (K n)) (zi_1l S K') := by
  refine ⟨fun n m hnm => zi_le_1l (fun a b => (h a b).1 n m hnm), fun q hq => ?_⟩
  unfold zi_1l at hq ⊢
  split at hq
  · exact (h _ _).2 q hq
  · cases hq
theorem zi_lm_2i {S : zi_S} {K : Nat → Int32 → Int32 → zi_S → zi_O} {K' : Int32 → Int32 → zi_S → zi_O} (h : ∀ a b c, zi_lm (fun n => K n a b c) (K' a b c)) : zi_lm (fun n => zi_2i S (K n)) (zi_2i S K') := by
  refine ⟨fun n m hnm => zi_le_2i (fun a b c => (h a b c).1 n m hnm), fun q hq => ?_⟩
  unfold zi_2i at hq ⊢
  split at hq
  · exact (h _ _ _).2 q hq
  · cases hq
theorem zi_lm_2l {S : zi_S} {K : Nat → Int64 → Int64 → zi_S → zi_O} {K' : Int64 → Int64 → zi_S → zi_O} (h : ∀ a b c, zi_lm (fun n => K n a b c) (K' a b c)) : zi_lm (fun n => zi_2l S (K n)) (zi_2l S K') := by
  refine ⟨fun n m hnm => zi_le_2l (fun a b c => (h a b c).1 n m hnm), fun q hq => ?_⟩
  unfold zi_2l at hq ⊢
  split at hq
  · exact (h _ _ _).2 q hq
  · cases hq
theorem zi_lm_1r {S : zi_S} {K : Nat → Nat → Option Nat → zi_S → zi_O} {K' : Nat → Option Nat → zi_S → zi_O} (h : ∀ a b c, zi_lm (fun n => K n a b c) (K' a b c)) : zi_lm (fun n => zi_1r S (K n)) (zi_1r S K') := by
  refine ⟨fun n m hnm => zi_le_1r (fun a b c => (h a b c).1 n m hnm), fun q hq => ?_⟩
  unfold zi_1r at hq ⊢
  split at hq
  · exact (h _ _ _).2 q hq
  · cases hq
theorem zi_lm_sm {o : Option Nat} {K : Nat → Nat → zi_O} {K' : Nat → zi_O} (h : ∀ a, zi_lm (fun n => K n a) (K' a)) : zi_lm (fun n => zi_sm o (K n)) (zi_sm o K') := by
  refine ⟨fun n m hnm => zi_le_sm (fun a => (h a).1 n m hnm), fun q hq => ?_⟩
  unfold zi_sm at hq ⊢
  split at hq
  · exact (h _).2 q hq
  · cases hq
theorem zi_lm_li {L : zi_L} {i : Nat} {K : Nat → Int32 → zi_O} {K' : Int32 → zi_O} (h : ∀ a, zi_lm (fun n => K n a) (K' a)) : zi_lm (fun n => zi_li L i (K n)) (zi_li L i K') := by
  refine ⟨fun n m hnm => zi_le_li (fun a => (h a).1 n m hnm), fun q hq => ?_⟩
  unfold zi_li at hq ⊢
  split at hq
  · exact (h _).2 q hq
  · cases hq
theorem zi_lm_ll {L : zi_L} {i : Nat} {K : Nat → Int64 → zi_O} {K' : Int64 → zi_O} (h : ∀ a, zi_lm (fun n => K n a) (K' a)) : zi_lm (fun n => zi_ll L i (K n)) (zi_ll L i K') := by
  refine ⟨fun n m hnm => zi_le_ll (fun a => (h a).1 n m hnm), fun q hq => ?_⟩
  unfold zi_ll at hq ⊢
  split at hq
  · exact (h _).2 q hq
  · cases hq
theorem zi_lm_la {L : zi_L} {i : Nat} {K : Nat → Nat → Option Nat → zi_O} {K' : Nat → Option Nat → zi_O} (h : ∀ a b, zi_lm (fun n => K n a b) (K' a b)) : zi_lm (fun n => zi_la L i (K n)) (zi_la L i K') := by
  refine ⟨fun n m hnm => zi_le_la (fun a b => (h a b).1 n m hnm), fun q hq => ?_⟩
  unfold zi_la at hq ⊢
  split at hq
  · exact (h _ _).2 q hq
  · cases hq
theorem zi_lm_p1 {L : zi_L} {i : Nat} {v : zi_V} {K : Nat → zi_L → zi_O} {K' : zi_L → zi_O} (h : ∀ a, zi_lm (fun n => K n a) (K' a)) : zi_lm (fun n => zi_p1 L i v (K n)) (zi_p1 L i v K') := by
  refine ⟨fun n m hnm => zi_le_p1 (fun a => (h a).1 n m hnm), fun q hq => ?_⟩
  unfold zi_p1 at hq ⊢
  split at hq
  · exact (h _).2 q hq
  · cases hq
theorem zi_lm_p2 {L : zi_L} {i : Nat} {v : zi_V} {K : Nat → zi_L → zi_O} {K' : zi_L → zi_O} (h : ∀ a, zi_lm (fun n => K n a) (K' a)) : zi_lm (fun n => zi_p2 L i v (K n)) (zi_p2 L i v K') := by
  refine ⟨fun n m hnm => zi_le_p2 (fun a => (h a).1 n m hnm), fun q hq => ?_⟩
  unfold zi_p2 at hq ⊢
  split at hq
  · exact (h _).2 q hq
  · cases hq
theorem zi_lm_to {pc : Nat} {off : Int} {K : Nat → Nat → zi_O} {K' : Nat → zi_O} (h : ∀ a, zi_lm (fun n => K n a) (K' a)) : zi_lm (fun n => zi_to pc off (K n)) (zi_to pc off K') := by
  refine ⟨fun n m hnm => zi_le_to (fun a => (h a).1 n m hnm), fun q hq => ?_⟩
  unfold zi_to at hq ⊢
  split at hq
  · exact (h _).2 q hq
  · cases hq
theorem zi_lm_op {α : Type} {o : Option α} {K : Nat → α → zi_O} {K' : α → zi_O} (h : ∀ a, zi_lm (fun n => K n a) (K' a)) : zi_lm (fun n => zi_op o (K n)) (zi_op o K') := by
  refine ⟨fun n m hnm => zi_le_op (fun a => (h a).1 n m hnm), fun q hq => ?_⟩
  unfold zi_op at hq ⊢
  split at hq
  · exact (h _).2 q hq
  · cases hq
theorem zi_lm_d2 {S : zi_S} {K : Nat → zi_S → zi_O} {K' : zi_S → zi_O} (h : ∀ a, zi_lm (fun n => K n a) (K' a)) : zi_lm (fun n => zi_d2 S (K n)) (zi_d2 S K') := by
  refine ⟨fun n m hnm => zi_le_d2 (fun a => (h a).1 n m hnm), fun q hq => ?_⟩
  unfold zi_d2 at hq ⊢
  split at hq
  · exact (h _).2 q hq
  · cases hq
theorem zi_lm_du {S : zi_S} {K : Nat → zi_S → zi_O} {K' : zi_S → zi_O} (h : ∀ a, zi_lm (fun n => K n a) (K' a)) : zi_lm (fun n => zi_du S (K n)) (zi_du S K') := by
  refine ⟨fun n m hnm => zi_le_du (fun a => (h a).1 n m hnm), fun q hq => ?_⟩
  unfold zi_du at hq ⊢
  split at hq
  · exact (h _).2 q hq
  · exact (h _).2 q hq
  · cases hq
theorem zi_lm_po {S : zi_S} {K : Nat → zi_S → zi_O} {K' : zi_S → zi_O} (h : ∀ a, zi_lm (fun n => K n a) (K' a)) : zi_lm (fun n => zi_po S (K n)) (zi_po S K') := by
  refine ⟨fun n m hnm => zi_le_po (fun a => (h a).1 n m hnm), fun q hq => ?_⟩
  unfold zi_po at hq ⊢
  split at hq
  · exact (h _).2 q hq
  · exact (h _).2 q hq
  · cases hq
theorem zi_lm_ite {c : Prop} [Decidable c] {A B : Nat → zi_O} {A' B' : zi_O} (h : zi_lm A A') (g : zi_lm B B') : zi_lm (fun n => if c then A n else B n) (if c then A' else B') := by
  by_cases hc : c
  · simp only [if_pos hc]; exact h
  · simp only [if_neg hc]; exact g
theorem zi_lm_ix {i : Int32} {n0 : Nat} {K : Nat → Nat → zi_O} {K' : Nat → zi_O} (h : ∀ k, zi_lm (fun n => K n k) (K' k)) : zi_lm (fun n => zi_ix i n0 (K n)) (zi_ix i n0 K') := zi_lm_ite (zi_lm_c _) (zi_lm_ite (zi_lm_c _) (h _))
theorem zi_lm_nl {o : Option Nat} {A B : Nat → zi_O} {A' B' : zi_O} (h : zi_lm A A') (g : zi_lm B B') : zi_lm (fun n => zi_nl o (A n) (B n)) (zi_nl o A' B') := by
  cases o
  · exact h
  · exact g
theorem zi_lm_bl {o : Bool} {A B : Nat → zi_O} {A' B' : zi_O} (h : zi_lm A A') (g : zi_lm B B') : zi_lm (fun n => zi_bl o (A n) (B n)) (zi_bl o A' B') := by
  cases o
  · exact g
  · exact h
theorem zi_lm_nn {o : Option Nat} {A : Nat → zi_O} {A' : zi_O} {K : Nat → Nat → zi_O} {K' : Nat → zi_O} (g : zi_lm A A') (h : ∀ k, zi_lm (fun n => K n k) (K' k)) : zi_lm (fun n => zi_nn o (A n) (K n)) (zi_nn o A' K') := by
  cases o
  · exact g
  · exact h _
theorem zi_lm_if {c : ClassFile.Cond} {x y : Int32} {A B : Nat → zi_O} {A' B' : zi_O} (h : zi_lm A A') (g : zi_lm B B') : zi_lm (fun n => zi_if c x y (A n) (B n)) (zi_if c x y A' B') := by
  cases c <;> first | exact zi_lm_ite h g | exact zi_lm_ite g h
theorem zi_lm_bo {x : Int32} {A : Nat → zi_O} {A' : zi_O} (h : zi_lm A A') : zi_lm (fun n => zi_bo x (A n)) (zi_bo x A') := zi_lm_ite h (zi_lm_ite h (zi_lm_c _))
theorem zi_lm_rs {S : zi_S} {A : Nat → zi_O} {A' : zi_O} (h : zi_lm A A') : zi_lm (fun n => zi_rs S (A n)) (zi_rs S A') := by
  unfold zi_rs
  cases Nat.ble (S.map zi_ct).sum 8
  · exact zi_lm_c _
  · exact h
theorem zi_lm_pp {K : Nat → List zi_V → zi_S → zi_O} {K' : List zi_V → zi_S → zi_O} (h : ∀ a T, zi_lm (fun n => K n a T) (K' a T)) (k : Nat) : ∀ (S : zi_S) (a : List zi_V), zi_lm (fun n => zi_pp k S a (K n)) (zi_pp k S a K') := by
  induction k with
  | zero => intro S a; exact h _ _
  | succ n ih =>
    intro S a
    cases S with
    | nil => exact zi_lm_c _
    | cons v S => exact ih _ _
theorem zi_lm_cV {o : Nat → zi_O} {o' : zi_O} {K : Nat → zi_M → zi_O} {K' : zi_M → zi_O} (ho : zi_lm o o') (h : ∀ k, zi_lm (fun n => K n k) (K' k)) : zi_lm (fun n => zi_cV (o n) (K n)) (zi_cV o' K') := by
  refine ⟨fun n m hnm => zi_le_cV (ho.1 n m hnm) (fun k => (h k).1 n m hnm), fun q hq => ?_⟩
  unfold zi_cV at hq
  split at hq
  · next M =>
    obtain ⟨n1, h1⟩ := ho.2 _ rfl
    obtain ⟨n2, h2⟩ := (h M).2 _ hq
    refine ⟨max n1 n2, ?_⟩
    simp only [zi_cV, ho.1 _ _ (Nat.le_max_left n1 n2) _ h1]
    exact (h M).1 _ _ (Nat.le_max_right n1 n2) _ h2
  · cases hq
theorem zi_lm_cI {o : Nat → zi_O} {o' : zi_O} {K : Nat → Int32 → zi_M → zi_O} {K' : Int32 → zi_M → zi_O} (ho : zi_lm o o') (h : ∀ x k, zi_lm (fun n => K n x k) (K' x k)) : zi_lm (fun n => zi_cI (o n) (K n)) (zi_cI o' K') := by
  refine ⟨fun n m hnm => zi_le_cI (ho.1 n m hnm) (fun x k => (h x k).1 n m hnm), fun q hq => ?_⟩
  unfold zi_cI at hq
  split at hq
  · next x M =>
    obtain ⟨n1, h1⟩ := ho.2 _ rfl
    obtain ⟨n2, h2⟩ := (h x M).2 _ hq
    refine ⟨max n1 n2, ?_⟩
    simp only [zi_cI, ho.1 _ _ (Nat.le_max_left n1 n2) _ h1]
    exact (h x M).1 _ _ (Nat.le_max_right n1 n2) _ h2
  · cases hq
theorem zi_lm_cL {o : Nat → zi_O} {o' : zi_O} {K : Nat → Int64 → zi_M → zi_O} {K' : Int64 → zi_M → zi_O} (ho : zi_lm o o') (h : ∀ x k, zi_lm (fun n => K n x k) (K' x k)) : zi_lm (fun n => zi_cL (o n) (K n)) (zi_cL o' K') := by
  refine ⟨fun n m hnm => zi_le_cL (ho.1 n m hnm) (fun x k => (h x k).1 n m hnm), fun q hq => ?_⟩
  unfold zi_cL at hq
  split at hq
  · next x M =>
    obtain ⟨n1, h1⟩ := ho.2 _ rfl
    obtain ⟨n2, h2⟩ := (h x M).2 _ hq
    refine ⟨max n1 n2, ?_⟩
    simp only [zi_cL, ho.1 _ _ (Nat.le_max_left n1 n2) _ h1]
    exact (h x M).1 _ _ (Nat.le_max_right n1 n2) _ h2
  · cases hq
theorem zi_lm_cR {o : Nat → zi_O} {o' : zi_O} {c : Nat} {K : Nat → Option Nat → zi_M → zi_O} {K' : Option Nat → zi_M → zi_O} (ho : zi_lm o o') (h : ∀ x k, zi_lm (fun n => K n x k) (K' x k)) : zi_lm (fun n => zi_cR (o n) c (K n)) (zi_cR o' c K') := by
  refine ⟨fun n m hnm => zi_le_cR (ho.1 n m hnm) (fun x k => (h x k).1 n m hnm), fun q hq => ?_⟩
  unfold zi_cR at hq
  split at hq
  · next c' x M =>
    split at hq
    · next hc =>
      obtain ⟨n1, h1⟩ := ho.2 _ rfl
      obtain ⟨n2, h2⟩ := (h x M).2 _ hq
      refine ⟨max n1 n2, ?_⟩
      simp only [zi_cR, ho.1 _ _ (Nat.le_max_left n1 n2) _ h1, if_pos hc]
      exact (h x M).1 _ _ (Nat.le_max_right n1 n2) _ h2
    · cases hq
  · cases hq
theorem zi_lm_ca {r : zi_R} {o : Nat → zi_O} {o' : zi_O} {S : zi_S} {K : Nat → zi_S → zi_M → zi_O} {K' : zi_S → zi_M → zi_O} (ho : zi_lm o o') (h : ∀ x k, zi_lm (fun n => K n x k) (K' x k)) : zi_lm (fun n => zi_ca r (o n) S (K n)) (zi_ca r o' S K') := by
  unfold zi_ca
  generalize zi_ak r = a
  match a with
  | 0 => exact zi_lm_cV ho (fun _ => h _ _)
  | 1 => exact zi_lm_cI ho (fun _ _ => h _ _)
  | 2 => exact zi_lm_cL ho (fun _ _ => h _ _)
  | 3 => exact zi_lm_cR ho (fun _ _ => h _ _)
  | _ + 4 => exact zi_lm_cI ho (fun _ _ => h _ _)
theorem zi_lm_dn {d : Nat} {K : Nat → Nat → zi_O} {K' : Nat → zi_O} (h : ∀ k, zi_lm (fun n => K n k) (K' k)) : zi_lm (fun n => zi_dn d (K n)) (zi_dn d K') := zi_lm_ite (zi_lm_c _) (h _)
theorem zi_lm_sw {x : Int32} {d lo hi : Int} {offs : Array Int} {K : Nat → Int → zi_O} {K' : Int → zi_O} (h : ∀ e, zi_lm (fun n => K n e) (K' e)) : zi_lm (fun n => zi_sw x d lo hi offs (K n)) (zi_sw x d lo hi offs K') := by
  unfold zi_sw
  refine zi_lm_ite (h _) (zi_lm_ite (h _) ?_)
  cases offs[(x.toInt - lo).toNat]? with
  | none => exact zi_lm_c _
  | some o => exact h _
theorem zi_lm_ac {M : zi_M} {S : zi_S} {K : Nat → zi_S → zi_M → zi_O} {K' : zi_S → zi_M → zi_O} (h : ∀ x k, zi_lm (fun n => K n x k) (K' x k)) : zi_lm (fun n => zi_ac M S (K n)) (zi_ac M S K') := by
  refine ⟨fun n m hnm => zi_le_ac (fun x k => (h x k).1 n m hnm), fun q hq => ?_⟩
  unfold zi_ac at hq ⊢
  split at hq
  · exact (zi_lm_ite (zi_lm_ite (zi_lm_ite (zi_lm_c _) (zi_lm_ite (zi_lm_c _) (zi_lm_ite (zi_lm_c _) (zi_lm_ite (zi_lm_ite (zi_lm_rs (h _ _)) (zi_lm_c _)) (zi_lm_c _))))) (zi_lm_c _)) (zi_lm_c _)).2 q hq
  · cases hq
theorem zi_lm_ma {t : Nat} {S : zi_S} {K : Nat → zi_S → zi_O} {K' : zi_S → zi_O} (h : ∀ k, zi_lm (fun n => K n k) (K' k)) : zi_lm (fun n => zi_ma t S (K n)) (zi_ma t S K') := zi_lm_ite (zi_lm_1i (fun _ _ => zi_lm_rs (h _))) (zi_lm_ite (zi_lm_2i (fun _ _ _ => zi_lm_rs (h _))) (zi_lm_ite (zi_lm_2i (fun _ _ _ => zi_lm_rs (h _))) (zi_lm_c _)))
set_option maxHeartbeats 4000000 in
theorem zi_lm_st {r : zi_R} {f sw : Nat → Nat → zi_L → zi_S → zi_M → zi_O} {f' sw' : Nat → zi_L → zi_S → zi_M → zi_O} {call : Nat → zi_R → List zi_V → zi_M → zi_O} {call' : zi_R → List zi_V → zi_M → zi_O} (hf : ∀ a b c d, zi_lm (fun n => f n a b c d) (f' a b c d)) (hs : ∀ a b c d, zi_lm (fun n => sw n a b c d) (sw' a b c d)) (hc : ∀ a b c, zi_lm (fun n => call n a b c) (call' a b c)) (i : Instr) (pc : Nat) (L : zi_L) (S : zi_S) (M : zi_M) : zi_lm (fun n => zi_st r (f n) (sw n) (call n) i pc L S M) (zi_st r f' sw' call' i pc L S M) := by
  cases i <;> simp only [zi_st] <;> first
    | exact zi_lm_c _
    | (repeat' first
      | exact zi_lm_c _
      | exact hf _ _ _ _
      | exact hs _ _ _ _
      | exact hc _ _ _
      | refine zi_lm_1i (fun _ _ => ?_)
      | refine zi_lm_2i (fun _ _ _ => ?_)
      | refine zi_lm_1l (fun _ _ => ?_)
      | refine zi_lm_2l (fun _ _ _ => ?_)
      | refine zi_lm_1r (fun _ _ _ => ?_)
      | refine zi_lm_sm (fun _ => ?_)
      | refine zi_lm_nl ?_ ?_
      | refine zi_lm_ix (fun _ => ?_)
      | refine zi_lm_li (fun _ => ?_)
      | refine zi_lm_ll (fun _ => ?_)
      | refine zi_lm_la (fun _ _ => ?_)
      | refine zi_lm_p1 (fun _ => ?_)
      | refine zi_lm_p2 (fun _ => ?_)
      | refine zi_lm_to (fun _ => ?_)
      | refine zi_lm_if ?_ ?_
      | refine zi_lm_bo ?_
      | refine zi_lm_rs ?_
      | refine zi_lm_pp (fun _ _ => ?_) _ _ _
      | refine zi_lm_op (fun _ => ?_)
      | refine zi_lm_bl ?_ ?_
      | refine zi_lm_nn ?_ (fun _ => ?_)
      | refine zi_lm_du (fun _ => ?_)
      | refine zi_lm_ma (fun _ => ?_)
      | refine zi_lm_d2 (fun _ => ?_)
      | refine zi_lm_po (fun _ => ?_)
      | refine zi_lm_ca ?_ (fun _ _ => ?_)
      | refine zi_lm_sw (fun _ => ?_)
      | refine zi_lm_ac (fun _ _ => ?_)
      | refine zi_lm_ite ?_ ?_)
theorem zi_lm_run (d : Nat) (r : zi_R) (t : Nat) (L : zi_L) (S : zi_S) (M : zi_M) : zi_lm (fun n => zi_go n d r t L S M) (zi_run d r t L S M) := ⟨fun _ _ h => zi_go_m h _ _ _ _ _ _, fun _ h => zi_of_run h⟩
theorem zi_lm_k (d : Nat) (r : zi_R) (t : Nat) (L : zi_L) (S : zi_S) (M : zi_M) : zi_lm (fun n => zi_k (zi_go n) (zi_go n) d r t L S M) (zi_k zi_run zi_run d r t L S M) := by
  unfold zi_k
  cases zi_at (zi_cu r) t with
  | none => exact zi_lm_run _ _ _ _ _ _
  | some ks => exact zi_lm_run _ _ _ _ _ _
theorem zi_lm_F (d : Nat) (r : zi_R) (t : Nat) (L : zi_L) (S : zi_S) (M : zi_M) : zi_lm (fun n => zi_F (zi_go n) (zi_go n) d r t L S M) (zi_F zi_run zi_run d r t L S M) := by
  unfold zi_F
  cases zi_at (zi_cd r) t with
  | none => exact zi_lm_c _
  | some i => exact zi_lm_st (fun _ _ _ _ => zi_lm_k _ _ _ _ _ _) (fun _ _ _ _ => zi_lm_run _ _ _ _ _ _) (fun _ _ _ => zi_lm_bl (zi_lm_dn (fun _ => zi_lm_run _ _ _ _ _ _)) (zi_lm_c _)) _ _ _ _ _
/-- the run is a fixed point of the step -/
theorem zi_fix (d : Nat) (r : zi_R) (t : Nat) (L : zi_L) (S : zi_S) (M : zi_M) : zi_run d r t L S M = zi_F zi_run zi_run d r t L S M := by
  have hA : zi_le (zi_run d r t L S M) (zi_F zi_run zi_run d r t L S M) := by
    intro q hq
    obtain ⟨n, hn⟩ := zi_of_run hq
    have h1 := zi_go_1 n _ _ _ _ _ _ q hn
    exact zi_le_F (fun _ _ _ _ _ _ _ h => zi_run_of h) (fun _ _ _ _ _ _ _ h => zi_run_of h) _ _ _ _ _ _ q h1
  have hB : zi_le (zi_F zi_run zi_run d r t L S M) (zi_run d r t L S M) := by
    intro q hq
    obtain ⟨n, hn⟩ := (zi_lm_F d r t L S M).2 q hq
    exact zi_run_of (n := n + 1) hn
  cases h1 : zi_run d r t L S M with
  | some q => exact (hA q h1).symm
  | none =>
    cases h2 : zi_F zi_run zi_run d r t L S M with
    | none => rfl
    | some q => rw [hB q h2] at h1; cases h1
/-- .. and of any number of steps that stop at the cuts -/
theorem zi_blk (n : Nat) : ∀ (d : Nat) (r : zi_R) (t : Nat) (L : zi_L) (S : zi_S) (M : zi_M), zi_run d r t L S M = zi_bk zi_run n d r t L S M := by
  induction n with
  | zero => intros; rfl
  | succ n ih =>
    intro d r t L S M
    have h : zi_bk zi_run n = zi_run := by
      funext d r t L S M
      exact (ih d r t L S M).symm
    show _ = zi_F zi_run (zi_bk zi_run n) d r t L S M
    rw [h]
    exact zi_fix _ _ _ _ _ _
