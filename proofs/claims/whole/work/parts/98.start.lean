/-! THE PURE PART: the kind of what a method answers; the start; the law -/
def zka_P (w : Nat) (o : zi_O) : Prop := ∀ q, o = some q → (w = 1 ∨ w = 4 → ∃ x, q.1 = some (.inl x)) ∧ (w = 2 → ∃ x, q.1 = some (.inr (.inl x)))
theorem zka_n (w : Nat) : zka_P w none := fun q h => by cases h
theorem zka_ite {w : Nat} {c : Prop} [Decidable c] {A B : zi_O} (h : c → zka_P w A) (g : ¬ c → zka_P w B) : zka_P w (if c then A else B) := by
  by_cases hc : c
  · rw [if_pos hc]; exact h hc
  · rw [if_neg hc]; exact g hc
theorem zka_1i {w : Nat} {S : zi_S} {K : Int32 → zi_S → zi_O} (h : ∀ a b, zka_P w (K a b)) : zka_P w (zi_1i S K) := by
  unfold zi_1i; split <;> first | exact h _ _ | exact zka_n w
theorem zka_2i {w : Nat} {S : zi_S} {K : Int32 → Int32 → zi_S → zi_O} (h : ∀ a b c, zka_P w (K a b c)) : zka_P w (zi_2i S K) := by
  unfold zi_2i; split <;> first | exact h _ _ _ | exact zka_n w
theorem zka_1l {w : Nat} {S : zi_S} {K : Int64 → zi_S → zi_O} (h : ∀ a b, zka_P w (K a b)) : zka_P w (zi_1l S K) := by
  unfold zi_1l; split <;> first | exact h _ _ | exact zka_n w
theorem zka_2l {w : Nat} {S : zi_S} {K : Int64 → Int64 → zi_S → zi_O} (h : ∀ a b c, zka_P w (K a b c)) : zka_P w (zi_2l S K) := by
  unfold zi_2l; split <;> first | exact h _ _ _ | exact zka_n w
theorem zka_1r {w : Nat} {S : zi_S} {K : Nat → Option Nat → zi_S → zi_O} (h : ∀ a b c, zka_P w (K a b c)) : zka_P w (zi_1r S K) := by
  unfold zi_1r; split <;> first | exact h _ _ _ | exact zka_n w
theorem zka_sm {w : Nat} {o : Option Nat} {K : Nat → zi_O} (h : ∀ a, zka_P w (K a)) : zka_P w (zi_sm o K) := by
  unfold zi_sm; split <;> first | exact h _ | exact zka_n w
theorem zka_li {w : Nat} {L : zi_L} {i : Nat} {K : Int32 → zi_O} (h : ∀ a, zka_P w (K a)) : zka_P w (zi_li L i K) := by
  unfold zi_li; split <;> first | exact h _ | exact zka_n w
theorem zka_ll {w : Nat} {L : zi_L} {i : Nat} {K : Int64 → zi_O} (h : ∀ a, zka_P w (K a)) : zka_P w (zi_ll L i K) := by
  unfold zi_ll; split <;> first | exact h _ | exact zka_n w
theorem zka_la {w : Nat} {L : zi_L} {i : Nat} {K : Nat → Option Nat → zi_O} (h : ∀ a b, zka_P w (K a b)) : zka_P w (zi_la L i K) := by
  unfold zi_la; split <;> first | exact h _ _ | exact zka_n w
theorem zka_p1 {w : Nat} {L : zi_L} {i : Nat} {v : zi_V} {K : zi_L → zi_O} (h : ∀ a, zka_P w (K a)) : zka_P w (zi_p1 L i v K) := by
  unfold zi_p1; split <;> first | exact h _ | exact zka_n w
theorem zka_p2 {w : Nat} {L : zi_L} {i : Nat} {v : zi_V} {K : zi_L → zi_O} (h : ∀ a, zka_P w (K a)) : zka_P w (zi_p2 L i v K) := by
  unfold zi_p2; split <;> first | exact h _ | exact zka_n w
theorem zka_to {w : Nat} {pc : Nat} {off : Int} {K : Nat → zi_O} (h : ∀ a, zka_P w (K a)) : zka_P w (zi_to pc off K) := by
  unfold zi_to; split <;> first | exact h _ | exact zka_n w
theorem zka_op {w : Nat} {α : Type} {o : Option α} {K : α → zi_O} (h : ∀ a, o = some a → zka_P w (K a)) : zka_P w (zi_op o K) := by
  unfold zi_op; split <;> first | exact h _ rfl | exact zka_n w
theorem zka_d2 {w : Nat} {S : zi_S} {K : zi_S → zi_O} (h : ∀ a, zka_P w (K a)) : zka_P w (zi_d2 S K) := by
  unfold zi_d2; split <;> first | exact h _ | exact zka_n w
theorem zka_du {w : Nat} {S : zi_S} {K : zi_S → zi_O} (h : ∀ a, zka_P w (K a)) : zka_P w (zi_du S K) := by
  unfold zi_du; split <;> first | exact h _ | exact zka_n w
theorem zka_po {w : Nat} {S : zi_S} {K : zi_S → zi_O} (h : ∀ a, zka_P w (K a)) : zka_P w (zi_po S K) := by
  unfold zi_po; split <;> first | exact h _ | exact zka_n w
theorem zka_ix {w : Nat} {i : Int32} {n0 : Nat} {K : Nat → zi_O} (h : ∀ a, zka_P w (K a)) : zka_P w (zi_ix i n0 K) := zka_ite (fun _ => zka_n w) (fun _ => zka_ite (fun _ => zka_n w) (fun _ => h _))
theorem zka_nl {w : Nat} {o : Option Nat} {A B : zi_O} (h : zka_P w A) (g : zka_P w B) : zka_P w (zi_nl o A B) := by
  cases o
  · exact h
  · exact g
theorem zka_bl {w : Nat} {o : Bool} {A B : zi_O} (h : zka_P w A) (g : zka_P w B) : zka_P w (zi_bl o A B) := by
  cases o
  · exact g
  · exact h
theorem zka_nn {w : Nat} {o : Option Nat} {A : zi_O} {K : Nat → zi_O} (g : zka_P w A) (h : ∀ a, zka_P w (K a)) : zka_P w (zi_nn o A K) := by
  cases o
  · exact g
  · exact h _
theorem zka_if {w : Nat} {c : ClassFile.Cond} {x y : Int32} {A B : zi_O} (h : zka_P w A) (g : zka_P w B) : zka_P w (zi_if c x y A B) := by
  cases c <;> first | exact zka_ite (fun _ => h) (fun _ => g) | exact zka_ite (fun _ => g) (fun _ => h)
theorem zka_bo {w : Nat} {x : Int32} {A : zi_O} (h : zka_P w A) : zka_P w (zi_bo x A) := zka_ite (fun _ => h) (fun _ => zka_ite (fun _ => h) (fun _ => zka_n w))
theorem zka_rs {w : Nat} {S : zi_S} {A : zi_O} (h : zka_P w A) : zka_P w (zi_rs S A) := by
  unfold zi_rs; split <;> first | exact h | exact zka_n w
theorem zka_pp {w : Nat} {K : List zi_V → zi_S → zi_O} (h : ∀ a T, zka_P w (K a T)) (k : Nat) : ∀ (S : zi_S) (a : List zi_V), zka_P w (zi_pp k S a K) := by
  induction k with
  | zero => intro S a; exact h _ _
  | succ n ih =>
    intro S a
    cases S with
    | nil => exact zka_n w
    | cons v S => exact ih _ _
theorem zka_ca {w : Nat} {r : zi_R} {o : zi_O} {S : zi_S} {K : zi_S → zi_M → zi_O} (h : ∀ x M, zka_P w (K x M)) : zka_P w (zi_ca r o S K) := by
  unfold zi_ca
  split
  · unfold zi_cV; split <;> first | exact h _ _ | exact zka_n w
  · unfold zi_cL; split <;> first | exact h _ _ | exact zka_n w
  · unfold zi_cR
    split
    · exact zka_ite (fun _ => h _ _) (fun _ => zka_n w)
    · exact zka_n w
  · unfold zi_cI; split <;> first | exact h _ _ | exact zka_n w
theorem zka_sw {w : Nat} {x : Int32} {d lo hi : Int} {offs : Array Int} {K : Int → zi_O} (h : ∀ e, zka_P w (K e)) : zka_P w (zi_sw x d lo hi offs K) := by
  unfold zi_sw
  refine zka_ite (fun _ => h _) (fun _ => zka_ite (fun _ => h _) (fun _ => ?_))
  cases offs[(x.toInt - lo).toNat]? with
  | none => exact zka_n w
  | some o => exact h _
theorem zka_ac {w : Nat} {M : zi_M} {S : zi_S} {K : zi_S → zi_M → zi_O} (h : ∀ x M, zka_P w (K x M)) : zka_P w (zi_ac M S K) := by
  unfold zi_ac
  split
  · refine zka_ite (fun _ => zka_ite (fun hc => zka_ite (fun _ => zka_n w) (fun _ => zka_ite (fun _ => zka_n w) (fun _ => zka_ite (fun _ => zka_n w) (fun _ => zka_ite (fun _ => zka_ite (fun _ => zka_rs (h _ _)) (fun _ => zka_n w)) (fun _ => zka_n w))))) (fun _ => zka_n w)) (fun _ => zka_n w)
  · exact zka_n w
theorem zka_ma {w : Nat} {t : Nat} {S : zi_S} {K : zi_S → zi_O} (h : ∀ k, zka_P w (K k)) : zka_P w (zi_ma t S K) := by
  unfold zi_ma
  refine zka_ite (fun _ => zka_1i (fun _ _ => zka_rs (h _))) (fun _ => zka_ite (fun _ => zka_2i (fun _ _ _ => zka_rs (h _))) (fun _ => ?_))
  refine zka_ite (fun _ => zka_2i (fun _ _ _ => zka_rs (h _))) (fun _ => zka_n w)
theorem zka_ri (r : zi_R) (S : zi_S) (M : zi_M) : zka_P (zi_ak r) (zi_ri r S M) := by
  unfold zi_ri
  split
  · refine zka_ite (fun h4 => zka_bo (fun q e => ?_)) (fun _ => zka_ite (fun h1 => fun q e => ?_) (fun _ => zka_n _))
    · cases e; exact ⟨fun _ => ⟨_, rfl⟩, fun h => by omega⟩
    · cases e; exact ⟨fun _ => ⟨_, rfl⟩, fun h => by omega⟩
  · exact zka_n _
theorem zka_rl (r : zi_R) (S : zi_S) (M : zi_M) : zka_P (zi_ak r) (zi_rl r S M) := by
  unfold zi_rl
  split
  · refine zka_ite (fun h2 => fun q e => ?_) (fun _ => zka_n _)
    cases e; exact ⟨fun h => by omega, fun _ => ⟨_, rfl⟩⟩
  · exact zka_n _
theorem zka_ra (r : zi_R) (S : zi_S) (M : zi_M) : zka_P (zi_ak r) (zi_ra r S M) := by
  unfold zi_ra
  split
  · refine zka_ite (fun h3 => zka_nn (fun q e => ?_) (fun k => zka_ite (fun _ => fun q e => ?_) (fun _ => zka_n _))) (fun _ => zka_n _)
    · cases e; exact ⟨fun h => by omega, fun h => by omega⟩
    · cases e; exact ⟨fun h => by omega, fun h => by omega⟩
  · exact zka_n _
theorem zka_rv (r : zi_R) (S : zi_S) (M : zi_M) : zka_P (zi_ak r) (zi_rv r S M) := by
  unfold zi_rv
  split
  · refine zka_ite (fun h3 => fun q e => ?_) (fun _ => zka_n _)
    cases e; exact ⟨fun h => by omega, fun h => by omega⟩
  · exact zka_n _
set_option maxHeartbeats 4000000 in
theorem zka_st {r : zi_R} {f sw : Nat → zi_L → zi_S → zi_M → zi_O} {call : zi_R → List zi_V → zi_M → zi_O} (hf : ∀ a b c M, zka_P (zi_ak r) (f a b c M)) (hs : ∀ a b c M, zka_P (zi_ak r) (sw a b c M)) (i : Instr) (pc : Nat) (L : zi_L) (S : zi_S) (M : zi_M) : zka_P (zi_ak r) (zi_st r f sw call i pc L S M) := by
  cases i <;> simp only [zi_st] <;> first
    | exact zka_n _
    | (repeat' first
      | exact zka_n _
      | exact hf _ _ _ _
      | exact hs _ _ _ _
      | refine zka_1i (fun _ _ => ?_)
      | refine zka_2i (fun _ _ _ => ?_)
      | refine zka_1l (fun _ _ => ?_)
      | refine zka_2l (fun _ _ _ => ?_)
      | refine zka_1r (fun _ _ _ => ?_)
      | refine zka_sm (fun _ => ?_)
      | refine zka_nl ?_ ?_
      | refine zka_ix (fun _ => ?_)
      | refine zka_li (fun _ => ?_)
      | refine zka_ll (fun _ => ?_)
      | refine zka_la (fun _ _ => ?_)
      | refine zka_p1 (fun _ => ?_)
      | refine zka_p2 (fun _ => ?_)
      | refine zka_to (fun _ => ?_)
      | refine zka_if ?_ ?_
      | refine zka_bo ?_
      | refine zka_rs ?_
      | refine zka_pp (fun _ _ => ?_) _ _ _
      | refine zka_op (fun _ _ => ?_)
      | refine zka_bl ?_ ?_
      | refine zka_nn ?_ (fun _ => ?_)
      | refine zka_du (fun _ => ?_)
      | refine zka_ma (fun _ => ?_)
      | refine zka_d2 (fun _ => ?_)
      | refine zka_po (fun _ => ?_)
      | refine zka_ca (fun _ _ => ?_)
      | refine zka_sw (fun _ => ?_)
      | refine zka_ac (fun _ _ => ?_)
      | exact zka_ri _ _ _
      | exact zka_rl _ _ _
      | exact zka_ra _ _ _
      | exact zka_rv _ _ _
      | refine zka_ite (fun _ => ?_) (fun _ => ?_))
theorem zka_go : ∀ (n d : Nat) (r : zi_R) (pc : Nat) (L : zi_L) (S : zi_S) (M : zi_M), zka_P (zi_ak r) (zi_go n d r pc L S M) := by
  intro n
  induction n with
  | zero => intro d r pc L S M; exact zka_n _
  | succ n ih =>
    intro d r pc L S M
    show zka_P (zi_ak r) (zi_F (zi_go n) (zi_go n) d r pc L S M)
    unfold zi_F
    cases zi_at (zi_cd r) pc with
    | none => exact zka_n _
    | some i =>
      refine zka_st (fun a b c M' => ?_) (fun a b c M' => ih _ _ _ _ _ _) i pc L S M
      unfold zi_k
      cases zi_at (zi_cu r) a with
      | none => exact ih _ _ _ _ _ _
      | some ks => exact ih _ _ _ _ _ _
theorem zka_int {d : Nat} {r : zi_R} {pc : Nat} {L : zi_L} {S : zi_S} {M M' : zi_M} {v : zi_V} (h : zi_run d r pc L S M = some (some v, M')) (hr : zi_ak r = 1 ∨ zi_ak r = 4) : ∃ x, v = .inl x := by
  obtain ⟨n, hn⟩ := zi_of_run h
  obtain ⟨x, hx⟩ := (zka_go n d r pc L S M _ hn).1 hr
  exact ⟨x, Option.some.inj hx⟩
theorem zka_long {d : Nat} {r : zi_R} {pc : Nat} {L : zi_L} {S : zi_S} {M M' : zi_M} {v : zi_V} (h : zi_run d r pc L S M = some (some v, M')) (hr : zi_ak r = 2) : ∃ x, v = .inr (.inl x) := by
  obtain ⟨n, hn⟩ := zi_of_run h
  obtain ⟨x, hx⟩ := (zka_go n d r pc L S M _ hn).2 hr
  exact ⟨x, Option.some.inj hx⟩
theorem zq_start (n : Nat) (xs : Nat → Int32) : zq_inv n xs (zi_M0 n xs) := by
  refine ⟨fun r hr => Or.inl ⟨rfl, rfl⟩, fun r hr => ⟨Or.inl ⟨rfl, rfl⟩, fun j => ?_⟩, ⟨rfl, rfl, fun f hf => rfl⟩, ⟨rfl, rfl⟩, ⟨(0, 0, fun _ => 0), (0, 0, fun _ => (0, 0, 0, (0, 0, 0, 0, 0, 0)), 0, fun _ => (0, (0, 0, 0, 0, 0, 0))), Or.inl ⟨rfl, rfl⟩, ⟨Nat.zero_le 4, Nat.zero_le 40, fun i hi => absurd hi (Nat.not_lt_zero i), fun i hi => absurd hi (Nat.not_lt_zero i)⟩, ⟨rfl, rfl, fun h c hh _ => absurd hh (Nat.not_lt_zero h)⟩, ⟨rfl, rfl, rfl, fun i hi => absurd hi (Nat.not_lt_zero i), fun i hi => absurd hi (Nat.not_lt_zero i)⟩, ⟨rfl, rfl, fun h c hh _ => absurd hh (Nat.not_lt_zero h)⟩, ⟨rfl, rfl, rfl, fun i hi => absurd hi (Nat.not_lt_zero i), fun i hi => absurd hi (Nat.not_lt_zero i)⟩, fun k hk => Or.inl ⟨rfl, rfl⟩⟩, ⟨rfl, rfl, rfl, rfl⟩⟩
  show (0 : Int32) ≠ 1000
  decide
theorem zq_len {n : Nat} {xs : Nat → Int32} {M : zi_M} (h : M.1 90 = (zi_M0 n xs).1 90) (hn : n ≤ 384) : zi_len M 90 0 = n := by
  unfold zi_len
  rw [if_pos rfl, h]
  show (Int32.ofNat n).toNatClampNeg = n
  rw [zp_ofn, nI_clamp (by omega)]
