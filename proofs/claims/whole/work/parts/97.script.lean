/-! THE PURE PART: no run changes the script -/
def zk_P (w : Nat → Nat → Int32) (o : zi_O) : Prop := ∀ q, o = some q → q.2.1 90 = w
theorem zk_n (w : Nat → Nat → Int32) : zk_P w none := fun q h => by cases h
theorem zk_s {w : Nat → Nat → Int32} {M : zi_M} (h : M.1 90 = w) (v : Option zi_V) : zk_P w (some (v, M)) := fun q e => by cases e; exact h
theorem zk_ite {w : Nat → Nat → Int32} {c : Prop} [Decidable c] {A B : zi_O} (h : c → zk_P w A) (g : ¬ c → zk_P w B) : zk_P w (if c then A else B) := by
  by_cases hc : c
  · rw [if_pos hc]; exact h hc
  · rw [if_neg hc]; exact g hc
theorem zk_1i {w : Nat → Nat → Int32} {S : zi_S} {K : Int32 → zi_S → zi_O} (h : ∀ a b, zk_P w (K a b)) : zk_P w (zi_1i S K) := by
  unfold zi_1i; split <;> first | exact h _ _ | exact zk_n w
theorem zk_2i {w : Nat → Nat → Int32} {S : zi_S} {K : Int32 → Int32 → zi_S → zi_O} (h : ∀ a b c, zk_P w (K a b c)) : zk_P w (zi_2i S K) := by
  unfold zi_2i; split <;> first | exact h _ _ _ | exact zk_n w
theorem zk_1l {w : Nat → Nat → Int32} {S : zi_S} {K : Int64 → zi_S → zi_O} (h : ∀ a b, zk_P w (K a b)) : zk_P w (zi_1l S K) := by
  unfold zi_1l; split <;> first | exact h _ _ | exact zk_n w
theorem zk_2l {w : Nat → Nat → Int32} {S : zi_S} {K : Int64 → Int64 → zi_S → zi_O} (h : ∀ a b c, zk_P w (K a b c)) : zk_P w (zi_2l S K) := by
  unfold zi_2l; split <;> first | exact h _ _ _ | exact zk_n w
theorem zk_1r {w : Nat → Nat → Int32} {S : zi_S} {K : Nat → Option Nat → zi_S → zi_O} (h : ∀ a b c, zk_P w (K a b c)) : zk_P w (zi_1r S K) := by
  unfold zi_1r; split <;> first | exact h _ _ _ | exact zk_n w
theorem zk_sm {w : Nat → Nat → Int32} {o : Option Nat} {K : Nat → zi_O} (h : ∀ a, zk_P w (K a)) : zk_P w (zi_sm o K) := by
  unfold zi_sm; split <;> first | exact h _ | exact zk_n w
theorem zk_li {w : Nat → Nat → Int32} {L : zi_L} {i : Nat} {K : Int32 → zi_O} (h : ∀ a, zk_P w (K a)) : zk_P w (zi_li L i K) := by
  unfold zi_li; split <;> first | exact h _ | exact zk_n w
theorem zk_ll {w : Nat → Nat → Int32} {L : zi_L} {i : Nat} {K : Int64 → zi_O} (h : ∀ a, zk_P w (K a)) : zk_P w (zi_ll L i K) := by
  unfold zi_ll; split <;> first | exact h _ | exact zk_n w
theorem zk_la {w : Nat → Nat → Int32} {L : zi_L} {i : Nat} {K : Nat → Option Nat → zi_O} (h : ∀ a b, zk_P w (K a b)) : zk_P w (zi_la L i K) := by
  unfold zi_la; split <;> first | exact h _ _ | exact zk_n w
theorem zk_p1 {w : Nat → Nat → Int32} {L : zi_L} {i : Nat} {v : zi_V} {K : zi_L → zi_O} (h : ∀ a, zk_P w (K a)) : zk_P w (zi_p1 L i v K) := by
  unfold zi_p1; split <;> first | exact h _ | exact zk_n w
theorem zk_p2 {w : Nat → Nat → Int32} {L : zi_L} {i : Nat} {v : zi_V} {K : zi_L → zi_O} (h : ∀ a, zk_P w (K a)) : zk_P w (zi_p2 L i v K) := by
  unfold zi_p2; split <;> first | exact h _ | exact zk_n w
theorem zk_to {w : Nat → Nat → Int32} {pc : Nat} {off : Int} {K : Nat → zi_O} (h : ∀ a, zk_P w (K a)) : zk_P w (zi_to pc off K) := by
  unfold zi_to; split <;> first | exact h _ | exact zk_n w
theorem zk_op {w : Nat → Nat → Int32} {α : Type} {o : Option α} {K : α → zi_O} (h : ∀ a, o = some a → zk_P w (K a)) : zk_P w (zi_op o K) := by
  unfold zi_op; split <;> first | exact h _ rfl | exact zk_n w
theorem zk_d2 {w : Nat → Nat → Int32} {S : zi_S} {K : zi_S → zi_O} (h : ∀ a, zk_P w (K a)) : zk_P w (zi_d2 S K) := by
  unfold zi_d2; split <;> first | exact h _ | exact zk_n w
theorem zk_du {w : Nat → Nat → Int32} {S : zi_S} {K : zi_S → zi_O} (h : ∀ a, zk_P w (K a)) : zk_P w (zi_du S K) := by
  unfold zi_du; split <;> first | exact h _ | exact zk_n w
theorem zk_po {w : Nat → Nat → Int32} {S : zi_S} {K : zi_S → zi_O} (h : ∀ a, zk_P w (K a)) : zk_P w (zi_po S K) := by
  unfold zi_po; split <;> first | exact h _ | exact zk_n w
theorem zk_ix {w : Nat → Nat → Int32} {i : Int32} {n0 : Nat} {K : Nat → zi_O} (h : ∀ a, zk_P w (K a)) : zk_P w (zi_ix i n0 K) := zk_ite (fun _ => zk_n w) (fun _ => zk_ite (fun _ => zk_n w) (fun _ => h _))
theorem zk_nl {w : Nat → Nat → Int32} {o : Option Nat} {A B : zi_O} (h : zk_P w A) (g : zk_P w B) : zk_P w (zi_nl o A B) := by
  cases o
  · exact h
  · exact g
theorem zk_bl {w : Nat → Nat → Int32} {o : Bool} {A B : zi_O} (h : zk_P w A) (g : zk_P w B) : zk_P w (zi_bl o A B) := by
  cases o
  · exact g
  · exact h
theorem zk_nn {w : Nat → Nat → Int32} {o : Option Nat} {A : zi_O} {K : Nat → zi_O} (g : zk_P w A) (h : ∀ a, zk_P w (K a)) : zk_P w (zi_nn o A K) := by
  cases o
  · exact g
  · exact h _
theorem zk_if {w : Nat → Nat → Int32} {c : ClassFile.Cond} {x y : Int32} {A B : zi_O} (h : zk_P w A) (g : zk_P w B) : zk_P w (zi_if c x y A B) := by
  cases c <;> first | exact zk_ite (fun _ => h) (fun _ => g) | exact zk_ite (fun _ => g) (fun _ => h)
theorem zk_bo {w : Nat → Nat → Int32} {x : Int32} {A : zi_O} (h : zk_P w A) : zk_P w (zi_bo x A) := zk_ite (fun _ => h) (fun _ => zk_ite (fun _ => h) (fun _ => zk_n w))
theorem zk_rs {w : Nat → Nat → Int32} {S : zi_S} {A : zi_O} (h : zk_P w A) : zk_P w (zi_rs S A) := by
  unfold zi_rs; split <;> first | exact h | exact zk_n w
theorem zk_pp {w : Nat → Nat → Int32} {K : List zi_V → zi_S → zi_O} (h : ∀ a T, zk_P w (K a T)) (k : Nat) : ∀ (S : zi_S) (a : List zi_V), zk_P w (zi_pp k S a K) := by
  induction k with
  | zero => intro S a; exact h _ _
  | succ n ih =>
    intro S a
    cases S with
    | nil => exact zk_n w
    | cons v S => exact ih _ _
theorem zk_ca {w : Nat → Nat → Int32} {r : zi_R} {o : zi_O} {S : zi_S} {K : zi_S → zi_M → zi_O} (ho : zk_P w o) (h : ∀ x M, M.1 90 = w → zk_P w (K x M)) : zk_P w (zi_ca r o S K) := by
  have hV : ∀ K' : zi_M → zi_O, (∀ M, M.1 90 = w → zk_P w (K' M)) → zk_P w (zi_cV o K') := fun K' h' => by
    unfold zi_cV
    split
    · exact h' _ (ho _ rfl)
    · exact zk_n w
  have hI : ∀ K' : Int32 → zi_M → zi_O, (∀ x M, M.1 90 = w → zk_P w (K' x M)) → zk_P w (zi_cI o K') := fun K' h' => by
    unfold zi_cI
    split
    · exact h' _ _ (ho _ rfl)
    · exact zk_n w
  have hL : ∀ K' : Int64 → zi_M → zi_O, (∀ x M, M.1 90 = w → zk_P w (K' x M)) → zk_P w (zi_cL o K') := fun K' h' => by
    unfold zi_cL
    split
    · exact h' _ _ (ho _ rfl)
    · exact zk_n w
  have hR : ∀ (c : Nat) (K' : Option Nat → zi_M → zi_O), (∀ x M, M.1 90 = w → zk_P w (K' x M)) → zk_P w (zi_cR o c K') := fun c K' h' => by
    unfold zi_cR
    split
    · exact zk_ite (fun _ => h' _ _ (ho _ rfl)) (fun _ => zk_n w)
    · exact zk_n w
  unfold zi_ca
  generalize zi_ak r = a
  match a with
  | 0 => exact hV _ (fun _ q => h _ _ q)
  | 1 => exact hI _ (fun _ _ q => h _ _ q)
  | 2 => exact hL _ (fun _ _ q => h _ _ q)
  | 3 => exact hR _ _ (fun _ _ q => h _ _ q)
  | _ + 4 => exact hI _ (fun _ _ q => h _ _ q)
theorem zk_sw {w : Nat → Nat → Int32} {x : Int32} {d lo hi : Int} {offs : Array Int} {K : Int → zi_O} (h : ∀ e, zk_P w (K e)) : zk_P w (zi_sw x d lo hi offs K) := by
  unfold zi_sw
  refine zk_ite (fun _ => h _) (fun _ => zk_ite (fun _ => h _) (fun _ => ?_))
  cases offs[(x.toInt - lo).toNat]? with
  | none => exact zk_n w
  | some o => exact h _
theorem zk_cpM {w : Nat → Nat → Int32} {M : zi_M} (h : M.1 90 = w) (c0 k0 c1 k1 a b n : Nat) (hc : c1 ≠ 90) : (zi_cp M c0 k0 c1 k1 a b n).1 90 = w := by
  rw [← h]; funext k; simp [zi_cp, Ne.symm hc]
theorem zk_ac {w : Nat → Nat → Int32} {M : zi_M} (hM : M.1 90 = w) {S : zi_S} {K : zi_S → zi_M → zi_O} (h : ∀ x M, M.1 90 = w → zk_P w (K x M)) : zk_P w (zi_ac M S K) := by
  unfold zi_ac
  split
  · refine zk_ite (fun _ => zk_ite (fun hc => zk_ite (fun _ => zk_n w) (fun _ => zk_ite (fun _ => zk_n w) (fun _ => zk_ite (fun _ => zk_n w) (fun _ => zk_ite (fun _ => zk_ite (fun _ => zk_rs (h _ _ (zk_cpM hM _ _ _ _ _ _ _ (by rw [hc]; decide)))) (fun _ => zk_n w)) (fun _ => zk_n w))))) (fun _ => zk_n w)) (fun _ => zk_n w)
  · exact zk_n w
theorem zk_ma {w : Nat → Nat → Int32} {t : Nat} {S : zi_S} {K : zi_S → zi_O} (h : ∀ k, zk_P w (K k)) : zk_P w (zi_ma t S K) := by
  unfold zi_ma
  refine zk_ite (fun _ => zk_1i (fun _ _ => zk_rs (h _))) (fun _ => zk_ite (fun _ => zk_2i (fun _ _ _ => zk_rs (h _))) (fun _ => ?_))
  refine zk_ite (fun _ => zk_2i (fun _ _ _ => zk_rs (h _))) (fun _ => zk_n w)
theorem zk_sIM {w : Nat → Nat → Int32} {M : zi_M} (h : M.1 90 = w) {c : Nat} (hc : c ≠ 90) (k s : Nat) (x : Int32) : (zi_sI M c k s x).1 90 = w := by
  rw [← h]; funext k' s'; rw [zp_sI1, if_neg (Ne.symm hc)]
theorem zk_atm {α : Type} : ∀ (l : List (Nat × α)) (k : Nat) (a : α), zi_at l k = some a → ∃ p, p ∈ l ∧ p.2 = a := by
  intro l
  induction l with
  | nil => intro k a h; cases h
  | cons p t ih =>
    intro k a h
    obtain ⟨p1, p2⟩ := p
    unfold zi_at at h
    split at h
    · cases h; exact ⟨(p1, a), List.mem_cons_self, rfl⟩
    · obtain ⟨q, h1, h2⟩ := ih k a h
      exact ⟨q, List.mem_cons_of_mem _ h1, h2⟩
set_option maxRecDepth 100000 in
theorem zk_fls : (zi_fls.all (fun p => p.2.all (fun q => !(Nat.beq q.2.1 90)))) = true := by decide +kernel
theorem zk_fl {w idx : Nat} {q : Nat × Nat × Nat × Bool × Nat} (h : zi_fl w idx = some q) : q.1 ≠ 90 := by
  unfold zi_fl at h
  obtain ⟨p, h1, h2⟩ := zk_atm _ _ _ h
  cases hw : zi_at zi_fls w with
  | none => rw [hw] at h1; cases h1
  | some l =>
    rw [hw] at h1
    obtain ⟨p', g1, g2⟩ := zk_atm _ _ _ hw
    have h3 := List.all_eq_true.mp zk_fls p' g1
    rw [g2] at h3
    have h4 := List.all_eq_true.mp h3 p h1
    intro e
    rw [h2, e] at h4
    cases h4
theorem zk_a3 {c : Nat} (h : zi_aty c = 3) : c ≠ 90 := fun e => by rw [e] at h; exact absurd h (by decide)
set_option maxHeartbeats 4000000 in
theorem zk_st {w : Nat → Nat → Int32} {r : zi_R} {f sw : Nat → zi_L → zi_S → zi_M → zi_O} {call : zi_R → List zi_V → zi_M → zi_O} (hf : ∀ a b c M, M.1 90 = w → zk_P w (f a b c M)) (hs : ∀ a b c M, M.1 90 = w → zk_P w (sw a b c M)) (hc : ∀ a b M, M.1 90 = w → zk_P w (call a b M)) (i : Instr) (pc : Nat) (L : zi_L) (S : zi_S) (M : zi_M) (hM : M.1 90 = w) : zk_P w (zi_st r f sw call i pc L S M) := by
  cases i <;> simp only [zi_st] <;> first
    | exact zk_n w
    | (repeat' first
      | exact zk_n w
      | exact hf _ _ _ _ hM
      | exact hs _ _ _ _ hM
      | exact hc _ _ _ hM
      | (refine hf _ _ _ _ ?_; exact zk_sIM hM (zk_fl (by assumption)) _ _ _)
      | (refine hf _ _ _ _ ?_; exact zk_sIM hM (by omega) _ _ _)
      | (refine hf _ _ _ _ ?_; exact zk_sIM hM (zk_a3 (by assumption)) _ _ _)
      | exact hf _ _ _ _ (by assumption)
      | refine zk_1i (fun _ _ => ?_)
      | refine zk_2i (fun _ _ _ => ?_)
      | refine zk_1l (fun _ _ => ?_)
      | refine zk_2l (fun _ _ _ => ?_)
      | refine zk_1r (fun _ _ _ => ?_)
      | refine zk_sm (fun _ => ?_)
      | refine zk_nl ?_ ?_
      | refine zk_ix (fun _ => ?_)
      | refine zk_li (fun _ => ?_)
      | refine zk_ll (fun _ => ?_)
      | refine zk_la (fun _ _ => ?_)
      | refine zk_p1 (fun _ => ?_)
      | refine zk_p2 (fun _ => ?_)
      | refine zk_to (fun _ => ?_)
      | refine zk_if ?_ ?_
      | refine zk_bo ?_
      | refine zk_rs ?_
      | refine zk_pp (fun _ _ => ?_) _ _ _
      | refine zk_op (fun _ _ => ?_)
      | refine zk_bl ?_ ?_
      | refine zk_nn ?_ (fun _ => ?_)
      | refine zk_du (fun _ => ?_)
      | refine zk_ma (fun _ => ?_)
      | refine zk_d2 (fun _ => ?_)
      | refine zk_po (fun _ => ?_)
      | refine zk_ca ?_ (fun _ _ _ => ?_)
      | refine zk_sw (fun _ => ?_)
      | refine zk_ac hM (fun _ _ _ => ?_)
      | exact zk_s hM _
      | refine zk_ite (fun _ => ?_) (fun _ => ?_)
      | (unfold zi_ri; split)
      | (unfold zi_rl; split)
      | (unfold zi_ra; split)
      | (unfold zi_rv; split))
theorem zk_go (w : Nat → Nat → Int32) : ∀ (n d : Nat) (r : zi_R) (pc : Nat) (L : zi_L) (S : zi_S) (M : zi_M), M.1 90 = w → zk_P w (zi_go n d r pc L S M) := by
  intro n
  induction n with
  | zero => intro d r pc L S M _; exact zk_n w
  | succ n ih =>
    intro d r pc L S M hM
    show zk_P w (zi_F (zi_go n) (zi_go n) d r pc L S M)
    unfold zi_F
    cases zi_at (zi_cd r) pc with
    | none => exact zk_n w
    | some i =>
      refine zk_st (fun a b c M' h => ?_) (fun a b c M' h => ih _ _ _ _ _ _ h) (fun a b M' h => zk_bl (zk_ite (fun _ => zk_n w) (fun _ => ih _ _ _ _ _ _ h)) (zk_n w)) i pc L S M hM
      unfold zi_k
      cases zi_at (zi_cu r) a with
      | none => exact ih _ _ _ _ _ _ h
      | some ks => exact ih _ _ _ _ _ _ h
theorem zk_run {d : Nat} {r : zi_R} {pc : Nat} {L : zi_L} {S : zi_S} {M M' : zi_M} {v : Option zi_V} (h : zi_run d r pc L S M = some (v, M')) : M'.1 90 = M.1 90 := by
  obtain ⟨n, hn⟩ := zi_of_run h
  exact zk_go (M.1 90) n d r pc L S M rfl _ hn
