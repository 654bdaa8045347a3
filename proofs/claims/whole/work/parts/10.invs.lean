/-! WHAT A STEP THAT SUCCEEDS SAYS; LOCALS; VALIDITY -/
theorem zi_1i_v {S : zi_S} {K : Int32 → zi_S → zi_O} {q : Option zi_V × zi_M} (h : zi_1i S K = some q) : ∃ x T, S = .inl x :: T ∧ K x T = some q := by
  unfold zi_1i at h; split at h
  · exact ⟨_, _, rfl, h⟩
  · cases h
theorem zi_2i_v {S : zi_S} {K : Int32 → Int32 → zi_S → zi_O} {q : Option zi_V × zi_M} (h : zi_2i S K = some q) : ∃ x y T, S = .inl y :: .inl x :: T ∧ K x y T = some q := by
  unfold zi_2i at h; split at h
  · exact ⟨_, _, _, rfl, h⟩
  · cases h
theorem zi_1l_v {S : zi_S} {K : Int64 → zi_S → zi_O} {q : Option zi_V × zi_M} (h : zi_1l S K = some q) : ∃ x T, S = .inr (.inl x) :: T ∧ K x T = some q := by
  unfold zi_1l at h; split at h
  · exact ⟨_, _, rfl, h⟩
  · cases h
theorem zi_2l_v {S : zi_S} {K : Int64 → Int64 → zi_S → zi_O} {q : Option zi_V × zi_M} (h : zi_2l S K = some q) : ∃ x y T, S = .inr (.inl y) :: .inr (.inl x) :: T ∧ K x y T = some q := by
  unfold zi_2l at h; split at h
  · exact ⟨_, _, _, rfl, h⟩
  · cases h
theorem zi_1r_v {S : zi_S} {K : Nat → Option Nat → zi_S → zi_O} {q : Option zi_V × zi_M} (h : zi_1r S K = some q) : ∃ c o T, S = .inr (.inr (c, o)) :: T ∧ K c o T = some q := by
  unfold zi_1r at h; split at h
  · exact ⟨_, _, _, rfl, h⟩
  · cases h
theorem zi_sm_v {o : Option Nat} {K : Nat → zi_O} {q : Option zi_V × zi_M} (h : zi_sm o K = some q) : ∃ k, o = some k ∧ K k = some q := by
  unfold zi_sm at h; split at h
  · exact ⟨_, rfl, h⟩
  · cases h
theorem zi_op_v {α : Type} {o : Option α} {K : α → zi_O} {q : Option zi_V × zi_M} (h : zi_op o K = some q) : ∃ k, o = some k ∧ K k = some q := by
  unfold zi_op at h; split at h
  · exact ⟨_, rfl, h⟩
  · cases h
theorem zi_ite_v {c : Prop} [Decidable c] {A : zi_O} {q : Option zi_V × zi_M} (h : (if c then A else none) = some q) : c ∧ A = some q := by
  split at h
  · next hc => exact ⟨hc, h⟩
  · cases h
theorem zi_itn_v {c : Prop} [Decidable c] {A : zi_O} {q : Option zi_V × zi_M} (h : (if c then none else A) = some q) : ¬ c ∧ A = some q := by
  split at h
  · cases h
  · next hc => exact ⟨hc, h⟩
theorem zi_ix_v {i : Int32} {n : Nat} {K : Nat → zi_O} {q : Option zi_V × zi_M} (h : zi_ix i n K = some q) : ¬ i < 0 ∧ ¬ n ≤ i.toNatClampNeg ∧ K i.toNatClampNeg = some q := by
  unfold zi_ix at h
  obtain ⟨h1, h⟩ := zi_itn_v h
  obtain ⟨h2, h⟩ := zi_itn_v h
  exact ⟨h1, h2, h⟩
theorem zi_li_v {L : zi_L} {i : Nat} {K : Int32 → zi_O} {q : Option zi_V × zi_M} (h : zi_li L i K = some q) : ∃ x, L[i]? = some (some (.inl x)) ∧ K x = some q := by
  unfold zi_li at h; split at h
  · next e => exact ⟨_, e, h⟩
  · cases h
theorem zi_ll_v {L : zi_L} {i : Nat} {K : Int64 → zi_O} {q : Option zi_V × zi_M} (h : zi_ll L i K = some q) : ∃ x, L[i]? = some (some (.inr (.inl x))) ∧ K x = some q := by
  unfold zi_ll at h; split at h
  · next e => exact ⟨_, e, h⟩
  · cases h
theorem zi_la_v {L : zi_L} {i : Nat} {K : Nat → Option Nat → zi_O} {q : Option zi_V × zi_M} (h : zi_la L i K = some q) : ∃ c o, L[i]? = some (some (.inr (.inr (c, o)))) ∧ K c o = some q := by
  unfold zi_la at h; split at h
  · next e => exact ⟨_, _, e, h⟩
  · cases h
theorem zi_p1_v {L : zi_L} {i : Nat} {v : zi_V} {K : zi_L → zi_O} {q : Option zi_V × zi_M} (h : zi_p1 L i v K = some q) : i < L.length ∧ K ((zi_dl L i).set i (some v)) = some q := by
  unfold zi_p1 at h; split at h
  · next e => exact ⟨by rwa [Nat.blt_eq] at e, h⟩
  · cases h
theorem zi_p2_v {L : zi_L} {i : Nat} {v : zi_V} {K : zi_L → zi_O} {q : Option zi_V × zi_M} (h : zi_p2 L i v K = some q) : i + 1 < L.length ∧ K (((zi_dl L i).set i (some v)).set (i + 1) none) = some q := by
  unfold zi_p2 at h; split at h
  · next e => exact ⟨by rwa [Nat.blt_eq] at e, h⟩
  · cases h
theorem zi_to_v {pc : Nat} {off : Int} {K : Nat → zi_O} {q : Option zi_V × zi_M} (h : zi_to pc off K = some q) : ∃ t : Nat, (pc : Int) + off = (t : Int) ∧ K t = some q := by
  unfold zi_to at h; split at h
  · next e => exact ⟨_, e, h⟩
  · cases h
theorem zi_bo_v {x : Int32} {A : zi_O} {q : Option zi_V × zi_M} (h : zi_bo x A = some q) : (x = 0 ∨ x = 1) ∧ A = some q := by
  unfold zi_bo at h; split at h
  · next e => exact ⟨Or.inl e, h⟩
  · obtain ⟨h1, h2⟩ := zi_ite_v h
    exact ⟨Or.inr h1, h2⟩
theorem zi_rs_v {S : zi_S} {A : zi_O} {q : Option zi_V × zi_M} (h : zi_rs S A = some q) : (S.map zi_ct).sum ≤ 8 ∧ A = some q := by
  unfold zi_rs at h; split at h
  · next e => exact ⟨by rwa [Nat.ble_eq] at e, h⟩
  · cases h
theorem zi_bl_v {b : Bool} {A B : zi_O} {q : Option zi_V × zi_M} (h : zi_bl b A B = some q) : (b = true ∧ A = some q) ∨ (b = false ∧ B = some q) := by
  cases b
  · exact Or.inr ⟨rfl, h⟩
  · exact Or.inl ⟨rfl, h⟩
theorem zi_nn_v {o : Option Nat} {A : zi_O} {K : Nat → zi_O} {q : Option zi_V × zi_M} (h : zi_nn o A K = some q) : (o = none ∧ A = some q) ∨ ∃ k, o = some k ∧ K k = some q := by
  cases o
  · exact Or.inl ⟨rfl, h⟩
  · exact Or.inr ⟨_, rfl, h⟩
theorem zi_pp_v {K : List zi_V → zi_S → zi_O} {q : Option zi_V × zi_M} (n : Nat) : ∀ (S : zi_S) (a : List zi_V), zi_pp n S a K = some q → ∃ as T, as.length = n ∧ S = as.reverse ++ T ∧ K (as ++ a) T = some q := by
  induction n with
  | zero => intro S a h; exact ⟨[], S, rfl, rfl, h⟩
  | succ n ih =>
    intro S a h
    cases S with
    | nil => cases h
    | cons v S =>
      obtain ⟨as, T, h1, h2, h3⟩ := ih S (v :: a) h
      exact ⟨as ++ [v], T, by simp [h1], by simp [h2], by simpa using h3⟩
theorem zi_dn_v {d : Nat} {K : Nat → zi_O} {q : Option zi_V × zi_M} (h : zi_dn d K = some q) : ∃ e, d = e + 1 ∧ K e = some q := by
  unfold zi_dn at h
  obtain ⟨h1, h2⟩ := zi_itn_v h
  exact ⟨d - 1, by omega, h2⟩
theorem zi_ca_v {r : zi_R} {o : zi_O} {S : zi_S} {K : zi_S → zi_M → zi_O} {q : Option zi_V × zi_M} (h : zi_ca r o S K = some q) : ∃ v M, o = some (v, M) ∧ K (v.toList ++ S) M = some q := by
  have hI : ∀ {o : zi_O}, zi_cI o (fun x M => K (.inl x :: S) M) = some q → ∃ v M, o = some (v, M) ∧ K (v.toList ++ S) M = some q := by
    intro o h
    unfold zi_cI at h
    split at h
    · exact ⟨_, _, rfl, h⟩
    · cases h
  unfold zi_ca at h
  split at h
  · unfold zi_cV at h
    split at h
    · exact ⟨_, _, rfl, h⟩
    · cases h
  · unfold zi_cL at h
    split at h
    · exact ⟨_, _, rfl, h⟩
    · cases h
  · unfold zi_cR at h
    split at h
    · obtain ⟨hz, h2⟩ := zi_ite_v h
      subst hz
      exact ⟨_, _, rfl, h2⟩
    · cases h
  · exact hI h
/-! validity -/
theorem zi_vc {a : zi_V} {S : zi_S} (h : zi_vl a) (g : ∀ v ∈ S, zi_vl v) : ∀ v ∈ a :: S, zi_vl v := List.forall_mem_cons.mpr ⟨h, g⟩
theorem zi_vt {a : zi_V} {S : zi_S} (g : ∀ v ∈ a :: S, zi_vl v) : ∀ v ∈ S, zi_vl v := (List.forall_mem_cons.mp g).2
theorem zi_vh {a : zi_V} {S : zi_S} (g : ∀ v ∈ a :: S, zi_vl v) : zi_vl a := (List.forall_mem_cons.mp g).1
theorem zi_t1 {c : Nat} (hc : c < 11) {k : Nat} (hk : k < 300) (hex : zi_ex c k = true) {s : Nat} (hs : s < (zi_ftl c).length) (h2 : (zi_ftl c)[s]? = some 2) (hm : zi_mu c s = false) : zi_ex (zi_fk c s) (zi_rf c k s) = true := by
  have h : ∀ c, c < 11 → ∀ k, k < 300 → zi_ex c k = true → (List.range (zi_ftl c).length).all (fun s => !(decide ((zi_ftl c)[s]? = some 2) && !(zi_mu c s)) || zi_ex (zi_fk c s) (zi_rf c k s)) = true := by decide +kernel
  have h1 := List.all_eq_true.mp (h c hc k hk hex) s (List.mem_range.mpr hs)
  simpa [h2, hm] using h1
theorem zi_t2 : ∀ c, c < 44 → zi_aty c = 2 → ∀ k, k < 300 → zi_ex c k = true → ∀ j, j < zi_ln c k → zi_ex (zi_ek c) (zi_rf c k j) = true := by decide +kernel
theorem zi_vrd {M : zi_M} {c k s ty : Nat} (hv : zi_vm M) (hc : c < 11) (hk : zi_ex c k = true) (hty : (zi_ftl c)[s]? = some ty) (h4 : ty = 0 ∨ ty = 1 ∨ ty = 2 ∨ ty = 3) : zi_vl (zi_rd M c k s ty) := by
  rcases h4 with rfl | rfl | rfl | rfl
  · trivial
  · trivial
  · show zi_vl (.inr (.inr (zi_fk c s, zi_gr M c k s)))
    unfold zi_gr
    cases hm : zi_mu c s with
    | true =>
      cases ho : M.2.2 c k s with
      | none => trivial
      | some o => exact hv c k s o hm ho
    | false => exact zi_t1 hc (zi_exb (by omega) hk).2 hk (List.getElem?_eq_some_iff.mp hty).1 hty hm
  · trivial
theorem zi_ty90 : ∀ c, c < 93 → (zi_aty c = 1 ∨ zi_aty c = 2 ∨ zi_aty c = 3) → c < 44 := by decide +kernel
/-! locals -/
theorem zi_cat (ad : Nat → Nat → Nat) (v : zi_V) : (zi_cv ad v).category = zi_ct v := by
  rcases v with x | x | ⟨c, o⟩
  · rfl
  · rfl
  · cases o <;> rfl
theorem zi_cats (ad : Nat → Nat → Nat) (S : zi_S) : ((S.map (zi_cv ad)).map fun v => v.category).sum = (S.map zi_ct).sum := by
  rw [List.map_map]
  congr 1
  apply List.map_congr_left
  intro v _
  exact zi_cat ad v
def zi_prs (ad : Nat → Nat → Nat) (L : zi_L) : List (Nat × Value) := (List.range L.length).filterMap (fun i => (L[i]?.join).map (fun v => (i, zi_cv ad v)))
theorem zi_prs_in {ad : Nat → Nat → Nat} {L : zi_L} {i : Nat} {v : zi_V} (h : L[i]? = some (some v)) : (i, zi_cv ad v) ∈ zi_prs ad L := by
  unfold zi_prs
  refine List.mem_filterMap.mpr ⟨i, List.mem_range.mpr (List.getElem?_eq_some_iff.mp h).1, ?_⟩
  rw [h]; rfl
theorem zi_lvh {ad : Nat → Nat → Nat} {ls : Array Slot} {n : Nat} {L : zi_L} (h : zi_Lr ad ls n L) : lv_has ls n (zi_prs ad L) := by
  obtain ⟨h1, h2, h3, h4⟩ := h
  refine ⟨h1, h3, fun q hq => ?_⟩
  unfold zi_prs at hq
  obtain ⟨i, -, hi⟩ := List.mem_filterMap.mp hq
  cases hL : L[i]? with
  | none => rw [hL] at hi; cases hi
  | some o =>
    cases o with
    | none => rw [hL] at hi; cases hi
    | some v =>
      rw [hL] at hi
      cases hi
      exact h4 i v hL
theorem zi_dlg {L : zi_L} {i j : Nat} {u : zi_V} (h : (zi_dl L i)[j]? = some (some u)) : L[j]? = some (some u) ∧ ¬ (j + 1 = i ∧ zi_ct u = 2) := by
  unfold zi_dl at h
  cases i with
  | zero => exact ⟨h, fun q => by omega⟩
  | succ k =>
    simp only at h
    split at h
    · next x e =>
      by_cases hj : j = k
      · subst hj
        have hl : j < L.length := (List.getElem?_eq_some_iff.mp e).1
        rw [List.getElem?_set_self hl] at h
        cases h
      · rw [List.getElem?_set_ne (Ne.symm hj)] at h
        exact ⟨h, fun q => hj (by omega)⟩
    · next e =>
      refine ⟨h, fun q => ?_⟩
      obtain ⟨q1, q2⟩ := q
      have : j = k := by omega
      subst this
      rcases u with x | x | y
      · cases q2
      · exact e x h
      · cases q2
theorem zi_dll (L : zi_L) (i : Nat) : (zi_dl L i).length = L.length := by
  unfold zi_dl
  cases i with
  | zero => rfl
  | succ k => simp only; split <;> simp
theorem zi_st1 {ad : Nat → Nat → Nat} {ls ls' : Array Slot} {n i : Nat} {L : zi_L} {v : zi_V} (h : zi_Lr ad ls n L) (hi : i < L.length) (h' : lv_has ls' n ((i, zi_cv ad v) :: (zi_prs ad L).filter (fun q => !(q.1 == i) && !(q.1 + 1 == i && q.2.category == 2)))) : zi_Lr ad ls' n ((zi_dl L i).set i (some v)) := by
  refine ⟨h'.1, by rw [List.length_set, zi_dll]; exact h.2.1, h'.2.1, fun j u hj => ?_⟩
  by_cases hji : j = i
  · subst hji
    rw [List.getElem?_set_self (by rw [zi_dll]; exact hi)] at hj
    cases hj
    exact h'.2.2 (j, zi_cv ad v) List.mem_cons_self
  · rw [List.getElem?_set_ne (Ne.symm hji)] at hj
    obtain ⟨h1, h2⟩ := zi_dlg hj
    refine h'.2.2 (j, zi_cv ad u) (List.mem_cons_of_mem _ (List.mem_filter.mpr ⟨zi_prs_in h1, ?_⟩))
    rw [zi_cat]
    simp only [Bool.and_eq_true, Bool.not_eq_true', beq_eq_false_iff_ne, ne_eq, Bool.and_eq_false_iff]
    refine ⟨hji, ?_⟩
    by_cases hq : j + 1 = i
    · exact Or.inr (fun q => h2 ⟨hq, q⟩)
    · exact Or.inl hq
theorem zi_st2 {ad : Nat → Nat → Nat} {ls ls' : Array Slot} {n i : Nat} {L : zi_L} {v : zi_V} (h : zi_Lr ad ls n L) (hi : i + 1 < L.length) (h' : lv_has ls' n ((i, zi_cv ad v) :: (zi_prs ad L).filter (fun q => !(q.1 == i) && (!(q.1 == i + 1) && !(q.1 + 1 == i && q.2.category == 2))))) : zi_Lr ad ls' n (((zi_dl L i).set i (some v)).set (i + 1) none) := by
  refine ⟨h'.1, by rw [List.length_set, List.length_set, zi_dll]; exact h.2.1, h'.2.1, fun j u hj => ?_⟩
  by_cases hj1 : j = i + 1
  · subst hj1
    rw [List.getElem?_set_self (by rw [List.length_set, zi_dll]; exact hi)] at hj
    cases hj
  · rw [List.getElem?_set_ne (Ne.symm hj1)] at hj
    by_cases hji : j = i
    · subst hji
      rw [List.getElem?_set_self (by rw [zi_dll]; omega)] at hj
      cases hj
      exact h'.2.2 (j, zi_cv ad v) List.mem_cons_self
    · rw [List.getElem?_set_ne (Ne.symm hji)] at hj
      obtain ⟨h1, h2⟩ := zi_dlg hj
      refine h'.2.2 (j, zi_cv ad u) (List.mem_cons_of_mem _ (List.mem_filter.mpr ⟨zi_prs_in h1, ?_⟩))
      rw [zi_cat]
      simp only [Bool.and_eq_true, Bool.not_eq_true', beq_eq_false_iff_ne, ne_eq, Bool.and_eq_false_iff]
      refine ⟨hji, hj1, ?_⟩
      by_cases hq : j + 1 = i
      · exact Or.inr (fun q => h2 ⟨hq, q⟩)
      · exact Or.inl hq
theorem zi_klg (ks : List Nat) : ∀ (L : zi_L) (i j : Nat) (u : zi_V), (zi_kl ks i L)[j]? = some (some u) → L[j]? = some (some u)
  | [], _, _, _, h => by cases h
  | a :: t, i, j, u, h => by
    cases j with
    | zero =>
      simp only [zi_kl, List.getElem?_cons_zero] at h ⊢
      split at h
      · exact h
      · cases h
    | succ j =>
      simp only [zi_kl, List.getElem?_cons_succ] at h ⊢
      exact zi_klg ks t (i + 1) j u h
theorem zi_kll (ks : List Nat) : ∀ (L : zi_L) (i : Nat), (zi_kl ks i L).length = L.length
  | [], _ => rfl
  | _ :: t, i => by simp [zi_kl, zi_kll ks t (i + 1)]
theorem zi_Lr_kl {ad : Nat → Nat → Nat} {ls : Array Slot} {n : Nat} {L : zi_L} (ks : List Nat) (h : zi_Lr ad ls n L) : zi_Lr ad ls n (zi_kl ks 0 L) := ⟨h.1, by rw [zi_kll]; exact h.2.1, h.2.2.1, fun i v hv => h.2.2.2 i v (zi_klg ks L 0 i v hv)⟩
/-- validity of locals behind a store -/
theorem zi_vL1 {L : zi_L} {i : Nat} {v : zi_V} (h : ∀ (j : Nat) (u : zi_V), L[j]? = some (some u) → zi_vl u) (hv : zi_vl v) : ∀ (j : Nat) (u : zi_V), ((zi_dl L i).set i (some v))[j]? = some (some u) → zi_vl u := by
  intro j u hj
  by_cases hji : i = j
  · subst hji
    rw [List.getElem?_set] at hj
    simp only [if_true] at hj
    split at hj
    · cases hj; exact hv
    · cases hj
  · rw [List.getElem?_set_ne hji] at hj
    exact h j u (zi_dlg hj).1
theorem zi_vL2 {L : zi_L} {i : Nat} {v : zi_V} (h : ∀ (j : Nat) (u : zi_V), L[j]? = some (some u) → zi_vl u) (hv : zi_vl v) : ∀ (j : Nat) (u : zi_V), (((zi_dl L i).set i (some v)).set (i + 1) none)[j]? = some (some u) → zi_vl u := by
  intro j u hj
  by_cases hji : i + 1 = j
  · subst hji
    rw [List.getElem?_set] at hj
    simp only [if_true] at hj
    split at hj
    · cases hj
    · cases hj
  · rw [List.getElem?_set_ne hji] at hj
    exact zi_vL1 h hv j u hj
/-! the locals at the beginning -/
theorem zi_e0l (ad : Nat → Nat → Nat) : ∀ vs : List zi_V, (zi_e0 vs).length = (lg_sl (vs.map (zi_cv ad))).length
  | [] => rfl
  | v :: t => by
    have ih := zi_e0l ad t
    rcases v with x | x | ⟨c, o⟩
    · simp [zi_e0, lg_sl, zi_cv, Value.category] at ih ⊢; omega
    · simp [zi_e0, lg_sl, zi_cv, Value.category] at ih ⊢; omega
    · cases o <;> (simp [zi_e0, lg_sl, zi_cv, va_rf, Value.category] at ih ⊢; omega)
theorem zi_e0g (ad : Nat → Nat → Nat) : ∀ (vs : List zi_V) (n j : Nat) (u : zi_V), (zi_e0 vs)[j]? = some (some u) → (n + j, zi_cv ad u) ∈ lv_args n (vs.map (zi_cv ad)) ∧ u ∈ vs
  | [], n, j, u, h => by cases h
  | v :: t, n, j, u, h => by
    have ih := zi_e0g ad t
    rcases v with x | x | ⟨c, o⟩
    · cases j with
      | zero =>
        simp only [zi_e0, List.getElem?_cons_zero] at h
        cases h
        exact ⟨List.mem_cons_self, List.mem_cons_self⟩
      | succ j =>
        simp only [zi_e0, List.getElem?_cons_succ] at h
        obtain ⟨h1, h2⟩ := ih (n + 1) j u h
        refine ⟨List.mem_cons_of_mem _ ?_, List.mem_cons_of_mem _ h2⟩
        show _ ∈ lv_args (n + 1) _
        rw [show n + (j + 1) = n + 1 + j by omega]
        exact h1
    · cases j with
      | zero =>
        simp only [zi_e0, List.getElem?_cons_zero] at h
        cases h
        exact ⟨List.mem_cons_self, List.mem_cons_self⟩
      | succ j =>
        cases j with
        | zero =>
          simp only [zi_e0, List.getElem?_cons_succ, List.getElem?_cons_zero] at h
          cases h
        | succ j =>
          simp only [zi_e0, List.getElem?_cons_succ] at h
          obtain ⟨h1, h2⟩ := ih (n + 2) j u h
          refine ⟨List.mem_cons_of_mem _ ?_, List.mem_cons_of_mem _ h2⟩
          show _ ∈ lv_args (n + 2) _
          rw [show n + (j + 1 + 1) = n + 2 + j by omega]
          exact h1
    · have hcat : (zi_cv ad (.inr (.inr (c, o)))).category = 1 := zi_cat ad _
      cases j with
      | zero =>
        simp only [zi_e0, List.getElem?_cons_zero] at h
        cases h
        exact ⟨List.mem_cons_self, List.mem_cons_self⟩
      | succ j =>
        simp only [zi_e0, List.getElem?_cons_succ] at h
        obtain ⟨h1, h2⟩ := ih (n + 1) j u h
        refine ⟨List.mem_cons_of_mem _ ?_, List.mem_cons_of_mem _ h2⟩
        show _ ∈ lv_args (if (zi_cv ad (.inr (.inr (c, o)))).category = 2 then n + 2 else n + 1) _
        rw [hcat, if_neg (by decide), show n + (j + 1) = n + 1 + j by omega]
        exact h1
theorem zi_eng {n : Nat} {vs : List zi_V} {j : Nat} {u : zi_V} (h : (zi_en n vs)[j]? = some (some u)) : (zi_e0 vs)[j]? = some (some u) := by
  unfold zi_en at h
  rw [List.getElem?_append] at h
  split at h
  · exact h
  · rw [List.getElem?_replicate] at h
    split at h
    · cases h
    · cases h
theorem zi_ent0 {ad : Nat → Nat → Nat} {n : Nat} {vs : List zi_V} (h : (zi_e0 vs).length ≤ n) : zi_Lr ad ((lg_sl (vs.map (zi_cv ad)) ++ List.replicate (n - (lg_sl (vs.map (zi_cv ad))).length) Slot.unset).toArray) n (zi_en n vs) := by
  have hl := lv_entry (vs.map (zi_cv ad)) (n := n) (by rw [← zi_e0l]; exact h)
  refine ⟨hl.1, ?_, hl.2.1, fun j u hj => ?_⟩
  · unfold zi_en
    rw [List.length_append, List.length_replicate]
    omega
  · have := (zi_e0g ad vs 0 j u (zi_eng hj)).1
    rw [Nat.zero_add] at this
    exact hl.2.2 _ this
