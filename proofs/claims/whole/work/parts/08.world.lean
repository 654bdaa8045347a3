/-! THE WORLD: what the heap holds when the abstract memory is M -/
def zi_cv (ad : Nat → Nat → Nat) (v : zi_V) : Value := match v with
  | .inl x => .int x
  | .inr (.inl x) => .long x
  | .inr (.inr q) => va_rf (q.2.map (ad q.1))
def zi_fs (ad : Nat → Nat → Nat) (M : zi_M) (c k : Nat) : List Value := (List.range (zi_ftl c).length).map (fun s => zi_cv ad (zi_rd M c k s ((zi_ftl c)[s]?.getD 0)))
def zi_con (ad : Nat → Nat → Nat) (M : zi_M) (c k : Nat) : (Nat → Int32) ⊕ (Nat → Int64) ⊕ (Nat → UInt32) ⊕ (Nat → UInt64) ⊕ (Nat → Option Nat) := if zi_aty c = 1 then .inr (.inl (M.2.1 c k)) else if zi_aty c = 2 then .inr (.inr (.inr (.inr (fun j => some (ad (zi_ek c) (zi_rf c k j)))))) else .inl (M.1 c k)
def zi_ent (ca : Nat → ClassId) (ad : Nat → Nat → Nat) (M : zi_M) (c k : Nat) : va_E := if c < 11 then .inr (c, zi_fs ad M c k) else .inl (ca c, zi_ln c k, zi_con ad M c k)
def zi_all : List (Nat × Nat) := (List.range 44).flatMap (fun c => ((List.range 300).filter (zi_ex c)).map (fun k => (c, k)))
def zi_wl (ca : Nat → ClassId) (ad : Nat → Nat → Nat) (M : zi_M) : va_W := zi_all.map (fun q => (ad q.1 q.2, zi_ent ca ad M q.1 q.2))
theorem zi_nd : va_nd (zi_all.map (fun q => q.1 * 300 + q.2)) = true := by decide +kernel
theorem zi_cn44 : ∀ c, c < 90 → 44 ≤ c → (zi_at zi_cns c).getD 0 = 0 := by decide +kernel
theorem zi_cn300 : ∀ c, c < 90 → (zi_at zi_cns c).getD 0 ≤ 300 := by decide +kernel
theorem zi_exb {c k : Nat} (hc : c < 90) (h : zi_ex c k = true) : c < 44 ∧ k < 300 := by
  unfold zi_ex at h
  by_cases h7 : c = 7
  · subst h7
    rw [if_pos rfl] at h
    simp only [Bool.or_eq_true, Bool.and_eq_true, Nat.blt_eq, Nat.ble_eq, Nat.beq_eq] at h
    omega
  · rw [if_neg h7, Nat.blt_eq] at h
    refine ⟨?_, Nat.lt_of_lt_of_le h (zi_cn300 c hc)⟩
    rcases Nat.lt_or_ge c 44 with g | g
    · exact g
    · have := zi_cn44 c hc g
      omega
theorem zi_in {c k : Nat} (hc : c < 90) (h : zi_ex c k = true) : ∃ i : Nat, zi_all[i]? = some (c, k) := by
  obtain ⟨h1, h2⟩ := zi_exb hc h
  apply List.getElem?_of_mem
  unfold zi_all
  exact List.mem_flatMap.mpr ⟨c, List.mem_range.mpr h1, List.mem_map.mpr ⟨k, List.mem_filter.mpr ⟨List.mem_range.mpr h2, h⟩, rfl⟩⟩
theorem zi_inj {i j : Nat} {q : Nat × Nat} (h1 : zi_all[i]? = some q) (h2 : zi_all[j]? = some q) : i = j :=
  va_nd_inj _ zi_nd i j (q.1 * 300 + q.2) (by rw [List.getElem?_map, h1]; rfl) (by rw [List.getElem?_map, h2]; rfl)
theorem zi_alt {i : Nat} {c k : Nat} (h : zi_all[i]? = some (c, k)) : c < 44 ∧ zi_ex c k = true := by
  have hm := List.mem_of_getElem? h
  unfold zi_all at hm
  obtain ⟨c', h1, h2⟩ := List.mem_flatMap.mp hm
  obtain ⟨k', h3, h4⟩ := List.mem_map.mp h2
  cases h4
  exact ⟨List.mem_range.mp h1, (List.mem_filter.mp h3).2⟩
theorem zi_wg {ca : Nat → ClassId} {ad : Nat → Nat → Nat} {M : zi_M} {i c k : Nat} (h : zi_all[i]? = some (c, k)) : (zi_wl ca ad M)[i]? = some (ad c k, zi_ent ca ad M c k) := by
  unfold zi_wl
  rw [List.getElem?_map, h]; rfl
/-- one cell changes -/
theorem zi_set {ca : Nat → ClassId} {ad : Nat → Nat → Nat} {M M' : zi_M} {i c k : Nat} (h : zi_all[i]? = some (c, k)) (ho : ∀ c' k', c' < 44 → ¬ (c' = c ∧ k' = k) → zi_ent ca ad M' c' k' = zi_ent ca ad M c' k') : (zi_wl ca ad M).set i (ad c k, zi_ent ca ad M' c k) = zi_wl ca ad M' := by
  apply List.ext_getElem?
  intro j
  by_cases hj : j = i
  · subst hj
    have hl : j < (zi_wl ca ad M).length := (List.getElem?_eq_some_iff.mp (zi_wg (ca := ca) (ad := ad) (M := M) h)).1
    rw [List.getElem?_set_self hl, zi_wg h]
  · rw [List.getElem?_set_ne (Ne.symm hj)]
    unfold zi_wl
    rw [List.getElem?_map, List.getElem?_map]
    cases hq : zi_all[j]? with
    | none => rfl
    | some q =>
      obtain ⟨c', k'⟩ := q
      have hne : ¬ (c' = c ∧ k' = k) := by
        rintro ⟨rfl, rfl⟩
        exact hj (zi_inj hq h)
      have := ho c' k' (zi_alt hq).1 hne
      simp only [Option.map_some]
      rw [this]
theorem zi_fsl {ad : Nat → Nat → Nat} {M : zi_M} {c k : Nat} : (zi_fs ad M c k).length = (zi_ftl c).length := by simp [zi_fs]
theorem zi_fsg {ad : Nat → Nat → Nat} {M : zi_M} {c k s ty : Nat} (h : (zi_ftl c)[s]? = some ty) : (zi_fs ad M c k)[s]? = some (zi_cv ad (zi_rd M c k s ty)) := by
  have hl : s < (zi_ftl c).length := (List.getElem?_eq_some_iff.mp h).1
  unfold zi_fs
  rw [List.getElem?_map, List.getElem?_range hl, Option.map_some, h]; rfl
/-- cells that aren't written stay as they are -/
theorem zi_fse {ad : Nat → Nat → Nat} {M M' : zi_M} {c k : Nat} (h1 : ∀ s, M'.1 c k s = M.1 c k s) (h2 : ∀ s, M'.2.1 c k s = M.2.1 c k s) (h3 : ∀ s, M'.2.2 c k s = M.2.2 c k s) : zi_fs ad M' c k = zi_fs ad M c k := by
  unfold zi_fs
  apply List.map_congr_left
  intro s _
  simp only [zi_rd, zi_gr, h1, h2, h3]
theorem zi_ente {ca : Nat → ClassId} {ad : Nat → Nat → Nat} {M M' : zi_M} {c k : Nat} (h1 : ∀ s, M'.1 c k s = M.1 c k s) (h2 : ∀ s, M'.2.1 c k s = M.2.1 c k s) (h3 : ∀ s, M'.2.2 c k s = M.2.2 c k s) : zi_ent ca ad M' c k = zi_ent ca ad M c k := by
  unfold zi_ent
  rw [zi_fse h1 h2 h3]
  have e1 : M'.1 c k = M.1 c k := funext h1
  have e2 : M'.2.1 c k = M.2.1 c k := funext h2
  unfold zi_con
  rw [e1, e2]
theorem zi_sIo {M : zi_M} {c k s : Nat} {x : Int32} {c' k' : Nat} (h : ¬ (c' = c ∧ k' = k)) (s' : Nat) : (zi_sI M c k s x).1 c' k' s' = M.1 c' k' s' := by
  simp only [zi_sI]
  split
  · next e => split
              · split
                · next e2 => exact absurd ⟨e, e2⟩ h
                · rfl
              · rfl
  · rfl
theorem zi_sLo {M : zi_M} {c k s : Nat} {x : Int64} {c' k' : Nat} (h : ¬ (c' = c ∧ k' = k)) (s' : Nat) : (zi_sL M c k s x).2.1 c' k' s' = M.2.1 c' k' s' := by
  simp only [zi_sL]
  split
  · next e => split
              · split
                · next e2 => exact absurd ⟨e, e2⟩ h
                · rfl
              · rfl
  · rfl
theorem zi_sRo {M : zi_M} {c k s : Nat} {x : Option Nat} {c' k' : Nat} (h : ¬ (c' = c ∧ k' = k)) (s' : Nat) : (zi_sR M c k s x).2.2 c' k' s' = M.2.2 c' k' s' := by
  simp only [zi_sR]
  split
  · next e => split
              · split
                · next e2 => exact absurd ⟨e, e2⟩ h
                · rfl
              · rfl
  · rfl
theorem zi_cpo {M : zi_M} {c0 k0 c k a b n : Nat} {c' k' : Nat} (h : ¬ (c' = c ∧ k' = k)) (s' : Nat) : (zi_cp M c0 k0 c k a b n).1 c' k' s' = M.1 c' k' s' := by
  simp only [zi_cp]
  split
  · next e => split
              · next e2 => exact absurd ⟨e, e2⟩ h
              · rfl
  · rfl
theorem zi_sIs {M : zi_M} {c k s : Nat} {x : Int32} : (zi_sI M c k s x).1 c k s = x := by simp [zi_sI]
theorem zi_sIn {M : zi_M} {c k s s' : Nat} {x : Int32} (h : s' ≠ s) : (zi_sI M c k s x).1 c k s' = M.1 c k s' := by simp [zi_sI, h]
theorem zi_sLs {M : zi_M} {c k s : Nat} {x : Int64} : (zi_sL M c k s x).2.1 c k s = x := by simp [zi_sL]
theorem zi_sLn {M : zi_M} {c k s s' : Nat} {x : Int64} (h : s' ≠ s) : (zi_sL M c k s x).2.1 c k s' = M.2.1 c k s' := by simp [zi_sL, h]
theorem zi_sRs {M : zi_M} {c k s : Nat} {x : Option Nat} : (zi_sR M c k s x).2.2 c k s = x := by simp [zi_sR]
theorem zi_sRn {M : zi_M} {c k s s' : Nat} {x : Option Nat} (h : s' ≠ s) : (zi_sR M c k s x).2.2 c k s' = M.2.2 c k s' := by simp [zi_sR, h]
/-- a written object -/
theorem zi_fsw {ad : Nat → Nat → Nat} {M M' : zi_M} {c k s ty : Nat} {v : zi_V} (h : (zi_ftl c)[s]? = some ty) (hv : zi_rd M' c k s ty = v) (ho : ∀ s' ty', s' ≠ s → zi_rd M' c k s' ty' = zi_rd M c k s' ty') : zi_fs ad M' c k = (zi_fs ad M c k).set s (zi_cv ad v) := by
  apply List.ext_getElem?
  intro j
  by_cases hj : j = s
  · subst hj
    have hl : j < (zi_fs ad M c k).length := by rw [zi_fsl]; exact (List.getElem?_eq_some_iff.mp h).1
    rw [List.getElem?_set_self hl, zi_fsg h, hv]
  · rw [List.getElem?_set_ne (Ne.symm hj)]
    unfold zi_fs
    rw [List.getElem?_map, List.getElem?_map]
    cases hq : (List.range (zi_ftl c).length)[j]? with
    | none => rfl
    | some q =>
      have : q = j := by
        have := (List.getElem?_eq_some_iff.mp hq).2
        simpa using this.symm
      subst this
      simp only [Option.map_some]
      rw [ho _ _ hj]
theorem zi_fswI {ad : Nat → Nat → Nat} {M : zi_M} {c k s ty : Nat} {x : Int32} (h : (zi_ftl c)[s]? = some ty) (ht : ty = 0 ∨ ty = 3) : zi_fs ad (zi_sI M c k s x) c k = (zi_fs ad M c k).set s (.int x) := by
  refine zi_fsw (v := .inl x) h ?_ ?_
  · rcases ht with rfl | rfl <;> simp [zi_rd, zi_sIs]
  · intro s' ty' hs
    simp only [zi_rd, zi_gr, zi_sIn hs]
    rfl
theorem zi_fswL {ad : Nat → Nat → Nat} {M : zi_M} {c k s : Nat} {x : Int64} (h : (zi_ftl c)[s]? = some 1) : zi_fs ad (zi_sL M c k s x) c k = (zi_fs ad M c k).set s (.long x) := by
  refine zi_fsw (v := .inr (.inl x)) h ?_ ?_
  · simp [zi_rd, zi_sLs]
  · intro s' ty' hs
    simp only [zi_rd, zi_gr, zi_sLn hs]
    rfl
theorem zi_fswR {ad : Nat → Nat → Nat} {M : zi_M} {c k s : Nat} {x : Option Nat} (h : (zi_ftl c)[s]? = some 2) (hm : zi_mu c s = true) : zi_fs ad (zi_sR M c k s x) c k = (zi_fs ad M c k).set s (va_rf (x.map (ad (zi_fk c s)))) := by
  refine zi_fsw (v := .inr (.inr (zi_fk c s, x))) h ?_ ?_
  · simp [zi_rd, zi_gr, hm, zi_sRs]
  · intro s' ty' hs
    simp only [zi_rd, zi_gr, zi_sRn hs]
    rfl
/-- arrays that are only read: the script, the class's static arrays -/
def zi_RO (ad : Nat → Nat → Nat) (M : zi_M) (U : State) (H : Heap) : Prop := ∀ c, 90 ≤ c → c < 93 → ∃ cell : Cell, H[ad c 0]? = some cell ∧ U.isArrayOf cell .int ∧ cell.vm ≠ .unknown ∧ zi_len M c 0 ≤ cell.slots.size ∧ cell.slots.size.toInt32 = Int32.ofNat (zi_len M c 0) ∧ ∀ j : Nat, j < zi_len M c 0 → cell.slots[j]? = some (.int (M.1 c 0 j))
def zi_tyl : List (Nat × FieldType) := [(11, .int), (12, .int), (13, .object "WaxWings$Bird"), (14, .int), (15, .object "WaxWings$Spot"), (16, .object "WaxWings$Spot"), (17, .int), (18, .object "WaxWings$Spot"), (19, .object "WaxWings$Row"), (20, .object "WaxWings$Row"), (21, .object "WaxWings$Sky"), (22, .int), (23, .int), (24, .int), (25, .int), (26, .int), (27, .int), (28, .int), (29, .int), (30, .boolean), (31, .int), (32, .int), (33, .int), (34, .int), (35, .int), (36, .int), (37, .int), (38, .int), (39, .int), (40, .int), (41, .long), (42, .long), (43, .int)]
def zi_tys (ca : Nat → ClassId) : List (ClassId × FieldType) := zi_tyl.map (fun q => (ca q.1, q.2))
def zi_isN : Cond → Bool
  | .fieldLinkNest .. => true
  | .methodLinkNest .. => true
  | _ => false
def zi_K (D : va_G) (ca : Nat → ClassId) (U : State) : Prop := va_K D vwCl (zi_tys ca) U ∧ ∀ w ∈ lw_tbl, zi_isN w = true → va_Nw w U
def zi_Z (ad : Nat → Nat → Nat) (A : Nat → Prop) (U : State) (H : Heap) : Prop := va_Z "WaxWings" "SIGNS" "[I" (.ref (ad 91 0)) A U H ∧ va_Z "WaxWings" "KIND_LETTERS" "[I" (.ref (ad 92 0)) A U H
def zi_NA (ad : Nat → Nat → Nat) (A : Nat → Prop) (U : State) : Prop := ∀ c, 90 ≤ c → c < 93 → ¬ A (ad c 0) ∧ ad c 0 < U.heap.size
def zi_vl (v : zi_V) : Prop := match v with
  | .inr (.inr (c, some k)) => zi_ex c k = true
  | _ => True
def zi_vm (M : zi_M) : Prop := ∀ c k s o, zi_mu c s = true → M.2.2 c k s = some o → zi_ex (zi_fk c s) o = true
def zi_Lr (ad : Nat → Nat → Nat) (ls : Array Slot) (n : Nat) (L : zi_L) : Prop := ls.size = n ∧ L.length = n ∧ lv_wf ls ∧ ∀ (i : Nat) (v : zi_V), L[i]? = some (some v) → ls[i]? = some (.val (zi_cv ad v))
/-- the heap holds M -/
def zi_H (D : va_G) (ca : Nat → ClassId) (ad : Nat → Nat → Nat) (A : Nat → Prop) (M : zi_M) (U : State) (H : Heap) : Prop := va_P D vwCl (zi_wl ca ad M) H ∧ va_D A (zi_wl ca ad M) ∧ zi_RO ad M U H ∧ zi_vm M
def zi_P (D : va_G) (ca : Nat → ClassId) (ad : Nat → Nat → Nat) (A : Nat → Prop) (M : zi_M) (U : State) : Prop := zi_H D ca ad A M U U.heap ∧ zi_K D ca U ∧ zi_Z ad A U U.heap ∧ zi_NA ad A U
