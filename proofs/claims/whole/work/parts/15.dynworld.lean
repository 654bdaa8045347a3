/-! THE CONSTRUCTORS: the world of their memory -/
abbrev zd_cv (adr : Nat → Nat) (v : zi_V) : Value := zi_cv (fun _ => adr) v
def zd_con (adr : Nat → Nat) (t : Nat) (iw : List (Nat × Int32)) (rw : List (Nat × Nat)) : (Nat → Int32) ⊕ (Nat → Int64) ⊕ (Nat → UInt32) ⊕ (Nat → UInt64) ⊕ (Nat → Option Nat) := if t = 1 then .inr (.inl (fun _ => 0)) else if t < 4 then .inl (fun j => (zi_at iw j).getD 0) else .inr (.inr (.inr (.inr (fun j => (zi_at rw j).map adr))))
def zd_ent (ct : FieldType → ClassId) (adr : Nat → Nat) (c : zd_C) : va_E := match c with
  | .inl q => .inr (q.1, q.2.map (zd_cv adr))
  | .inr q => .inl (ct (zd_ft q.1), q.2.1, zd_con adr q.1 q.2.2.1 q.2.2.2)
def zd_wl (ct : FieldType → ClassId) (adr : Nat → Nat) (M : zd_M) : va_W := (List.range M.1).map (fun i => (adr i, zd_ent ct adr (M.2 i)))
/-- references lead to cells that there are -/
def zd_vl (n : Nat) (v : zi_V) : Prop := match v with
  | .inr (.inr (_, some k)) => k < n
  | _ => True
def zd_vc (n : Nat) (c : zd_C) : Prop := match c with
  | .inl q => ∀ v ∈ q.2, zd_vl n v
  | .inr q => ∀ e ∈ q.2.2.2, e.2 < n
def zd_vm (M : zd_M) : Prop := ∀ i, i < M.1 → zd_vc M.1 (M.2 i)
theorem zd_cv_ag {adr adr' : Nat → Nat} {n : Nat} (h : ∀ i, i < n → adr' i = adr i) {v : zi_V} (hv : zd_vl n v) : zd_cv adr' v = zd_cv adr v := by
  rcases v with x | x | ⟨c, o⟩
  · rfl
  · rfl
  · cases o with
    | none => rfl
    | some k => show va_rf (some (adr' k)) = va_rf (some (adr k)); rw [h k hv]
theorem zd_ent_ag {ct : FieldType → ClassId} {adr adr' : Nat → Nat} {n : Nat} (h : ∀ i, i < n → adr' i = adr i) {c : zd_C} (hc : zd_vc n c) : zd_ent ct adr' c = zd_ent ct adr c := by
  rcases c with ⟨c0, fs⟩ | ⟨t, k, iw, rw⟩
  · show (.inr (c0, fs.map (zd_cv adr')) : va_E) = .inr (c0, fs.map (zd_cv adr))
    rw [List.map_congr_left (fun v hv => zd_cv_ag h (hc v hv))]
  · show (.inl (ct (zd_ft t), k, zd_con adr' t iw rw) : va_E) = .inl (ct (zd_ft t), k, zd_con adr t iw rw)
    have e : (fun j => (zi_at rw j).map adr') = (fun j => (zi_at rw j).map adr) := by
      funext j
      cases hj : zi_at rw j with
      | none => rfl
      | some q =>
        show some (adr' q) = some (adr q)
        rw [h q (hc (j, q) (zi_at_mem _ _ hj))]
    unfold zd_con
    rw [e]
theorem zd_wl_ag {ct : FieldType → ClassId} {adr adr' : Nat → Nat} {M : zd_M} (h : ∀ i, i < M.1 → adr' i = adr i) (hv : zd_vm M) : zd_wl ct adr' M = zd_wl ct adr M := by
  unfold zd_wl
  apply List.map_congr_left
  intro i hi
  have hi := List.mem_range.mp hi
  rw [h i hi, zd_ent_ag h (hv i hi)]
theorem zd_wg {ct : FieldType → ClassId} {adr : Nat → Nat} {M : zd_M} {i : Nat} (h : i < M.1) : (zd_wl ct adr M)[i]? = some (adr i, zd_ent ct adr (M.2 i)) := by
  unfold zd_wl
  rw [List.getElem?_map, List.getElem?_range h]; rfl
theorem zd_up_s {M : zd_M} {i : Nat} {c : zd_C} : (zd_up M i c).2 i = c := by
  simp [zd_up]
theorem zd_up_n {M : zd_M} {i j : Nat} {c : zd_C} (h : j ≠ i) : (zd_up M i c).2 j = M.2 j := by
  have hb : Nat.beq j i = false := by
    cases hq : Nat.beq j i with
    | false => rfl
    | true => exact absurd (Nat.eq_of_beq_eq_true hq) h
  simp only [zd_up, hb]
theorem zd_ad_s {M : zd_M} {c : zd_C} : (zd_ad M c).2 M.1 = c := by
  simp [zd_ad]
theorem zd_ad_n {M : zd_M} {j : Nat} {c : zd_C} (h : j ≠ M.1) : (zd_ad M c).2 j = M.2 j := by
  have hb : Nat.beq j M.1 = false := by
    cases hq : Nat.beq j M.1 with
    | false => rfl
    | true => exact absurd (Nat.eq_of_beq_eq_true hq) h
  simp only [zd_ad, hb]
theorem zd_set {ct : FieldType → ClassId} {adr : Nat → Nat} {M : zd_M} {i : Nat} {c : zd_C} (h : i < M.1) : (zd_wl ct adr M).set i (adr i, zd_ent ct adr c) = zd_wl ct adr (zd_up M i c) := by
  apply List.ext_getElem?
  intro j
  have hlen : (zd_wl ct adr M).length = M.1 := by simp [zd_wl]
  by_cases hj : j = i
  · subst hj
    rw [List.getElem?_set_self (by rw [hlen]; exact h), zd_wg (M := zd_up M j c) h, zd_up_s]
  · rw [List.getElem?_set_ne (Ne.symm hj)]
    by_cases hl : j < M.1
    · rw [zd_wg hl, zd_wg (M := zd_up M i c) hl, zd_up_n hj]
    · rw [List.getElem?_eq_none (by rw [hlen]; omega), List.getElem?_eq_none (by simp [zd_wl, zd_up]; omega)]
theorem zd_add {ct : FieldType → ClassId} {adr : Nat → Nat} {M : zd_M} {q : Nat} {c : zd_C} (hv : zd_vm M) (hc : zd_vc M.1 c) : zd_wl ct adr M ++ [(q, zd_ent ct adr c)] = zd_wl ct (va_up adr M.1 q) (zd_ad M c) := by
  have hag : ∀ i, i < M.1 → va_up adr M.1 q i = adr i := fun i hi => va_up_ne _ _ (by omega)
  have e1 : zd_wl ct (va_up adr M.1 q) (zd_ad M c) = (List.range M.1).map (fun i => (va_up adr M.1 q i, zd_ent ct (va_up adr M.1 q) ((zd_ad M c).2 i))) ++ [(va_up adr M.1 q M.1, zd_ent ct (va_up adr M.1 q) ((zd_ad M c).2 M.1))] := by
    unfold zd_wl
    show (List.range (M.1 + 1)).map _ = _
    rw [List.range_succ, List.map_append]
    rfl
  rw [e1, zd_ad_s, va_up_self, zd_ent_ag hag hc]
  congr 1
  unfold zd_wl
  apply List.map_congr_left
  intro i hi
  have hi := List.mem_range.mp hi
  rw [hag i hi, zd_ad_n (by omega), zd_ent_ag hag (hv i hi)]
theorem zd_vl_m {n n' : Nat} (h : n ≤ n') {v : zi_V} (hv : zd_vl n v) : zd_vl n' v := by
  rcases v with x | x | ⟨c, o⟩
  · trivial
  · trivial
  · cases o with
    | none => trivial
    | some k => exact Nat.lt_of_lt_of_le hv h
theorem zd_vc_m {n n' : Nat} (h : n ≤ n') {c : zd_C} (hc : zd_vc n c) : zd_vc n' c := by
  rcases c with q | q
  · exact fun v hv => zd_vl_m h (hc v hv)
  · exact fun e he => Nat.lt_of_lt_of_le (hc e he) h
theorem zd_vm_ad {M : zd_M} {c : zd_C} (hv : zd_vm M) (hc : zd_vc M.1 c) : zd_vm (zd_ad M c) := by
  intro i hi
  have hi : i < M.1 + 1 := hi
  by_cases h : i = M.1
  · subst h; rw [zd_ad_s]; exact zd_vc_m (Nat.le_succ _) hc
  · rw [zd_ad_n h]; exact zd_vc_m (Nat.le_succ _) (hv i (by omega))
theorem zd_vm_up {M : zd_M} {k : Nat} {c : zd_C} (hv : zd_vm M) (hc : zd_vc M.1 c) : zd_vm (zd_up M k c) := by
  intro i hi
  by_cases h : i = k
  · subst h; rw [zd_up_s]; exact hc
  · rw [zd_up_n h]; exact hv i hi
/-- how much room the cells take -/
def zd_cs (c : zd_C) : Nat := match c with
  | .inl q => q.2.length
  | .inr q => q.2.1
def zd_sz (M : zd_M) : Nat := ((List.range M.1).map (fun i => zd_cs (M.2 i))).sum
theorem zd_sz_ad {M : zd_M} {c : zd_C} : zd_sz (zd_ad M c) = zd_sz M + zd_cs c := by
  unfold zd_sz
  show ((List.range (M.1 + 1)).map _).sum = _
  rw [List.range_succ, List.map_append, List.sum_append]
  congr 1
  · congr 1
    apply List.map_congr_left
    intro i hi
    have hi := List.mem_range.mp hi
    rw [zd_ad_n (by omega)]
  · simp [zd_ad_s]
theorem zd_sz_up {M : zd_M} {k : Nat} {c : zd_C} (h : zd_cs c = zd_cs (M.2 k)) : zd_sz (zd_up M k c) = zd_sz M := by
  unfold zd_sz
  congr 1
  apply List.map_congr_left
  intro i hi
  by_cases hk : i = k
  · subst hk; rw [zd_up_s, h]
  · rw [zd_up_n hk]
