/-! ROWS OVER THE WORLD: an instruction that reads or writes a cell -/
theorem zi_clok {ci : Nat} {C : String} {T : u_T} {N : Nat} (h : vwCl[ci]? = some (C, T, N)) : (∀ w ∈ u_ws C T N, w ∈ zi_gw) ∧ (∃ ty0 : Nat → FieldType, ∀ k, k < N → parseFieldDescriptor (T k).2.2.1 = some (ty0 k)) ∧ (∀ a, a < N → ∀ b, b < N → a ≠ b → (T a).2.1 ≠ (T b).2.1) := by
  match ci, h with
  | 0, h => cases h; exact ⟨zi_ly0, ⟨tyX0, tyX0_ok⟩, nmX0⟩
  | 1, h => cases h; exact ⟨zi_ly1, ⟨tyX1, tyX1_ok⟩, nmX1⟩
  | 2, h => cases h; exact ⟨zi_ly2, ⟨tyX2, tyX2_ok⟩, nmX2⟩
  | 3, h => cases h; exact ⟨zi_ly3, ⟨tyX3, tyX3_ok⟩, nmX3⟩
  | 4, h => cases h; exact ⟨zi_ly4, ⟨tyX4, tyX4_ok⟩, nmX4⟩
  | 5, h => cases h; exact ⟨zi_ly5, ⟨tyX5, tyX5_ok⟩, nmX5⟩
  | 6, h => cases h; exact ⟨zi_ly6, ⟨tyX6, tyX6_ok⟩, nmX6⟩
  | 7, h => cases h; exact ⟨zi_ly7, ⟨tyX7, tyX7_ok⟩, nmX7⟩
  | 8, h => cases h; exact ⟨zi_ly8, ⟨tyX8, tyX8_ok⟩, nmX8⟩
  | 9, h => cases h; exact ⟨zi_ly9, ⟨tyX9, tyX9_ok⟩, nmX9⟩
  | 10, h => cases h; exact ⟨zi_ly10, ⟨tyX10, tyX10_ok⟩, nmX10⟩
  | k + 11, h => simp at h
theorem zi_ty0 : ∀ c, c < 44 → zi_aty c = 0 → 11 ≤ c ∧ zi_tyl[c - 11]? = some (c, .int) := by decide +kernel
theorem zi_ty1 : ∀ c, c < 44 → zi_aty c = 1 → 11 ≤ c ∧ zi_tyl[c - 11]? = some (c, .long) := by decide +kernel
theorem zi_ty3 : ∀ c, c < 44 → zi_aty c = 3 → 11 ≤ c ∧ zi_tyl[c - 11]? = some (c, .boolean) := by decide +kernel
theorem zi_ty2 : ∀ c, c < 44 → zi_aty c = 2 → 11 ≤ c ∧ ∃ C : String, zi_tyl[c - 11]? = some (c, .object C) := by
  have h : ∀ c, c < 44 → zi_aty c = 2 → 11 ≤ c ∧ (match zi_tyl[c - 11]? with | some (c', .object _) => c' == c | _ => false) = true := by decide +kernel
  intro c hc h2
  obtain ⟨h3, h4⟩ := h c hc h2
  refine ⟨h3, ?_⟩
  split at h4
  · next c' C e =>
    rw [e, eq_of_beq h4]
    exact ⟨C, rfl⟩
  · cases h4
theorem zi_tya : ∀ c, c < 44 → 11 ≤ c → ∃ ty, zi_tyl[c - 11]? = some (c, ty) := by
  intro c h1 h2
  have h : ∀ c, c < 44 → 11 ≤ c → zi_tyl[c - 11]?.map (·.1) = some c := by decide +kernel
  have h3 := h c h1 h2
  cases h4 : zi_tyl[c - 11]? with
  | none => rw [h4] at h3; cases h3
  | some q => rw [h4] at h3; obtain ⟨a, b⟩ := q; simp at h3; subst h3; exact ⟨b, rfl⟩
theorem zi_tg {ca : Nat → ClassId} {c : Nat} {ty : FieldType} (h : zi_tyl[c - 11]? = some (c, ty)) : (zi_tys ca)[c - 11]? = some (ca c, ty) := by
  unfold zi_tys
  rw [List.getElem?_map, h]; rfl
theorem zi_lenn {M : zi_M} {c k : Nat} (h : c < 90) : zi_len M c k = zi_ln c k := by
  unfold zi_len
  rw [if_neg (by omega)]
theorem zi_ro_ty : ∀ c, c < 93 → zi_aty c = 0 → c < 44 ∨ 90 ≤ c := by decide +kernel
/-- kinds that there are -/
theorem zi_k93 {c k : Nat} (h : zi_ex c k = true) : c < 93 := by
  rcases Nat.lt_or_ge c 93 with g | g
  · exact g
  · exfalso
    unfold zi_ex at h
    rw [if_neg (by omega), Nat.blt_eq] at h
    have e : ∀ (l : List (Nat × Nat)), (∀ e ∈ l, e.1 < 93) → zi_at l c = none := by
      intro l
      induction l with
      | nil => intro _; rfl
      | cons x t ih =>
        intro hh
        obtain ⟨p, a⟩ := x
        unfold zi_at
        have hp : p < 93 := hh (p, a) List.mem_cons_self
        have hb : Nat.beq p c = false := by
          cases hq : Nat.beq p c with
          | false => rfl
          | true => have := Nat.eq_of_beq_eq_true hq; omega
        rw [hb]
        exact ih (fun e he => hh e (List.mem_cons_of_mem _ he))
    rw [e zi_cns (by decide +kernel)] at h
    exact Nat.not_lt_zero _ h
theorem zi_k0 : ∀ c, c < 93 → 90 ≤ c → (zi_at zi_cns c).getD 0 = 1 := by decide +kernel
theorem zi_k90 {c k : Nat} (hc : 90 ≤ c) (h : zi_ex c k = true) : c < 93 ∧ k = 0 := by
  have h1 := zi_k93 h
  unfold zi_ex at h
  rw [if_neg (by omega), Nat.blt_eq, zi_k0 c h1 hc] at h
  exact ⟨h1, by omega⟩
section ZR
variable {p : Program} {l : Launch} {e : Env} {R : Room} {s : State} {m : MethodId} {args : Array Value} {below : List Frame} {meth : Method} {c : Code} {H : Heap} {locs : List Loc} {cells slots : Nat} {Q : State → Prop}
variable {cc : ByteArray} {pc : Nat} {ls : Array Slot} {rest : List Value} {D : va_G} {ca : Nat → ClassId} {ad : Nat → Nat → Nat} {A : Nat → Prop} {M : zi_M}
theorem zi_ROk {M' : zi_M} {H1 : Heap} {locs1 : List Loc} (h : zi_RO ad M s H) (hS : va_S A s.heap H locs) (hS1 : va_S A s.heap H1 locs1) (hN : zi_NA ad A s) (he : ∀ c, 90 ≤ c → c < 93 → ∀ k j, M'.1 c k j = M.1 c k j) : zi_RO ad M' s H1 := by
  intro c h1 h2
  obtain ⟨cell, a1, a2, a3, a4, a5, a6⟩ := h c h1 h2
  have hl : zi_len M' c 0 = zi_len M c 0 := by
    unfold zi_len
    rw [he 90 (by omega) (by omega)]
  refine ⟨cell, ?_, a2, a3, by rw [hl]; exact a4, by rw [hl]; exact a5, fun j hj => ?_⟩
  · rw [hS1.2.1 _ (hN c h1 h2).2 (hN c h1 h2).1, ← hS.2.1 _ (hN c h1 h2).2 (hN c h1 h2).1]
    exact a1
  · rw [he c h1 h2]
    exact a6 j (by rw [← hl]; exact hj)
theorem zi_after {M' : zi_M} {i c0 k0 : Nat} {H1 : Heap} {locs1 : List Loc} (hi : zi_all[i]? = some (c0, k0)) (hH : zi_H D ca ad A M s H) (hS : va_S A s.heap H locs) (hN : zi_NA ad A s) (hP1 : va_P D vwCl ((zi_wl ca ad M).set i (ad c0 k0, zi_ent ca ad M' c0 k0)) H1) (hD1 : va_D A ((zi_wl ca ad M).set i (ad c0 k0, zi_ent ca ad M' c0 k0))) (hS1 : va_S A s.heap H1 locs1)
    (o1 : ∀ c' k', ¬ (c' = c0 ∧ k' = k0) → ∀ j, M'.1 c' k' j = M.1 c' k' j) (o2 : ∀ c' k', ¬ (c' = c0 ∧ k' = k0) → ∀ j, M'.2.1 c' k' j = M.2.1 c' k' j) (o3 : ∀ c' k', ¬ (c' = c0 ∧ k' = k0) → ∀ j, M'.2.2 c' k' j = M.2.2 c' k' j) (hv : zi_vm M') : zi_H D ca ad A M' s H1 := by
  have e := zi_set (ca := ca) (ad := ad) (M := M) (M' := M') hi (fun c' k' _ hne => zi_ente (o1 c' k' hne) (o2 c' k' hne) (o3 c' k' hne))
  rw [e] at hP1 hD1
  have h44 := (zi_alt hi).1
  exact ⟨hP1, hD1, zi_ROk hH.2.2.1 hS hS1 hN (fun c h1 h2 k j => o1 c k (by omega) j), hv⟩
theorem zi_entO {c0 k0 : Nat} (h : c0 < 11) : zi_ent ca ad M c0 k0 = .inr (c0, zi_fs ad M c0 k0) := by unfold zi_ent; rw [if_pos h]
theorem zi_entA {c0 k0 : Nat} (h : 11 ≤ c0) : zi_ent ca ad M c0 k0 = .inl (ca c0, zi_ln c0 k0, zi_con ad M c0 k0) := by unfold zi_ent; rw [if_neg (by omega)]
theorem zi_conI {c0 k0 : Nat} (h : zi_aty c0 = 0 ∨ zi_aty c0 = 3) : zi_con ad M c0 k0 = .inl (M.1 c0 k0) := by unfold zi_con; rcases h with h | h <;> rw [h] <;> rfl
theorem zi_conL {c0 k0 : Nat} (h : zi_aty c0 = 1) : zi_con ad M c0 k0 = .inr (.inl (M.2.1 c0 k0)) := by unfold zi_con; rw [h]; rfl
theorem zi_conR {c0 k0 : Nat} (h : zi_aty c0 = 2) : zi_con ad M c0 k0 = .inr (.inr (.inr (.inr (fun j => some (ad (zi_ek c0) (zi_rf c0 k0 j)))))) := by unfold zi_con; rw [h]; rfl
theorem zi_getf (hx : p.tables.exec = Jvm.exec) (hb : c.code = cc) {w idx : Nat} (hown : s.vm.findClass (zi_cn w) = some m.cls) (hg : ∀ w ∈ zi_gw, w.before args s = true) (hK : zi_K D ca s) (hP : va_P D vwCl (zi_wl ca ad M) H) {q : Nat × Nat × Nat × Bool × Nat} (hq : zi_fl w idx = some q) {k : Nat} (hex : zi_ex q.1 k = true) (hdg : decode cc pc = .ok (.getfield idx, 3))
    (kk : W p l e R s m args below meth c H locs cells slots Q (F0 m (pc + 3) ls (zi_cv ad (zi_rd M q.1 k q.2.1 q.2.2.1) :: rest))) : W p l e R s m args below meth c H locs cells slots Q (F0 m pc ls (.ref (ad q.1 k) :: rest)) := by
  obtain ⟨C, T, N, hc, hk, hN, hft, hT1, hl, hln, -, -, -, -, -, h11⟩ := zi_flok hq
  dsimp only at hc hk hN hft hT1 hl hln h11
  obtain ⟨i, hi⟩ := zi_in (by omega) hex
  have he := zi_wg (ca := ca) (ad := ad) (M := M) hi
  rw [zi_entO h11] at he
  obtain ⟨hin, -, -⟩ := zi_clok hc
  cases hn : q.2.2.2.1 with
  | false => exact va_get hx hb hg hin hown hK.1 hP i he hc q.2.1 hk (hg _ (hl hn)) (fun x h => by rw [hT1] at h; exact h) (zi_fsg hft) hdg kk
  | true => exact va_getN hx hb hg hin hown hK.1 hP i he hc q.2.1 hk (va_Nw.use rfl (hK.2 _ (hln hn) rfl)) (fun x h => by rw [hT1] at h; exact h) (zi_fsg hft) hdg kk
theorem zi_putV (hx : p.tables.exec = Jvm.exec) (hb : c.code = cc) {w idx : Nat} (hown : s.vm.findClass (zi_cn w) = some m.cls) (hg : ∀ w ∈ zi_gw, w.before args s = true) (hK : zi_K D ca s) (hN0 : zi_NA ad A s) (hH : zi_H D ca ad A M s H) (hS : va_S A s.heap H locs) {q : Nat × Nat × Nat × Bool × Nat} (hq : zi_fl w idx = some q) {k : Nat} (hex : zi_ex q.1 k = true) {M' : zi_M} {v : Value} {ty : FieldType}
    (hty : ∀ (C : String) (T : u_T) (N : Nat), vwCl[q.1]? = some (C, T, N) → zi_okF w (idx, q) → parseFieldDescriptor (T q.2.1).2.2.1 = some ty ∧ (T q.2.1).2.2.2 = false) (hn : narrow ty v = v) (hfit : fits ty v = true) (hfs : zi_fs ad M' q.1 k = (zi_fs ad M q.1 k).set q.2.1 v)
    (o1 : ∀ c' k', ¬ (c' = q.1 ∧ k' = k) → ∀ j, M'.1 c' k' j = M.1 c' k' j) (o2 : ∀ c' k', ¬ (c' = q.1 ∧ k' = k) → ∀ j, M'.2.1 c' k' j = M.2.1 c' k' j) (o3 : ∀ c' k', ¬ (c' = q.1 ∧ k' = k) → ∀ j, M'.2.2 c' k' j = M.2.2 c' k' j) (hv : zi_vm M') (hdg : decode cc pc = .ok (.putfield idx, 3))
    (kk : ∀ (H1 : Heap) (locs1 : List Loc), zi_H D ca ad A M' s H1 → va_S A s.heap H1 locs1 → W p l e R s m args below meth c H1 locs1 cells slots Q (F0 m (pc + 3) ls rest)) : W p l e R s m args below meth c H locs cells slots Q (F0 m pc ls (v :: .ref (ad q.1 k) :: rest)) := by
  have hok := zi_flok hq
  obtain ⟨C, T, N, hc, hk, hN, hft, hT1, hl, hln, -, -, -, -, -, h11⟩ := id hok
  dsimp only at hc hk hN hft hT1 hl hln h11
  obtain ⟨hpd, hfin⟩ := hty C T N hc hok
  obtain ⟨i, hi⟩ := zi_in (by omega) hex
  have he := zi_wg (ca := ca) (ad := ad) (M := M) hi
  rw [zi_entO h11] at he
  obtain ⟨hin, ⟨ty0, hty0⟩, hnm⟩ := zi_clok hc
  have hE : (.inr (q.1, (zi_fs ad M q.1 k).set q.2.1 v) : va_E) = zi_ent ca ad M' q.1 k := by rw [zi_entO h11, hfs]
  have hl2 : q.2.1 < (zi_fs ad M q.1 k).length := by rw [zi_fsl, ← hN]; exact hk
  have go : ∀ (H1 : Heap) (locs1 : List Loc), va_P D vwCl ((zi_wl ca ad M).set i (ad q.1 k, .inr (q.1, (zi_fs ad M q.1 k).set q.2.1 v))) H1 → va_D A ((zi_wl ca ad M).set i (ad q.1 k, .inr (q.1, (zi_fs ad M q.1 k).set q.2.1 v))) → va_S A s.heap H1 locs1 → W p l e R s m args below meth c H1 locs1 cells slots Q (F0 m (pc + 3) ls rest) := by
    intro H1 locs1 g1 g2 g3
    rw [hE] at g1 g2
    exact kk H1 locs1 (zi_after hi hH hS hN0 g1 g2 g3 o1 o2 o3 hv) g3
  cases hne : q.2.2.2.1 with
  | false => exact va_put hx hb hg hin ty0 hty0 hnm hown hK.1 hH.1 hH.2.1 hS i he hc q.2.1 hk (hg _ (hl hne)) (fun x h => by rw [hT1] at h; exact h) hfin hpd hn hfit hl2 hdg go
  | true => exact va_putN hx hb hg hin ty0 hty0 hnm hown hK.1 hH.1 hH.2.1 hS i he hc q.2.1 hk (va_Nw.use rfl (hK.2 _ (hln hne) rfl)) (fun x h => by rw [hT1] at h; exact h) hfin hpd hn hfit hl2 hdg go
/-- an index in range -/
theorem zi_vp {x : Int32} {n : Nat} (h1 : ¬ x < 0) (h2 : ¬ n ≤ x.toNatClampNeg) : vp_in x n := fun h => h.elim h1 h2
theorem zi_iald (hx : p.tables.exec = Jvm.exec) (hb : c.code = cc) (hK : zi_K D ca s) (hH : zi_H D ca ad A M s H) {c0 k : Nat} (hex : zi_ex c0 k = true) (ht : zi_aty c0 = 0) {x : Int32} (h1 : ¬ x < 0) (h2 : ¬ zi_len M c0 k ≤ x.toNatClampNeg) (hdg : decode cc pc = .ok (.iaload, 1))
    (kk : W p l e R s m args below meth c H locs cells slots Q (F0 m (pc + 1) ls (.int (M.1 c0 k x.toNatClampNeg) :: rest))) : W p l e R s m args below meth c H locs cells slots Q (F0 m pc ls (.int x :: .ref (ad c0 k) :: rest)) := by
  rcases zi_ro_ty c0 (zi_k93 hex) ht with h44 | h90
  · obtain ⟨i, hi⟩ := zi_in (by omega) hex
    have he := zi_wg (ca := ca) (ad := ad) (M := M) hi
    obtain ⟨h11, hty⟩ := zi_ty0 c0 h44 ht
    rw [zi_entA h11, zi_conI (Or.inl ht)] at he
    rw [zi_lenn (by omega)] at h2
    exact va_iald hx hb hK.1 hH.1 i (c0 - 11) he (zi_tg hty) (zi_vp h1 h2) hdg kk
  · obtain ⟨h93, rfl⟩ := zi_k90 h90 hex
    obtain ⟨cell, a1, a2, a3, a4, a5, a6⟩ := hH.2.2.1 c0 h90 h93
    exact W.iald (v := .int (M.1 c0 0 x.toNatClampNeg)) hx hb a1 a2 a3 (fun h => h.elim h1 (fun h => by omega)) (a6 _ (by omega)) rfl rfl hdg kk
theorem zi_zald (hx : p.tables.exec = Jvm.exec) (hb : c.code = cc) (hK : zi_K D ca s) (hH : zi_H D ca ad A M s H) {c0 k : Nat} (hex : zi_ex c0 k = true) (h90 : c0 < 90) (ht : zi_aty c0 = 3) {x : Int32} (h1 : ¬ x < 0) (h2 : ¬ zi_len M c0 k ≤ x.toNatClampNeg) (hdg : decode cc pc = .ok (.baload, 1))
    (kk : W p l e R s m args below meth c H locs cells slots Q (F0 m (pc + 1) ls (.int (M.1 c0 k x.toNatClampNeg) :: rest))) : W p l e R s m args below meth c H locs cells slots Q (F0 m pc ls (.int x :: .ref (ad c0 k) :: rest)) := by
  obtain ⟨i, hi⟩ := zi_in h90 hex
  have he := zi_wg (ca := ca) (ad := ad) (M := M) hi
  obtain ⟨h11, hty⟩ := zi_ty3 c0 (zi_alt hi).1 ht
  rw [zi_entA h11, zi_conI (Or.inr ht)] at he
  rw [zi_lenn h90] at h2
  exact va_zald hx hb hK.1 hH.1 i (c0 - 11) he (zi_tg hty) (zi_vp h1 h2) hdg kk
theorem zi_lald (hx : p.tables.exec = Jvm.exec) (hb : c.code = cc) (hK : zi_K D ca s) (hH : zi_H D ca ad A M s H) {c0 k : Nat} (hex : zi_ex c0 k = true) (h90 : c0 < 90) (ht : zi_aty c0 = 1) {x : Int32} (h1 : ¬ x < 0) (h2 : ¬ zi_len M c0 k ≤ x.toNatClampNeg) (hdg : decode cc pc = .ok (.laload, 1))
    (kk : W p l e R s m args below meth c H locs cells slots Q (F0 m (pc + 1) ls (.long (M.2.1 c0 k x.toNatClampNeg) :: rest))) : W p l e R s m args below meth c H locs cells slots Q (F0 m pc ls (.int x :: .ref (ad c0 k) :: rest)) := by
  obtain ⟨i, hi⟩ := zi_in h90 hex
  have he := zi_wg (ca := ca) (ad := ad) (M := M) hi
  obtain ⟨h11, hty⟩ := zi_ty1 c0 (zi_alt hi).1 ht
  rw [zi_entA h11, zi_conL ht] at he
  rw [zi_lenn h90] at h2
  exact va_lald hx hb hK.1 hH.1 i (c0 - 11) he (zi_tg hty) (zi_vp h1 h2) hdg kk
theorem zi_aald (hx : p.tables.exec = Jvm.exec) (hb : c.code = cc) (hK : zi_K D ca s) (hH : zi_H D ca ad A M s H) {c0 k : Nat} (hex : zi_ex c0 k = true) (h90 : c0 < 90) (ht : zi_aty c0 = 2) {x : Int32} (h1 : ¬ x < 0) (h2 : ¬ zi_len M c0 k ≤ x.toNatClampNeg) (hdg : decode cc pc = .ok (.aaload, 1))
    (kk : W p l e R s m args below meth c H locs cells slots Q (F0 m (pc + 1) ls (.ref (ad (zi_ek c0) (zi_rf c0 k x.toNatClampNeg)) :: rest))) : W p l e R s m args below meth c H locs cells slots Q (F0 m pc ls (.int x :: .ref (ad c0 k) :: rest)) := by
  obtain ⟨i, hi⟩ := zi_in h90 hex
  have he := zi_wg (ca := ca) (ad := ad) (M := M) hi
  obtain ⟨h11, C, hty⟩ := zi_ty2 c0 (zi_alt hi).1 ht
  rw [zi_entA h11, zi_conR ht] at he
  rw [zi_lenn h90] at h2
  exact va_aldq hx hb hK.1 hH.1 i (c0 - 11) he (zi_tg hty) (zi_vp h1 h2) hdg kk
theorem zi_alen (hx : p.tables.exec = Jvm.exec) (hb : c.code = cc) (hK : zi_K D ca s) (hH : zi_H D ca ad A M s H) {c0 k : Nat} (hex : zi_ex c0 k = true) (h11 : 11 ≤ c0) (hdg : decode cc pc = .ok (.arraylength, 1))
    (kk : W p l e R s m args below meth c H locs cells slots Q (F0 m (pc + 1) ls (.int (Int32.ofNat (zi_len M c0 k)) :: rest))) : W p l e R s m args below meth c H locs cells slots Q (F0 m pc ls (.ref (ad c0 k) :: rest)) := by
  rcases Nat.lt_or_ge c0 90 with h90 | h90
  · obtain ⟨i, hi⟩ := zi_in h90 hex
    have he := zi_wg (ca := ca) (ad := ad) (M := M) hi
    obtain ⟨ty, hty⟩ := zi_tya c0 (zi_alt hi).1 h11
    rw [zi_entA h11] at he
    exact va_alen hx hb hK.1 hH.1 i (c0 - 11) he (zi_tg hty) (by rw [zi_lenn h90]) hdg kk
  · obtain ⟨h93, rfl⟩ := zi_k90 h90 hex
    obtain ⟨cell, a1, a2, a3, a4, a5, a6⟩ := hH.2.2.1 c0 h90 h93
    exact W.alen (n := Int32.ofNat (zi_len M c0 0)) hx hb a1 a2 a5 rfl rfl hdg kk
theorem zi_iast (hx : p.tables.exec = Jvm.exec) (hb : c.code = cc) (hK : zi_K D ca s) (hN0 : zi_NA ad A s) (hH : zi_H D ca ad A M s H) (hS : va_S A s.heap H locs) {c0 k : Nat} (hex : zi_ex c0 k = true) (h90 : c0 < 90) (ht : zi_aty c0 = 0) {x v : Int32} (h1 : ¬ x < 0) (h2 : ¬ zi_len M c0 k ≤ x.toNatClampNeg) (hdg : decode cc pc = .ok (.iastore, 1))
    (kk : ∀ (H1 : Heap) (locs1 : List Loc), zi_H D ca ad A (zi_sI M c0 k x.toNatClampNeg v) s H1 → va_S A s.heap H1 locs1 → W p l e R s m args below meth c H1 locs1 cells slots Q (F0 m (pc + 1) ls rest)) : W p l e R s m args below meth c H locs cells slots Q (F0 m pc ls (.int v :: .int x :: .ref (ad c0 k) :: rest)) := by
  obtain ⟨i, hi⟩ := zi_in h90 hex
  have he := zi_wg (ca := ca) (ad := ad) (M := M) hi
  obtain ⟨h11, hty⟩ := zi_ty0 c0 (zi_alt hi).1 ht
  rw [zi_entA h11, zi_conI (Or.inl ht)] at he
  rw [zi_lenn h90] at h2
  refine va_iast hx hb hK.1 hH.1 hH.2.1 hS i (c0 - 11) he (zi_tg hty) (zi_vp h1 h2) hdg (fun H1 locs1 g1 g2 g3 => ?_)
  have hE : (.inl (ca c0, zi_ln c0 k, .inl (upd (M.1 c0 k) x.toNatClampNeg v)) : va_E) = zi_ent ca ad (zi_sI M c0 k x.toNatClampNeg v) c0 k := by
    rw [zi_entA h11, zi_conI (Or.inl ht)]
    congr 4
    funext j
    by_cases hj : j = x.toNatClampNeg
    · subst hj; simp [upd, zi_sIs]
    · simp [upd, hj, zi_sIn hj]
  rw [hE] at g1 g2
  exact kk H1 locs1 (zi_after hi hH hS hN0 g1 g2 g3 (fun _ _ h => zi_sIo h) (fun _ _ _ _ => rfl) (fun _ _ _ _ => rfl) hH.2.2.2) g3
theorem zi_zast (hx : p.tables.exec = Jvm.exec) (hb : c.code = cc) (hK : zi_K D ca s) (hN0 : zi_NA ad A s) (hH : zi_H D ca ad A M s H) (hS : va_S A s.heap H locs) {c0 k : Nat} (hex : zi_ex c0 k = true) (h90 : c0 < 90) (ht : zi_aty c0 = 3) {x v : Int32} (hv : v = 0 ∨ v = 1) (h1 : ¬ x < 0) (h2 : ¬ zi_len M c0 k ≤ x.toNatClampNeg) (hdg : decode cc pc = .ok (.bastore, 1))
    (kk : ∀ (H1 : Heap) (locs1 : List Loc), zi_H D ca ad A (zi_sI M c0 k x.toNatClampNeg v) s H1 → va_S A s.heap H1 locs1 → W p l e R s m args below meth c H1 locs1 cells slots Q (F0 m (pc + 1) ls rest)) : W p l e R s m args below meth c H locs cells slots Q (F0 m pc ls (.int v :: .int x :: .ref (ad c0 k) :: rest)) := by
  obtain ⟨i, hi⟩ := zi_in h90 hex
  have he := zi_wg (ca := ca) (ad := ad) (M := M) hi
  obtain ⟨h11, hty⟩ := zi_ty3 c0 (zi_alt hi).1 ht
  rw [zi_entA h11, zi_conI (Or.inr ht)] at he
  rw [zi_lenn h90] at h2
  refine va_zast hx hb hK.1 hH.1 hH.2.1 hS i (c0 - 11) he (zi_tg hty) (zi_vp h1 h2) hdg (fun H1 locs1 g1 g2 g3 => ?_)
  have hvv : vp_nar .boolean v = v := by rcases hv with rfl | rfl <;> decide
  have hE : (.inl (ca c0, zi_ln c0 k, .inl (upd (M.1 c0 k) x.toNatClampNeg (vp_nar .boolean v))) : va_E) = zi_ent ca ad (zi_sI M c0 k x.toNatClampNeg v) c0 k := by
    rw [zi_entA h11, zi_conI (Or.inr ht), hvv]
    congr 4
    funext j
    by_cases hj : j = x.toNatClampNeg
    · subst hj; simp [upd, zi_sIs]
    · simp [upd, hj, zi_sIn hj]
  rw [hE] at g1 g2
  exact kk H1 locs1 (zi_after hi hH hS hN0 g1 g2 g3 (fun _ _ h => zi_sIo h) (fun _ _ _ _ => rfl) (fun _ _ _ _ => rfl) hH.2.2.2) g3
theorem zi_last (hx : p.tables.exec = Jvm.exec) (hb : c.code = cc) (hK : zi_K D ca s) (hN0 : zi_NA ad A s) (hH : zi_H D ca ad A M s H) (hS : va_S A s.heap H locs) {c0 k : Nat} (hex : zi_ex c0 k = true) (h90 : c0 < 90) (ht : zi_aty c0 = 1) {x : Int32} {v : Int64} (h1 : ¬ x < 0) (h2 : ¬ zi_len M c0 k ≤ x.toNatClampNeg) (hdg : decode cc pc = .ok (.lastore, 1))
    (kk : ∀ (H1 : Heap) (locs1 : List Loc), zi_H D ca ad A (zi_sL M c0 k x.toNatClampNeg v) s H1 → va_S A s.heap H1 locs1 → W p l e R s m args below meth c H1 locs1 cells slots Q (F0 m (pc + 1) ls rest)) : W p l e R s m args below meth c H locs cells slots Q (F0 m pc ls (.long v :: .int x :: .ref (ad c0 k) :: rest)) := by
  obtain ⟨i, hi⟩ := zi_in h90 hex
  have he := zi_wg (ca := ca) (ad := ad) (M := M) hi
  obtain ⟨h11, hty⟩ := zi_ty1 c0 (zi_alt hi).1 ht
  rw [zi_entA h11, zi_conL ht] at he
  rw [zi_lenn h90] at h2
  refine va_last hx hb hK.1 hH.1 hH.2.1 hS i (c0 - 11) he (zi_tg hty) (zi_vp h1 h2) hdg (fun H1 locs1 g1 g2 g3 => ?_)
  have hE : (.inl (ca c0, zi_ln c0 k, .inr (.inl (vp_updL (M.2.1 c0 k) x.toNatClampNeg v))) : va_E) = zi_ent ca ad (zi_sL M c0 k x.toNatClampNeg v) c0 k := by
    rw [zi_entA h11, zi_conL ht]
    congr 5
    funext j
    by_cases hj : j = x.toNatClampNeg
    · subst hj; simp [vp_updL, zi_sLs]
    · simp [vp_updL, hj, zi_sLn hj]
  rw [hE] at g1 g2
  exact kk H1 locs1 (zi_after hi hH hS hN0 g1 g2 g3 (fun _ _ _ _ => rfl) (fun _ _ h => zi_sLo h) (fun _ _ _ _ => rfl) hH.2.2.2) g3
theorem zi_acop (hx : p.tables.exec = Jvm.exec) (hb : c.code = cc) (hml : c.maxLocals = ls.size) {w idx : Nat} (hw : zi_acw w idx = true) (hown : s.vm.findClass (zi_cn w) = some m.cls) (hg : ∀ w ∈ zi_gw, w.before args s = true) (hK : zi_K D ca s) (hN0 : zi_NA ad A s) (hH : zi_H D ca ad A M s H) (hS : va_S A s.heap H locs) {k0 k1 : Nat} (hex0 : zi_ex 12 k0 = true) (hex1 : zi_ex 12 k1 = true)
    {sp dp n : Int32} (h1 : ¬ sp < 0) (h2 : ¬ dp < 0) (h3 : ¬ n < 0) (h4 : sp.toNatClampNeg + n.toNatClampNeg ≤ zi_len M 12 k0) (h5 : dp.toNatClampNeg + n.toNatClampNeg ≤ zi_len M 12 k1)
    (hfr : 1 ≤ R.frames) (hlo : (rest.map fun v => v.category).sum + (nativeFrameWords "java/lang/System" "arraycopy" 5 + 11) ≤ R.locals) (hdg : decode cc pc = .ok (.invokestatic idx, 3))
    (kk : ∀ (H1 : Heap) (locs1 : List Loc), zi_H D ca ad A (zi_cp M 12 k0 12 k1 sp.toNatClampNeg dp.toNatClampNeg n.toNatClampNeg) s H1 → va_S A s.heap H1 locs1 → W p l e R s m args below meth c H1 locs1 cells slots Q (F0 m (pc + 3) ls rest)) : W p l e R s m args below meth c H locs cells slots Q (F0 m pc ls (.int n :: .int dp :: .ref (ad 12 k1) :: .int sp :: .ref (ad 12 k0) :: rest)) := by
  obtain ⟨i0, hi0⟩ := zi_in (by omega) hex0
  obtain ⟨i1, hi1⟩ := zi_in (by omega) hex1
  have he0 := zi_wg (ca := ca) (ad := ad) (M := M) hi0
  have he1 := zi_wg (ca := ca) (ad := ad) (M := M) hi1
  rw [zi_entA (by omega), zi_conI (Or.inl (by decide))] at he0 he1
  rw [zi_lenn (by omega)] at h4 h5
  have hwi : w = 5 ∧ idx = 34 := by
    unfold zi_acw at hw
    rw [Bool.and_eq_true, Nat.beq_eq, Nat.beq_eq] at hw
    exact hw
  obtain ⟨rfl, rfl⟩ := hwi
  have gg : ∀ {w : Cond}, w ∈ lw_tbl → goodWord w = true → w.before args s = true := fun h g => hg _ (List.mem_filter.mpr ⟨h, g⟩)
  refine va_copyi hx hb hml hown (gg (List.mem_of_getElem? zi_acl) rfl) (gg zi_acn rfl) (gg zi_acs rfl) (gg zi_aci rfl) hK.1 hH.1 hH.2.1 hS i0 i1 (12 - 11) (12 - 11) he0 he1 (zi_tg (by decide +kernel)) (zi_tg (by decide +kernel)) (ty := .int) rfl h1 h2 h3 h4 h5 (fun _ _ => rfl) hfr hlo hdg (fun H1 locs1 g1 g2 g3 => ?_)
  have hE : (.inl (ca 12, zi_ln 12 k1, .inl (va_cpy (M.1 12 k0) (M.1 12 k1) sp.toNatClampNeg dp.toNatClampNeg n.toNatClampNeg)) : va_E) = zi_ent ca ad (zi_cp M 12 k0 12 k1 sp.toNatClampNeg dp.toNatClampNeg n.toNatClampNeg) 12 k1 := by
    rw [zi_entA (by omega), zi_conI (Or.inl (by decide))]
    simp [zi_cp]
  rw [hE] at g1 g2
  exact kk H1 locs1 (zi_after hi1 hH hS hN0 g1 g2 g3 (fun _ _ h => zi_cpo h) (fun _ _ _ _ => rfl) (fun _ _ _ _ => rfl) hH.2.2.2) g3
end ZR
