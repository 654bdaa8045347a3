/-! A METHOD'S CONTRACT OUT OF ITS RUN -/
def zi_Cx (p : Program) (R : Room) (s : State) (m : MethodId) (args : Array Value) (c : Code) (D : va_G) (ca : Nat → ClassId) (ad : Nat → Nat → Nat) (A : Nat → Prop) (r : zi_R) (d cells slots : Nat) : Prop :=
  p.tables.exec = Jvm.exec ∧ c.code = zi_by r ∧ c.maxLocals = zi_ml r ∧ s.vm.findClass (zi_cn (zi_w r)) = some m.cls ∧ (∀ w ∈ zi_gw, w.before args s = true) ∧ (∀ q ∈ zi_cd r, zi_dk (zi_by r) q = true) ∧ zi_K D ca s ∧ zi_Z ad A s s.heap ∧ zi_NA ad A s ∧ (d + 1 ≤ R.frames ∧ 60 * (d + 1) ≤ R.locals ∧ cells ≤ R.cells ∧ slots ≤ R.slots)
def zi_Dy (s : State) (D : va_G) (ca : Nat → ClassId) (ad : Nat → Nat → Nat) (A : Nat → Prop) (r : zi_R) (H : Heap) (locs : List Loc) (M : zi_M) (ls : Array Slot) (L : zi_L) (S : zi_S) : Prop :=
  zi_H D ca ad A M s H ∧ va_S A s.heap H locs ∧ zi_Lr ad ls (zi_ml r) L ∧ (∀ (i : Nat) (v : zi_V), L[i]? = some (some v) → zi_vl v) ∧ ∀ v ∈ S, zi_vl v
/-- the instruction with which a method ends -/
def zi_En (r : zi_R) (v : Option zi_V) (pc : Nat) : Prop := match v with
  | none => zi_ak r = 0 ∧ decode (zi_by r) pc = .ok (.return_, 1)
  | some (.inl x) => (zi_ak r = 1 ∨ (zi_ak r = 4 ∧ (x = 0 ∨ x = 1))) ∧ decode (zi_by r) pc = .ok (.ireturn, 1)
  | some (.inr (.inl _)) => zi_ak r = 2 ∧ decode (zi_by r) pc = .ok (.lreturn, 1)
  | some (.inr (.inr _)) => zi_ak r = 3 ∧ decode (zi_by r) pc = .ok (.areturn, 1)
def zi_Sim (l : Launch) (D : va_G) (ca : Nat → ClassId) (ad : Nat → Nat → Nat) (A : Nat → Prop) (n : Nat) : Prop := ∀ (d : Nat) (r : zi_R) (pc : Nat) (L : zi_L) (S : zi_S) (M : zi_M) (v : Option zi_V) (M' : zi_M), zi_go n d r pc L S M = some (v, M') → ∀ (p : Program) (e : Env) (R : Room) (s : State) (m : MethodId) (args : Array Value) (below : List Frame) (meth : Method) (c : Code) (H : Heap) (locs : List Loc) (cells slots : Nat) (ls : Array Slot) (Q : State → Prop),
  zi_Cx p R s m args c D ca ad A r d cells slots → zi_Dy s D ca ad A r H locs M ls L S →
  (∀ (H' : Heap) (locs' : List Loc) (pc' : Nat) (ls' : Array Slot), zi_H D ca ad A M' s H' → va_S A s.heap H' locs' → zi_En r v pc' → (∀ x, v = some x → zi_vl x) → W p l e R s m args below meth c H' locs' cells slots Q (F0 m pc' ls' ((v.map (zi_cv ad)).toList))) →
  W p l e R s m args below meth c H locs cells slots Q (F0 m pc ls (S.map (zi_cv ad)))
abbrev zi_ws (r : zi_R) : List Cond := Cond.code (zi_y r) (zi_by r) (zi_ml r) (zi_rt r) :: zi_gw
def zi_rm (e : Nat) : Room := { frames := e + 1, cells := 0, slots := 0, locals := 60 * (e + 1) }
def zi_Q (D : va_G) (ca : Nat → ClassId) (ad : Nat → Nat → Nat) (A : Nat → Prop) (v : Option zi_V) (M' : zi_M) : Array Value → State → Outcome → State → Prop := fun _ st o t => o = .returned (v.map (zi_cv ad)) ∧ zi_P D ca ad A M' t ∧ (∀ x, v = some x → zi_vl x) ∧ va_F A st t
section ZM
variable {D : va_G} {ca : Nat → ClassId} {ad : Nat → Nat → Nat} {A : Nat → Prop} {M : zi_M} {s t : State} {H : Heap} {locs : List Loc}
theorem zi_RO_mv (hvm : s.vm.Alike t.vm) (h : zi_RO ad M s H) : zi_RO ad M t H := by
  intro c h1 h2
  obtain ⟨cell, a1, a2, a3⟩ := h c h1 h2
  exact ⟨cell, a1, State.isArrayOf_alike hvm a2, a3⟩
theorem zi_H_mv (hvm : s.vm.Alike t.vm) (h : zi_H D ca ad A M s H) : zi_H D ca ad A M t H := ⟨h.1, h.2.1, zi_RO_mv hvm h.2.2.1, h.2.2.2⟩
theorem zi_K_mv (hW : s.WarmedH t.vm) (h : zi_K D ca s) : zi_K D ca t := by
  refine ⟨va_K.moved hW.alike h.1, fun w hw hn => ?_⟩
  have h1 := h.2 w hw hn
  cases w <;> first | (cases hn; done) | exact va_Nw.warmF hW h1 | exact va_Nw.warmM hW h1
theorem zi_Z_mv (hvm : s.vm.Alike t.vm) {H0 : Heap} (h : zi_Z ad A s H0) (hq : ∀ a : Nat, a < H0.size → ¬ A a → H[a]? = H0[a]?) : zi_Z ad A t H := ⟨(va_Z.kept h.1 hq).moved hvm, (va_Z.kept h.2 hq).moved hvm⟩
theorem zi_P_mk (hW : s.WarmedH t.vm) (ht : t.heap = H) (hH : zi_H D ca ad A M s H) (hS : va_S A s.heap H locs) (hK : zi_K D ca s) (hZ : zi_Z ad A s s.heap) (hN : zi_NA ad A s) : zi_P D ca ad A M t := by
  subst ht
  exact ⟨zi_H_mv hW.alike hH, zi_K_mv hW hK, zi_Z_mv hW.alike hZ hS.2.1, fun c h1 h2 => ⟨(hN c h1 h2).1, Nat.lt_of_lt_of_le (hN c h1 h2).2 hS.1⟩⟩
theorem zi_fb {av : List Value} : FrameBlind (va_Pc av (zi_P D ca ad A M)) := by
  intro a U g mk h
  obtain ⟨h0, hH, hK, hZ, hN⟩ := h
  have hvm : U.vm.Alike (U.calling g mk a).vm := Vm.Alike.refl U.vm
  refine ⟨h0, zi_H_mv hvm hH, ⟨va_K.moved hvm hK.1, fun w hw hn => ?_⟩, ⟨hZ.1.moved hvm, hZ.2.moved hvm⟩, hN⟩
  have h1 := hK.2 w hw hn
  cases w <;> first | (cases hn; done) | exact va_Nw.same rfl (rfl : U.vm = (U.calling g mk a).vm) h1
end ZM
set_option maxHeartbeats 1000000 in
theorem zi_met {l : Launch} {D : va_G} {ca : Nat → ClassId} {ad : Nat → Nat → Nat} {A : Nat → Prop} {n : Nat} (hs : zi_Sim l D ca ad A n) {d : Nat} {r : zi_R} {as : List zi_V} {M M' : zi_M} {v : Option zi_V} (hr : zi_okA r) (hgo : zi_go n d r 0 (zi_en (zi_ml r) as) [] M = some (v, M')) (hfit : (zi_e0 as).length ≤ zi_ml r) (hvl : ∀ x ∈ as, zi_vl x) : Met l (zi_y r) (zi_ws r) (zi_rm d) (va_Pc (as.map (zi_cv ad)) (zi_P D ca ad A M)) (zi_Q D ca ad A v M') 0 0 A := by
  obtain ⟨⟨hpl, hcode, hini, hmh, hpd, hst, hin, hret, hcn, hml30⟩, hdk⟩ := hr
  refine Met.ofW (cc := zi_by r) (maxL := zi_ml r) (ret := zi_rt r) hpl rfl ?_
  intro p e s m args below meth c s₁ B hml hv
  obtain ⟨rfl, hP⟩ := hv
  obtain ⟨hH, hK, hZ, hN⟩ := hP
  have hx := B.exec
  have hb := B.bytes
  have hrt := B.returns
  have hts := atoms_spec (ws := zi_ws r) B.pre
  have hown : s.vm.findClass (zi_cn (zi_w r)) = some m.cls := by rw [hcn]; exact findClass_of_methodNamed B.named
  have hlocks := B.notSynchronized
  rw [lg_entry_eq]
  have hC : zi_Cx p (headSpec (zi_ws r) (zi_rm d)).room s m (as.map (zi_cv ad)).toArray c D ca ad A r d 0 0 := ⟨hx, hb, hml, hown, fun w hw => hts w (List.mem_cons_of_mem _ hw), hdk, hK, hZ, hN, Nat.le_refl _, Nat.le_refl _, Nat.le_refl _, Nat.le_refl _⟩
  refine hs d r 0 _ [] M v M' hgo p e _ s m _ below meth c s.heap [] 0 0 _ _ hC ⟨hH, va_S.rf, zi_ent0 hfit, fun i u hu => hvl u (zi_e0g ad as 0 i u (zi_eng hu)).2, fun _ h => by cases h⟩ ?_
  intro H' locs' pc' ls' hH' hS' hEn hvv
  have hq : ∀ t : State, t.heap = H' → s.WarmedH t.vm → zi_Q D ca ad A v M' (as.map (zi_cv ad)).toArray s (.returned (v.map (zi_cv ad))) t := fun t ht hW => ⟨rfl, zi_P_mk hW ht hH' hS' hK hZ hN, hvv, hS'.F ht⟩
  match v, hEn, hq with
  | none, hEn, hq =>
    have hrn : meth.sig.returnType = none := by
      rw [hrt]
      rcases hret with h | h | h | h | h
      · exact h.2
      · exact absurd (hEn.1.symm.trans h.1) (by decide)
      · exact absurd (hEn.1.symm.trans h.1) (by decide)
      · exact absurd (hEn.1.symm.trans h.1) (by decide)
      · exact absurd (hEn.1.symm.trans h.1) (by decide)
    exact W.vret hx hb hrn hq hS'.2.2 hEn.2 hlocks
  | some (.inl x), hEn, hq =>
    rcases hEn.1 with h1 | ⟨h4, hx01⟩
    · have hrn : meth.sig.returnType = some .int := by
        rw [hrt]
        rcases hret with h | h | h | h | h
        · exact absurd (h1.symm.trans h.1) (by decide)
        · exact h.2
        · exact absurd (h1.symm.trans h.1) (by decide)
        · exact absurd (h1.symm.trans h.1) (by decide)
        · exact absurd (h1.symm.trans h.1) (by decide)
      exact W.iret hx hb hrn hq hS'.2.2 hEn.2 hlocks
    · have hrn : meth.sig.returnType = some .boolean := by
        rw [hrt]
        rcases hret with h | h | h | h | h
        · exact absurd (h4.symm.trans h.1) (by decide)
        · exact absurd (h4.symm.trans h.1) (by decide)
        · exact absurd (h4.symm.trans h.1) (by decide)
        · exact absurd (h4.symm.trans h.1) (by decide)
        · exact h.2
      exact W.zret hx hb hrn (by rcases hx01 with rfl | rfl <;> decide) hq hS'.2.2 hEn.2 hlocks
  | some (.inr (.inl x)), hEn, hq =>
    have hrn : meth.sig.returnType = some .long := by
      rw [hrt]
      rcases hret with h | h | h | h | h
      · exact absurd (hEn.1.symm.trans h.1) (by decide)
      · exact absurd (hEn.1.symm.trans h.1) (by decide)
      · exact h.2
      · exact absurd (hEn.1.symm.trans h.1) (by decide)
      · exact absurd (hEn.1.symm.trans h.1) (by decide)
    exact W.lret hx hb hrn hq hS'.2.2 hEn.2 hlocks
  | some (.inr (.inr q)), hEn, hq =>
    have hrn : ∃ C, meth.sig.returnType = some (.object C) := by
      rw [hrt]
      rcases hret with h | h | h | h | h
      · exact absurd (hEn.1.symm.trans h.1) (by decide)
      · exact absurd (hEn.1.symm.trans h.1) (by decide)
      · exact absurd (hEn.1.symm.trans h.1) (by decide)
      · exact h.2
      · exact absurd (hEn.1.symm.trans h.1) (by decide)
    obtain ⟨C, hrn⟩ := hrn
    have hv : zi_cv ad (.inr (.inr q)) = .null ∨ ∃ a, zi_cv ad (.inr (.inr q)) = .ref a := va_rf_or _
    exact W.aret hx hb hrn (Or.inl ⟨C, rfl⟩) hv hq hS'.2.2 hEn.2 hlocks
section ZC
variable {p : Program} {l : Launch} {e : Env} {R : Room} {s : State} {m : MethodId} {args : Array Value} {below : List Frame} {meth : Method} {c : Code} {H : Heap} {locs : List Loc} {cells slots : Nat} {Q : State → Prop}
variable {pc : Nat} {ls : Array Slot} {rest st0 : List Value} {a : Array Value} {D : va_G} {ca : Nat → ClassId} {ad : Nat → Nat → Nat} {A : Nat → Prop} {M : zi_M} {v : Option zi_V}
/-- behind a call -/
theorem zi_callk (hr : va_Run p l e R s m args below meth c H locs cells slots 0 0 (F0 m pc ls st0) rest (zi_Q D ca ad A v M a) A) (hS : va_S A s.heap H locs)
    (kk : ∀ (H1 : Heap) (locs1 : List Loc), zi_H D ca ad A M s H1 → va_S A s.heap H1 locs1 → (∀ x, v = some x → zi_vl x) → W p l e R s m args below meth c H1 locs1 cells slots Q (F0 m (pc + 3) ls ((v.map (zi_cv ad)).toList ++ rest))) : W p l e R s m args below meth c H locs cells slots Q (F0 m pc ls st0) := by
  intro T hT X
  obtain ⟨v', st₀, t, T', L, h0, X', hL, e1, e2, ⟨hv, hP, hvv, hz, hk⟩, st⟩ := hr T hT X
  cases hv
  rw [h0] at hz hk
  have hal : s.vm.Alike t.vm := by rw [← e2]; exact X'.warmed.alike
  have hH1 : zi_H D ca ad A M s T'.heap := by rw [e1]; exact zi_H_mv hal.symm hP.1
  obtain ⟨t2, a1, b1⟩ := kk T'.heap (locs ++ L) hH1
    ⟨Nat.le_trans hS.1 (by rw [e1]; exact hz), fun q h1 h2 => by rw [e1, hk q (Nat.lt_of_lt_of_le h1 hS.1) h2]; exact hS.2.1 q h1 h2, fun q hq => by
      rcases List.mem_append.mp hq with h | h
      · exact hS.2.2 q h
      · exact hL q h⟩ hvv T' rfl X'
  exact ⟨t2, st t2 a1, b1⟩
theorem zi_gwg {w : Cond} (h : w ∈ zi_gw) : (w.onTables && w.keeps) = true ∨ ∃ ty, w = .arrayClass ty := good_of_word (List.mem_filter.mp h).2
theorem zi_good {y : MethodName} {b : ByteArray} {k : Nat} {rt : Option FieldType} (hcode : Cond.code y b k rt ∈ zi_gw) : GoodIn zi_gw (Cond.code y b k rt :: zi_gw) := by
  intro w hw
  rcases List.mem_cons.mp hw with rfl | h
  · exact ⟨hcode, zi_gwg hcode⟩
  · exact ⟨h, zi_gwg h⟩
end ZC
