/-! THE CONSTRUCTORS: contexts, contracts -/
def zd_A (ct : FieldType → ClassId) (M : zd_M) (U : State) : Prop := ∀ i q, i < M.1 → M.2 i = .inr q → ArrOfT U (ct (zd_ft q.1)) (zd_ft q.1) ∧ va_RA U (ct (zd_ft q.1)) (zd_ft q.1)
def zd_H (D : va_G) (ct : FieldType → ClassId) (adr : Nat → Nat) (A : Nat → Prop) (M : zd_M) (U : State) (H : Heap) : Prop := va_P D vwCl (zd_wl ct adr M) H ∧ va_D A (zd_wl ct adr M) ∧ zd_A ct M U ∧ zd_vm M
def zd_K (D : va_G) (ct : FieldType → ClassId) (U : State) : Prop := va_K D vwCl [] U ∧ (∀ w ∈ lw_tbl, zi_isN w = true → va_Nw w U) ∧ (∀ cA ty, va_RA U cA ty → cA = ct ty) ∧ ∀ ty, 4 ≤ ty → ty < 8 → ∀ C, zd_ft ty = .object C → va_AO C U
def zd_P (D : va_G) (ct : FieldType → ClassId) (adr : Nat → Nat) (A : Nat → Prop) (M : zd_M) (U : State) : Prop := zd_H D ct adr A M U U.heap ∧ zd_K D ct U ∧ ∀ q, U.heap.size ≤ q → A q
def zd_Cx (p : Program) (R : Room) (s : State) (m : MethodId) (args : Array Value) (meth : Method) (c : Code) (D : va_G) (ct : FieldType → ClassId) (A : Nat → Prop) (r : zi_R) (d : Nat) : Prop :=
  p.tables.exec = Jvm.exec ∧ c.code = zi_by r ∧ c.maxLocals = zi_ml r ∧ s.vm.findClass (zi_cn (zi_w r)) = some m.cls ∧ (∀ w ∈ zi_gw, w.before args s = true) ∧ (∀ q ∈ zi_cd r, zd_dk (zi_by r) q = true) ∧ zd_K D ct s ∧ (∀ q, s.heap.size ≤ q → A q) ∧ (zi_sc r = false → meth.name = "<init>") ∧ d + 1 ≤ R.frames ∧ 60 * (d + 1) ≤ R.locals
def zd_Dy (s : State) (D : va_G) (ct : FieldType → ClassId) (adr : Nat → Nat) (A : Nat → Prop) (r : zi_R) (H : Heap) (locs : List Loc) (M : zd_M) (ls : Array Slot) (L : zi_L) (S : zi_S) : Prop :=
  zd_H D ct adr A M s H ∧ va_S A s.heap H locs ∧ zi_Lr (fun _ => adr) ls (zi_ml r) L ∧ (∀ (i : Nat) (v : zi_V), L[i]? = some (some v) → zd_vl M.1 v) ∧ ∀ v ∈ S, zd_vl M.1 v
def zd_Sim (l : Launch) (D : va_G) (ct : FieldType → ClassId) (A : Nat → Prop) (n : Nat) : Prop := ∀ (d : Nat) (r : zi_R) (pc : Nat) (L : zi_L) (S : zi_S) (M : zd_M) (b : Option Nat) (L' : zi_L) (M' : zd_M), zd_go n d r pc L S M = some (b, L', M') → ∀ (p : Program) (e : Env) (R : Room) (s : State) (m : MethodId) (args : Array Value) (below : List Frame) (meth : Method) (c : Code) (H : Heap) (locs : List Loc) (ls : Array Slot) (Q : State → Prop) (adr : Nat → Nat) (n0 s0 : Nat),
  n0 ≤ M.1 → s0 ≤ zd_sz M → M'.1 - n0 ≤ R.cells → zd_sz M' - s0 ≤ R.slots → zd_Cx p R s m args meth c D ct A r d → zd_Dy s D ct adr A r H locs M ls L S →
  (∀ (adr' : Nat → Nat) (H' : Heap) (locs' : List Loc) (pc' : Nat) (ls' : Array Slot), (∀ i, i < M.1 → adr' i = adr i) → zd_H D ct adr' A M' s H' → va_S A s.heap H' locs' → (b = none → decode (zi_by r) pc' = .ok (.return_, 1)) → (∀ t, b = some t → pc' = t ∧ zi_Lr (fun _ => adr') ls' (zi_ml r) L') → W p l e R s m args below meth c H' locs' (M'.1 - n0) (zd_sz M' - s0) Q (F0 m pc' ls' [])) →
  W p l e R s m args below meth c H locs (M.1 - n0) (zd_sz M - s0) Q (F0 m pc ls (S.map (zd_cv adr)))
def zd_rm (e mc ms : Nat) : Room := { frames := e + 1, cells := mc, slots := ms, locals := 60 * (e + 1) }
def zd_Q (D : va_G) (ct : FieldType → ClassId) (adr : Nat → Nat) (A : Nat → Prop) (M M' : zd_M) : Array Value → State → Outcome → State → Prop := fun _ st o t => o = .returned none ∧ (∃ adr' : Nat → Nat, (∀ i, i < M.1 → adr' i = adr i) ∧ zd_P D ct adr' A M' t) ∧ va_F A st t
section ZDM
variable {D : va_G} {ct : FieldType → ClassId} {adr : Nat → Nat} {A : Nat → Prop} {M : zd_M} {s t : State} {H : Heap} {locs : List Loc}
theorem zd_A_mv (hvm : s.vm.Alike t.vm) (h : zd_A ct M s) : zd_A ct M t := fun i q h1 h2 => ⟨arrOfT_moved hvm (h i q h1 h2).1, (h i q h1 h2).2.moved hvm⟩
theorem zd_H_mv (hvm : s.vm.Alike t.vm) (h : zd_H D ct adr A M s H) : zd_H D ct adr A M t H := ⟨h.1, h.2.1, zd_A_mv hvm h.2.2.1, h.2.2.2⟩
theorem zd_K_mv (hW : s.WarmedH t.vm) (h : zd_K D ct s) : zd_K D ct t := by
  refine ⟨va_K.moved hW.alike h.1, fun w hw hn => ?_, fun cA ty hr => h.2.2.1 cA ty (hr.moved hW.alike.symm), fun ty h4 h8 C hC => (h.2.2.2 ty h4 h8 C hC).moved hW.alike⟩
  have h1 := h.2.1 w hw hn
  cases w <;> first | (cases hn; done) | exact va_Nw.warmF hW h1 | exact va_Nw.warmM hW h1
theorem zd_P_mk (hW : s.WarmedH t.vm) (ht : t.heap = H) (hH : zd_H D ct adr A M s H) (hS : va_S A s.heap H locs) (hK : zd_K D ct s) (hA : ∀ q, s.heap.size ≤ q → A q) : zd_P D ct adr A M t := by
  subst ht
  exact ⟨zd_H_mv hW.alike hH, zd_K_mv hW hK, fun q hq => hA q (Nat.le_trans hS.1 hq)⟩
theorem zd_fb {av : List Value} : FrameBlind (va_Pc av (zd_P D ct adr A M)) := by
  intro a U g mk h
  obtain ⟨h0, hH, hK, hA⟩ := h
  have hvm : U.vm.Alike (U.calling g mk a).vm := Vm.Alike.refl U.vm
  refine ⟨h0, zd_H_mv hvm hH, ⟨va_K.moved hvm hK.1, fun w hw hn => ?_, fun cA ty hr => hK.2.2.1 cA ty (hr.moved hvm.symm), fun ty h4 h8 C hC => (hK.2.2.2 ty h4 h8 C hC).moved hvm⟩, hA⟩
  have h1 := hK.2.1 w hw hn
  cases w <;> first | (cases hn; done) | exact va_Nw.same rfl (rfl : U.vm = (U.calling g mk a).vm) h1
end ZDM
def zd_okR (r : zi_R) : Prop := plainName (zi_y r).cls = true ∧ Cond.code (zi_y r) (zi_by r) (zi_ml r) none ∈ zi_gw ∧ zi_rt r = none ∧ Cond.initialized (zi_y r).cls ∈ zi_gw ∧ ((zi_y r).cls ≠ "java/lang/invoke/MethodHandle" ∧ (zi_y r).cls ≠ "java/lang/invoke/VarHandle") ∧ (parseMethodDescriptor (zi_y r).desc).map (fun d => d.parameters.length) = some (zi_na r) ∧ Cond.instanceMethod (zi_y r) ∈ zi_gw ∧ (zi_y r).name = "<init>" ∧ zi_cn (zi_w r) = (zi_y r).cls ∧ zi_ml r ≤ 30 ∧ zi_sc r = false ∧ ∀ q ∈ zi_cd r, zd_dk (zi_by r) q = true
theorem zd_met {l : Launch} {D : va_G} {ct : FieldType → ClassId} {A : Nat → Prop} {n : Nat} (hs : zd_Sim l D ct A n) {d : Nat} {r : zi_R} {as : List zi_V} {M M' : zd_M} {L' : zi_L} {adr : Nat → Nat} (hr : zd_okR r) (hgo : zd_go n d r 0 (zi_en (zi_ml r) as) [] M = some (none, L', M')) (hfit : (zi_e0 as).length ≤ zi_ml r) (hvl : ∀ x ∈ as, zd_vl M.1 x) : Met l (zi_y r) (zi_ws r) (zd_rm d (M'.1 - M.1) (zd_sz M' - zd_sz M)) (va_Pc (as.map (zd_cv adr)) (zd_P D ct adr A M)) (zd_Q D ct adr A M M') (M'.1 - M.1) (zd_sz M' - zd_sz M) A := by
  obtain ⟨hpl, hcode, hrt0, hini, hmh, hpd, hin, hnm, hcn, hml30, hsc, hdk⟩ := hr
  refine Met.ofW (cc := zi_by r) (maxL := zi_ml r) (ret := zi_rt r) hpl rfl ?_
  intro p e s m args below meth c s₁ B hml hv
  obtain ⟨rfl, hP⟩ := hv
  obtain ⟨hH, hK, hA⟩ := hP
  have hx := B.exec
  have hb := B.bytes
  have hrt : meth.sig.returnType = none := B.returns.trans hrt0
  have hts := atoms_spec (ws := zi_ws r) B.pre
  have hown : s.vm.findClass (zi_cn (zi_w r)) = some m.cls := by rw [hcn]; exact findClass_of_methodNamed B.named
  have hlocks := B.notSynchronized
  have hnm2 : meth.name = "<init>" := (name_of_methodNamed B.named B.method).1.trans hnm
  rw [lg_entry_eq]
  have hC : zd_Cx p (headSpec (zi_ws r) (zd_rm d (M'.1 - M.1) (zd_sz M' - zd_sz M))).room s m (as.map (zd_cv adr)).toArray meth c D ct A r d := ⟨hx, hb, hml, hown, fun w hw => hts w (List.mem_cons_of_mem _ hw), hdk, hK, hA, fun _ => hnm2, Nat.le_refl _, Nat.le_refl _⟩
  have h9 := hs d r 0 _ [] M none L' M' hgo p e (headSpec (zi_ws r) (zd_rm d (M'.1 - M.1) (zd_sz M' - zd_sz M))).room s m _ below meth c s.heap [] _ (MQ below (zd_Q D ct adr A M M') (as.map (zd_cv adr)).toArray s (M'.1 - M.1) (zd_sz M' - zd_sz M) A) adr M.1 (zd_sz M) (Nat.le_refl _) (Nat.le_refl _) (Nat.le_refl _) (Nat.le_refl _) hC ⟨hH, va_S.rf, zi_ent0 hfit, fun i u hu => hvl u (zi_e0g (fun _ => adr) as 0 i u (zi_eng hu)).2, fun _ h => by cases h⟩ ?_
  · rw [Nat.sub_self, Nat.sub_self] at h9
    exact h9
  · intro adr' H' locs' pc' ls' hag hH' hS' hEn _
    exact W.vret hx hb hrt (fun t ht hW => ⟨rfl, ⟨adr', hag, zd_P_mk hW ht hH' hS' hK hA⟩, hS'.F ht⟩) hS'.2.2 (hEn rfl) hlocks
section ZDC
variable {p : Program} {l : Launch} {e : Env} {R : Room} {s : State} {m : MethodId} {args : Array Value} {below : List Frame} {meth : Method} {c : Code} {H : Heap} {locs : List Loc} {cells slots mc ms : Nat} {Q : State → Prop}
variable {pc : Nat} {ls : Array Slot} {rest st0 : List Value} {a : Array Value} {D : va_G} {ct : FieldType → ClassId} {adr : Nat → Nat} {A : Nat → Prop} {M M' : zd_M}
theorem zd_callk (hr : va_Run p l e R s m args below meth c H locs cells slots mc ms (F0 m pc ls st0) rest (zd_Q D ct adr A M M' a) A) (hS : va_S A s.heap H locs)
    (kk : ∀ (adr' : Nat → Nat) (H1 : Heap) (locs1 : List Loc), (∀ i, i < M.1 → adr' i = adr i) → zd_H D ct adr' A M' s H1 → va_S A s.heap H1 locs1 → W p l e R s m args below meth c H1 locs1 (cells + mc) (slots + ms) Q (F0 m (pc + 3) ls rest)) : W p l e R s m args below meth c H locs cells slots Q (F0 m pc ls st0) := by
  intro T hT X
  obtain ⟨v', st₀, t, T', L, h0, X', hL, e1, e2, ⟨hv, ⟨adr', hag, hP⟩, hz, hk⟩, st⟩ := hr T hT X
  cases hv
  rw [h0] at hz hk
  have hal : s.vm.Alike t.vm := by rw [← e2]; exact X'.warmed.alike
  have hH1 : zd_H D ct adr' A M' s T'.heap := by rw [e1]; exact zd_H_mv hal.symm hP.1
  obtain ⟨t2, a1, b1⟩ := kk adr' T'.heap (locs ++ L) hag hH1
    ⟨Nat.le_trans hS.1 (by rw [e1]; exact hz), fun q h1 h2 => by rw [e1, hk q (Nat.lt_of_lt_of_le h1 hS.1) h2]; exact hS.2.1 q h1 h2, fun q hq => by
      rcases List.mem_append.mp hq with h | h
      · exact hS.2.2 q h
      · exact hL q h⟩ T' rfl X'
  exact ⟨t2, st t2 a1, b1⟩
end ZDC
