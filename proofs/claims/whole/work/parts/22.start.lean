/-! THE LAW FROM ITS ENTRY, out of ONE pure statement: what the interpreter answers at the law's loop -/
-- (the next rows are the skeleton's)
def R_law : String := "WaxWingsLaw"
def lw_P (b : Addr) (xs : List Int32) (args : Array Value) (s : State) : Prop := args = #[.ref b] ∧ s.IntsAt b xs ∧ xs.length ≤ 384 ∧ (Jvm.Cond.and given_1 narrow_1).before args s = true
def lw_Q (_ : Array Value) (s : State) (o : Outcome) (t : State) : Prop := o = .returned (some (.int 1)) ∧ Framed s o t [] 600000 7302250
def lw_Z (below : List Frame) (a : Array Value) (s : State) : State → Prop := fun t => ∃ o, t.status = .running ∧ Ended t below o ∧ lw_Q a s o t
/-- the law's own end, with 1 on the stack, nothing written that was there before, its room as the claim has it -/
theorem lw_ret {p : Program} {l : Launch} {e : Env} {s : State} {m : MethodId} {below : List Frame} {meth : Method} {c : Code} {b : Nat} (hx : p.tables.exec = Jvm.exec) (hb : c.code = code) (hr : meth.sig.returnType = ret) (hlocks : meth.locks = false) {pc : Nat} {H : Heap} {ls : Array Slot} (hdg : decode code pc = .ok (.ireturn, 1)) : W p l e room_1 s m #[Value.ref b] below meth c H [] 600000 7302250 (lw_Z below #[Value.ref b] s) (F0 m pc ls [.int 1]) := by
  intro T hT X
  obtain ⟨fs, hret, hrun, hended, hW, hframe⟩ := X.leave (v := some (.int 1)) (hlocks := hlocks) (fun h => by rw [hr] at h; cases h)
  have hmeth' : T.vm.method? m = some meth := X.method'
  refine ⟨T.setFrames fs, ?_, .returned (some (.int 1)), hrun, hended, rfl, ⟨_, rfl⟩, hW, hframe⟩
  jvm_step X.here [X.here.top, hx, hb, hdg, hmeth', hr, ret, narrow_b1]
  (try refine ⟨rfl, ?_⟩); (try refine ⟨rfl, ?_⟩)
  first | (intro acts; rw [hret _ acts rfl rfl rfl]) | rw [hret _ _ rfl rfl rfl]
  exact Steps.refl _
/-- what holds at the law's entry: the machine, the code, the tables' words (any of lw_tbl by 'hts w (by decide +kernel)'), the script of L ints xs at the cell b, what the Statement gives of the start (any of its parts by flat_of_before) -/
def lw_At (p : Program) (s : State) (m : MethodId) (meth : Method) (c : Code) (b L : Nat) (xs : Nat → Int32) : Prop :=
  p.tables.exec = Jvm.exec ∧ c.code = code ∧ meth.sig.returnType = ret ∧ c.maxLocals = 4 ∧ s.vm.findClass R_law = some m.cls ∧ (∀ w ∈ lw_tbl, w.before #[Value.ref b] s = true) ∧ va_X b L xs s s.heap ∧ b < s.heap.size ∧ meth.locks = false ∧ (Jvm.Cond.and given_1 narrow_1).before #[Value.ref b] s = true
/-- THE PURE STATEMENT: on every script of at most 384 ints the interpreter comes to the law's end with 1 -/
def zp_Law : Prop := ∀ (n : Nat) (xs : Nat → Int32), n ≤ 384 → ∃ M' : zi_M, zi_run 100 zm_L_law 16 [some (.inr (.inr (90, some 0))), some (.inr (.inr (9, some 0))), some (.inr (.inr (10, some 0))), none] [] (zi_M0 n xs) = some (some (.inl 1), M')
theorem zs_gw {b : Nat} {s : State} (hts : ∀ w ∈ lw_tbl, w.before #[Value.ref b] s = true) : ∀ w ∈ zi_gw, w.before #[Value.ref b] s = true := fun w h => hts w (List.mem_filter.mp h).1
theorem zs_lay {ws : List Cond} (h : ∀ w ∈ ws, w ∈ zi_gw) : ∀ w ∈ ws, w ∈ lw_tbl := fun w hw => (List.mem_filter.mp (h w hw)).1
/-- the classes' numbers and slots -/
theorem zs_D {b : Nat} {s : State} (hts : ∀ w ∈ lw_tbl, w.before #[Value.ref b] s = true) : ∃ D : va_G, va_K D vwCl [] s := by
  obtain ⟨c0, iS0, hKn0⟩ := u_known (C := RX0) (T := TX0) (N := 3) (n := 3) hts (zs_lay zi_ly0) (hts (.instantiable RX0 3) (List.mem_of_getElem? (i := 90) (by decide +kernel)))
  obtain ⟨c1, iS1, hKn1⟩ := u_known (C := RX1) (T := TX1) (N := 4) (n := 4) hts (zs_lay zi_ly1) (hts (.instantiable RX1 4) (List.mem_of_getElem? (i := 121) (by decide +kernel)))
  obtain ⟨c2, iS2, hKn2⟩ := u_known (C := RX2) (T := TX2) (N := 5) (n := 5) hts (zs_lay zi_ly2) (hts (.instantiable RX2 5) (List.mem_of_getElem? (i := 226) (by decide +kernel)))
  obtain ⟨c3, iS3, hKn3⟩ := u_known (C := RX3) (T := TX3) (N := 4) (n := 4) hts (zs_lay zi_ly3) (hts (.instantiable RX3 4) (List.mem_of_getElem? (i := 276) (by decide +kernel)))
  obtain ⟨c4, iS4, hKn4⟩ := u_known (C := RX4) (T := TX4) (N := 4) (n := 4) hts (zs_lay zi_ly4) (hts (.instantiable RX4 4) (List.mem_of_getElem? (i := 297) (by decide +kernel)))
  obtain ⟨c5, iS5, hKn5⟩ := u_known (C := RX5) (T := TX5) (N := 2) (n := 2) hts (zs_lay zi_ly5) (hts (.instantiable RX5 2) (List.mem_of_getElem? (i := 321) (by decide +kernel)))
  obtain ⟨c6, iS6, hKn6⟩ := u_known (C := RX6) (T := TX6) (N := 7) (n := 7) hts (zs_lay zi_ly6) (hts (.instantiable RX6 7) (List.mem_of_getElem? (i := 112) (by decide +kernel)))
  obtain ⟨c7, iS7, hKn7⟩ := u_known (C := RX7) (T := TX7) (N := 6) (n := 6) hts (zs_lay zi_ly7) (hts (.instantiable RX7 6) (List.mem_of_getElem? (i := 127) (by decide +kernel)))
  obtain ⟨c8, iS8, hKn8⟩ := u_known (C := RX8) (T := TX8) (N := 5) (n := 5) hts (zs_lay zi_ly8) (hts (.instantiable RX8 5) (List.mem_of_getElem? (i := 252) (by decide +kernel)))
  obtain ⟨c9, iS9, hKn9⟩ := u_known (C := RX9) (T := TX9) (N := 16) (n := 16) hts (zs_lay zi_ly9) (hts (.instantiable RX9 16) (List.mem_of_getElem? (i := 80) (by decide +kernel)))
  obtain ⟨c10, iS10, hKn10⟩ := u_known (C := RX10) (T := TX10) (N := 39) (n := 39) hts (zs_lay zi_ly10) (hts (.instantiable RX10 39) (List.mem_of_getElem? (i := 963) (by decide +kernel)))
  let dC : Nat → ClassId := fun k => match k with
    | 0 => c0
    | 1 => c1
    | 2 => c2
    | 3 => c3
    | 4 => c4
    | 5 => c5
    | 6 => c6
    | 7 => c7
    | 8 => c8
    | 9 => c9
    | _ => c10
  let dI : Nat → Nat → Nat := fun k => match k with
    | 0 => iS0
    | 1 => iS1
    | 2 => iS2
    | 3 => iS3
    | 4 => iS4
    | 5 => iS5
    | 6 => iS6
    | 7 => iS7
    | 8 => iS8
    | 9 => iS9
    | _ => iS10
  refine ⟨(dC, dI), ⟨?_, fun k q h => by simp at h⟩⟩
  intro k q hq
  match k, hq with
  | 0, hq => cases hq; exact hKn0
  | 1, hq => cases hq; exact hKn1
  | 2, hq => cases hq; exact hKn2
  | 3, hq => cases hq; exact hKn3
  | 4, hq => cases hq; exact hKn4
  | 5, hq => cases hq; exact hKn5
  | 6, hq => cases hq; exact hKn6
  | 7, hq => cases hq; exact hKn7
  | 8, hq => cases hq; exact hKn8
  | 9, hq => cases hq; exact hKn9
  | 10, hq => cases hq; exact hKn10
  | k + 11, hq => simp at hq
theorem zs_RA {s : State} {cA : ClassId} {ty : FieldType} (h : va_RA s cA ty) : cA = (s.vm.findClass ("[" ++ ty.toString)).getD 0 := by
  cases ty with
  | object C =>
    obtain ⟨kA, comp, -, -, -, h4⟩ := h
    rw [h4]; rfl
  | _ =>
    have h : s.vm.findClass _ = some cA := h
    rw [h]; rfl
theorem zs_K {b : Nat} {s : State} (hts : ∀ w ∈ lw_tbl, w.before #[Value.ref b] s = true) {D : va_G} (hD : va_K D vwCl [] s) : zd_K D (fun ty => (s.vm.findClass ("[" ++ ty.toString)).getD 0) s := by
  refine ⟨hD, fun w hw hn => ?_, fun cA ty h => zs_RA h, fun ty h4 h8 C hC => ?_⟩
  · have h1 := hts w hw
    cases w <;> first | (cases hn; done) | exact va_Nw.of rfl h1
  · have hao : ∀ ty, 4 ≤ ty → ty < 8 → Cond.arrayOver (zd_ft ty) ∈ lw_tbl := by
      intro ty h4 h8
      rcases (show ty = 4 ∨ ty = 5 ∨ ty = 6 ∨ ty = 7 by omega) with rfl | rfl | rfl | rfl
      · exact List.mem_of_getElem? (i := 118) (by decide +kernel)
      · exact List.mem_of_getElem? (i := 120) (by decide +kernel)
      · exact List.mem_of_getElem? (i := 88) (by decide +kernel)
      · exact List.mem_of_getElem? (i := 224) (by decide +kernel)
    have h2 := hts _ (hao ty h4 h8)
    rw [hC] at h2
    exact va_AO.of h2
theorem zs_sg : ∀ j, j < 6 → (zi_sg[j]?).isSome = true := by decide
theorem zs_T {b : Nat} {s : State} {A : Nat → Prop} (hgv : (Jvm.Cond.and given_1 narrow_1).before #[Value.ref b] s = true) (hA : ∀ a : Nat, a < s.heap.size → ¬ A a) : (∃ t : Nat, (Term.static "WaxWings" "SIGNS" "[I").eval #[Value.ref b] s none [] s = some (.ref t) ∧ va_T .int t 6 (fun j => .int ((zi_sg[j]?).getD 0)) A s s.heap) ∧ ∃ t : Nat, (Term.static "WaxWings" "KIND_LETTERS" "[I").eval #[Value.ref b] s none [] s = some (.ref t) ∧ va_T .int t 6 (fun j => .int ((zi_kl2[j]?).getD 0)) A s s.heap := by
  have hs := flat_of_before _ hgv
  refine ⟨va_Tof (by decide) (hs _ (by decide +kernel)) (va_eqt (z := 6) (hs _ (by decide +kernel))) (fun j hj => ?_) hA, va_Tof (by decide) (hs _ (by decide +kernel)) (va_eqt (z := 6) (hs _ (by decide +kernel))) (fun j hj => ?_) hA⟩
  · rcases (show j = 0 ∨ j = 1 ∨ j = 2 ∨ j = 3 ∨ j = 4 ∨ j = 5 by omega) with rfl | rfl | rfl | rfl | rfl | rfl
    · exact va_eqt (z := 46) (hs _ (by decide +kernel))
    · exact va_eqt (z := 99) (hs _ (by decide +kernel))
    · exact va_eqt (z := 115) (hs _ (by decide +kernel))
    · exact va_eqt (z := 103) (hs _ (by decide +kernel))
    · exact va_eqt (z := 62) (hs _ (by decide +kernel))
    · exact va_eqt (z := 35) (hs _ (by decide +kernel))
  · rcases (show j = 0 ∨ j = 1 ∨ j = 2 ∨ j = 3 ∨ j = 4 ∨ j = 5 by omega) with rfl | rfl | rfl | rfl | rfl | rfl
    · exact va_eqt (z := 102) (hs _ (by decide +kernel))
    · exact va_eqt (z := 111) (hs _ (by decide +kernel))
    · exact va_eqt (z := 98) (hs _ (by decide +kernel))
    · exact va_eqt (z := 108) (hs _ (by decide +kernel))
    · exact va_eqt (z := 110) (hs _ (by decide +kernel))
    · exact va_eqt (z := 97) (hs _ (by decide +kernel))
/-- the constructors' runs, one by one -/
theorem zs_runs : ∃ L1 M1 L2 M2, zd_go 5000 10 zm_X9_init 0 (zi_en (zi_ml zm_X9_init) [.inr (.inr (0, some 0))]) [] (zd_ad zd_M0 (.inl (9, zd_bl 9))) = some (none, L1, M1) ∧ zd_go 1000 10 zm_X10_init 0 (zi_en (zi_ml zm_X10_init) [.inr (.inr (0, some M1.1))]) [] (zd_ad M1 (.inl (10, zd_bl 10))) = some (none, L2, M2) ∧ M1.1 = 312 ∧ zd_run2 = some M2 := by
  have h := zd_ev
  cases h2 : zd_run2 with
  | none => rw [h2] at h; cases h
  | some M =>
    unfold zd_run2 at h2
    split at h2
    · next L1 M1 e1 =>
      split at h2
      · next L2 M2 e2 =>
        split at h2
        · next e3 =>
          cases h2
          exact ⟨L1, M1, L2, M, e1, e2, Nat.eq_of_beq_eq_true e3, rfl⟩
        · cases h2
      · cases h2
    · cases h2
theorem zs_Q1 {b n : Nat} {xs : Nat → Int32} {t1 t2 : Nat} {adr : Nat → Nat} {A : Nat → Prop} {s : State} {H : Heap} {locs : List Loc} (hX : va_X b n xs s s.heap) (hn : n ≤ 384) (hT1 : va_T .int t1 6 (fun j => .int ((zi_sg[j]?).getD 0)) A s s.heap) (hT2 : va_T .int t2 6 (fun j => .int ((zi_kl2[j]?).getD 0)) A s s.heap) (hb : ¬ A b) (hbl : b < s.heap.size) (hS : va_S A s.heap H locs) : zi_RO (zd_ada adr b t1 t2) (zi_M0 n xs) s H ∧ zi_NA (zd_ada adr b t1 t2) A s := by
  obtain ⟨scr, x1, x2, x3, x4, x5⟩ := hX
  obtain ⟨c1, y1, y2, y3, y4, y5, y6, y7⟩ := hT1
  obtain ⟨c2, z1, z2, z3, z4, z5, z6, z7⟩ := hT2
  have l1 : t1 < s.heap.size := (Array.getElem?_eq_some_iff.mp y1).1
  have l2 : t2 < s.heap.size := (Array.getElem?_eq_some_iff.mp z1).1
  have hlen : zi_len (zi_M0 n xs) 90 0 = n := by
    show (Int32.ofNat n).toNatClampNeg = n
    exact nI_clamp (by omega)
  constructor
  · intro c h1 h2
    rcases (show c = 90 ∨ c = 91 ∨ c = 92 by omega) with rfl | rfl | rfl
    · refine ⟨scr, ?_, x2, x3, ?_, ?_, ?_⟩
      · show H[b]? = _
        rw [hS.2.1 b hbl hb]; exact x1
      · rw [hlen, x4]; exact Nat.le_refl _
      · rw [hlen, x4]
      · intro j hj
        rw [hlen] at hj
        exact x5 j hj
    · refine ⟨c1, ?_, y2, y3, y4, y5, y6⟩
      show H[t1]? = _
      rw [hS.2.1 t1 l1 y7]; exact y1
    · refine ⟨c2, ?_, z2, z3, z4, z5, z6⟩
      show H[t2]? = _
      rw [hS.2.1 t2 l2 z7]; exact z1
  · intro c h1 h2
    rcases (show c = 90 ∨ c = 91 ∨ c = 92 by omega) with rfl | rfl | rfl
    · exact ⟨hb, hbl⟩
    · exact ⟨y7, l1⟩
    · exact ⟨z7, l2⟩
set_option maxHeartbeats 4000000 in
set_option maxRecDepth 100000 in
theorem zs_start (hpure : zp_Law) {p : Program} {e : Env} {s : State} {m : MethodId} {below : List Frame} {meth : Method} {c : Code} (l : Launch) {b L : Nat} {xs : Nat → Int32} (hL : L ≤ 384) (C0 : lw_At p s m meth c b L xs) : W p l e room_1 s m #[Value.ref b] below meth c s.heap [] 0 0 (lw_Z below #[Value.ref b] s) (entryFrame m ([Value.ref b] : List Value).toArray 4) := by
  obtain ⟨hx, hb, hr, hml, hown0, hts, hX, hbl, hlocks, hgv⟩ := id C0
  have hcn : zi_cn 12 = R_law := by decide +kernel
  have hown : s.vm.findClass (zi_cn 12) = some m.cls := by rw [hcn]; exact hown0
  have hg := zs_gw hts
  have hAn : ∀ a : Nat, a < s.heap.size → ¬ (fun q : Nat => s.heap.size ≤ q) a := fun a h => Nat.not_le.mpr h
  obtain ⟨D, hKD⟩ := zs_D hts
  have hK := zs_K hts hKD
  obtain ⟨⟨t1, e1, hT1⟩, ⟨t2, e2, hT2⟩⟩ := zs_T hgv hAn
  have hZ1 := va_Zref (hts _ (List.mem_of_getElem? (i := 508) (by decide +kernel))) (hts _ (List.mem_of_getElem? (i := 65) (by decide +kernel))) e1 hAn
  have hZ2 := va_Zref (hts _ (List.mem_of_getElem? (i := 529) (by decide +kernel))) (hts _ (List.mem_of_getElem? (i := 65) (by decide +kernel))) e2 hAn
  generalize hctE : (fun ty : FieldType => (s.vm.findClass ("[" ++ ty.toString)).getD 0) = ct at hK
  generalize hAE : (fun q : Nat => s.heap.size ≤ q) = A at hAn hZ1 hZ2 hT1 hT2
  have hA : ∀ q, s.heap.size ≤ q → A q := fun q h => by rw [← hAE]; exact h
  have hA2 : ∀ q, A q → s.heap.size ≤ q := fun q h => by rw [← hAE] at h; exact h
  have hbA : ¬ A b := hAn b hbl
  obtain ⟨L1, M1, L2, M2, g1, g2, h312, hrun⟩ := zs_runs
  obtain ⟨h333, h5260, -⟩ := zd_ev2 hrun
  have gr1 := zd_grow _ _ _ _ _ _ _ _ _ _ g1
  have gr2 := zd_grow _ _ _ _ _ _ _ _ _ _ g2
  rw [zd_sz_ad] at gr1 gr2
  have hcs9 : zd_cs (.inl (9, zd_bl 9)) = 16 := by decide +kernel
  have hcs10 : zd_cs (.inl (10, zd_bl 10)) = 39 := by decide +kernel
  have hM0 : zd_sz zd_M0 = 0 := by decide +kernel
  rw [hcs9, hM0] at gr1
  rw [hcs10] at gr2
  have gr2b : M1.1 + 1 ≤ M2.1 := gr2.1
  have hl := lv_entry ([.ref b]) (n := 4) (Nat.le_of_ble_eq_true rfl)
  rw [lg_entry_eq]
  generalize (lg_sl ([.ref b]) ++ List.replicate (4 - (lg_sl ([.ref b])).length) Slot.unset).toArray = ls at hl ⊢
  have hl : lv_has ls 4 [(0, .ref b)] := hl
  -- new WaxWings
  have hvm0 : zd_vm zd_M0 := fun i hi => absurd hi (Nat.not_lt_zero i)
  have hw0 : zd_wl ct (fun _ => 0) zd_M0 = [] := rfl
  have hP0 : va_P D vwCl (zd_wl ct (fun _ => 0) zd_M0) s.heap := by rw [hw0]; exact fun k q h => by simp at h
  have hD0 : va_D A (zd_wl ct (fun _ => 0) zd_M0) := by rw [hw0]; exact ⟨fun i j p q h => by simp at h, fun k q h => by simp at h⟩
  have hS0 : va_S A s.heap s.heap [] := va_S.rf
  obtain ⟨C9, T9, N9, hc9, hcl9, hinst9, hini9, ⟨ty9, hty9, hdf9⟩, hN9, -⟩ := zd_clok (w := 12) (idx := 7) rfl
  dsimp only at hc9 hcl9 hdf9 hN9
  have hN9' : N9 = 16 := by rw [← hN9]; decide +kernel
  subst hN9'
  refine va_new hx hb hg (zi_clok hc9).1 ty9 hty9 hown (hg _ hcl9) (hg _ hinst9) (hg _ hini9) hK.1 hP0 hD0 hS0 hA hc9 (hdf9 (fun _ => 0)) (Nat.le_of_ble_eq_true rfl) (Nat.le_of_ble_eq_true rfl) (show decode code 0 = .ok (.new 7, 3) by decide +kernel) (fun q0 H1 hP1 hD1 hS1 => ?_)
  have hP1 : va_P D vwCl (zd_wl ct (fun _ => 0) zd_M0 ++ [(q0, zd_ent ct (fun _ => 0) (.inl (9, zd_bl 9)))]) H1 := hP1
  have hD1 : va_D A (zd_wl ct (fun _ => 0) zd_M0 ++ [(q0, zd_ent ct (fun _ => 0) (.inl (9, zd_bl 9)))]) := hD1
  rw [zd_add (c := .inl (9, zd_bl 9)) hvm0 (zd_bv _ 9)] at hP1 hD1
  have hHa : zd_H D ct (va_up (fun _ => 0) 0 q0) A (zd_ad zd_M0 (.inl (9, zd_bl 9))) s H1 := ⟨hP1, hD1, (by
      intro i q hi hq
      have hi : i < 0 + 1 := hi
      have : i = 0 := by omega
      subst this
      cases hq), zd_vm_ad (c := .inl (9, zd_bl 9)) hvm0 (zd_bv _ 9)⟩
  refine lv_dup hx hb (show decode code 3 = .ok (.dup, 1) by decide +kernel) rfl ?_
  -- its constructor
  have hM1 := zd_met (adr := va_up (fun _ => 0) 0 q0) (zd_sim l D ct A 5000) zr_X9_init g1 (by decide +kernel) (zd_vk (show (0 : Nat) < 0 + 1 by omega) (fun _ h => by cases h))
  have hws9 : zi_ws zm_X9_init = Cond.code (zi_y zm_X9_init) (zi_by zm_X9_init) (zi_ml zm_X9_init) none :: zi_gw := rfl
  rw [hws9] at hM1
  obtain ⟨hpl9, hco9, -, hin9, hmh9, hpd9, hinm9, hnm9, -, -, -, -⟩ := id zr_X9_init
  refine zd_callk (va_runI (As := []) (rest := [.ref q0]) ⟨hx, hb, hml, hown, hg⟩ hM1 (cwI 0 hg (zi_good hco9) rfl rfl rfl (hg _ hin9) (hg _ (show Cond.methodLink (zi_cn 12) 9 (zi_y zm_X9_init) ∈ zi_gw from zi_gwI 81 (by decide +kernel) rfl)) (hg _ hinm9) hnm9 ⟨hmh9.1, hmh9.2, hpd9⟩ ⟨by show 10 + 1 + 1 ≤ 2048; decide, by show 8 + (zi_ml zm_X9_init + 11) + 60 * (10 + 1) ≤ 84000; decide +kernel⟩) ⟨zd_fb, fun U hU hW => ⟨rfl, zd_P_mk hW hU hHa hS1 hK hA⟩⟩ rfl rfl hl.1 rfl (lv_room (Nat.le_of_ble_eq_true rfl)) (show decode code 4 = .ok (.invokespecial 9, 3) by decide +kernel) ⟨by show 0 + 1 + (M1.1 - 1) ≤ 600000; omega, by
      show 0 + 16 + (zd_sz M1 - zd_sz (zd_ad zd_M0 (.inl (9, zd_bl 9)))) ≤ 7302250
      rw [zd_sz_ad, hcs9, hM0]; omega⟩) hS1 (fun adr1 H2 locs2 hag1 hH2 hS2 => ?_)
  have ea1 : adr1 0 = q0 := (hag1 0 (by show 0 < 0 + 1; omega)).trans (va_up_self _ _ _)
  refine lv_astore_n (lv' := [(1, .ref q0), (0, .ref b)]) hx hb (show decode code 7 = .ok (.astore_n 1, 1) by decide +kernel) rfl hl (by decide) rfl (fun ls hl => ?_)
  -- new WaxWingsModel
  obtain ⟨C10, T10, N10, hc10, hcl10, hinst10, hini10, ⟨ty10, hty10, hdf10⟩, hN10, -⟩ := zd_clok (w := 12) (idx := 10) rfl
  dsimp only at hc10 hcl10 hdf10 hN10
  have hN10' : N10 = 39 := by rw [← hN10]; decide +kernel
  subst hN10'
  refine va_new hx hb hg (zi_clok hc10).1 ty10 hty10 hown (hg _ hcl10) (hg _ hinst10) (hg _ hini10) hK.1 hH2.1 hH2.2.1 hS2 hA hc10 (hdf10 adr1) (by show 0 + 1 + (M1.1 - 1) + 1 ≤ 600000; omega) (by
      show 0 + 16 + (zd_sz M1 - zd_sz (zd_ad zd_M0 (.inl (9, zd_bl 9)))) + 39 ≤ 7302250
      rw [zd_sz_ad, hcs9, hM0]; omega) (show decode code 8 = .ok (.new 10, 3) by decide +kernel) (fun q1 H3 hP3 hD3 hS3 => ?_)
  have hP3 : va_P D vwCl (zd_wl ct adr1 M1 ++ [(q1, zd_ent ct adr1 (.inl (10, zd_bl 10)))]) H3 := hP3
  have hD3 : va_D A (zd_wl ct adr1 M1 ++ [(q1, zd_ent ct adr1 (.inl (10, zd_bl 10)))]) := hD3
  rw [zd_add (c := .inl (10, zd_bl 10)) hH2.2.2.2 (zd_bv _ 10)] at hP3 hD3
  have hHb : zd_H D ct (va_up adr1 M1.1 q1) A (zd_ad M1 (.inl (10, zd_bl 10))) s H3 := ⟨hP3, hD3, (by
      intro i q hi hq
      have hi : i < M1.1 + 1 := hi
      by_cases hm : i = M1.1
      · subst hm; rw [zd_ad_s] at hq; cases hq
      · rw [zd_ad_n hm] at hq; exact hH2.2.2.1 i q (by omega) hq), zd_vm_ad (c := .inl (10, zd_bl 10)) hH2.2.2.2 (zd_bv _ 10)⟩
  refine lv_dup hx hb (show decode code 11 = .ok (.dup, 1) by decide +kernel) rfl ?_
  have hM2 := zd_met (adr := va_up adr1 M1.1 q1) (zd_sim l D ct A 1000) zr_X10_init g2 (by show 1 ≤ zi_ml zm_X10_init; decide +kernel) (zd_vk (show M1.1 < M1.1 + 1 by omega) (fun _ h => by cases h))
  have hws10 : zi_ws zm_X10_init = Cond.code (zi_y zm_X10_init) (zi_by zm_X10_init) (zi_ml zm_X10_init) none :: zi_gw := rfl
  rw [hws10] at hM2
  have eva : va_up adr1 M1.1 q1 M1.1 = q1 := va_up_self _ _ _
  have eas : ([.inr (.inr (0, some M1.1))] : List zi_V).map (zd_cv (va_up adr1 M1.1 q1)) = [.ref q1] := by
    show [va_rf (some (va_up adr1 M1.1 q1 M1.1))] = _
    rw [eva]; rfl
  rw [eas] at hM2
  obtain ⟨hpl10, hco10, -, hin10, hmh10, hpd10, hinm10, hnm10, -, -, -, -⟩ := id zr_X10_init
  refine zd_callk (va_runI (As := []) (rest := [.ref q1]) ⟨hx, hb, hml, hown, hg⟩ hM2 (cwI 0 hg (zi_good hco10) rfl rfl rfl (hg _ hin10) (hg _ (show Cond.methodLink (zi_cn 12) 12 (zi_y zm_X10_init) ∈ zi_gw from zi_gwI 964 (by decide +kernel) rfl)) (hg _ hinm10) hnm10 ⟨hmh10.1, hmh10.2, hpd10⟩ ⟨by show 10 + 1 + 1 ≤ 2048; decide, by show 8 + (zi_ml zm_X10_init + 11) + 60 * (10 + 1) ≤ 84000; decide +kernel⟩) ⟨zd_fb, fun U hU hW => ⟨rfl, zd_P_mk hW hU hHb hS3 hK hA⟩⟩ rfl rfl hl.1 rfl (lv_room (Nat.le_of_ble_eq_true rfl)) (show decode code 12 = .ok (.invokespecial 12, 3) by decide +kernel) ⟨by show 0 + 1 + (M1.1 - 1) + 1 + (M2.1 - (M1.1 + 1)) ≤ 600000; omega, by
      show 0 + 16 + (zd_sz M1 - zd_sz (zd_ad zd_M0 (.inl (9, zd_bl 9)))) + 39 + (zd_sz M2 - zd_sz (zd_ad M1 (.inl (10, zd_bl 10)))) ≤ 7302250
      rw [zd_sz_ad, zd_sz_ad, hcs9, hcs10, hM0]; omega⟩) hS3 (fun adr3 H4 locs4 hag3 hH4 hS4 => ?_)
  have ea3 : adr3 312 = q1 := by
    rw [← h312]
    exact (hag3 M1.1 (by show M1.1 < M1.1 + 1; omega)).trans eva
  have ea4 : adr3 0 = q0 := (hag3 0 (by show 0 < M1.1 + 1; omega)).trans ((va_up_ne _ _ (by omega)).trans ea1)
  refine lv_astore_n (lv' := [(2, .ref q1), (1, .ref q0), (0, .ref b)]) hx hb (show decode code 15 = .ok (.astore_n 2, 1) by decide +kernel) rfl hl (by decide) rfl (fun ls hl => ?_)
  -- the loop: the interpreter's
  obtain ⟨M', hrunp⟩ := hpure L xs hL
  obtain ⟨k, hk⟩ := zi_of_run hrunp
  obtain ⟨hPs, hDs⟩ := zd_toH (b := b) (t1 := t1) (t2 := t2) (n := L) (xs := xs) hrun hH4
  have hKs := zd_toK hrun hH4 hK.1
  obtain ⟨hRO, hNA⟩ := zs_Q1 (adr := adr3) hX hL hT1 hT2 hbA hbl hS4
  have hHs : zi_H D (zd_ca ct) (zd_ada adr3 b t1 t2) A (zi_M0 L xs) s H4 := ⟨hPs, hDs, hRO, fun _ _ _ _ _ h => by cases h⟩
  have e9 : zd_ada adr3 b t1 t2 9 0 = q0 := by rw [zd_ad90 (by decide)]; exact (congrArg adr3 (show zd_ix 9 0 = 0 by decide +kernel)).trans ea4
  have e10 : zd_ada adr3 b t1 t2 10 0 = q1 := by rw [zd_ad90 (by decide)]; exact (congrArg adr3 (show zd_ix 10 0 = 312 by decide +kernel)).trans ea3
  have hLr : zi_Lr (zd_ada adr3 b t1 t2) ls 4 [some (.inr (.inr (90, some 0))), some (.inr (.inr (9, some 0))), some (.inr (.inr (10, some 0))), none] := by
    refine ⟨hl.1, rfl, hl.2.1, fun i v hv => ?_⟩
    match i, hv with
    | 0, hv => cases hv; exact hl.2.2 (0, .ref b) (by simp)
    | 1, hv => cases hv; show ls[1]? = some (.val (.ref (zd_ada adr3 b t1 t2 9 0))); rw [e9]; exact hl.2.2 (1, .ref q0) (by simp)
    | 2, hv => cases hv; show ls[2]? = some (.val (.ref (zd_ada adr3 b t1 t2 10 0))); rw [e10]; exact hl.2.2 (2, .ref q1) (by simp)
    | 3, hv => cases hv
    | k + 4, hv => cases hv
  have hCx : zi_Cx p room_1 s m #[Value.ref b] c D (zd_ca ct) (zd_ada adr3 b t1 t2) A zm_L_law 100 (0 + 1 + (M1.1 - 1) + 1 + (M2.1 - (M1.1 + 1))) (0 + 16 + (zd_sz M1 - zd_sz (zd_ad zd_M0 (.inl (9, zd_bl 9)))) + 39 + (zd_sz M2 - zd_sz (zd_ad M1 (.inl (10, zd_bl 10))))) := ⟨hx, hb, hml, hown, hg, zd_L_law, ⟨hKs, hK.2.1⟩, ⟨hZ1, hZ2⟩, hNA, by decide, by decide, by show _ ≤ 600000; omega, by
      show _ ≤ 7302250
      rw [zd_sz_ad, zd_sz_ad, hcs9, hcs10, hM0]; omega⟩
  have hvLL : ∀ (i : Nat) (v : zi_V), ([some (.inr (.inr (90, some 0))), some (.inr (.inr (9, some 0))), some (.inr (.inr (10, some 0))), none] : zi_L)[i]? = some (some v) → zi_vl v := by
    intro i v hv
    match i, hv with
    | 0, hv => cases hv; show zi_ex 90 0 = true; decide
    | 1, hv => cases hv; show zi_ex 9 0 = true; decide
    | 2, hv => cases hv; show zi_ex 10 0 = true; decide
    | 3, hv => cases hv
    | k + 4, hv => cases hv
  refine zi_sim l D (zd_ca ct) (zd_ada adr3 b t1 t2) A k 100 zm_L_law 16 _ [] (zi_M0 L xs) _ M' hk p e room_1 s m #[Value.ref b] below meth c H4 locs4 _ _ ls (lw_Z below #[Value.ref b] s) hCx ⟨hHs, hS4, hLr, hvLL, fun _ h => by cases h⟩ ?_
  intro H' locs' pc' ls' hH' hS' hEn _
  refine va_forget (fun q hq => hA2 _ (hS'.2.2 q hq)) ?_
  refine W.widen (k := 600000) (n := 7302250) (by omega) (by
      rw [zd_sz_ad, zd_sz_ad, hcs9, hcs10, hM0]; omega) ?_
  exact lw_ret hx hb hr hlocks hEn.2
