/-! THE CONSTRUCTORS: their tables are right -/
set_option maxRecDepth 100000 in
theorem zr_X0_init : zd_okR zm_X0_init := ⟨by decide +kernel, zi_gwI 93 rfl rfl, rfl, zi_gwI 66 (by decide +kernel) rfl, by decide +kernel, by decide +kernel, zi_gwI 92 (by decide +kernel) rfl, rfl, by decide +kernel, by decide, rfl, by decide +kernel⟩
set_option maxRecDepth 100000 in
theorem zr_X1_init : zd_okR zm_X1_init := ⟨by decide +kernel, zi_gwI 124 rfl rfl, rfl, zi_gwI 68 (by decide +kernel) rfl, by decide +kernel, by decide +kernel, zi_gwI 123 (by decide +kernel) rfl, rfl, by decide +kernel, by decide, rfl, by decide +kernel⟩
set_option maxRecDepth 100000 in
theorem zr_X2_init : zd_okR zm_X2_init := ⟨by decide +kernel, zi_gwI 229 rfl rfl, rfl, zi_gwI 70 (by decide +kernel) rfl, by decide +kernel, by decide +kernel, zi_gwI 228 (by decide +kernel) rfl, rfl, by decide +kernel, by decide, rfl, by decide +kernel⟩
set_option maxRecDepth 100000 in
theorem zr_X3_init : zd_okR zm_X3_init := ⟨by decide +kernel, zi_gwI 279 rfl rfl, rfl, zi_gwI 72 (by decide +kernel) rfl, by decide +kernel, by decide +kernel, zi_gwI 278 (by decide +kernel) rfl, rfl, by decide +kernel, by decide, rfl, by decide +kernel⟩
set_option maxRecDepth 100000 in
theorem zr_X4_init : zd_okR zm_X4_init := ⟨by decide +kernel, zi_gwI 300 rfl rfl, rfl, zi_gwI 73 (by decide +kernel) rfl, by decide +kernel, by decide +kernel, zi_gwI 299 (by decide +kernel) rfl, rfl, by decide +kernel, by decide, rfl, by decide +kernel⟩
set_option maxRecDepth 100000 in
theorem zr_X5_init : zd_okR zm_X5_init := ⟨by decide +kernel, zi_gwI 324 rfl rfl, rfl, zi_gwI 74 (by decide +kernel) rfl, by decide +kernel, by decide +kernel, zi_gwI 323 (by decide +kernel) rfl, rfl, by decide +kernel, by decide, rfl, by decide +kernel⟩
set_option maxRecDepth 100000 in
theorem zr_X6_init : zd_okR zm_X6_init := ⟨by decide +kernel, zi_gwI 115 rfl rfl, rfl, zi_gwI 67 (by decide +kernel) rfl, by decide +kernel, by decide +kernel, zi_gwI 114 (by decide +kernel) rfl, rfl, by decide +kernel, by decide, rfl, by decide +kernel⟩
set_option maxRecDepth 100000 in
theorem zr_X7_init : zd_okR zm_X7_init := ⟨by decide +kernel, zi_gwI 130 rfl rfl, rfl, zi_gwI 69 (by decide +kernel) rfl, by decide +kernel, by decide +kernel, zi_gwI 129 (by decide +kernel) rfl, rfl, by decide +kernel, by decide, rfl, by decide +kernel⟩
set_option maxRecDepth 100000 in
theorem zr_X8_init : zd_okR zm_X8_init := ⟨by decide +kernel, zi_gwI 255 rfl rfl, rfl, zi_gwI 71 (by decide +kernel) rfl, by decide +kernel, by decide +kernel, zi_gwI 254 (by decide +kernel) rfl, rfl, by decide +kernel, by decide, rfl, by decide +kernel⟩
set_option maxRecDepth 100000 in
theorem zr_X9_init : zd_okR zm_X9_init := ⟨by decide +kernel, zi_gwI 83 rfl rfl, rfl, zi_gwI 65 (by decide +kernel) rfl, by decide +kernel, by decide +kernel, zi_gwI 82 (by decide +kernel) rfl, rfl, by decide +kernel, by decide, rfl, by decide +kernel⟩
set_option maxRecDepth 100000 in
theorem zr_X10_init : zd_okR zm_X10_init := ⟨by decide +kernel, zi_gwI 966 rfl rfl, rfl, zi_gwI 76 (by decide +kernel) rfl, by decide +kernel, by decide +kernel, zi_gwI 965 (by decide +kernel) rfl, rfl, by decide +kernel, by decide, rfl, by decide +kernel⟩
theorem zd_dk_L_law0 : ∀ q ∈ zi_cd zm_L_law0, zd_dk (zi_by zm_L_law0) q = true := by decide +kernel
def zd_okI (w : Nat) (e : Nat × zi_R × Bool × Nat) : Prop := zd_okR e.2.1 ∧ (e.2.2.1 = false → Cond.methodLink (zi_cn w) e.1 (zi_y e.2.1) ∈ zi_gw) ∧ (e.2.2.1 = true → Cond.methodLinkNest (zi_cn w) e.1 (zi_y e.2.1) "WaxWings" ∈ lw_tbl)
theorem zdi_w1 : ∀ e ∈ (zi_at zd_ils 1).getD [], zd_okI 1 e := List.forall_mem_cons.mpr ⟨⟨zr_X7_init, (fun h => by cases h), (fun _ => List.mem_of_getElem? (i := 128) (by decide +kernel))⟩, fun _ h => absurd h List.not_mem_nil⟩
theorem zdi_w3 : ∀ e ∈ (zi_at zd_ils 3).getD [], zd_okI 3 e := List.forall_mem_cons.mpr ⟨⟨zr_X7_init, (fun h => by cases h), (fun _ => List.mem_of_getElem? (i := 282) (by decide +kernel))⟩, fun _ h => absurd h List.not_mem_nil⟩
theorem zdi_w4 : ∀ e ∈ (zi_at zd_ils 4).getD [], zd_okI 4 e := List.forall_mem_cons.mpr ⟨⟨zr_X0_init, (fun h => by cases h), (fun _ => List.mem_of_getElem? (i := 303) (by decide +kernel))⟩, List.forall_mem_cons.mpr ⟨⟨zr_X6_init, (fun _ => zi_gwI 305 (by decide +kernel) rfl), (fun h => by cases h)⟩, fun _ h => absurd h List.not_mem_nil⟩⟩
theorem zdi_w6 : ∀ e ∈ (zi_at zd_ils 6).getD [], zd_okI 6 e := List.forall_mem_cons.mpr ⟨⟨zr_X1_init, (fun h => by cases h), (fun _ => List.mem_of_getElem? (i := 122) (by decide +kernel))⟩, List.forall_mem_cons.mpr ⟨⟨zr_X7_init, (fun h => by cases h), (fun _ => List.mem_of_getElem? (i := 194) (by decide +kernel))⟩, fun _ h => absurd h List.not_mem_nil⟩⟩
theorem zdi_w8 : ∀ e ∈ (zi_at zd_ils 8).getD [], zd_okI 8 e := List.forall_mem_cons.mpr ⟨⟨zr_X7_init, (fun h => by cases h), (fun _ => List.mem_of_getElem? (i := 258) (by decide +kernel))⟩, fun _ h => absurd h List.not_mem_nil⟩
theorem zdi_w9 : ∀ e ∈ (zi_at zd_ils 9).getD [], zd_okI 9 e := List.forall_mem_cons.mpr ⟨⟨zr_X0_init, (fun h => by cases h), (fun _ => List.mem_of_getElem? (i := 91) (by decide +kernel))⟩, List.forall_mem_cons.mpr ⟨⟨zr_X6_init, (fun _ => zi_gwI 113 (by decide +kernel) rfl), (fun h => by cases h)⟩, List.forall_mem_cons.mpr ⟨⟨zr_X2_init, (fun _ => zi_gwI 227 (by decide +kernel) rfl), (fun h => by cases h)⟩, List.forall_mem_cons.mpr ⟨⟨zr_X8_init, (fun _ => zi_gwI 253 (by decide +kernel) rfl), (fun h => by cases h)⟩, List.forall_mem_cons.mpr ⟨⟨zr_X3_init, (fun _ => zi_gwI 277 (by decide +kernel) rfl), (fun h => by cases h)⟩, List.forall_mem_cons.mpr ⟨⟨zr_X4_init, (fun h => by cases h), (fun _ => List.mem_of_getElem? (i := 298) (by decide +kernel))⟩, List.forall_mem_cons.mpr ⟨⟨zr_X7_init, (fun h => by cases h), (fun _ => List.mem_of_getElem? (i := 320) (by decide +kernel))⟩, List.forall_mem_cons.mpr ⟨⟨zr_X5_init, (fun _ => zi_gwI 322 (by decide +kernel) rfl), (fun h => by cases h)⟩, fun _ h => absurd h List.not_mem_nil⟩⟩⟩⟩⟩⟩⟩⟩
theorem zdi_w12 : ∀ e ∈ (zi_at zd_ils 12).getD [], zd_okI 12 e := List.forall_mem_cons.mpr ⟨⟨zr_X9_init, (fun _ => zi_gwI 81 (by decide +kernel) rfl), (fun h => by cases h)⟩, List.forall_mem_cons.mpr ⟨⟨zr_X10_init, (fun _ => zi_gwI 964 (by decide +kernel) rfl), (fun h => by cases h)⟩, fun _ h => absurd h List.not_mem_nil⟩⟩
theorem zd_ilok {w idx : Nat} {q : zi_R × Bool × Nat} (h : zd_il w idx = some q) : zd_okI w (idx, q) := by
  have hm := zi_at_mem _ _ h
  cases hz : zi_at zd_ils w with
  | none => rw [hz] at hm; cases hm
  | some l =>
    have hk := zi_at_mem _ _ hz
    rw [hz] at hm
    simp only [zd_ils, List.mem_cons, Prod.mk.injEq, List.not_mem_nil, or_false] at hk
    rcases hk with ⟨rfl, rfl⟩ | ⟨rfl, rfl⟩ | ⟨rfl, rfl⟩ | ⟨rfl, rfl⟩ | ⟨rfl, rfl⟩ | ⟨rfl, rfl⟩ | ⟨rfl, rfl⟩
    · exact zdi_w1 _ hm
    · exact zdi_w3 _ hm
    · exact zdi_w4 _ hm
    · exact zdi_w6 _ hm
    · exact zdi_w8 _ hm
    · exact zdi_w9 _ hm
    · exact zdi_w12 _ hm
theorem zdo_w0 : ∀ e ∈ (zi_at zd_ois 0).getD [], Cond.methodLink (zi_cn 0) e.1 Lib.objectInit ∈ zi_gw := List.forall_mem_cons.mpr ⟨zi_gwI 94 (by decide +kernel) rfl, fun _ h => absurd h List.not_mem_nil⟩
theorem zdo_w1 : ∀ e ∈ (zi_at zd_ois 1).getD [], Cond.methodLink (zi_cn 1) e.1 Lib.objectInit ∈ zi_gw := List.forall_mem_cons.mpr ⟨zi_gwI 125 (by decide +kernel) rfl, fun _ h => absurd h List.not_mem_nil⟩
theorem zdo_w2 : ∀ e ∈ (zi_at zd_ois 2).getD [], Cond.methodLink (zi_cn 2) e.1 Lib.objectInit ∈ zi_gw := List.forall_mem_cons.mpr ⟨zi_gwI 230 (by decide +kernel) rfl, fun _ h => absurd h List.not_mem_nil⟩
theorem zdo_w3 : ∀ e ∈ (zi_at zd_ois 3).getD [], Cond.methodLink (zi_cn 3) e.1 Lib.objectInit ∈ zi_gw := List.forall_mem_cons.mpr ⟨zi_gwI 280 (by decide +kernel) rfl, fun _ h => absurd h List.not_mem_nil⟩
theorem zdo_w4 : ∀ e ∈ (zi_at zd_ois 4).getD [], Cond.methodLink (zi_cn 4) e.1 Lib.objectInit ∈ zi_gw := List.forall_mem_cons.mpr ⟨zi_gwI 301 (by decide +kernel) rfl, fun _ h => absurd h List.not_mem_nil⟩
theorem zdo_w5 : ∀ e ∈ (zi_at zd_ois 5).getD [], Cond.methodLink (zi_cn 5) e.1 Lib.objectInit ∈ zi_gw := List.forall_mem_cons.mpr ⟨zi_gwI 325 (by decide +kernel) rfl, fun _ h => absurd h List.not_mem_nil⟩
theorem zdo_w6 : ∀ e ∈ (zi_at zd_ois 6).getD [], Cond.methodLink (zi_cn 6) e.1 Lib.objectInit ∈ zi_gw := List.forall_mem_cons.mpr ⟨zi_gwI 116 (by decide +kernel) rfl, fun _ h => absurd h List.not_mem_nil⟩
theorem zdo_w7 : ∀ e ∈ (zi_at zd_ois 7).getD [], Cond.methodLink (zi_cn 7) e.1 Lib.objectInit ∈ zi_gw := List.forall_mem_cons.mpr ⟨zi_gwI 131 (by decide +kernel) rfl, fun _ h => absurd h List.not_mem_nil⟩
theorem zdo_w8 : ∀ e ∈ (zi_at zd_ois 8).getD [], Cond.methodLink (zi_cn 8) e.1 Lib.objectInit ∈ zi_gw := List.forall_mem_cons.mpr ⟨zi_gwI 256 (by decide +kernel) rfl, fun _ h => absurd h List.not_mem_nil⟩
theorem zdo_w9 : ∀ e ∈ (zi_at zd_ois 9).getD [], Cond.methodLink (zi_cn 9) e.1 Lib.objectInit ∈ zi_gw := List.forall_mem_cons.mpr ⟨zi_gwI 84 (by decide +kernel) rfl, fun _ h => absurd h List.not_mem_nil⟩
theorem zdo_w10 : ∀ e ∈ (zi_at zd_ois 10).getD [], Cond.methodLink (zi_cn 10) e.1 Lib.objectInit ∈ zi_gw := List.forall_mem_cons.mpr ⟨zi_gwI 967 (by decide +kernel) rfl, fun _ h => absurd h List.not_mem_nil⟩
theorem zd_oiok {w idx : Nat} {q : Nat} (h : zd_oi w idx = some q) : Cond.methodLink (zi_cn w) idx Lib.objectInit ∈ zi_gw := by
  have hm := zi_at_mem _ _ h
  cases hz : zi_at zd_ois w with
  | none => rw [hz] at hm; cases hm
  | some l =>
    have hk := zi_at_mem _ _ hz
    rw [hz] at hm
    simp only [zd_ois, List.mem_cons, Prod.mk.injEq, List.not_mem_nil, or_false] at hk
    rcases hk with ⟨rfl, rfl⟩ | ⟨rfl, rfl⟩ | ⟨rfl, rfl⟩ | ⟨rfl, rfl⟩ | ⟨rfl, rfl⟩ | ⟨rfl, rfl⟩ | ⟨rfl, rfl⟩ | ⟨rfl, rfl⟩ | ⟨rfl, rfl⟩ | ⟨rfl, rfl⟩ | ⟨rfl, rfl⟩
    · exact zdo_w0 _ hm
    · exact zdo_w1 _ hm
    · exact zdo_w2 _ hm
    · exact zdo_w3 _ hm
    · exact zdo_w4 _ hm
    · exact zdo_w5 _ hm
    · exact zdo_w6 _ hm
    · exact zdo_w7 _ hm
    · exact zdo_w8 _ hm
    · exact zdo_w9 _ hm
    · exact zdo_w10 _ hm
def zd_okC (w : Nat) (e : Nat × Nat × Nat) : Prop := ∃ (C : String) (T : u_T) (N : Nat), vwCl[e.2.1]? = some (C, T, N) ∧ Cond.classLink (zi_cn w) e.1 C ∈ zi_gw ∧ Cond.instantiable C N ∈ zi_gw ∧ Cond.initialized C ∈ zi_gw ∧ (∃ ty : Nat → FieldType, (∀ k, k < N → parseFieldDescriptor (T k).2.2.1 = some (ty k)) ∧ (∀ adr : Nat → Nat, ∀ j, j < N → defaultValue (ty j) = vp_V ((zd_bl e.2.1).map (zd_cv adr)) j)) ∧ (zd_bl e.2.1).length = N ∧ (∀ t, zd_ao e.2.1 = some t → zd_ft t = .object C ∧ 4 ≤ t ∧ t < 8)
theorem zd_df0 : ∀ adr : Nat → Nat, ∀ j, j < 3 → defaultValue (tyX0 j) = vp_V ((zd_bl 0).map (zd_cv adr)) j := by
  intro adr j hj
  match j, hj with
  | 0, _ => rfl
  | 1, _ => rfl
  | 2, _ => rfl
  | k + 3, h => exact absurd h (by omega)
theorem zd_df1 : ∀ adr : Nat → Nat, ∀ j, j < 4 → defaultValue (tyX1 j) = vp_V ((zd_bl 1).map (zd_cv adr)) j := by
  intro adr j hj
  match j, hj with
  | 0, _ => rfl
  | 1, _ => rfl
  | 2, _ => rfl
  | 3, _ => rfl
  | k + 4, h => exact absurd h (by omega)
theorem zd_df2 : ∀ adr : Nat → Nat, ∀ j, j < 5 → defaultValue (tyX2 j) = vp_V ((zd_bl 2).map (zd_cv adr)) j := by
  intro adr j hj
  match j, hj with
  | 0, _ => rfl
  | 1, _ => rfl
  | 2, _ => rfl
  | 3, _ => rfl
  | 4, _ => rfl
  | k + 5, h => exact absurd h (by omega)
theorem zd_df3 : ∀ adr : Nat → Nat, ∀ j, j < 4 → defaultValue (tyX3 j) = vp_V ((zd_bl 3).map (zd_cv adr)) j := by
  intro adr j hj
  match j, hj with
  | 0, _ => rfl
  | 1, _ => rfl
  | 2, _ => rfl
  | 3, _ => rfl
  | k + 4, h => exact absurd h (by omega)
theorem zd_df4 : ∀ adr : Nat → Nat, ∀ j, j < 4 → defaultValue (tyX4 j) = vp_V ((zd_bl 4).map (zd_cv adr)) j := by
  intro adr j hj
  match j, hj with
  | 0, _ => rfl
  | 1, _ => rfl
  | 2, _ => rfl
  | 3, _ => rfl
  | k + 4, h => exact absurd h (by omega)
theorem zd_df5 : ∀ adr : Nat → Nat, ∀ j, j < 2 → defaultValue (tyX5 j) = vp_V ((zd_bl 5).map (zd_cv adr)) j := by
  intro adr j hj
  match j, hj with
  | 0, _ => rfl
  | 1, _ => rfl
  | k + 2, h => exact absurd h (by omega)
theorem zd_df6 : ∀ adr : Nat → Nat, ∀ j, j < 7 → defaultValue (tyX6 j) = vp_V ((zd_bl 6).map (zd_cv adr)) j := by
  intro adr j hj
  match j, hj with
  | 0, _ => rfl
  | 1, _ => rfl
  | 2, _ => rfl
  | 3, _ => rfl
  | 4, _ => rfl
  | 5, _ => rfl
  | 6, _ => rfl
  | k + 7, h => exact absurd h (by omega)
theorem zd_df7 : ∀ adr : Nat → Nat, ∀ j, j < 6 → defaultValue (tyX7 j) = vp_V ((zd_bl 7).map (zd_cv adr)) j := by
  intro adr j hj
  match j, hj with
  | 0, _ => rfl
  | 1, _ => rfl
  | 2, _ => rfl
  | 3, _ => rfl
  | 4, _ => rfl
  | 5, _ => rfl
  | k + 6, h => exact absurd h (by omega)
theorem zd_df8 : ∀ adr : Nat → Nat, ∀ j, j < 5 → defaultValue (tyX8 j) = vp_V ((zd_bl 8).map (zd_cv adr)) j := by
  intro adr j hj
  match j, hj with
  | 0, _ => rfl
  | 1, _ => rfl
  | 2, _ => rfl
  | 3, _ => rfl
  | 4, _ => rfl
  | k + 5, h => exact absurd h (by omega)
theorem zd_df9 : ∀ adr : Nat → Nat, ∀ j, j < 16 → defaultValue (tyX9 j) = vp_V ((zd_bl 9).map (zd_cv adr)) j := by
  intro adr j hj
  match j, hj with
  | 0, _ => rfl
  | 1, _ => rfl
  | 2, _ => rfl
  | 3, _ => rfl
  | 4, _ => rfl
  | 5, _ => rfl
  | 6, _ => rfl
  | 7, _ => rfl
  | 8, _ => rfl
  | 9, _ => rfl
  | 10, _ => rfl
  | 11, _ => rfl
  | 12, _ => rfl
  | 13, _ => rfl
  | 14, _ => rfl
  | 15, _ => rfl
  | k + 16, h => exact absurd h (by omega)
theorem zd_df10 : ∀ adr : Nat → Nat, ∀ j, j < 39 → defaultValue (tyX10 j) = vp_V ((zd_bl 10).map (zd_cv adr)) j := by
  intro adr j hj
  match j, hj with
  | 0, _ => rfl
  | 1, _ => rfl
  | 2, _ => rfl
  | 3, _ => rfl
  | 4, _ => rfl
  | 5, _ => rfl
  | 6, _ => rfl
  | 7, _ => rfl
  | 8, _ => rfl
  | 9, _ => rfl
  | 10, _ => rfl
  | 11, _ => rfl
  | 12, _ => rfl
  | 13, _ => rfl
  | 14, _ => rfl
  | 15, _ => rfl
  | 16, _ => rfl
  | 17, _ => rfl
  | 18, _ => rfl
  | 19, _ => rfl
  | 20, _ => rfl
  | 21, _ => rfl
  | 22, _ => rfl
  | 23, _ => rfl
  | 24, _ => rfl
  | 25, _ => rfl
  | 26, _ => rfl
  | 27, _ => rfl
  | 28, _ => rfl
  | 29, _ => rfl
  | 30, _ => rfl
  | 31, _ => rfl
  | 32, _ => rfl
  | 33, _ => rfl
  | 34, _ => rfl
  | 35, _ => rfl
  | 36, _ => rfl
  | 37, _ => rfl
  | 38, _ => rfl
  | k + 39, h => exact absurd h (by omega)
theorem zdc_w1 : ∀ e ∈ (zi_at zd_cls 1).getD [], zd_okC 1 e := List.forall_mem_cons.mpr ⟨⟨RX7, TX7, 6, rfl, zi_gwI 126 (by decide +kernel) rfl, zi_gwI 127 (by decide +kernel) rfl, zi_gwI 69 (by decide +kernel) rfl, ⟨tyX7, tyX7_ok, zd_df7⟩, by decide +kernel, (fun t h => by cases h; exact ⟨by decide +kernel, by decide, by decide⟩)⟩, fun _ h => absurd h List.not_mem_nil⟩
theorem zdc_w3 : ∀ e ∈ (zi_at zd_cls 3).getD [], zd_okC 3 e := List.forall_mem_cons.mpr ⟨⟨RX7, TX7, 6, rfl, zi_gwI 281 (by decide +kernel) rfl, zi_gwI 127 (by decide +kernel) rfl, zi_gwI 69 (by decide +kernel) rfl, ⟨tyX7, tyX7_ok, zd_df7⟩, by decide +kernel, (fun t h => by cases h; exact ⟨by decide +kernel, by decide, by decide⟩)⟩, fun _ h => absurd h List.not_mem_nil⟩
theorem zdc_w4 : ∀ e ∈ (zi_at zd_cls 4).getD [], zd_okC 4 e := List.forall_mem_cons.mpr ⟨⟨RX0, TX0, 3, rfl, zi_gwI 302 (by decide +kernel) rfl, zi_gwI 90 (by decide +kernel) rfl, zi_gwI 66 (by decide +kernel) rfl, ⟨tyX0, tyX0_ok, zd_df0⟩, by decide +kernel, (fun t h => by cases h)⟩, List.forall_mem_cons.mpr ⟨⟨RX6, TX6, 7, rfl, zi_gwI 304 (by decide +kernel) rfl, zi_gwI 112 (by decide +kernel) rfl, zi_gwI 67 (by decide +kernel) rfl, ⟨tyX6, tyX6_ok, zd_df6⟩, by decide +kernel, (fun t h => by cases h; exact ⟨by decide +kernel, by decide, by decide⟩)⟩, fun _ h => absurd h List.not_mem_nil⟩⟩
theorem zdc_w6 : ∀ e ∈ (zi_at zd_cls 6).getD [], zd_okC 6 e := List.forall_mem_cons.mpr ⟨⟨RX1, TX1, 4, rfl, zi_gwI 117 (by decide +kernel) rfl, zi_gwI 121 (by decide +kernel) rfl, zi_gwI 68 (by decide +kernel) rfl, ⟨tyX1, tyX1_ok, zd_df1⟩, by decide +kernel, (fun t h => by cases h; exact ⟨by decide +kernel, by decide, by decide⟩)⟩, List.forall_mem_cons.mpr ⟨⟨RX7, TX7, 6, rfl, zi_gwI 119 (by decide +kernel) rfl, zi_gwI 127 (by decide +kernel) rfl, zi_gwI 69 (by decide +kernel) rfl, ⟨tyX7, tyX7_ok, zd_df7⟩, by decide +kernel, (fun t h => by cases h; exact ⟨by decide +kernel, by decide, by decide⟩)⟩, fun _ h => absurd h List.not_mem_nil⟩⟩
theorem zdc_w8 : ∀ e ∈ (zi_at zd_cls 8).getD [], zd_okC 8 e := List.forall_mem_cons.mpr ⟨⟨RX7, TX7, 6, rfl, zi_gwI 257 (by decide +kernel) rfl, zi_gwI 127 (by decide +kernel) rfl, zi_gwI 69 (by decide +kernel) rfl, ⟨tyX7, tyX7_ok, zd_df7⟩, by decide +kernel, (fun t h => by cases h; exact ⟨by decide +kernel, by decide, by decide⟩)⟩, fun _ h => absurd h List.not_mem_nil⟩
theorem zdc_w9 : ∀ e ∈ (zi_at zd_cls 9).getD [], zd_okC 9 e := List.forall_mem_cons.mpr ⟨⟨RX5, TX5, 2, rfl, zi_gwI 87 (by decide +kernel) rfl, zi_gwI 321 (by decide +kernel) rfl, zi_gwI 74 (by decide +kernel) rfl, ⟨tyX5, tyX5_ok, zd_df5⟩, by decide +kernel, (fun t h => by cases h; exact ⟨by decide +kernel, by decide, by decide⟩)⟩, List.forall_mem_cons.mpr ⟨⟨RX0, TX0, 3, rfl, zi_gwI 89 (by decide +kernel) rfl, zi_gwI 90 (by decide +kernel) rfl, zi_gwI 66 (by decide +kernel) rfl, ⟨tyX0, tyX0_ok, zd_df0⟩, by decide +kernel, (fun t h => by cases h)⟩, List.forall_mem_cons.mpr ⟨⟨RX6, TX6, 7, rfl, zi_gwI 111 (by decide +kernel) rfl, zi_gwI 112 (by decide +kernel) rfl, zi_gwI 67 (by decide +kernel) rfl, ⟨tyX6, tyX6_ok, zd_df6⟩, by decide +kernel, (fun t h => by cases h; exact ⟨by decide +kernel, by decide, by decide⟩)⟩, List.forall_mem_cons.mpr ⟨⟨RX2, TX2, 5, rfl, zi_gwI 225 (by decide +kernel) rfl, zi_gwI 226 (by decide +kernel) rfl, zi_gwI 70 (by decide +kernel) rfl, ⟨tyX2, tyX2_ok, zd_df2⟩, by decide +kernel, (fun t h => by cases h)⟩, List.forall_mem_cons.mpr ⟨⟨RX8, TX8, 5, rfl, zi_gwI 251 (by decide +kernel) rfl, zi_gwI 252 (by decide +kernel) rfl, zi_gwI 71 (by decide +kernel) rfl, ⟨tyX8, tyX8_ok, zd_df8⟩, by decide +kernel, (fun t h => by cases h)⟩, List.forall_mem_cons.mpr ⟨⟨RX3, TX3, 4, rfl, zi_gwI 275 (by decide +kernel) rfl, zi_gwI 276 (by decide +kernel) rfl, zi_gwI 72 (by decide +kernel) rfl, ⟨tyX3, tyX3_ok, zd_df3⟩, by decide +kernel, (fun t h => by cases h)⟩, List.forall_mem_cons.mpr ⟨⟨RX4, TX4, 4, rfl, zi_gwI 296 (by decide +kernel) rfl, zi_gwI 297 (by decide +kernel) rfl, zi_gwI 73 (by decide +kernel) rfl, ⟨tyX4, tyX4_ok, zd_df4⟩, by decide +kernel, (fun t h => by cases h)⟩, List.forall_mem_cons.mpr ⟨⟨RX7, TX7, 6, rfl, zi_gwI 319 (by decide +kernel) rfl, zi_gwI 127 (by decide +kernel) rfl, zi_gwI 69 (by decide +kernel) rfl, ⟨tyX7, tyX7_ok, zd_df7⟩, by decide +kernel, (fun t h => by cases h; exact ⟨by decide +kernel, by decide, by decide⟩)⟩, fun _ h => absurd h List.not_mem_nil⟩⟩⟩⟩⟩⟩⟩⟩
theorem zdc_w12 : ∀ e ∈ (zi_at zd_cls 12).getD [], zd_okC 12 e := List.forall_mem_cons.mpr ⟨⟨RX9, TX9, 16, rfl, zi_gwI 79 (by decide +kernel) rfl, zi_gwI 80 (by decide +kernel) rfl, zi_gwI 65 (by decide +kernel) rfl, ⟨tyX9, tyX9_ok, zd_df9⟩, by decide +kernel, (fun t h => by cases h)⟩, List.forall_mem_cons.mpr ⟨⟨RX10, TX10, 39, rfl, zi_gwI 962 (by decide +kernel) rfl, zi_gwI 963 (by decide +kernel) rfl, zi_gwI 76 (by decide +kernel) rfl, ⟨tyX10, tyX10_ok, zd_df10⟩, by decide +kernel, (fun t h => by cases h)⟩, fun _ h => absurd h List.not_mem_nil⟩⟩
theorem zd_clok {w idx : Nat} {q : Nat × Nat} (h : zd_cl w idx = some q) : zd_okC w (idx, q) := by
  have hm := zi_at_mem _ _ h
  cases hz : zi_at zd_cls w with
  | none => rw [hz] at hm; cases hm
  | some l =>
    have hk := zi_at_mem _ _ hz
    rw [hz] at hm
    simp only [zd_cls, List.mem_cons, Prod.mk.injEq, List.not_mem_nil, or_false] at hk
    rcases hk with ⟨rfl, rfl⟩ | ⟨rfl, rfl⟩ | ⟨rfl, rfl⟩ | ⟨rfl, rfl⟩ | ⟨rfl, rfl⟩ | ⟨rfl, rfl⟩ | ⟨rfl, rfl⟩
    · exact zdc_w1 _ hm
    · exact zdc_w3 _ hm
    · exact zdc_w4 _ hm
    · exact zdc_w6 _ hm
    · exact zdc_w8 _ hm
    · exact zdc_w9 _ hm
    · exact zdc_w12 _ hm
theorem zd_oiI : Cond.instanceMethod Lib.objectInit ∈ zi_gw := zi_gwI 85 (by decide +kernel) rfl
theorem zd_oiC : Cond.code Lib.objectInit ⟨#[0xb1]⟩ 1 none ∈ zi_gw := zi_gwI 86 (by decide +kernel) rfl
theorem zd_acI : Cond.arrayClass .int ∈ zi_gw := zi_gwI 110 (by decide +kernel) rfl
theorem zd_acJ : Cond.arrayClass .long ∈ zi_gw := zi_gwI 1087 (by decide +kernel) rfl
theorem zd_acZ : Cond.arrayClass .boolean ∈ zi_gw := zi_gwI 1086 (by decide +kernel) rfl
