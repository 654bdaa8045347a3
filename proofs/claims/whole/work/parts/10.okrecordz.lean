/-! THE TABLES ARE RIGHT: all methods, their links -/
def zi_okA (r : zi_R) : Prop := zi_okR r ∧ ∀ q ∈ zi_cd r, zi_dk (zi_by r) q = true
def zi_okM (w : Nat) (e : Nat × zi_R × Bool × Nat × Nat) : Prop := zi_okA e.2.1 ∧ (e.2.2.1 = false → Cond.methodLink (zi_cn w) e.1 (zi_y e.2.1) ∈ zi_gw) ∧ (e.2.2.1 = true → Cond.methodLinkNest (zi_cn w) e.1 (zi_y e.2.1) "WaxWings" ∈ lw_tbl)
theorem zl_1_16 : zi_okM 1 (16, zm_X7_take, false, 570, 52) := ⟨⟨zr_X7_take, zd_X7_take⟩, fun _ => zi_gwI 570 (by decide +kernel) rfl, (fun h => by cases h)⟩
set_option maxRecDepth 100000 in
theorem zl_w1 : ∀ e ∈ (zi_at zi_lks 1).getD [], zi_okM 1 e := List.forall_mem_cons.mpr ⟨zl_1_16, fun _ h => absurd h List.not_mem_nil⟩
theorem zl_2_85 : zi_okM 2 (85, zm_X2_move, false, 643, 11) := ⟨⟨zr_X2_move, zd_X2_move⟩, fun _ => zi_gwI 643 (by decide +kernel) rfl, (fun h => by cases h)⟩
theorem zl_2_55 : zi_okM 2 (55, zm_X2_isOver, false, 647, 7) := ⟨⟨zr_X2_isOver, zd_X2_isOver⟩, fun _ => zi_gwI 647 (by decide +kernel) rfl, (fun h => by cases h)⟩
theorem zl_2_62 : zi_okM 2 (62, zm_X0_look, false, 651, 0) := ⟨⟨zr_X0_look, zd_X0_look⟩, fun _ => zi_gwI 651 (by decide +kernel) rfl, (fun h => by cases h)⟩
theorem zl_2_68 : zi_okM 2 (68, zm_X7_take, false, 653, 52) := ⟨⟨zr_X7_take, zd_X7_take⟩, fun _ => zi_gwI 653 (by decide +kernel) rfl, (fun h => by cases h)⟩
theorem zl_2_75 : zi_okM 2 (75, zm_X2_cost, false, 654, 9) := ⟨⟨zr_X2_cost, zd_X2_cost⟩, fun _ => zi_gwI 654 (by decide +kernel) rfl, (fun h => by cases h)⟩
theorem zl_2_89 : zi_okM 2 (89, zm_X2_settle, false, 655, 13) := ⟨⟨zr_X2_settle, zd_X2_settle⟩, fun _ => zi_gwI 655 (by decide +kernel) rfl, (fun h => by cases h)⟩
theorem zl_2_79 : zi_okM 2 (79, zm_X2_warmth, false, 659, 10) := ⟨⟨zr_X2_warmth, zd_X2_warmth⟩, fun _ => zi_gwI 659 (by decide +kernel) rfl, (fun h => by cases h)⟩
set_option maxRecDepth 100000 in
theorem zl_w2 : ∀ e ∈ (zi_at zi_lks 2).getD [], zi_okM 2 e := List.forall_mem_cons.mpr ⟨zl_2_85, List.forall_mem_cons.mpr ⟨zl_2_55, List.forall_mem_cons.mpr ⟨zl_2_62, List.forall_mem_cons.mpr ⟨zl_2_68, List.forall_mem_cons.mpr ⟨zl_2_75, List.forall_mem_cons.mpr ⟨zl_2_89, List.forall_mem_cons.mpr ⟨zl_2_79, fun _ h => absurd h List.not_mem_nil⟩⟩⟩⟩⟩⟩⟩
theorem zl_3_22 : zi_okM 3 (22, zm_X3_begin, false, 821, 17) := ⟨⟨zr_X3_begin, zd_X3_begin⟩, fun _ => zi_gwI 821 (by decide +kernel) rfl, (fun h => by cases h)⟩
theorem zl_3_40 : zi_okM 3 (40, zm_X7_take, false, 825, 52) := ⟨⟨zr_X7_take, zd_X7_take⟩, fun _ => zi_gwI 825 (by decide +kernel) rfl, (fun h => by cases h)⟩
theorem zl_3_26 : zi_okM 3 (26, zm_X3_chance, false, 826, 18) := ⟨⟨zr_X3_chance, zd_X3_chance⟩, fun _ => zi_gwI 826 (by decide +kernel) rfl, (fun h => by cases h)⟩
theorem zl_3_30 : zi_okM 3 (30, zm_X2_isOver, false, 830, 7) := ⟨⟨zr_X2_isOver, zd_X2_isOver⟩, fun _ => zi_gwI 830 (by decide +kernel) rfl, (fun h => by cases h)⟩
theorem zl_3_56 : zi_okM 3 (56, zm_X5_has, false, 832, 37) := ⟨⟨zr_X5_has, zd_X5_has⟩, fun _ => zi_gwI 832 (by decide +kernel) rfl, (fun h => by cases h)⟩
theorem zl_3_62 : zi_okM 3 (62, zm_X5_get, false, 833, 39) := ⟨⟨zr_X5_get, zd_X5_get⟩, fun _ => zi_gwI 833 (by decide +kernel) rfl, (fun h => by cases h)⟩
theorem zl_3_36 : zi_okM 3 (36, zm_X3_chanceBy, false, 834, 19) := ⟨⟨zr_X3_chanceBy, zd_X3_chanceBy⟩, fun _ => zi_gwI 834 (by decide +kernel) rfl, (fun h => by cases h)⟩
theorem zl_3_70 : zi_okM 3 (70, zm_X2_move, false, 838, 11) := ⟨⟨zr_X2_move, zd_X2_move⟩, fun _ => zi_gwI 838 (by decide +kernel) rfl, (fun h => by cases h)⟩
theorem zl_3_74 : zi_okM 3 (74, zm_X2_canSink, false, 839, 12) := ⟨⟨zr_X2_canSink, zd_X2_canSink⟩, fun _ => zi_gwI 839 (by decide +kernel) rfl, (fun h => by cases h)⟩
theorem zl_3_77 : zi_okM 3 (77, zm_X3_settledChance, false, 843, 20) := ⟨⟨zr_X3_settledChance, zd_X3_settledChance⟩, fun _ => zi_gwI 843 (by decide +kernel) rfl, (fun h => by cases h)⟩
theorem zl_3_83 : zi_okM 3 (83, zm_X2_settle, false, 847, 13) := ⟨⟨zr_X2_settle, zd_X2_settle⟩, fun _ => zi_gwI 847 (by decide +kernel) rfl, (fun h => by cases h)⟩
set_option maxRecDepth 100000 in
theorem zl_w3 : ∀ e ∈ (zi_at zi_lks 3).getD [], zi_okM 3 e := List.forall_mem_cons.mpr ⟨zl_3_22, List.forall_mem_cons.mpr ⟨zl_3_40, List.forall_mem_cons.mpr ⟨zl_3_26, List.forall_mem_cons.mpr ⟨zl_3_30, List.forall_mem_cons.mpr ⟨zl_3_56, List.forall_mem_cons.mpr ⟨zl_3_62, List.forall_mem_cons.mpr ⟨zl_3_36, List.forall_mem_cons.mpr ⟨zl_3_70, List.forall_mem_cons.mpr ⟨zl_3_74, List.forall_mem_cons.mpr ⟨zl_3_77, List.forall_mem_cons.mpr ⟨zl_3_83, fun _ h => absurd h List.not_mem_nil⟩⟩⟩⟩⟩⟩⟩⟩⟩⟩⟩
theorem zl_4_33 : zi_okM 4 (33, zm_X4_skipBlanks, false, 489, 25) := ⟨⟨zr_X4_skipBlanks, zd_X4_skipBlanks⟩, fun _ => zi_gwI 489 (by decide +kernel) rfl, (fun h => by cases h)⟩
theorem zl_4_66 : zi_okM 4 (66, zm_X4_here, false, 493, 24) := ⟨⟨zr_X4_here, zd_X4_here⟩, fun _ => zi_gwI 493 (by decide +kernel) rfl, (fun h => by cases h)⟩
theorem zl_4_56 : zi_okM 4 (56, zm_X5_has, false, 497, 37) := ⟨⟨zr_X5_has, zd_X5_has⟩, fun _ => zi_gwI 497 (by decide +kernel) rfl, (fun h => by cases h)⟩
theorem zl_4_62 : zi_okM 4 (62, zm_X5_get, false, 498, 39) := ⟨⟨zr_X5_get, zd_X5_get⟩, fun _ => zi_gwI 498 (by decide +kernel) rfl, (fun h => by cases h)⟩
theorem zl_4_36 : zi_okM 4 (36, zm_X4_readLines, false, 499, 26) := ⟨⟨zr_X4_readLines, zd_X4_readLines⟩, fun _ => zi_gwI 499 (by decide +kernel) rfl, (fun h => by cases h)⟩
theorem zl_4_76 : zi_okM 4 (76, zm_X4_readLine, false, 503, 27) := ⟨⟨zr_X4_readLine, zd_X4_readLine⟩, fun _ => zi_gwI 503 (by decide +kernel) rfl, (fun h => by cases h)⟩
theorem zl_4_83 : zi_okM 4 (83, zm_X4_placeOf, false, 509, 33) := ⟨⟨zr_X4_placeOf, zd_X4_placeOf⟩, fun _ => zi_gwI 509 (by decide +kernel) rfl, (fun h => by cases h)⟩
theorem zl_4_87 : zi_okM 4 (87, zm_X0_fill, false, 512, 1) := ⟨⟨zr_X0_fill, zd_X0_fill⟩, fun _ => zi_gwI 512 (by decide +kernel) rfl, (fun h => by cases h)⟩
theorem zl_4_40 : zi_okM 4 (40, zm_X4_readSun, false, 516, 28) := ⟨⟨zr_X4_readSun, zd_X4_readSun⟩, fun _ => zi_gwI 516 (by decide +kernel) rfl, (fun h => by cases h)⟩
theorem zl_4_91 : zi_okM 4 (91, zm_X4_figureBelow, false, 520, 32) := ⟨⟨zr_X4_figureBelow, zd_X4_figureBelow⟩, fun _ => zi_gwI 520 (by decide +kernel) rfl, (fun h => by cases h)⟩
theorem zl_4_43 : zi_okM 4 (43, zm_X4_readFlyers, false, 524, 29) := ⟨⟨zr_X4_readFlyers, zd_X4_readFlyers⟩, fun _ => zi_gwI 524 (by decide +kernel) rfl, (fun h => by cases h)⟩
theorem zl_4_103 : zi_okM 4 (103, zm_X4_readFlyer, false, 530, 30) := ⟨⟨zr_X4_readFlyer, zd_X4_readFlyer⟩, fun _ => zi_gwI 530 (by decide +kernel) rfl, (fun h => by cases h)⟩
theorem zl_4_107 : zi_okM 4 (107, zm_X0_look, false, 534, 0) := ⟨⟨zr_X0_look, zd_X0_look⟩, fun _ => zi_gwI 534 (by decide +kernel) rfl, (fun h => by cases h)⟩
theorem zl_4_115 : zi_okM 4 (115, zm_X1_begin, false, 538, 4) := ⟨⟨zr_X1_begin, zd_X1_begin⟩, fun _ => zi_gwI 538 (by decide +kernel) rfl, (fun h => by cases h)⟩
theorem zl_4_46 : zi_okM 4 (46, zm_X4_readEnd, false, 542, 31) := ⟨⟨zr_X4_readEnd, zd_X4_readEnd⟩, fun _ => zi_gwI 542 (by decide +kernel) rfl, (fun h => by cases h)⟩
theorem zl_4_49 : zi_okM 4 (49, zm_X0_take, false, 558, 2) := ⟨⟨zr_X0_take, zd_X0_take⟩, fun _ => zi_gwI 558 (by decide +kernel) rfl, (fun h => by cases h)⟩
theorem zl_4_53 : zi_okM 4 (53, zm_X6_take, false, 562, 51) := ⟨⟨zr_X6_take, zd_X6_take⟩, fun _ => zi_gwI 562 (by decide +kernel) rfl, (fun h => by cases h)⟩
set_option maxRecDepth 100000 in
theorem zl_w4 : ∀ e ∈ (zi_at zi_lks 4).getD [], zi_okM 4 e := List.forall_mem_cons.mpr ⟨zl_4_33, List.forall_mem_cons.mpr ⟨zl_4_66, List.forall_mem_cons.mpr ⟨zl_4_56, List.forall_mem_cons.mpr ⟨zl_4_62, List.forall_mem_cons.mpr ⟨zl_4_36, List.forall_mem_cons.mpr ⟨zl_4_76, List.forall_mem_cons.mpr ⟨zl_4_83, List.forall_mem_cons.mpr ⟨zl_4_87, List.forall_mem_cons.mpr ⟨zl_4_40, List.forall_mem_cons.mpr ⟨zl_4_91, List.forall_mem_cons.mpr ⟨zl_4_43, List.forall_mem_cons.mpr ⟨zl_4_103, List.forall_mem_cons.mpr ⟨zl_4_107, List.forall_mem_cons.mpr ⟨zl_4_115, List.forall_mem_cons.mpr ⟨zl_4_46, List.forall_mem_cons.mpr ⟨zl_4_49, List.forall_mem_cons.mpr ⟨zl_4_53, fun _ h => absurd h List.not_mem_nil⟩⟩⟩⟩⟩⟩⟩⟩⟩⟩⟩⟩⟩⟩⟩⟩⟩
theorem zl_5_23 : zi_okM 5 (23, zm_X5_has, false, 432, 37) := ⟨⟨zr_X5_has, zd_X5_has⟩, fun _ => zi_gwI 432 (by decide +kernel) rfl, (fun h => by cases h)⟩
theorem zl_5_30 : zi_okM 5 (30, zm_X5_hasRun, false, 457, 38) := ⟨⟨zr_X5_hasRun, zd_X5_hasRun⟩, fun _ => zi_gwI 457 (by decide +kernel) rfl, (fun h => by cases h)⟩
theorem zl_5_42 : zi_okM 5 (42, zm_X5_get, false, 961, 39) := ⟨⟨zr_X5_get, zd_X5_get⟩, fun _ => zi_gwI 961 (by decide +kernel) rfl, (fun h => by cases h)⟩
set_option maxRecDepth 100000 in
theorem zl_w5 : ∀ e ∈ (zi_at zi_lks 5).getD [], zi_okM 5 e := List.forall_mem_cons.mpr ⟨zl_5_23, List.forall_mem_cons.mpr ⟨zl_5_30, List.forall_mem_cons.mpr ⟨zl_5_42, fun _ h => absurd h List.not_mem_nil⟩⟩⟩
theorem zl_6_71 : zi_okM 6 (71, zm_X1_take, false, 566, 3) := ⟨⟨zr_X1_take, zd_X1_take⟩, fun _ => zi_gwI 566 (by decide +kernel) rfl, (fun h => by cases h)⟩
theorem zl_6_50 : zi_okM 6 (50, zm_X7_take, false, 574, 52) := ⟨⟨zr_X7_take, zd_X7_take⟩, fun _ => zi_gwI 574 (by decide +kernel) rfl, (fun h => by cases h)⟩
theorem zl_6_60 : zi_okM 6 (60, zm_X6_birdAt, false, 674, 45) := ⟨⟨zr_X6_birdAt, zd_X6_birdAt⟩, fun _ => zi_gwI 674 (by decide +kernel) rfl, (fun h => by cases h)⟩
theorem zl_6_36 : zi_okM 6 (36, zm_X9_isOfKind, true, 934, 114) := ⟨⟨zr_X9_isOfKind, zd_X9_isOfKind⟩, (fun h => by cases h), fun _ => List.mem_of_getElem? (i := 934) (by decide +kernel)⟩
set_option maxRecDepth 100000 in
theorem zl_w6 : ∀ e ∈ (zi_at zi_lks 6).getD [], zi_okM 6 e := List.forall_mem_cons.mpr ⟨zl_6_71, List.forall_mem_cons.mpr ⟨zl_6_50, List.forall_mem_cons.mpr ⟨zl_6_60, List.forall_mem_cons.mpr ⟨zl_6_36, fun _ h => absurd h List.not_mem_nil⟩⟩⟩⟩
theorem zl_8_26 : zi_okM 8 (26, zm_X7_take, false, 716, 52) := ⟨⟨zr_X7_take, zd_X7_take⟩, fun _ => zi_gwI 716 (by decide +kernel) rfl, (fun h => by cases h)⟩
theorem zl_8_41 : zi_okM 8 (41, zm_X2_isOver, false, 721, 7) := ⟨⟨zr_X2_isOver, zd_X2_isOver⟩, fun _ => zi_gwI 721 (by decide +kernel) rfl, (fun h => by cases h)⟩
theorem zl_8_48 : zi_okM 8 (48, zm_X2_fly, false, 723, 14) := ⟨⟨zr_X2_fly, zd_X2_fly⟩, fun _ => zi_gwI 723 (by decide +kernel) rfl, (fun h => by cases h)⟩
theorem zl_8_61 : zi_okM 8 (61, zm_X8_size, false, 734, 56) := ⟨⟨zr_X8_size, zd_X8_size⟩, fun _ => zi_gwI 734 (by decide +kernel) rfl, (fun h => by cases h)⟩
theorem zl_8_65 : zi_okM 8 (65, zm_X5_make, false, 735, 42) := ⟨⟨zr_X5_make, zd_X5_make⟩, fun _ => zi_gwI 735 (by decide +kernel) rfl, (fun h => by cases h)⟩
theorem zl_8_71 : zi_okM 8 (71, zm_X5_set, false, 736, 40) := ⟨⟨zr_X5_set, zd_X5_set⟩, fun _ => zi_gwI 736 (by decide +kernel) rfl, (fun h => by cases h)⟩
theorem zl_8_80 : zi_okM 8 (80, zm_X2_drips, false, 900, 8) := ⟨⟨zr_X2_drips, zd_X2_drips⟩, fun _ => zi_gwI 900 (by decide +kernel) rfl, (fun h => by cases h)⟩
set_option maxRecDepth 100000 in
theorem zl_w8 : ∀ e ∈ (zi_at zi_lks 8).getD [], zi_okM 8 e := List.forall_mem_cons.mpr ⟨zl_8_26, List.forall_mem_cons.mpr ⟨zl_8_41, List.forall_mem_cons.mpr ⟨zl_8_48, List.forall_mem_cons.mpr ⟨zl_8_61, List.forall_mem_cons.mpr ⟨zl_8_65, List.forall_mem_cons.mpr ⟨zl_8_71, List.forall_mem_cons.mpr ⟨zl_8_80, fun _ h => absurd h List.not_mem_nil⟩⟩⟩⟩⟩⟩⟩
theorem zl_9_89 : zi_okM 9 (89, zm_X9_rowAt, false, 389, 108) := ⟨⟨zr_X9_rowAt, zd_X9_rowAt⟩, fun _ => zi_gwI 389 (by decide +kernel) rfl, (fun h => by cases h)⟩
theorem zl_9_93 : zi_okM 9 (93, zm_X9_madeAnew, false, 393, 110) := ⟨⟨zr_X9_madeAnew, zd_X9_madeAnew⟩, fun _ => zi_gwI 393 (by decide +kernel) rfl, (fun h => by cases h)⟩
theorem zl_9_354 : zi_okM 9 (354, zm_X5_room, false, 397, 34) := ⟨⟨zr_X5_room, zd_X5_room⟩, fun _ => zi_gwI 397 (by decide +kernel) rfl, (fun h => by cases h)⟩
theorem zl_9_101 : zi_okM 9 (101, zm_X9_refuse, false, 401, 111) := ⟨⟨zr_X9_refuse, zd_X9_refuse⟩, fun _ => zi_gwI 401 (by decide +kernel) rfl, (fun h => by cases h)⟩
theorem zl_9_315 : zi_okM 9 (315, zm_X5_make, false, 405, 42) := ⟨⟨zr_X5_make, zd_X5_make⟩, fun _ => zi_gwI 405 (by decide +kernel) rfl, (fun h => by cases h)⟩
theorem zl_9_97 : zi_okM 9 (97, zm_X5_isThere, false, 416, 36) := ⟨⟨zr_X5_isThere, zd_X5_isThere⟩, fun _ => zi_gwI 416 (by decide +kernel) rfl, (fun h => by cases h)⟩
theorem zl_9_105 : zi_okM 9 (105, zm_X5_has, false, 420, 37) := ⟨⟨zr_X5_has, zd_X5_has⟩, fun _ => zi_gwI 420 (by decide +kernel) rfl, (fun h => by cases h)⟩
theorem zl_9_109 : zi_okM 9 (109, zm_X5_get, false, 424, 39) := ⟨⟨zr_X5_get, zd_X5_get⟩, fun _ => zi_gwI 424 (by decide +kernel) rfl, (fun h => by cases h)⟩
theorem zl_9_116 : zi_okM 9 (116, zm_X5_set, false, 428, 40) := ⟨⟨zr_X5_set, zd_X5_set⟩, fun _ => zi_gwI 428 (by decide +kernel) rfl, (fun h => by cases h)⟩
theorem zl_9_120 : zi_okM 9 (120, zm_X5_drop, false, 441, 41) := ⟨⟨zr_X5_drop, zd_X5_drop⟩, fun _ => zi_gwI 441 (by decide +kernel) rfl, (fun h => by cases h)⟩
theorem zl_9_123 : zi_okM 9 (123, zm_X5_hasRun, false, 449, 38) := ⟨⟨zr_X5_hasRun, zd_X5_hasRun⟩, fun _ => zi_gwI 449 (by decide +kernel) rfl, (fun h => by cases h)⟩
theorem zl_9_127 : zi_okM 9 (127, zm_X5_takeRun, false, 453, 43) := ⟨⟨zr_X5_takeRun, zd_X5_takeRun⟩, fun _ => zi_gwI 453 (by decide +kernel) rfl, (fun h => by cases h)⟩
theorem zl_9_131 : zi_okM 9 (131, zm_X5_size, false, 465, 35) := ⟨⟨zr_X5_size, zd_X5_size⟩, fun _ => zi_gwI 465 (by decide +kernel) rfl, (fun h => by cases h)⟩
theorem zl_9_135 : zi_okM 9 (135, zm_X9_textAt, false, 473, 109) := ⟨⟨zr_X9_textAt, zd_X9_textAt⟩, fun _ => zi_gwI 473 (by decide +kernel) rfl, (fun h => by cases h)⟩
theorem zl_9_138 : zi_okM 9 (138, zm_X4_read, false, 485, 22) := ⟨⟨zr_X4_read, zd_X4_read⟩, fun _ => zi_gwI 485 (by decide +kernel) rfl, (fun h => by cases h)⟩
theorem zl_9_142 : zi_okM 9 (142, zm_X4_place, false, 546, 21) := ⟨⟨zr_X4_place, zd_X4_place⟩, fun _ => zi_gwI 546 (by decide +kernel) rfl, (fun h => by cases h)⟩
theorem zl_9_145 : zi_okM 9 (145, zm_X4_hand, false, 554, 23) := ⟨⟨zr_X4_hand, zd_X4_hand⟩, fun _ => zi_gwI 554 (by decide +kernel) rfl, (fun h => by cases h)⟩
theorem zl_9_149 : zi_okM 9 (149, zm_X6_drop, false, 575, 50) := ⟨⟨zr_X6_drop, zd_X6_drop⟩, fun _ => zi_gwI 575 (by decide +kernel) rfl, (fun h => by cases h)⟩
theorem zl_9_153 : zi_okM 9 (153, zm_X6_birdAt, false, 583, 45) := ⟨⟨zr_X6_birdAt, zd_X6_birdAt⟩, fun _ => zi_gwI 583 (by decide +kernel) rfl, (fun h => by cases h)⟩
theorem zl_9_157 : zi_okM 9 (157, zm_X1_tell, false, 587, 5) := ⟨⟨zr_X1_tell, zd_X1_tell⟩, fun _ => zi_gwI 587 (by decide +kernel) rfl, (fun h => by cases h)⟩
theorem zl_9_165 : zi_okM 9 (165, zm_X9_isOfKind, false, 595, 114) := ⟨⟨zr_X9_isOfKind, zd_X9_isOfKind⟩, fun _ => zi_gwI 595 (by decide +kernel) rfl, (fun h => by cases h)⟩
theorem zl_9_171 : zi_okM 9 (171, zm_X2_board, false, 598, 6) := ⟨⟨zr_X2_board, zd_X2_board⟩, fun _ => zi_gwI 598 (by decide +kernel) rfl, (fun h => by cases h)⟩
theorem zl_9_175 : zi_okM 9 (175, zm_X2_cost, false, 602, 9) := ⟨⟨zr_X2_cost, zd_X2_cost⟩, fun _ => zi_gwI 602 (by decide +kernel) rfl, (fun h => by cases h)⟩
theorem zl_9_181 : zi_okM 9 (181, zm_X2_warmth, false, 607, 10) := ⟨⟨zr_X2_warmth, zd_X2_warmth⟩, fun _ => zi_gwI 607 (by decide +kernel) rfl, (fun h => by cases h)⟩
theorem zl_9_193 : zi_okM 9 (193, zm_X6_othersIn, false, 611, 47) := ⟨⟨zr_X6_othersIn, zd_X6_othersIn⟩, fun _ => zi_gwI 611 (by decide +kernel) rfl, (fun h => by cases h)⟩
theorem zl_9_197 : zi_okM 9 (197, zm_X0_look, false, 619, 0) := ⟨⟨zr_X0_look, zd_X0_look⟩, fun _ => zi_gwI 619 (by decide +kernel) rfl, (fun h => by cases h)⟩
theorem zl_9_203 : zi_okM 9 (203, zm_X9_isBeat, false, 632, 113) := ⟨⟨zr_X9_isBeat, zd_X9_isBeat⟩, fun _ => zi_gwI 632 (by decide +kernel) rfl, (fun h => by cases h)⟩
theorem zl_9_206 : zi_okM 9 (206, zm_X9_perform, false, 635, 116) := ⟨⟨zr_X9_perform, zd_X9_perform⟩, fun _ => zi_gwI 635 (by decide +kernel) rfl, (fun h => by cases h)⟩
theorem zl_9_223 : zi_okM 9 (223, zm_X2_fly, false, 639, 14) := ⟨⟨zr_X2_fly, zd_X2_fly⟩, fun _ => zi_gwI 639 (by decide +kernel) rfl, (fun h => by cases h)⟩
theorem zl_9_357 : zi_okM 9 (357, zm_X6_note, false, 660, 48) := ⟨⟨zr_X6_note, zd_X6_note⟩, fun _ => zi_gwI 660 (by decide +kernel) rfl, (fun h => by cases h)⟩
theorem zl_9_242 : zi_okM 9 (242, zm_X7_take, false, 664, 52) := ⟨⟨zr_X7_take, zd_X7_take⟩, fun _ => zi_gwI 664 (by decide +kernel) rfl, (fun h => by cases h)⟩
theorem zl_9_213 : zi_okM 9 (213, zm_X6_goBack, false, 669, 49) := ⟨⟨zr_X6_goBack, zd_X6_goBack⟩, fun _ => zi_gwI 669 (by decide +kernel) rfl, (fun h => by cases h)⟩
theorem zl_9_219 : zi_okM 9 (219, zm_X2_isOver, false, 679, 7) := ⟨⟨zr_X2_isOver, zd_X2_isOver⟩, fun _ => zi_gwI 679 (by decide +kernel) rfl, (fun h => by cases h)⟩
theorem zl_9_227 : zi_okM 9 (227, zm_X9_openBeats, false, 684, 117) := ⟨⟨zr_X9_openBeats, zd_X9_openBeats⟩, fun _ => zi_gwI 684 (by decide +kernel) rfl, (fun h => by cases h)⟩
theorem zl_9_231 : zi_okM 9 (231, zm_X6_take, false, 692, 51) := ⟨⟨zr_X6_take, zd_X6_take⟩, fun _ => zi_gwI 692 (by decide +kernel) rfl, (fun h => by cases h)⟩
theorem zl_9_239 : zi_okM 9 (239, zm_X9_holdsBeatsAlone, false, 701, 115) := ⟨⟨zr_X9_holdsBeatsAlone, zd_X9_holdsBeatsAlone⟩, fun _ => zi_gwI 701 (by decide +kernel) rfl, (fun h => by cases h)⟩
theorem zl_9_245 : zi_okM 9 (245, zm_X9_setOut, false, 708, 119) := ⟨⟨zr_X9_setOut, zd_X9_setOut⟩, fun _ => zi_gwI 708 (by decide +kernel) rfl, (fun h => by cases h)⟩
theorem zl_9_361 : zi_okM 9 (361, zm_X8_start, false, 712, 53) := ⟨⟨zr_X8_start, zd_X8_start⟩, fun _ => zi_gwI 712 (by decide +kernel) rfl, (fun h => by cases h)⟩
theorem zl_9_249 : zi_okM 9 (249, zm_X8_findNext, false, 717, 55) := ⟨⟨zr_X8_findNext, zd_X8_findNext⟩, fun _ => zi_gwI 717 (by decide +kernel) rfl, (fun h => by cases h)⟩
theorem zl_9_252 : zi_okM 9 (252, zm_X8_size, false, 724, 56) := ⟨⟨zr_X8_size, zd_X8_size⟩, fun _ => zi_gwI 724 (by decide +kernel) rfl, (fun h => by cases h)⟩
theorem zl_9_253 : zi_okM 9 (253, zm_X8_write, false, 730, 58) := ⟨⟨zr_X8_write, zd_X8_write⟩, fun _ => zi_gwI 730 (by decide +kernel) rfl, (fun h => by cases h)⟩
theorem zl_9_257 : zi_okM 9 (257, zm_X8_end, false, 741, 57) := ⟨⟨zr_X8_end, zd_X8_end⟩, fun _ => zi_gwI 741 (by decide +kernel) rfl, (fun h => by cases h)⟩
theorem zl_9_264 : zi_okM 9 (264, zm_X9_tell, false, 749, 112) := ⟨⟨zr_X9_tell, zd_X9_tell⟩, fun _ => zi_gwI 749 (by decide +kernel) rfl, (fun h => by cases h)⟩
theorem zl_9_267 : zi_okM 9 (267, zm_X8_heightsIn, false, 757, 59) := ⟨⟨zr_X8_heightsIn, zd_X8_heightsIn⟩, fun _ => zi_gwI 757 (by decide +kernel) rfl, (fun h => by cases h)⟩
theorem zl_9_273 : zi_okM 9 (273, zm_X9_hasWay, false, 769, 120) := ⟨⟨zr_X9_hasWay, zd_X9_hasWay⟩, fun _ => zi_gwI 769 (by decide +kernel) rfl, (fun h => by cases h)⟩
theorem zl_9_276 : zi_okM 9 (276, zm_X8_strengthen, false, 777, 54) := ⟨⟨zr_X8_strengthen, zd_X8_strengthen⟩, fun _ => zi_gwI 777 (by decide +kernel) rfl, (fun h => by cases h)⟩
theorem zl_9_287 : zi_okM 9 (287, zm_X9_loadsOf, false, 798, 121) := ⟨⟨zr_X9_loadsOf, zd_X9_loadsOf⟩, fun _ => zi_gwI 798 (by decide +kernel) rfl, (fun h => by cases h)⟩
theorem zl_9_290 : zi_okM 9 (290, zm_X9_carriersOf, false, 802, 123) := ⟨⟨zr_X9_carriersOf, zd_X9_carriersOf⟩, fun _ => zi_gwI 802 (by decide +kernel) rfl, (fun h => by cases h)⟩
theorem zl_9_364 : zi_okM 9 (364, zm_X9_shareOf, false, 806, 122) := ⟨⟨zr_X9_shareOf, zd_X9_shareOf⟩, fun _ => zi_gwI 806 (by decide +kernel) rfl, (fun h => by cases h)⟩
theorem zl_9_293 : zi_okM 9 (293, zm_X9_writeShares, false, 809, 124) := ⟨⟨zr_X9_writeShares, zd_X9_writeShares⟩, fun _ => zi_gwI 809 (by decide +kernel) rfl, (fun h => by cases h)⟩
theorem zl_9_297 : zi_okM 9 (297, zm_X3_chanceOf, false, 817, 15) := ⟨⟨zr_X3_chanceOf, zd_X3_chanceOf⟩, fun _ => zi_gwI 817 (by decide +kernel) rfl, (fun h => by cases h)⟩
theorem zl_9_303 : zi_okM 9 (303, zm_X3_bestBeat, false, 858, 16) := ⟨⟨zr_X3_bestBeat, zd_X3_bestBeat⟩, fun _ => zi_gwI 858 (by decide +kernel) rfl, (fun h => by cases h)⟩
theorem zl_9_307 : zi_okM 9 (307, zm_J6_bitCount_0f7a4, false, 866, 220) := ⟨⟨zr_J6_bitCount_0f7a4, zd_J6_bitCount_0f7a4⟩, fun _ => zi_gwI 866 (by decide +kernel) rfl, (fun h => by cases h)⟩
theorem zl_9_312 : zi_okM 9 (312, zm_X9_farthestFrom, false, 872, 126) := ⟨⟨zr_X9_farthestFrom, zd_X9_farthestFrom⟩, fun _ => zi_gwI 872 (by decide +kernel) rfl, (fun h => by cases h)⟩
theorem zl_9_318 : zi_okM 9 (318, zm_X9_hasBoat, false, 876, 125) := ⟨⟨zr_X9_hasBoat, zd_X9_hasBoat⟩, fun _ => zi_gwI 876 (by decide +kernel) rfl, (fun h => by cases h)⟩
theorem zl_9_321 : zi_okM 9 (321, zm_X2_drips, false, 888, 8) := ⟨⟨zr_X2_drips, zd_X2_drips⟩, fun _ => zi_gwI 888 (by decide +kernel) rfl, (fun h => by cases h)⟩
theorem zl_9_327 : zi_okM 9 (327, zm_X8_dripColumns, false, 896, 60) := ⟨⟨zr_X8_dripColumns, zd_X8_dripColumns⟩, fun _ => zi_gwI 896 (by decide +kernel) rfl, (fun h => by cases h)⟩
theorem zl_9_334 : zi_okM 9 (334, zm_X9_bitAt, false, 907, 118) := ⟨⟨zr_X9_bitAt, zd_X9_bitAt⟩, fun _ => zi_gwI 907 (by decide +kernel) rfl, (fun h => by cases h)⟩
theorem zl_9_340 : zi_okM 9 (340, zm_X9_tally, false, 926, 127) := ⟨⟨zr_X9_tally, zd_X9_tally⟩, fun _ => zi_gwI 926 (by decide +kernel) rfl, (fun h => by cases h)⟩
theorem zl_9_373 : zi_okM 9 (373, zm_X6_oldOnes, false, 930, 46) := ⟨⟨zr_X6_oldOnes, zd_X6_oldOnes⟩, fun _ => zi_gwI 930 (by decide +kernel) rfl, (fun h => by cases h)⟩
theorem zl_9_376 : zi_okM 9 (376, zm_X9_thereOf, false, 935, 128) := ⟨⟨zr_X9_thereOf, zd_X9_thereOf⟩, fun _ => zi_gwI 935 (by decide +kernel) rfl, (fun h => by cases h)⟩
theorem zl_9_380 : zi_okM 9 (380, zm_X9_keptSkies, false, 938, 129) := ⟨⟨zr_X9_keptSkies, zd_X9_keptSkies⟩, fun _ => zi_gwI 938 (by decide +kernel) rfl, (fun h => by cases h)⟩
theorem zl_9_350 : zi_okM 9 (350, zm_X5_digestOn, false, 956, 44) := ⟨⟨zr_X5_digestOn, zd_X5_digestOn⟩, fun _ => zi_gwI 956 (by decide +kernel) rfl, (fun h => by cases h)⟩
set_option maxRecDepth 100000 in
theorem zl_w9 : ∀ e ∈ (zi_at zi_lks 9).getD [], zi_okM 9 e := List.forall_mem_cons.mpr ⟨zl_9_89, List.forall_mem_cons.mpr ⟨zl_9_93, List.forall_mem_cons.mpr ⟨zl_9_354, List.forall_mem_cons.mpr ⟨zl_9_101, List.forall_mem_cons.mpr ⟨zl_9_315, List.forall_mem_cons.mpr ⟨zl_9_97, List.forall_mem_cons.mpr ⟨zl_9_105, List.forall_mem_cons.mpr ⟨zl_9_109, List.forall_mem_cons.mpr ⟨zl_9_116, List.forall_mem_cons.mpr ⟨zl_9_120, List.forall_mem_cons.mpr ⟨zl_9_123, List.forall_mem_cons.mpr ⟨zl_9_127, List.forall_mem_cons.mpr ⟨zl_9_131, List.forall_mem_cons.mpr ⟨zl_9_135, List.forall_mem_cons.mpr ⟨zl_9_138, List.forall_mem_cons.mpr ⟨zl_9_142, List.forall_mem_cons.mpr ⟨zl_9_145, List.forall_mem_cons.mpr ⟨zl_9_149, List.forall_mem_cons.mpr ⟨zl_9_153, List.forall_mem_cons.mpr ⟨zl_9_157, List.forall_mem_cons.mpr ⟨zl_9_165, List.forall_mem_cons.mpr ⟨zl_9_171, List.forall_mem_cons.mpr ⟨zl_9_175, List.forall_mem_cons.mpr ⟨zl_9_181, List.forall_mem_cons.mpr ⟨zl_9_193, List.forall_mem_cons.mpr ⟨zl_9_197, List.forall_mem_cons.mpr ⟨zl_9_203, List.forall_mem_cons.mpr ⟨zl_9_206, List.forall_mem_cons.mpr ⟨zl_9_223, List.forall_mem_cons.mpr ⟨zl_9_357, List.forall_mem_cons.mpr ⟨zl_9_242, List.forall_mem_cons.mpr ⟨zl_9_213, List.forall_mem_cons.mpr ⟨zl_9_219, List.forall_mem_cons.mpr ⟨zl_9_227, List.forall_mem_cons.mpr ⟨zl_9_231, List.forall_mem_cons.mpr ⟨zl_9_239, List.forall_mem_cons.mpr ⟨zl_9_245, List.forall_mem_cons.mpr ⟨zl_9_361, List.forall_mem_cons.mpr ⟨zl_9_249, List.forall_mem_cons.mpr ⟨zl_9_252, List.forall_mem_cons.mpr ⟨zl_9_253, List.forall_mem_cons.mpr ⟨zl_9_257, List.forall_mem_cons.mpr ⟨zl_9_264, List.forall_mem_cons.mpr ⟨zl_9_267, List.forall_mem_cons.mpr ⟨zl_9_273, List.forall_mem_cons.mpr ⟨zl_9_276, List.forall_mem_cons.mpr ⟨zl_9_287, List.forall_mem_cons.mpr ⟨zl_9_290, List.forall_mem_cons.mpr ⟨zl_9_364, List.forall_mem_cons.mpr ⟨zl_9_293, List.forall_mem_cons.mpr ⟨zl_9_297, List.forall_mem_cons.mpr ⟨zl_9_303, List.forall_mem_cons.mpr ⟨zl_9_307, List.forall_mem_cons.mpr ⟨zl_9_312, List.forall_mem_cons.mpr ⟨zl_9_318, List.forall_mem_cons.mpr ⟨zl_9_321, List.forall_mem_cons.mpr ⟨zl_9_327, List.forall_mem_cons.mpr ⟨zl_9_334, List.forall_mem_cons.mpr ⟨zl_9_340, List.forall_mem_cons.mpr ⟨zl_9_373, List.forall_mem_cons.mpr ⟨zl_9_376, List.forall_mem_cons.mpr ⟨zl_9_380, List.forall_mem_cons.mpr ⟨zl_9_350, fun _ h => absurd h List.not_mem_nil⟩⟩⟩⟩⟩⟩⟩⟩⟩⟩⟩⟩⟩⟩⟩⟩⟩⟩⟩⟩⟩⟩⟩⟩⟩⟩⟩⟩⟩⟩⟩⟩⟩⟩⟩⟩⟩⟩⟩⟩⟩⟩⟩⟩⟩⟩⟩⟩⟩⟩⟩⟩⟩⟩⟩⟩⟩⟩⟩⟩⟩⟩⟩
theorem zl_10_91 : zi_okM 10 (91, zm_X10_isRow, false, 1092, 134) := ⟨⟨zr_X10_isRow, zd_X10_isRow⟩, fun _ => zi_gwI 1092 (by decide +kernel) rfl, (fun h => by cases h)⟩
theorem zl_10_85 : zi_okM 10 (85, zm_X10_in, false, 1096, 130) := ⟨⟨zr_X10_in, zd_X10_in⟩, fun _ => zi_gwI 1096 (by decide +kernel) rfl, (fun h => by cases h)⟩
theorem zl_10_95 : zi_okM 10 (95, zm_X10_finds, false, 1099, 132) := ⟨⟨zr_X10_finds, zd_X10_finds⟩, fun _ => zi_gwI 1099 (by decide +kernel) rfl, (fun h => by cases h)⟩
theorem zl_10_99 : zi_okM 10 (99, zm_X10_tells, false, 1107, 133) := ⟨⟨zr_X10_tells, zd_X10_tells⟩, fun _ => zi_gwI 1107 (by decide +kernel) rfl, (fun h => by cases h)⟩
theorem zl_10_102 : zi_okM 10 (102, zm_X10_isText, false, 1131, 135) := ⟨⟨zr_X10_isText, zd_X10_isText⟩, fun _ => zi_gwI 1131 (by decide +kernel) rfl, (fun h => by cases h)⟩
theorem zl_10_144 : zi_okM 10 (144, zm_X10_faultOf, false, 1143, 153) := ⟨⟨zr_X10_faultOf, zd_X10_faultOf⟩, fun _ => zi_gwI 1143 (by decide +kernel) rfl, (fun h => by cases h)⟩
theorem zl_10_141 : zi_okM 10 (141, zm_X10_reads, false, 1147, 152) := ⟨⟨zr_X10_reads, zd_X10_reads⟩, fun _ => zi_gwI 1147 (by decide +kernel) rfl, (fun h => by cases h)⟩
theorem zl_10_132 : zi_okM 10 (132, zm_X10_readsAir, false, 1151, 150) := ⟨⟨zr_X10_readsAir, zd_X10_readsAir⟩, fun _ => zi_gwI 1151 (by decide +kernel) rfl, (fun h => by cases h)⟩
theorem zl_10_114 : zi_okM 10 (114, zm_X10_sign, false, 1155, 145) := ⟨⟨zr_X10_sign, zd_X10_sign⟩, fun _ => zi_gwI 1155 (by decide +kernel) rfl, (fun h => by cases h)⟩
theorem zl_10_122 : zi_okM 10 (122, zm_X10_airOf, false, 1159, 147) := ⟨⟨zr_X10_airOf, zd_X10_airOf⟩, fun _ => zi_gwI 1159 (by decide +kernel) rfl, (fun h => by cases h)⟩
theorem zl_10_128 : zi_okM 10 (128, zm_X10_isFigure, false, 1162, 149) := ⟨⟨zr_X10_isFigure, zd_X10_isFigure⟩, fun _ => zi_gwI 1162 (by decide +kernel) rfl, (fun h => by cases h)⟩
theorem zl_10_135 : zi_okM 10 (135, zm_X10_isRest, false, 1168, 146) := ⟨⟨zr_X10_isRest, zd_X10_isRest⟩, fun _ => zi_gwI 1168 (by decide +kernel) rfl, (fun h => by cases h)⟩
theorem zl_10_138 : zi_okM 10 (138, zm_X10_readsFlyer, false, 1172, 151) := ⟨⟨zr_X10_readsFlyer, zd_X10_readsFlyer⟩, fun _ => zi_gwI 1172 (by decide +kernel) rfl, (fun h => by cases h)⟩
theorem zl_10_125 : zi_okM 10 (125, zm_X10_kindOf, false, 1176, 148) := ⟨⟨zr_X10_kindOf, zd_X10_kindOf⟩, fun _ => zi_gwI 1176 (by decide +kernel) rfl, (fun h => by cases h)⟩
theorem zl_10_147 : zi_okM 10 (147, zm_X10_isFlyer, false, 1187, 136) := ⟨⟨zr_X10_isFlyer, zd_X10_isFlyer⟩, fun _ => zi_gwI 1187 (by decide +kernel) rfl, (fun h => by cases h)⟩
theorem zl_10_208 : zi_okM 10 (208, zm_X10_takes, false, 1196, 157) := ⟨⟨zr_X10_takes, zd_X10_takes⟩, fun _ => zi_gwI 1196 (by decide +kernel) rfl, (fun h => by cases h)⟩
theorem zl_10_182 : zi_okM 10 (182, zm_X10_last, false, 1200, 159) := ⟨⟨zr_X10_last, zd_X10_last⟩, fun _ => zi_gwI 1200 (by decide +kernel) rfl, (fun h => by cases h)⟩
theorem zl_10_198 : zi_okM 10 (198, zm_X10_costs, false, 1204, 163) := ⟨⟨zr_X10_costs, zd_X10_costs⟩, fun _ => zi_gwI 1204 (by decide +kernel) rfl, (fun h => by cases h)⟩
theorem zl_10_195 : zi_okM 10 (195, zm_X10_more, false, 1208, 131) := ⟨⟨zr_X10_more, zd_X10_more⟩, fun _ => zi_gwI 1208 (by decide +kernel) rfl, (fun h => by cases h)⟩
theorem zl_10_185 : zi_okM 10 (185, zm_X10_airAt, false, 1215, 158) := ⟨⟨zr_X10_airAt, zd_X10_airAt⟩, fun _ => zi_gwI 1215 (by decide +kernel) rfl, (fun h => by cases h)⟩
theorem zl_10_221 : zi_okM 10 (221, zm_X10_canBeat, false, 1233, 162) := ⟨⟨zr_X10_canBeat, zd_X10_canBeat⟩, fun _ => zi_gwI 1233 (by decide +kernel) rfl, (fun h => by cases h)⟩
theorem zl_10_189 : zi_okM 10 (189, zm_X10_isOver, false, 1237, 160) := ⟨⟨zr_X10_isOver, zd_X10_isOver⟩, fun _ => zi_gwI 1237 (by decide +kernel) rfl, (fun h => by cases h)⟩
theorem zl_10_192 : zi_okM 10 (192, zm_X10_columnBehind, false, 1241, 161) := ⟨⟨zr_X10_columnBehind, zd_X10_columnBehind⟩, fun _ => zi_gwI 1241 (by decide +kernel) rfl, (fun h => by cases h)⟩
theorem zl_10_224 : zi_okM 10 (224, zm_X10_does, false, 1245, 172) := ⟨⟨zr_X10_does, zd_X10_does⟩, fun _ => zi_gwI 1245 (by decide +kernel) rfl, (fun h => by cases h)⟩
theorem zl_10_213 : zi_okM 10 (213, zm_X10_beats, false, 1249, 166) := ⟨⟨zr_X10_beats, zd_X10_beats⟩, fun _ => zi_gwI 1249 (by decide +kernel) rfl, (fun h => by cases h)⟩
theorem zl_10_201 : zi_okM 10 (201, zm_X10_moves, false, 1253, 164) := ⟨⟨zr_X10_moves, zd_X10_moves⟩, fun _ => zi_gwI 1253 (by decide +kernel) rfl, (fun h => by cases h)⟩
theorem zl_10_205 : zi_okM 10 (205, zm_X10_settles, false, 1257, 165) := ⟨⟨zr_X10_settles, zd_X10_settles⟩, fun _ => zi_gwI 1257 (by decide +kernel) rfl, (fun h => by cases h)⟩
theorem zl_10_216 : zi_okM 10 (216, zm_X10_keeps, false, 1261, 171) := ⟨⟨zr_X10_keeps, zd_X10_keeps⟩, fun _ => zi_gwI 1261 (by decide +kernel) rfl, (fun h => by cases h)⟩
theorem zl_10_228 : zi_okM 10 (228, zm_X10_hasFallen, false, 1289, 179) := ⟨⟨zr_X10_hasFallen, zd_X10_hasFallen⟩, fun _ => zi_gwI 1289 (by decide +kernel) rfl, (fun h => by cases h)⟩
theorem zl_10_231 : zi_okM 10 (231, zm_X10_areBeats, false, 1293, 180) := ⟨⟨zr_X10_areBeats, zd_X10_areBeats⟩, fun _ => zi_gwI 1293 (by decide +kernel) rfl, (fun h => by cases h)⟩
theorem zl_10_240 : zi_okM 10 (240, zm_X10_goes, false, 1301, 182) := ⟨⟨zr_X10_goes, zd_X10_goes⟩, fun _ => zi_gwI 1301 (by decide +kernel) rfl, (fun h => by cases h)⟩
theorem zl_10_243 : zi_okM 10 (243, zm_X10_lays, false, 1305, 183) := ⟨⟨zr_X10_lays, zd_X10_lays⟩, fun _ => zi_gwI 1305 (by decide +kernel) rfl, (fun h => by cases h)⟩
theorem zl_10_253 : zi_okM 10 (253, zm_X10_least, false, 1329, 190) := ⟨⟨zr_X10_least, zd_X10_least⟩, fun _ => zi_gwI 1329 (by decide +kernel) rfl, (fun h => by cases h)⟩
theorem zl_10_249 : zi_okM 10 (249, zm_X10_mayGo, false, 1333, 189) := ⟨⟨zr_X10_mayGo, zd_X10_mayGo⟩, fun _ => zi_gwI 1333 (by decide +kernel) rfl, (fun h => by cases h)⟩
theorem zl_10_257 : zi_okM 10 (257, zm_X10_greatest, false, 1345, 191) := ⟨⟨zr_X10_greatest, zd_X10_greatest⟩, fun _ => zi_gwI 1345 (by decide +kernel) rfl, (fun h => by cases h)⟩
theorem zl_10_279 : zi_okM 10 (279, zm_X10_chances, false, 1366, 202) := ⟨⟨zr_X10_chances, zd_X10_chances⟩, fun _ => zi_gwI 1366 (by decide +kernel) rfl, (fun h => by cases h)⟩
theorem zl_10_262 : zi_okM 10 (262, zm_X10_lies, false, 1370, 198) := ⟨⟨zr_X10_lies, zd_X10_lies⟩, fun _ => zi_gwI 1370 (by decide +kernel) rfl, (fun h => by cases h)⟩
theorem zl_10_265 : zi_okM 10 (265, zm_X10_stands, false, 1374, 199) := ⟨⟨zr_X10_stands, zd_X10_stands⟩, fun _ => zi_gwI 1374 (by decide +kernel) rfl, (fun h => by cases h)⟩
theorem zl_10_268 : zi_okM 10 (268, zm_X10_twelves, false, 1378, 200) := ⟨⟨zr_X10_twelves, zd_X10_twelves⟩, fun _ => zi_gwI 1378 (by decide +kernel) rfl, (fun h => by cases h)⟩
theorem zl_10_272 : zi_okM 10 (272, zm_X10_mayGust, false, 1381, 201) := ⟨⟨zr_X10_mayGust, zd_X10_mayGust⟩, fun _ => zi_gwI 1381 (by decide +kernel) rfl, (fun h => by cases h)⟩
theorem zl_10_283 : zi_okM 10 (283, zm_X10_chanceIs, false, 1385, 204) := ⟨⟨zr_X10_chanceIs, zd_X10_chanceIs⟩, fun _ => zi_gwI 1385 (by decide +kernel) rfl, (fun h => by cases h)⟩
theorem zl_10_275 : zi_okM 10 (275, zm_X10_divisor, false, 1389, 203) := ⟨⟨zr_X10_divisor, zd_X10_divisor⟩, fun _ => zi_gwI 1389 (by decide +kernel) rfl, (fun h => by cases h)⟩
theorem zl_10_297 : zi_okM 10 (297, zm_X10_countOf, false, 1437, 215) := ⟨⟨zr_X10_countOf, zd_X10_countOf⟩, fun _ => zi_gwI 1437 (by decide +kernel) rfl, (fun h => by cases h)⟩
set_option maxRecDepth 100000 in
theorem zl_w10 : ∀ e ∈ (zi_at zi_lks 10).getD [], zi_okM 10 e := List.forall_mem_cons.mpr ⟨zl_10_91, List.forall_mem_cons.mpr ⟨zl_10_85, List.forall_mem_cons.mpr ⟨zl_10_95, List.forall_mem_cons.mpr ⟨zl_10_99, List.forall_mem_cons.mpr ⟨zl_10_102, List.forall_mem_cons.mpr ⟨zl_10_144, List.forall_mem_cons.mpr ⟨zl_10_141, List.forall_mem_cons.mpr ⟨zl_10_132, List.forall_mem_cons.mpr ⟨zl_10_114, List.forall_mem_cons.mpr ⟨zl_10_122, List.forall_mem_cons.mpr ⟨zl_10_128, List.forall_mem_cons.mpr ⟨zl_10_135, List.forall_mem_cons.mpr ⟨zl_10_138, List.forall_mem_cons.mpr ⟨zl_10_125, List.forall_mem_cons.mpr ⟨zl_10_147, List.forall_mem_cons.mpr ⟨zl_10_208, List.forall_mem_cons.mpr ⟨zl_10_182, List.forall_mem_cons.mpr ⟨zl_10_198, List.forall_mem_cons.mpr ⟨zl_10_195, List.forall_mem_cons.mpr ⟨zl_10_185, List.forall_mem_cons.mpr ⟨zl_10_221, List.forall_mem_cons.mpr ⟨zl_10_189, List.forall_mem_cons.mpr ⟨zl_10_192, List.forall_mem_cons.mpr ⟨zl_10_224, List.forall_mem_cons.mpr ⟨zl_10_213, List.forall_mem_cons.mpr ⟨zl_10_201, List.forall_mem_cons.mpr ⟨zl_10_205, List.forall_mem_cons.mpr ⟨zl_10_216, List.forall_mem_cons.mpr ⟨zl_10_228, List.forall_mem_cons.mpr ⟨zl_10_231, List.forall_mem_cons.mpr ⟨zl_10_240, List.forall_mem_cons.mpr ⟨zl_10_243, List.forall_mem_cons.mpr ⟨zl_10_253, List.forall_mem_cons.mpr ⟨zl_10_249, List.forall_mem_cons.mpr ⟨zl_10_257, List.forall_mem_cons.mpr ⟨zl_10_279, List.forall_mem_cons.mpr ⟨zl_10_262, List.forall_mem_cons.mpr ⟨zl_10_265, List.forall_mem_cons.mpr ⟨zl_10_268, List.forall_mem_cons.mpr ⟨zl_10_272, List.forall_mem_cons.mpr ⟨zl_10_283, List.forall_mem_cons.mpr ⟨zl_10_275, List.forall_mem_cons.mpr ⟨zl_10_297, fun _ h => absurd h List.not_mem_nil⟩⟩⟩⟩⟩⟩⟩⟩⟩⟩⟩⟩⟩⟩⟩⟩⟩⟩⟩⟩⟩⟩⟩⟩⟩⟩⟩⟩⟩⟩⟩⟩⟩⟩⟩⟩⟩⟩⟩⟩⟩⟩⟩
theorem zl_12_13 : zi_okM 12 (13, zm_X9_row, false, 385, 61) := ⟨⟨zr_X9_row, zd_X9_row⟩, fun _ => zi_gwI 385 (by decide +kernel) rfl, (fun h => by cases h)⟩
theorem zl_12_18 : zi_okM 12 (18, zm_X9_lay, false, 412, 62) := ⟨⟨zr_X9_lay, zd_X9_lay⟩, fun _ => zi_gwI 412 (by decide +kernel) rfl, (fun h => by cases h)⟩
theorem zl_12_23 : zi_okM 12 (23, zm_X9_at, false, 433, 63) := ⟨⟨zr_X9_at, zd_X9_at⟩, fun _ => zi_gwI 433 (by decide +kernel) rfl, (fun h => by cases h)⟩
theorem zl_12_27 : zi_okM 12 (27, zm_X9_tear, false, 437, 64) := ⟨⟨zr_X9_tear, zd_X9_tear⟩, fun _ => zi_gwI 437 (by decide +kernel) rfl, (fun h => by cases h)⟩
theorem zl_12_32 : zi_okM 12 (32, zm_X9_copy, false, 445, 65) := ⟨⟨zr_X9_copy, zd_X9_copy⟩, fun _ => zi_gwI 445 (by decide +kernel) rfl, (fun h => by cases h)⟩
theorem zl_12_37 : zi_okM 12 (37, zm_X9_mean, false, 461, 66) := ⟨⟨zr_X9_mean, zd_X9_mean⟩, fun _ => zi_gwI 461 (by decide +kernel) rfl, (fun h => by cases h)⟩
theorem zl_12_41 : zi_okM 12 (41, zm_X9_text, false, 469, 67) := ⟨⟨zr_X9_text, zd_X9_text⟩, fun _ => zi_gwI 469 (by decide +kernel) rfl, (fun h => by cases h)⟩
theorem zl_12_45 : zi_okM 12 (45, zm_X9_put, false, 477, 68) := ⟨⟨zr_X9_put, zd_X9_put⟩, fun _ => zi_gwI 477 (by decide +kernel) rfl, (fun h => by cases h)⟩
theorem zl_12_49 : zi_okM 12 (49, zm_X9_fault, false, 481, 69) := ⟨⟨zr_X9_fault, zd_X9_fault⟩, fun _ => zi_gwI 481 (by decide +kernel) rfl, (fun h => by cases h)⟩
theorem zl_12_53 : zi_okM 12 (53, zm_X9_sky, false, 550, 70) := ⟨⟨zr_X9_sky, zd_X9_sky⟩, fun _ => zi_gwI 550 (by decide +kernel) rfl, (fun h => by cases h)⟩
theorem zl_12_57 : zi_okM 12 (57, zm_X9_flyer, false, 579, 71) := ⟨⟨zr_X9_flyer, zd_X9_flyer⟩, fun _ => zi_gwI 579 (by decide +kernel) rfl, (fun h => by cases h)⟩
theorem zl_12_61 : zi_okM 12 (61, zm_X9_mark, false, 591, 72) := ⟨⟨zr_X9_mark, zd_X9_mark⟩, fun _ => zi_gwI 591 (by decide +kernel) rfl, (fun h => by cases h)⟩
theorem zl_12_65 : zi_okM 12 (65, zm_X9_air, false, 615, 73) := ⟨⟨zr_X9_air, zd_X9_air⟩, fun _ => zi_gwI 615 (by decide +kernel) rfl, (fun h => by cases h)⟩
theorem zl_12_69 : zi_okM 12 (69, zm_X9_sun, false, 620, 74) := ⟨⟨zr_X9_sun, zd_X9_sun⟩, fun _ => zi_gwI 620 (by decide +kernel) rfl, (fun h => by cases h)⟩
theorem zl_12_73 : zi_okM 12 (73, zm_X9_letters, false, 624, 75) := ⟨⟨zr_X9_letters, zd_X9_letters⟩, fun _ => zi_gwI 624 (by decide +kernel) rfl, (fun h => by cases h)⟩
theorem zl_12_77 : zi_okM 12 (77, zm_X9_beat, false, 628, 76) := ⟨⟨zr_X9_beat, zd_X9_beat⟩, fun _ => zi_gwI 628 (by decide +kernel) rfl, (fun h => by cases h)⟩
theorem zl_12_81 : zi_okM 12 (81, zm_X9_undo, false, 665, 77) := ⟨⟨zr_X9_undo, zd_X9_undo⟩, fun _ => zi_gwI 665 (by decide +kernel) rfl, (fun h => by cases h)⟩
theorem zl_12_85 : zi_okM 12 (85, zm_X9_over, false, 675, 78) := ⟨⟨zr_X9_over, zd_X9_over⟩, fun _ => zi_gwI 675 (by decide +kernel) rfl, (fun h => by cases h)⟩
theorem zl_12_90 : zi_okM 12 (90, zm_X9_can, false, 680, 79) := ⟨⟨zr_X9_can, zd_X9_can⟩, fun _ => zi_gwI 680 (by decide +kernel) rfl, (fun h => by cases h)⟩
theorem zl_12_94 : zi_okM 12 (94, zm_X9_keep, false, 688, 80) := ⟨⟨zr_X9_keep, zd_X9_keep⟩, fun _ => zi_gwI 688 (by decide +kernel) rfl, (fun h => by cases h)⟩
theorem zl_12_98 : zi_okM 12 (98, zm_X9_on, false, 693, 81) := ⟨⟨zr_X9_on, zd_X9_on⟩, fun _ => zi_gwI 693 (by decide +kernel) rfl, (fun h => by cases h)⟩
theorem zl_12_102 : zi_okM 12 (102, zm_X9_judge, false, 697, 82) := ⟨⟨zr_X9_judge, zd_X9_judge⟩, fun _ => zi_gwI 697 (by decide +kernel) rfl, (fun h => by cases h)⟩
theorem zl_12_106 : zi_okM 12 (106, zm_X9_soonest, false, 704, 83) := ⟨⟨zr_X9_soonest, zd_X9_soonest⟩, fun _ => zi_gwI 704 (by decide +kernel) rfl, (fun h => by cases h)⟩
theorem zl_12_110 : zi_okM 12 (110, zm_X9_lightest, false, 737, 84) := ⟨⟨zr_X9_lightest, zd_X9_lightest⟩, fun _ => zi_gwI 737 (by decide +kernel) rfl, (fun h => by cases h)⟩
theorem zl_12_114 : zi_okM 12 (114, zm_X9_ways, false, 745, 85) := ⟨⟨zr_X9_ways, zd_X9_ways⟩, fun _ => zi_gwI 745 (by decide +kernel) rfl, (fun h => by cases h)⟩
theorem zl_12_118 : zi_okM 12 (118, zm_X9_heights, false, 753, 86) := ⟨⟨zr_X9_heights, zd_X9_heights⟩, fun _ => zi_gwI 753 (by decide +kernel) rfl, (fun h => by cases h)⟩
theorem zl_12_122 : zi_okM 12 (122, zm_X9_nth, false, 761, 87) := ⟨⟨zr_X9_nth, zd_X9_nth⟩, fun _ => zi_gwI 761 (by decide +kernel) rfl, (fun h => by cases h)⟩
theorem zl_12_126 : zi_okM 12 (126, zm_X9_wax, false, 765, 88) := ⟨⟨zr_X9_wax, zd_X9_wax⟩, fun _ => zi_gwI 765 (by decide +kernel) rfl, (fun h => by cases h)⟩
theorem zl_12_130 : zi_okM 12 (130, zm_X9_strength, false, 773, 89) := ⟨⟨zr_X9_strength, zd_X9_strength⟩, fun _ => zi_gwI 773 (by decide +kernel) rfl, (fun h => by cases h)⟩
theorem zl_12_134 : zi_okM 12 (134, zm_X9_most, false, 782, 90) := ⟨⟨zr_X9_most, zd_X9_most⟩, fun _ => zi_gwI 782 (by decide +kernel) rfl, (fun h => by cases h)⟩
theorem zl_12_138 : zi_okM 12 (138, zm_X9_hottest, false, 786, 91) := ⟨⟨zr_X9_hottest, zd_X9_hottest⟩, fun _ => zi_gwI 786 (by decide +kernel) rfl, (fun h => by cases h)⟩
theorem zl_12_142 : zi_okM 12 (142, zm_X9_kinds, false, 790, 92) := ⟨⟨zr_X9_kinds, zd_X9_kinds⟩, fun _ => zi_gwI 790 (by decide +kernel) rfl, (fun h => by cases h)⟩
theorem zl_12_146 : zi_okM 12 (146, zm_X9_post, false, 794, 93) := ⟨⟨zr_X9_post, zd_X9_post⟩, fun _ => zi_gwI 794 (by decide +kernel) rfl, (fun h => by cases h)⟩
theorem zl_12_150 : zi_okM 12 (150, zm_X9_plan, false, 813, 94) := ⟨⟨zr_X9_plan, zd_X9_plan⟩, fun _ => zi_gwI 813 (by decide +kernel) rfl, (fun h => by cases h)⟩
theorem zl_12_154 : zi_okM 12 (154, zm_X9_odds, false, 850, 95) := ⟨⟨zr_X9_odds, zd_X9_odds⟩, fun _ => zi_gwI 850 (by decide +kernel) rfl, (fun h => by cases h)⟩
theorem zl_12_158 : zi_okM 12 (158, zm_X9_choice, false, 854, 96) := ⟨⟨zr_X9_choice, zd_X9_choice⟩, fun _ => zi_gwI 854 (by decide +kernel) rfl, (fun h => by cases h)⟩
theorem zl_12_162 : zi_okM 12 (162, zm_X9_boats, false, 862, 97) := ⟨⟨zr_X9_boats, zd_X9_boats⟩, fun _ => zi_gwI 862 (by decide +kernel) rfl, (fun h => by cases h)⟩
theorem zl_12_166 : zi_okM 12 (166, zm_X9_drip, false, 884, 98) := ⟨⟨zr_X9_drip, zd_X9_drip⟩, fun _ => zi_gwI 884 (by decide +kernel) rfl, (fun h => by cases h)⟩
theorem zl_12_170 : zi_okM 12 (170, zm_X9_feathers, false, 892, 99) := ⟨⟨zr_X9_feathers, zd_X9_feathers⟩, fun _ => zi_gwI 892 (by decide +kernel) rfl, (fun h => by cases h)⟩
theorem zl_12_174 : zi_okM 12 (174, zm_X9_lots, false, 901, 100) := ⟨⟨zr_X9_lots, zd_X9_lots⟩, fun _ => zi_gwI 901 (by decide +kernel) rfl, (fun h => by cases h)⟩
theorem zl_12_178 : zi_okM 12 (178, zm_X9_asked, false, 910, 101) := ⟨⟨zr_X9_asked, zd_X9_asked⟩, fun _ => zi_gwI 910 (by decide +kernel) rfl, (fun h => by cases h)⟩
theorem zl_12_182 : zi_okM 12 (182, zm_X9_upper, false, 914, 102) := ⟨⟨zr_X9_upper, zd_X9_upper⟩, fun _ => zi_gwI 914 (by decide +kernel) rfl, (fun h => by cases h)⟩
theorem zl_12_187 : zi_okM 12 (187, zm_X9_lower, false, 918, 103) := ⟨⟨zr_X9_lower, zd_X9_lower⟩, fun _ => zi_gwI 918 (by decide +kernel) rfl, (fun h => by cases h)⟩
theorem zl_12_191 : zi_okM 12 (191, zm_X9_count, false, 922, 104) := ⟨⟨zr_X9_count, zd_X9_count⟩, fun _ => zi_gwI 922 (by decide +kernel) rfl, (fun h => by cases h)⟩
theorem zl_12_195 : zi_okM 12 (195, zm_X9_finding, false, 942, 105) := ⟨⟨zr_X9_finding, zd_X9_finding⟩, fun _ => zi_gwI 942 (by decide +kernel) rfl, (fun h => by cases h)⟩
theorem zl_12_199 : zi_okM 12 (199, zm_X9_findings, false, 946, 106) := ⟨⟨zr_X9_findings, zd_X9_findings⟩, fun _ => zi_gwI 946 (by decide +kernel) rfl, (fun h => by cases h)⟩
theorem zl_12_203 : zi_okM 12 (203, zm_X9_digest, false, 950, 107) := ⟨⟨zr_X9_digest, zd_X9_digest⟩, fun _ => zi_gwI 950 (by decide +kernel) rfl, (fun h => by cases h)⟩
theorem zl_12_17 : zi_okM 12 (17, zm_X10_row, false, 1088, 137) := ⟨⟨zr_X10_row, zd_X10_row⟩, fun _ => zi_gwI 1088 (by decide +kernel) rfl, (fun h => by cases h)⟩
theorem zl_12_22 : zi_okM 12 (22, zm_X10_lay, false, 1103, 138) := ⟨⟨zr_X10_lay, zd_X10_lay⟩, fun _ => zi_gwI 1103 (by decide +kernel) rfl, (fun h => by cases h)⟩
theorem zl_12_26 : zi_okM 12 (26, zm_X10_at, false, 1111, 139) := ⟨⟨zr_X10_at, zd_X10_at⟩, fun _ => zi_gwI 1111 (by decide +kernel) rfl, (fun h => by cases h)⟩
theorem zl_12_31 : zi_okM 12 (31, zm_X10_tear, false, 1115, 140) := ⟨⟨zr_X10_tear, zd_X10_tear⟩, fun _ => zi_gwI 1115 (by decide +kernel) rfl, (fun h => by cases h)⟩
theorem zl_12_36 : zi_okM 12 (36, zm_X10_copy, false, 1119, 141) := ⟨⟨zr_X10_copy, zd_X10_copy⟩, fun _ => zi_gwI 1119 (by decide +kernel) rfl, (fun h => by cases h)⟩
theorem zl_12_40 : zi_okM 12 (40, zm_X10_mean, false, 1123, 142) := ⟨⟨zr_X10_mean, zd_X10_mean⟩, fun _ => zi_gwI 1123 (by decide +kernel) rfl, (fun h => by cases h)⟩
theorem zl_12_44 : zi_okM 12 (44, zm_X10_text, false, 1127, 143) := ⟨⟨zr_X10_text, zd_X10_text⟩, fun _ => zi_gwI 1127 (by decide +kernel) rfl, (fun h => by cases h)⟩
theorem zl_12_48 : zi_okM 12 (48, zm_X10_put, false, 1135, 144) := ⟨⟨zr_X10_put, zd_X10_put⟩, fun _ => zi_gwI 1135 (by decide +kernel) rfl, (fun h => by cases h)⟩
theorem zl_12_52 : zi_okM 12 (52, zm_X10_fault, false, 1139, 154) := ⟨⟨zr_X10_fault, zd_X10_fault⟩, fun _ => zi_gwI 1139 (by decide +kernel) rfl, (fun h => by cases h)⟩
theorem zl_12_56 : zi_okM 12 (56, zm_X10_sky, false, 1179, 155) := ⟨⟨zr_X10_sky, zd_X10_sky⟩, fun _ => zi_gwI 1179 (by decide +kernel) rfl, (fun h => by cases h)⟩
theorem zl_12_60 : zi_okM 12 (60, zm_X10_flyer, false, 1183, 156) := ⟨⟨zr_X10_flyer, zd_X10_flyer⟩, fun _ => zi_gwI 1183 (by decide +kernel) rfl, (fun h => by cases h)⟩
theorem zl_12_64 : zi_okM 12 (64, zm_X10_mark, false, 1192, 167) := ⟨⟨zr_X10_mark, zd_X10_mark⟩, fun _ => zi_gwI 1192 (by decide +kernel) rfl, (fun h => by cases h)⟩
theorem zl_12_68 : zi_okM 12 (68, zm_X10_air, false, 1211, 168) := ⟨⟨zr_X10_air, zd_X10_air⟩, fun _ => zi_gwI 1211 (by decide +kernel) rfl, (fun h => by cases h)⟩
theorem zl_12_72 : zi_okM 12 (72, zm_X10_sun, false, 1219, 169) := ⟨⟨zr_X10_sun, zd_X10_sun⟩, fun _ => zi_gwI 1219 (by decide +kernel) rfl, (fun h => by cases h)⟩
theorem zl_12_76 : zi_okM 12 (76, zm_X10_letters, false, 1224, 170) := ⟨⟨zr_X10_letters, zd_X10_letters⟩, fun _ => zi_gwI 1224 (by decide +kernel) rfl, (fun h => by cases h)⟩
theorem zl_12_80 : zi_okM 12 (80, zm_X10_beat, false, 1228, 173) := ⟨⟨zr_X10_beat, zd_X10_beat⟩, fun _ => zi_gwI 1228 (by decide +kernel) rfl, (fun h => by cases h)⟩
theorem zl_12_84 : zi_okM 12 (84, zm_X10_undo, false, 1265, 174) := ⟨⟨zr_X10_undo, zd_X10_undo⟩, fun _ => zi_gwI 1265 (by decide +kernel) rfl, (fun h => by cases h)⟩
theorem zl_12_89 : zi_okM 12 (89, zm_X10_over, false, 1269, 175) := ⟨⟨zr_X10_over, zd_X10_over⟩, fun _ => zi_gwI 1269 (by decide +kernel) rfl, (fun h => by cases h)⟩
theorem zl_12_93 : zi_okM 12 (93, zm_X10_can, false, 1273, 176) := ⟨⟨zr_X10_can, zd_X10_can⟩, fun _ => zi_gwI 1273 (by decide +kernel) rfl, (fun h => by cases h)⟩
theorem zl_12_97 : zi_okM 12 (97, zm_X10_keep, false, 1277, 177) := ⟨⟨zr_X10_keep, zd_X10_keep⟩, fun _ => zi_gwI 1277 (by decide +kernel) rfl, (fun h => by cases h)⟩
theorem zl_12_101 : zi_okM 12 (101, zm_X10_on, false, 1281, 178) := ⟨⟨zr_X10_on, zd_X10_on⟩, fun _ => zi_gwI 1281 (by decide +kernel) rfl, (fun h => by cases h)⟩
theorem zl_12_105 : zi_okM 12 (105, zm_X10_judge, false, 1285, 181) := ⟨⟨zr_X10_judge, zd_X10_judge⟩, fun _ => zi_gwI 1285 (by decide +kernel) rfl, (fun h => by cases h)⟩
theorem zl_12_109 : zi_okM 12 (109, zm_X10_soonest, false, 1297, 184) := ⟨⟨zr_X10_soonest, zd_X10_soonest⟩, fun _ => zi_gwI 1297 (by decide +kernel) rfl, (fun h => by cases h)⟩
theorem zl_12_113 : zi_okM 12 (113, zm_X10_lightest, false, 1309, 185) := ⟨⟨zr_X10_lightest, zd_X10_lightest⟩, fun _ => zi_gwI 1309 (by decide +kernel) rfl, (fun h => by cases h)⟩
theorem zl_12_117 : zi_okM 12 (117, zm_X10_ways, false, 1313, 186) := ⟨⟨zr_X10_ways, zd_X10_ways⟩, fun _ => zi_gwI 1313 (by decide +kernel) rfl, (fun h => by cases h)⟩
theorem zl_12_121 : zi_okM 12 (121, zm_X10_heights, false, 1317, 187) := ⟨⟨zr_X10_heights, zd_X10_heights⟩, fun _ => zi_gwI 1317 (by decide +kernel) rfl, (fun h => by cases h)⟩
theorem zl_12_125 : zi_okM 12 (125, zm_X10_nth, false, 1321, 188) := ⟨⟨zr_X10_nth, zd_X10_nth⟩, fun _ => zi_gwI 1321 (by decide +kernel) rfl, (fun h => by cases h)⟩
theorem zl_12_129 : zi_okM 12 (129, zm_X10_wax, false, 1325, 192) := ⟨⟨zr_X10_wax, zd_X10_wax⟩, fun _ => zi_gwI 1325 (by decide +kernel) rfl, (fun h => by cases h)⟩
theorem zl_12_133 : zi_okM 12 (133, zm_X10_strength, false, 1337, 193) := ⟨⟨zr_X10_strength, zd_X10_strength⟩, fun _ => zi_gwI 1337 (by decide +kernel) rfl, (fun h => by cases h)⟩
theorem zl_12_137 : zi_okM 12 (137, zm_X10_most, false, 1341, 194) := ⟨⟨zr_X10_most, zd_X10_most⟩, fun _ => zi_gwI 1341 (by decide +kernel) rfl, (fun h => by cases h)⟩
theorem zl_12_141 : zi_okM 12 (141, zm_X10_hottest, false, 1349, 195) := ⟨⟨zr_X10_hottest, zd_X10_hottest⟩, fun _ => zi_gwI 1349 (by decide +kernel) rfl, (fun h => by cases h)⟩
theorem zl_12_145 : zi_okM 12 (145, zm_X10_kinds, false, 1353, 196) := ⟨⟨zr_X10_kinds, zd_X10_kinds⟩, fun _ => zi_gwI 1353 (by decide +kernel) rfl, (fun h => by cases h)⟩
theorem zl_12_149 : zi_okM 12 (149, zm_X10_post, false, 1357, 197) := ⟨⟨zr_X10_post, zd_X10_post⟩, fun _ => zi_gwI 1357 (by decide +kernel) rfl, (fun h => by cases h)⟩
theorem zl_12_153 : zi_okM 12 (153, zm_X10_plan, false, 1362, 205) := ⟨⟨zr_X10_plan, zd_X10_plan⟩, fun _ => zi_gwI 1362 (by decide +kernel) rfl, (fun h => by cases h)⟩
theorem zl_12_157 : zi_okM 12 (157, zm_X10_odds, false, 1392, 206) := ⟨⟨zr_X10_odds, zd_X10_odds⟩, fun _ => zi_gwI 1392 (by decide +kernel) rfl, (fun h => by cases h)⟩
theorem zl_12_161 : zi_okM 12 (161, zm_X10_choice, false, 1396, 207) := ⟨⟨zr_X10_choice, zd_X10_choice⟩, fun _ => zi_gwI 1396 (by decide +kernel) rfl, (fun h => by cases h)⟩
theorem zl_12_165 : zi_okM 12 (165, zm_X10_boats, false, 1400, 208) := ⟨⟨zr_X10_boats, zd_X10_boats⟩, fun _ => zi_gwI 1400 (by decide +kernel) rfl, (fun h => by cases h)⟩
theorem zl_12_169 : zi_okM 12 (169, zm_X10_drip, false, 1405, 209) := ⟨⟨zr_X10_drip, zd_X10_drip⟩, fun _ => zi_gwI 1405 (by decide +kernel) rfl, (fun h => by cases h)⟩
theorem zl_12_173 : zi_okM 12 (173, zm_X10_feathers, false, 1409, 210) := ⟨⟨zr_X10_feathers, zd_X10_feathers⟩, fun _ => zi_gwI 1409 (by decide +kernel) rfl, (fun h => by cases h)⟩
theorem zl_12_177 : zi_okM 12 (177, zm_X10_lots, false, 1413, 211) := ⟨⟨zr_X10_lots, zd_X10_lots⟩, fun _ => zi_gwI 1413 (by decide +kernel) rfl, (fun h => by cases h)⟩
theorem zl_12_181 : zi_okM 12 (181, zm_X10_asked, false, 1420, 212) := ⟨⟨zr_X10_asked, zd_X10_asked⟩, fun _ => zi_gwI 1420 (by decide +kernel) rfl, (fun h => by cases h)⟩
theorem zl_12_186 : zi_okM 12 (186, zm_X10_upper, false, 1424, 213) := ⟨⟨zr_X10_upper, zd_X10_upper⟩, fun _ => zi_gwI 1424 (by decide +kernel) rfl, (fun h => by cases h)⟩
theorem zl_12_190 : zi_okM 12 (190, zm_X10_lower, false, 1428, 214) := ⟨⟨zr_X10_lower, zd_X10_lower⟩, fun _ => zi_gwI 1428 (by decide +kernel) rfl, (fun h => by cases h)⟩
theorem zl_12_194 : zi_okM 12 (194, zm_X10_count, false, 1432, 216) := ⟨⟨zr_X10_count, zd_X10_count⟩, fun _ => zi_gwI 1432 (by decide +kernel) rfl, (fun h => by cases h)⟩
theorem zl_12_198 : zi_okM 12 (198, zm_X10_finding, false, 1441, 217) := ⟨⟨zr_X10_finding, zd_X10_finding⟩, fun _ => zi_gwI 1441 (by decide +kernel) rfl, (fun h => by cases h)⟩
theorem zl_12_202 : zi_okM 12 (202, zm_X10_findings, false, 1445, 218) := ⟨⟨zr_X10_findings, zd_X10_findings⟩, fun _ => zi_gwI 1445 (by decide +kernel) rfl, (fun h => by cases h)⟩
theorem zl_12_206 : zi_okM 12 (206, zm_X10_digest, false, 1449, 219) := ⟨⟨zr_X10_digest, zd_X10_digest⟩, fun _ => zi_gwI 1449 (by decide +kernel) rfl, (fun h => by cases h)⟩
set_option maxRecDepth 100000 in
theorem zl_w12 : ∀ e ∈ (zi_at zi_lks 12).getD [], zi_okM 12 e := List.forall_mem_cons.mpr ⟨zl_12_13, List.forall_mem_cons.mpr ⟨zl_12_18, List.forall_mem_cons.mpr ⟨zl_12_23, List.forall_mem_cons.mpr ⟨zl_12_27, List.forall_mem_cons.mpr ⟨zl_12_32, List.forall_mem_cons.mpr ⟨zl_12_37, List.forall_mem_cons.mpr ⟨zl_12_41, List.forall_mem_cons.mpr ⟨zl_12_45, List.forall_mem_cons.mpr ⟨zl_12_49, List.forall_mem_cons.mpr ⟨zl_12_53, List.forall_mem_cons.mpr ⟨zl_12_57, List.forall_mem_cons.mpr ⟨zl_12_61, List.forall_mem_cons.mpr ⟨zl_12_65, List.forall_mem_cons.mpr ⟨zl_12_69, List.forall_mem_cons.mpr ⟨zl_12_73, List.forall_mem_cons.mpr ⟨zl_12_77, List.forall_mem_cons.mpr ⟨zl_12_81, List.forall_mem_cons.mpr ⟨zl_12_85, List.forall_mem_cons.mpr ⟨zl_12_90, List.forall_mem_cons.mpr ⟨zl_12_94, List.forall_mem_cons.mpr ⟨zl_12_98, List.forall_mem_cons.mpr ⟨zl_12_102, List.forall_mem_cons.mpr ⟨zl_12_106, List.forall_mem_cons.mpr ⟨zl_12_110, List.forall_mem_cons.mpr ⟨zl_12_114, List.forall_mem_cons.mpr ⟨zl_12_118, List.forall_mem_cons.mpr ⟨zl_12_122, List.forall_mem_cons.mpr ⟨zl_12_126, List.forall_mem_cons.mpr ⟨zl_12_130, List.forall_mem_cons.mpr ⟨zl_12_134, List.forall_mem_cons.mpr ⟨zl_12_138, List.forall_mem_cons.mpr ⟨zl_12_142, List.forall_mem_cons.mpr ⟨zl_12_146, List.forall_mem_cons.mpr ⟨zl_12_150, List.forall_mem_cons.mpr ⟨zl_12_154, List.forall_mem_cons.mpr ⟨zl_12_158, List.forall_mem_cons.mpr ⟨zl_12_162, List.forall_mem_cons.mpr ⟨zl_12_166, List.forall_mem_cons.mpr ⟨zl_12_170, List.forall_mem_cons.mpr ⟨zl_12_174, List.forall_mem_cons.mpr ⟨zl_12_178, List.forall_mem_cons.mpr ⟨zl_12_182, List.forall_mem_cons.mpr ⟨zl_12_187, List.forall_mem_cons.mpr ⟨zl_12_191, List.forall_mem_cons.mpr ⟨zl_12_195, List.forall_mem_cons.mpr ⟨zl_12_199, List.forall_mem_cons.mpr ⟨zl_12_203, List.forall_mem_cons.mpr ⟨zl_12_17, List.forall_mem_cons.mpr ⟨zl_12_22, List.forall_mem_cons.mpr ⟨zl_12_26, List.forall_mem_cons.mpr ⟨zl_12_31, List.forall_mem_cons.mpr ⟨zl_12_36, List.forall_mem_cons.mpr ⟨zl_12_40, List.forall_mem_cons.mpr ⟨zl_12_44, List.forall_mem_cons.mpr ⟨zl_12_48, List.forall_mem_cons.mpr ⟨zl_12_52, List.forall_mem_cons.mpr ⟨zl_12_56, List.forall_mem_cons.mpr ⟨zl_12_60, List.forall_mem_cons.mpr ⟨zl_12_64, List.forall_mem_cons.mpr ⟨zl_12_68, List.forall_mem_cons.mpr ⟨zl_12_72, List.forall_mem_cons.mpr ⟨zl_12_76, List.forall_mem_cons.mpr ⟨zl_12_80, List.forall_mem_cons.mpr ⟨zl_12_84, List.forall_mem_cons.mpr ⟨zl_12_89, List.forall_mem_cons.mpr ⟨zl_12_93, List.forall_mem_cons.mpr ⟨zl_12_97, List.forall_mem_cons.mpr ⟨zl_12_101, List.forall_mem_cons.mpr ⟨zl_12_105, List.forall_mem_cons.mpr ⟨zl_12_109, List.forall_mem_cons.mpr ⟨zl_12_113, List.forall_mem_cons.mpr ⟨zl_12_117, List.forall_mem_cons.mpr ⟨zl_12_121, List.forall_mem_cons.mpr ⟨zl_12_125, List.forall_mem_cons.mpr ⟨zl_12_129, List.forall_mem_cons.mpr ⟨zl_12_133, List.forall_mem_cons.mpr ⟨zl_12_137, List.forall_mem_cons.mpr ⟨zl_12_141, List.forall_mem_cons.mpr ⟨zl_12_145, List.forall_mem_cons.mpr ⟨zl_12_149, List.forall_mem_cons.mpr ⟨zl_12_153, List.forall_mem_cons.mpr ⟨zl_12_157, List.forall_mem_cons.mpr ⟨zl_12_161, List.forall_mem_cons.mpr ⟨zl_12_165, List.forall_mem_cons.mpr ⟨zl_12_169, List.forall_mem_cons.mpr ⟨zl_12_173, List.forall_mem_cons.mpr ⟨zl_12_177, List.forall_mem_cons.mpr ⟨zl_12_181, List.forall_mem_cons.mpr ⟨zl_12_186, List.forall_mem_cons.mpr ⟨zl_12_190, List.forall_mem_cons.mpr ⟨zl_12_194, List.forall_mem_cons.mpr ⟨zl_12_198, List.forall_mem_cons.mpr ⟨zl_12_202, List.forall_mem_cons.mpr ⟨zl_12_206, fun _ h => absurd h List.not_mem_nil⟩⟩⟩⟩⟩⟩⟩⟩⟩⟩⟩⟩⟩⟩⟩⟩⟩⟩⟩⟩⟩⟩⟩⟩⟩⟩⟩⟩⟩⟩⟩⟩⟩⟩⟩⟩⟩⟩⟩⟩⟩⟩⟩⟩⟩⟩⟩⟩⟩⟩⟩⟩⟩⟩⟩⟩⟩⟩⟩⟩⟩⟩⟩⟩⟩⟩⟩⟩⟩⟩⟩⟩⟩⟩⟩⟩⟩⟩⟩⟩⟩⟩⟩⟩⟩⟩⟩⟩⟩⟩⟩⟩⟩⟩
theorem zi_lkok {w idx : Nat} {q : zi_R × Bool × Nat × Nat} (h : zi_lk w idx = some q) : zi_okM w (idx, q) := by
  have hm := zi_at_mem _ _ h
  have hw : w < 15 := by
    rcases Nat.lt_or_ge w 15 with g | g
    · exact g
    · exfalso
      have e : zi_at zi_lks w = none := by
        have : ∀ (l : List (Nat × List (Nat × zi_R × Bool × Nat × Nat))), (∀ e ∈ l.map (·.1), e < 15) → zi_at l w = none := by
          intro l
          induction l with
          | nil => intro _; rfl
          | cons x t ih =>
            intro hh
            obtain ⟨p, a⟩ := x
            unfold zi_at
            have hp : p < 15 := hh p (by simp)
            have hb : Nat.beq p w = false := by
              cases hq : Nat.beq p w with
              | false => rfl
              | true => have := Nat.eq_of_beq_eq_true hq; omega
            rw [hb]
            exact ih (fun e he => hh e (by simp at he ⊢; exact Or.inr he))
        exact this _ (by decide +kernel)
      rw [e] at hm
      cases hm
  match w, hw, hm with
  | 0, _, hm => cases hm
  | 1, _, hm => exact zl_w1 _ hm
  | 2, _, hm => exact zl_w2 _ hm
  | 3, _, hm => exact zl_w3 _ hm
  | 4, _, hm => exact zl_w4 _ hm
  | 5, _, hm => exact zl_w5 _ hm
  | 6, _, hm => exact zl_w6 _ hm
  | 7, _, hm => cases hm
  | 8, _, hm => exact zl_w8 _ hm
  | 9, _, hm => exact zl_w9 _ hm
  | 10, _, hm => exact zl_w10 _ hm
  | 11, _, hm => cases hm
  | 12, _, hm => exact zl_w12 _ hm
  | 13, _, hm => cases hm
  | 14, _, hm => cases hm
theorem zkI_3_55 : Cond.constant (zi_cn 3) 55 2985984 ∈ zi_gw := zi_gwI 831 (by decide +kernel) rfl
theorem zkI_w3 : ∀ e ∈ (zi_at zi_kIs 3).getD [], Cond.constant (zi_cn 3) e.1 e.2.1 ∈ zi_gw := List.forall_mem_cons.mpr ⟨zkI_3_55, fun _ h => absurd h List.not_mem_nil⟩
theorem zkI_8_47 : Cond.constant (zi_cn 8) 47 100000 ∈ zi_gw := zi_gwI 722 (by decide +kernel) rfl
theorem zkI_w8 : ∀ e ∈ (zi_at zi_kIs 8).getD [], Cond.constant (zi_cn 8) e.1 e.2.1 ∈ zi_gw := List.forall_mem_cons.mpr ⟨zkI_8_47, fun _ h => absurd h List.not_mem_nil⟩
theorem zkI_14_265 : Cond.constant (zi_cn 14) 265 1431655765 ∈ zi_gw := zi_gwI 869 (by decide +kernel) rfl
theorem zkI_14_266 : Cond.constant (zi_cn 14) 266 858993459 ∈ zi_gw := zi_gwI 870 (by decide +kernel) rfl
theorem zkI_14_267 : Cond.constant (zi_cn 14) 267 252645135 ∈ zi_gw := zi_gwI 871 (by decide +kernel) rfl
theorem zkI_w14 : ∀ e ∈ (zi_at zi_kIs 14).getD [], Cond.constant (zi_cn 14) e.1 e.2.1 ∈ zi_gw := List.forall_mem_cons.mpr ⟨zkI_14_265, List.forall_mem_cons.mpr ⟨zkI_14_266, List.forall_mem_cons.mpr ⟨zkI_14_267, fun _ h => absurd h List.not_mem_nil⟩⟩⟩
theorem zi_kIok {w idx : Nat} {q : Int32 × Nat} (h : zi_kI w idx = some q) : Cond.constant (zi_cn w) idx q.1 ∈ zi_gw := by
  have hm := zi_at_mem _ _ h
  unfold zi_kI at h
  cases hz : zi_at zi_kIs w with
  | none => rw [hz] at hm; cases hm
  | some l =>
    have hk := zi_at_mem _ _ hz
    rw [hz] at hm
    simp only [zi_kIs, List.mem_cons, Prod.mk.injEq, List.not_mem_nil, or_false] at hk
    rcases hk with ⟨rfl, rfl⟩ | ⟨rfl, rfl⟩ | ⟨rfl, rfl⟩
    · exact zkI_w3 _ hm
    · exact zkI_w8 _ hm
    · exact zkI_w14 _ hm
theorem zkL_5_40 : Cond.constantLong (zi_cn 5) 40 31 ∈ zi_gw := zi_gwI 960 (by decide +kernel) rfl
theorem zkL_w5 : ∀ e ∈ (zi_at zi_kLs 5).getD [], Cond.constantLong (zi_cn 5) e.1 e.2.1 ∈ zi_gw := List.forall_mem_cons.mpr ⟨zkL_5_40, fun _ h => absurd h List.not_mem_nil⟩
theorem zkL_9_301 : Cond.constantLong (zi_cn 9) 301 2985984 ∈ zi_gw := zi_gwI 849 (by decide +kernel) rfl
theorem zkL_9_330 : Cond.constantLong (zi_cn 9) 330 2147483647 ∈ zi_gw := zi_gwI 905 (by decide +kernel) rfl
theorem zkL_9_332 : Cond.constantLong (zi_cn 9) 332 48271 ∈ zi_gw := zi_gwI 906 (by decide +kernel) rfl
theorem zkL_9_346 : Cond.constantLong (zi_cn 9) 346 17 ∈ zi_gw := zi_gwI 954 (by decide +kernel) rfl
theorem zkL_9_348 : Cond.constantLong (zi_cn 9) 348 31 ∈ zi_gw := zi_gwI 955 (by decide +kernel) rfl
theorem zkL_w9 : ∀ e ∈ (zi_at zi_kLs 9).getD [], Cond.constantLong (zi_cn 9) e.1 e.2.1 ∈ zi_gw := List.forall_mem_cons.mpr ⟨zkL_9_301, List.forall_mem_cons.mpr ⟨zkL_9_330, List.forall_mem_cons.mpr ⟨zkL_9_332, List.forall_mem_cons.mpr ⟨zkL_9_346, List.forall_mem_cons.mpr ⟨zkL_9_348, fun _ h => absurd h List.not_mem_nil⟩⟩⟩⟩⟩
theorem zkL_10_83 : Cond.constantLong (zi_cn 10) 83 5 ∈ zi_gw := zi_gwI 1095 (by decide +kernel) rfl
theorem zkL_10_89 : Cond.constantLong (zi_cn 10) 89 3 ∈ zi_gw := zi_gwI 1134 (by decide +kernel) rfl
theorem zkL_10_118 : Cond.constantLong (zi_cn 10) 118 48 ∈ zi_gw := zi_gwI 1166 (by decide +kernel) rfl
theorem zkL_10_120 : Cond.constantLong (zi_cn 10) 120 57 ∈ zi_gw := zi_gwI 1167 (by decide +kernel) rfl
theorem zkL_10_150 : Cond.constantLong (zi_cn 10) 150 7 ∈ zi_gw := zi_gwI 1191 (by decide +kernel) rfl
theorem zkL_10_211 : Cond.constantLong (zi_cn 10) 211 9 ∈ zi_gw := zi_gwI 1223 (by decide +kernel) rfl
theorem zkL_10_219 : Cond.constantLong (zi_cn 10) 219 2 ∈ zi_gw := zi_gwI 1232 (by decide +kernel) rfl
theorem zkL_10_260 : Cond.constantLong (zi_cn 10) 260 12 ∈ zi_gw := zi_gwI 1361 (by decide +kernel) rfl
theorem zkL_10_287 : Cond.constantLong (zi_cn 10) 287 4 ∈ zi_gw := zi_gwI 1404 (by decide +kernel) rfl
theorem zkL_10_289 : Cond.constantLong (zi_cn 10) 289 2147483646 ∈ zi_gw := zi_gwI 1417 (by decide +kernel) rfl
theorem zkL_10_291 : Cond.constantLong (zi_cn 10) 291 48271 ∈ zi_gw := zi_gwI 1418 (by decide +kernel) rfl
theorem zkL_10_293 : Cond.constantLong (zi_cn 10) 293 2147483647 ∈ zi_gw := zi_gwI 1419 (by decide +kernel) rfl
theorem zkL_10_295 : Cond.constantLong (zi_cn 10) 295 8 ∈ zi_gw := zi_gwI 1436 (by decide +kernel) rfl
theorem zkL_10_300 : Cond.constantLong (zi_cn 10) 300 17 ∈ zi_gw := zi_gwI 1453 (by decide +kernel) rfl
theorem zkL_10_302 : Cond.constantLong (zi_cn 10) 302 31 ∈ zi_gw := zi_gwI 1454 (by decide +kernel) rfl
theorem zkL_w10 : ∀ e ∈ (zi_at zi_kLs 10).getD [], Cond.constantLong (zi_cn 10) e.1 e.2.1 ∈ zi_gw := List.forall_mem_cons.mpr ⟨zkL_10_83, List.forall_mem_cons.mpr ⟨zkL_10_89, List.forall_mem_cons.mpr ⟨zkL_10_118, List.forall_mem_cons.mpr ⟨zkL_10_120, List.forall_mem_cons.mpr ⟨zkL_10_150, List.forall_mem_cons.mpr ⟨zkL_10_211, List.forall_mem_cons.mpr ⟨zkL_10_219, List.forall_mem_cons.mpr ⟨zkL_10_260, List.forall_mem_cons.mpr ⟨zkL_10_287, List.forall_mem_cons.mpr ⟨zkL_10_289, List.forall_mem_cons.mpr ⟨zkL_10_291, List.forall_mem_cons.mpr ⟨zkL_10_293, List.forall_mem_cons.mpr ⟨zkL_10_295, List.forall_mem_cons.mpr ⟨zkL_10_300, List.forall_mem_cons.mpr ⟨zkL_10_302, fun _ h => absurd h List.not_mem_nil⟩⟩⟩⟩⟩⟩⟩⟩⟩⟩⟩⟩⟩⟩⟩
theorem zi_kLok {w idx : Nat} {q : Int64 × Nat} (h : zi_kL w idx = some q) : Cond.constantLong (zi_cn w) idx q.1 ∈ zi_gw := by
  have hm := zi_at_mem _ _ h
  unfold zi_kL at h
  cases hz : zi_at zi_kLs w with
  | none => rw [hz] at hm; cases hm
  | some l =>
    have hk := zi_at_mem _ _ hz
    rw [hz] at hm
    simp only [zi_kLs, List.mem_cons, Prod.mk.injEq, List.not_mem_nil, or_false] at hk
    rcases hk with ⟨rfl, rfl⟩ | ⟨rfl, rfl⟩ | ⟨rfl, rfl⟩
    · exact zkL_w5 _ hm
    · exact zkL_w9 _ hm
    · exact zkL_w10 _ hm
theorem zx_2_46 : Cond.methodLink (zi_cn 2) 46 Lib.Math.max.name ∈ zi_gw := zi_gwI 606 (by decide +kernel) rfl
theorem zx_2_65 : Cond.methodLink (zi_cn 2) 65 Lib.Math.min.name ∈ zi_gw := zi_gwI 652 (by decide +kernel) rfl
theorem zx_w2 : ∀ e ∈ (zi_at zi_mxs 2).getD [], (e.2.1 = 0 → Cond.methodLink (zi_cn 2) e.1 Lib.Math.abs.name ∈ zi_gw) ∧ (e.2.1 = 1 → Cond.methodLink (zi_cn 2) e.1 Lib.Math.max.name ∈ zi_gw) ∧ (e.2.1 = 2 → Cond.methodLink (zi_cn 2) e.1 Lib.Math.min.name ∈ zi_gw) := List.forall_mem_cons.mpr ⟨⟨(fun h => by cases h), fun _ => zx_2_46, (fun h => by cases h)⟩, List.forall_mem_cons.mpr ⟨⟨(fun h => by cases h), (fun h => by cases h), fun _ => zx_2_65⟩, fun _ h => absurd h List.not_mem_nil⟩⟩
theorem zx_3_65 : Cond.methodLink (zi_cn 3) 65 Lib.Math.max.name ∈ zi_gw := zi_gwI 848 (by decide +kernel) rfl
theorem zx_w3 : ∀ e ∈ (zi_at zi_mxs 3).getD [], (e.2.1 = 0 → Cond.methodLink (zi_cn 3) e.1 Lib.Math.abs.name ∈ zi_gw) ∧ (e.2.1 = 1 → Cond.methodLink (zi_cn 3) e.1 Lib.Math.max.name ∈ zi_gw) ∧ (e.2.1 = 2 → Cond.methodLink (zi_cn 3) e.1 Lib.Math.min.name ∈ zi_gw) := List.forall_mem_cons.mpr ⟨⟨(fun h => by cases h), fun _ => zx_3_65, (fun h => by cases h)⟩, fun _ h => absurd h List.not_mem_nil⟩
theorem zx_5_13 : Cond.methodLink (zi_cn 5) 13 Lib.Math.max.name ∈ zi_gw := zi_gwI 326 (by decide +kernel) rfl
theorem zx_5_27 : Cond.methodLink (zi_cn 5) 27 Lib.Math.min.name ∈ zi_gw := zi_gwI 409 (by decide +kernel) rfl
theorem zx_w5 : ∀ e ∈ (zi_at zi_mxs 5).getD [], (e.2.1 = 0 → Cond.methodLink (zi_cn 5) e.1 Lib.Math.abs.name ∈ zi_gw) ∧ (e.2.1 = 1 → Cond.methodLink (zi_cn 5) e.1 Lib.Math.max.name ∈ zi_gw) ∧ (e.2.1 = 2 → Cond.methodLink (zi_cn 5) e.1 Lib.Math.min.name ∈ zi_gw) := List.forall_mem_cons.mpr ⟨⟨(fun h => by cases h), fun _ => zx_5_13, (fun h => by cases h)⟩, List.forall_mem_cons.mpr ⟨⟨(fun h => by cases h), (fun h => by cases h), fun _ => zx_5_27⟩, fun _ h => absurd h List.not_mem_nil⟩⟩
theorem zx_6_54 : Cond.methodLink (zi_cn 6) 54 Lib.Math.min.name ∈ zi_gw := zi_gwI 673 (by decide +kernel) rfl
theorem zx_w6 : ∀ e ∈ (zi_at zi_mxs 6).getD [], (e.2.1 = 0 → Cond.methodLink (zi_cn 6) e.1 Lib.Math.abs.name ∈ zi_gw) ∧ (e.2.1 = 1 → Cond.methodLink (zi_cn 6) e.1 Lib.Math.max.name ∈ zi_gw) ∧ (e.2.1 = 2 → Cond.methodLink (zi_cn 6) e.1 Lib.Math.min.name ∈ zi_gw) := List.forall_mem_cons.mpr ⟨⟨(fun h => by cases h), (fun h => by cases h), fun _ => zx_6_54⟩, fun _ h => absurd h List.not_mem_nil⟩
theorem zx_8_52 : Cond.methodLink (zi_cn 8) 52 Lib.Math.min.name ∈ zi_gw := zi_gwI 728 (by decide +kernel) rfl
theorem zx_8_58 : Cond.methodLink (zi_cn 8) 58 Lib.Math.max.name ∈ zi_gw := zi_gwI 729 (by decide +kernel) rfl
theorem zx_w8 : ∀ e ∈ (zi_at zi_mxs 8).getD [], (e.2.1 = 0 → Cond.methodLink (zi_cn 8) e.1 Lib.Math.abs.name ∈ zi_gw) ∧ (e.2.1 = 1 → Cond.methodLink (zi_cn 8) e.1 Lib.Math.max.name ∈ zi_gw) ∧ (e.2.1 = 2 → Cond.methodLink (zi_cn 8) e.1 Lib.Math.min.name ∈ zi_gw) := List.forall_mem_cons.mpr ⟨⟨(fun h => by cases h), (fun h => by cases h), fun _ => zx_8_52⟩, List.forall_mem_cons.mpr ⟨⟨(fun h => by cases h), fun _ => zx_8_58, (fun h => by cases h)⟩, fun _ h => absurd h List.not_mem_nil⟩⟩
theorem zx_9_279 : Cond.methodLink (zi_cn 9) 279 Lib.Math.max.name ∈ zi_gw := zi_gwI 781 (by decide +kernel) rfl
theorem zx_9_367 : Cond.methodLink (zi_cn 9) 367 Lib.Math.abs.name ∈ zi_gw := zi_gwI 880 (by decide +kernel) rfl
theorem zx_9_370 : Cond.methodLink (zi_cn 9) 370 Lib.Math.min.name ∈ zi_gw := zi_gwI 883 (by decide +kernel) rfl
theorem zx_w9 : ∀ e ∈ (zi_at zi_mxs 9).getD [], (e.2.1 = 0 → Cond.methodLink (zi_cn 9) e.1 Lib.Math.abs.name ∈ zi_gw) ∧ (e.2.1 = 1 → Cond.methodLink (zi_cn 9) e.1 Lib.Math.max.name ∈ zi_gw) ∧ (e.2.1 = 2 → Cond.methodLink (zi_cn 9) e.1 Lib.Math.min.name ∈ zi_gw) := List.forall_mem_cons.mpr ⟨⟨(fun h => by cases h), fun _ => zx_9_279, (fun h => by cases h)⟩, List.forall_mem_cons.mpr ⟨⟨fun _ => zx_9_367, (fun h => by cases h), (fun h => by cases h)⟩, List.forall_mem_cons.mpr ⟨⟨(fun h => by cases h), (fun h => by cases h), fun _ => zx_9_370⟩, fun _ h => absurd h List.not_mem_nil⟩⟩⟩
theorem zi_mxok {w idx t : Nat} (h : zi_mx w idx = some t) : (t = 0 → Cond.methodLink (zi_cn w) idx Lib.Math.abs.name ∈ zi_gw) ∧ (t = 1 → Cond.methodLink (zi_cn w) idx Lib.Math.max.name ∈ zi_gw) ∧ (t = 2 → Cond.methodLink (zi_cn w) idx Lib.Math.min.name ∈ zi_gw) := by
  unfold zi_mx at h
  cases hq : zi_at ((zi_at zi_mxs w).getD []) idx with
  | none => rw [hq] at h; cases h
  | some q =>
    rw [hq] at h
    cases h
    have hm := zi_at_mem _ _ hq
    cases hz : zi_at zi_mxs w with
    | none => rw [hz] at hm; cases hm
    | some l =>
      have hk := zi_at_mem _ _ hz
      rw [hz] at hm
      simp only [zi_mxs, List.mem_cons, Prod.mk.injEq, List.not_mem_nil, or_false] at hk
      rcases hk with ⟨rfl, rfl⟩ | ⟨rfl, rfl⟩ | ⟨rfl, rfl⟩ | ⟨rfl, rfl⟩ | ⟨rfl, rfl⟩ | ⟨rfl, rfl⟩
      · exact zx_w2 _ hm
      · exact zx_w3 _ hm
      · exact zx_w5 _ hm
      · exact zx_w6 _ hm
      · exact zx_w8 _ hm
      · exact zx_w9 _ hm
theorem zx_cabs : Cond.code Lib.Math.abs.name Lib.Math.abs.code 1 (some .int) ∈ zi_gw := zi_gwI 882 (by decide +kernel) rfl
theorem zx_sabs : Cond.static Lib.Math.abs.name ∈ zi_gw := zi_gwI 881 (by decide +kernel) rfl
theorem zx_cmax : Cond.code Lib.Math.max.name Lib.Math.max.code 2 (some .int) ∈ zi_gw := zi_gwI 328 (by decide +kernel) rfl
theorem zx_smax : Cond.static Lib.Math.max.name ∈ zi_gw := zi_gwI 327 (by decide +kernel) rfl
theorem zx_cmin : Cond.code Lib.Math.min.name Lib.Math.min.code 2 (some .int) ∈ zi_gw := zi_gwI 411 (by decide +kernel) rfl
theorem zx_smin : Cond.static Lib.Math.min.name ∈ zi_gw := zi_gwI 410 (by decide +kernel) rfl
theorem zx_ini : Cond.initialized "java/lang/Math" ∈ zi_gw := zi_gwI 75 (by decide +kernel) rfl
theorem zi_slok {w idx : Nat} {q : Nat × Nat} (h : zi_sl w idx = some q) : (q.1 = 91 ∧ Cond.fieldLinkNest (zi_cn w) idx "WaxWings" "SIGNS" "[I" "WaxWings" ∈ lw_tbl) ∨ (q.1 = 92 ∧ Cond.fieldLinkNest (zi_cn w) idx "WaxWings" "KIND_LETTERS" "[I" "WaxWings" ∈ lw_tbl) := by
  have hm := zi_at_mem _ _ h
  cases hz : zi_at zi_sls w with
  | none => rw [hz] at hm; cases hm
  | some l =>
    have hk := zi_at_mem _ _ hz
    rw [hz] at hm
    simp only [zi_sls, List.mem_cons, Prod.mk.injEq, List.not_mem_nil, or_false] at hk
    obtain ⟨rfl, rfl⟩ := hk
    simp at hm
    rcases hm with ⟨rfl, rfl⟩ | ⟨rfl, rfl⟩
    · exact Or.inl ⟨rfl, List.mem_of_getElem? (i := 507) (by decide +kernel)⟩
    · exact Or.inr ⟨rfl, List.mem_of_getElem? (i := 528) (by decide +kernel)⟩
