section
-- ===== PART A: goes FIRST, ahead of the names: the tables' words, and 'selects' of the private methods out of them =====
/-- a private method of a class that the tables say can be made, by its rows of tables_1 -/
def lw_okq (q : MethodName × Nat) : Prop := (q.1.cls ≠ "java/lang/invoke/MethodHandle" ∧ q.1.cls ≠ "java/lang/invoke/VarHandle") ∧ Cond.instantiable q.1.cls q.2 ∈ tables_1 ∧ Cond.privateMethod q.1 ∈ tables_1 ∧ Cond.instanceMethod q.1 ∈ tables_1
theorem lw_p0 : lw_okq (⟨"WaxWings", "rowAt", "(I)LWaxWings$Row;"⟩, 16) := ⟨⟨by decide +kernel, by decide +kernel⟩, List.mem_of_getElem? (i := 16) (by decide +kernel), List.mem_of_getElem? (i := 326) (by decide +kernel), List.mem_of_getElem? (i := 327) (by decide +kernel)⟩
theorem lw_p1 : lw_okq (⟨"WaxWings", "madeAnew", "(LWaxWings$Row;II)I"⟩, 16) := ⟨⟨by decide +kernel, by decide +kernel⟩, List.mem_of_getElem? (i := 16) (by decide +kernel), List.mem_of_getElem? (i := 330) (by decide +kernel), List.mem_of_getElem? (i := 331) (by decide +kernel)⟩
theorem lw_p2 : lw_okq (⟨"WaxWings", "refuse", "(I)I"⟩, 16) := ⟨⟨by decide +kernel, by decide +kernel⟩, List.mem_of_getElem? (i := 16) (by decide +kernel), List.mem_of_getElem? (i := 338) (by decide +kernel), List.mem_of_getElem? (i := 339) (by decide +kernel)⟩
theorem lw_p3 : lw_okq (⟨"WaxWings", "textAt", "(I)LWaxWings$Row;"⟩, 16) := ⟨⟨by decide +kernel, by decide +kernel⟩, List.mem_of_getElem? (i := 16) (by decide +kernel), List.mem_of_getElem? (i := 410) (by decide +kernel), List.mem_of_getElem? (i := 411) (by decide +kernel)⟩
theorem lw_p4 : lw_okq (⟨"WaxWings$Reader", "skipBlanks", "()V"⟩, 4) := ⟨⟨by decide +kernel, by decide +kernel⟩, List.mem_of_getElem? (i := 233) (by decide +kernel), List.mem_of_getElem? (i := 426) (by decide +kernel), List.mem_of_getElem? (i := 427) (by decide +kernel)⟩
theorem lw_p5 : lw_okq (⟨"WaxWings$Reader", "here", "()I"⟩, 4) := ⟨⟨by decide +kernel, by decide +kernel⟩, List.mem_of_getElem? (i := 233) (by decide +kernel), List.mem_of_getElem? (i := 430) (by decide +kernel), List.mem_of_getElem? (i := 431) (by decide +kernel)⟩
theorem lw_p6 : lw_okq (⟨"WaxWings$Reader", "readLines", "()Z"⟩, 4) := ⟨⟨by decide +kernel, by decide +kernel⟩, List.mem_of_getElem? (i := 233) (by decide +kernel), List.mem_of_getElem? (i := 436) (by decide +kernel), List.mem_of_getElem? (i := 437) (by decide +kernel)⟩
theorem lw_p7 : lw_okq (⟨"WaxWings$Reader", "readLine", "(I)Z"⟩, 4) := ⟨⟨by decide +kernel, by decide +kernel⟩, List.mem_of_getElem? (i := 233) (by decide +kernel), List.mem_of_getElem? (i := 440) (by decide +kernel), List.mem_of_getElem? (i := 441) (by decide +kernel)⟩
theorem lw_p8 : lw_okq (⟨"WaxWings$Reader", "readSun", "()Z"⟩, 4) := ⟨⟨by decide +kernel, by decide +kernel⟩, List.mem_of_getElem? (i := 233) (by decide +kernel), List.mem_of_getElem? (i := 453) (by decide +kernel), List.mem_of_getElem? (i := 454) (by decide +kernel)⟩
theorem lw_p9 : lw_okq (⟨"WaxWings$Reader", "figureBelow", "(I)I"⟩, 4) := ⟨⟨by decide +kernel, by decide +kernel⟩, List.mem_of_getElem? (i := 233) (by decide +kernel), List.mem_of_getElem? (i := 457) (by decide +kernel), List.mem_of_getElem? (i := 458) (by decide +kernel)⟩
theorem lw_p10 : lw_okq (⟨"WaxWings$Reader", "readFlyers", "()Z"⟩, 4) := ⟨⟨by decide +kernel, by decide +kernel⟩, List.mem_of_getElem? (i := 233) (by decide +kernel), List.mem_of_getElem? (i := 461) (by decide +kernel), List.mem_of_getElem? (i := 462) (by decide +kernel)⟩
theorem lw_p11 : lw_okq (⟨"WaxWings$Reader", "readFlyer", "(II)Z"⟩, 4) := ⟨⟨by decide +kernel, by decide +kernel⟩, List.mem_of_getElem? (i := 233) (by decide +kernel), List.mem_of_getElem? (i := 467) (by decide +kernel), List.mem_of_getElem? (i := 468) (by decide +kernel)⟩
theorem lw_p12 : lw_okq (⟨"WaxWings$Reader", "readEnd", "()Z"⟩, 4) := ⟨⟨by decide +kernel, by decide +kernel⟩, List.mem_of_getElem? (i := 233) (by decide +kernel), List.mem_of_getElem? (i := 479) (by decide +kernel), List.mem_of_getElem? (i := 480) (by decide +kernel)⟩
theorem lw_p13 : lw_okq (⟨"WaxWings", "perform", "(ILWaxWings$Bird;I)I"⟩, 16) := ⟨⟨by decide +kernel, by decide +kernel⟩, List.mem_of_getElem? (i := 16) (by decide +kernel), List.mem_of_getElem? (i := 572) (by decide +kernel), List.mem_of_getElem? (i := 573) (by decide +kernel)⟩
theorem lw_p14 : lw_okq (⟨"WaxWings", "openBeats", "(LWaxWings$Bird;)I"⟩, 16) := ⟨⟨by decide +kernel, by decide +kernel⟩, List.mem_of_getElem? (i := 16) (by decide +kernel), List.mem_of_getElem? (i := 621) (by decide +kernel), List.mem_of_getElem? (i := 622) (by decide +kernel)⟩
theorem lw_p15 : lw_okq (⟨"WaxWings", "setOut", "(LWaxWings$Bird;)V"⟩, 16) := ⟨⟨by decide +kernel, by decide +kernel⟩, List.mem_of_getElem? (i := 16) (by decide +kernel), List.mem_of_getElem? (i := 645) (by decide +kernel), List.mem_of_getElem? (i := 646) (by decide +kernel)⟩
def lw_privs_1 : List (MethodName × Nat) := [(⟨"WaxWings", "rowAt", "(I)LWaxWings$Row;"⟩, 16), (⟨"WaxWings", "madeAnew", "(LWaxWings$Row;II)I"⟩, 16), (⟨"WaxWings", "refuse", "(I)I"⟩, 16), (⟨"WaxWings", "textAt", "(I)LWaxWings$Row;"⟩, 16), (⟨"WaxWings$Reader", "skipBlanks", "()V"⟩, 4), (⟨"WaxWings$Reader", "here", "()I"⟩, 4), (⟨"WaxWings$Reader", "readLines", "()Z"⟩, 4), (⟨"WaxWings$Reader", "readLine", "(I)Z"⟩, 4), (⟨"WaxWings$Reader", "readSun", "()Z"⟩, 4), (⟨"WaxWings$Reader", "figureBelow", "(I)I"⟩, 4), (⟨"WaxWings$Reader", "readFlyers", "()Z"⟩, 4), (⟨"WaxWings$Reader", "readFlyer", "(II)Z"⟩, 4), (⟨"WaxWings$Reader", "readEnd", "()Z"⟩, 4), (⟨"WaxWings", "perform", "(ILWaxWings$Bird;I)I"⟩, 16), (⟨"WaxWings", "openBeats", "(LWaxWings$Bird;)I"⟩, 16), (⟨"WaxWings", "setOut", "(LWaxWings$Bird;)V"⟩, 16)]
theorem lw_r1 : ∀ q ∈ lw_privs_1, lw_okq q := List.forall_mem_cons.mpr ⟨lw_p0, List.forall_mem_cons.mpr ⟨lw_p1, List.forall_mem_cons.mpr ⟨lw_p2, List.forall_mem_cons.mpr ⟨lw_p3, List.forall_mem_cons.mpr ⟨lw_p4, List.forall_mem_cons.mpr ⟨lw_p5, List.forall_mem_cons.mpr ⟨lw_p6, List.forall_mem_cons.mpr ⟨lw_p7, List.forall_mem_cons.mpr ⟨lw_p8, List.forall_mem_cons.mpr ⟨lw_p9, List.forall_mem_cons.mpr ⟨lw_p10, List.forall_mem_cons.mpr ⟨lw_p11, List.forall_mem_cons.mpr ⟨lw_p12, List.forall_mem_cons.mpr ⟨lw_p13, List.forall_mem_cons.mpr ⟨lw_p14, List.forall_mem_cons.mpr ⟨lw_p15, fun _ h => absurd h List.not_mem_nil⟩⟩⟩⟩⟩⟩⟩⟩⟩⟩⟩⟩⟩⟩⟩⟩
theorem lw_p16 : lw_okq (⟨"WaxWings", "tell", "(JJ)V"⟩, 16) := ⟨⟨by decide +kernel, by decide +kernel⟩, List.mem_of_getElem? (i := 16) (by decide +kernel), List.mem_of_getElem? (i := 686) (by decide +kernel), List.mem_of_getElem? (i := 687) (by decide +kernel)⟩
theorem lw_p17 : lw_okq (⟨"WaxWings", "hasWay", "(LWaxWings$Spot;)Z"⟩, 16) := ⟨⟨by decide +kernel, by decide +kernel⟩, List.mem_of_getElem? (i := 16) (by decide +kernel), List.mem_of_getElem? (i := 706) (by decide +kernel), List.mem_of_getElem? (i := 707) (by decide +kernel)⟩
theorem lw_p18 : lw_okq (⟨"WaxWings", "loadsOf", "(LWaxWings$Bird;)I"⟩, 16) := ⟨⟨by decide +kernel, by decide +kernel⟩, List.mem_of_getElem? (i := 16) (by decide +kernel), List.mem_of_getElem? (i := 735) (by decide +kernel), List.mem_of_getElem? (i := 736) (by decide +kernel)⟩
theorem lw_p19 : lw_okq (⟨"WaxWings", "carriersOf", "(II)I"⟩, 16) := ⟨⟨by decide +kernel, by decide +kernel⟩, List.mem_of_getElem? (i := 16) (by decide +kernel), List.mem_of_getElem? (i := 739) (by decide +kernel), List.mem_of_getElem? (i := 740) (by decide +kernel)⟩
theorem lw_p20 : lw_okq (⟨"WaxWings", "writeShares", "(ILWaxWings$Row;)V"⟩, 16) := ⟨⟨by decide +kernel, by decide +kernel⟩, List.mem_of_getElem? (i := 16) (by decide +kernel), List.mem_of_getElem? (i := 746) (by decide +kernel), List.mem_of_getElem? (i := 747) (by decide +kernel)⟩
theorem lw_p21 : lw_okq (⟨"WaxWings$Gusts", "begin", "(LWaxWings$Spot;ILWaxWings$Row;)V"⟩, 4) := ⟨⟨by decide +kernel, by decide +kernel⟩, List.mem_of_getElem? (i := 212) (by decide +kernel), List.mem_of_getElem? (i := 758) (by decide +kernel), List.mem_of_getElem? (i := 759) (by decide +kernel)⟩
theorem lw_p22 : lw_okq (⟨"WaxWings$Gusts", "chance", "(I)I"⟩, 4) := ⟨⟨by decide +kernel, by decide +kernel⟩, List.mem_of_getElem? (i := 212) (by decide +kernel), List.mem_of_getElem? (i := 763) (by decide +kernel), List.mem_of_getElem? (i := 764) (by decide +kernel)⟩
theorem lw_p23 : lw_okq (⟨"WaxWings$Gusts", "chanceBy", "(II)I"⟩, 4) := ⟨⟨by decide +kernel, by decide +kernel⟩, List.mem_of_getElem? (i := 212) (by decide +kernel), List.mem_of_getElem? (i := 771) (by decide +kernel), List.mem_of_getElem? (i := 772) (by decide +kernel)⟩
theorem lw_p24 : lw_okq (⟨"WaxWings$Gusts", "settledChance", "(I)I"⟩, 4) := ⟨⟨by decide +kernel, by decide +kernel⟩, List.mem_of_getElem? (i := 212) (by decide +kernel), List.mem_of_getElem? (i := 780) (by decide +kernel), List.mem_of_getElem? (i := 781) (by decide +kernel)⟩
theorem lw_p25 : lw_okq (⟨"WaxWings", "farthestFrom", "(I)I"⟩, 16) := ⟨⟨by decide +kernel, by decide +kernel⟩, List.mem_of_getElem? (i := 16) (by decide +kernel), List.mem_of_getElem? (i := 809) (by decide +kernel), List.mem_of_getElem? (i := 810) (by decide +kernel)⟩
theorem lw_p26 : lw_okq (⟨"WaxWings", "hasBoat", "(II)Z"⟩, 16) := ⟨⟨by decide +kernel, by decide +kernel⟩, List.mem_of_getElem? (i := 16) (by decide +kernel), List.mem_of_getElem? (i := 813) (by decide +kernel), List.mem_of_getElem? (i := 814) (by decide +kernel)⟩
theorem lw_p27 : lw_okq (⟨"WaxWings", "tally", "(I)I"⟩, 16) := ⟨⟨by decide +kernel, by decide +kernel⟩, List.mem_of_getElem? (i := 16) (by decide +kernel), List.mem_of_getElem? (i := 863) (by decide +kernel), List.mem_of_getElem? (i := 864) (by decide +kernel)⟩
theorem lw_p28 : lw_okq (⟨"WaxWings", "keptSkies", "()I"⟩, 16) := ⟨⟨by decide +kernel, by decide +kernel⟩, List.mem_of_getElem? (i := 16) (by decide +kernel), List.mem_of_getElem? (i := 875) (by decide +kernel), List.mem_of_getElem? (i := 876) (by decide +kernel)⟩
theorem lw_p29 : lw_okq (⟨"WaxWingsModel", "finds", "(I)I"⟩, 39) := ⟨⟨by decide +kernel, by decide +kernel⟩, List.mem_of_getElem? (i := 899) (by decide +kernel), List.mem_of_getElem? (i := 1036) (by decide +kernel), List.mem_of_getElem? (i := 1037) (by decide +kernel)⟩
theorem lw_p30 : lw_okq (⟨"WaxWingsModel", "tells", "(I)I"⟩, 39) := ⟨⟨by decide +kernel, by decide +kernel⟩, List.mem_of_getElem? (i := 899) (by decide +kernel), List.mem_of_getElem? (i := 1044) (by decide +kernel), List.mem_of_getElem? (i := 1045) (by decide +kernel)⟩
theorem lw_p31 : lw_okq (⟨"WaxWingsModel", "faultOf", "(I)I"⟩, 39) := ⟨⟨by decide +kernel, by decide +kernel⟩, List.mem_of_getElem? (i := 899) (by decide +kernel), List.mem_of_getElem? (i := 1080) (by decide +kernel), List.mem_of_getElem? (i := 1081) (by decide +kernel)⟩
def lw_privs_2 : List (MethodName × Nat) := [(⟨"WaxWings", "tell", "(JJ)V"⟩, 16), (⟨"WaxWings", "hasWay", "(LWaxWings$Spot;)Z"⟩, 16), (⟨"WaxWings", "loadsOf", "(LWaxWings$Bird;)I"⟩, 16), (⟨"WaxWings", "carriersOf", "(II)I"⟩, 16), (⟨"WaxWings", "writeShares", "(ILWaxWings$Row;)V"⟩, 16), (⟨"WaxWings$Gusts", "begin", "(LWaxWings$Spot;ILWaxWings$Row;)V"⟩, 4), (⟨"WaxWings$Gusts", "chance", "(I)I"⟩, 4), (⟨"WaxWings$Gusts", "chanceBy", "(II)I"⟩, 4), (⟨"WaxWings$Gusts", "settledChance", "(I)I"⟩, 4), (⟨"WaxWings", "farthestFrom", "(I)I"⟩, 16), (⟨"WaxWings", "hasBoat", "(II)Z"⟩, 16), (⟨"WaxWings", "tally", "(I)I"⟩, 16), (⟨"WaxWings", "keptSkies", "()I"⟩, 16), (⟨"WaxWingsModel", "finds", "(I)I"⟩, 39), (⟨"WaxWingsModel", "tells", "(I)I"⟩, 39), (⟨"WaxWingsModel", "faultOf", "(I)I"⟩, 39)]
theorem lw_r2 : ∀ q ∈ lw_privs_2, lw_okq q := List.forall_mem_cons.mpr ⟨lw_p16, List.forall_mem_cons.mpr ⟨lw_p17, List.forall_mem_cons.mpr ⟨lw_p18, List.forall_mem_cons.mpr ⟨lw_p19, List.forall_mem_cons.mpr ⟨lw_p20, List.forall_mem_cons.mpr ⟨lw_p21, List.forall_mem_cons.mpr ⟨lw_p22, List.forall_mem_cons.mpr ⟨lw_p23, List.forall_mem_cons.mpr ⟨lw_p24, List.forall_mem_cons.mpr ⟨lw_p25, List.forall_mem_cons.mpr ⟨lw_p26, List.forall_mem_cons.mpr ⟨lw_p27, List.forall_mem_cons.mpr ⟨lw_p28, List.forall_mem_cons.mpr ⟨lw_p29, List.forall_mem_cons.mpr ⟨lw_p30, List.forall_mem_cons.mpr ⟨lw_p31, fun _ h => absurd h List.not_mem_nil⟩⟩⟩⟩⟩⟩⟩⟩⟩⟩⟩⟩⟩⟩⟩⟩
theorem lw_p32 : lw_okq (⟨"WaxWingsModel", "reads", "()Z"⟩, 39) := ⟨⟨by decide +kernel, by decide +kernel⟩, List.mem_of_getElem? (i := 899) (by decide +kernel), List.mem_of_getElem? (i := 1084) (by decide +kernel), List.mem_of_getElem? (i := 1085) (by decide +kernel)⟩
theorem lw_p33 : lw_okq (⟨"WaxWingsModel", "readsAir", "()Z"⟩, 39) := ⟨⟨by decide +kernel, by decide +kernel⟩, List.mem_of_getElem? (i := 899) (by decide +kernel), List.mem_of_getElem? (i := 1088) (by decide +kernel), List.mem_of_getElem? (i := 1089) (by decide +kernel)⟩
theorem lw_p34 : lw_okq (⟨"WaxWingsModel", "sign", "()I"⟩, 39) := ⟨⟨by decide +kernel, by decide +kernel⟩, List.mem_of_getElem? (i := 899) (by decide +kernel), List.mem_of_getElem? (i := 1092) (by decide +kernel), List.mem_of_getElem? (i := 1093) (by decide +kernel)⟩
theorem lw_p35 : lw_okq (⟨"WaxWingsModel", "isFigure", "()Z"⟩, 39) := ⟨⟨by decide +kernel, by decide +kernel⟩, List.mem_of_getElem? (i := 899) (by decide +kernel), List.mem_of_getElem? (i := 1099) (by decide +kernel), List.mem_of_getElem? (i := 1100) (by decide +kernel)⟩
theorem lw_p36 : lw_okq (⟨"WaxWingsModel", "isRest", "()Z"⟩, 39) := ⟨⟨by decide +kernel, by decide +kernel⟩, List.mem_of_getElem? (i := 899) (by decide +kernel), List.mem_of_getElem? (i := 1105) (by decide +kernel), List.mem_of_getElem? (i := 1106) (by decide +kernel)⟩
theorem lw_p37 : lw_okq (⟨"WaxWingsModel", "readsFlyer", "()Z"⟩, 39) := ⟨⟨by decide +kernel, by decide +kernel⟩, List.mem_of_getElem? (i := 899) (by decide +kernel), List.mem_of_getElem? (i := 1109) (by decide +kernel), List.mem_of_getElem? (i := 1110) (by decide +kernel)⟩
theorem lw_p38 : lw_okq (⟨"WaxWingsModel", "isFlyer", "(I)Z"⟩, 39) := ⟨⟨by decide +kernel, by decide +kernel⟩, List.mem_of_getElem? (i := 899) (by decide +kernel), List.mem_of_getElem? (i := 1124) (by decide +kernel), List.mem_of_getElem? (i := 1125) (by decide +kernel)⟩
theorem lw_p39 : lw_okq (⟨"WaxWingsModel", "takes", "(I)V"⟩, 39) := ⟨⟨by decide +kernel, by decide +kernel⟩, List.mem_of_getElem? (i := 899) (by decide +kernel), List.mem_of_getElem? (i := 1133) (by decide +kernel), List.mem_of_getElem? (i := 1134) (by decide +kernel)⟩
theorem lw_p40 : lw_okq (⟨"WaxWingsModel", "last", "()I"⟩, 39) := ⟨⟨by decide +kernel, by decide +kernel⟩, List.mem_of_getElem? (i := 899) (by decide +kernel), List.mem_of_getElem? (i := 1137) (by decide +kernel), List.mem_of_getElem? (i := 1138) (by decide +kernel)⟩
theorem lw_p41 : lw_okq (⟨"WaxWingsModel", "costs", "(I)I"⟩, 39) := ⟨⟨by decide +kernel, by decide +kernel⟩, List.mem_of_getElem? (i := 899) (by decide +kernel), List.mem_of_getElem? (i := 1141) (by decide +kernel), List.mem_of_getElem? (i := 1142) (by decide +kernel)⟩
theorem lw_p42 : lw_okq (⟨"WaxWingsModel", "airAt", "(II)I"⟩, 39) := ⟨⟨by decide +kernel, by decide +kernel⟩, List.mem_of_getElem? (i := 899) (by decide +kernel), List.mem_of_getElem? (i := 1152) (by decide +kernel), List.mem_of_getElem? (i := 1153) (by decide +kernel)⟩
theorem lw_p43 : lw_okq (⟨"WaxWingsModel", "canBeat", "(I)Z"⟩, 39) := ⟨⟨by decide +kernel, by decide +kernel⟩, List.mem_of_getElem? (i := 899) (by decide +kernel), List.mem_of_getElem? (i := 1170) (by decide +kernel), List.mem_of_getElem? (i := 1171) (by decide +kernel)⟩
theorem lw_p44 : lw_okq (⟨"WaxWingsModel", "isOver", "()Z"⟩, 39) := ⟨⟨by decide +kernel, by decide +kernel⟩, List.mem_of_getElem? (i := 899) (by decide +kernel), List.mem_of_getElem? (i := 1174) (by decide +kernel), List.mem_of_getElem? (i := 1175) (by decide +kernel)⟩
theorem lw_p45 : lw_okq (⟨"WaxWingsModel", "columnBehind", "()I"⟩, 39) := ⟨⟨by decide +kernel, by decide +kernel⟩, List.mem_of_getElem? (i := 899) (by decide +kernel), List.mem_of_getElem? (i := 1178) (by decide +kernel), List.mem_of_getElem? (i := 1179) (by decide +kernel)⟩
theorem lw_p46 : lw_okq (⟨"WaxWingsModel", "does", "(II)V"⟩, 39) := ⟨⟨by decide +kernel, by decide +kernel⟩, List.mem_of_getElem? (i := 899) (by decide +kernel), List.mem_of_getElem? (i := 1182) (by decide +kernel), List.mem_of_getElem? (i := 1183) (by decide +kernel)⟩
theorem lw_p47 : lw_okq (⟨"WaxWingsModel", "beats", "(I)V"⟩, 39) := ⟨⟨by decide +kernel, by decide +kernel⟩, List.mem_of_getElem? (i := 899) (by decide +kernel), List.mem_of_getElem? (i := 1186) (by decide +kernel), List.mem_of_getElem? (i := 1187) (by decide +kernel)⟩
def lw_privs_3 : List (MethodName × Nat) := [(⟨"WaxWingsModel", "reads", "()Z"⟩, 39), (⟨"WaxWingsModel", "readsAir", "()Z"⟩, 39), (⟨"WaxWingsModel", "sign", "()I"⟩, 39), (⟨"WaxWingsModel", "isFigure", "()Z"⟩, 39), (⟨"WaxWingsModel", "isRest", "()Z"⟩, 39), (⟨"WaxWingsModel", "readsFlyer", "()Z"⟩, 39), (⟨"WaxWingsModel", "isFlyer", "(I)Z"⟩, 39), (⟨"WaxWingsModel", "takes", "(I)V"⟩, 39), (⟨"WaxWingsModel", "last", "()I"⟩, 39), (⟨"WaxWingsModel", "costs", "(I)I"⟩, 39), (⟨"WaxWingsModel", "airAt", "(II)I"⟩, 39), (⟨"WaxWingsModel", "canBeat", "(I)Z"⟩, 39), (⟨"WaxWingsModel", "isOver", "()Z"⟩, 39), (⟨"WaxWingsModel", "columnBehind", "()I"⟩, 39), (⟨"WaxWingsModel", "does", "(II)V"⟩, 39), (⟨"WaxWingsModel", "beats", "(I)V"⟩, 39)]
theorem lw_r3 : ∀ q ∈ lw_privs_3, lw_okq q := List.forall_mem_cons.mpr ⟨lw_p32, List.forall_mem_cons.mpr ⟨lw_p33, List.forall_mem_cons.mpr ⟨lw_p34, List.forall_mem_cons.mpr ⟨lw_p35, List.forall_mem_cons.mpr ⟨lw_p36, List.forall_mem_cons.mpr ⟨lw_p37, List.forall_mem_cons.mpr ⟨lw_p38, List.forall_mem_cons.mpr ⟨lw_p39, List.forall_mem_cons.mpr ⟨lw_p40, List.forall_mem_cons.mpr ⟨lw_p41, List.forall_mem_cons.mpr ⟨lw_p42, List.forall_mem_cons.mpr ⟨lw_p43, List.forall_mem_cons.mpr ⟨lw_p44, List.forall_mem_cons.mpr ⟨lw_p45, List.forall_mem_cons.mpr ⟨lw_p46, List.forall_mem_cons.mpr ⟨lw_p47, fun _ h => absurd h List.not_mem_nil⟩⟩⟩⟩⟩⟩⟩⟩⟩⟩⟩⟩⟩⟩⟩⟩
theorem lw_p48 : lw_okq (⟨"WaxWingsModel", "moves", "(I)V"⟩, 39) := ⟨⟨by decide +kernel, by decide +kernel⟩, List.mem_of_getElem? (i := 899) (by decide +kernel), List.mem_of_getElem? (i := 1190) (by decide +kernel), List.mem_of_getElem? (i := 1191) (by decide +kernel)⟩
theorem lw_p49 : lw_okq (⟨"WaxWingsModel", "settles", "()V"⟩, 39) := ⟨⟨by decide +kernel, by decide +kernel⟩, List.mem_of_getElem? (i := 899) (by decide +kernel), List.mem_of_getElem? (i := 1194) (by decide +kernel), List.mem_of_getElem? (i := 1195) (by decide +kernel)⟩
theorem lw_p50 : lw_okq (⟨"WaxWingsModel", "keeps", "(I)V"⟩, 39) := ⟨⟨by decide +kernel, by decide +kernel⟩, List.mem_of_getElem? (i := 899) (by decide +kernel), List.mem_of_getElem? (i := 1198) (by decide +kernel), List.mem_of_getElem? (i := 1199) (by decide +kernel)⟩
theorem lw_p51 : lw_okq (⟨"WaxWingsModel", "hasFallen", "(I)Z"⟩, 39) := ⟨⟨by decide +kernel, by decide +kernel⟩, List.mem_of_getElem? (i := 899) (by decide +kernel), List.mem_of_getElem? (i := 1226) (by decide +kernel), List.mem_of_getElem? (i := 1227) (by decide +kernel)⟩
theorem lw_p52 : lw_okq (⟨"WaxWingsModel", "areBeats", "(I)Z"⟩, 39) := ⟨⟨by decide +kernel, by decide +kernel⟩, List.mem_of_getElem? (i := 899) (by decide +kernel), List.mem_of_getElem? (i := 1230) (by decide +kernel), List.mem_of_getElem? (i := 1231) (by decide +kernel)⟩
theorem lw_p53 : lw_okq (⟨"WaxWingsModel", "goes", "(I)Z"⟩, 39) := ⟨⟨by decide +kernel, by decide +kernel⟩, List.mem_of_getElem? (i := 899) (by decide +kernel), List.mem_of_getElem? (i := 1238) (by decide +kernel), List.mem_of_getElem? (i := 1239) (by decide +kernel)⟩
theorem lw_p54 : lw_okq (⟨"WaxWingsModel", "lays", "(I)V"⟩, 39) := ⟨⟨by decide +kernel, by decide +kernel⟩, List.mem_of_getElem? (i := 899) (by decide +kernel), List.mem_of_getElem? (i := 1242) (by decide +kernel), List.mem_of_getElem? (i := 1243) (by decide +kernel)⟩
theorem lw_p55 : lw_okq (⟨"WaxWingsModel", "least", "(III)I"⟩, 39) := ⟨⟨by decide +kernel, by decide +kernel⟩, List.mem_of_getElem? (i := 899) (by decide +kernel), List.mem_of_getElem? (i := 1266) (by decide +kernel), List.mem_of_getElem? (i := 1267) (by decide +kernel)⟩
theorem lw_p56 : lw_okq (⟨"WaxWingsModel", "mayGo", "(III)Z"⟩, 39) := ⟨⟨by decide +kernel, by decide +kernel⟩, List.mem_of_getElem? (i := 899) (by decide +kernel), List.mem_of_getElem? (i := 1270) (by decide +kernel), List.mem_of_getElem? (i := 1271) (by decide +kernel)⟩
theorem lw_p57 : lw_okq (⟨"WaxWingsModel", "greatest", "(III)I"⟩, 39) := ⟨⟨by decide +kernel, by decide +kernel⟩, List.mem_of_getElem? (i := 899) (by decide +kernel), List.mem_of_getElem? (i := 1282) (by decide +kernel), List.mem_of_getElem? (i := 1283) (by decide +kernel)⟩
theorem lw_p58 : lw_okq (⟨"WaxWingsModel", "chances", "(III)J"⟩, 39) := ⟨⟨by decide +kernel, by decide +kernel⟩, List.mem_of_getElem? (i := 899) (by decide +kernel), List.mem_of_getElem? (i := 1303) (by decide +kernel), List.mem_of_getElem? (i := 1304) (by decide +kernel)⟩
theorem lw_p59 : lw_okq (⟨"WaxWingsModel", "lies", "(I)V"⟩, 39) := ⟨⟨by decide +kernel, by decide +kernel⟩, List.mem_of_getElem? (i := 899) (by decide +kernel), List.mem_of_getElem? (i := 1307) (by decide +kernel), List.mem_of_getElem? (i := 1308) (by decide +kernel)⟩
theorem lw_p60 : lw_okq (⟨"WaxWingsModel", "stands", "(I)V"⟩, 39) := ⟨⟨by decide +kernel, by decide +kernel⟩, List.mem_of_getElem? (i := 899) (by decide +kernel), List.mem_of_getElem? (i := 1311) (by decide +kernel), List.mem_of_getElem? (i := 1312) (by decide +kernel)⟩
theorem lw_p61 : lw_okq (⟨"WaxWingsModel", "mayGust", "()Z"⟩, 39) := ⟨⟨by decide +kernel, by decide +kernel⟩, List.mem_of_getElem? (i := 899) (by decide +kernel), List.mem_of_getElem? (i := 1318) (by decide +kernel), List.mem_of_getElem? (i := 1319) (by decide +kernel)⟩
theorem lw_p62 : lw_okq (⟨"WaxWingsModel", "chanceIs", "(J)I"⟩, 39) := ⟨⟨by decide +kernel, by decide +kernel⟩, List.mem_of_getElem? (i := 899) (by decide +kernel), List.mem_of_getElem? (i := 1322) (by decide +kernel), List.mem_of_getElem? (i := 1323) (by decide +kernel)⟩
theorem lw_p63 : lw_okq (⟨"WaxWingsModel", "countOf", "(I)I"⟩, 39) := ⟨⟨by decide +kernel, by decide +kernel⟩, List.mem_of_getElem? (i := 899) (by decide +kernel), List.mem_of_getElem? (i := 1374) (by decide +kernel), List.mem_of_getElem? (i := 1375) (by decide +kernel)⟩
def lw_privs_4 : List (MethodName × Nat) := [(⟨"WaxWingsModel", "moves", "(I)V"⟩, 39), (⟨"WaxWingsModel", "settles", "()V"⟩, 39), (⟨"WaxWingsModel", "keeps", "(I)V"⟩, 39), (⟨"WaxWingsModel", "hasFallen", "(I)Z"⟩, 39), (⟨"WaxWingsModel", "areBeats", "(I)Z"⟩, 39), (⟨"WaxWingsModel", "goes", "(I)Z"⟩, 39), (⟨"WaxWingsModel", "lays", "(I)V"⟩, 39), (⟨"WaxWingsModel", "least", "(III)I"⟩, 39), (⟨"WaxWingsModel", "mayGo", "(III)Z"⟩, 39), (⟨"WaxWingsModel", "greatest", "(III)I"⟩, 39), (⟨"WaxWingsModel", "chances", "(III)J"⟩, 39), (⟨"WaxWingsModel", "lies", "(I)V"⟩, 39), (⟨"WaxWingsModel", "stands", "(I)V"⟩, 39), (⟨"WaxWingsModel", "mayGust", "()Z"⟩, 39), (⟨"WaxWingsModel", "chanceIs", "(J)I"⟩, 39), (⟨"WaxWingsModel", "countOf", "(I)I"⟩, 39)]
theorem lw_r4 : ∀ q ∈ lw_privs_4, lw_okq q := List.forall_mem_cons.mpr ⟨lw_p48, List.forall_mem_cons.mpr ⟨lw_p49, List.forall_mem_cons.mpr ⟨lw_p50, List.forall_mem_cons.mpr ⟨lw_p51, List.forall_mem_cons.mpr ⟨lw_p52, List.forall_mem_cons.mpr ⟨lw_p53, List.forall_mem_cons.mpr ⟨lw_p54, List.forall_mem_cons.mpr ⟨lw_p55, List.forall_mem_cons.mpr ⟨lw_p56, List.forall_mem_cons.mpr ⟨lw_p57, List.forall_mem_cons.mpr ⟨lw_p58, List.forall_mem_cons.mpr ⟨lw_p59, List.forall_mem_cons.mpr ⟨lw_p60, List.forall_mem_cons.mpr ⟨lw_p61, List.forall_mem_cons.mpr ⟨lw_p62, List.forall_mem_cons.mpr ⟨lw_p63, fun _ h => absurd h List.not_mem_nil⟩⟩⟩⟩⟩⟩⟩⟩⟩⟩⟩⟩⟩⟩⟩⟩
def lw_privs : List (MethodName × Nat) := lw_privs_1 ++ (lw_privs_2 ++ (lw_privs_3 ++ (lw_privs_4)))
def lw_tbl : List Cond := k2_sels lw_privs ++ tables_1
theorem lw_privs_ok : ∀ q ∈ lw_privs, lw_okq q := by
  show ∀ q ∈ lw_privs_1 ++ (lw_privs_2 ++ (lw_privs_3 ++ (lw_privs_4))), lw_okq q
  exact List.forall_mem_append.mpr ⟨lw_r1, List.forall_mem_append.mpr ⟨lw_r2, List.forall_mem_append.mpr ⟨lw_r3, lw_r4⟩⟩⟩
def RX0 : String := "WaxWings$Air"
def TX0 : u_T := fun k => match k with
  | 0 => ("WaxWings$Air", "cells", "[I", true)
  | 1 => ("WaxWings$Air", "columns", "I", false)
  | _ => ("WaxWings$Air", "heights", "I", false)
def tyX0 : Nat → FieldType := fun k => match k with
  | 0 => .array .int
  | 1 => .int
  | _ => .int
abbrev wsX00 : List Cond := u_ws RX0 TX0 3
theorem nmX0 : ∀ a, a < 3 → ∀ b, b < 3 → a ≠ b → (TX0 a).2.1 ≠ (TX0 b).2.1 := by decide +kernel
theorem tyX0_ok : ∀ k, k < 3 → parseFieldDescriptor (TX0 k).2.2.1 = some (tyX0 k) := by decide +kernel
def RX1 : String := "WaxWings$Bird"
def TX1 : u_T := fun k => match k with
  | 0 => ("WaxWings$Bird", "spot", "LWaxWings$Spot;", true)
  | 1 => ("WaxWings$Bird", "kind", "I", false)
  | 2 => ("WaxWings$Bird", "wax", "I", false)
  | _ => ("WaxWings$Bird", "letters", "I", false)
def tyX1 : Nat → FieldType := fun k => match k with
  | 0 => .object "WaxWings$Spot"
  | 1 => .int
  | 2 => .int
  | _ => .int
abbrev wsX10 : List Cond := u_ws RX1 TX1 4
theorem nmX1 : ∀ a, a < 4 → ∀ b, b < 4 → a ≠ b → (TX1 a).2.1 ≠ (TX1 b).2.1 := by decide +kernel
theorem tyX1_ok : ∀ k, k < 4 → parseFieldDescriptor (TX1 k).2.2.1 = some (tyX1 k) := by decide +kernel
def RX2 : String := "WaxWings$Flight"
def TX2 : u_T := fun k => match k with
  | 0 => ("WaxWings$Flight", "air", "LWaxWings$Air;", true)
  | 1 => ("WaxWings$Flight", "kind", "I", false)
  | 2 => ("WaxWings$Flight", "wax", "I", false)
  | 3 => ("WaxWings$Flight", "letters", "I", false)
  | _ => ("WaxWings$Flight", "sun", "I", false)
def tyX2 : Nat → FieldType := fun k => match k with
  | 0 => .object "WaxWings$Air"
  | 1 => .int
  | 2 => .int
  | 3 => .int
  | _ => .int
abbrev wsX20 : List Cond := u_ws RX2 TX2 5
theorem nmX2 : ∀ a, a < 5 → ∀ b, b < 5 → a ≠ b → (TX2 a).2.1 ≠ (TX2 b).2.1 := by decide +kernel
theorem tyX2_ok : ∀ k, k < 5 → parseFieldDescriptor (TX2 k).2.2.1 = some (tyX2 k) := by decide +kernel
def RX3 : String := "WaxWings$Gusts"
def TX3 : u_T := fun k => match k with
  | 0 => ("WaxWings$Gusts", "flight", "LWaxWings$Flight;", true)
  | 1 => ("WaxWings$Gusts", "trail", "[LWaxWings$Spot;", true)
  | 2 => ("WaxWings$Gusts", "force", "I", false)
  | _ => ("WaxWings$Gusts", "script", "LWaxWings$Row;", false)
def tyX3 : Nat → FieldType := fun k => match k with
  | 0 => .object "WaxWings$Flight"
  | 1 => .array (.object "WaxWings$Spot")
  | 2 => .int
  | _ => .object "WaxWings$Row"
abbrev wsX30 : List Cond := u_ws RX3 TX3 4
theorem nmX3 : ∀ a, a < 4 → ∀ b, b < 4 → a ≠ b → (TX3 a).2.1 ≠ (TX3 b).2.1 := by decide +kernel
theorem tyX3_ok : ∀ k, k < 4 → parseFieldDescriptor (TX3 k).2.2.1 = some (tyX3 k) := by decide +kernel
def RX4 : String := "WaxWings$Reader"
def TX4 : u_T := fun k => match k with
  | 0 => ("WaxWings$Reader", "air", "LWaxWings$Air;", true)
  | 1 => ("WaxWings$Reader", "sky", "LWaxWings$Sky;", true)
  | 2 => ("WaxWings$Reader", "text", "LWaxWings$Row;", false)
  | _ => ("WaxWings$Reader", "place", "I", false)
def tyX4 : Nat → FieldType := fun k => match k with
  | 0 => .object "WaxWings$Air"
  | 1 => .object "WaxWings$Sky"
  | 2 => .object "WaxWings$Row"
  | _ => .int
abbrev wsX40 : List Cond := u_ws RX4 TX4 4
theorem nmX4 : ∀ a, a < 4 → ∀ b, b < 4 → a ≠ b → (TX4 a).2.1 ≠ (TX4 b).2.1 := by decide +kernel
theorem tyX4_ok : ∀ k, k < 4 → parseFieldDescriptor (TX4 k).2.2.1 = some (tyX4 k) := by decide +kernel
def RX5 : String := "WaxWings$Row"
def TX5 : u_T := fun k => match k with
  | 0 => ("WaxWings$Row", "places", "[I", true)
  | _ => ("WaxWings$Row", "size", "I", false)
def tyX5 : Nat → FieldType := fun k => match k with
  | 0 => .array .int
  | _ => .int
abbrev wsX50 : List Cond := u_ws RX5 TX5 2
theorem nmX5 : ∀ a, a < 2 → ∀ b, b < 2 → a ≠ b → (TX5 a).2.1 ≠ (TX5 b).2.1 := by decide +kernel
theorem tyX5_ok : ∀ k, k < 2 → parseFieldDescriptor (TX5 k).2.2.1 = some (tyX5 k) := by decide +kernel
def RX6 : String := "WaxWings$Sky"
def TX6 : u_T := fun k => match k with
  | 0 => ("WaxWings$Sky", "birds", "[LWaxWings$Bird;", true)
  | 1 => ("WaxWings$Sky", "who", "[I", true)
  | 2 => ("WaxWings$Sky", "past", "[LWaxWings$Spot;", true)
  | 3 => ("WaxWings$Sky", "there", "Z", false)
  | 4 => ("WaxWings$Sky", "flyers", "I", false)
  | 5 => ("WaxWings$Sky", "sun", "I", false)
  | _ => ("WaxWings$Sky", "beats", "I", false)
def tyX6 : Nat → FieldType := fun k => match k with
  | 0 => .array (.object "WaxWings$Bird")
  | 1 => .array .int
  | 2 => .array (.object "WaxWings$Spot")
  | 3 => .boolean
  | 4 => .int
  | 5 => .int
  | _ => .int
abbrev wsX60 : List Cond := u_ws RX6 TX6 7
theorem nmX6 : ∀ a, a < 7 → ∀ b, b < 7 → a ≠ b → (TX6 a).2.1 ≠ (TX6 b).2.1 := by decide +kernel
theorem tyX6_ok : ∀ k, k < 7 → parseFieldDescriptor (TX6 k).2.2.1 = some (tyX6 k) := by decide +kernel
def RX7 : String := "WaxWings$Spot"
def TX7 : u_T := fun k => match k with
  | 0 => ("WaxWings$Spot", "column", "I", false)
  | 1 => ("WaxWings$Spot", "height", "I", false)
  | 2 => ("WaxWings$Spot", "strength", "I", false)
  | 3 => ("WaxWings$Spot", "heat", "I", false)
  | 4 => ("WaxWings$Spot", "clog", "I", false)
  | _ => ("WaxWings$Spot", "fell", "I", false)
def tyX7 : Nat → FieldType := fun k => match k with
  | 0 => .int
  | 1 => .int
  | 2 => .int
  | 3 => .int
  | 4 => .int
  | _ => .int
abbrev wsX70 : List Cond := u_ws RX7 TX7 6
theorem nmX7 : ∀ a, a < 6 → ∀ b, b < 6 → a ≠ b → (TX7 a).2.1 ≠ (TX7 b).2.1 := by decide +kernel
theorem tyX7_ok : ∀ k, k < 6 → parseFieldDescriptor (TX7 k).2.2.1 = some (tyX7 k) := by decide +kernel
def RX8 : String := "WaxWings$Walker"
def TX8 : u_T := fun k => match k with
  | 0 => ("WaxWings$Walker", "flight", "LWaxWings$Flight;", true)
  | 1 => ("WaxWings$Walker", "trail", "[LWaxWings$Spot;", true)
  | 2 => ("WaxWings$Walker", "beats", "[I", true)
  | 3 => ("WaxWings$Walker", "depth", "I", false)
  | _ => ("WaxWings$Walker", "fresh", "Z", false)
def tyX8 : Nat → FieldType := fun k => match k with
  | 0 => .object "WaxWings$Flight"
  | 1 => .array (.object "WaxWings$Spot")
  | 2 => .array .int
  | 3 => .int
  | _ => .boolean
abbrev wsX80 : List Cond := u_ws RX8 TX8 5
theorem nmX8 : ∀ a, a < 5 → ∀ b, b < 5 → a ≠ b → (TX8 a).2.1 ≠ (TX8 b).2.1 := by decide +kernel
theorem tyX8_ok : ∀ k, k < 5 → parseFieldDescriptor (TX8 k).2.2.1 = some (tyX8 k) := by decide +kernel
def RX9 : String := "WaxWings"
def TX9 : u_T := fun k => match k with
  | 0 => ("WaxWings", "rows", "[LWaxWings$Row;", true)
  | 1 => ("WaxWings", "texts", "[LWaxWings$Row;", true)
  | 2 => ("WaxWings", "air", "LWaxWings$Air;", true)
  | 3 => ("WaxWings", "now", "LWaxWings$Sky;", true)
  | 4 => ("WaxWings", "kept", "[LWaxWings$Sky;", true)
  | 5 => ("WaxWings", "flight", "LWaxWings$Flight;", true)
  | 6 => ("WaxWings", "walker", "LWaxWings$Walker;", true)
  | 7 => ("WaxWings", "gusts", "LWaxWings$Gusts;", true)
  | 8 => ("WaxWings", "reader", "LWaxWings$Reader;", true)
  | 9 => ("WaxWings", "aside", "LWaxWings$Spot;", true)
  | 10 => ("WaxWings", "found", "[I", true)
  | 11 => ("WaxWings", "loads", "[I", true)
  | 12 => ("WaxWings", "latest", "I", false)
  | 13 => ("WaxWings", "told", "I", false)
  | 14 => ("WaxWings", "upperTold", "J", false)
  | _ => ("WaxWings", "lowerTold", "J", false)
def tyX9 : Nat → FieldType := fun k => match k with
  | 0 => .array (.object "WaxWings$Row")
  | 1 => .array (.object "WaxWings$Row")
  | 2 => .object "WaxWings$Air"
  | 3 => .object "WaxWings$Sky"
  | 4 => .array (.object "WaxWings$Sky")
  | 5 => .object "WaxWings$Flight"
  | 6 => .object "WaxWings$Walker"
  | 7 => .object "WaxWings$Gusts"
  | 8 => .object "WaxWings$Reader"
  | 9 => .object "WaxWings$Spot"
  | 10 => .array .int
  | 11 => .array .int
  | 12 => .int
  | 13 => .int
  | 14 => .long
  | _ => .long
abbrev wsX90 : List Cond := u_ws RX9 TX9 16
theorem nmX9 : ∀ a, a < 16 → ∀ b, b < 16 → a ≠ b → (TX9 a).2.1 ≠ (TX9 b).2.1 := by decide +kernel
theorem tyX9_ok : ∀ k, k < 16 → parseFieldDescriptor (TX9 k).2.2.1 = some (tyX9 k) := by decide +kernel
def RX10 : String := "WaxWingsModel"
def TX10 : u_T := fun k => match k with
  | 0 => ("WaxWingsModel", "sizes", "[I", true)
  | 1 => ("WaxWingsModel", "rows", "[I", true)
  | 2 => ("WaxWingsModel", "lengths", "[I", true)
  | 3 => ("WaxWingsModel", "texts", "[I", true)
  | 4 => ("WaxWingsModel", "sky", "[I", true)
  | 5 => ("WaxWingsModel", "images", "[I", true)
  | 6 => ("WaxWingsModel", "kept", "[Z", true)
  | 7 => ("WaxWingsModel", "found", "[I", true)
  | 8 => ("WaxWingsModel", "latest", "I", false)
  | 9 => ("WaxWingsModel", "told", "I", false)
  | 10 => ("WaxWingsModel", "up", "J", false)
  | 11 => ("WaxWingsModel", "down", "J", false)
  | 12 => ("WaxWingsModel", "copied", "[I", true)
  | 13 => ("WaxWingsModel", "from", "I", false)
  | 14 => ("WaxWingsModel", "end", "I", false)
  | 15 => ("WaxWingsModel", "place", "I", false)
  | 16 => ("WaxWingsModel", "drawn", "[I", true)
  | 17 => ("WaxWingsModel", "kind", "I", false)
  | 18 => ("WaxWingsModel", "column", "I", false)
  | 19 => ("WaxWingsModel", "height", "I", false)
  | 20 => ("WaxWingsModel", "strength", "I", false)
  | 21 => ("WaxWingsModel", "heat", "I", false)
  | 22 => ("WaxWingsModel", "clog", "I", false)
  | 23 => ("WaxWingsModel", "fell", "I", false)
  | 24 => ("WaxWingsModel", "wax", "I", false)
  | 25 => ("WaxWingsModel", "letters", "I", false)
  | 26 => ("WaxWingsModel", "sun", "I", false)
  | 27 => ("WaxWingsModel", "way", "[I", true)
  | 28 => ("WaxWingsModel", "steps", "I", false)
  | 29 => ("WaxWingsModel", "hot", "I", false)
  | 30 => ("WaxWingsModel", "comes", "[I", true)
  | 31 => ("WaxWingsModel", "may", "[I", true)
  | 32 => ("WaxWingsModel", "has", "[I", true)
  | 33 => ("WaxWingsModel", "pile", "[I", true)
  | 34 => ("WaxWingsModel", "beat", "[I", true)
  | 35 => ("WaxWingsModel", "phase", "[I", true)
  | 36 => ("WaxWingsModel", "gathered", "[J", true)
  | 37 => ("WaxWingsModel", "best", "[J", true)
  | _ => ("WaxWingsModel", "pick", "[I", true)
def tyX10 : Nat → FieldType := fun k => match k with
  | 0 => .array .int
  | 1 => .array .int
  | 2 => .array .int
  | 3 => .array .int
  | 4 => .array .int
  | 5 => .array .int
  | 6 => .array .boolean
  | 7 => .array .int
  | 8 => .int
  | 9 => .int
  | 10 => .long
  | 11 => .long
  | 12 => .array .int
  | 13 => .int
  | 14 => .int
  | 15 => .int
  | 16 => .array .int
  | 17 => .int
  | 18 => .int
  | 19 => .int
  | 20 => .int
  | 21 => .int
  | 22 => .int
  | 23 => .int
  | 24 => .int
  | 25 => .int
  | 26 => .int
  | 27 => .array .int
  | 28 => .int
  | 29 => .int
  | 30 => .array .int
  | 31 => .array .int
  | 32 => .array .int
  | 33 => .array .int
  | 34 => .array .int
  | 35 => .array .int
  | 36 => .array .long
  | 37 => .array .long
  | _ => .array .int
abbrev wsX100 : List Cond := u_ws RX10 TX10 39
theorem nmX10 : ∀ a, a < 39 → ∀ b, b < 39 → a ≠ b → (TX10 a).2.1 ≠ (TX10 b).2.1 := by decide +kernel
theorem tyX10_ok : ∀ k, k < 39 → parseFieldDescriptor (TX10 k).2.2.1 = some (tyX10 k) := by decide +kernel
abbrev vwCl : List vw_C := [(RX0, TX0, 3), (RX1, TX1, 4), (RX2, TX2, 5), (RX3, TX3, 4), (RX4, TX4, 4), (RX5, TX5, 2), (RX6, TX6, 7), (RX7, TX7, 6), (RX8, TX8, 5), (RX9, TX9, 16), (RX10, TX10, 39)]
def zi_gw : List Cond := lw_tbl.filter goodWord
theorem zi_gwI {w : Cond} (i : Nat) (h : lw_tbl[i]? = some w) (g : goodWord w = true) : w ∈ zi_gw := List.mem_filter.mpr ⟨List.mem_of_getElem? h, g⟩
def zi_li0 : List Nat := [103, 105, 107]
theorem zi_ly0 : ∀ w ∈ wsX00, w ∈ zi_gw := by
  have h : ∀ k, k < 3 → (lw_tbl[(zi_li0)[k]?.getD 0]? = some (u_lay RX0 TX0 k) ∧ goodWord (u_lay RX0 TX0 k) = true) := by decide +kernel
  intro w hw
  obtain ⟨k, hk, rfl⟩ := List.mem_map.mp hw
  have hk := List.mem_range.mp hk
  exact zi_gwI _ (h k hk).1 (h k hk).2
def zi_li1 : List Nat := [185, 187, 189, 191]
theorem zi_ly1 : ∀ w ∈ wsX10, w ∈ zi_gw := by
  have h : ∀ k, k < 4 → (lw_tbl[(zi_li1)[k]?.getD 0]? = some (u_lay RX1 TX1 k) ∧ goodWord (u_lay RX1 TX1 k) = true) := by decide +kernel
  intro w hw
  obtain ⟨k, hk, rfl⟩ := List.mem_map.mp hw
  have hk := List.mem_range.mp hk
  exact zi_gwI _ (h k hk).1 (h k hk).2
def zi_li2 : List Nat := [240, 242, 244, 246, 248]
theorem zi_ly2 : ∀ w ∈ wsX20, w ∈ zi_gw := by
  have h : ∀ k, k < 5 → (lw_tbl[(zi_li2)[k]?.getD 0]? = some (u_lay RX2 TX2 k) ∧ goodWord (u_lay RX2 TX2 k) = true) := by decide +kernel
  intro w hw
  obtain ⟨k, hk, rfl⟩ := List.mem_map.mp hw
  have hk := List.mem_range.mp hk
  exact zi_gwI _ (h k hk).1 (h k hk).2
def zi_li3 : List Nat := [287, 289, 291, 293]
theorem zi_ly3 : ∀ w ∈ wsX30, w ∈ zi_gw := by
  have h : ∀ k, k < 4 → (lw_tbl[(zi_li3)[k]?.getD 0]? = some (u_lay RX3 TX3 k) ∧ goodWord (u_lay RX3 TX3 k) = true) := by decide +kernel
  intro w hw
  obtain ⟨k, hk, rfl⟩ := List.mem_map.mp hw
  have hk := List.mem_range.mp hk
  exact zi_gwI _ (h k hk).1 (h k hk).2
def zi_li4 : List Nat := [310, 312, 314, 316]
theorem zi_ly4 : ∀ w ∈ wsX40, w ∈ zi_gw := by
  have h : ∀ k, k < 4 → (lw_tbl[(zi_li4)[k]?.getD 0]? = some (u_lay RX4 TX4 k) ∧ goodWord (u_lay RX4 TX4 k) = true) := by decide +kernel
  intro w hw
  obtain ⟨k, hk, rfl⟩ := List.mem_map.mp hw
  have hk := List.mem_range.mp hk
  exact zi_gwI _ (h k hk).1 (h k hk).2
def zi_li5 : List Nat := [331, 333]
theorem zi_ly5 : ∀ w ∈ wsX50, w ∈ zi_gw := by
  have h : ∀ k, k < 2 → (lw_tbl[(zi_li5)[k]?.getD 0]? = some (u_lay RX5 TX5 k) ∧ goodWord (u_lay RX5 TX5 k) = true) := by decide +kernel
  intro w hw
  obtain ⟨k, hk, rfl⟩ := List.mem_map.mp hw
  have hk := List.mem_range.mp hk
  exact zi_gwI _ (h k hk).1 (h k hk).2
def zi_li6 : List Nat := [209, 211, 213, 215, 217, 219, 221]
theorem zi_ly6 : ∀ w ∈ wsX60, w ∈ zi_gw := by
  have h : ∀ k, k < 7 → (lw_tbl[(zi_li6)[k]?.getD 0]? = some (u_lay RX6 TX6 k) ∧ goodWord (u_lay RX6 TX6 k) = true) := by decide +kernel
  intro w hw
  obtain ⟨k, hk, rfl⟩ := List.mem_map.mp hw
  have hk := List.mem_range.mp hk
  exact zi_gwI _ (h k hk).1 (h k hk).2
def zi_li7 : List Nat := [160, 162, 164, 166, 168, 170]
theorem zi_ly7 : ∀ w ∈ wsX70, w ∈ zi_gw := by
  have h : ∀ k, k < 6 → (lw_tbl[(zi_li7)[k]?.getD 0]? = some (u_lay RX7 TX7 k) ∧ goodWord (u_lay RX7 TX7 k) = true) := by decide +kernel
  intro w hw
  obtain ⟨k, hk, rfl⟩ := List.mem_map.mp hw
  have hk := List.mem_range.mp hk
  exact zi_gwI _ (h k hk).1 (h k hk).2
def zi_li8 : List Nat := [264, 266, 268, 270, 272]
theorem zi_ly8 : ∀ w ∈ wsX80, w ∈ zi_gw := by
  have h : ∀ k, k < 5 → (lw_tbl[(zi_li8)[k]?.getD 0]? = some (u_lay RX8 TX8 k) ∧ goodWord (u_lay RX8 TX8 k) = true) := by decide +kernel
  intro w hw
  obtain ⟨k, hk, rfl⟩ := List.mem_map.mp hw
  have hk := List.mem_range.mp hk
  exact zi_gwI _ (h k hk).1 (h k hk).2
def zi_li9 : List Nat := [352, 354, 356, 358, 360, 362, 364, 366, 368, 370, 372, 374, 376, 378, 380, 382]
theorem zi_ly9 : ∀ w ∈ wsX90, w ∈ zi_gw := by
  have h : ∀ k, k < 16 → (lw_tbl[(zi_li9)[k]?.getD 0]? = some (u_lay RX9 TX9 k) ∧ goodWord (u_lay RX9 TX9 k) = true) := by decide +kernel
  intro w hw
  obtain ⟨k, hk, rfl⟩ := List.mem_map.mp hw
  have hk := List.mem_range.mp hk
  exact zi_gwI _ (h k hk).1 (h k hk).2
def zi_li10 : List Nat := [1007, 1009, 1011, 1013, 1015, 1017, 1019, 1021, 1023, 1025, 1027, 1029, 1031, 1033, 1035, 1037, 1039, 1041, 1043, 1045, 1047, 1049, 1051, 1053, 1055, 1057, 1059, 1061, 1063, 1065, 1067, 1069, 1071, 1073, 1075, 1077, 1079, 1081, 1083]
theorem zi_ly10 : ∀ w ∈ wsX100, w ∈ zi_gw := by
  have h : ∀ k, k < 39 → (lw_tbl[(zi_li10)[k]?.getD 0]? = some (u_lay RX10 TX10 k) ∧ goodWord (u_lay RX10 TX10 k) = true) := by decide +kernel
  intro w hw
  obtain ⟨k, hk, rfl⟩ := List.mem_map.mp hw
  have hk := List.mem_range.mp hk
  exact zi_gwI _ (h k hk).1 (h k hk).2
end
section
/-! THE INTERPRETER: the class's and the reference's methods over ONE abstract memory of a fixed shape (nothing is made behind the constructors).
A value: an int, a long, or a reference (the kind of its cell, its place among the cells of this kind; none: null).
Kinds 0 .. 10: objects of the classes of vwCl; 11 .. 43: arrays; 90: the law's script (its length in row 1), 91, 92: the class's two static arrays. -/
abbrev zi_V : Type := Int32 ⊕ Int64 ⊕ (Nat × Option Nat)
abbrev zi_M : Type := (Nat → Nat → Nat → Int32) × (Nat → Nat → Nat → Int64) × (Nat → Nat → Nat → Option Nat)
abbrev zi_L : Type := List (Option zi_V)
abbrev zi_S : Type := List zi_V
abbrev zi_O : Type := Option (Option zi_V × zi_M)
def zi_sI (M : zi_M) (c k s : Nat) (x : Int32) : zi_M := (fun c' k' s' => if c' = c then (if s' = s then (if k' = k then x else M.1 c' k' s') else M.1 c' k' s') else M.1 c' k' s', M.2)
def zi_sL (M : zi_M) (c k s : Nat) (x : Int64) : zi_M := (M.1, fun c' k' s' => if c' = c then (if s' = s then (if k' = k then x else M.2.1 c' k' s') else M.2.1 c' k' s') else M.2.1 c' k' s', M.2.2)
def zi_sR (M : zi_M) (c k s : Nat) (x : Option Nat) : zi_M := (M.1, M.2.1, fun c' k' s' => if c' = c then (if s' = s then (if k' = k then x else M.2.2 c' k' s') else M.2.2 c' k' s') else M.2.2 c' k' s')
def zi_cp (M : zi_M) (c0 k0 c1 k1 a b n : Nat) : zi_M := (fun c k => if c = c1 then (if k = k1 then va_cpy (M.1 c0 k0) (M.1 c1 k1) a b n else M.1 c k) else M.1 c k, M.2)
/-- a list by its keys -/
def zi_at {α : Type} : List (Nat × α) → Nat → Option α
  | [], _ => none
  | (p, a) :: t, q => match Nat.beq p q with
    | true => some a
    | false => zi_at t q
/-- the shape: types of fields (0 int, 1 long, 2 reference, 3 boolean), by class and slot -/
def zi_fts : List (Nat × List Nat) := [(0, [2, 0, 0]), (1, [2, 0, 0, 0]), (2, [2, 0, 0, 0, 0]), (3, [2, 2, 0, 2]), (4, [2, 2, 2, 0]), (5, [2, 0]), (6, [2, 2, 2, 3, 0, 0, 0]), (7, [0, 0, 0, 0, 0, 0]), (8, [2, 2, 2, 0, 3]), (9, [2, 2, 2, 2, 2, 2, 2, 2, 2, 2, 2, 2, 0, 0, 1, 1]), (10, [2, 2, 2, 2, 2, 2, 2, 2, 0, 0, 1, 1, 2, 0, 0, 0, 2, 0, 0, 0, 0, 0, 0, 0, 0, 0, 0, 2, 0, 0, 2, 2, 2, 2, 2, 2, 2, 2, 2])]
def zi_ftl (c : Nat) : List Nat := (zi_at zi_fts c).getD []
/-- the kind that a field of a class refers to -/
def zi_fks : List (Nat × List Nat) := [(0, [11, 0, 0]), (1, [7, 0, 0, 0]), (2, [0, 0, 0, 0, 0]), (3, [2, 18, 0, 5]), (4, [0, 6, 5, 0]), (5, [12, 0]), (6, [13, 14, 15, 0, 0, 0, 0]), (8, [2, 16, 17, 0, 0]), (9, [19, 20, 0, 6, 21, 2, 8, 3, 4, 7, 22, 23, 0, 0, 0, 0]), (10, [24, 25, 26, 27, 28, 29, 30, 31, 0, 0, 0, 0, 32, 0, 0, 0, 33, 0, 0, 0, 0, 0, 0, 0, 0, 0, 0, 34, 0, 0, 35, 36, 37, 38, 39, 40, 41, 42, 43])]
def zi_fk (c s : Nat) : Nat := (((zi_at zi_fks c).getD [])[s]?).getD 0
/-- references that change: Gusts.script, Reader.text -/
def zi_mu (c s : Nat) : Bool := (Nat.beq c 3 && Nat.beq s 3) || (Nat.beq c 4 && Nat.beq s 2)
/-- arrays: type of the elements (0 int, 1 long, 2 reference, 3 boolean), kind of the elements, length -/
def zi_ats : List (Nat × Nat × Nat × Nat) := [(11, 0, 0, 35), (12, 0, 0, 40), (13, 2, 1, 4), (14, 0, 0, 40), (15, 2, 7, 40), (16, 2, 7, 7), (17, 0, 0, 7), (18, 2, 7, 7), (19, 2, 5, 6), (20, 2, 5, 4), (21, 2, 6, 3), (22, 0, 0, 6), (23, 0, 0, 4), (24, 0, 0, 6), (25, 0, 0, 240), (26, 0, 0, 4), (27, 0, 0, 320), (28, 0, 0, 356), (29, 0, 0, 1068), (30, 3, 0, 3), (31, 0, 0, 6), (32, 0, 0, 40), (33, 0, 0, 356), (34, 0, 0, 6), (35, 0, 0, 7), (36, 0, 0, 4), (37, 0, 0, 4), (38, 0, 0, 72), (39, 0, 0, 10), (40, 0, 0, 10), (41, 1, 0, 10), (42, 1, 0, 10), (43, 0, 0, 10), (90, 0, 0, 0), (91, 0, 0, 6), (92, 0, 0, 6)]
def zi_ad (c : Nat) : Nat × Nat × Nat := (zi_at zi_ats c).getD (9, 0, 0)
def zi_aty (c : Nat) : Nat := (zi_ad c).1
def zi_ek (c : Nat) : Nat := (zi_ad c).2.1
def zi_ln (c k : Nat) : Nat := if c = 12 then (if k < 6 then 40 else 80) else (zi_ad c).2.2
def zi_len (M : zi_M) (c k : Nat) : Nat := if c = 90 then (M.1 90 1 0).toNatClampNeg else zi_ln c k
/-- which cells there are -/
def zi_cns : List (Nat × Nat) := [(0, 2), (1, 20), (2, 1), (3, 1), (4, 1), (5, 10), (6, 5), (8, 1), (9, 1), (10, 1), (11, 2), (12, 10), (13, 5), (14, 5), (15, 5), (16, 1), (17, 1), (18, 1), (19, 1), (20, 1), (21, 1), (22, 1), (23, 1), (24, 1), (25, 1), (26, 1), (27, 1), (28, 1), (29, 1), (30, 1), (31, 1), (32, 1), (33, 1), (34, 1), (35, 1), (36, 1), (37, 1), (38, 1), (39, 1), (40, 1), (41, 1), (42, 1), (43, 1), (90, 1), (91, 1), (92, 1)]
def zi_ex (c k : Nat) : Bool := if c = 7 then (Nat.blt k 27 || (Nat.ble 30 k && Nat.blt k 37) || Nat.beq k 40 || (Nat.ble 100 k && Nat.blt k 300)) else Nat.blt k ((zi_at zi_cns c).getD 0)
/-- where a reference that never changes leads: of an object's slot, of an array's place -/
def zi_rf (c k s : Nat) : Nat := if c = 13 then 4 * k + s else if c = 15 then 100 + 40 * k + s else if c = 16 then 20 + s else if c = 18 then 30 + s else if c = 19 then s else if c = 20 then 6 + s else if c = 21 then 1 + s else if c = 4 then (if s = 0 then 1 else 4) else if c = 9 then (if s = 9 then 40 else 0) else if c = 0 then k else if c = 1 then k else if c = 5 then k else if c = 6 then k else 0
def zi_gr (M : zi_M) (c k s : Nat) : Option Nat := match zi_mu c s with
  | true => M.2.2 c k s
  | false => some (zi_rf c k s)
/-- reading a field of type ty -/
def zi_rd (M : zi_M) (c k s ty : Nat) : zi_V := if ty = 0 then .inl (M.1 c k s) else if ty = 1 then .inr (.inl (M.2.1 c k s)) else if ty = 3 then .inl (M.1 c k s) else .inr (.inr (zi_fk c s, zi_gr M c k s))
/-- a method: own class's number, name, bytes, locals, what it returns, static, parameters, kind of its answer (0 none, 1 int, 2 long, 3 reference, 4 boolean), the kind of a reference that it answers, its instructions, its cuts (places with the locals that live there) -/
abbrev zi_R : Type := Nat × MethodName × ByteArray × Nat × Option FieldType × Bool × Nat × Nat × Nat × List (Nat × Instr) × List (Nat × List Nat)
abbrev zi_w (r : zi_R) : Nat := r.1
abbrev zi_y (r : zi_R) : MethodName := r.2.1
abbrev zi_by (r : zi_R) : ByteArray := r.2.2.1
abbrev zi_ml (r : zi_R) : Nat := r.2.2.2.1
abbrev zi_rt (r : zi_R) : Option FieldType := r.2.2.2.2.1
abbrev zi_sc (r : zi_R) : Bool := r.2.2.2.2.2.1
abbrev zi_na (r : zi_R) : Nat := r.2.2.2.2.2.2.1
abbrev zi_ak (r : zi_R) : Nat := r.2.2.2.2.2.2.2.1
abbrev zi_rr (r : zi_R) : Nat := r.2.2.2.2.2.2.2.2.1
abbrev zi_cd (r : zi_R) : List (Nat × Instr) := r.2.2.2.2.2.2.2.2.2.1
abbrev zi_cu (r : zi_R) : List (Nat × List Nat) := r.2.2.2.2.2.2.2.2.2.2
/-- an instruction's length (0: a switch) -/
def zi_n : Instr → Nat
  | .iload _ | .lload _ | .aload _ | .istore _ | .lstore _ | .astore _ | .bipush _ | .ldc _ => 2
  | .sipush _ | .ldc_w _ | .ldc2_w _ | .getfield _ | .putfield _ | .getstatic _ | .invokevirtual _ | .invokestatic _ | .ifCond _ _ | .if_icmp _ _ | .ifnull _ | .ifnonnull _ | .goto _ | .iinc _ _ => 3
  | .tableswitch _ _ _ _ => 0
  | _ => 1
/-- taking values off the stack, or out of the locals -/
def zi_1i (S : zi_S) (K : Int32 → zi_S → zi_O) : zi_O := match S with
  | .inl x :: S' => K x S'
  | _ => none
def zi_2i (S : zi_S) (K : Int32 → Int32 → zi_S → zi_O) : zi_O := match S with
  | .inl y :: .inl x :: S' => K x y S'
  | _ => none
def zi_1l (S : zi_S) (K : Int64 → zi_S → zi_O) : zi_O := match S with
  | .inr (.inl x) :: S' => K x S'
  | _ => none
def zi_2l (S : zi_S) (K : Int64 → Int64 → zi_S → zi_O) : zi_O := match S with
  | .inr (.inl y) :: .inr (.inl x) :: S' => K x y S'
  | _ => none
def zi_1r (S : zi_S) (K : Nat → Option Nat → zi_S → zi_O) : zi_O := match S with
  | .inr (.inr (c, o)) :: S' => K c o S'
  | _ => none
def zi_sm (o : Option Nat) (K : Nat → zi_O) : zi_O := match o with
  | some k => K k
  | none => none
def zi_nl (o : Option Nat) (A B : zi_O) : zi_O := match o with
  | some _ => B
  | none => A
def zi_ix (i : Int32) (n : Nat) (K : Nat → zi_O) : zi_O := if i < 0 then none else if n ≤ i.toNatClampNeg then none else K i.toNatClampNeg
def zi_li (L : zi_L) (i : Nat) (K : Int32 → zi_O) : zi_O := match L[i]? with
  | some (some (.inl x)) => K x
  | _ => none
def zi_ll (L : zi_L) (i : Nat) (K : Int64 → zi_O) : zi_O := match L[i]? with
  | some (some (.inr (.inl x))) => K x
  | _ => none
def zi_la (L : zi_L) (i : Nat) (K : Nat → Option Nat → zi_O) : zi_O := match L[i]? with
  | some (some (.inr (.inr (c, o)))) => K c o
  | _ => none
/-- a store: a long just before loses its second half -/
def zi_dl (L : zi_L) (i : Nat) : zi_L := match i with
  | 0 => L
  | k + 1 => match L[k]? with
    | some (some (.inr (.inl _))) => L.set k none
    | _ => L
def zi_p1 (L : zi_L) (i : Nat) (v : zi_V) (K : zi_L → zi_O) : zi_O := match Nat.blt i L.length with
  | true => K ((zi_dl L i).set i (some v))
  | false => none
def zi_p2 (L : zi_L) (i : Nat) (v : zi_V) (K : zi_L → zi_O) : zi_O := match Nat.blt (i + 1) L.length with
  | true => K (((zi_dl L i).set i (some v)).set (i + 1) none)
  | false => none
def zi_to (pc : Nat) (off : Int) (K : Nat → zi_O) : zi_O := match (pc : Int) + off with
  | .ofNat t => K t
  | .negSucc _ => none
def zi_if (c : ClassFile.Cond) (x y : Int32) (A B : zi_O) : zi_O := match c with
  | .eq => if x = y then A else B
  | .ne => if x = y then B else A
  | .lt => if x < y then A else B
  | .ge => if y ≤ x then A else B
  | .gt => if y < x then A else B
  | .le => if x ≤ y then A else B
def zi_bo (x : Int32) (K : zi_O) : zi_O := if x = 0 then K else if x = 1 then K else none
def zi_ct (v : zi_V) : Nat := match v with
  | .inr (.inl _) => 2
  | _ => 1
/-- is the rest of the stack small enough for a call -/
def zi_rs (S : zi_S) (K : zi_O) : zi_O := match Nat.ble (S.map zi_ct).sum 8 with
  | true => K
  | false => none
/-- the arguments off the stack (the last is on top) -/
def zi_pp : Nat → zi_S → List zi_V → (List zi_V → zi_S → zi_O) → zi_O
  | 0, S, acc, K => K acc S
  | n + 1, v :: S, acc, K => zi_pp n S (v :: acc) K
  | _ + 1, [], _, _ => none
/-- the locals with which a method begins -/
def zi_e0 : List zi_V → zi_L
  | [] => []
  | .inr (.inl x) :: t => some (.inr (.inl x)) :: none :: zi_e0 t
  | v :: t => some v :: zi_e0 t
def zi_en (n : Nat) (vs : List zi_V) : zi_L := zi_e0 vs ++ List.replicate (n - (zi_e0 vs).length) none
/-- behind a call -/
def zi_cV (o : zi_O) (K : zi_M → zi_O) : zi_O := match o with
  | some (none, M) => K M
  | _ => none
def zi_cI (o : zi_O) (K : Int32 → zi_M → zi_O) : zi_O := match o with
  | some (some (.inl x), M) => K x M
  | _ => none
def zi_cL (o : zi_O) (K : Int64 → zi_M → zi_O) : zi_O := match o with
  | some (some (.inr (.inl x)), M) => K x M
  | _ => none
def zi_cR (o : zi_O) (c : Nat) (K : Option Nat → zi_M → zi_O) : zi_O := match o with
  | some (some (.inr (.inr (c', k))), M) => if c' = c then K k M else none
  | _ => none
def zi_dn (d : Nat) (K : Nat → zi_O) : zi_O := if d = 0 then none else K (d - 1)
/-- an answer goes on the stack -/
def zi_ca (r : zi_R) (o : zi_O) (S : zi_S) (K : zi_S → zi_M → zi_O) : zi_O := match zi_ak r with
  | 0 => zi_cV o (fun M => K S M)
  | 2 => zi_cL o (fun x M => K (.inr (.inl x) :: S) M)
  | 3 => zi_cR o (zi_rr r) (fun k M => K (.inr (.inr (zi_rr r, k)) :: S) M)
  | _ => zi_cI o (fun x M => K (.inl x :: S) M)
def zi_kl (ks : List Nat) : Nat → zi_L → zi_L
  | _, [] => []
  | i, v :: t => (match ks.any (Nat.beq i) with
    | true => v
    | false => none) :: zi_kl ks (i + 1) t
/-- switch -/
def zi_sw (x : Int32) (dflt lo hi : Int) (offs : Array Int) (K : Int → zi_O) : zi_O := if x.toInt < lo then K dflt else if hi < x.toInt then K dflt else match offs[(x.toInt - lo).toNat]? with
  | some o => K o
  | none => none
/-- System.arraycopy of two int arrays -/
def zi_ac (M : zi_M) (S : zi_S) (K : zi_S → zi_M → zi_O) : zi_O := match S with
  | .inl n :: .inl dp :: .inr (.inr (c1, some k1)) :: .inl sp :: .inr (.inr (c0, some k0)) :: S' =>
    if c0 = 12 then (if c1 = 12 then (if sp < 0 then none else if dp < 0 then none else if n < 0 then none else if sp.toNatClampNeg + n.toNatClampNeg ≤ zi_len M c0 k0 then (if dp.toNatClampNeg + n.toNatClampNeg ≤ zi_len M c1 k1 then zi_rs S' (K S' (zi_cp M c0 k0 c1 k1 sp.toNatClampNeg dp.toNatClampNeg n.toNatClampNeg)) else none) else none) else none) else none
  | _ => none
end
section
/-! THE METHODS AS RECORDS: their instructions, as decode gives them (checked below); their cuts -/
set_option maxRecDepth 100000 in
def zc_X0_look : List (Nat × Instr) := [(0, .iload_n 1), (1, .ifCond .lt 23), (4, .iload_n 1), (5, .aload_n 0), (6, .getfield 15), (9, .if_icmp .ge 15), (12, .iload_n 2), (13, .ifCond .lt 11), (16, .iload_n 2), (17, .aload_n 0), (18, .getfield 19), (21, .if_icmp .lt 5), (24, .iconst 5), (25, .ireturn), (26, .iload_n 2), (27, .bipush 7), (29, .imul), (30, .iload_n 1), (31, .iadd), (32, .istore_n 3), (33, .iload_n 3), (34, .aload_n 0), (35, .getfield 9), (38, .arraylength), (39, .if_icmp .ge 12), (42, .aload_n 0), (43, .getfield 9), (46, .iload_n 3), (47, .iaload), (48, .goto 4), (51, .iconst 5), (52, .ireturn)]
set_option maxRecDepth 100000 in
def zm_X0_look : zi_R := (0, ⟨"WaxWings$Air", "look", "(II)I"⟩, prog_2_method_2_code, 4, (some .int), false, 2, 1, 0, zc_X0_look, [])
set_option maxRecDepth 100000 in
def zc_X0_fill : List (Nat × Instr) := [(0, .iload_n 2), (1, .bipush 7), (3, .imul), (4, .iload_n 1), (5, .iadd), (6, .istore 4), (8, .iload 4), (10, .ifCond .lt 21), (13, .iload 4), (15, .aload_n 0), (16, .getfield 9), (19, .arraylength), (20, .if_icmp .ge 11), (23, .aload_n 0), (24, .getfield 9), (27, .iload 4), (29, .iload_n 3), (30, .iastore), (31, .return_)]
set_option maxRecDepth 100000 in
def zm_X0_fill : zi_R := (0, ⟨"WaxWings$Air", "fill", "(III)V"⟩, prog_2_method_3_code, 5, none, false, 3, 0, 0, zc_X0_fill, [])
set_option maxRecDepth 100000 in
def zc_X0_take : List (Nat × Instr) := [(0, .aload_n 0), (1, .aload_n 1), (2, .getfield 15), (5, .putfield 15), (8, .aload_n 0), (9, .aload_n 1), (10, .getfield 19), (13, .putfield 19), (16, .iconst 0), (17, .istore_n 2), (18, .iload_n 2), (19, .aload_n 0), (20, .getfield 9), (23, .arraylength), (24, .if_icmp .ge 21), (27, .aload_n 0), (28, .getfield 9), (31, .iload_n 2), (32, .aload_n 1), (33, .getfield 9), (36, .iload_n 2), (37, .iaload), (38, .iastore), (39, .iinc 2 1), (42, .goto (-24)), (45, .return_)]
set_option maxRecDepth 100000 in
def zm_X0_take : zi_R := (0, ⟨"WaxWings$Air", "take", "(LWaxWings$Air;)V"⟩, prog_2_method_4_code, 3, none, false, 1, 0, 0, zc_X0_take, [(18, [0, 1, 2])])
set_option maxRecDepth 100000 in
def zc_X1_take : List (Nat × Instr) := [(0, .aload_n 0), (1, .getfield 10), (4, .aload_n 1), (5, .getfield 10), (8, .invokevirtual 16), (11, .aload_n 0), (12, .aload_n 1), (13, .getfield 20), (16, .putfield 20), (19, .aload_n 0), (20, .aload_n 1), (21, .getfield 24), (24, .putfield 24), (27, .aload_n 0), (28, .aload_n 1), (29, .getfield 27), (32, .putfield 27), (35, .return_)]
set_option maxRecDepth 100000 in
def zm_X1_take : zi_R := (1, ⟨"WaxWings$Bird", "take", "(LWaxWings$Bird;)V"⟩, prog_3_method_2_code, 2, none, false, 1, 0, 0, zc_X1_take, [])
set_option maxRecDepth 100000 in
def zc_X1_begin : List (Nat × Instr) := [(0, .aload_n 0), (1, .iload_n 1), (2, .putfield 20), (5, .aload_n 0), (6, .iload_n 2), (7, .putfield 24), (10, .aload_n 0), (11, .iconst 0), (12, .putfield 27), (15, .aload_n 0), (16, .getfield 10), (19, .iconst 0), (20, .putfield 30), (23, .aload_n 0), (24, .getfield 10), (27, .iload 4), (29, .putfield 33), (32, .aload_n 0), (33, .getfield 10), (36, .iload_n 3), (37, .putfield 36), (40, .aload_n 0), (41, .getfield 10), (44, .iconst 0), (45, .putfield 39), (48, .aload_n 0), (49, .getfield 10), (52, .iconst 0), (53, .putfield 42), (56, .aload_n 0), (57, .getfield 10), (60, .iconst 0), (61, .putfield 45), (64, .return_)]
set_option maxRecDepth 100000 in
def zm_X1_begin : zi_R := (1, ⟨"WaxWings$Bird", "begin", "(IIII)V"⟩, prog_3_method_3_code, 5, none, false, 4, 0, 0, zc_X1_begin, [])
set_option maxRecDepth 100000 in
def zc_X1_tell : List (Nat × Instr) := [(0, .iload_n 1), (1, .tableswitch 93 0 6 #[43, 48, 56, 64, 72, 80, 88]), (44, .aload_n 0), (45, .getfield 20), (48, .ireturn), (49, .aload_n 0), (50, .getfield 10), (53, .getfield 30), (56, .ireturn), (57, .aload_n 0), (58, .getfield 10), (61, .getfield 33), (64, .ireturn), (65, .aload_n 0), (66, .getfield 10), (69, .getfield 36), (72, .ireturn), (73, .aload_n 0), (74, .getfield 10), (77, .getfield 39), (80, .ireturn), (81, .aload_n 0), (82, .getfield 10), (85, .getfield 42), (88, .ireturn), (89, .aload_n 0), (90, .getfield 27), (93, .ireturn), (94, .aload_n 0), (95, .getfield 10), (98, .getfield 45), (101, .ireturn)]
set_option maxRecDepth 100000 in
def zm_X1_tell : zi_R := (1, ⟨"WaxWings$Bird", "tell", "(I)I"⟩, prog_3_method_4_code, 2, (some .int), false, 1, 1, 0, zc_X1_tell, [(44, [0]), (49, [0]), (57, [0]), (65, [0]), (73, [0]), (81, [0]), (89, [0]), (94, [0])])
set_option maxRecDepth 100000 in
def zc_X2_board : List (Nat × Instr) := [(0, .aload_n 0), (1, .aload_n 1), (2, .getfield 15), (5, .putfield 21), (8, .aload_n 0), (9, .aload_n 1), (10, .getfield 22), (13, .putfield 25), (16, .aload_n 0), (17, .aload_n 1), (18, .getfield 26), (21, .putfield 29), (24, .aload_n 0), (25, .iload_n 2), (26, .putfield 30), (29, .return_)]
set_option maxRecDepth 100000 in
def zm_X2_board : zi_R := (2, ⟨"WaxWings$Flight", "board", "(LWaxWings$Bird;I)V"⟩, prog_4_method_2_code, 3, none, false, 2, 0, 0, zc_X2_board, [])
set_option maxRecDepth 100000 in
def zc_X2_isOver : List (Nat × Instr) := [(0, .aload_n 1), (1, .getfield 33), (4, .aload_n 0), (5, .getfield 9), (8, .getfield 38), (11, .iconst 1), (12, .isub), (13, .if_icmp .lt 7), (16, .iconst 1), (17, .goto 4), (20, .iconst 0), (21, .ireturn)]
set_option maxRecDepth 100000 in
def zm_X2_isOver : zi_R := (2, ⟨"WaxWings$Flight", "isOver", "(LWaxWings$Spot;)Z"⟩, prog_4_method_3_code, 2, (some .boolean), false, 1, 4, 0, zc_X2_isOver, [])
set_option maxRecDepth 100000 in
def zc_X2_drips : List (Nat × Instr) := [(0, .aload_n 1), (1, .getfield 43), (4, .aload_n 0), (5, .getfield 25), (8, .iconst 2), (9, .idiv), (10, .if_icmp .le 7), (13, .iconst 1), (14, .goto 4), (17, .iconst 0), (18, .ireturn)]
set_option maxRecDepth 100000 in
def zm_X2_drips : zi_R := (2, ⟨"WaxWings$Flight", "drips", "(LWaxWings$Spot;)Z"⟩, prog_4_method_4_code, 2, (some .boolean), false, 1, 4, 0, zc_X2_drips, [])
set_option maxRecDepth 100000 in
def zc_X2_cost : List (Nat × Instr) := [(0, .iload_n 1), (1, .iconst 2), (2, .if_icmp .ne 12), (5, .iconst 2), (6, .aload_n 0), (7, .getfield 29), (10, .iadd), (11, .goto 13), (14, .iload_n 1), (15, .iconst 1), (16, .if_icmp .ne 7), (19, .iconst 1), (20, .goto 4), (23, .iconst 0), (24, .istore_n 2), (25, .aload_n 0), (26, .getfield 21), (29, .iconst 1), (30, .if_icmp .eq 11), (33, .aload_n 0), (34, .getfield 21), (37, .iconst 4), (38, .if_icmp .ne 16), (41, .iload_n 1), (42, .iconst 2), (43, .if_icmp .ne 9), (46, .iload_n 2), (47, .iconst 1), (48, .iadd), (49, .goto 4), (52, .iconst 0), (53, .istore_n 2), (54, .aload_n 0), (55, .getfield 21), (58, .iconst 3), (59, .if_icmp .eq 11), (62, .aload_n 0), (63, .getfield 21), (66, .iconst 5), (67, .if_icmp .ne 15), (70, .iload_n 1), (71, .iconst 1), (72, .if_icmp .ne 10), (75, .iload_n 2), (76, .aload_n 0), (77, .getfield 29), (80, .iadd), (81, .istore_n 2), (82, .aload_n 0), (83, .getfield 21), (86, .iconst 5), (87, .if_icmp .ne 13), (90, .iconst 0), (91, .iload_n 2), (92, .iconst 1), (93, .isub), (94, .invokestatic 46), (97, .goto 4), (100, .iload_n 2), (101, .ireturn)]
set_option maxRecDepth 100000 in
def zm_X2_cost : zi_R := (2, ⟨"WaxWings$Flight", "cost", "(I)I"⟩, prog_4_method_5_code, 3, (some .int), false, 1, 1, 0, zc_X2_cost, [(24, [0, 1]), (41, [0, 1, 2]), (53, [0, 1]), (54, [0, 1, 2]), (70, [0, 1, 2]), (82, [0, 2])])
set_option maxRecDepth 100000 in
def zc_X2_warmth : List (Nat × Instr) := [(0, .iconst 0), (1, .iload_n 1), (2, .aload_n 0), (3, .getfield 30), (6, .iadd), (7, .iconst 4), (8, .isub), (9, .invokestatic 46), (12, .istore_n 2), (13, .aload_n 0), (14, .getfield 21), (17, .iconst 4), (18, .if_icmp .ne 5), (21, .iconst 0), (22, .ireturn), (23, .aload_n 0), (24, .getfield 21), (27, .iconst 2), (28, .if_icmp .ne 9), (31, .iconst 2), (32, .iload_n 2), (33, .imul), (34, .goto 4), (37, .iload_n 2), (38, .ireturn)]
set_option maxRecDepth 100000 in
def zm_X2_warmth : zi_R := (2, ⟨"WaxWings$Flight", "warmth", "(I)I"⟩, prog_4_method_6_code, 3, (some .int), false, 1, 1, 0, zc_X2_warmth, [])
set_option maxRecDepth 100000 in
def zc_X2_move : List (Nat × Instr) := [(0, .aload_n 1), (1, .getfield 52), (4, .ifCond .ne 11), (7, .aload_n 0), (8, .aload_n 1), (9, .invokevirtual 55), (12, .ifCond .eq 5), (15, .iconst 0), (16, .ireturn), (17, .aload_n 0), (18, .getfield 9), (21, .aload_n 1), (22, .getfield 33), (25, .aload_n 1), (26, .getfield 59), (29, .invokevirtual 62), (32, .istore 4), (34, .aload_n 1), (35, .getfield 59), (38, .iload_n 2), (39, .iadd), (40, .iconst 1), (41, .isub), (42, .istore 5), (44, .aload_n 1), (45, .getfield 33), (48, .iload 4), (50, .iconst 4), (51, .if_icmp .ne 7), (54, .iconst 2), (55, .goto 4), (58, .iconst 1), (59, .iadd), (60, .aload_n 0), (61, .getfield 9), (64, .getfield 38), (67, .iconst 1), (68, .isub), (69, .invokestatic 65), (72, .istore 6), (74, .aload_n 0), (75, .getfield 9), (78, .iload 6), (80, .iload 5), (82, .invokevirtual 62), (85, .iconst 5), (86, .if_icmp .ne 5), (89, .iconst 0), (90, .ireturn), (91, .aload_n 3), (92, .aload_n 1), (93, .invokevirtual 68), (96, .aload_n 3), (97, .iload 6), (99, .putfield 33), (102, .aload_n 3), (103, .iload 5), (105, .putfield 59), (108, .iload 4), (110, .iconst 3), (111, .if_icmp .eq 17), (114, .aload_n 3), (115, .dup), (116, .getfield 72), (119, .aload_n 0), (120, .iload_n 2), (121, .invokevirtual 75), (124, .isub), (125, .putfield 72), (128, .iconst 1), (129, .ireturn)]
set_option maxRecDepth 100000 in
def zm_X2_move : zi_R := (2, ⟨"WaxWings$Flight", "move", "(LWaxWings$Spot;ILWaxWings$Spot;)Z"⟩, prog_4_method_7_code, 7, (some .boolean), false, 3, 4, 0, zc_X2_move, [(59, [0, 1, 2, 3, 4, 5])])
set_option maxRecDepth 100000 in
def zc_X2_canSink : List (Nat × Instr) := [(0, .aload_n 0), (1, .getfield 9), (4, .aload_n 1), (5, .getfield 33), (8, .aload_n 1), (9, .getfield 59), (12, .iconst 1), (13, .isub), (14, .invokevirtual 62), (17, .iconst 5), (18, .if_icmp .eq 7), (21, .iconst 1), (22, .goto 4), (25, .iconst 0), (26, .ireturn)]
set_option maxRecDepth 100000 in
def zm_X2_canSink : zi_R := (2, ⟨"WaxWings$Flight", "canSink", "(LWaxWings$Spot;)Z"⟩, prog_4_method_8_code, 2, (some .boolean), false, 1, 4, 0, zc_X2_canSink, [])
set_option maxRecDepth 100000 in
def zc_X2_settle : List (Nat × Instr) := [(0, .aload_n 0), (1, .getfield 9), (4, .aload_n 1), (5, .getfield 33), (8, .aload_n 1), (9, .getfield 59), (12, .invokevirtual 62), (15, .istore_n 2), (16, .aload_n 1), (17, .iload_n 2), (18, .iconst 1), (19, .if_icmp .ne 16), (22, .iconst 0), (23, .aload_n 1), (24, .getfield 43), (27, .iconst 1), (28, .isub), (29, .invokestatic 46), (32, .goto 16), (35, .aload_n 1), (36, .getfield 43), (39, .aload_n 0), (40, .aload_n 1), (41, .getfield 59), (44, .invokevirtual 79), (47, .iadd), (48, .putfield 43), (51, .aload_n 1), (52, .getfield 59), (55, .ifCond .eq 8), (58, .iload_n 2), (59, .iconst 2), (60, .if_icmp .ne 7), (63, .iconst 1), (64, .goto 4), (67, .iconst 0), (68, .istore_n 3), (69, .aload_n 1), (70, .iload_n 3), (71, .ifCond .eq 12), (74, .aload_n 1), (75, .getfield 82), (78, .iconst 1), (79, .iadd), (80, .goto 13), (83, .iconst 0), (84, .aload_n 1), (85, .getfield 82), (88, .iconst 1), (89, .isub), (90, .invokestatic 46), (93, .putfield 82), (96, .aload_n 1), (97, .aload_n 1), (98, .getfield 72), (101, .ifCond .ge 7), (104, .iconst 1), (105, .goto 31), (108, .aload_n 1), (109, .getfield 43), (112, .aload_n 0), (113, .getfield 25), (116, .if_icmp .le 7), (119, .iconst 2), (120, .goto 16), (123, .aload_n 1), (124, .getfield 82), (127, .iconst 2), (128, .if_icmp .le 7), (131, .iconst 3), (132, .goto 4), (135, .iconst 0), (136, .putfield 52), (139, .return_)]
set_option maxRecDepth 100000 in
def zm_X2_settle : zi_R := (2, ⟨"WaxWings$Flight", "settle", "(LWaxWings$Spot;)V"⟩, prog_4_method_9_code, 4, none, false, 1, 0, 0, zc_X2_settle, [(48, [0, 1, 2]), (63, [0, 1]), (68, [0, 1]), (93, [0, 1]), (136, [])])
set_option maxRecDepth 100000 in
def zc_X2_fly : List (Nat × Instr) := [(0, .aload_n 0), (1, .aload_n 1), (2, .iload_n 2), (3, .aload_n 3), (4, .invokevirtual 85), (7, .ifCond .ne 5), (10, .iconst (-1)), (11, .ireturn), (12, .aload_n 0), (13, .aload_n 3), (14, .invokevirtual 89), (17, .aload_n 3), (18, .getfield 52), (21, .ireturn)]
set_option maxRecDepth 100000 in
def zm_X2_fly : zi_R := (2, ⟨"WaxWings$Flight", "fly", "(LWaxWings$Spot;ILWaxWings$Spot;)I"⟩, prog_4_method_10_code, 4, (some .int), false, 3, 1, 0, zc_X2_fly, [])
set_option maxRecDepth 100000 in
def zc_X3_chanceOf : List (Nat × Instr) := [(0, .aload_n 0), (1, .aload_n 1), (2, .iload_n 2), (3, .aload_n 3), (4, .invokevirtual 22), (7, .aload_n 0), (8, .iconst 0), (9, .invokevirtual 26), (12, .ireturn)]
set_option maxRecDepth 100000 in
def zm_X3_chanceOf : zi_R := (3, ⟨"WaxWings$Gusts", "chanceOf", "(LWaxWings$Spot;ILWaxWings$Row;)I"⟩, prog_5_method_2_code, 4, (some .int), false, 3, 1, 0, zc_X3_chanceOf, [])
set_option maxRecDepth 100000 in
def zc_X3_bestBeat : List (Nat × Instr) := [(0, .aload_n 0), (1, .aload_n 1), (2, .iload_n 2), (3, .aconst_null), (4, .invokevirtual 22), (7, .aload_n 0), (8, .getfield 17), (11, .aload_n 1), (12, .invokevirtual 30), (15, .ifCond .eq 6), (18, .bipush (-9)), (20, .ireturn), (21, .iconst 0), (22, .istore_n 3), (23, .bipush (-9)), (25, .istore 4), (27, .iconst 0), (28, .istore 5), (30, .iload 5), (32, .iconst 2), (33, .if_icmp .gt 34), (36, .aload_n 0), (37, .iconst 0), (38, .iload 5), (40, .invokevirtual 36), (43, .istore 6), (45, .iload 6), (47, .iload_n 3), (48, .if_icmp .gt 6), (51, .goto 10), (54, .iload 6), (56, .istore_n 3), (57, .iload 5), (59, .istore 4), (61, .iinc 5 1), (64, .goto (-34)), (67, .iload 4), (69, .ireturn)]
set_option maxRecDepth 100000 in
def zm_X3_bestBeat : zi_R := (3, ⟨"WaxWings$Gusts", "bestBeat", "(LWaxWings$Spot;I)I"⟩, prog_5_method_3_code, 7, (some .int), false, 2, 1, 0, zc_X3_bestBeat, [(30, [0, 3, 4, 5]), (61, [0, 3, 4, 5])])
set_option maxRecDepth 100000 in
def zc_X3_begin : List (Nat × Instr) := [(0, .aload_n 0), (1, .getfield 11), (4, .iconst 0), (5, .aaload), (6, .aload_n 1), (7, .invokevirtual 40), (10, .aload_n 0), (11, .iload_n 2), (12, .putfield 44), (15, .aload_n 0), (16, .aload_n 3), (17, .putfield 48), (20, .return_)]
set_option maxRecDepth 100000 in
def zm_X3_begin : zi_R := (3, ⟨"WaxWings$Gusts", "begin", "(LWaxWings$Spot;ILWaxWings$Row;)V"⟩, prog_5_method_4_code, 4, none, false, 3, 0, 0, zc_X3_begin, [])
set_option maxRecDepth 100000 in
def zc_X3_chance : List (Nat × Instr) := [(0, .iload_n 1), (1, .ifCond .lt 21), (4, .iload_n 1), (5, .bipush 6), (7, .if_icmp .gt 15), (10, .aload_n 0), (11, .getfield 11), (14, .iload_n 1), (15, .aaload), (16, .getfield 52), (19, .ifCond .eq 5), (22, .iconst 0), (23, .ireturn), (24, .aload_n 0), (25, .getfield 17), (28, .aload_n 0), (29, .getfield 11), (32, .iload_n 1), (33, .aaload), (34, .invokevirtual 30), (37, .ifCond .eq 6), (40, .ldc 55), (42, .ireturn), (43, .aload_n 0), (44, .getfield 48), (47, .ifnull 32), (50, .aload_n 0), (51, .getfield 48), (54, .iload_n 1), (55, .invokevirtual 56), (58, .ifCond .eq 19), (61, .aload_n 0), (62, .iload_n 1), (63, .aload_n 0), (64, .getfield 48), (67, .iload_n 1), (68, .invokevirtual 62), (71, .invokevirtual 36), (74, .goto 4), (77, .iconst 0), (78, .ireturn), (79, .iconst 0), (80, .istore_n 2), (81, .iconst 0), (82, .istore_n 3), (83, .iload_n 3), (84, .iconst 2), (85, .if_icmp .gt 26), (88, .iload_n 2), (89, .ldc 55), (91, .if_icmp .ge 20), (94, .iload_n 2), (95, .aload_n 0), (96, .iload_n 1), (97, .iload_n 3), (98, .invokevirtual 36), (101, .invokestatic 65), (104, .istore_n 2), (105, .iinc 3 1), (108, .goto (-25)), (111, .iload_n 2), (112, .ireturn)]
set_option maxRecDepth 100000 in
def zm_X3_chance : zi_R := (3, ⟨"WaxWings$Gusts", "chance", "(I)I"⟩, prog_5_method_5_code, 4, (some .int), false, 1, 1, 0, zc_X3_chance, [(83, [0, 1, 2, 3])])
set_option maxRecDepth 100000 in
def zc_X3_chanceBy : List (Nat × Instr) := [(0, .iload_n 1), (1, .ifCond .lt 34), (4, .iload_n 1), (5, .bipush 6), (7, .if_icmp .ge 28), (10, .aload_n 0), (11, .getfield 17), (14, .aload_n 0), (15, .getfield 11), (18, .iload_n 1), (19, .aaload), (20, .iload_n 2), (21, .aload_n 0), (22, .getfield 11), (25, .iload_n 1), (26, .iconst 1), (27, .iadd), (28, .aaload), (29, .invokevirtual 70), (32, .ifCond .ne 5), (35, .iconst 0), (36, .ireturn), (37, .aload_n 0), (38, .getfield 11), (41, .iload_n 1), (42, .iconst 1), (43, .iadd), (44, .aaload), (45, .astore_n 3), (46, .aload_n 0), (47, .getfield 44), (50, .ifCond .eq 25), (53, .aload_n 0), (54, .getfield 17), (57, .aload_n 3), (58, .invokevirtual 30), (61, .ifCond .ne 14), (64, .aload_n 0), (65, .getfield 17), (68, .aload_n 3), (69, .invokevirtual 74), (72, .ifCond .ne 11), (75, .aload_n 0), (76, .iload_n 1), (77, .iconst 1), (78, .iadd), (79, .invokevirtual 77), (82, .ireturn), (83, .aload_n 3), (84, .dup), (85, .getfield 80), (88, .iconst 1), (89, .isub), (90, .putfield 80), (93, .aload_n 0), (94, .iload_n 1), (95, .iconst 1), (96, .iadd), (97, .invokevirtual 77), (100, .istore 4), (102, .aload_n 0), (103, .getfield 44), (106, .bipush 12), (108, .if_icmp .ne 6), (111, .iload 4), (113, .ireturn), (114, .aload_n 0), (115, .getfield 17), (118, .aload_n 0), (119, .getfield 11), (122, .iload_n 1), (123, .aaload), (124, .iload_n 2), (125, .aload_n 3), (126, .invokevirtual 70), (129, .pop), (130, .aload_n 0), (131, .iload_n 1), (132, .iconst 1), (133, .iadd), (134, .invokevirtual 77), (137, .istore 5), (139, .aload_n 0), (140, .getfield 44), (143, .iload 4), (145, .imul), (146, .bipush 12), (148, .aload_n 0), (149, .getfield 44), (152, .isub), (153, .iload 5), (155, .imul), (156, .iadd), (157, .bipush 12), (159, .idiv), (160, .ireturn)]
set_option maxRecDepth 100000 in
def zm_X3_chanceBy : zi_R := (3, ⟨"WaxWings$Gusts", "chanceBy", "(II)I"⟩, prog_5_method_6_code, 6, (some .int), false, 2, 1, 0, zc_X3_chanceBy, [(75, [0, 1])])
set_option maxRecDepth 100000 in
def zc_X3_settledChance : List (Nat × Instr) := [(0, .iload_n 1), (1, .ifCond .lt 9), (4, .iload_n 1), (5, .bipush 6), (7, .if_icmp .le 5), (10, .iconst 0), (11, .ireturn), (12, .aload_n 0), (13, .getfield 17), (16, .aload_n 0), (17, .getfield 11), (20, .iload_n 1), (21, .aaload), (22, .invokevirtual 83), (25, .aload_n 0), (26, .iload_n 1), (27, .invokevirtual 26), (30, .ireturn)]
set_option maxRecDepth 100000 in
def zm_X3_settledChance : zi_R := (3, ⟨"WaxWings$Gusts", "settledChance", "(I)I"⟩, prog_5_method_7_code, 2, (some .int), false, 1, 1, 0, zc_X3_settledChance, [])
set_option maxRecDepth 100000 in
def zc_X4_place : List (Nat × Instr) := [(0, .aload_n 0), (1, .getfield 25), (4, .ireturn)]
set_option maxRecDepth 100000 in
def zm_X4_place : zi_R := (4, ⟨"WaxWings$Reader", "place", "()I"⟩, prog_6_method_2_code, 1, (some .int), false, 0, 1, 0, zc_X4_place, [])
set_option maxRecDepth 100000 in
def zc_X4_read : List (Nat × Instr) := [(0, .aload_n 0), (1, .aload_n 1), (2, .putfield 29), (5, .aload_n 0), (6, .iconst 0), (7, .putfield 25), (10, .aload_n 0), (11, .invokevirtual 33), (14, .aload_n 0), (15, .invokevirtual 36), (18, .ifCond .eq 28), (21, .aload_n 0), (22, .invokevirtual 40), (25, .ifCond .eq 21), (28, .aload_n 0), (29, .invokevirtual 43), (32, .ifCond .eq 14), (35, .aload_n 0), (36, .invokevirtual 46), (39, .ifCond .eq 7), (42, .iconst 1), (43, .goto 4), (46, .iconst 0), (47, .ireturn)]
set_option maxRecDepth 100000 in
def zm_X4_read : zi_R := (4, ⟨"WaxWings$Reader", "read", "(LWaxWings$Row;)Z"⟩, prog_6_method_3_code, 2, (some .boolean), false, 1, 4, 0, zc_X4_read, [])
set_option maxRecDepth 100000 in
def zc_X4_hand : List (Nat × Instr) := [(0, .aload_n 1), (1, .aload_n 0), (2, .getfield 12), (5, .invokevirtual 49), (8, .aload_n 2), (9, .aload_n 0), (10, .getfield 21), (13, .invokevirtual 53), (16, .return_)]
set_option maxRecDepth 100000 in
def zm_X4_hand : zi_R := (4, ⟨"WaxWings$Reader", "hand", "(LWaxWings$Air;LWaxWings$Sky;)V"⟩, prog_6_method_4_code, 3, none, false, 2, 0, 0, zc_X4_hand, [])
set_option maxRecDepth 100000 in
def zc_X4_here : List (Nat × Instr) := [(0, .aload_n 0), (1, .getfield 29), (4, .ifnull 31), (7, .aload_n 0), (8, .getfield 29), (11, .aload_n 0), (12, .getfield 25), (15, .invokevirtual 56), (18, .ifCond .eq 17), (21, .aload_n 0), (22, .getfield 29), (25, .aload_n 0), (26, .getfield 25), (29, .invokevirtual 62), (32, .goto 6), (35, .sipush 1000), (38, .ireturn)]
set_option maxRecDepth 100000 in
def zm_X4_here : zi_R := (4, ⟨"WaxWings$Reader", "here", "()I"⟩, prog_6_method_5_code, 1, (some .int), false, 0, 1, 0, zc_X4_here, [])
set_option maxRecDepth 100000 in
def zc_X4_skipBlanks : List (Nat × Instr) := [(0, .aload_n 0), (1, .getfield 25), (4, .bipush 80), (6, .if_icmp .ge 25), (9, .aload_n 0), (10, .invokevirtual 66), (13, .bipush 32), (15, .if_icmp .ne 16), (18, .aload_n 0), (19, .dup), (20, .getfield 25), (23, .iconst 1), (24, .iadd), (25, .putfield 25), (28, .goto (-28)), (31, .return_)]
set_option maxRecDepth 100000 in
def zm_X4_skipBlanks : zi_R := (4, ⟨"WaxWings$Reader", "skipBlanks", "()V"⟩, prog_6_method_6_code, 1, none, false, 0, 0, 0, zc_X4_skipBlanks, [(0, [0])])
set_option maxRecDepth 100000 in
def zc_X4_readLines : List (Nat × Instr) := [(0, .aload_n 0), (1, .getfield 12), (4, .iconst 0), (5, .putfield 70), (8, .aload_n 0), (9, .getfield 12), (12, .iconst 0), (13, .putfield 73), (16, .iconst 0), (17, .istore_n 1), (18, .iload_n 1), (19, .iconst 5), (20, .if_icmp .ge 69), (23, .aload_n 0), (24, .iload_n 1), (25, .invokevirtual 76), (28, .ifCond .ne 5), (31, .iconst 0), (32, .ireturn), (33, .aload_n 0), (34, .invokevirtual 66), (37, .istore_n 2), (38, .iload_n 2), (39, .bipush 61), (41, .if_icmp .ne 7), (44, .iconst 1), (45, .goto 4), (48, .iconst 0), (49, .istore_n 3), (50, .iload_n 3), (51, .ifCond .ne 16), (54, .iload_n 2), (55, .bipush 47), (57, .if_icmp .ne 8), (60, .iload_n 1), (61, .iconst 4), (62, .if_icmp .ne 5), (65, .iconst 0), (66, .ireturn), (67, .aload_n 0), (68, .dup), (69, .getfield 25), (72, .iconst 1), (73, .iadd), (74, .putfield 25), (77, .iload_n 3), (78, .ifCond .eq 5), (81, .iconst 1), (82, .ireturn), (83, .iinc 1 1), (86, .goto (-68)), (89, .iconst 0), (90, .ireturn)]
set_option maxRecDepth 100000 in
def zm_X4_readLines : zi_R := (4, ⟨"WaxWings$Reader", "readLines", "()Z"⟩, prog_6_method_7_code, 4, (some .boolean), false, 0, 4, 0, zc_X4_readLines, [(18, [0, 1]), (49, [0, 1, 2]), (67, [0, 1, 3])])
set_option maxRecDepth 100000 in
def zc_X4_readLine : List (Nat × Instr) := [(0, .iload_n 1), (1, .ifCond .ne 8), (4, .bipush 7), (6, .goto 10), (9, .aload_n 0), (10, .getfield 12), (13, .getfield 70), (16, .istore_n 2), (17, .iconst 0), (18, .istore_n 3), (19, .iload_n 3), (20, .iload_n 2), (21, .if_icmp .ge 50), (24, .aload_n 0), (25, .invokevirtual 66), (28, .getstatic 79), (31, .invokestatic 83), (34, .istore 4), (36, .iload 4), (38, .ifCond .ge 6), (41, .goto 30), (44, .aload_n 0), (45, .getfield 12), (48, .iload_n 3), (49, .iload_n 1), (50, .iload 4), (52, .invokevirtual 87), (55, .iinc 3 1), (58, .aload_n 0), (59, .dup), (60, .getfield 25), (63, .iconst 1), (64, .iadd), (65, .putfield 25), (68, .goto (-49)), (71, .iload_n 1), (72, .ifCond .ne 11), (75, .aload_n 0), (76, .getfield 12), (79, .iload_n 3), (80, .putfield 70), (83, .aload_n 0), (84, .getfield 12), (87, .iload_n 1), (88, .iconst 1), (89, .iadd), (90, .putfield 73), (93, .iload_n 3), (94, .iconst 2), (95, .if_icmp .lt 18), (98, .iload_n 3), (99, .aload_n 0), (100, .getfield 12), (103, .getfield 70), (106, .if_icmp .ne 7), (109, .iconst 1), (110, .goto 4), (113, .iconst 0), (114, .ireturn)]
set_option maxRecDepth 100000 in
def zm_X4_readLine : zi_R := (4, ⟨"WaxWings$Reader", "readLine", "(I)Z"⟩, prog_6_method_8_code, 5, (some .boolean), false, 1, 4, 0, zc_X4_readLine, [(16, [0, 1]), (19, [0, 1, 2, 3]), (71, [0, 1, 3]), (83, [0, 1, 3])])
set_option maxRecDepth 100000 in
def zc_X4_readSun : List (Nat × Instr) := [(0, .aload_n 0), (1, .bipush 10), (3, .invokevirtual 91), (6, .istore_n 1), (7, .iload_n 1), (8, .ifCond .ge 5), (11, .iconst 0), (12, .ireturn), (13, .aload_n 0), (14, .getfield 21), (17, .iload_n 1), (18, .putfield 94), (21, .aload_n 0), (22, .dup), (23, .getfield 25), (26, .iconst 1), (27, .iadd), (28, .putfield 25), (31, .iconst 1), (32, .ireturn)]
set_option maxRecDepth 100000 in
def zm_X4_readSun : zi_R := (4, ⟨"WaxWings$Reader", "readSun", "()Z"⟩, prog_6_method_9_code, 2, (some .boolean), false, 0, 4, 0, zc_X4_readSun, [])
set_option maxRecDepth 100000 in
def zc_X4_readFlyers : List (Nat × Instr) := [(0, .aload_n 0), (1, .getfield 21), (4, .iconst 0), (5, .putfield 97), (8, .iconst 0), (9, .istore_n 1), (10, .iload_n 1), (11, .iconst 4), (12, .if_icmp .ge 57), (15, .aload_n 0), (16, .invokevirtual 66), (19, .getstatic 100), (22, .invokestatic 83), (25, .istore_n 2), (26, .iload_n 2), (27, .ifCond .ge 5), (30, .iconst 1), (31, .ireturn), (32, .aload_n 0), (33, .dup), (34, .getfield 25), (37, .iconst 1), (38, .iadd), (39, .putfield 25), (42, .aload_n 0), (43, .iload_n 1), (44, .iload_n 2), (45, .invokevirtual 103), (48, .ifCond .ne 5), (51, .iconst 0), (52, .ireturn), (53, .aload_n 0), (54, .getfield 21), (57, .iload_n 1), (58, .iconst 1), (59, .iadd), (60, .putfield 97), (63, .iinc 1 1), (66, .goto (-56)), (69, .iconst 1), (70, .ireturn)]
set_option maxRecDepth 100000 in
def zm_X4_readFlyers : zi_R := (4, ⟨"WaxWings$Reader", "readFlyers", "()Z"⟩, prog_6_method_10_code, 3, (some .boolean), false, 0, 4, 0, zc_X4_readFlyers, [(10, [0, 1])])
set_option maxRecDepth 100000 in
def zc_X4_readFlyer : List (Nat × Instr) := [(0, .aload_n 0), (1, .bipush 10), (3, .invokevirtual 91), (6, .istore_n 3), (7, .iload_n 3), (8, .ifCond .ge 5), (11, .iconst 0), (12, .ireturn), (13, .aload_n 0), (14, .dup), (15, .getfield 25), (18, .iconst 1), (19, .iadd), (20, .putfield 25), (23, .aload_n 0), (24, .bipush 10), (26, .invokevirtual 91), (29, .istore 4), (31, .iload 4), (33, .ifCond .ge 5), (36, .iconst 0), (37, .ireturn), (38, .aload_n 0), (39, .dup), (40, .getfield 25), (43, .iconst 1), (44, .iadd), (45, .putfield 25), (48, .aload_n 0), (49, .aload_n 0), (50, .getfield 12), (53, .getfield 73), (56, .invokevirtual 91), (59, .istore 5), (61, .iload 5), (63, .ifCond .lt 17), (66, .aload_n 0), (67, .getfield 12), (70, .iconst 0), (71, .iload 5), (73, .invokevirtual 107), (76, .iconst 5), (77, .if_icmp .ne 5), (80, .iconst 0), (81, .ireturn), (82, .aload_n 0), (83, .dup), (84, .getfield 25), (87, .iconst 1), (88, .iadd), (89, .putfield 25), (92, .iload_n 1), (93, .ifCond .lt 26), (96, .iload_n 1), (97, .iconst 4), (98, .if_icmp .ge 21), (101, .aload_n 0), (102, .getfield 21), (105, .getfield 111), (108, .iload_n 1), (109, .aaload), (110, .iload_n 2), (111, .iload_n 3), (112, .iload 4), (114, .iload 5), (116, .invokevirtual 115), (119, .iconst 1), (120, .ireturn)]
set_option maxRecDepth 100000 in
def zm_X4_readFlyer : zi_R := (4, ⟨"WaxWings$Reader", "readFlyer", "(II)Z"⟩, prog_6_method_11_code, 6, (some .boolean), false, 2, 4, 0, zc_X4_readFlyer, [])
set_option maxRecDepth 100000 in
def zc_X4_readEnd : List (Nat × Instr) := [(0, .aload_n 0), (1, .invokevirtual 33), (4, .aload_n 0), (5, .invokevirtual 66), (8, .sipush 1000), (11, .if_icmp .ne 7), (14, .iconst 1), (15, .goto 4), (18, .iconst 0), (19, .ireturn)]
set_option maxRecDepth 100000 in
def zm_X4_readEnd : zi_R := (4, ⟨"WaxWings$Reader", "readEnd", "()Z"⟩, prog_6_method_12_code, 1, (some .boolean), false, 0, 4, 0, zc_X4_readEnd, [])
set_option maxRecDepth 100000 in
def zc_X4_figureBelow : List (Nat × Instr) := [(0, .aload_n 0), (1, .invokevirtual 66), (4, .bipush 48), (6, .isub), (7, .istore_n 2), (8, .iload_n 2), (9, .ifCond .lt 18), (12, .iload_n 2), (13, .bipush 9), (15, .if_icmp .gt 12), (18, .iload_n 2), (19, .iload_n 1), (20, .if_icmp .ge 7), (23, .iload_n 2), (24, .goto 4), (27, .iconst (-1)), (28, .ireturn)]
set_option maxRecDepth 100000 in
def zm_X4_figureBelow : zi_R := (4, ⟨"WaxWings$Reader", "figureBelow", "(I)I"⟩, prog_6_method_13_code, 3, (some .int), false, 1, 1, 0, zc_X4_figureBelow, [])
set_option maxRecDepth 100000 in
def zc_X4_placeOf : List (Nat × Instr) := [(0, .iconst 0), (1, .istore_n 2), (2, .iload_n 2), (3, .aload_n 1), (4, .arraylength), (5, .if_icmp .ge 18), (8, .aload_n 1), (9, .iload_n 2), (10, .iaload), (11, .iload_n 0), (12, .if_icmp .ne 5), (15, .iload_n 2), (16, .ireturn), (17, .iinc 2 1), (20, .goto (-18)), (23, .iconst (-1)), (24, .ireturn)]
set_option maxRecDepth 100000 in
def zm_X4_placeOf : zi_R := (4, ⟨"WaxWings$Reader", "placeOf", "(I[I)I"⟩, prog_6_method_14_code, 3, (some .int), true, 2, 1, 0, zc_X4_placeOf, [(2, [0, 1, 2])])
set_option maxRecDepth 100000 in
def zc_X5_room : List (Nat × Instr) := [(0, .aload_n 0), (1, .getfield 19), (4, .arraylength), (5, .ireturn)]
set_option maxRecDepth 100000 in
def zm_X5_room : zi_R := (5, ⟨"WaxWings$Row", "room", "()I"⟩, prog_7_method_2_code, 1, (some .int), false, 0, 1, 0, zc_X5_room, [])
set_option maxRecDepth 100000 in
def zc_X5_size : List (Nat × Instr) := [(0, .aload_n 0), (1, .getfield 7), (4, .ireturn)]
set_option maxRecDepth 100000 in
def zm_X5_size : zi_R := (5, ⟨"WaxWings$Row", "size", "()I"⟩, prog_7_method_3_code, 1, (some .int), false, 0, 1, 0, zc_X5_size, [])
set_option maxRecDepth 100000 in
def zc_X5_isThere : List (Nat × Instr) := [(0, .aload_n 0), (1, .getfield 7), (4, .ifCond .lt 7), (7, .iconst 1), (8, .goto 4), (11, .iconst 0), (12, .ireturn)]
set_option maxRecDepth 100000 in
def zm_X5_isThere : zi_R := (5, ⟨"WaxWings$Row", "isThere", "()Z"⟩, prog_7_method_4_code, 1, (some .boolean), false, 0, 4, 0, zc_X5_isThere, [])
set_option maxRecDepth 100000 in
def zc_X5_has : List (Nat × Instr) := [(0, .iload_n 1), (1, .ifCond .lt 24), (4, .iload_n 1), (5, .aload_n 0), (6, .getfield 7), (9, .if_icmp .ge 16), (12, .iload_n 1), (13, .aload_n 0), (14, .getfield 19), (17, .arraylength), (18, .if_icmp .ge 7), (21, .iconst 1), (22, .goto 4), (25, .iconst 0), (26, .ireturn)]
set_option maxRecDepth 100000 in
def zm_X5_has : zi_R := (5, ⟨"WaxWings$Row", "has", "(I)Z"⟩, prog_7_method_5_code, 2, (some .boolean), false, 1, 4, 0, zc_X5_has, [])
set_option maxRecDepth 100000 in
def zc_X5_hasRun : List (Nat × Instr) := [(0, .iload_n 1), (1, .ifCond .lt 29), (4, .iload_n 2), (5, .ifCond .lt 25), (8, .iload_n 2), (9, .aload_n 0), (10, .getfield 7), (13, .if_icmp .gt 17), (16, .iload_n 1), (17, .aload_n 0), (18, .getfield 7), (21, .iload_n 2), (22, .isub), (23, .if_icmp .gt 7), (26, .iconst 1), (27, .goto 4), (30, .iconst 0), (31, .ireturn)]
set_option maxRecDepth 100000 in
def zm_X5_hasRun : zi_R := (5, ⟨"WaxWings$Row", "hasRun", "(II)Z"⟩, prog_7_method_6_code, 3, (some .boolean), false, 2, 4, 0, zc_X5_hasRun, [])
set_option maxRecDepth 100000 in
def zc_X5_get : List (Nat × Instr) := [(0, .iload_n 1), (1, .ifCond .lt 29), (4, .iload_n 1), (5, .aload_n 0), (6, .getfield 7), (9, .if_icmp .ge 21), (12, .iload_n 1), (13, .aload_n 0), (14, .getfield 19), (17, .arraylength), (18, .if_icmp .ge 12), (21, .aload_n 0), (22, .getfield 19), (25, .iload_n 1), (26, .iaload), (27, .goto 4), (30, .iconst 0), (31, .ireturn)]
set_option maxRecDepth 100000 in
def zm_X5_get : zi_R := (5, ⟨"WaxWings$Row", "get", "(I)I"⟩, prog_7_method_7_code, 2, (some .int), false, 1, 1, 0, zc_X5_get, [])
set_option maxRecDepth 100000 in
def zc_X5_set : List (Nat × Instr) := [(0, .aload_n 0), (1, .iload_n 1), (2, .invokevirtual 23), (5, .ifCond .eq 10), (8, .aload_n 0), (9, .getfield 19), (12, .iload_n 1), (13, .iload_n 2), (14, .iastore), (15, .return_)]
set_option maxRecDepth 100000 in
def zm_X5_set : zi_R := (5, ⟨"WaxWings$Row", "set", "(II)V"⟩, prog_7_method_8_code, 3, none, false, 2, 0, 0, zc_X5_set, [])
set_option maxRecDepth 100000 in
def zc_X5_drop : List (Nat × Instr) := [(0, .aload_n 0), (1, .iconst (-1)), (2, .putfield 7), (5, .return_)]
set_option maxRecDepth 100000 in
def zm_X5_drop : zi_R := (5, ⟨"WaxWings$Row", "drop", "()V"⟩, prog_7_method_9_code, 1, none, false, 0, 0, 0, zc_X5_drop, [])
set_option maxRecDepth 100000 in
def zc_X5_make : List (Nat × Instr) := [(0, .aload_n 0), (1, .iconst 0), (2, .iload_n 1), (3, .aload_n 0), (4, .getfield 19), (7, .arraylength), (8, .invokestatic 27), (11, .invokestatic 13), (14, .putfield 7), (17, .iconst 0), (18, .istore_n 3), (19, .iload_n 3), (20, .aload_n 0), (21, .getfield 7), (24, .if_icmp .ge 16), (27, .aload_n 0), (28, .getfield 19), (31, .iload_n 3), (32, .iload_n 2), (33, .iastore), (34, .iinc 3 1), (37, .goto (-18)), (40, .return_)]
set_option maxRecDepth 100000 in
def zm_X5_make : zi_R := (5, ⟨"WaxWings$Row", "make", "(II)V"⟩, prog_7_method_10_code, 4, none, false, 2, 0, 0, zc_X5_make, [(19, [0, 2, 3])])
set_option maxRecDepth 100000 in
def zc_X5_takeRun : List (Nat × Instr) := [(0, .aload_n 0), (1, .iload_n 1), (2, .iload 4), (4, .invokevirtual 30), (7, .ifCond .eq 13), (10, .aload_n 2), (11, .iload_n 3), (12, .iload 4), (14, .invokevirtual 30), (17, .ifCond .ne 4), (20, .return_), (21, .aload_n 2), (22, .getfield 19), (25, .iload_n 3), (26, .aload_n 0), (27, .getfield 19), (30, .iload_n 1), (31, .iload 4), (33, .invokestatic 34), (36, .return_)]
set_option maxRecDepth 100000 in
def zm_X5_takeRun : zi_R := (5, ⟨"WaxWings$Row", "takeRun", "(ILWaxWings$Row;II)V"⟩, prog_7_method_11_code, 5, none, false, 4, 0, 0, zc_X5_takeRun, [])
set_option maxRecDepth 100000 in
def zc_X5_digestOn : List (Nat × Instr) := [(0, .ldc2_w 40), (3, .lload_n 1), (4, .lmul), (5, .aload_n 0), (6, .getfield 7), (9, .i2l), (10, .ladd), (11, .lstore_n 3), (12, .iconst 0), (13, .istore 5), (15, .iload 5), (17, .aload_n 0), (18, .getfield 7), (21, .if_icmp .ge 23), (24, .ldc2_w 40), (27, .lload_n 3), (28, .lmul), (29, .aload_n 0), (30, .iload 5), (32, .invokevirtual 42), (35, .i2l), (36, .ladd), (37, .lstore_n 3), (38, .iinc 5 1), (41, .goto (-26)), (44, .lload_n 3), (45, .lreturn)]
set_option maxRecDepth 100000 in
def zm_X5_digestOn : zi_R := (5, ⟨"WaxWings$Row", "digestOn", "(J)J"⟩, prog_7_method_12_code, 6, (some .long), false, 1, 2, 0, zc_X5_digestOn, [(15, [0, 3, 5])])
set_option maxRecDepth 100000 in
def zc_X6_birdAt : List (Nat × Instr) := [(0, .iload_n 1), (1, .ifCond .lt 25), (4, .iload_n 1), (5, .aload_n 0), (6, .getfield 29), (9, .if_icmp .ge 17), (12, .iload_n 1), (13, .iconst 4), (14, .if_icmp .ge 12), (17, .aload_n 0), (18, .getfield 11), (21, .iload_n 1), (22, .aaload), (23, .goto 4), (26, .aconst_null), (27, .areturn)]
set_option maxRecDepth 100000 in
def zm_X6_birdAt : zi_R := (6, ⟨"WaxWings$Sky", "birdAt", "(I)LWaxWings$Bird;"⟩, prog_8_method_2_code, 2, (some (.object "WaxWings$Bird")), false, 1, 3, 1, zc_X6_birdAt, [])
set_option maxRecDepth 100000 in
def zc_X6_oldOnes : List (Nat × Instr) := [(0, .iconst 0), (1, .istore_n 1), (2, .iconst 0), (3, .istore_n 2), (4, .iload_n 2), (5, .aload_n 0), (6, .getfield 29), (9, .if_icmp .ge 33), (12, .iload_n 2), (13, .iconst 4), (14, .if_icmp .ge 28), (17, .aload_n 0), (18, .getfield 11), (21, .iload_n 2), (22, .aaload), (23, .getfield 33), (26, .iconst 1), (27, .invokestatic 36), (30, .ifCond .eq 6), (33, .iinc 1 1), (36, .iinc 2 1), (39, .goto (-35)), (42, .iload_n 1), (43, .ireturn)]
set_option maxRecDepth 100000 in
def zm_X6_oldOnes : zi_R := (6, ⟨"WaxWings$Sky", "oldOnes", "()I"⟩, prog_8_method_3_code, 3, (some .int), false, 0, 1, 0, zc_X6_oldOnes, [(4, [0, 1, 2]), (36, [0, 1, 2])])
set_option maxRecDepth 100000 in
def zc_X6_othersIn : List (Nat × Instr) := [(0, .iconst 0), (1, .istore_n 3), (2, .iconst 0), (3, .istore 4), (5, .iload 4), (7, .aload_n 0), (8, .getfield 29), (11, .if_icmp .ge 41), (14, .iload 4), (16, .iconst 4), (17, .if_icmp .ge 35), (20, .iload 4), (22, .iload_n 1), (23, .if_icmp .eq 23), (26, .aload_n 0), (27, .getfield 11), (30, .iload 4), (32, .aaload), (33, .getfield 40), (36, .getfield 44), (39, .iload_n 2), (40, .if_icmp .ne 6), (43, .iinc 3 1), (46, .iinc 4 1), (49, .goto (-44)), (52, .iload_n 3), (53, .ireturn)]
set_option maxRecDepth 100000 in
def zm_X6_othersIn : zi_R := (6, ⟨"WaxWings$Sky", "othersIn", "(II)I"⟩, prog_8_method_4_code, 5, (some .int), false, 2, 1, 0, zc_X6_othersIn, [(5, [0, 1, 2, 3, 4]), (46, [0, 1, 2, 3, 4])])
set_option maxRecDepth 100000 in
def zc_X6_note : List (Nat × Instr) := [(0, .aload_n 0), (1, .getfield 47), (4, .ifCond .lt 12), (7, .aload_n 0), (8, .getfield 47), (11, .bipush 40), (13, .if_icmp .lt 5), (16, .iconst 0), (17, .ireturn), (18, .aload_n 0), (19, .getfield 17), (22, .aload_n 0), (23, .getfield 47), (26, .iload_n 1), (27, .iastore), (28, .aload_n 0), (29, .getfield 23), (32, .aload_n 0), (33, .getfield 47), (36, .aaload), (37, .aload_n 2), (38, .invokevirtual 50), (41, .aload_n 0), (42, .dup), (43, .getfield 47), (46, .iconst 1), (47, .iadd), (48, .putfield 47), (51, .iconst 1), (52, .ireturn)]
set_option maxRecDepth 100000 in
def zm_X6_note : zi_R := (6, ⟨"WaxWings$Sky", "note", "(ILWaxWings$Spot;)Z"⟩, prog_8_method_5_code, 3, (some .boolean), false, 2, 4, 0, zc_X6_note, [])
set_option maxRecDepth 100000 in
def zc_X6_goBack : List (Nat × Instr) := [(0, .iconst 0), (1, .istore_n 2), (2, .aload_n 0), (3, .getfield 47), (6, .bipush 40), (8, .invokestatic 54), (11, .iconst 1), (12, .isub), (13, .istore_n 3), (14, .iload_n 3), (15, .ifCond .lt 48), (18, .iload_n 3), (19, .iload_n 1), (20, .if_icmp .lt 43), (23, .aload_n 0), (24, .aload_n 0), (25, .getfield 17), (28, .iload_n 3), (29, .iaload), (30, .invokevirtual 60), (33, .astore 4), (35, .aload 4), (37, .ifnull 17), (40, .aload 4), (42, .getfield 40), (45, .aload_n 0), (46, .getfield 23), (49, .iload_n 3), (50, .aaload), (51, .invokevirtual 50), (54, .iinc 2 1), (57, .iinc 3 (-1)), (60, .goto (-46)), (63, .aload_n 0), (64, .dup), (65, .getfield 47), (68, .iload_n 2), (69, .isub), (70, .putfield 47), (73, .iload_n 2), (74, .ireturn)]
set_option maxRecDepth 100000 in
def zm_X6_goBack : zi_R := (6, ⟨"WaxWings$Sky", "goBack", "(I)I"⟩, prog_8_method_6_code, 5, (some .int), false, 1, 1, 0, zc_X6_goBack, [(14, [0, 1, 2, 3]), (54, [0, 1, 2, 3]), (63, [0, 2])])
set_option maxRecDepth 100000 in
def zc_X6_drop : List (Nat × Instr) := [(0, .aload_n 0), (1, .iconst 0), (2, .putfield 64), (5, .return_)]
set_option maxRecDepth 100000 in
def zm_X6_drop : zi_R := (6, ⟨"WaxWings$Sky", "drop", "()V"⟩, prog_8_method_7_code, 1, none, false, 0, 0, 0, zc_X6_drop, [])
set_option maxRecDepth 100000 in
def zc_X6_take : List (Nat × Instr) := [(0, .aload_n 0), (1, .iconst 1), (2, .putfield 64), (5, .aload_n 0), (6, .aload_n 1), (7, .getfield 29), (10, .putfield 29), (13, .aload_n 0), (14, .aload_n 1), (15, .getfield 68), (18, .putfield 68), (21, .aload_n 0), (22, .aload_n 1), (23, .getfield 47), (26, .putfield 47), (29, .iconst 0), (30, .istore_n 2), (31, .iload_n 2), (32, .iconst 4), (33, .if_icmp .ge 24), (36, .aload_n 0), (37, .getfield 11), (40, .iload_n 2), (41, .aaload), (42, .aload_n 1), (43, .getfield 11), (46, .iload_n 2), (47, .aaload), (48, .invokevirtual 71), (51, .iinc 2 1), (54, .goto (-23)), (57, .iconst 0), (58, .istore_n 2), (59, .iload_n 2), (60, .aload_n 0), (61, .getfield 47), (64, .if_icmp .ge 42), (67, .iload_n 2), (68, .bipush 40), (70, .if_icmp .ge 36), (73, .aload_n 0), (74, .getfield 17), (77, .iload_n 2), (78, .aload_n 1), (79, .getfield 17), (82, .iload_n 2), (83, .iaload), (84, .iastore), (85, .aload_n 0), (86, .getfield 23), (89, .iload_n 2), (90, .aaload), (91, .aload_n 1), (92, .getfield 23), (95, .iload_n 2), (96, .aaload), (97, .invokevirtual 50), (100, .iinc 2 1), (103, .goto (-44)), (106, .return_)]
set_option maxRecDepth 100000 in
def zm_X6_take : zi_R := (6, ⟨"WaxWings$Sky", "take", "(LWaxWings$Sky;)V"⟩, prog_8_method_8_code, 3, none, false, 1, 0, 0, zc_X6_take, [(31, [0, 1, 2]), (59, [0, 1, 2])])
set_option maxRecDepth 100000 in
def zc_X7_take : List (Nat × Instr) := [(0, .aload_n 0), (1, .aload_n 1), (2, .getfield 7), (5, .putfield 7), (8, .aload_n 0), (9, .aload_n 1), (10, .getfield 13), (13, .putfield 13), (16, .aload_n 0), (17, .aload_n 1), (18, .getfield 16), (21, .putfield 16), (24, .aload_n 0), (25, .aload_n 1), (26, .getfield 19), (29, .putfield 19), (32, .aload_n 0), (33, .aload_n 1), (34, .getfield 22), (37, .putfield 22), (40, .aload_n 0), (41, .aload_n 1), (42, .getfield 25), (45, .putfield 25), (48, .return_)]
set_option maxRecDepth 100000 in
def zm_X7_take : zi_R := (7, ⟨"WaxWings$Spot", "take", "(LWaxWings$Spot;)V"⟩, prog_9_method_2_code, 2, none, false, 1, 0, 0, zc_X7_take, [])
end
section
/-! THE METHODS AS RECORDS: their instructions, as decode gives them (checked below); their cuts -/
set_option maxRecDepth 100000 in
def zc_X8_start : List (Nat × Instr) := [(0, .aload_n 0), (1, .getfield 11), (4, .iconst 0), (5, .aaload), (6, .aload_n 1), (7, .invokevirtual 26), (10, .aload_n 0), (11, .getfield 17), (14, .iconst 0), (15, .iconst (-1)), (16, .iastore), (17, .aload_n 0), (18, .iconst 0), (19, .putfield 30), (22, .aload_n 0), (23, .iconst 1), (24, .putfield 34), (27, .return_)]
set_option maxRecDepth 100000 in
def zm_X8_start : zi_R := (8, ⟨"WaxWings$Walker", "start", "(LWaxWings$Spot;)V"⟩, prog_10_method_2_code, 2, none, false, 1, 0, 0, zc_X8_start, [])
set_option maxRecDepth 100000 in
def zc_X8_strengthen : List (Nat × Instr) := [(0, .aload_n 0), (1, .getfield 11), (4, .iconst 0), (5, .aaload), (6, .iload_n 1), (7, .putfield 38), (10, .return_)]
set_option maxRecDepth 100000 in
def zm_X8_strengthen : zi_R := (8, ⟨"WaxWings$Walker", "strengthen", "(I)V"⟩, prog_10_method_3_code, 2, none, false, 1, 0, 0, zc_X8_strengthen, [])
set_option maxRecDepth 100000 in
def zc_X8_findNext : List (Nat × Instr) := [(0, .aload_n 0), (1, .getfield 34), (4, .istore_n 1), (5, .aload_n 0), (6, .iconst 0), (7, .putfield 34), (10, .iload_n 1), (11, .ifCond .eq 21), (14, .aload_n 0), (15, .getfield 21), (18, .aload_n 0), (19, .getfield 11), (22, .iconst 0), (23, .aaload), (24, .invokevirtual 41), (27, .ifCond .eq 5), (30, .iconst 1), (31, .ireturn), (32, .iconst 0), (33, .istore_n 2), (34, .iload_n 2), (35, .ldc 47), (37, .if_icmp .ge 166), (40, .aload_n 0), (41, .getfield 30), (44, .ifCond .lt 159), (47, .aload_n 0), (48, .getfield 30), (51, .bipush 6), (53, .if_icmp .ge 35), (56, .aload_n 0), (57, .getfield 17), (60, .aload_n 0), (61, .getfield 30), (64, .iaload), (65, .iconst 2), (66, .if_icmp .ge 22), (69, .aload_n 0), (70, .getfield 21), (73, .aload_n 0), (74, .getfield 11), (77, .aload_n 0), (78, .getfield 30), (81, .aaload), (82, .invokevirtual 41), (85, .ifCond .eq 16), (88, .aload_n 0), (89, .dup), (90, .getfield 30), (93, .iconst 1), (94, .isub), (95, .putfield 30), (98, .goto 99), (101, .aload_n 0), (102, .getfield 17), (105, .aload_n 0), (106, .getfield 30), (109, .dup2), (110, .iaload), (111, .iconst 1), (112, .iadd), (113, .iastore), (114, .aload_n 0), (115, .getfield 21), (118, .aload_n 0), (119, .getfield 11), (122, .aload_n 0), (123, .getfield 30), (126, .aaload), (127, .aload_n 0), (128, .getfield 17), (131, .aload_n 0), (132, .getfield 30), (135, .iaload), (136, .aload_n 0), (137, .getfield 11), (140, .aload_n 0), (141, .getfield 30), (144, .iconst 1), (145, .iadd), (146, .aaload), (147, .invokevirtual 48), (150, .ifCond .eq 6), (153, .goto 44), (156, .aload_n 0), (157, .dup), (158, .getfield 30), (161, .iconst 1), (162, .iadd), (163, .putfield 30), (166, .aload_n 0), (167, .getfield 17), (170, .aload_n 0), (171, .getfield 30), (174, .iconst (-1)), (175, .iastore), (176, .aload_n 0), (177, .getfield 21), (180, .aload_n 0), (181, .getfield 11), (184, .aload_n 0), (185, .getfield 30), (188, .aaload), (189, .invokevirtual 41), (192, .ifCond .eq 5), (195, .iconst 1), (196, .ireturn), (197, .iinc 2 1), (200, .goto (-166)), (203, .iconst 0), (204, .ireturn)]
set_option maxRecDepth 100000 in
def zm_X8_findNext : zi_R := (8, ⟨"WaxWings$Walker", "findNext", "()Z"⟩, prog_10_method_4_code, 3, (some .boolean), false, 0, 4, 0, zc_X8_findNext, [(32, [0]), (34, [0, 2]), (88, [0, 2]), (197, [0, 2])])
set_option maxRecDepth 100000 in
def zc_X8_size : List (Nat × Instr) := [(0, .iconst 0), (1, .aload_n 0), (2, .getfield 30), (5, .bipush 6), (7, .invokestatic 52), (10, .invokestatic 58), (13, .ireturn)]
set_option maxRecDepth 100000 in
def zm_X8_size : zi_R := (8, ⟨"WaxWings$Walker", "size", "()I"⟩, prog_10_method_5_code, 1, (some .int), false, 0, 1, 0, zc_X8_size, [])
set_option maxRecDepth 100000 in
def zc_X8_end : List (Nat × Instr) := [(0, .aload_n 0), (1, .getfield 11), (4, .aload_n 0), (5, .invokevirtual 61), (8, .aaload), (9, .areturn)]
set_option maxRecDepth 100000 in
def zm_X8_end : zi_R := (8, ⟨"WaxWings$Walker", "end", "()LWaxWings$Spot;"⟩, prog_10_method_6_code, 1, (some (.object "WaxWings$Spot")), false, 0, 3, 7, zc_X8_end, [])
set_option maxRecDepth 100000 in
def zc_X8_write : List (Nat × Instr) := [(0, .aload_n 1), (1, .aload_n 0), (2, .invokevirtual 61), (5, .iconst 0), (6, .invokevirtual 65), (9, .iconst 0), (10, .istore_n 2), (11, .iload_n 2), (12, .aload_n 0), (13, .invokevirtual 61), (16, .if_icmp .ge 20), (19, .aload_n 1), (20, .iload_n 2), (21, .aload_n 0), (22, .getfield 17), (25, .iload_n 2), (26, .iaload), (27, .invokevirtual 71), (30, .iinc 2 1), (33, .goto (-22)), (36, .return_)]
set_option maxRecDepth 100000 in
def zm_X8_write : zi_R := (8, ⟨"WaxWings$Walker", "write", "(LWaxWings$Row;)V"⟩, prog_10_method_7_code, 3, none, false, 1, 0, 0, zc_X8_write, [(11, [0, 1, 2])])
set_option maxRecDepth 100000 in
def zc_X8_heightsIn : List (Nat × Instr) := [(0, .iconst 0), (1, .istore_n 2), (2, .iconst 1), (3, .istore_n 3), (4, .iload_n 3), (5, .aload_n 0), (6, .invokevirtual 61), (9, .if_icmp .gt 36), (12, .aload_n 0), (13, .getfield 11), (16, .iload_n 3), (17, .aaload), (18, .getfield 74), (21, .iload_n 1), (22, .if_icmp .ne 17), (25, .iload_n 2), (26, .iconst 1), (27, .aload_n 0), (28, .getfield 11), (31, .iload_n 3), (32, .aaload), (33, .getfield 77), (36, .ishl), (37, .ior), (38, .istore_n 2), (39, .iinc 3 1), (42, .goto (-38)), (45, .iload_n 2), (46, .ireturn)]
set_option maxRecDepth 100000 in
def zm_X8_heightsIn : zi_R := (8, ⟨"WaxWings$Walker", "heightsIn", "(I)I"⟩, prog_10_method_8_code, 4, (some .int), false, 1, 1, 0, zc_X8_heightsIn, [(4, [0, 1, 2, 3]), (39, [0, 1, 2, 3])])
set_option maxRecDepth 100000 in
def zc_X8_dripColumns : List (Nat × Instr) := [(0, .iconst 0), (1, .istore_n 1), (2, .iconst 1), (3, .istore_n 2), (4, .iload_n 2), (5, .aload_n 0), (6, .invokevirtual 61), (9, .if_icmp .gt 39), (12, .aload_n 0), (13, .getfield 21), (16, .aload_n 0), (17, .getfield 11), (20, .iload_n 2), (21, .aaload), (22, .invokevirtual 80), (25, .ifCond .eq 17), (28, .iload_n 1), (29, .iconst 1), (30, .aload_n 0), (31, .getfield 11), (34, .iload_n 2), (35, .aaload), (36, .getfield 74), (39, .ishl), (40, .ior), (41, .istore_n 1), (42, .iinc 2 1), (45, .goto (-41)), (48, .iload_n 1), (49, .ireturn)]
set_option maxRecDepth 100000 in
def zm_X8_dripColumns : zi_R := (8, ⟨"WaxWings$Walker", "dripColumns", "()I"⟩, prog_10_method_9_code, 3, (some .int), false, 0, 1, 0, zc_X8_dripColumns, [(4, [0, 1, 2]), (42, [0, 1, 2])])
set_option maxRecDepth 100000 in
def zc_X9_row : List (Nat × Instr) := [(0, .aload_n 0), (1, .aload_n 0), (2, .iload_n 1), (3, .invokevirtual 89), (6, .iload_n 2), (7, .iconst 0), (8, .invokevirtual 93), (11, .ireturn)]
set_option maxRecDepth 100000 in
def zm_X9_row : zi_R := (9, ⟨"WaxWings", "row", "(II)I"⟩, prog_1_method_2_code, 3, (some .int), false, 2, 1, 0, zc_X9_row, [])
set_option maxRecDepth 100000 in
def zc_X9_lay : List (Nat × Instr) := [(0, .aload_n 0), (1, .iload_n 1), (2, .invokevirtual 89), (5, .astore 4), (7, .aload 4), (9, .ifnonnull 5), (12, .iconst (-1)), (13, .ireturn), (14, .aload 4), (16, .invokevirtual 97), (19, .ifCond .ne 9), (22, .aload_n 0), (23, .iconst 1), (24, .invokevirtual 101), (27, .ireturn), (28, .aload 4), (30, .iload_n 2), (31, .invokevirtual 105), (34, .ifCond .ne 9), (37, .aload_n 0), (38, .iconst 2), (39, .invokevirtual 101), (42, .ireturn), (43, .aload_n 0), (44, .aload 4), (46, .iload_n 2), (47, .invokevirtual 109), (50, .putfield 112), (53, .aload 4), (55, .iload_n 2), (56, .iload_n 3), (57, .invokevirtual 116), (60, .iconst 1), (61, .ireturn)]
set_option maxRecDepth 100000 in
def zm_X9_lay : zi_R := (9, ⟨"WaxWings", "lay", "(III)I"⟩, prog_1_method_3_code, 5, (some .int), false, 3, 1, 0, zc_X9_lay, [])
set_option maxRecDepth 100000 in
def zc_X9_at : List (Nat × Instr) := [(0, .aload_n 0), (1, .iload_n 1), (2, .invokevirtual 89), (5, .astore_n 3), (6, .aload_n 3), (7, .ifnonnull 5), (10, .iconst (-1)), (11, .ireturn), (12, .aload_n 3), (13, .invokevirtual 97), (16, .ifCond .ne 9), (19, .aload_n 0), (20, .iconst 1), (21, .invokevirtual 101), (24, .ireturn), (25, .aload_n 3), (26, .iload_n 2), (27, .invokevirtual 105), (30, .ifCond .ne 9), (33, .aload_n 0), (34, .iconst 2), (35, .invokevirtual 101), (38, .ireturn), (39, .aload_n 0), (40, .aload_n 3), (41, .iload_n 2), (42, .invokevirtual 109), (45, .putfield 112), (48, .iconst 1), (49, .ireturn)]
set_option maxRecDepth 100000 in
def zm_X9_at : zi_R := (9, ⟨"WaxWings", "at", "(II)I"⟩, prog_1_method_4_code, 4, (some .int), false, 2, 1, 0, zc_X9_at, [])
set_option maxRecDepth 100000 in
def zc_X9_tear : List (Nat × Instr) := [(0, .aload_n 0), (1, .iload_n 1), (2, .invokevirtual 89), (5, .astore_n 2), (6, .aload_n 2), (7, .ifnonnull 5), (10, .iconst (-1)), (11, .ireturn), (12, .aload_n 2), (13, .invokevirtual 97), (16, .ifCond .ne 9), (19, .aload_n 0), (20, .iconst 1), (21, .invokevirtual 101), (24, .ireturn), (25, .aload_n 2), (26, .invokevirtual 120), (29, .iconst 1), (30, .ireturn)]
set_option maxRecDepth 100000 in
def zm_X9_tear : zi_R := (9, ⟨"WaxWings", "tear", "(I)I"⟩, prog_1_method_5_code, 3, (some .int), false, 1, 1, 0, zc_X9_tear, [])
set_option maxRecDepth 100000 in
def zc_X9_copy : List (Nat × Instr) := [(0, .aload_n 0), (1, .iload_n 1), (2, .invokevirtual 89), (5, .astore 6), (7, .aload_n 0), (8, .iload_n 3), (9, .invokevirtual 89), (12, .astore 7), (14, .aload 6), (16, .ifnull 8), (19, .aload 7), (21, .ifnonnull 5), (24, .iconst (-1)), (25, .ireturn), (26, .iload 5), (28, .ifCond .ge 9), (31, .aload_n 0), (32, .iconst 5), (33, .invokevirtual 101), (36, .ireturn), (37, .aload 6), (39, .invokevirtual 97), (42, .ifCond .eq 11), (45, .aload 7), (47, .invokevirtual 97), (50, .ifCond .ne 9), (53, .aload_n 0), (54, .iconst 1), (55, .invokevirtual 101), (58, .ireturn), (59, .aload 6), (61, .iload_n 2), (62, .iload 5), (64, .invokevirtual 123), (67, .ifCond .eq 15), (70, .aload 7), (72, .iload 4), (74, .iload 5), (76, .invokevirtual 123), (79, .ifCond .ne 9), (82, .aload_n 0), (83, .iconst 2), (84, .invokevirtual 101), (87, .ireturn), (88, .aload 7), (90, .iload 4), (92, .aload 6), (94, .iload_n 2), (95, .iload 5), (97, .invokevirtual 127), (100, .iconst 1), (101, .ireturn)]
set_option maxRecDepth 100000 in
def zm_X9_copy : zi_R := (9, ⟨"WaxWings", "copy", "(IIIII)I"⟩, prog_1_method_6_code, 8, (some .int), false, 5, 1, 0, zc_X9_copy, [(53, [0]), (82, [0])])
set_option maxRecDepth 100000 in
def zc_X9_mean : List (Nat × Instr) := [(0, .aload_n 0), (1, .iload_n 1), (2, .invokevirtual 89), (5, .astore_n 2), (6, .aload_n 2), (7, .ifnonnull 5), (10, .iconst (-1)), (11, .ireturn), (12, .aload_n 2), (13, .invokevirtual 97), (16, .ifCond .ne 9), (19, .aload_n 0), (20, .iconst 1), (21, .invokevirtual 101), (24, .ireturn), (25, .aload_n 2), (26, .invokevirtual 131), (29, .istore_n 3), (30, .iload_n 3), (31, .ifCond .gt 9), (34, .aload_n 0), (35, .iconst 4), (36, .invokevirtual 101), (39, .ireturn), (40, .lconst 0), (41, .lstore 4), (43, .iconst 0), (44, .istore 6), (46, .iload 6), (48, .iload_n 3), (49, .if_icmp .ge 21), (52, .lload 4), (54, .aload_n 2), (55, .iload 6), (57, .invokevirtual 109), (60, .i2l), (61, .ladd), (62, .lstore 4), (64, .iinc 6 1), (67, .goto (-21)), (70, .aload_n 0), (71, .lload 4), (73, .iload_n 3), (74, .i2l), (75, .ldiv), (76, .l2i), (77, .putfield 112), (80, .iconst 1), (81, .ireturn)]
set_option maxRecDepth 100000 in
def zm_X9_mean : zi_R := (9, ⟨"WaxWings", "mean", "(I)I"⟩, prog_1_method_7_code, 7, (some .int), false, 1, 1, 0, zc_X9_mean, [(46, [0, 2, 3, 4, 6])])
set_option maxRecDepth 100000 in
def zc_X9_text : List (Nat × Instr) := [(0, .aload_n 0), (1, .aload_n 0), (2, .iload_n 1), (3, .invokevirtual 135), (6, .iload_n 2), (7, .bipush 32), (9, .invokevirtual 93), (12, .ireturn)]
set_option maxRecDepth 100000 in
def zm_X9_text : zi_R := (9, ⟨"WaxWings", "text", "(II)I"⟩, prog_1_method_8_code, 3, (some .int), false, 2, 1, 0, zc_X9_text, [])
set_option maxRecDepth 100000 in
def zc_X9_put : List (Nat × Instr) := [(0, .aload_n 0), (1, .iload_n 1), (2, .invokevirtual 135), (5, .astore 4), (7, .aload 4), (9, .ifnonnull 5), (12, .iconst (-1)), (13, .ireturn), (14, .aload 4), (16, .invokevirtual 97), (19, .ifCond .ne 9), (22, .aload_n 0), (23, .iconst 1), (24, .invokevirtual 101), (27, .ireturn), (28, .aload 4), (30, .iload_n 2), (31, .invokevirtual 105), (34, .ifCond .ne 9), (37, .aload_n 0), (38, .iconst 2), (39, .invokevirtual 101), (42, .ireturn), (43, .aload 4), (45, .iload_n 2), (46, .invokevirtual 109), (49, .istore 5), (51, .aload 4), (53, .iload_n 2), (54, .iload_n 3), (55, .i2b), (56, .invokevirtual 116), (59, .iload 5), (61, .sipush 1000), (64, .iadd), (65, .ireturn)]
set_option maxRecDepth 100000 in
def zm_X9_put : zi_R := (9, ⟨"WaxWings", "put", "(III)I"⟩, prog_1_method_9_code, 6, (some .int), false, 3, 1, 0, zc_X9_put, [])
set_option maxRecDepth 100000 in
def zc_X9_fault : List (Nat × Instr) := [(0, .aload_n 0), (1, .iload_n 1), (2, .invokevirtual 135), (5, .astore_n 2), (6, .aload_n 2), (7, .ifnonnull 5), (10, .iconst (-1)), (11, .ireturn), (12, .aload_n 2), (13, .invokevirtual 97), (16, .ifCond .ne 9), (19, .aload_n 0), (20, .iconst 1), (21, .invokevirtual 101), (24, .ireturn), (25, .aload_n 0), (26, .getfield 64), (29, .aload_n 2), (30, .invokevirtual 138), (33, .ifCond .eq 8), (36, .bipush (-9)), (38, .goto 10), (41, .aload_n 0), (42, .getfield 64), (45, .invokevirtual 142), (48, .ireturn)]
set_option maxRecDepth 100000 in
def zm_X9_fault : zi_R := (9, ⟨"WaxWings", "fault", "(I)I"⟩, prog_1_method_10_code, 3, (some .int), false, 1, 1, 0, zc_X9_fault, [])
set_option maxRecDepth 100000 in
def zc_X9_sky : List (Nat × Instr) := [(0, .aload_n 0), (1, .iload_n 1), (2, .invokevirtual 135), (5, .astore_n 2), (6, .aload_n 2), (7, .ifnonnull 5), (10, .iconst (-1)), (11, .ireturn), (12, .aload_n 2), (13, .invokevirtual 97), (16, .ifCond .ne 9), (19, .aload_n 0), (20, .iconst 1), (21, .invokevirtual 101), (24, .ireturn), (25, .aload_n 0), (26, .getfield 64), (29, .aload_n 2), (30, .invokevirtual 138), (33, .ifCond .ne 6), (36, .bipush (-4)), (38, .ireturn), (39, .aload_n 0), (40, .getfield 64), (43, .aload_n 0), (44, .getfield 21), (47, .aload_n 0), (48, .getfield 28), (51, .invokevirtual 145), (54, .iconst 0), (55, .istore_n 3), (56, .iload_n 3), (57, .iconst 3), (58, .if_icmp .ge 18), (61, .aload_n 0), (62, .getfield 32), (65, .iload_n 3), (66, .aaload), (67, .invokevirtual 149), (70, .iinc 3 1), (73, .goto (-17)), (76, .aload_n 0), (77, .getfield 28), (80, .getfield 150), (83, .ireturn)]
set_option maxRecDepth 100000 in
def zm_X9_sky : zi_R := (9, ⟨"WaxWings", "sky", "(I)I"⟩, prog_1_method_11_code, 4, (some .int), false, 1, 1, 0, zc_X9_sky, [(56, [0, 3])])
set_option maxRecDepth 100000 in
def zc_X9_flyer : List (Nat × Instr) := [(0, .aload_n 0), (1, .getfield 28), (4, .iload_n 1), (5, .invokevirtual 153), (8, .astore_n 3), (9, .aload_n 3), (10, .ifnull 13), (13, .iload_n 2), (14, .ifCond .lt 9), (17, .iload_n 2), (18, .bipush 7), (20, .if_icmp .le 5), (23, .iconst (-1)), (24, .ireturn), (25, .aload_n 0), (26, .aload_n 3), (27, .iload_n 2), (28, .invokevirtual 157), (31, .putfield 112), (34, .iconst 1), (35, .ireturn)]
set_option maxRecDepth 100000 in
def zm_X9_flyer : zi_R := (9, ⟨"WaxWings", "flyer", "(II)I"⟩, prog_1_method_12_code, 4, (some .int), false, 2, 1, 0, zc_X9_flyer, [])
set_option maxRecDepth 100000 in
def zc_X9_mark : List (Nat × Instr) := [(0, .aload_n 0), (1, .getfield 28), (4, .iload_n 1), (5, .invokevirtual 153), (8, .astore_n 3), (9, .aload_n 3), (10, .ifnull 13), (13, .iload_n 2), (14, .iconst 1), (15, .if_icmp .lt 8), (18, .iload_n 2), (19, .iconst 5), (20, .if_icmp .le 5), (23, .iconst (-1)), (24, .ireturn), (25, .aload_n 3), (26, .getfield 162), (29, .iload_n 2), (30, .invokestatic 165), (33, .ifCond .ne 9), (36, .aload_n 0), (37, .iconst 3), (38, .invokevirtual 101), (41, .ireturn), (42, .aload_n 0), (43, .getfield 41), (46, .aload_n 3), (47, .aload_n 0), (48, .getfield 28), (51, .getfield 168), (54, .invokevirtual 171), (57, .iload_n 2), (58, .tableswitch 83 1 4 #[30, 39, 56, 65]), (88, .aload_n 0), (89, .getfield 41), (92, .iconst 2), (93, .invokevirtual 175), (96, .ireturn), (97, .aload_n 0), (98, .getfield 41), (101, .aload_n 0), (102, .getfield 21), (105, .getfield 178), (108, .iconst 1), (109, .isub), (110, .invokevirtual 181), (113, .ireturn), (114, .aload_n 0), (115, .getfield 41), (118, .iconst 1), (119, .invokevirtual 175), (122, .ireturn), (123, .aload_n 0), (124, .getfield 21), (127, .getfield 184), (130, .iconst 1), (131, .isub), (132, .aload_n 3), (133, .getfield 187), (136, .getfield 190), (139, .isub), (140, .ireturn), (141, .aload_n 0), (142, .getfield 28), (145, .iload_n 1), (146, .aload_n 3), (147, .getfield 187), (150, .getfield 190), (153, .invokevirtual 193), (156, .ireturn)]
set_option maxRecDepth 100000 in
def zm_X9_mark : zi_R := (9, ⟨"WaxWings", "mark", "(II)I"⟩, prog_1_method_13_code, 4, (some .int), false, 2, 1, 0, zc_X9_mark, [(88, [0]), (97, [0]), (114, [0]), (123, [0, 3]), (141, [0, 1, 3])])
set_option maxRecDepth 100000 in
def zc_X9_air : List (Nat × Instr) := [(0, .iload_n 1), (1, .ifCond .lt 29), (4, .iload_n 1), (5, .aload_n 0), (6, .getfield 21), (9, .getfield 184), (12, .if_icmp .ge 18), (15, .iload_n 2), (16, .ifCond .lt 14), (19, .iload_n 2), (20, .aload_n 0), (21, .getfield 21), (24, .getfield 178), (27, .if_icmp .lt 5), (30, .iconst (-1)), (31, .ireturn), (32, .aload_n 0), (33, .getfield 21), (36, .iload_n 1), (37, .iload_n 2), (38, .invokevirtual 197), (41, .ireturn)]
set_option maxRecDepth 100000 in
def zm_X9_air : zi_R := (9, ⟨"WaxWings", "air", "(II)I"⟩, prog_1_method_14_code, 3, (some .int), false, 2, 1, 0, zc_X9_air, [])
set_option maxRecDepth 100000 in
def zc_X9_sun : List (Nat × Instr) := [(0, .iload_n 1), (1, .ifCond .lt 9), (4, .iload_n 1), (5, .bipush 9), (7, .if_icmp .le 5), (10, .iconst (-1)), (11, .ireturn), (12, .aload_n 0), (13, .getfield 21), (16, .getfield 184), (19, .ifCond .ne 6), (22, .bipush (-4)), (24, .ireturn), (25, .aload_n 0), (26, .getfield 28), (29, .getfield 168), (32, .istore_n 2), (33, .aload_n 0), (34, .getfield 28), (37, .iload_n 1), (38, .putfield 168), (41, .iload_n 2), (42, .ireturn)]
set_option maxRecDepth 100000 in
def zm_X9_sun : zi_R := (9, ⟨"WaxWings", "sun", "(I)I"⟩, prog_1_method_15_code, 3, (some .int), false, 1, 1, 0, zc_X9_sun, [])
set_option maxRecDepth 100000 in
def zc_X9_letters : List (Nat × Instr) := [(0, .aload_n 0), (1, .getfield 28), (4, .iload_n 1), (5, .invokevirtual 153), (8, .astore_n 3), (9, .aload_n 3), (10, .ifnull 12), (13, .iload_n 2), (14, .ifCond .lt 8), (17, .iload_n 2), (18, .iconst 3), (19, .if_icmp .le 5), (22, .iconst (-1)), (23, .ireturn), (24, .aload_n 3), (25, .getfield 200), (28, .istore 4), (30, .aload_n 3), (31, .iload_n 2), (32, .putfield 200), (35, .iload 4), (37, .ireturn)]
set_option maxRecDepth 100000 in
def zm_X9_letters : zi_R := (9, ⟨"WaxWings", "letters", "(II)I"⟩, prog_1_method_16_code, 5, (some .int), false, 2, 1, 0, zc_X9_letters, [])
set_option maxRecDepth 100000 in
def zc_X9_beat : List (Nat × Instr) := [(0, .aload_n 0), (1, .getfield 28), (4, .iload_n 1), (5, .invokevirtual 153), (8, .astore_n 3), (9, .aload_n 3), (10, .ifnull 10), (13, .iload_n 2), (14, .invokestatic 203), (17, .ifCond .ne 5), (20, .iconst (-1)), (21, .ireturn), (22, .aload_n 0), (23, .getfield 41), (26, .aload_n 3), (27, .aload_n 0), (28, .getfield 28), (31, .getfield 168), (34, .invokevirtual 171), (37, .aload_n 0), (38, .iload_n 1), (39, .aload_n 3), (40, .iload_n 2), (41, .invokevirtual 206), (44, .ireturn)]
set_option maxRecDepth 100000 in
def zm_X9_beat : zi_R := (9, ⟨"WaxWings", "beat", "(II)I"⟩, prog_1_method_17_code, 4, (some .int), false, 2, 1, 0, zc_X9_beat, [])
set_option maxRecDepth 100000 in
def zc_X9_undo : List (Nat × Instr) := [(0, .iload_n 1), (1, .ifCond .lt 14), (4, .iload_n 1), (5, .aload_n 0), (6, .getfield 28), (9, .getfield 210), (12, .if_icmp .le 5), (15, .iconst (-1)), (16, .ireturn), (17, .aload_n 0), (18, .getfield 28), (21, .iload_n 1), (22, .invokevirtual 213), (25, .ireturn)]
set_option maxRecDepth 100000 in
def zm_X9_undo : zi_R := (9, ⟨"WaxWings", "undo", "(I)I"⟩, prog_1_method_18_code, 2, (some .int), false, 1, 1, 0, zc_X9_undo, [])
set_option maxRecDepth 100000 in
def zc_X9_over : List (Nat × Instr) := [(0, .iconst 0), (1, .istore_n 1), (2, .iconst 0), (3, .istore_n 2), (4, .iconst 0), (5, .istore_n 3), (6, .iload_n 3), (7, .iconst 4), (8, .if_icmp .ge 68), (11, .aload_n 0), (12, .getfield 28), (15, .iload_n 3), (16, .invokevirtual 153), (19, .astore 4), (21, .aload 4), (23, .ifnonnull 6), (26, .goto 44), (29, .aload 4), (31, .getfield 187), (34, .getfield 216), (37, .ifCond .eq 12), (40, .iload_n 2), (41, .iconst 1), (42, .iload_n 3), (43, .ishl), (44, .ior), (45, .istore_n 2), (46, .goto 24), (49, .aload_n 0), (50, .getfield 41), (53, .aload 4), (55, .getfield 187), (58, .invokevirtual 219), (61, .ifCond .eq 9), (64, .iload_n 1), (65, .iconst 1), (66, .iload_n 3), (67, .ishl), (68, .ior), (69, .istore_n 1), (70, .iinc 3 1), (73, .goto (-67)), (76, .aload_n 0), (77, .iload_n 2), (78, .putfield 112), (81, .iload_n 1), (82, .ireturn)]
set_option maxRecDepth 100000 in
def zm_X9_over : zi_R := (9, ⟨"WaxWings", "over", "()I"⟩, prog_1_method_19_code, 5, (some .int), false, 0, 1, 0, zc_X9_over, [(6, [0, 1, 2, 3]), (70, [0, 1, 2, 3])])
set_option maxRecDepth 100000 in
def zc_X9_can : List (Nat × Instr) := [(0, .aload_n 0), (1, .getfield 28), (4, .iload_n 1), (5, .invokevirtual 153), (8, .astore_n 2), (9, .aload_n 2), (10, .ifnonnull 5), (13, .iconst (-1)), (14, .ireturn), (15, .aload_n 0), (16, .getfield 41), (19, .aload_n 2), (20, .aload_n 0), (21, .getfield 28), (24, .getfield 168), (27, .invokevirtual 171), (30, .iconst 0), (31, .istore_n 3), (32, .iconst 0), (33, .istore 4), (35, .iload 4), (37, .iconst 2), (38, .if_icmp .gt 36), (41, .aload_n 0), (42, .getfield 41), (45, .aload_n 2), (46, .getfield 187), (49, .iload 4), (51, .aload_n 0), (52, .getfield 71), (55, .invokevirtual 223), (58, .ifCond .le 10), (61, .iload_n 3), (62, .iconst 1), (63, .iload 4), (65, .ishl), (66, .ior), (67, .istore_n 3), (68, .iinc 4 1), (71, .goto (-36)), (74, .aload_n 0), (75, .iload_n 3), (76, .putfield 112), (79, .aload_n 0), (80, .aload_n 2), (81, .invokevirtual 227), (84, .ireturn)]
set_option maxRecDepth 100000 in
def zm_X9_can : zi_R := (9, ⟨"WaxWings", "can", "(I)I"⟩, prog_1_method_20_code, 5, (some .int), false, 1, 1, 0, zc_X9_can, [(35, [0, 2, 3, 4]), (68, [0, 2, 3, 4])])
set_option maxRecDepth 100000 in
def zc_X9_keep : List (Nat × Instr) := [(0, .iload_n 1), (1, .ifCond .lt 8), (4, .iload_n 1), (5, .iconst 3), (6, .if_icmp .lt 5), (9, .iconst (-1)), (10, .ireturn), (11, .aload_n 0), (12, .getfield 21), (15, .getfield 184), (18, .ifCond .ne 6), (21, .bipush (-4)), (23, .ireturn), (24, .aload_n 0), (25, .getfield 32), (28, .iload_n 1), (29, .aaload), (30, .aload_n 0), (31, .getfield 28), (34, .invokevirtual 231), (37, .aload_n 0), (38, .getfield 28), (41, .getfield 210), (44, .ireturn)]
set_option maxRecDepth 100000 in
def zm_X9_keep : zi_R := (9, ⟨"WaxWings", "keep", "(I)I"⟩, prog_1_method_21_code, 2, (some .int), false, 1, 1, 0, zc_X9_keep, [])
set_option maxRecDepth 100000 in
def zc_X9_on : List (Nat × Instr) := [(0, .iload_n 1), (1, .ifCond .lt 8), (4, .iload_n 1), (5, .iconst 3), (6, .if_icmp .lt 5), (9, .iconst (-1)), (10, .ireturn), (11, .aload_n 0), (12, .getfield 32), (15, .iload_n 1), (16, .aaload), (17, .getfield 235), (20, .ifCond .ne 9), (23, .aload_n 0), (24, .iconst 1), (25, .invokevirtual 101), (28, .ireturn), (29, .aload_n 0), (30, .getfield 28), (33, .aload_n 0), (34, .getfield 32), (37, .iload_n 1), (38, .aaload), (39, .invokevirtual 231), (42, .aload_n 0), (43, .getfield 28), (46, .getfield 210), (49, .ireturn)]
set_option maxRecDepth 100000 in
def zm_X9_on : zi_R := (9, ⟨"WaxWings", "on", "(I)I"⟩, prog_1_method_22_code, 2, (some .int), false, 1, 1, 0, zc_X9_on, [])
set_option maxRecDepth 100000 in
def zc_X9_judge : List (Nat × Instr) := [(0, .aload_n 0), (1, .getfield 28), (4, .iload_n 1), (5, .invokevirtual 153), (8, .astore_n 3), (9, .aload_n 0), (10, .iload_n 2), (11, .invokevirtual 89), (14, .astore 4), (16, .aload_n 3), (17, .ifnull 8), (20, .aload 4), (22, .ifnonnull 5), (25, .iconst (-1)), (26, .ireturn), (27, .aload_n 3), (28, .getfield 187), (31, .getfield 216), (34, .ifCond .eq 6), (37, .bipush (-4)), (39, .ireturn), (40, .aload 4), (42, .invokevirtual 97), (45, .ifCond .ne 9), (48, .aload_n 0), (49, .iconst 1), (50, .invokevirtual 101), (53, .ireturn), (54, .aload 4), (56, .invokestatic 239), (59, .ifCond .ne 9), (62, .aload_n 0), (63, .iconst 3), (64, .invokevirtual 101), (67, .ireturn), (68, .aload_n 0), (69, .getfield 41), (72, .aload_n 3), (73, .aload_n 0), (74, .getfield 28), (77, .getfield 168), (80, .invokevirtual 171), (83, .aload_n 0), (84, .getfield 71), (87, .aload_n 3), (88, .getfield 187), (91, .invokevirtual 242), (94, .iconst 0), (95, .istore 5), (97, .iload 5), (99, .aload 4), (101, .invokevirtual 131), (104, .if_icmp .ge 60), (107, .aload_n 0), (108, .getfield 41), (111, .aload_n 0), (112, .getfield 71), (115, .aload 4), (117, .iload 5), (119, .invokevirtual 109), (122, .aload_n 0), (123, .getfield 71), (126, .invokevirtual 223), (129, .istore 6), (131, .iload 6), (133, .ifCond .ne 6), (136, .goto 22), (139, .aload_n 0), (140, .iload 6), (142, .iconst (-1)), (143, .if_icmp .ne 7), (146, .iconst 0), (147, .goto 5), (150, .iload 6), (152, .putfield 112), (155, .iload 5), (157, .ireturn), (158, .iinc 5 1), (161, .goto (-64)), (164, .aload_n 0), (165, .iconst 0), (166, .putfield 112), (169, .aload 4), (171, .invokevirtual 131), (174, .ireturn)]
set_option maxRecDepth 100000 in
def zm_X9_judge : zi_R := (9, ⟨"WaxWings", "judge", "(II)I"⟩, prog_1_method_23_code, 7, (some .int), false, 2, 1, 0, zc_X9_judge, [(97, [0, 4, 5]), (152, [5])])
set_option maxRecDepth 100000 in
def zc_X9_soonest : List (Nat × Instr) := [(0, .aload_n 0), (1, .getfield 28), (4, .iload_n 1), (5, .invokevirtual 153), (8, .astore_n 3), (9, .aload_n 0), (10, .iload_n 2), (11, .invokevirtual 89), (14, .astore 4), (16, .aload_n 3), (17, .ifnull 8), (20, .aload 4), (22, .ifnonnull 5), (25, .iconst (-1)), (26, .ireturn), (27, .aload_n 3), (28, .getfield 187), (31, .getfield 216), (34, .ifCond .eq 6), (37, .bipush (-4)), (39, .ireturn), (40, .bipush (-9)), (42, .istore 5), (44, .aload_n 0), (45, .aload_n 3), (46, .invokevirtual 245), (49, .iconst 0), (50, .istore 6), (52, .iload 6), (54, .sipush 729), (57, .if_icmp .ge 59), (60, .aload_n 0), (61, .getfield 50), (64, .invokevirtual 249), (67, .ifCond .eq 49), (70, .iload 5), (72, .bipush (-9)), (74, .if_icmp .eq 18), (77, .aload_n 0), (78, .getfield 50), (81, .invokevirtual 252), (84, .iload 5), (86, .if_icmp .lt 6), (89, .goto 21), (92, .aload_n 0), (93, .getfield 50), (96, .invokevirtual 252), (99, .istore 5), (101, .aload_n 0), (102, .getfield 50), (105, .aload 4), (107, .invokevirtual 253), (110, .iinc 6 1), (113, .goto (-61)), (116, .iload 5), (118, .ireturn)]
set_option maxRecDepth 100000 in
def zm_X9_soonest : zi_R := (9, ⟨"WaxWings", "soonest", "(II)I"⟩, prog_1_method_24_code, 7, (some .int), false, 2, 1, 0, zc_X9_soonest, [(52, [0, 4, 5, 6]), (92, [0, 4, 6]), (110, [0, 4, 5, 6])])
set_option maxRecDepth 100000 in
def zc_X9_lightest : List (Nat × Instr) := [(0, .aload_n 0), (1, .getfield 28), (4, .iload_n 1), (5, .invokevirtual 153), (8, .astore_n 3), (9, .aload_n 0), (10, .iload_n 2), (11, .invokevirtual 89), (14, .astore 4), (16, .aload_n 3), (17, .ifnull 8), (20, .aload 4), (22, .ifnonnull 5), (25, .iconst (-1)), (26, .ireturn), (27, .aload_n 3), (28, .getfield 187), (31, .getfield 216), (34, .ifCond .eq 6), (37, .bipush (-4)), (39, .ireturn), (40, .bipush (-9)), (42, .istore 5), (44, .aload_n 0), (45, .aload_n 3), (46, .invokevirtual 245), (49, .iconst 0), (50, .istore 6), (52, .iload 6), (54, .sipush 729), (57, .if_icmp .ge 58), (60, .aload_n 0), (61, .getfield 50), (64, .invokevirtual 249), (67, .ifCond .eq 48), (70, .aload_n 0), (71, .getfield 50), (74, .invokevirtual 257), (77, .getfield 261), (80, .iload 5), (82, .if_icmp .gt 6), (85, .goto 24), (88, .aload_n 0), (89, .getfield 50), (92, .invokevirtual 257), (95, .getfield 261), (98, .istore 5), (100, .aload_n 0), (101, .getfield 50), (104, .aload 4), (106, .invokevirtual 253), (109, .iinc 6 1), (112, .goto (-60)), (115, .iload 5), (117, .ireturn)]
set_option maxRecDepth 100000 in
def zm_X9_lightest : zi_R := (9, ⟨"WaxWings", "lightest", "(II)I"⟩, prog_1_method_25_code, 7, (some .int), false, 2, 1, 0, zc_X9_lightest, [(52, [0, 4, 5, 6]), (109, [0, 4, 5, 6])])
set_option maxRecDepth 100000 in
def zc_X9_ways : List (Nat × Instr) := [(0, .aload_n 0), (1, .getfield 28), (4, .iload_n 1), (5, .invokevirtual 153), (8, .astore_n 2), (9, .aload_n 2), (10, .ifnonnull 5), (13, .iconst (-1)), (14, .ireturn), (15, .aload_n 2), (16, .getfield 187), (19, .getfield 216), (22, .ifCond .eq 6), (25, .bipush (-4)), (27, .ireturn), (28, .iconst 0), (29, .istore_n 3), (30, .aload_n 0), (31, .aload_n 2), (32, .invokevirtual 245), (35, .iload_n 3), (36, .sipush 729), (39, .if_icmp .ge 19), (42, .aload_n 0), (43, .getfield 50), (46, .invokevirtual 249), (49, .ifCond .eq 9), (52, .iinc 3 1), (55, .goto (-20)), (58, .aload_n 0), (59, .iload_n 3), (60, .i2l), (61, .lconst 1), (62, .invokevirtual 264), (65, .iconst 1), (66, .ireturn)]
set_option maxRecDepth 100000 in
def zm_X9_ways : zi_R := (9, ⟨"WaxWings", "ways", "(I)I"⟩, prog_1_method_26_code, 4, (some .int), false, 1, 1, 0, zc_X9_ways, [(35, [0, 3]), (58, [0, 3])])
set_option maxRecDepth 100000 in
def zc_X9_heights : List (Nat × Instr) := [(0, .aload_n 0), (1, .getfield 28), (4, .iload_n 1), (5, .invokevirtual 153), (8, .astore_n 3), (9, .aload_n 3), (10, .ifnull 18), (13, .iload_n 2), (14, .ifCond .lt 14), (17, .iload_n 2), (18, .aload_n 0), (19, .getfield 21), (22, .getfield 184), (25, .if_icmp .lt 5), (28, .iconst (-1)), (29, .ireturn), (30, .aload_n 3), (31, .getfield 187), (34, .getfield 216), (37, .ifCond .eq 6), (40, .bipush (-4)), (42, .ireturn), (43, .iconst 0), (44, .istore 4), (46, .iconst 0), (47, .istore 5), (49, .aload_n 0), (50, .aload_n 3), (51, .invokevirtual 245), (54, .iconst 0), (55, .istore 6), (57, .iload 6), (59, .sipush 729), (62, .if_icmp .ge 53), (65, .aload_n 0), (66, .getfield 50), (69, .invokevirtual 249), (72, .ifCond .eq 43), (75, .aload_n 0), (76, .getfield 50), (79, .iload_n 2), (80, .invokevirtual 267), (83, .istore 7), (85, .iload 4), (87, .iload 7), (89, .ior), (90, .istore 4), (92, .iload 6), (94, .ifCond .ne 8), (97, .iload 7), (99, .goto 8), (102, .iload 5), (104, .iload 7), (106, .iand), (107, .istore 5), (109, .iinc 6 1), (112, .goto (-55)), (115, .aload_n 0), (116, .iload 5), (118, .putfield 112), (121, .iload 4), (123, .ireturn)]
set_option maxRecDepth 100000 in
def zm_X9_heights : zi_R := (9, ⟨"WaxWings", "heights", "(II)I"⟩, prog_1_method_27_code, 8, (some .int), false, 2, 1, 0, zc_X9_heights, [(57, [0, 2, 4, 5, 6]), (107, [0, 2, 4, 6]), (115, [0, 4, 5])])
set_option maxRecDepth 100000 in
def zc_X9_nth : List (Nat × Instr) := [(0, .aload_n 0), (1, .getfield 28), (4, .iload_n 1), (5, .invokevirtual 153), (8, .astore 4), (10, .aload_n 0), (11, .iload_n 3), (12, .invokevirtual 89), (15, .astore 5), (17, .aload 4), (19, .ifnull 12), (22, .aload 5), (24, .ifnull 7), (27, .iload_n 2), (28, .ifCond .ge 5), (31, .iconst (-1)), (32, .ireturn), (33, .aload 4), (35, .getfield 187), (38, .getfield 216), (41, .ifCond .eq 6), (44, .bipush (-4)), (46, .ireturn), (47, .aload_n 0), (48, .aload 4), (50, .invokevirtual 245), (53, .iconst 0), (54, .istore 6), (56, .iload 6), (58, .sipush 729), (61, .if_icmp .ge 45), (64, .aload_n 0), (65, .getfield 50), (68, .invokevirtual 249), (71, .ifCond .eq 35), (74, .iload 6), (76, .iload_n 2), (77, .if_icmp .eq 6), (80, .goto 20), (83, .aload_n 0), (84, .getfield 50), (87, .aload 5), (89, .invokevirtual 253), (92, .aload_n 0), (93, .getfield 50), (96, .invokevirtual 252), (99, .ireturn), (100, .iinc 6 1), (103, .goto (-47)), (106, .aload_n 0), (107, .iconst 4), (108, .invokevirtual 101), (111, .ireturn)]
set_option maxRecDepth 100000 in
def zm_X9_nth : zi_R := (9, ⟨"WaxWings", "nth", "(III)I"⟩, prog_1_method_28_code, 7, (some .int), false, 3, 1, 0, zc_X9_nth, [(56, [0, 2, 5, 6]), (106, [0])])
set_option maxRecDepth 100000 in
def zc_X9_wax : List (Nat × Instr) := [(0, .aload_n 0), (1, .getfield 28), (4, .iload_n 1), (5, .invokevirtual 153), (8, .astore_n 2), (9, .aload_n 2), (10, .ifnonnull 5), (13, .iconst (-1)), (14, .ireturn), (15, .aload_n 2), (16, .getfield 187), (19, .getfield 216), (22, .ifCond .eq 6), (25, .bipush (-4)), (27, .ireturn), (28, .aload_n 0), (29, .getfield 41), (32, .aload_n 2), (33, .aload_n 0), (34, .getfield 28), (37, .getfield 168), (40, .invokevirtual 171), (43, .iconst 0), (44, .istore_n 3), (45, .iload_n 3), (46, .bipush 9), (48, .if_icmp .gt 30), (51, .aload_n 0), (52, .getfield 41), (55, .iload_n 3), (56, .putfield 270), (59, .aload_n 0), (60, .aload_n 2), (61, .getfield 187), (64, .invokevirtual 273), (67, .ifCond .eq 5), (70, .iload_n 3), (71, .ireturn), (72, .iinc 3 1), (75, .goto (-30)), (78, .bipush (-9)), (80, .ireturn)]
set_option maxRecDepth 100000 in
def zm_X9_wax : zi_R := (9, ⟨"WaxWings", "wax", "(I)I"⟩, prog_1_method_29_code, 4, (some .int), false, 1, 1, 0, zc_X9_wax, [(45, [0, 2, 3])])
set_option maxRecDepth 100000 in
def zc_X9_strength : List (Nat × Instr) := [(0, .aload_n 0), (1, .getfield 28), (4, .iload_n 1), (5, .invokevirtual 153), (8, .astore_n 2), (9, .aload_n 2), (10, .ifnonnull 5), (13, .iconst (-1)), (14, .ireturn), (15, .aload_n 2), (16, .getfield 187), (19, .getfield 216), (22, .ifCond .eq 6), (25, .bipush (-4)), (27, .ireturn), (28, .aload_n 0), (29, .aload_n 2), (30, .invokevirtual 245), (33, .aload_n 0), (34, .getfield 50), (37, .bipush 40), (39, .invokevirtual 276), (42, .bipush (-9)), (44, .istore_n 3), (45, .iconst 0), (46, .istore 4), (48, .iload 4), (50, .sipush 729), (53, .if_icmp .ge 34), (56, .aload_n 0), (57, .getfield 50), (60, .invokevirtual 249), (63, .ifCond .eq 24), (66, .iload_n 3), (67, .aload_n 0), (68, .getfield 50), (71, .invokevirtual 257), (74, .getfield 261), (77, .invokestatic 279), (80, .istore_n 3), (81, .iinc 4 1), (84, .goto (-36)), (87, .iload_n 3), (88, .bipush (-9)), (90, .if_icmp .ne 8), (93, .bipush (-9)), (95, .goto 7), (98, .bipush 40), (100, .iload_n 3), (101, .isub), (102, .ireturn)]
set_option maxRecDepth 100000 in
def zm_X9_strength : zi_R := (9, ⟨"WaxWings", "strength", "(I)I"⟩, prog_1_method_30_code, 5, (some .int), false, 1, 1, 0, zc_X9_strength, [(48, [0, 3, 4]), (87, [3])])
set_option maxRecDepth 100000 in
def zc_X9_most : List (Nat × Instr) := [(0, .aload_n 0), (1, .getfield 28), (4, .iload_n 1), (5, .invokevirtual 153), (8, .astore_n 2), (9, .aload_n 2), (10, .ifnonnull 5), (13, .iconst (-1)), (14, .ireturn), (15, .aload_n 2), (16, .getfield 187), (19, .getfield 216), (22, .ifCond .eq 6), (25, .bipush (-4)), (27, .ireturn), (28, .aload_n 0), (29, .getfield 41), (32, .aload_n 2), (33, .aload_n 0), (34, .getfield 28), (37, .getfield 168), (40, .invokevirtual 171), (43, .iconst 3), (44, .istore_n 3), (45, .iload_n 3), (46, .ifCond .lt 30), (49, .aload_n 0), (50, .getfield 41), (53, .iload_n 3), (54, .putfield 284), (57, .aload_n 0), (58, .aload_n 2), (59, .getfield 187), (62, .invokevirtual 273), (65, .ifCond .eq 5), (68, .iload_n 3), (69, .ireturn), (70, .iinc 3 (-1)), (73, .goto (-28)), (76, .bipush (-9)), (78, .ireturn)]
set_option maxRecDepth 100000 in
def zm_X9_most : zi_R := (9, ⟨"WaxWings", "most", "(I)I"⟩, prog_1_method_31_code, 4, (some .int), false, 1, 1, 0, zc_X9_most, [(45, [0, 2, 3])])
set_option maxRecDepth 100000 in
def zc_X9_hottest : List (Nat × Instr) := [(0, .aload_n 0), (1, .getfield 28), (4, .iload_n 1), (5, .invokevirtual 153), (8, .astore_n 2), (9, .aload_n 2), (10, .ifnonnull 5), (13, .iconst (-1)), (14, .ireturn), (15, .aload_n 2), (16, .getfield 187), (19, .getfield 216), (22, .ifCond .eq 6), (25, .bipush (-4)), (27, .ireturn), (28, .aload_n 0), (29, .getfield 41), (32, .aload_n 2), (33, .aload_n 0), (34, .getfield 28), (37, .getfield 168), (40, .invokevirtual 171), (43, .bipush 9), (45, .istore_n 3), (46, .iload_n 3), (47, .ifCond .lt 30), (50, .aload_n 0), (51, .getfield 41), (54, .iload_n 3), (55, .putfield 285), (58, .aload_n 0), (59, .aload_n 2), (60, .getfield 187), (63, .invokevirtual 273), (66, .ifCond .eq 5), (69, .iload_n 3), (70, .ireturn), (71, .iinc 3 (-1)), (74, .goto (-28)), (77, .bipush (-9)), (79, .ireturn)]
set_option maxRecDepth 100000 in
def zm_X9_hottest : zi_R := (9, ⟨"WaxWings", "hottest", "(I)I"⟩, prog_1_method_32_code, 4, (some .int), false, 1, 1, 0, zc_X9_hottest, [(46, [0, 2, 3])])
end
section
/-! THE METHODS AS RECORDS: their instructions, as decode gives them (checked below); their cuts -/
set_option maxRecDepth 100000 in
def zc_X9_kinds : List (Nat × Instr) := [(0, .aload_n 0), (1, .getfield 28), (4, .iload_n 1), (5, .invokevirtual 153), (8, .astore_n 2), (9, .aload_n 2), (10, .ifnonnull 5), (13, .iconst (-1)), (14, .ireturn), (15, .aload_n 2), (16, .getfield 187), (19, .getfield 216), (22, .ifCond .eq 6), (25, .bipush (-4)), (27, .ireturn), (28, .aload_n 0), (29, .getfield 41), (32, .aload_n 2), (33, .aload_n 0), (34, .getfield 28), (37, .getfield 168), (40, .invokevirtual 171), (43, .iconst 0), (44, .istore_n 3), (45, .iconst 0), (46, .istore 4), (48, .iload 4), (50, .bipush 6), (52, .if_icmp .ge 36), (55, .aload_n 0), (56, .getfield 41), (59, .iload 4), (61, .putfield 286), (64, .aload_n 0), (65, .aload_n 2), (66, .getfield 187), (69, .invokevirtual 273), (72, .ifCond .eq 10), (75, .iload_n 3), (76, .iconst 1), (77, .iload 4), (79, .ishl), (80, .ior), (81, .istore_n 3), (82, .iinc 4 1), (85, .goto (-37)), (88, .iload_n 3), (89, .ireturn)]
set_option maxRecDepth 100000 in
def zm_X9_kinds : zi_R := (9, ⟨"WaxWings", "kinds", "(I)I"⟩, prog_1_method_33_code, 5, (some .int), false, 1, 1, 0, zc_X9_kinds, [(48, [0, 2, 3, 4]), (82, [0, 2, 3, 4])])
set_option maxRecDepth 100000 in
def zc_X9_post : List (Nat × Instr) := [(0, .aload_n 0), (1, .iload_n 2), (2, .invokevirtual 89), (5, .astore_n 3), (6, .aload_n 3), (7, .ifnull 13), (10, .iload_n 1), (11, .ifCond .lt 9), (14, .iload_n 1), (15, .bipush 12), (17, .if_icmp .le 5), (20, .iconst (-1)), (21, .ireturn), (22, .aload_n 0), (23, .getfield 28), (26, .getfield 150), (29, .ifCond .ne 6), (32, .bipush (-4)), (34, .ireturn), (35, .iconst 0), (36, .istore 4), (38, .iload 4), (40, .iconst 4), (41, .if_icmp .ge 29), (44, .aload_n 0), (45, .getfield 79), (48, .iload 4), (50, .aload_n 0), (51, .aload_n 0), (52, .getfield 28), (55, .iload 4), (57, .invokevirtual 153), (60, .invokevirtual 287), (63, .iastore), (64, .iinc 4 1), (67, .goto (-29)), (70, .bipush (-9)), (72, .istore 4), (74, .iconst 0), (75, .istore 5), (77, .iconst 0), (78, .istore 6), (80, .iload 6), (82, .sipush 256), (85, .if_icmp .ge 50), (88, .aload_n 0), (89, .iload 6), (91, .iload_n 1), (92, .invokevirtual 290), (95, .istore 7), (97, .iload 7), (99, .bipush (-9)), (101, .if_icmp .eq 28), (104, .iload 4), (106, .bipush (-9)), (108, .if_icmp .eq 13), (111, .iload 7), (113, .iload 4), (115, .if_icmp .lt 6), (118, .goto 11), (121, .iload 7), (123, .istore 4), (125, .iload 6), (127, .istore 5), (129, .iinc 6 1), (132, .goto (-52)), (135, .iload 4), (137, .bipush (-9)), (139, .if_icmp .eq 10), (142, .aload_n 0), (143, .iload 5), (145, .aload_n 3), (146, .invokevirtual 293), (149, .iload 4), (151, .ireturn)]
set_option maxRecDepth 100000 in
def zm_X9_post : zi_R := (9, ⟨"WaxWings", "post", "(II)I"⟩, prog_1_method_34_code, 8, (some .int), false, 2, 1, 0, zc_X9_post, [(38, [0, 1, 3, 4]), (80, [0, 1, 3, 4, 5, 6]), (121, [0, 1, 3, 6, 7]), (129, [0, 1, 3, 4, 5, 6])])
set_option maxRecDepth 100000 in
def zc_X9_plan : List (Nat × Instr) := [(0, .aload_n 0), (1, .getfield 28), (4, .iload_n 1), (5, .invokevirtual 153), (8, .astore 4), (10, .aload_n 0), (11, .iload_n 2), (12, .invokevirtual 89), (15, .astore 5), (17, .aload 4), (19, .ifnull 18), (22, .aload 5), (24, .ifnull 13), (27, .iload_n 3), (28, .ifCond .lt 9), (31, .iload_n 3), (32, .bipush 12), (34, .if_icmp .le 5), (37, .iconst (-1)), (38, .ireturn), (39, .aload 4), (41, .getfield 187), (44, .getfield 216), (47, .ifCond .eq 6), (50, .bipush (-4)), (52, .ireturn), (53, .aload 5), (55, .invokevirtual 97), (58, .ifCond .ne 9), (61, .aload_n 0), (62, .iconst 1), (63, .invokevirtual 101), (66, .ireturn), (67, .aload 5), (69, .invokevirtual 131), (72, .bipush 8), (74, .if_icmp .le 9), (77, .aload_n 0), (78, .iconst 5), (79, .invokevirtual 101), (82, .ireturn), (83, .aload 5), (85, .invokestatic 239), (88, .ifCond .ne 9), (91, .aload_n 0), (92, .iconst 3), (93, .invokevirtual 101), (96, .ireturn), (97, .aload_n 0), (98, .getfield 41), (101, .aload 4), (103, .aload_n 0), (104, .getfield 28), (107, .getfield 168), (110, .invokevirtual 171), (113, .aload_n 0), (114, .aload_n 0), (115, .getfield 57), (118, .aload 4), (120, .getfield 187), (123, .iload_n 3), (124, .aload 5), (126, .invokevirtual 297), (129, .i2l), (130, .ldc2_w 301), (133, .invokevirtual 264), (136, .iconst 1), (137, .ireturn)]
set_option maxRecDepth 100000 in
def zm_X9_plan : zi_R := (9, ⟨"WaxWings", "plan", "(III)I"⟩, prog_1_method_35_code, 6, (some .int), false, 3, 1, 0, zc_X9_plan, [])
set_option maxRecDepth 100000 in
def zc_X9_odds : List (Nat × Instr) := [(0, .aload_n 0), (1, .getfield 28), (4, .iload_n 1), (5, .invokevirtual 153), (8, .astore_n 3), (9, .aload_n 3), (10, .ifnull 13), (13, .iload_n 2), (14, .ifCond .lt 9), (17, .iload_n 2), (18, .bipush 12), (20, .if_icmp .le 5), (23, .iconst (-1)), (24, .ireturn), (25, .aload_n 3), (26, .getfield 187), (29, .getfield 216), (32, .ifCond .eq 6), (35, .bipush (-4)), (37, .ireturn), (38, .aload_n 0), (39, .getfield 41), (42, .aload_n 3), (43, .aload_n 0), (44, .getfield 28), (47, .getfield 168), (50, .invokevirtual 171), (53, .aload_n 0), (54, .aload_n 0), (55, .getfield 57), (58, .aload_n 3), (59, .getfield 187), (62, .iload_n 2), (63, .aconst_null), (64, .invokevirtual 297), (67, .i2l), (68, .ldc2_w 301), (71, .invokevirtual 264), (74, .iconst 1), (75, .ireturn)]
set_option maxRecDepth 100000 in
def zm_X9_odds : zi_R := (9, ⟨"WaxWings", "odds", "(II)I"⟩, prog_1_method_36_code, 4, (some .int), false, 2, 1, 0, zc_X9_odds, [])
set_option maxRecDepth 100000 in
def zc_X9_choice : List (Nat × Instr) := [(0, .aload_n 0), (1, .getfield 28), (4, .iload_n 1), (5, .invokevirtual 153), (8, .astore_n 3), (9, .aload_n 3), (10, .ifnull 13), (13, .iload_n 2), (14, .ifCond .lt 9), (17, .iload_n 2), (18, .bipush 12), (20, .if_icmp .le 5), (23, .iconst (-1)), (24, .ireturn), (25, .aload_n 3), (26, .getfield 187), (29, .getfield 216), (32, .ifCond .eq 6), (35, .bipush (-4)), (37, .ireturn), (38, .aload_n 0), (39, .getfield 41), (42, .aload_n 3), (43, .aload_n 0), (44, .getfield 28), (47, .getfield 168), (50, .invokevirtual 171), (53, .aload_n 0), (54, .getfield 57), (57, .aload_n 3), (58, .getfield 187), (61, .iload_n 2), (62, .invokevirtual 303), (65, .ireturn)]
set_option maxRecDepth 100000 in
def zm_X9_choice : zi_R := (9, ⟨"WaxWings", "choice", "(II)I"⟩, prog_1_method_37_code, 4, (some .int), false, 2, 1, 0, zc_X9_choice, [])
set_option maxRecDepth 100000 in
def zc_X9_boats : List (Nat × Instr) := [(0, .aload_n 0), (1, .iload_n 2), (2, .invokevirtual 89), (5, .astore_n 3), (6, .aload_n 3), (7, .ifnull 13), (10, .iload_n 1), (11, .iconst 1), (12, .if_icmp .lt 8), (15, .iload_n 1), (16, .iconst 4), (17, .if_icmp .le 5), (20, .iconst (-1)), (21, .ireturn), (22, .aload_n 0), (23, .getfield 21), (26, .getfield 184), (29, .ifCond .ne 6), (32, .bipush (-4)), (34, .ireturn), (35, .iload_n 1), (36, .aload_n 0), (37, .getfield 21), (40, .getfield 184), (43, .if_icmp .le 9), (46, .aload_n 0), (47, .iconst 5), (48, .invokevirtual 101), (51, .ireturn), (52, .bipush 7), (54, .istore 4), (56, .iconst 0), (57, .istore 5), (59, .iconst 1), (60, .aload_n 0), (61, .getfield 21), (64, .getfield 184), (67, .ishl), (68, .iconst 1), (69, .isub), (70, .istore 6), (72, .iload 6), (74, .ifCond .le 47), (77, .iload 6), (79, .invokestatic 307), (82, .iload_n 1), (83, .if_icmp .eq 6), (86, .goto 29), (89, .aload_n 0), (90, .iload 6), (92, .invokevirtual 312), (95, .istore 7), (97, .iload 7), (99, .iload 4), (101, .if_icmp .lt 6), (104, .goto 11), (107, .iload 7), (109, .istore 4), (111, .iload 6), (113, .istore 5), (115, .iinc 6 (-1)), (118, .goto (-46)), (121, .aload_n 3), (122, .iload_n 1), (123, .iconst 0), (124, .invokevirtual 315), (127, .iconst 0), (128, .istore 6), (130, .iconst 0), (131, .istore 7), (133, .iload 7), (135, .aload_n 0), (136, .getfield 21), (139, .getfield 184), (142, .if_icmp .ge 31), (145, .aload_n 0), (146, .iload 5), (148, .iload 7), (150, .invokevirtual 318), (153, .ifCond .eq 14), (156, .aload_n 3), (157, .iload 6), (159, .iinc 6 1), (162, .iload 7), (164, .invokevirtual 116), (167, .iinc 7 1), (170, .goto (-37)), (173, .iload 4), (175, .ireturn)]
set_option maxRecDepth 100000 in
def zm_X9_boats : zi_R := (9, ⟨"WaxWings", "boats", "(II)I"⟩, prog_1_method_38_code, 8, (some .int), false, 2, 1, 0, zc_X9_boats, [(72, [0, 1, 3, 4, 5, 6]), (115, [0, 1, 3, 4, 5, 6]), (133, [0, 3, 4, 5, 6, 7]), (167, [0, 3, 4, 5, 6, 7])])
set_option maxRecDepth 100000 in
def zc_X9_drip : List (Nat × Instr) := [(0, .aload_n 0), (1, .getfield 28), (4, .iload_n 1), (5, .invokevirtual 153), (8, .astore_n 3), (9, .aload_n 0), (10, .iload_n 2), (11, .invokevirtual 89), (14, .astore 4), (16, .aload_n 3), (17, .ifnull 8), (20, .aload 4), (22, .ifnonnull 5), (25, .iconst (-1)), (26, .ireturn), (27, .aload_n 3), (28, .getfield 187), (31, .getfield 216), (34, .ifCond .eq 6), (37, .bipush (-4)), (39, .ireturn), (40, .aload 4), (42, .invokevirtual 97), (45, .ifCond .ne 9), (48, .aload_n 0), (49, .iconst 1), (50, .invokevirtual 101), (53, .ireturn), (54, .aload 4), (56, .invokestatic 239), (59, .ifCond .ne 9), (62, .aload_n 0), (63, .iconst 3), (64, .invokevirtual 101), (67, .ireturn), (68, .aload_n 0), (69, .getfield 41), (72, .aload_n 3), (73, .aload_n 0), (74, .getfield 28), (77, .getfield 168), (80, .invokevirtual 171), (83, .aload_n 0), (84, .getfield 71), (87, .aload_n 3), (88, .getfield 187), (91, .invokevirtual 242), (94, .iconst 0), (95, .istore 5), (97, .iload 5), (99, .aload 4), (101, .invokevirtual 131), (104, .if_icmp .ge 83), (107, .aload_n 0), (108, .getfield 41), (111, .aload_n 0), (112, .getfield 71), (115, .aload 4), (117, .iload 5), (119, .invokevirtual 109), (122, .aload_n 0), (123, .getfield 71), (126, .invokevirtual 223), (129, .istore 6), (131, .iload 6), (133, .iconst (-1)), (134, .if_icmp .ne 6), (137, .bipush (-9)), (139, .ireturn), (140, .aload_n 0), (141, .getfield 41), (144, .aload_n 0), (145, .getfield 71), (148, .invokevirtual 321), (151, .ifCond .eq 22), (154, .aload_n 0), (155, .aload_n 0), (156, .getfield 71), (159, .getfield 324), (162, .putfield 112), (165, .aload_n 0), (166, .getfield 71), (169, .getfield 190), (172, .ireturn), (173, .iload 6), (175, .ifCond .eq 6), (178, .bipush (-9)), (180, .ireturn), (181, .iinc 5 1), (184, .goto (-87)), (187, .bipush (-9)), (189, .ireturn)]
set_option maxRecDepth 100000 in
def zm_X9_drip : zi_R := (9, ⟨"WaxWings", "drip", "(II)I"⟩, prog_1_method_39_code, 7, (some .int), false, 2, 1, 0, zc_X9_drip, [(97, [0, 4, 5])])
set_option maxRecDepth 100000 in
def zc_X9_feathers : List (Nat × Instr) := [(0, .aload_n 0), (1, .getfield 28), (4, .iload_n 1), (5, .invokevirtual 153), (8, .astore_n 3), (9, .aload_n 3), (10, .ifnull 20), (13, .iload_n 2), (14, .ifCond .lt 16), (17, .iload_n 2), (18, .iconst 1), (19, .aload_n 0), (20, .getfield 21), (23, .getfield 184), (26, .ishl), (27, .if_icmp .lt 5), (30, .iconst (-1)), (31, .ireturn), (32, .aload_n 3), (33, .getfield 187), (36, .getfield 216), (39, .ifCond .eq 6), (42, .bipush (-4)), (44, .ireturn), (45, .iconst 0), (46, .istore 4), (48, .iconst 0), (49, .istore 5), (51, .aload_n 0), (52, .aload_n 3), (53, .invokevirtual 245), (56, .iconst 0), (57, .istore 6), (59, .iload 6), (61, .sipush 729), (64, .if_icmp .ge 57), (67, .aload_n 0), (68, .getfield 50), (71, .invokevirtual 249), (74, .ifCond .eq 47), (77, .aload_n 0), (78, .getfield 50), (81, .invokevirtual 327), (84, .iload_n 2), (85, .if_icmp .eq 6), (88, .goto 27), (91, .iinc 4 1), (94, .iload 5), (96, .aload_n 0), (97, .getfield 50), (100, .aload_n 0), (101, .getfield 21), (104, .getfield 184), (107, .iconst 1), (108, .isub), (109, .invokevirtual 267), (112, .ior), (113, .istore 5), (115, .iinc 6 1), (118, .goto (-59)), (121, .aload_n 0), (122, .iload 4), (124, .i2l), (125, .lconst 1), (126, .invokevirtual 264), (129, .aload_n 0), (130, .iload 5), (132, .putfield 112), (135, .iconst 1), (136, .ireturn)]
set_option maxRecDepth 100000 in
def zm_X9_feathers : zi_R := (9, ⟨"WaxWings", "feathers", "(II)I"⟩, prog_1_method_40_code, 7, (some .int), false, 2, 1, 0, zc_X9_feathers, [(59, [0, 2, 4, 5, 6]), (115, [0, 2, 4, 5, 6]), (121, [0, 4, 5])])
set_option maxRecDepth 100000 in
def zc_X9_lots : List (Nat × Instr) := [(0, .aload_n 0), (1, .getfield 28), (4, .iload_n 1), (5, .invokevirtual 153), (8, .astore 4), (10, .aload 4), (12, .ifnull 28), (15, .iload_n 2), (16, .iconst 1), (17, .if_icmp .lt 23), (20, .iload_n 2), (21, .bipush 9), (23, .if_icmp .gt 17), (26, .iload_n 3), (27, .iconst 1), (28, .if_icmp .lt 12), (31, .iload_n 3), (32, .i2l), (33, .ldc2_w 330), (36, .lcmp), (37, .ifCond .lt 5), (40, .iconst (-1)), (41, .ireturn), (42, .aload 4), (44, .getfield 187), (47, .getfield 216), (50, .ifCond .eq 6), (53, .bipush (-4)), (55, .ireturn), (56, .aload_n 0), (57, .getfield 28), (60, .getfield 210), (63, .iload_n 2), (64, .iadd), (65, .bipush 40), (67, .if_icmp .le 6), (70, .bipush (-2)), (72, .ireturn), (73, .aload_n 0), (74, .getfield 41), (77, .aload 4), (79, .aload_n 0), (80, .getfield 28), (83, .getfield 168), (86, .invokevirtual 171), (89, .iload_n 3), (90, .i2l), (91, .lstore 5), (93, .iconst 0), (94, .istore 7), (96, .iload 7), (98, .iload_n 2), (99, .if_icmp .ge 64), (102, .lload 5), (104, .ldc2_w 332), (107, .lmul), (108, .ldc2_w 330), (111, .lrem), (112, .lstore 5), (114, .aload_n 0), (115, .aload 4), (117, .invokevirtual 227), (120, .istore 8), (122, .iload 8), (124, .invokestatic 307), (127, .istore 9), (129, .iload 9), (131, .ifCond .ne 6), (134, .iload 7), (136, .ireturn), (137, .aload_n 0), (138, .iload_n 1), (139, .aload 4), (141, .iload 8), (143, .lload 5), (145, .iload 9), (147, .i2l), (148, .lrem), (149, .l2i), (150, .invokestatic 334), (153, .invokevirtual 206), (156, .pop), (157, .iinc 7 1), (160, .goto (-64)), (163, .iload_n 2), (164, .ireturn)]
set_option maxRecDepth 100000 in
def zm_X9_lots : zi_R := (9, ⟨"WaxWings", "lots", "(III)I"⟩, prog_1_method_41_code, 10, (some .int), false, 3, 1, 0, zc_X9_lots, [(96, [0, 1, 2, 4, 5, 7])])
set_option maxRecDepth 100000 in
def zc_X9_asked : List (Nat × Instr) := [(0, .aload_n 0), (1, .getfield 112), (4, .ireturn)]
set_option maxRecDepth 100000 in
def zm_X9_asked : zi_R := (9, ⟨"WaxWings", "asked", "()I"⟩, prog_1_method_42_code, 1, (some .int), false, 0, 1, 0, zc_X9_asked, [])
set_option maxRecDepth 100000 in
def zc_X9_upper : List (Nat × Instr) := [(0, .aload_n 0), (1, .getfield 337), (4, .lreturn)]
set_option maxRecDepth 100000 in
def zm_X9_upper : zi_R := (9, ⟨"WaxWings", "upper", "()J"⟩, prog_1_method_43_code, 1, (some .long), false, 0, 2, 0, zc_X9_upper, [])
set_option maxRecDepth 100000 in
def zc_X9_lower : List (Nat × Instr) := [(0, .aload_n 0), (1, .getfield 82), (4, .lreturn)]
set_option maxRecDepth 100000 in
def zm_X9_lower : zi_R := (9, ⟨"WaxWings", "lower", "()J"⟩, prog_1_method_44_code, 1, (some .long), false, 0, 2, 0, zc_X9_lower, [])
set_option maxRecDepth 100000 in
def zc_X9_count : List (Nat × Instr) := [(0, .iload_n 1), (1, .ifCond .lt 9), (4, .iload_n 1), (5, .bipush 8), (7, .if_icmp .le 5), (10, .iconst (-1)), (11, .ireturn), (12, .aload_n 0), (13, .iload_n 1), (14, .invokevirtual 340), (17, .ireturn)]
set_option maxRecDepth 100000 in
def zm_X9_count : zi_R := (9, ⟨"WaxWings", "count", "(I)I"⟩, prog_1_method_45_code, 2, (some .int), false, 1, 1, 0, zc_X9_count, [])
set_option maxRecDepth 100000 in
def zc_X9_finding : List (Nat × Instr) := [(0, .aload_n 0), (1, .getfield 343), (4, .ireturn)]
set_option maxRecDepth 100000 in
def zm_X9_finding : zi_R := (9, ⟨"WaxWings", "finding", "()I"⟩, prog_1_method_46_code, 1, (some .int), false, 0, 1, 0, zc_X9_finding, [])
set_option maxRecDepth 100000 in
def zc_X9_findings : List (Nat × Instr) := [(0, .iload_n 1), (1, .iconst 1), (2, .if_icmp .lt 8), (5, .iload_n 1), (6, .iconst 5), (7, .if_icmp .le 5), (10, .iconst (-1)), (11, .ireturn), (12, .aload_n 0), (13, .getfield 75), (16, .iload_n 1), (17, .iaload), (18, .ireturn)]
set_option maxRecDepth 100000 in
def zm_X9_findings : zi_R := (9, ⟨"WaxWings", "findings", "(I)I"⟩, prog_1_method_47_code, 2, (some .int), false, 1, 1, 0, zc_X9_findings, [])
set_option maxRecDepth 100000 in
def zc_X9_digest : List (Nat × Instr) := [(0, .ldc2_w 346), (3, .lstore_n 1), (4, .iconst 0), (5, .istore_n 3), (6, .iload_n 3), (7, .bipush 8), (9, .if_icmp .gt 22), (12, .ldc2_w 348), (15, .lload_n 1), (16, .lmul), (17, .aload_n 0), (18, .iload_n 3), (19, .invokevirtual 340), (22, .i2l), (23, .ladd), (24, .lstore_n 1), (25, .iinc 3 1), (28, .goto (-22)), (31, .iconst 0), (32, .istore_n 3), (33, .iload_n 3), (34, .iconst 4), (35, .if_icmp .ge 58), (38, .aload_n 0), (39, .getfield 28), (42, .iload_n 3), (43, .invokevirtual 153), (46, .astore 4), (48, .aload 4), (50, .ifnonnull 6), (53, .goto 34), (56, .iconst 0), (57, .istore 5), (59, .iload 5), (61, .bipush 7), (63, .if_icmp .gt 24), (66, .ldc2_w 348), (69, .lload_n 1), (70, .lmul), (71, .aload 4), (73, .iload 5), (75, .invokevirtual 157), (78, .i2l), (79, .ladd), (80, .lstore_n 1), (81, .iinc 5 1), (84, .goto (-25)), (87, .iinc 3 1), (90, .goto (-57)), (93, .iconst 0), (94, .istore_n 3), (95, .iload_n 3), (96, .iconst 3), (97, .if_icmp .ge 42), (100, .ldc2_w 348), (103, .lload_n 1), (104, .lmul), (105, .aload_n 0), (106, .getfield 32), (109, .iload_n 3), (110, .aaload), (111, .getfield 235), (114, .ifCond .eq 15), (117, .aload_n 0), (118, .getfield 32), (121, .iload_n 3), (122, .aaload), (123, .getfield 210), (126, .goto 4), (129, .iconst (-1)), (130, .i2l), (131, .ladd), (132, .lstore_n 1), (133, .iinc 3 1), (136, .goto (-41)), (139, .iconst 0), (140, .istore_n 3), (141, .iload_n 3), (142, .bipush 6), (144, .if_icmp .ge 20), (147, .aload_n 0), (148, .getfield 11), (151, .iload_n 3), (152, .aaload), (153, .lload_n 1), (154, .invokevirtual 350), (157, .lstore_n 1), (158, .iinc 3 1), (161, .goto (-20)), (164, .iconst 0), (165, .istore_n 3), (166, .iload_n 3), (167, .iconst 4), (168, .if_icmp .ge 20), (171, .aload_n 0), (172, .getfield 15), (175, .iload_n 3), (176, .aaload), (177, .lload_n 1), (178, .invokevirtual 350), (181, .lstore_n 1), (182, .iinc 3 1), (185, .goto (-19)), (188, .lload_n 1), (189, .lreturn)]
set_option maxRecDepth 100000 in
def zm_X9_digest : zi_R := (9, ⟨"WaxWings", "digest", "()J"⟩, prog_1_method_48_code, 6, (some .long), false, 0, 2, 0, zc_X9_digest, [(6, [0, 1, 3]), (33, [0, 1, 3]), (59, [0, 1, 3, 4, 5]), (87, [0, 1, 3]), (95, [0, 1, 3]), (130, [0, 3]), (141, [0, 1, 3]), (166, [0, 1, 3])])
set_option maxRecDepth 100000 in
def zc_X9_rowAt : List (Nat × Instr) := [(0, .iload_n 1), (1, .ifCond .lt 18), (4, .iload_n 1), (5, .bipush 6), (7, .if_icmp .ge 12), (10, .aload_n 0), (11, .getfield 11), (14, .iload_n 1), (15, .aaload), (16, .goto 4), (19, .aconst_null), (20, .areturn)]
set_option maxRecDepth 100000 in
def zm_X9_rowAt : zi_R := (9, ⟨"WaxWings", "rowAt", "(I)LWaxWings$Row;"⟩, prog_1_method_49_code, 2, (some (.object "WaxWings$Row")), false, 1, 3, 5, zc_X9_rowAt, [])
set_option maxRecDepth 100000 in
def zc_X9_textAt : List (Nat × Instr) := [(0, .iload_n 1), (1, .ifCond .lt 17), (4, .iload_n 1), (5, .iconst 4), (6, .if_icmp .ge 12), (9, .aload_n 0), (10, .getfield 15), (13, .iload_n 1), (14, .aaload), (15, .goto 4), (18, .aconst_null), (19, .areturn)]
set_option maxRecDepth 100000 in
def zm_X9_textAt : zi_R := (9, ⟨"WaxWings", "textAt", "(I)LWaxWings$Row;"⟩, prog_1_method_50_code, 2, (some (.object "WaxWings$Row")), false, 1, 3, 5, zc_X9_textAt, [])
set_option maxRecDepth 100000 in
def zc_X9_madeAnew : List (Nat × Instr) := [(0, .aload_n 1), (1, .ifnull 11), (4, .iload_n 2), (5, .aload_n 1), (6, .invokevirtual 354), (9, .if_icmp .le 5), (12, .iconst (-1)), (13, .ireturn), (14, .iload_n 2), (15, .ifCond .ge 9), (18, .aload_n 0), (19, .iconst 5), (20, .invokevirtual 101), (23, .ireturn), (24, .aload_n 1), (25, .iload_n 2), (26, .iload_n 3), (27, .invokevirtual 315), (30, .iload_n 2), (31, .ireturn)]
set_option maxRecDepth 100000 in
def zm_X9_madeAnew : zi_R := (9, ⟨"WaxWings", "madeAnew", "(LWaxWings$Row;II)I"⟩, prog_1_method_51_code, 4, (some .int), false, 3, 1, 0, zc_X9_madeAnew, [])
set_option maxRecDepth 100000 in
def zc_X9_refuse : List (Nat × Instr) := [(0, .aload_n 0), (1, .iload_n 1), (2, .putfield 343), (5, .iload_n 1), (6, .iconst 1), (7, .if_icmp .lt 18), (10, .iload_n 1), (11, .iconst 5), (12, .if_icmp .gt 13), (15, .aload_n 0), (16, .getfield 75), (19, .iload_n 1), (20, .dup2), (21, .iaload), (22, .iconst 1), (23, .iadd), (24, .iastore), (25, .bipush (-3)), (27, .ireturn)]
set_option maxRecDepth 100000 in
def zm_X9_refuse : zi_R := (9, ⟨"WaxWings", "refuse", "(I)I"⟩, prog_1_method_52_code, 2, (some .int), false, 1, 1, 0, zc_X9_refuse, [])
set_option maxRecDepth 100000 in
def zc_X9_tell : List (Nat × Instr) := [(0, .lload_n 1), (1, .lstore 5), (3, .lload_n 3), (4, .lstore 7), (6, .iconst 0), (7, .istore 9), (9, .iload 9), (11, .bipush 100), (13, .if_icmp .ge 31), (16, .lload 7), (18, .lconst 0), (19, .lcmp), (20, .ifCond .eq 24), (23, .lload 5), (25, .lload 7), (27, .lrem), (28, .lstore 10), (30, .lload 7), (32, .lstore 5), (34, .lload 10), (36, .lstore 7), (38, .iinc 9 1), (41, .goto (-32)), (44, .lload 5), (46, .lconst 0), (47, .lcmp), (48, .ifCond .gt 6), (51, .lconst 1), (52, .lstore 5), (54, .aload_n 0), (55, .lload_n 1), (56, .lload 5), (58, .ldiv), (59, .putfield 337), (62, .aload_n 0), (63, .lload_n 3), (64, .lload 5), (66, .ldiv), (67, .putfield 82), (70, .return_)]
set_option maxRecDepth 100000 in
def zm_X9_tell : zi_R := (9, ⟨"WaxWings", "tell", "(JJ)V"⟩, prog_1_method_53_code, 12, none, false, 2, 0, 0, zc_X9_tell, [(9, [0, 1, 3, 5, 7, 9]), (44, [0, 1, 3, 5]), (54, [0, 1, 3, 5])])
set_option maxRecDepth 100000 in
def zc_X9_isBeat : List (Nat × Instr) := [(0, .iload_n 0), (1, .ifCond .lt 12), (4, .iload_n 0), (5, .iconst 2), (6, .if_icmp .gt 7), (9, .iconst 1), (10, .goto 4), (13, .iconst 0), (14, .ireturn)]
set_option maxRecDepth 100000 in
def zm_X9_isBeat : zi_R := (9, ⟨"WaxWings", "isBeat", "(I)Z"⟩, prog_1_method_54_code, 1, (some .boolean), true, 1, 4, 0, zc_X9_isBeat, [])
set_option maxRecDepth 100000 in
def zc_X9_isOfKind : List (Nat × Instr) := [(0, .iload_n 0), (1, .iload_n 1), (2, .if_icmp .eq 23), (5, .iload_n 1), (6, .iconst 1), (7, .if_icmp .ne 8), (10, .iload_n 0), (11, .iconst 4), (12, .if_icmp .eq 13), (15, .iload_n 1), (16, .iconst 3), (17, .if_icmp .ne 12), (20, .iload_n 0), (21, .iconst 5), (22, .if_icmp .ne 7), (25, .iconst 1), (26, .goto 4), (29, .iconst 0), (30, .ireturn)]
set_option maxRecDepth 100000 in
def zm_X9_isOfKind : zi_R := (9, ⟨"WaxWings", "isOfKind", "(II)Z"⟩, prog_1_method_55_code, 2, (some .boolean), true, 2, 4, 0, zc_X9_isOfKind, [(15, [0, 1])])
set_option maxRecDepth 100000 in
def zc_X9_holdsBeatsAlone : List (Nat × Instr) := [(0, .iconst 0), (1, .istore_n 1), (2, .iload_n 1), (3, .aload_n 0), (4, .invokevirtual 131), (7, .if_icmp .ge 22), (10, .aload_n 0), (11, .iload_n 1), (12, .invokevirtual 109), (15, .invokestatic 203), (18, .ifCond .ne 5), (21, .iconst 0), (22, .ireturn), (23, .iinc 1 1), (26, .goto (-24)), (29, .iconst 1), (30, .ireturn)]
set_option maxRecDepth 100000 in
def zm_X9_holdsBeatsAlone : zi_R := (9, ⟨"WaxWings", "holdsBeatsAlone", "(LWaxWings$Row;)Z"⟩, prog_1_method_56_code, 2, (some .boolean), true, 1, 4, 0, zc_X9_holdsBeatsAlone, [(2, [0, 1])])
set_option maxRecDepth 100000 in
def zc_X9_perform : List (Nat × Instr) := [(0, .aload_n 0), (1, .getfield 41), (4, .aload_n 2), (5, .getfield 187), (8, .iload_n 3), (9, .aload_n 0), (10, .getfield 71), (13, .invokevirtual 223), (16, .istore 4), (18, .iload 4), (20, .iconst (-1)), (21, .if_icmp .ne 6), (24, .bipush (-4)), (26, .ireturn), (27, .aload_n 0), (28, .getfield 28), (31, .iload_n 1), (32, .aload_n 2), (33, .getfield 187), (36, .invokevirtual 357), (39, .ifCond .ne 6), (42, .bipush (-2)), (44, .ireturn), (45, .aload_n 2), (46, .getfield 187), (49, .aload_n 0), (50, .getfield 71), (53, .invokevirtual 242), (56, .iload 4), (58, .ireturn)]
set_option maxRecDepth 100000 in
def zm_X9_perform : zi_R := (9, ⟨"WaxWings", "perform", "(ILWaxWings$Bird;I)I"⟩, prog_1_method_57_code, 5, (some .int), false, 3, 1, 0, zc_X9_perform, [])
set_option maxRecDepth 100000 in
def zc_X9_openBeats : List (Nat × Instr) := [(0, .iconst 0), (1, .istore_n 2), (2, .iconst 0), (3, .istore_n 3), (4, .iload_n 3), (5, .iconst 2), (6, .if_icmp .gt 35), (9, .aload_n 0), (10, .getfield 41), (13, .aload_n 1), (14, .getfield 187), (17, .iload_n 3), (18, .aload_n 0), (19, .getfield 71), (22, .invokevirtual 223), (25, .iconst (-1)), (26, .if_icmp .eq 9), (29, .iload_n 2), (30, .iconst 1), (31, .iload_n 3), (32, .ishl), (33, .ior), (34, .istore_n 2), (35, .iinc 3 1), (38, .goto (-34)), (41, .iload_n 2), (42, .ireturn)]
set_option maxRecDepth 100000 in
def zm_X9_openBeats : zi_R := (9, ⟨"WaxWings", "openBeats", "(LWaxWings$Bird;)I"⟩, prog_1_method_58_code, 4, (some .int), false, 1, 1, 0, zc_X9_openBeats, [(4, [0, 1, 2, 3]), (35, [0, 1, 2, 3])])
set_option maxRecDepth 100000 in
def zc_X9_bitAt : List (Nat × Instr) := [(0, .iload_n 1), (1, .istore_n 2), (2, .iconst 0), (3, .istore_n 3), (4, .iload_n 3), (5, .bipush 31), (7, .if_icmp .ge 29), (10, .iload_n 0), (11, .iload_n 3), (12, .ishr), (13, .iconst 1), (14, .iand), (15, .ifCond .ne 6), (18, .goto 12), (21, .iload_n 2), (22, .ifCond .ne 5), (25, .iload_n 3), (26, .ireturn), (27, .iinc 2 (-1)), (30, .iinc 3 1), (33, .goto (-29)), (36, .iconst 0), (37, .ireturn)]
set_option maxRecDepth 100000 in
def zm_X9_bitAt : zi_R := (9, ⟨"WaxWings", "bitAt", "(II)I"⟩, prog_1_method_59_code, 4, (some .int), true, 2, 1, 0, zc_X9_bitAt, [(4, [0, 2, 3]), (30, [0, 2, 3])])
set_option maxRecDepth 100000 in
def zc_X9_setOut : List (Nat × Instr) := [(0, .aload_n 0), (1, .getfield 41), (4, .aload_n 1), (5, .aload_n 0), (6, .getfield 28), (9, .getfield 168), (12, .invokevirtual 171), (15, .aload_n 0), (16, .getfield 50), (19, .aload_n 1), (20, .getfield 187), (23, .invokevirtual 361), (26, .return_)]
set_option maxRecDepth 100000 in
def zm_X9_setOut : zi_R := (9, ⟨"WaxWings", "setOut", "(LWaxWings$Bird;)V"⟩, prog_1_method_60_code, 2, none, false, 1, 0, 0, zc_X9_setOut, [])
set_option maxRecDepth 100000 in
def zc_X9_hasWay : List (Nat × Instr) := [(0, .aload_n 0), (1, .getfield 50), (4, .aload_n 1), (5, .invokevirtual 361), (8, .aload_n 0), (9, .getfield 50), (12, .invokevirtual 249), (15, .ireturn)]
set_option maxRecDepth 100000 in
def zm_X9_hasWay : zi_R := (9, ⟨"WaxWings", "hasWay", "(LWaxWings$Spot;)Z"⟩, prog_1_method_61_code, 2, (some .boolean), false, 1, 4, 0, zc_X9_hasWay, [])
set_option maxRecDepth 100000 in
def zc_X9_loadsOf : List (Nat × Instr) := [(0, .iconst 1), (1, .istore_n 2), (2, .aload_n 1), (3, .ifnull 13), (6, .aload_n 1), (7, .getfield 187), (10, .getfield 216), (13, .ifCond .eq 5), (16, .iload_n 2), (17, .ireturn), (18, .aload_n 0), (19, .getfield 41), (22, .aload_n 1), (23, .aload_n 0), (24, .getfield 28), (27, .getfield 168), (30, .invokevirtual 171), (33, .iconst 1), (34, .istore_n 3), (35, .iload_n 3), (36, .iconst 3), (37, .if_icmp .gt 34), (40, .aload_n 0), (41, .getfield 41), (44, .iload_n 3), (45, .putfield 284), (48, .aload_n 0), (49, .aload_n 1), (50, .getfield 187), (53, .invokevirtual 273), (56, .ifCond .eq 9), (59, .iload_n 2), (60, .iconst 1), (61, .iload_n 3), (62, .ishl), (63, .ior), (64, .istore_n 2), (65, .iinc 3 1), (68, .goto (-33)), (71, .iload_n 2), (72, .ireturn)]
set_option maxRecDepth 100000 in
def zm_X9_loadsOf : zi_R := (9, ⟨"WaxWings", "loadsOf", "(LWaxWings$Bird;)I"⟩, prog_1_method_62_code, 4, (some .int), false, 1, 1, 0, zc_X9_loadsOf, [(35, [0, 1, 2, 3]), (65, [0, 1, 2, 3])])
set_option maxRecDepth 100000 in
def zc_X9_shareOf : List (Nat × Instr) := [(0, .iload_n 0), (1, .iconst 2), (2, .iconst 3), (3, .iload_n 1), (4, .isub), (5, .imul), (6, .ishr), (7, .iconst 3), (8, .iand), (9, .ireturn)]
set_option maxRecDepth 100000 in
def zm_X9_shareOf : zi_R := (9, ⟨"WaxWings", "shareOf", "(II)I"⟩, prog_1_method_63_code, 2, (some .int), true, 2, 1, 0, zc_X9_shareOf, [])
set_option maxRecDepth 100000 in
def zc_X9_carriersOf : List (Nat × Instr) := [(0, .iconst 0), (1, .istore_n 3), (2, .iconst 0), (3, .istore 4), (5, .iconst 0), (6, .istore 5), (8, .iload 5), (10, .iconst 4), (11, .if_icmp .ge 50), (14, .iload_n 1), (15, .iload 5), (17, .invokestatic 364), (20, .istore 6), (22, .aload_n 0), (23, .getfield 79), (26, .iload 5), (28, .iaload), (29, .iload 6), (31, .ishr), (32, .iconst 1), (33, .iand), (34, .ifCond .ne 6), (37, .bipush (-9)), (39, .ireturn), (40, .iload 4), (42, .iload 6), (44, .iadd), (45, .istore 4), (47, .iload 6), (49, .ifCond .le 6), (52, .iinc 3 1), (55, .iinc 5 1), (58, .goto (-50)), (61, .iload 4), (63, .iload_n 2), (64, .if_icmp .ne 7), (67, .iload_n 3), (68, .goto 5), (71, .bipush (-9)), (73, .ireturn)]
set_option maxRecDepth 100000 in
def zm_X9_carriersOf : zi_R := (9, ⟨"WaxWings", "carriersOf", "(II)I"⟩, prog_1_method_64_code, 7, (some .int), false, 2, 1, 0, zc_X9_carriersOf, [(8, [0, 1, 2, 3, 4, 5]), (55, [0, 1, 2, 3, 4, 5])])
set_option maxRecDepth 100000 in
def zc_X9_writeShares : List (Nat × Instr) := [(0, .aload_n 2), (1, .aload_n 0), (2, .getfield 28), (5, .getfield 150), (8, .iconst 0), (9, .invokevirtual 315), (12, .iconst 0), (13, .istore_n 3), (14, .iload_n 3), (15, .aload_n 0), (16, .getfield 28), (19, .getfield 150), (22, .if_icmp .ge 19), (25, .aload_n 2), (26, .iload_n 3), (27, .iload_n 1), (28, .iload_n 3), (29, .invokestatic 364), (32, .invokevirtual 116), (35, .iinc 3 1), (38, .goto (-24)), (41, .return_)]
set_option maxRecDepth 100000 in
def zm_X9_writeShares : zi_R := (9, ⟨"WaxWings", "writeShares", "(ILWaxWings$Row;)V"⟩, prog_1_method_65_code, 4, none, false, 2, 0, 0, zc_X9_writeShares, [(14, [0, 1, 2, 3])])
set_option maxRecDepth 100000 in
def zc_X9_hasBoat : List (Nat × Instr) := [(0, .iload_n 1), (1, .aload_n 0), (2, .getfield 21), (5, .getfield 184), (8, .iconst 1), (9, .isub), (10, .iload_n 2), (11, .isub), (12, .ishr), (13, .iconst 1), (14, .iand), (15, .iconst 1), (16, .if_icmp .ne 7), (19, .iconst 1), (20, .goto 4), (23, .iconst 0), (24, .ireturn)]
set_option maxRecDepth 100000 in
def zm_X9_hasBoat : zi_R := (9, ⟨"WaxWings", "hasBoat", "(II)Z"⟩, prog_1_method_66_code, 3, (some .boolean), false, 2, 4, 0, zc_X9_hasBoat, [])
set_option maxRecDepth 100000 in
def zc_X9_farthestFrom : List (Nat × Instr) := [(0, .iconst 0), (1, .istore_n 2), (2, .iconst 0), (3, .istore_n 3), (4, .iload_n 3), (5, .aload_n 0), (6, .getfield 21), (9, .getfield 184), (12, .if_icmp .ge 65), (15, .bipush 7), (17, .istore 4), (19, .iconst 0), (20, .istore 5), (22, .iload 5), (24, .aload_n 0), (25, .getfield 21), (28, .getfield 184), (31, .if_icmp .ge 33), (34, .aload_n 0), (35, .iload_n 1), (36, .iload 5), (38, .invokevirtual 318), (41, .ifCond .eq 17), (44, .iload 4), (46, .iload 5), (48, .iload_n 3), (49, .isub), (50, .invokestatic 367), (53, .invokestatic 370), (56, .istore 4), (58, .iinc 5 1), (61, .goto (-39)), (64, .iload_n 2), (65, .iload 4), (67, .invokestatic 279), (70, .istore_n 2), (71, .iinc 3 1), (74, .goto (-70)), (77, .iload_n 2), (78, .ireturn)]
set_option maxRecDepth 100000 in
def zm_X9_farthestFrom : zi_R := (9, ⟨"WaxWings", "farthestFrom", "(I)I"⟩, prog_1_method_67_code, 6, (some .int), false, 1, 1, 0, zc_X9_farthestFrom, [(4, [0, 1, 2, 3]), (22, [0, 1, 2, 3, 4, 5]), (58, [0, 1, 2, 3, 4, 5])])
set_option maxRecDepth 100000 in
def zc_X9_tally : List (Nat × Instr) := [(0, .iload_n 1), (1, .tableswitch 111 0 7 #[47, 55, 63, 71, 79, 87, 95, 103]), (48, .aload_n 0), (49, .getfield 28), (52, .getfield 150), (55, .ireturn), (56, .aload_n 0), (57, .getfield 21), (60, .getfield 184), (63, .ireturn), (64, .aload_n 0), (65, .getfield 21), (68, .getfield 178), (71, .ireturn), (72, .aload_n 0), (73, .getfield 28), (76, .getfield 168), (79, .ireturn), (80, .aload_n 0), (81, .getfield 28), (84, .getfield 210), (87, .ireturn), (88, .aload_n 0), (89, .getfield 28), (92, .invokevirtual 373), (95, .ireturn), (96, .aload_n 0), (97, .getfield 11), (100, .invokestatic 376), (103, .ireturn), (104, .aload_n 0), (105, .getfield 15), (108, .invokestatic 376), (111, .ireturn), (112, .aload_n 0), (113, .invokevirtual 380), (116, .ireturn)]
set_option maxRecDepth 100000 in
def zm_X9_tally : zi_R := (9, ⟨"WaxWings", "tally", "(I)I"⟩, prog_1_method_68_code, 2, (some .int), false, 1, 1, 0, zc_X9_tally, [(48, [0]), (56, [0]), (64, [0]), (72, [0]), (80, [0]), (88, [0]), (96, [0]), (104, [0]), (112, [0])])
set_option maxRecDepth 100000 in
def zc_X9_thereOf : List (Nat × Instr) := [(0, .iconst 0), (1, .istore_n 1), (2, .iconst 0), (3, .istore_n 2), (4, .iload_n 2), (5, .aload_n 0), (6, .arraylength), (7, .if_icmp .ge 21), (10, .aload_n 0), (11, .iload_n 2), (12, .aaload), (13, .invokevirtual 97), (16, .ifCond .eq 6), (19, .iinc 1 1), (22, .iinc 2 1), (25, .goto (-21)), (28, .iload_n 1), (29, .ireturn)]
set_option maxRecDepth 100000 in
def zm_X9_thereOf : zi_R := (9, ⟨"WaxWings", "thereOf", "([LWaxWings$Row;)I"⟩, prog_1_method_69_code, 3, (some .int), true, 1, 1, 0, zc_X9_thereOf, [(4, [0, 1, 2]), (22, [0, 1, 2])])
set_option maxRecDepth 100000 in
def zc_X9_keptSkies : List (Nat × Instr) := [(0, .iconst 0), (1, .istore_n 1), (2, .iconst 0), (3, .istore_n 2), (4, .iload_n 2), (5, .iconst 3), (6, .if_icmp .ge 24), (9, .aload_n 0), (10, .getfield 32), (13, .iload_n 2), (14, .aaload), (15, .getfield 235), (18, .ifCond .eq 6), (21, .iinc 1 1), (24, .iinc 2 1), (27, .goto (-23)), (30, .iload_n 1), (31, .ireturn)]
set_option maxRecDepth 100000 in
def zm_X9_keptSkies : zi_R := (9, ⟨"WaxWings", "keptSkies", "()I"⟩, prog_1_method_70_code, 3, (some .int), false, 0, 1, 0, zc_X9_keptSkies, [(4, [0, 1, 2]), (24, [0, 1, 2])])
set_option maxRecDepth 100000 in
def zc_X10_in : List (Nat × Instr) := [(0, .lload_n 0), (1, .lload_n 2), (2, .lcmp), (3, .ifCond .lt 14), (6, .lload_n 0), (7, .lload 4), (9, .lcmp), (10, .ifCond .gt 7), (13, .iconst 1), (14, .goto 4), (17, .iconst 0), (18, .ireturn)]
set_option maxRecDepth 100000 in
def zm_X10_in : zi_R := (10, ⟨"WaxWingsModel", "in", "(JJJ)Z"⟩, prog_12_method_2_code, 6, (some .boolean), true, 3, 4, 0, zc_X10_in, [])
set_option maxRecDepth 100000 in
def zc_X10_more : List (Nat × Instr) := [(0, .iload_n 0), (1, .iload_n 1), (2, .if_icmp .le 7), (5, .iload_n 0), (6, .goto 4), (9, .iload_n 1), (10, .ireturn)]
set_option maxRecDepth 100000 in
def zm_X10_more : zi_R := (10, ⟨"WaxWingsModel", "more", "(II)I"⟩, prog_12_method_3_code, 2, (some .int), true, 2, 1, 0, zc_X10_more, [])
set_option maxRecDepth 100000 in
def zc_X10_finds : List (Nat × Instr) := [(0, .aload_n 0), (1, .iload_n 1), (2, .putfield 76), (5, .aload_n 0), (6, .getfield 32), (9, .iload_n 1), (10, .dup2), (11, .iaload), (12, .iconst 1), (13, .iadd), (14, .iastore), (15, .bipush (-3)), (17, .ireturn)]
set_option maxRecDepth 100000 in
def zm_X10_finds : zi_R := (10, ⟨"WaxWingsModel", "finds", "(I)I"⟩, prog_12_method_5_code, 2, (some .int), false, 1, 1, 0, zc_X10_finds, [])
set_option maxRecDepth 100000 in
def zc_X10_tells : List (Nat × Instr) := [(0, .aload_n 0), (1, .iload_n 1), (2, .putfield 80), (5, .iconst 1), (6, .ireturn)]
set_option maxRecDepth 100000 in
def zm_X10_tells : zi_R := (10, ⟨"WaxWingsModel", "tells", "(I)I"⟩, prog_12_method_6_code, 2, (some .int), false, 1, 1, 0, zc_X10_tells, [])
set_option maxRecDepth 100000 in
def zc_X10_isRow : List (Nat × Instr) := [(0, .iload_n 0), (1, .i2l), (2, .lconst 0), (3, .ldc2_w 83), (6, .invokestatic 85), (9, .ireturn)]
set_option maxRecDepth 100000 in
def zm_X10_isRow : zi_R := (10, ⟨"WaxWingsModel", "isRow", "(I)Z"⟩, prog_12_method_7_code, 1, (some .boolean), true, 1, 4, 0, zc_X10_isRow, [])
set_option maxRecDepth 100000 in
def zc_X10_isText : List (Nat × Instr) := [(0, .iload_n 0), (1, .i2l), (2, .lconst 0), (3, .ldc2_w 89), (6, .invokestatic 85), (9, .ireturn)]
set_option maxRecDepth 100000 in
def zm_X10_isText : zi_R := (10, ⟨"WaxWingsModel", "isText", "(I)Z"⟩, prog_12_method_8_code, 1, (some .boolean), true, 1, 4, 0, zc_X10_isText, [])
set_option maxRecDepth 100000 in
def zc_X10_isFlyer : List (Nat × Instr) := [(0, .iload_n 1), (1, .i2l), (2, .lconst 0), (3, .aload_n 0), (4, .getfield 22), (7, .iconst 3), (8, .iaload), (9, .iconst 1), (10, .isub), (11, .i2l), (12, .invokestatic 85), (15, .ireturn)]
set_option maxRecDepth 100000 in
def zm_X10_isFlyer : zi_R := (10, ⟨"WaxWingsModel", "isFlyer", "(I)Z"⟩, prog_12_method_9_code, 2, (some .boolean), false, 1, 4, 0, zc_X10_isFlyer, [])
set_option maxRecDepth 100000 in
def zc_X10_row : List (Nat × Instr) := [(0, .iload_n 1), (1, .invokestatic 91), (4, .ifCond .eq 9), (7, .iload_n 2), (8, .bipush 40), (10, .if_icmp .le 5), (13, .iconst (-1)), (14, .ireturn), (15, .iload_n 2), (16, .ifCond .ge 9), (19, .aload_n 0), (20, .iconst 5), (21, .invokevirtual 95), (24, .ireturn), (25, .aload_n 0), (26, .getfield 7), (29, .iload_n 1), (30, .iload_n 2), (31, .iastore), (32, .iconst 0), (33, .istore_n 3), (34, .iload_n 3), (35, .iload_n 2), (36, .if_icmp .ge 21), (39, .aload_n 0), (40, .getfield 13), (43, .bipush 40), (45, .iload_n 1), (46, .imul), (47, .iload_n 3), (48, .iadd), (49, .iconst 0), (50, .iastore), (51, .iinc 3 1), (54, .goto (-20)), (57, .iload_n 2), (58, .ireturn)]
set_option maxRecDepth 100000 in
def zm_X10_row : zi_R := (10, ⟨"WaxWingsModel", "row", "(II)I"⟩, prog_12_method_10_code, 4, (some .int), false, 2, 1, 0, zc_X10_row, [(34, [0, 1, 2, 3])])
set_option maxRecDepth 100000 in
def zc_X10_lay : List (Nat × Instr) := [(0, .iload_n 1), (1, .invokestatic 91), (4, .ifCond .ne 5), (7, .iconst (-1)), (8, .ireturn), (9, .aload_n 0), (10, .getfield 7), (13, .iload_n 1), (14, .iaload), (15, .ifCond .ge 9), (18, .aload_n 0), (19, .iconst 1), (20, .invokevirtual 95), (23, .ireturn), (24, .iload_n 2), (25, .i2l), (26, .lconst 0), (27, .aload_n 0), (28, .getfield 7), (31, .iload_n 1), (32, .iaload), (33, .iconst 1), (34, .isub), (35, .i2l), (36, .invokestatic 85), (39, .ifCond .ne 9), (42, .aload_n 0), (43, .iconst 2), (44, .invokevirtual 95), (47, .ireturn), (48, .aload_n 0), (49, .getfield 13), (52, .bipush 40), (54, .iload_n 1), (55, .imul), (56, .iload_n 2), (57, .iadd), (58, .iaload), (59, .istore 4), (61, .aload_n 0), (62, .getfield 13), (65, .bipush 40), (67, .iload_n 1), (68, .imul), (69, .iload_n 2), (70, .iadd), (71, .iload_n 3), (72, .iastore), (73, .aload_n 0), (74, .iload 4), (76, .invokevirtual 99), (79, .ireturn)]
set_option maxRecDepth 100000 in
def zm_X10_lay : zi_R := (10, ⟨"WaxWingsModel", "lay", "(III)I"⟩, prog_12_method_11_code, 5, (some .int), false, 3, 1, 0, zc_X10_lay, [])
set_option maxRecDepth 100000 in
def zc_X10_at : List (Nat × Instr) := [(0, .iload_n 1), (1, .invokestatic 91), (4, .ifCond .ne 5), (7, .iconst (-1)), (8, .ireturn), (9, .aload_n 0), (10, .getfield 7), (13, .iload_n 1), (14, .iaload), (15, .ifCond .ge 9), (18, .aload_n 0), (19, .iconst 1), (20, .invokevirtual 95), (23, .ireturn), (24, .iload_n 2), (25, .i2l), (26, .lconst 0), (27, .aload_n 0), (28, .getfield 7), (31, .iload_n 1), (32, .iaload), (33, .iconst 1), (34, .isub), (35, .i2l), (36, .invokestatic 85), (39, .ifCond .eq 21), (42, .aload_n 0), (43, .aload_n 0), (44, .getfield 13), (47, .bipush 40), (49, .iload_n 1), (50, .imul), (51, .iload_n 2), (52, .iadd), (53, .iaload), (54, .invokevirtual 99), (57, .goto 8), (60, .aload_n 0), (61, .iconst 2), (62, .invokevirtual 95), (65, .ireturn)]
set_option maxRecDepth 100000 in
def zm_X10_at : zi_R := (10, ⟨"WaxWingsModel", "at", "(II)I"⟩, prog_12_method_12_code, 3, (some .int), false, 2, 1, 0, zc_X10_at, [])
end
section
/-! THE METHODS AS RECORDS: their instructions, as decode gives them (checked below); their cuts -/
set_option maxRecDepth 100000 in
def zc_X10_tear : List (Nat × Instr) := [(0, .iload_n 1), (1, .invokestatic 91), (4, .ifCond .ne 5), (7, .iconst (-1)), (8, .ireturn), (9, .aload_n 0), (10, .getfield 7), (13, .iload_n 1), (14, .iaload), (15, .ifCond .ge 9), (18, .aload_n 0), (19, .iconst 1), (20, .invokevirtual 95), (23, .ireturn), (24, .aload_n 0), (25, .getfield 7), (28, .iload_n 1), (29, .iconst (-1)), (30, .iastore), (31, .iconst 1), (32, .ireturn)]
set_option maxRecDepth 100000 in
def zm_X10_tear : zi_R := (10, ⟨"WaxWingsModel", "tear", "(I)I"⟩, prog_12_method_13_code, 2, (some .int), false, 1, 1, 0, zc_X10_tear, [])
set_option maxRecDepth 100000 in
def zc_X10_copy : List (Nat × Instr) := [(0, .iload_n 1), (1, .invokestatic 91), (4, .ifCond .eq 10), (7, .iload_n 3), (8, .invokestatic 91), (11, .ifCond .ne 5), (14, .iconst (-1)), (15, .ireturn), (16, .iload 5), (18, .ifCond .ge 9), (21, .aload_n 0), (22, .iconst 5), (23, .invokevirtual 95), (26, .ireturn), (27, .aload_n 0), (28, .getfield 7), (31, .iload_n 1), (32, .iaload), (33, .ifCond .lt 12), (36, .aload_n 0), (37, .getfield 7), (40, .iload_n 3), (41, .iaload), (42, .ifCond .ge 9), (45, .aload_n 0), (46, .iconst 1), (47, .invokevirtual 95), (50, .ireturn), (51, .iload_n 2), (52, .ifCond .lt 43), (55, .iload 4), (57, .ifCond .lt 38), (60, .iload_n 2), (61, .i2l), (62, .iload 5), (64, .i2l), (65, .ladd), (66, .aload_n 0), (67, .getfield 7), (70, .iload_n 1), (71, .iaload), (72, .i2l), (73, .lcmp), (74, .ifCond .gt 21), (77, .iload 4), (79, .i2l), (80, .iload 5), (82, .i2l), (83, .ladd), (84, .aload_n 0), (85, .getfield 7), (88, .iload_n 3), (89, .iaload), (90, .i2l), (91, .lcmp), (92, .ifCond .le 9), (95, .aload_n 0), (96, .iconst 2), (97, .invokevirtual 95), (100, .ireturn), (101, .iconst 0), (102, .istore 6), (104, .iload 6), (106, .iload 5), (108, .if_icmp .ge 30), (111, .aload_n 0), (112, .getfield 35), (115, .iload 6), (117, .aload_n 0), (118, .getfield 13), (121, .bipush 40), (123, .iload_n 1), (124, .imul), (125, .iload_n 2), (126, .iadd), (127, .iload 6), (129, .iadd), (130, .iaload), (131, .iastore), (132, .iinc 6 1), (135, .goto (-31)), (138, .iconst 0), (139, .istore 6), (141, .iload 6), (143, .iload 5), (145, .if_icmp .ge 31), (148, .aload_n 0), (149, .getfield 13), (152, .bipush 40), (154, .iload_n 3), (155, .imul), (156, .iload 4), (158, .iadd), (159, .iload 6), (161, .iadd), (162, .aload_n 0), (163, .getfield 35), (166, .iload 6), (168, .iaload), (169, .iastore), (170, .iinc 6 1), (173, .goto (-32)), (176, .iconst 1), (177, .ireturn)]
set_option maxRecDepth 100000 in
def zm_X10_copy : zi_R := (10, ⟨"WaxWingsModel", "copy", "(IIIII)I"⟩, prog_12_method_14_code, 7, (some .int), false, 5, 1, 0, zc_X10_copy, [(45, [0]), (95, [0]), (104, [0, 1, 2, 3, 4, 5, 6]), (141, [0, 3, 4, 5, 6])])
set_option maxRecDepth 100000 in
def zc_X10_mean : List (Nat × Instr) := [(0, .iload_n 1), (1, .invokestatic 91), (4, .ifCond .ne 5), (7, .iconst (-1)), (8, .ireturn), (9, .aload_n 0), (10, .getfield 7), (13, .iload_n 1), (14, .iaload), (15, .ifCond .ge 9), (18, .aload_n 0), (19, .iconst 1), (20, .invokevirtual 95), (23, .ireturn), (24, .aload_n 0), (25, .getfield 7), (28, .iload_n 1), (29, .iaload), (30, .ifCond .ne 9), (33, .aload_n 0), (34, .iconst 4), (35, .invokevirtual 95), (38, .ireturn), (39, .lconst 0), (40, .lstore_n 2), (41, .iconst 0), (42, .istore 4), (44, .iload 4), (46, .aload_n 0), (47, .getfield 7), (50, .iload_n 1), (51, .iaload), (52, .if_icmp .ge 25), (55, .lload_n 2), (56, .aload_n 0), (57, .getfield 13), (60, .bipush 40), (62, .iload_n 1), (63, .imul), (64, .iload 4), (66, .iadd), (67, .iaload), (68, .i2l), (69, .ladd), (70, .lstore_n 2), (71, .iinc 4 1), (74, .goto (-30)), (77, .aload_n 0), (78, .lload_n 2), (79, .aload_n 0), (80, .getfield 7), (83, .iload_n 1), (84, .iaload), (85, .i2l), (86, .ldiv), (87, .l2i), (88, .invokevirtual 99), (91, .ireturn)]
set_option maxRecDepth 100000 in
def zm_X10_mean : zi_R := (10, ⟨"WaxWingsModel", "mean", "(I)I"⟩, prog_12_method_15_code, 5, (some .int), false, 1, 1, 0, zc_X10_mean, [(44, [0, 1, 2, 4])])
set_option maxRecDepth 100000 in
def zc_X10_text : List (Nat × Instr) := [(0, .iload_n 1), (1, .invokestatic 102), (4, .ifCond .eq 9), (7, .iload_n 2), (8, .bipush 80), (10, .if_icmp .le 5), (13, .iconst (-1)), (14, .ireturn), (15, .iload_n 2), (16, .ifCond .ge 9), (19, .aload_n 0), (20, .iconst 5), (21, .invokevirtual 95), (24, .ireturn), (25, .aload_n 0), (26, .getfield 16), (29, .iload_n 1), (30, .iload_n 2), (31, .iastore), (32, .iconst 0), (33, .istore_n 3), (34, .iload_n 3), (35, .iload_n 2), (36, .if_icmp .ge 22), (39, .aload_n 0), (40, .getfield 19), (43, .bipush 80), (45, .iload_n 1), (46, .imul), (47, .iload_n 3), (48, .iadd), (49, .bipush 32), (51, .iastore), (52, .iinc 3 1), (55, .goto (-21)), (58, .iload_n 2), (59, .ireturn)]
set_option maxRecDepth 100000 in
def zm_X10_text : zi_R := (10, ⟨"WaxWingsModel", "text", "(II)I"⟩, prog_12_method_16_code, 4, (some .int), false, 2, 1, 0, zc_X10_text, [(34, [0, 1, 2, 3])])
set_option maxRecDepth 100000 in
def zc_X10_put : List (Nat × Instr) := [(0, .iload_n 1), (1, .invokestatic 102), (4, .ifCond .ne 5), (7, .iconst (-1)), (8, .ireturn), (9, .aload_n 0), (10, .getfield 16), (13, .iload_n 1), (14, .iaload), (15, .ifCond .ge 9), (18, .aload_n 0), (19, .iconst 1), (20, .invokevirtual 95), (23, .ireturn), (24, .iload_n 2), (25, .i2l), (26, .lconst 0), (27, .aload_n 0), (28, .getfield 16), (31, .iload_n 1), (32, .iaload), (33, .iconst 1), (34, .isub), (35, .i2l), (36, .invokestatic 85), (39, .ifCond .ne 9), (42, .aload_n 0), (43, .iconst 2), (44, .invokevirtual 95), (47, .ireturn), (48, .aload_n 0), (49, .getfield 19), (52, .bipush 80), (54, .iload_n 1), (55, .imul), (56, .iload_n 2), (57, .iadd), (58, .iaload), (59, .istore 4), (61, .aload_n 0), (62, .getfield 19), (65, .bipush 80), (67, .iload_n 1), (68, .imul), (69, .iload_n 2), (70, .iadd), (71, .iload_n 3), (72, .i2b), (73, .iastore), (74, .iload 4), (76, .sipush 1000), (79, .iadd), (80, .ireturn)]
set_option maxRecDepth 100000 in
def zm_X10_put : zi_R := (10, ⟨"WaxWingsModel", "put", "(III)I"⟩, prog_12_method_17_code, 5, (some .int), false, 3, 1, 0, zc_X10_put, [])
set_option maxRecDepth 100000 in
def zc_X10_sign : List (Nat × Instr) := [(0, .aload_n 0), (1, .getfield 105), (4, .aload_n 0), (5, .getfield 108), (8, .if_icmp .ge 20), (11, .aload_n 0), (12, .getfield 19), (15, .aload_n 0), (16, .getfield 111), (19, .aload_n 0), (20, .getfield 105), (23, .iadd), (24, .iaload), (25, .goto 4), (28, .iconst (-1)), (29, .ireturn)]
set_option maxRecDepth 100000 in
def zm_X10_sign : zi_R := (10, ⟨"WaxWingsModel", "sign", "()I"⟩, prog_12_method_18_code, 1, (some .int), false, 0, 1, 0, zc_X10_sign, [])
set_option maxRecDepth 100000 in
def zc_X10_isRest : List (Nat × Instr) := [(0, .iconst 1), (1, .istore_n 1), (2, .aload_n 0), (3, .getfield 105), (6, .istore_n 2), (7, .iload_n 2), (8, .aload_n 0), (9, .getfield 108), (12, .if_icmp .ge 35), (15, .iload_n 1), (16, .ifCond .eq 23), (19, .aload_n 0), (20, .getfield 19), (23, .aload_n 0), (24, .getfield 111), (27, .iload_n 2), (28, .iadd), (29, .iaload), (30, .bipush 32), (32, .if_icmp .ne 7), (35, .iconst 1), (36, .goto 4), (39, .iconst 0), (40, .istore_n 1), (41, .iinc 2 1), (44, .goto (-37)), (47, .iload_n 1), (48, .ireturn)]
set_option maxRecDepth 100000 in
def zm_X10_isRest : zi_R := (10, ⟨"WaxWingsModel", "isRest", "()Z"⟩, prog_12_method_19_code, 3, (some .boolean), false, 0, 4, 0, zc_X10_isRest, [(7, [0, 1, 2]), (39, [0, 2]), (40, [0, 2])])
set_option maxRecDepth 100000 in
def zc_X10_airOf : List (Nat × Instr) := [(0, .iload_n 0), (1, .bipush 46), (3, .if_icmp .ne 7), (6, .iconst 0), (7, .goto 25), (10, .iload_n 0), (11, .bipush 99), (13, .if_icmp .ne 7), (16, .iconst 1), (17, .goto 15), (20, .iload_n 0), (21, .bipush 115), (23, .if_icmp .ne 7), (26, .iconst 2), (27, .goto 5), (30, .bipush (-9)), (32, .istore_n 1), (33, .iload_n 0), (34, .bipush 103), (36, .if_icmp .ne 7), (39, .iconst 3), (40, .goto 24), (43, .iload_n 0), (44, .bipush 62), (46, .if_icmp .ne 7), (49, .iconst 4), (50, .goto 14), (53, .iload_n 0), (54, .bipush 35), (56, .if_icmp .ne 7), (59, .iconst 5), (60, .goto 4), (63, .iload_n 1), (64, .ireturn)]
set_option maxRecDepth 100000 in
def zm_X10_airOf : zi_R := (10, ⟨"WaxWingsModel", "airOf", "(I)I"⟩, prog_12_method_20_code, 2, (some .int), true, 1, 1, 0, zc_X10_airOf, [(32, [0])])
set_option maxRecDepth 100000 in
def zc_X10_kindOf : List (Nat × Instr) := [(0, .iload_n 0), (1, .bipush 102), (3, .if_icmp .ne 7), (6, .iconst 0), (7, .goto 25), (10, .iload_n 0), (11, .bipush 111), (13, .if_icmp .ne 7), (16, .iconst 1), (17, .goto 15), (20, .iload_n 0), (21, .bipush 98), (23, .if_icmp .ne 7), (26, .iconst 2), (27, .goto 5), (30, .bipush (-9)), (32, .istore_n 1), (33, .iload_n 0), (34, .bipush 108), (36, .if_icmp .ne 7), (39, .iconst 3), (40, .goto 24), (43, .iload_n 0), (44, .bipush 110), (46, .if_icmp .ne 7), (49, .iconst 4), (50, .goto 14), (53, .iload_n 0), (54, .bipush 97), (56, .if_icmp .ne 7), (59, .iconst 5), (60, .goto 4), (63, .iload_n 1), (64, .ireturn)]
set_option maxRecDepth 100000 in
def zm_X10_kindOf : zi_R := (10, ⟨"WaxWingsModel", "kindOf", "(I)I"⟩, prog_12_method_21_code, 2, (some .int), true, 1, 1, 0, zc_X10_kindOf, [(32, [0])])
set_option maxRecDepth 100000 in
def zc_X10_isFigure : List (Nat × Instr) := [(0, .aload_n 0), (1, .invokevirtual 114), (4, .i2l), (5, .ldc2_w 118), (8, .ldc2_w 120), (11, .invokestatic 85), (14, .ireturn)]
set_option maxRecDepth 100000 in
def zm_X10_isFigure : zi_R := (10, ⟨"WaxWingsModel", "isFigure", "()Z"⟩, prog_12_method_22_code, 1, (some .boolean), false, 0, 4, 0, zc_X10_isFigure, [])
set_option maxRecDepth 100000 in
def zc_X10_readsAir : List (Nat × Instr) := [(0, .iconst 1), (1, .istore_n 1), (2, .iload_n 1), (3, .ifCond .eq 202), (6, .aload_n 0), (7, .getfield 38), (10, .iconst 1), (11, .iaload), (12, .istore_n 2), (13, .iconst 0), (14, .istore_n 3), (15, .aload_n 0), (16, .invokevirtual 114), (19, .invokestatic 122), (22, .bipush (-9)), (24, .if_icmp .eq 61), (27, .iload_n 3), (28, .bipush 7), (30, .if_icmp .eq 17), (33, .iload_n 2), (34, .ifCond .le 15), (37, .iload_n 3), (38, .aload_n 0), (39, .getfield 38), (42, .iconst 0), (43, .iaload), (44, .if_icmp .ne 5), (47, .iconst 0), (48, .ireturn), (49, .aload_n 0), (50, .getfield 38), (53, .iconst 5), (54, .bipush 7), (56, .iload_n 2), (57, .imul), (58, .iadd), (59, .iload_n 3), (60, .iadd), (61, .aload_n 0), (62, .invokevirtual 114), (65, .invokestatic 122), (68, .iastore), (69, .iinc 3 1), (72, .aload_n 0), (73, .dup), (74, .getfield 105), (77, .iconst 1), (78, .iadd), (79, .putfield 105), (82, .goto (-67)), (85, .iload_n 2), (86, .ifCond .ne 16), (89, .iload_n 3), (90, .iconst 1), (91, .if_icmp .le 7), (94, .iconst 1), (95, .goto 22), (98, .iconst 0), (99, .goto 18), (102, .iload_n 3), (103, .aload_n 0), (104, .getfield 38), (107, .iconst 0), (108, .iaload), (109, .if_icmp .ne 7), (112, .iconst 1), (113, .goto 4), (116, .iconst 0), (117, .istore 4), (119, .iload 4), (121, .ifCond .eq 21), (124, .aload_n 0), (125, .invokevirtual 114), (128, .bipush 47), (130, .if_icmp .eq 14), (133, .aload_n 0), (134, .invokevirtual 114), (137, .bipush 61), (139, .if_icmp .eq 5), (142, .iconst 0), (143, .ireturn), (144, .aload_n 0), (145, .getfield 38), (148, .iconst 0), (149, .iload_n 3), (150, .iastore), (151, .aload_n 0), (152, .getfield 38), (155, .iconst 1), (156, .dup2), (157, .iaload), (158, .iconst 1), (159, .iadd), (160, .iastore), (161, .aload_n 0), (162, .invokevirtual 114), (165, .bipush 47), (167, .if_icmp .ne 7), (170, .iconst 1), (171, .goto 4), (174, .iconst 0), (175, .istore_n 1), (176, .iload_n 1), (177, .ifCond .eq 15), (180, .aload_n 0), (181, .getfield 38), (184, .iconst 1), (185, .iaload), (186, .iconst 5), (187, .if_icmp .ne 5), (190, .iconst 0), (191, .ireturn), (192, .aload_n 0), (193, .dup), (194, .getfield 105), (197, .iconst 1), (198, .iadd), (199, .putfield 105), (202, .goto (-200)), (205, .iconst 1), (206, .ireturn)]
set_option maxRecDepth 100000 in
def zm_X10_readsAir : zi_R := (10, ⟨"WaxWingsModel", "readsAir", "()Z"⟩, prog_12_method_23_code, 5, (some .boolean), false, 0, 4, 0, zc_X10_readsAir, [(2, [0, 1]), (15, [0, 2, 3]), (49, [0, 2, 3]), (117, [0, 3]), (144, [0, 3]), (175, [0]), (192, [0, 1])])
set_option maxRecDepth 100000 in
def zc_X10_readsFlyer : List (Nat × Instr) := [(0, .bipush 40), (2, .bipush 9), (4, .aload_n 0), (5, .getfield 38), (8, .iconst 3), (9, .iaload), (10, .imul), (11, .iadd), (12, .istore_n 1), (13, .aload_n 0), (14, .invokevirtual 114), (17, .invokestatic 125), (20, .istore_n 2), (21, .iload_n 2), (22, .bipush (-9)), (24, .if_icmp .eq 13), (27, .aload_n 0), (28, .getfield 38), (31, .iconst 3), (32, .iaload), (33, .iconst 4), (34, .if_icmp .ne 5), (37, .iconst 0), (38, .ireturn), (39, .iconst 0), (40, .istore_n 3), (41, .iload_n 3), (42, .bipush 9), (44, .if_icmp .ge 18), (47, .aload_n 0), (48, .getfield 38), (51, .iload_n 1), (52, .iload_n 3), (53, .iadd), (54, .iconst 0), (55, .iastore), (56, .iinc 3 1), (59, .goto (-18)), (62, .aload_n 0), (63, .getfield 38), (66, .iload_n 1), (67, .iload_n 2), (68, .iastore), (69, .aload_n 0), (70, .dup), (71, .getfield 105), (74, .iconst 1), (75, .iadd), (76, .putfield 105), (79, .iconst 0), (80, .istore_n 3), (81, .iload_n 3), (82, .iconst 3), (83, .if_icmp .ge 99), (86, .aload_n 0), (87, .invokevirtual 128), (90, .ifCond .ne 5), (93, .iconst 0), (94, .ireturn), (95, .aload_n 0), (96, .invokevirtual 114), (99, .bipush 48), (101, .isub), (102, .istore 4), (104, .iload_n 3), (105, .iconst 2), (106, .if_icmp .ne 32), (109, .iload 4), (111, .aload_n 0), (112, .getfield 38), (115, .iconst 1), (116, .iaload), (117, .if_icmp .ge 19), (120, .aload_n 0), (121, .getfield 38), (124, .iconst 5), (125, .bipush 7), (127, .iload 4), (129, .imul), (130, .iadd), (131, .iaload), (132, .iconst 5), (133, .if_icmp .ne 5), (136, .iconst 0), (137, .ireturn), (138, .aload_n 0), (139, .getfield 38), (142, .iload_n 1), (143, .iload_n 3), (144, .ifCond .ne 8), (147, .bipush 8), (149, .goto 13), (152, .iload_n 3), (153, .iconst 1), (154, .if_icmp .ne 7), (157, .iconst 3), (158, .goto 4), (161, .iconst 2), (162, .iadd), (163, .iload 4), (165, .iastore), (166, .aload_n 0), (167, .dup), (168, .getfield 105), (171, .iconst 1), (172, .iadd), (173, .putfield 105), (176, .iinc 3 1), (179, .goto (-98)), (182, .aload_n 0), (183, .getfield 38), (186, .iconst 3), (187, .dup2), (188, .iaload), (189, .iconst 1), (190, .iadd), (191, .iastore), (192, .iconst 1), (193, .ireturn)]
set_option maxRecDepth 100000 in
def zm_X10_readsFlyer : zi_R := (10, ⟨"WaxWingsModel", "readsFlyer", "()Z"⟩, prog_12_method_24_code, 5, (some .boolean), false, 0, 4, 0, zc_X10_readsFlyer, [(41, [0, 1, 2, 3]), (81, [0, 1, 3]), (138, [0, 1, 3, 4]), (162, [0, 1, 3, 4])])
set_option maxRecDepth 100000 in
def zc_X10_reads : List (Nat × Instr) := [(0, .iconst 0), (1, .istore_n 1), (2, .iload_n 1), (3, .sipush 356), (6, .if_icmp .ge 16), (9, .aload_n 0), (10, .getfield 38), (13, .iload_n 1), (14, .iconst 0), (15, .iastore), (16, .iinc 1 1), (19, .goto (-17)), (22, .aload_n 0), (23, .invokevirtual 132), (26, .ifCond .eq 10), (29, .aload_n 0), (30, .invokevirtual 128), (33, .ifCond .ne 5), (36, .iconst 0), (37, .ireturn), (38, .aload_n 0), (39, .getfield 38), (42, .iconst 2), (43, .aload_n 0), (44, .invokevirtual 114), (47, .bipush 48), (49, .isub), (50, .iastore), (51, .aload_n 0), (52, .dup), (53, .getfield 105), (56, .iconst 1), (57, .iadd), (58, .putfield 105), (61, .iconst 1), (62, .istore_n 1), (63, .iload_n 1), (64, .ifCond .eq 27), (67, .aload_n 0), (68, .invokevirtual 135), (71, .ifCond .ne 20), (74, .aload_n 0), (75, .invokevirtual 114), (78, .bipush 32), (80, .if_icmp .eq 11), (83, .aload_n 0), (84, .invokevirtual 138), (87, .istore_n 1), (88, .goto (-25)), (91, .iload_n 1), (92, .ifCond .eq 10), (95, .aload_n 0), (96, .invokevirtual 135), (99, .ifCond .eq 5), (102, .iload_n 1), (103, .ireturn), (104, .aload_n 0), (105, .invokevirtual 114), (108, .bipush 32), (110, .if_icmp .ne 16), (113, .aload_n 0), (114, .dup), (115, .getfield 105), (118, .iconst 1), (119, .iadd), (120, .putfield 105), (123, .goto (-19)), (126, .iconst 0), (127, .ireturn)]
set_option maxRecDepth 100000 in
def zm_X10_reads : zi_R := (10, ⟨"WaxWingsModel", "reads", "()Z"⟩, prog_12_method_25_code, 2, (some .boolean), false, 0, 4, 0, zc_X10_reads, [(2, [0, 1]), (63, [0, 1]), (91, [0, 1]), (104, [0])])
set_option maxRecDepth 100000 in
def zc_X10_faultOf : List (Nat × Instr) := [(0, .aload_n 0), (1, .bipush 80), (3, .iload_n 1), (4, .imul), (5, .putfield 111), (8, .aload_n 0), (9, .aload_n 0), (10, .getfield 16), (13, .iload_n 1), (14, .iaload), (15, .putfield 108), (18, .aload_n 0), (19, .iconst 0), (20, .putfield 105), (23, .aload_n 0), (24, .getfield 105), (27, .aload_n 0), (28, .getfield 108), (31, .if_icmp .ge 35), (34, .aload_n 0), (35, .getfield 19), (38, .aload_n 0), (39, .getfield 111), (42, .aload_n 0), (43, .getfield 105), (46, .iadd), (47, .iaload), (48, .bipush 32), (50, .if_icmp .ne 16), (53, .aload_n 0), (54, .dup), (55, .getfield 105), (58, .iconst 1), (59, .iadd), (60, .putfield 105), (63, .goto (-40)), (66, .aload_n 0), (67, .invokevirtual 141), (70, .ifCond .eq 8), (73, .bipush (-9)), (75, .goto 7), (78, .aload_n 0), (79, .getfield 105), (82, .ireturn)]
set_option maxRecDepth 100000 in
def zm_X10_faultOf : zi_R := (10, ⟨"WaxWingsModel", "faultOf", "(I)I"⟩, prog_12_method_26_code, 2, (some .int), false, 1, 1, 0, zc_X10_faultOf, [(23, [0]), (66, [0])])
set_option maxRecDepth 100000 in
def zc_X10_fault : List (Nat × Instr) := [(0, .iload_n 1), (1, .invokestatic 102), (4, .ifCond .ne 7), (7, .iconst (-1)), (8, .goto 25), (11, .aload_n 0), (12, .getfield 16), (15, .iload_n 1), (16, .iaload), (17, .ifCond .ge 11), (20, .aload_n 0), (21, .iconst 1), (22, .invokevirtual 95), (25, .goto 8), (28, .aload_n 0), (29, .iload_n 1), (30, .invokevirtual 144), (33, .ireturn)]
set_option maxRecDepth 100000 in
def zm_X10_fault : zi_R := (10, ⟨"WaxWingsModel", "fault", "(I)I"⟩, prog_12_method_27_code, 2, (some .int), false, 1, 1, 0, zc_X10_fault, [])
set_option maxRecDepth 100000 in
def zc_X10_sky : List (Nat × Instr) := [(0, .iload_n 1), (1, .invokestatic 102), (4, .ifCond .ne 5), (7, .iconst (-1)), (8, .ireturn), (9, .aload_n 0), (10, .getfield 16), (13, .iload_n 1), (14, .iaload), (15, .ifCond .ge 9), (18, .aload_n 0), (19, .iconst 1), (20, .invokevirtual 95), (23, .ireturn), (24, .aload_n 0), (25, .iload_n 1), (26, .invokevirtual 144), (29, .bipush (-9)), (31, .if_icmp .eq 6), (34, .bipush (-4)), (36, .ireturn), (37, .iconst 0), (38, .istore_n 2), (39, .iload_n 2), (40, .sipush 356), (43, .if_icmp .ge 21), (46, .aload_n 0), (47, .getfield 22), (50, .iload_n 2), (51, .aload_n 0), (52, .getfield 38), (55, .iload_n 2), (56, .iaload), (57, .iastore), (58, .iinc 2 1), (61, .goto (-22)), (64, .iconst 0), (65, .istore_n 2), (66, .iload_n 2), (67, .iconst 3), (68, .if_icmp .ge 16), (71, .aload_n 0), (72, .getfield 28), (75, .iload_n 2), (76, .iconst 0), (77, .bastore), (78, .iinc 2 1), (81, .goto (-15)), (84, .aload_n 0), (85, .getfield 22), (88, .iconst 3), (89, .iaload), (90, .ireturn)]
set_option maxRecDepth 100000 in
def zm_X10_sky : zi_R := (10, ⟨"WaxWingsModel", "sky", "(I)I"⟩, prog_12_method_28_code, 3, (some .int), false, 1, 1, 0, zc_X10_sky, [(39, [0, 2]), (66, [0, 2])])
set_option maxRecDepth 100000 in
def zc_X10_flyer : List (Nat × Instr) := [(0, .aload_n 0), (1, .iload_n 1), (2, .invokevirtual 147), (5, .ifCond .eq 36), (8, .iload_n 2), (9, .i2l), (10, .lconst 0), (11, .ldc2_w 150), (14, .invokestatic 85), (17, .ifCond .eq 24), (20, .aload_n 0), (21, .aload_n 0), (22, .getfield 22), (25, .bipush 40), (27, .bipush 9), (29, .iload_n 1), (30, .imul), (31, .iadd), (32, .iload_n 2), (33, .iadd), (34, .iaload), (35, .invokevirtual 99), (38, .goto 4), (41, .iconst (-1)), (42, .ireturn)]
set_option maxRecDepth 100000 in
def zm_X10_flyer : zi_R := (10, ⟨"WaxWingsModel", "flyer", "(II)I"⟩, prog_12_method_29_code, 3, (some .int), false, 2, 1, 0, zc_X10_flyer, [])
set_option maxRecDepth 100000 in
def zc_X10_takes : List (Nat × Instr) := [(0, .bipush 40), (2, .bipush 9), (4, .iload_n 1), (5, .imul), (6, .iadd), (7, .istore_n 2), (8, .aload_n 0), (9, .aload_n 0), (10, .getfield 22), (13, .iload_n 2), (14, .iaload), (15, .putfield 152), (18, .aload_n 0), (19, .aload_n 0), (20, .getfield 22), (23, .iload_n 2), (24, .iconst 1), (25, .iadd), (26, .iaload), (27, .putfield 155), (30, .aload_n 0), (31, .aload_n 0), (32, .getfield 22), (35, .iload_n 2), (36, .iconst 2), (37, .iadd), (38, .iaload), (39, .putfield 158), (42, .aload_n 0), (43, .aload_n 0), (44, .getfield 22), (47, .iload_n 2), (48, .iconst 3), (49, .iadd), (50, .iaload), (51, .putfield 161), (54, .aload_n 0), (55, .aload_n 0), (56, .getfield 22), (59, .iload_n 2), (60, .iconst 4), (61, .iadd), (62, .iaload), (63, .putfield 164), (66, .aload_n 0), (67, .aload_n 0), (68, .getfield 22), (71, .iload_n 2), (72, .iconst 5), (73, .iadd), (74, .iaload), (75, .putfield 167), (78, .aload_n 0), (79, .aload_n 0), (80, .getfield 22), (83, .iload_n 2), (84, .bipush 6), (86, .iadd), (87, .iaload), (88, .putfield 170), (91, .aload_n 0), (92, .aload_n 0), (93, .getfield 22), (96, .iload_n 2), (97, .bipush 7), (99, .iadd), (100, .iaload), (101, .putfield 173), (104, .aload_n 0), (105, .aload_n 0), (106, .getfield 22), (109, .iload_n 2), (110, .bipush 8), (112, .iadd), (113, .iaload), (114, .putfield 176), (117, .aload_n 0), (118, .aload_n 0), (119, .getfield 22), (122, .iconst 2), (123, .iaload), (124, .putfield 179), (127, .return_)]
set_option maxRecDepth 100000 in
def zm_X10_takes : zi_R := (10, ⟨"WaxWingsModel", "takes", "(I)V"⟩, prog_12_method_30_code, 3, none, false, 1, 0, 0, zc_X10_takes, [])
set_option maxRecDepth 100000 in
def zc_X10_airAt : List (Nat × Instr) := [(0, .aload_n 0), (1, .getfield 22), (4, .iconst 5), (5, .bipush 7), (7, .iload_n 2), (8, .imul), (9, .iadd), (10, .iload_n 1), (11, .iadd), (12, .iaload), (13, .ireturn)]
set_option maxRecDepth 100000 in
def zm_X10_airAt : zi_R := (10, ⟨"WaxWingsModel", "airAt", "(II)I"⟩, prog_12_method_31_code, 3, (some .int), false, 2, 1, 0, zc_X10_airAt, [])
set_option maxRecDepth 100000 in
def zc_X10_last : List (Nat × Instr) := [(0, .aload_n 0), (1, .getfield 22), (4, .iconst 0), (5, .iaload), (6, .iconst 1), (7, .isub), (8, .ireturn)]
set_option maxRecDepth 100000 in
def zm_X10_last : zi_R := (10, ⟨"WaxWingsModel", "last", "()I"⟩, prog_12_method_32_code, 1, (some .int), false, 0, 1, 0, zc_X10_last, [])
set_option maxRecDepth 100000 in
def zc_X10_isOver : List (Nat × Instr) := [(0, .aload_n 0), (1, .getfield 155), (4, .aload_n 0), (5, .invokevirtual 182), (8, .if_icmp .ne 7), (11, .iconst 1), (12, .goto 4), (15, .iconst 0), (16, .ireturn)]
set_option maxRecDepth 100000 in
def zm_X10_isOver : zi_R := (10, ⟨"WaxWingsModel", "isOver", "()Z"⟩, prog_12_method_33_code, 1, (some .boolean), false, 0, 4, 0, zc_X10_isOver, [])
set_option maxRecDepth 100000 in
def zc_X10_columnBehind : List (Nat × Instr) := [(0, .aload_n 0), (1, .getfield 155), (4, .aload_n 0), (5, .aload_n 0), (6, .getfield 155), (9, .aload_n 0), (10, .getfield 158), (13, .invokevirtual 185), (16, .iconst 4), (17, .if_icmp .ne 7), (20, .iconst 2), (21, .goto 4), (24, .iconst 1), (25, .iadd), (26, .istore_n 1), (27, .iload_n 1), (28, .aload_n 0), (29, .invokevirtual 182), (32, .if_icmp .le 10), (35, .aload_n 0), (36, .invokevirtual 182), (39, .goto 4), (42, .iload_n 1), (43, .ireturn)]
set_option maxRecDepth 100000 in
def zm_X10_columnBehind : zi_R := (10, ⟨"WaxWingsModel", "columnBehind", "()I"⟩, prog_12_method_34_code, 2, (some .int), false, 0, 1, 0, zc_X10_columnBehind, [(25, [0])])
set_option maxRecDepth 100000 in
def zc_X10_canBeat : List (Nat × Instr) := [(0, .aload_n 0), (1, .getfield 158), (4, .iload_n 1), (5, .iadd), (6, .iconst 1), (7, .isub), (8, .istore_n 2), (9, .aload_n 0), (10, .getfield 173), (13, .ifCond .ne 45), (16, .aload_n 0), (17, .invokevirtual 189), (20, .ifCond .ne 38), (23, .iload_n 2), (24, .i2l), (25, .lconst 0), (26, .aload_n 0), (27, .getfield 22), (30, .iconst 1), (31, .iaload), (32, .iconst 1), (33, .isub), (34, .i2l), (35, .invokestatic 85), (38, .ifCond .eq 20), (41, .aload_n 0), (42, .aload_n 0), (43, .invokevirtual 192), (46, .iload_n 2), (47, .invokevirtual 185), (50, .iconst 5), (51, .if_icmp .eq 7), (54, .iconst 1), (55, .goto 4), (58, .iconst 0), (59, .ireturn)]
set_option maxRecDepth 100000 in
def zm_X10_canBeat : zi_R := (10, ⟨"WaxWingsModel", "canBeat", "(I)Z"⟩, prog_12_method_35_code, 3, (some .boolean), false, 1, 4, 0, zc_X10_canBeat, [])
set_option maxRecDepth 100000 in
def zc_X10_costs : List (Nat × Instr) := [(0, .aload_n 0), (1, .getfield 152), (4, .iconst 1), (5, .if_icmp .eq 11), (8, .aload_n 0), (9, .getfield 152), (12, .iconst 4), (13, .if_icmp .ne 7), (16, .iconst 1), (17, .goto 4), (20, .iconst 0), (21, .istore_n 2), (22, .aload_n 0), (23, .getfield 152), (26, .iconst 3), (27, .if_icmp .eq 11), (30, .aload_n 0), (31, .getfield 152), (34, .iconst 5), (35, .if_icmp .ne 7), (38, .iconst 1), (39, .goto 4), (42, .iconst 0), (43, .istore_n 3), (44, .iload_n 2), (45, .ifCond .eq 7), (48, .iconst 0), (49, .goto 17), (52, .iload_n 3), (53, .ifCond .eq 12), (56, .iconst 1), (57, .aload_n 0), (58, .getfield 170), (61, .iadd), (62, .goto 4), (65, .iconst 1), (66, .istore 4), (68, .iload_n 1), (69, .iconst 2), (70, .if_icmp .ne 22), (73, .iconst 2), (74, .aload_n 0), (75, .getfield 170), (78, .iadd), (79, .iload_n 2), (80, .ifCond .eq 7), (83, .iconst 1), (84, .goto 4), (87, .iconst 0), (88, .iadd), (89, .goto 14), (92, .iload_n 1), (93, .iconst 1), (94, .if_icmp .ne 8), (97, .iload 4), (99, .goto 4), (102, .iconst 0), (103, .istore 5), (105, .aload_n 0), (106, .getfield 152), (109, .iconst 5), (110, .if_icmp .ne 14), (113, .iload 5), (115, .iconst 1), (116, .isub), (117, .iconst 0), (118, .invokestatic 195), (121, .goto 5), (124, .iload 5), (126, .ireturn)]
set_option maxRecDepth 100000 in
def zm_X10_costs : zi_R := (10, ⟨"WaxWingsModel", "costs", "(I)I"⟩, prog_12_method_36_code, 6, (some .int), false, 1, 1, 0, zc_X10_costs, [(16, [0, 1]), (21, [0, 1]), (38, [0, 1, 2]), (43, [0, 1, 2]), (66, [0, 1, 2]), (88, [0]), (103, [0])])
set_option maxRecDepth 100000 in
def zc_X10_moves : List (Nat × Instr) := [(0, .aload_n 0), (1, .dup), (2, .getfield 161), (5, .aload_n 0), (6, .aload_n 0), (7, .getfield 155), (10, .aload_n 0), (11, .getfield 158), (14, .invokevirtual 185), (17, .iconst 3), (18, .if_icmp .ne 7), (21, .iconst 0), (22, .goto 8), (25, .aload_n 0), (26, .iload_n 1), (27, .invokevirtual 198), (30, .isub), (31, .putfield 161), (34, .aload_n 0), (35, .aload_n 0), (36, .invokevirtual 192), (39, .putfield 155), (42, .aload_n 0), (43, .dup), (44, .getfield 158), (47, .iload_n 1), (48, .iconst 1), (49, .isub), (50, .iadd), (51, .putfield 158), (54, .return_)]
set_option maxRecDepth 100000 in
def zm_X10_moves : zi_R := (10, ⟨"WaxWingsModel", "moves", "(I)V"⟩, prog_12_method_37_code, 2, none, false, 1, 0, 0, zc_X10_moves, [(30, [0, 1])])
set_option maxRecDepth 100000 in
def zc_X10_settles : List (Nat × Instr) := [(0, .aload_n 0), (1, .aload_n 0), (2, .getfield 155), (5, .aload_n 0), (6, .getfield 158), (9, .invokevirtual 185), (12, .istore_n 1), (13, .aload_n 0), (14, .getfield 158), (17, .aload_n 0), (18, .getfield 179), (21, .iadd), (22, .iconst 4), (23, .isub), (24, .iconst 0), (25, .invokestatic 195), (28, .istore_n 2), (29, .aload_n 0), (30, .getfield 152), (33, .iconst 2), (34, .if_icmp .ne 9), (37, .iconst 2), (38, .iload_n 2), (39, .imul), (40, .goto 16), (43, .aload_n 0), (44, .getfield 152), (47, .iconst 4), (48, .if_icmp .ne 7), (51, .iconst 0), (52, .goto 4), (55, .iload_n 2), (56, .istore_n 2), (57, .aload_n 0), (58, .iload_n 1), (59, .iconst 1), (60, .if_icmp .ne 16), (63, .aload_n 0), (64, .getfield 164), (67, .iconst 1), (68, .isub), (69, .iconst 0), (70, .invokestatic 195), (73, .goto 9), (76, .aload_n 0), (77, .getfield 164), (80, .iload_n 2), (81, .iadd), (82, .putfield 164), (85, .aload_n 0), (86, .aload_n 0), (87, .getfield 158), (90, .ifCond .eq 8), (93, .iload_n 1), (94, .iconst 2), (95, .if_icmp .ne 12), (98, .aload_n 0), (99, .getfield 167), (102, .iconst 1), (103, .iadd), (104, .goto 13), (107, .aload_n 0), (108, .getfield 167), (111, .iconst 1), (112, .isub), (113, .iconst 0), (114, .invokestatic 195), (117, .putfield 167), (120, .aload_n 0), (121, .aload_n 0), (122, .getfield 161), (125, .ifCond .ge 7), (128, .iconst 1), (129, .goto 31), (132, .aload_n 0), (133, .getfield 164), (136, .aload_n 0), (137, .getfield 176), (140, .if_icmp .le 7), (143, .iconst 2), (144, .goto 16), (147, .aload_n 0), (148, .getfield 167), (151, .iconst 2), (152, .if_icmp .le 7), (155, .iconst 3), (156, .goto 4), (159, .iconst 0), (160, .putfield 173), (163, .return_)]
set_option maxRecDepth 100000 in
def zm_X10_settles : zi_R := (10, ⟨"WaxWingsModel", "settles", "()V"⟩, prog_12_method_38_code, 3, none, false, 0, 0, 0, zc_X10_settles, [(56, [0, 1]), (82, [0, 1]), (98, [0]), (117, [0]), (160, [])])
set_option maxRecDepth 100000 in
def zc_X10_beats : List (Nat × Instr) := [(0, .aload_n 0), (1, .iload_n 1), (2, .invokevirtual 201), (5, .aload_n 0), (6, .invokevirtual 205), (9, .return_)]
set_option maxRecDepth 100000 in
def zm_X10_beats : zi_R := (10, ⟨"WaxWingsModel", "beats", "(I)V"⟩, prog_12_method_39_code, 2, none, false, 1, 0, 0, zc_X10_beats, [])
set_option maxRecDepth 100000 in
def zc_X10_mark : List (Nat × Instr) := [(0, .aload_n 0), (1, .iload_n 1), (2, .invokevirtual 147), (5, .ifCond .eq 15), (8, .iload_n 2), (9, .i2l), (10, .lconst 1), (11, .ldc2_w 83), (14, .invokestatic 85), (17, .ifCond .ne 5), (20, .iconst (-1)), (21, .ireturn), (22, .aload_n 0), (23, .iload_n 1), (24, .invokevirtual 208), (27, .aload_n 0), (28, .getfield 152), (31, .iload_n 2), (32, .if_icmp .eq 29), (35, .iload_n 2), (36, .iconst 1), (37, .if_icmp .ne 11), (40, .aload_n 0), (41, .getfield 152), (44, .iconst 4), (45, .if_icmp .eq 16), (48, .iload_n 2), (49, .iconst 3), (50, .if_icmp .ne 15), (53, .aload_n 0), (54, .getfield 152), (57, .iconst 5), (58, .if_icmp .ne 7), (61, .iconst 1), (62, .goto 4), (65, .iconst 0), (66, .istore_n 3), (67, .iload_n 3), (68, .ifCond .ne 9), (71, .aload_n 0), (72, .iconst 3), (73, .invokevirtual 95), (76, .ireturn), (77, .iconst 0), (78, .istore 4), (80, .iconst 0), (81, .istore 5), (83, .iload 5), (85, .aload_n 0), (86, .getfield 22), (89, .iconst 3), (90, .iaload), (91, .if_icmp .ge 47), (94, .iload 4), (96, .iload 5), (98, .iload_n 1), (99, .if_icmp .eq 29), (102, .aload_n 0), (103, .getfield 22), (106, .bipush 40), (108, .bipush 9), (110, .iload 5), (112, .imul), (113, .iadd), (114, .iconst 1), (115, .iadd), (116, .iaload), (117, .aload_n 0), (118, .getfield 155), (121, .if_icmp .ne 7), (124, .iconst 1), (125, .goto 4), (128, .iconst 0), (129, .iadd), (130, .istore 4), (132, .iinc 5 1), (135, .goto (-52)), (138, .iload_n 2), (139, .iconst 4), (140, .if_icmp .ne 15), (143, .aload_n 0), (144, .invokevirtual 182), (147, .aload_n 0), (148, .getfield 155), (151, .isub), (152, .goto 5), (155, .iload 4), (157, .istore 5), (159, .iload_n 2), (160, .iconst 1), (161, .if_icmp .ne 11), (164, .aload_n 0), (165, .iconst 2), (166, .invokevirtual 198), (169, .goto 47), (172, .iload_n 2), (173, .iconst 2), (174, .if_icmp .ne 27), (177, .iconst 2), (178, .aload_n 0), (179, .getfield 22), (182, .iconst 1), (183, .iaload), (184, .iconst 1), (185, .isub), (186, .aload_n 0), (187, .getfield 179), (190, .iadd), (191, .iconst 4), (192, .isub), (193, .iconst 0), (194, .invokestatic 195), (197, .imul), (198, .goto 18), (201, .iload_n 2), (202, .iconst 3), (203, .if_icmp .ne 11), (206, .aload_n 0), (207, .iconst 1), (208, .invokevirtual 198), (211, .goto 5), (214, .iload 5), (216, .ireturn)]
set_option maxRecDepth 100000 in
def zm_X10_mark : zi_R := (10, ⟨"WaxWingsModel", "mark", "(II)I"⟩, prog_12_method_40_code, 6, (some .int), false, 2, 1, 0, zc_X10_mark, [(48, [0, 1, 2]), (61, [0, 1, 2]), (65, [0, 1, 2]), (66, [0, 1, 2]), (83, [0, 1, 2, 4, 5]), (128, [0, 1, 2, 5]), (129, [0, 1, 2, 5]), (157, [0, 2])])
set_option maxRecDepth 100000 in
def zc_X10_air : List (Nat × Instr) := [(0, .iload_n 1), (1, .i2l), (2, .lconst 0), (3, .aload_n 0), (4, .getfield 22), (7, .iconst 0), (8, .iaload), (9, .iconst 1), (10, .isub), (11, .i2l), (12, .invokestatic 85), (15, .ifCond .eq 30), (18, .iload_n 2), (19, .i2l), (20, .lconst 0), (21, .aload_n 0), (22, .getfield 22), (25, .iconst 1), (26, .iaload), (27, .iconst 1), (28, .isub), (29, .i2l), (30, .invokestatic 85), (33, .ifCond .eq 12), (36, .aload_n 0), (37, .iload_n 1), (38, .iload_n 2), (39, .invokevirtual 185), (42, .goto 4), (45, .iconst (-1)), (46, .ireturn)]
set_option maxRecDepth 100000 in
def zm_X10_air : zi_R := (10, ⟨"WaxWingsModel", "air", "(II)I"⟩, prog_12_method_41_code, 3, (some .int), false, 2, 1, 0, zc_X10_air, [])
set_option maxRecDepth 100000 in
def zc_X10_sun : List (Nat × Instr) := [(0, .iload_n 1), (1, .i2l), (2, .lconst 0), (3, .ldc2_w 211), (6, .invokestatic 85), (9, .ifCond .ne 5), (12, .iconst (-1)), (13, .ireturn), (14, .aload_n 0), (15, .getfield 22), (18, .iconst 0), (19, .iaload), (20, .ifCond .ne 6), (23, .bipush (-4)), (25, .ireturn), (26, .aload_n 0), (27, .getfield 22), (30, .iconst 2), (31, .iaload), (32, .istore_n 2), (33, .aload_n 0), (34, .getfield 22), (37, .iconst 2), (38, .iload_n 1), (39, .iastore), (40, .iload_n 2), (41, .ireturn)]
set_option maxRecDepth 100000 in
def zm_X10_sun : zi_R := (10, ⟨"WaxWingsModel", "sun", "(I)I"⟩, prog_12_method_42_code, 3, (some .int), false, 1, 1, 0, zc_X10_sun, [])
set_option maxRecDepth 100000 in
def zc_X10_letters : List (Nat × Instr) := [(0, .aload_n 0), (1, .iload_n 1), (2, .invokevirtual 147), (5, .ifCond .eq 15), (8, .iload_n 2), (9, .i2l), (10, .lconst 0), (11, .ldc2_w 89), (14, .invokestatic 85), (17, .ifCond .ne 5), (20, .iconst (-1)), (21, .ireturn), (22, .aload_n 0), (23, .getfield 22), (26, .bipush 40), (28, .bipush 9), (30, .iload_n 1), (31, .imul), (32, .iadd), (33, .bipush 6), (35, .iadd), (36, .iaload), (37, .istore_n 3), (38, .aload_n 0), (39, .getfield 22), (42, .bipush 40), (44, .bipush 9), (46, .iload_n 1), (47, .imul), (48, .iadd), (49, .bipush 6), (51, .iadd), (52, .iload_n 2), (53, .iastore), (54, .iload_n 3), (55, .ireturn)]
set_option maxRecDepth 100000 in
def zm_X10_letters : zi_R := (10, ⟨"WaxWingsModel", "letters", "(II)I"⟩, prog_12_method_43_code, 4, (some .int), false, 2, 1, 0, zc_X10_letters, [])
end
section
/-! THE METHODS AS RECORDS: their instructions, as decode gives them (checked below); their cuts -/
set_option maxRecDepth 100000 in
def zc_X10_keeps : List (Nat × Instr) := [(0, .bipush 40), (2, .bipush 9), (4, .iload_n 1), (5, .imul), (6, .iadd), (7, .istore_n 2), (8, .aload_n 0), (9, .getfield 22), (12, .iload_n 2), (13, .iconst 1), (14, .iadd), (15, .aload_n 0), (16, .getfield 155), (19, .iastore), (20, .aload_n 0), (21, .getfield 22), (24, .iload_n 2), (25, .iconst 2), (26, .iadd), (27, .aload_n 0), (28, .getfield 158), (31, .iastore), (32, .aload_n 0), (33, .getfield 22), (36, .iload_n 2), (37, .iconst 3), (38, .iadd), (39, .aload_n 0), (40, .getfield 161), (43, .iastore), (44, .aload_n 0), (45, .getfield 22), (48, .iload_n 2), (49, .iconst 4), (50, .iadd), (51, .aload_n 0), (52, .getfield 164), (55, .iastore), (56, .aload_n 0), (57, .getfield 22), (60, .iload_n 2), (61, .iconst 5), (62, .iadd), (63, .aload_n 0), (64, .getfield 167), (67, .iastore), (68, .aload_n 0), (69, .getfield 22), (72, .iload_n 2), (73, .bipush 7), (75, .iadd), (76, .aload_n 0), (77, .getfield 173), (80, .iastore), (81, .return_)]
set_option maxRecDepth 100000 in
def zm_X10_keeps : zi_R := (10, ⟨"WaxWingsModel", "keeps", "(I)V"⟩, prog_12_method_44_code, 3, none, false, 1, 0, 0, zc_X10_keeps, [])
set_option maxRecDepth 100000 in
def zc_X10_does : List (Nat × Instr) := [(0, .bipush 76), (2, .bipush 7), (4, .aload_n 0), (5, .getfield 22), (8, .iconst 4), (9, .iaload), (10, .imul), (11, .iadd), (12, .istore_n 3), (13, .aload_n 0), (14, .iload_n 1), (15, .invokevirtual 208), (18, .aload_n 0), (19, .getfield 22), (22, .iload_n 3), (23, .iload_n 1), (24, .iastore), (25, .aload_n 0), (26, .getfield 22), (29, .iload_n 3), (30, .iconst 1), (31, .iadd), (32, .aload_n 0), (33, .getfield 155), (36, .iastore), (37, .aload_n 0), (38, .getfield 22), (41, .iload_n 3), (42, .iconst 2), (43, .iadd), (44, .aload_n 0), (45, .getfield 158), (48, .iastore), (49, .aload_n 0), (50, .getfield 22), (53, .iload_n 3), (54, .iconst 3), (55, .iadd), (56, .aload_n 0), (57, .getfield 161), (60, .iastore), (61, .aload_n 0), (62, .getfield 22), (65, .iload_n 3), (66, .iconst 4), (67, .iadd), (68, .aload_n 0), (69, .getfield 164), (72, .iastore), (73, .aload_n 0), (74, .getfield 22), (77, .iload_n 3), (78, .iconst 5), (79, .iadd), (80, .aload_n 0), (81, .getfield 167), (84, .iastore), (85, .aload_n 0), (86, .getfield 22), (89, .iload_n 3), (90, .bipush 6), (92, .iadd), (93, .aload_n 0), (94, .getfield 173), (97, .iastore), (98, .aload_n 0), (99, .iload_n 2), (100, .invokevirtual 213), (103, .aload_n 0), (104, .iload_n 1), (105, .invokevirtual 216), (108, .aload_n 0), (109, .getfield 22), (112, .iconst 4), (113, .dup2), (114, .iaload), (115, .iconst 1), (116, .iadd), (117, .iastore), (118, .return_)]
set_option maxRecDepth 100000 in
def zm_X10_does : zi_R := (10, ⟨"WaxWingsModel", "does", "(II)V"⟩, prog_12_method_45_code, 4, none, false, 2, 0, 0, zc_X10_does, [])
set_option maxRecDepth 100000 in
def zc_X10_beat : List (Nat × Instr) := [(0, .aload_n 0), (1, .iload_n 1), (2, .invokevirtual 147), (5, .ifCond .eq 15), (8, .iload_n 2), (9, .i2l), (10, .lconst 0), (11, .ldc2_w 219), (14, .invokestatic 85), (17, .ifCond .ne 5), (20, .iconst (-1)), (21, .ireturn), (22, .aload_n 0), (23, .iload_n 1), (24, .invokevirtual 208), (27, .aload_n 0), (28, .iload_n 2), (29, .invokevirtual 221), (32, .ifCond .ne 6), (35, .bipush (-4)), (37, .ireturn), (38, .aload_n 0), (39, .getfield 22), (42, .iconst 4), (43, .iaload), (44, .bipush 40), (46, .if_icmp .ne 6), (49, .bipush (-2)), (51, .ireturn), (52, .aload_n 0), (53, .iload_n 1), (54, .iload_n 2), (55, .invokevirtual 224), (58, .aload_n 0), (59, .getfield 173), (62, .ireturn)]
set_option maxRecDepth 100000 in
def zm_X10_beat : zi_R := (10, ⟨"WaxWingsModel", "beat", "(II)I"⟩, prog_12_method_46_code, 3, (some .int), false, 2, 1, 0, zc_X10_beat, [])
set_option maxRecDepth 100000 in
def zc_X10_undo : List (Nat × Instr) := [(0, .iload_n 1), (1, .i2l), (2, .lconst 0), (3, .aload_n 0), (4, .getfield 22), (7, .iconst 4), (8, .iaload), (9, .i2l), (10, .invokestatic 85), (13, .ifCond .ne 5), (16, .iconst (-1)), (17, .ireturn), (18, .aload_n 0), (19, .getfield 22), (22, .iconst 4), (23, .iaload), (24, .iload_n 1), (25, .isub), (26, .istore_n 2), (27, .aload_n 0), (28, .getfield 22), (31, .iconst 4), (32, .iaload), (33, .iload_n 1), (34, .if_icmp .le 112), (37, .aload_n 0), (38, .getfield 22), (41, .iconst 4), (42, .dup2), (43, .iaload), (44, .iconst 1), (45, .isub), (46, .iastore), (47, .bipush 76), (49, .bipush 7), (51, .aload_n 0), (52, .getfield 22), (55, .iconst 4), (56, .iaload), (57, .imul), (58, .iadd), (59, .istore_n 3), (60, .aload_n 0), (61, .aload_n 0), (62, .getfield 22), (65, .iload_n 3), (66, .iconst 1), (67, .iadd), (68, .iaload), (69, .putfield 155), (72, .aload_n 0), (73, .aload_n 0), (74, .getfield 22), (77, .iload_n 3), (78, .iconst 2), (79, .iadd), (80, .iaload), (81, .putfield 158), (84, .aload_n 0), (85, .aload_n 0), (86, .getfield 22), (89, .iload_n 3), (90, .iconst 3), (91, .iadd), (92, .iaload), (93, .putfield 161), (96, .aload_n 0), (97, .aload_n 0), (98, .getfield 22), (101, .iload_n 3), (102, .iconst 4), (103, .iadd), (104, .iaload), (105, .putfield 164), (108, .aload_n 0), (109, .aload_n 0), (110, .getfield 22), (113, .iload_n 3), (114, .iconst 5), (115, .iadd), (116, .iaload), (117, .putfield 167), (120, .aload_n 0), (121, .aload_n 0), (122, .getfield 22), (125, .iload_n 3), (126, .bipush 6), (128, .iadd), (129, .iaload), (130, .putfield 173), (133, .aload_n 0), (134, .aload_n 0), (135, .getfield 22), (138, .iload_n 3), (139, .iaload), (140, .invokevirtual 216), (143, .goto (-116)), (146, .iload_n 2), (147, .ireturn)]
set_option maxRecDepth 100000 in
def zm_X10_undo : zi_R := (10, ⟨"WaxWingsModel", "undo", "(I)I"⟩, prog_12_method_47_code, 4, (some .int), false, 1, 1, 0, zc_X10_undo, [(27, [0, 1, 2])])
set_option maxRecDepth 100000 in
def zc_X10_over : List (Nat × Instr) := [(0, .iconst 0), (1, .istore_n 1), (2, .iconst 0), (3, .istore_n 2), (4, .iconst 0), (5, .istore_n 3), (6, .iload_n 3), (7, .aload_n 0), (8, .getfield 22), (11, .iconst 3), (12, .iaload), (13, .if_icmp .ge 55), (16, .aload_n 0), (17, .iload_n 3), (18, .invokevirtual 208), (21, .iload_n 1), (22, .aload_n 0), (23, .invokevirtual 189), (26, .ifCond .eq 16), (29, .aload_n 0), (30, .getfield 173), (33, .ifCond .ne 9), (36, .iconst 1), (37, .iload_n 3), (38, .ishl), (39, .goto 4), (42, .iconst 0), (43, .ior), (44, .istore_n 1), (45, .iload_n 2), (46, .aload_n 0), (47, .getfield 173), (50, .ifCond .eq 9), (53, .iconst 1), (54, .iload_n 3), (55, .ishl), (56, .goto 4), (59, .iconst 0), (60, .ior), (61, .istore_n 2), (62, .iinc 3 1), (65, .goto (-59)), (68, .aload_n 0), (69, .iload_n 2), (70, .putfield 80), (73, .iload_n 1), (74, .ireturn)]
set_option maxRecDepth 100000 in
def zm_X10_over : zi_R := (10, ⟨"WaxWingsModel", "over", "()I"⟩, prog_12_method_48_code, 4, (some .int), false, 0, 1, 0, zc_X10_over, [(6, [0, 1, 2, 3]), (42, [0, 2, 3]), (43, [0, 2, 3]), (60, [0, 1, 3])])
set_option maxRecDepth 100000 in
def zc_X10_can : List (Nat × Instr) := [(0, .aload_n 0), (1, .iload_n 1), (2, .invokevirtual 147), (5, .ifCond .ne 5), (8, .iconst (-1)), (9, .ireturn), (10, .iconst 0), (11, .istore_n 2), (12, .iconst 0), (13, .istore_n 3), (14, .iconst 0), (15, .istore 4), (17, .iload 4), (19, .iconst 3), (20, .if_icmp .ge 54), (23, .aload_n 0), (24, .iload_n 1), (25, .invokevirtual 208), (28, .aload_n 0), (29, .iload 4), (31, .invokevirtual 221), (34, .ifCond .eq 34), (37, .aload_n 0), (38, .iload 4), (40, .invokevirtual 213), (43, .iload_n 2), (44, .iconst 1), (45, .iload 4), (47, .ishl), (48, .ior), (49, .istore_n 2), (50, .iload_n 3), (51, .aload_n 0), (52, .getfield 173), (55, .ifCond .eq 10), (58, .iconst 1), (59, .iload 4), (61, .ishl), (62, .goto 4), (65, .iconst 0), (66, .ior), (67, .istore_n 3), (68, .iinc 4 1), (71, .goto (-54)), (74, .aload_n 0), (75, .iload_n 3), (76, .putfield 80), (79, .iload_n 2), (80, .ireturn)]
set_option maxRecDepth 100000 in
def zm_X10_can : zi_R := (10, ⟨"WaxWingsModel", "can", "(I)I"⟩, prog_12_method_49_code, 5, (some .int), false, 1, 1, 0, zc_X10_can, [(17, [0, 1, 2, 3, 4]), (66, [0, 1, 2, 4]), (68, [0, 1, 2, 3, 4])])
set_option maxRecDepth 100000 in
def zc_X10_keep : List (Nat × Instr) := [(0, .iload_n 1), (1, .i2l), (2, .lconst 0), (3, .ldc2_w 219), (6, .invokestatic 85), (9, .ifCond .ne 5), (12, .iconst (-1)), (13, .ireturn), (14, .aload_n 0), (15, .getfield 22), (18, .iconst 0), (19, .iaload), (20, .ifCond .ne 6), (23, .bipush (-4)), (25, .ireturn), (26, .iconst 0), (27, .istore_n 2), (28, .iload_n 2), (29, .sipush 356), (32, .if_icmp .ge 27), (35, .aload_n 0), (36, .getfield 25), (39, .sipush 356), (42, .iload_n 1), (43, .imul), (44, .iload_n 2), (45, .iadd), (46, .aload_n 0), (47, .getfield 22), (50, .iload_n 2), (51, .iaload), (52, .iastore), (53, .iinc 2 1), (56, .goto (-28)), (59, .aload_n 0), (60, .getfield 28), (63, .iload_n 1), (64, .iconst 1), (65, .bastore), (66, .aload_n 0), (67, .getfield 22), (70, .iconst 4), (71, .iaload), (72, .ireturn)]
set_option maxRecDepth 100000 in
def zm_X10_keep : zi_R := (10, ⟨"WaxWingsModel", "keep", "(I)I"⟩, prog_12_method_50_code, 3, (some .int), false, 1, 1, 0, zc_X10_keep, [(28, [0, 1, 2])])
set_option maxRecDepth 100000 in
def zc_X10_on : List (Nat × Instr) := [(0, .iload_n 1), (1, .i2l), (2, .lconst 0), (3, .ldc2_w 219), (6, .invokestatic 85), (9, .ifCond .ne 5), (12, .iconst (-1)), (13, .ireturn), (14, .aload_n 0), (15, .getfield 28), (18, .iload_n 1), (19, .baload), (20, .ifCond .ne 9), (23, .aload_n 0), (24, .iconst 1), (25, .invokevirtual 95), (28, .ireturn), (29, .iconst 0), (30, .istore_n 2), (31, .iload_n 2), (32, .sipush 356), (35, .if_icmp .ge 27), (38, .aload_n 0), (39, .getfield 22), (42, .iload_n 2), (43, .aload_n 0), (44, .getfield 25), (47, .sipush 356), (50, .iload_n 1), (51, .imul), (52, .iload_n 2), (53, .iadd), (54, .iaload), (55, .iastore), (56, .iinc 2 1), (59, .goto (-28)), (62, .aload_n 0), (63, .getfield 22), (66, .iconst 4), (67, .iaload), (68, .ireturn)]
set_option maxRecDepth 100000 in
def zm_X10_on : zi_R := (10, ⟨"WaxWingsModel", "on", "(I)I"⟩, prog_12_method_51_code, 3, (some .int), false, 1, 1, 0, zc_X10_on, [(31, [0, 1, 2])])
set_option maxRecDepth 100000 in
def zc_X10_hasFallen : List (Nat × Instr) := [(0, .aload_n 0), (1, .getfield 22), (4, .bipush 40), (6, .bipush 9), (8, .iload_n 1), (9, .imul), (10, .iadd), (11, .bipush 7), (13, .iadd), (14, .iaload), (15, .ifCond .eq 7), (18, .iconst 1), (19, .goto 4), (22, .iconst 0), (23, .ireturn)]
set_option maxRecDepth 100000 in
def zm_X10_hasFallen : zi_R := (10, ⟨"WaxWingsModel", "hasFallen", "(I)Z"⟩, prog_12_method_52_code, 2, (some .boolean), false, 1, 4, 0, zc_X10_hasFallen, [])
set_option maxRecDepth 100000 in
def zc_X10_areBeats : List (Nat × Instr) := [(0, .iconst 1), (1, .istore_n 2), (2, .iconst 0), (3, .istore_n 3), (4, .iload_n 3), (5, .aload_n 0), (6, .getfield 7), (9, .iload_n 1), (10, .iaload), (11, .if_icmp .ge 41), (14, .iload_n 2), (15, .ifCond .eq 29), (18, .aload_n 0), (19, .getfield 13), (22, .bipush 40), (24, .iload_n 1), (25, .imul), (26, .iload_n 3), (27, .iadd), (28, .iaload), (29, .i2l), (30, .lconst 0), (31, .ldc2_w 219), (34, .invokestatic 85), (37, .ifCond .eq 7), (40, .iconst 1), (41, .goto 4), (44, .iconst 0), (45, .istore_n 2), (46, .iinc 3 1), (49, .goto (-45)), (52, .iload_n 2), (53, .ireturn)]
set_option maxRecDepth 100000 in
def zm_X10_areBeats : zi_R := (10, ⟨"WaxWingsModel", "areBeats", "(I)Z"⟩, prog_12_method_53_code, 4, (some .boolean), false, 1, 4, 0, zc_X10_areBeats, [(4, [0, 1, 2, 3]), (44, [0, 1, 3]), (45, [0, 1, 3])])
set_option maxRecDepth 100000 in
def zc_X10_judge : List (Nat × Instr) := [(0, .aload_n 0), (1, .iload_n 1), (2, .invokevirtual 147), (5, .ifCond .eq 10), (8, .iload_n 2), (9, .invokestatic 91), (12, .ifCond .ne 5), (15, .iconst (-1)), (16, .ireturn), (17, .aload_n 0), (18, .iload_n 1), (19, .invokevirtual 228), (22, .ifCond .eq 6), (25, .bipush (-4)), (27, .ireturn), (28, .aload_n 0), (29, .getfield 7), (32, .iload_n 2), (33, .iaload), (34, .ifCond .ge 9), (37, .aload_n 0), (38, .iconst 1), (39, .invokevirtual 95), (42, .ireturn), (43, .aload_n 0), (44, .iload_n 2), (45, .invokevirtual 231), (48, .ifCond .ne 9), (51, .aload_n 0), (52, .iconst 3), (53, .invokevirtual 95), (56, .ireturn), (57, .aload_n 0), (58, .iload_n 1), (59, .invokevirtual 208), (62, .iconst 0), (63, .istore_n 3), (64, .iload_n 3), (65, .aload_n 0), (66, .getfield 7), (69, .iload_n 2), (70, .iaload), (71, .if_icmp .ge 59), (74, .aload_n 0), (75, .aload_n 0), (76, .getfield 13), (79, .bipush 40), (81, .iload_n 2), (82, .imul), (83, .iload_n 3), (84, .iadd), (85, .iaload), (86, .invokevirtual 221), (89, .ifCond .eq 41), (92, .aload_n 0), (93, .aload_n 0), (94, .getfield 13), (97, .bipush 40), (99, .iload_n 2), (100, .imul), (101, .iload_n 3), (102, .iadd), (103, .iaload), (104, .invokevirtual 213), (107, .aload_n 0), (108, .getfield 173), (111, .ifCond .eq 13), (114, .aload_n 0), (115, .aload_n 0), (116, .getfield 173), (119, .putfield 80), (122, .iload_n 3), (123, .ireturn), (124, .iinc 3 1), (127, .goto (-63)), (130, .aload_n 0), (131, .iconst 0), (132, .putfield 80), (135, .iload_n 3), (136, .ireturn)]
set_option maxRecDepth 100000 in
def zm_X10_judge : zi_R := (10, ⟨"WaxWingsModel", "judge", "(II)I"⟩, prog_12_method_54_code, 4, (some .int), false, 2, 1, 0, zc_X10_judge, [(64, [0, 2, 3]), (130, [0, 3])])
set_option maxRecDepth 100000 in
def zc_X10_goes : List (Nat × Instr) := [(0, .sipush 243), (3, .istore_n 2), (4, .iload_n 1), (5, .istore_n 3), (6, .aload_n 0), (7, .iconst 0), (8, .putfield 234), (11, .aload_n 0), (12, .iconst 0), (13, .putfield 237), (16, .iconst 0), (17, .istore 4), (19, .iload 4), (21, .bipush 7), (23, .if_icmp .ge 18), (26, .aload_n 0), (27, .getfield 44), (30, .iload 4), (32, .bipush (-9)), (34, .iastore), (35, .iinc 4 1), (38, .goto (-19)), (41, .iconst 1), (42, .istore 4), (44, .iload 4), (46, .ifCond .eq 134), (49, .aload_n 0), (50, .invokevirtual 189), (53, .ifCond .ne 127), (56, .iload_n 3), (57, .iload_n 2), (58, .idiv), (59, .istore 5), (61, .iload_n 3), (62, .iload_n 2), (63, .irem), (64, .istore_n 3), (65, .iload_n 2), (66, .iconst 1), (67, .if_icmp .ne 7), (70, .iconst 1), (71, .goto 6), (74, .iload_n 2), (75, .iconst 3), (76, .idiv), (77, .istore_n 2), (78, .aload_n 0), (79, .iload 5), (81, .invokevirtual 221), (84, .istore 4), (86, .iload 4), (88, .ifCond .eq 89), (91, .aload_n 0), (92, .iload 5), (94, .invokevirtual 213), (97, .aload_n 0), (98, .getfield 41), (101, .aload_n 0), (102, .getfield 234), (105, .iload 5), (107, .iastore), (108, .aload_n 0), (109, .dup), (110, .getfield 234), (113, .iconst 1), (114, .iadd), (115, .putfield 234), (118, .aload_n 0), (119, .getfield 44), (122, .aload_n 0), (123, .getfield 155), (126, .aload_n 0), (127, .getfield 158), (130, .iastore), (131, .aload_n 0), (132, .dup), (133, .getfield 237), (136, .aload_n 0), (137, .getfield 164), (140, .aload_n 0), (141, .getfield 176), (144, .iconst 2), (145, .idiv), (146, .if_icmp .le 12), (149, .iconst 1), (150, .aload_n 0), (151, .getfield 155), (154, .ishl), (155, .goto 4), (158, .iconst 0), (159, .ior), (160, .putfield 237), (163, .aload_n 0), (164, .getfield 173), (167, .ifCond .ne 7), (170, .iconst 1), (171, .goto 4), (174, .iconst 0), (175, .istore 4), (177, .goto (-133)), (180, .iload 4), (182, .ifCond .eq 11), (185, .iload_n 3), (186, .ifCond .ne 7), (189, .iconst 1), (190, .goto 4), (193, .iconst 0), (194, .ireturn)]
set_option maxRecDepth 100000 in
def zm_X10_goes : zi_R := (10, ⟨"WaxWingsModel", "goes", "(I)Z"⟩, prog_12_method_55_code, 6, (some .boolean), false, 1, 4, 0, zc_X10_goes, [(19, [0, 2, 3, 4]), (44, [0, 2, 3, 4]), (77, [0, 3, 5]), (159, [0, 2, 3]), (175, [0, 2, 3]), (177, [0, 2, 3, 4]), (180, [3, 4])])
set_option maxRecDepth 100000 in
def zc_X10_lays : List (Nat × Instr) := [(0, .aload_n 0), (1, .getfield 7), (4, .iload_n 1), (5, .aload_n 0), (6, .getfield 234), (9, .iastore), (10, .iconst 0), (11, .istore_n 2), (12, .iload_n 2), (13, .aload_n 0), (14, .getfield 234), (17, .if_icmp .ge 26), (20, .aload_n 0), (21, .getfield 13), (24, .bipush 40), (26, .iload_n 1), (27, .imul), (28, .iload_n 2), (29, .iadd), (30, .aload_n 0), (31, .getfield 41), (34, .iload_n 2), (35, .iaload), (36, .iastore), (37, .iinc 2 1), (40, .goto (-28)), (43, .return_)]
set_option maxRecDepth 100000 in
def zm_X10_lays : zi_R := (10, ⟨"WaxWingsModel", "lays", "(I)V"⟩, prog_12_method_56_code, 3, none, false, 1, 0, 0, zc_X10_lays, [(12, [0, 1, 2])])
set_option maxRecDepth 100000 in
def zc_X10_soonest : List (Nat × Instr) := [(0, .aload_n 0), (1, .iload_n 1), (2, .invokevirtual 147), (5, .ifCond .eq 10), (8, .iload_n 2), (9, .invokestatic 91), (12, .ifCond .ne 5), (15, .iconst (-1)), (16, .ireturn), (17, .aload_n 0), (18, .iload_n 1), (19, .invokevirtual 228), (22, .ifCond .eq 6), (25, .bipush (-4)), (27, .ireturn), (28, .bipush (-9)), (30, .istore_n 3), (31, .iconst 0), (32, .istore 4), (34, .iload 4), (36, .sipush 729), (39, .if_icmp .ge 47), (42, .aload_n 0), (43, .iload_n 1), (44, .invokevirtual 208), (47, .aload_n 0), (48, .iload 4), (50, .invokevirtual 240), (53, .ifCond .eq 27), (56, .iload_n 3), (57, .bipush (-9)), (59, .if_icmp .eq 11), (62, .aload_n 0), (63, .getfield 234), (66, .iload_n 3), (67, .if_icmp .ge 13), (70, .aload_n 0), (71, .getfield 234), (74, .istore_n 3), (75, .aload_n 0), (76, .iload_n 2), (77, .invokevirtual 243), (80, .iinc 4 1), (83, .goto (-49)), (86, .iload_n 3), (87, .ireturn)]
set_option maxRecDepth 100000 in
def zm_X10_soonest : zi_R := (10, ⟨"WaxWingsModel", "soonest", "(II)I"⟩, prog_12_method_57_code, 5, (some .int), false, 2, 1, 0, zc_X10_soonest, [(34, [0, 1, 2, 3, 4]), (70, [0, 1, 2, 4]), (80, [0, 1, 2, 3, 4])])
set_option maxRecDepth 100000 in
def zc_X10_lightest : List (Nat × Instr) := [(0, .aload_n 0), (1, .iload_n 1), (2, .invokevirtual 147), (5, .ifCond .eq 10), (8, .iload_n 2), (9, .invokestatic 91), (12, .ifCond .ne 5), (15, .iconst (-1)), (16, .ireturn), (17, .aload_n 0), (18, .iload_n 1), (19, .invokevirtual 228), (22, .ifCond .eq 6), (25, .bipush (-4)), (27, .ireturn), (28, .bipush (-9)), (30, .istore_n 3), (31, .iconst 0), (32, .istore 4), (34, .iload 4), (36, .sipush 729), (39, .if_icmp .ge 41), (42, .aload_n 0), (43, .iload_n 1), (44, .invokevirtual 208), (47, .aload_n 0), (48, .iload 4), (50, .invokevirtual 240), (53, .ifCond .eq 21), (56, .aload_n 0), (57, .getfield 161), (60, .iload_n 3), (61, .if_icmp .le 13), (64, .aload_n 0), (65, .getfield 161), (68, .istore_n 3), (69, .aload_n 0), (70, .iload_n 2), (71, .invokevirtual 243), (74, .iinc 4 1), (77, .goto (-43)), (80, .iload_n 3), (81, .ireturn)]
set_option maxRecDepth 100000 in
def zm_X10_lightest : zi_R := (10, ⟨"WaxWingsModel", "lightest", "(II)I"⟩, prog_12_method_58_code, 5, (some .int), false, 2, 1, 0, zc_X10_lightest, [(34, [0, 1, 2, 3, 4]), (74, [0, 1, 2, 3, 4])])
set_option maxRecDepth 100000 in
def zc_X10_ways : List (Nat × Instr) := [(0, .aload_n 0), (1, .iload_n 1), (2, .invokevirtual 147), (5, .ifCond .ne 5), (8, .iconst (-1)), (9, .ireturn), (10, .aload_n 0), (11, .iload_n 1), (12, .invokevirtual 228), (15, .ifCond .eq 6), (18, .bipush (-4)), (20, .ireturn), (21, .lconst 0), (22, .lstore_n 2), (23, .iconst 0), (24, .istore 4), (26, .iload 4), (28, .sipush 729), (31, .if_icmp .ge 31), (34, .aload_n 0), (35, .iload_n 1), (36, .invokevirtual 208), (39, .lload_n 2), (40, .aload_n 0), (41, .iload 4), (43, .invokevirtual 240), (46, .ifCond .eq 7), (49, .lconst 1), (50, .goto 4), (53, .lconst 0), (54, .ladd), (55, .lstore_n 2), (56, .iinc 4 1), (59, .goto (-33)), (62, .aload_n 0), (63, .lload_n 2), (64, .putfield 246), (67, .aload_n 0), (68, .lconst 1), (69, .putfield 72), (72, .iconst 1), (73, .ireturn)]
set_option maxRecDepth 100000 in
def zm_X10_ways : zi_R := (10, ⟨"WaxWingsModel", "ways", "(I)I"⟩, prog_12_method_59_code, 5, (some .int), false, 1, 1, 0, zc_X10_ways, [(26, [0, 1, 2, 4]), (54, [0, 1, 4])])
set_option maxRecDepth 100000 in
def zc_X10_heights : List (Nat × Instr) := [(0, .aload_n 0), (1, .iload_n 1), (2, .invokevirtual 147), (5, .ifCond .eq 17), (8, .iload_n 2), (9, .i2l), (10, .lconst 0), (11, .aload_n 0), (12, .invokevirtual 182), (15, .i2l), (16, .invokestatic 85), (19, .ifCond .ne 5), (22, .iconst (-1)), (23, .ireturn), (24, .aload_n 0), (25, .iload_n 1), (26, .invokevirtual 228), (29, .ifCond .eq 6), (32, .bipush (-4)), (34, .ireturn), (35, .iconst 0), (36, .istore_n 3), (37, .bipush 31), (39, .istore 4), (41, .iconst 0), (42, .istore 5), (44, .iconst 0), (45, .istore 6), (47, .iload 6), (49, .sipush 729), (52, .if_icmp .ge 63), (55, .aload_n 0), (56, .iload_n 1), (57, .invokevirtual 208), (60, .aload_n 0), (61, .iload 6), (63, .invokevirtual 240), (66, .ifCond .eq 43), (69, .aload_n 0), (70, .getfield 44), (73, .iload_n 2), (74, .iaload), (75, .bipush (-9)), (77, .if_icmp .ne 7), (80, .iconst 0), (81, .goto 11), (84, .iconst 1), (85, .aload_n 0), (86, .getfield 44), (89, .iload_n 2), (90, .iaload), (91, .ishl), (92, .istore 7), (94, .iload_n 3), (95, .iload 7), (97, .ior), (98, .istore_n 3), (99, .iload 4), (101, .iload 7), (103, .iand), (104, .istore 4), (106, .iinc 5 1), (109, .iinc 6 1), (112, .goto (-65)), (115, .aload_n 0), (116, .iload 5), (118, .ifCond .ne 7), (121, .iconst 0), (122, .goto 5), (125, .iload 4), (127, .putfield 80), (130, .iload_n 3), (131, .ireturn)]
set_option maxRecDepth 100000 in
def zm_X10_heights : zi_R := (10, ⟨"WaxWingsModel", "heights", "(II)I"⟩, prog_12_method_60_code, 8, (some .int), false, 2, 1, 0, zc_X10_heights, [(47, [0, 1, 2, 3, 4, 5, 6]), (92, [0, 1, 2, 3, 4, 5, 6]), (109, [0, 1, 2, 3, 4, 5, 6]), (127, [3])])
set_option maxRecDepth 100000 in
def zc_X10_nth : List (Nat × Instr) := [(0, .aload_n 0), (1, .iload_n 1), (2, .invokevirtual 147), (5, .ifCond .eq 14), (8, .iload_n 3), (9, .invokestatic 91), (12, .ifCond .eq 7), (15, .iload_n 2), (16, .ifCond .ge 5), (19, .iconst (-1)), (20, .ireturn), (21, .aload_n 0), (22, .iload_n 1), (23, .invokevirtual 228), (26, .ifCond .eq 6), (29, .bipush (-4)), (31, .ireturn), (32, .iconst 0), (33, .istore 4), (35, .iconst 0), (36, .istore 5), (38, .iload 5), (40, .sipush 729), (43, .if_icmp .ge 42), (46, .aload_n 0), (47, .iload_n 1), (48, .invokevirtual 208), (51, .aload_n 0), (52, .iload 5), (54, .invokevirtual 240), (57, .ifCond .eq 22), (60, .iload 4), (62, .iload_n 2), (63, .if_icmp .ne 13), (66, .aload_n 0), (67, .iload_n 3), (68, .invokevirtual 243), (71, .aload_n 0), (72, .getfield 234), (75, .ireturn), (76, .iinc 4 1), (79, .iinc 5 1), (82, .goto (-44)), (85, .aload_n 0), (86, .iconst 4), (87, .invokevirtual 95), (90, .ireturn)]
set_option maxRecDepth 100000 in
def zm_X10_nth : zi_R := (10, ⟨"WaxWingsModel", "nth", "(III)I"⟩, prog_12_method_61_code, 6, (some .int), false, 3, 1, 0, zc_X10_nth, [(38, [0, 1, 2, 3, 4, 5]), (79, [0, 1, 2, 3, 4, 5])])
set_option maxRecDepth 100000 in
def zc_X10_mayGo : List (Nat × Instr) := [(0, .iconst 0), (1, .istore 4), (3, .iconst 0), (4, .istore 5), (6, .iload 5), (8, .sipush 729), (11, .if_icmp .ge 114), (14, .iload 4), (16, .ifCond .ne 109), (19, .aload_n 0), (20, .iload_n 1), (21, .invokevirtual 208), (24, .aload_n 0), (25, .iload_n 2), (26, .ifCond .ne 7), (29, .iload_n 3), (30, .goto 7), (33, .aload_n 0), (34, .getfield 152), (37, .putfield 152), (40, .aload_n 0), (41, .iload_n 2), (42, .iconst 3), (43, .if_icmp .ne 7), (46, .iload_n 3), (47, .goto 7), (50, .aload_n 0), (51, .getfield 161), (54, .putfield 161), (57, .aload_n 0), (58, .iload_n 2), (59, .bipush 6), (61, .if_icmp .ne 7), (64, .iload_n 3), (65, .goto 7), (68, .aload_n 0), (69, .getfield 170), (72, .putfield 170), (75, .aload_n 0), (76, .iload_n 2), (77, .bipush 8), (79, .if_icmp .ne 7), (82, .iload_n 3), (83, .goto 7), (86, .aload_n 0), (87, .getfield 176), (90, .putfield 176), (93, .aload_n 0), (94, .iload_n 2), (95, .bipush 9), (97, .if_icmp .ne 7), (100, .iload_n 3), (101, .goto 7), (104, .aload_n 0), (105, .getfield 179), (108, .putfield 179), (111, .aload_n 0), (112, .iload 5), (114, .invokevirtual 240), (117, .istore 4), (119, .iinc 5 1), (122, .goto (-116)), (125, .iload 4), (127, .ireturn)]
set_option maxRecDepth 100000 in
def zm_X10_mayGo : zi_R := (10, ⟨"WaxWingsModel", "mayGo", "(III)Z"⟩, prog_12_method_62_code, 6, (some .boolean), false, 3, 4, 0, zc_X10_mayGo, [(6, [0, 1, 2, 3, 4, 5]), (37, [0, 1, 2, 3, 5]), (54, [0, 1, 2, 3, 5]), (72, [0, 1, 2, 3, 5]), (90, [0, 1, 2, 3, 5]), (108, [0, 1, 2, 3, 5])])
set_option maxRecDepth 100000 in
def zc_X10_least : List (Nat × Instr) := [(0, .iconst 0), (1, .istore 4), (3, .iload 4), (5, .iload_n 3), (6, .if_icmp .gt 23), (9, .aload_n 0), (10, .iload_n 1), (11, .iload_n 2), (12, .iload 4), (14, .invokevirtual 249), (17, .ifCond .eq 6), (20, .iload 4), (22, .ireturn), (23, .iinc 4 1), (26, .goto (-23)), (29, .bipush (-9)), (31, .ireturn)]
set_option maxRecDepth 100000 in
def zm_X10_least : zi_R := (10, ⟨"WaxWingsModel", "least", "(III)I"⟩, prog_12_method_63_code, 5, (some .int), false, 3, 1, 0, zc_X10_least, [(3, [0, 1, 2, 3, 4])])
set_option maxRecDepth 100000 in
def zc_X10_greatest : List (Nat × Instr) := [(0, .iload_n 3), (1, .istore 4), (3, .iload 4), (5, .ifCond .lt 23), (8, .aload_n 0), (9, .iload_n 1), (10, .iload_n 2), (11, .iload 4), (13, .invokevirtual 249), (16, .ifCond .eq 6), (19, .iload 4), (21, .ireturn), (22, .iinc 4 (-1)), (25, .goto (-22)), (28, .bipush (-9)), (30, .ireturn)]
set_option maxRecDepth 100000 in
def zm_X10_greatest : zi_R := (10, ⟨"WaxWingsModel", "greatest", "(III)I"⟩, prog_12_method_64_code, 5, (some .int), false, 3, 1, 0, zc_X10_greatest, [(3, [0, 1, 2, 4])])
set_option maxRecDepth 100000 in
def zc_X10_wax : List (Nat × Instr) := [(0, .aload_n 0), (1, .iload_n 1), (2, .invokevirtual 147), (5, .ifCond .ne 7), (8, .iconst (-1)), (9, .goto 25), (12, .aload_n 0), (13, .iload_n 1), (14, .invokevirtual 228), (17, .ifCond .eq 8), (20, .bipush (-4)), (22, .goto 12), (25, .aload_n 0), (26, .iload_n 1), (27, .bipush 8), (29, .bipush 9), (31, .invokevirtual 253), (34, .ireturn)]
set_option maxRecDepth 100000 in
def zm_X10_wax : zi_R := (10, ⟨"WaxWingsModel", "wax", "(I)I"⟩, prog_12_method_65_code, 2, (some .int), false, 1, 1, 0, zc_X10_wax, [])
set_option maxRecDepth 100000 in
def zc_X10_strength : List (Nat × Instr) := [(0, .aload_n 0), (1, .iload_n 1), (2, .invokevirtual 147), (5, .ifCond .ne 7), (8, .iconst (-1)), (9, .goto 24), (12, .aload_n 0), (13, .iload_n 1), (14, .invokevirtual 228), (17, .ifCond .eq 8), (20, .bipush (-4)), (22, .goto 11), (25, .aload_n 0), (26, .iload_n 1), (27, .iconst 3), (28, .bipush 40), (30, .invokevirtual 253), (33, .ireturn)]
set_option maxRecDepth 100000 in
def zm_X10_strength : zi_R := (10, ⟨"WaxWingsModel", "strength", "(I)I"⟩, prog_12_method_66_code, 2, (some .int), false, 1, 1, 0, zc_X10_strength, [])
set_option maxRecDepth 100000 in
def zc_X10_most : List (Nat × Instr) := [(0, .aload_n 0), (1, .iload_n 1), (2, .invokevirtual 147), (5, .ifCond .ne 7), (8, .iconst (-1)), (9, .goto 24), (12, .aload_n 0), (13, .iload_n 1), (14, .invokevirtual 228), (17, .ifCond .eq 8), (20, .bipush (-4)), (22, .goto 11), (25, .aload_n 0), (26, .iload_n 1), (27, .bipush 6), (29, .iconst 3), (30, .invokevirtual 257), (33, .ireturn)]
set_option maxRecDepth 100000 in
def zm_X10_most : zi_R := (10, ⟨"WaxWingsModel", "most", "(I)I"⟩, prog_12_method_67_code, 2, (some .int), false, 1, 1, 0, zc_X10_most, [])
set_option maxRecDepth 100000 in
def zc_X10_hottest : List (Nat × Instr) := [(0, .aload_n 0), (1, .iload_n 1), (2, .invokevirtual 147), (5, .ifCond .ne 7), (8, .iconst (-1)), (9, .goto 25), (12, .aload_n 0), (13, .iload_n 1), (14, .invokevirtual 228), (17, .ifCond .eq 8), (20, .bipush (-4)), (22, .goto 12), (25, .aload_n 0), (26, .iload_n 1), (27, .bipush 9), (29, .bipush 9), (31, .invokevirtual 257), (34, .ireturn)]
set_option maxRecDepth 100000 in
def zm_X10_hottest : zi_R := (10, ⟨"WaxWingsModel", "hottest", "(I)I"⟩, prog_12_method_68_code, 2, (some .int), false, 1, 1, 0, zc_X10_hottest, [])
set_option maxRecDepth 100000 in
def zc_X10_kinds : List (Nat × Instr) := [(0, .aload_n 0), (1, .iload_n 1), (2, .invokevirtual 147), (5, .ifCond .ne 5), (8, .iconst (-1)), (9, .ireturn), (10, .aload_n 0), (11, .iload_n 1), (12, .invokevirtual 228), (15, .ifCond .eq 6), (18, .bipush (-4)), (20, .ireturn), (21, .iconst 0), (22, .istore_n 2), (23, .iconst 0), (24, .istore_n 3), (25, .iload_n 3), (26, .iconst 5), (27, .if_icmp .gt 29), (30, .iload_n 2), (31, .aload_n 0), (32, .iload_n 1), (33, .iconst 0), (34, .iload_n 3), (35, .invokevirtual 249), (38, .ifCond .eq 9), (41, .iconst 1), (42, .iload_n 3), (43, .ishl), (44, .goto 4), (47, .iconst 0), (48, .ior), (49, .istore_n 2), (50, .iinc 3 1), (53, .goto (-28)), (56, .iload_n 2), (57, .ireturn)]
set_option maxRecDepth 100000 in
def zm_X10_kinds : zi_R := (10, ⟨"WaxWingsModel", "kinds", "(I)I"⟩, prog_12_method_69_code, 4, (some .int), false, 1, 1, 0, zc_X10_kinds, [(25, [0, 1, 2, 3]), (48, [0, 1, 3])])
set_option maxRecDepth 100000 in
def zc_X10_post : List (Nat × Instr) := [(0, .iload_n 1), (1, .i2l), (2, .lconst 0), (3, .ldc2_w 260), (6, .invokestatic 85), (9, .ifCond .eq 10), (12, .iload_n 2), (13, .invokestatic 91), (16, .ifCond .ne 5), (19, .iconst (-1)), (20, .ireturn), (21, .aload_n 0), (22, .getfield 22), (25, .iconst 3), (26, .iaload), (27, .ifCond .ne 6), (30, .bipush (-4)), (32, .ireturn), (33, .aload_n 0), (34, .getfield 22), (37, .iconst 3), (38, .iaload), (39, .istore_n 3), (40, .iconst 0), (41, .istore 4), (43, .iload 4), (45, .iload_n 3), (46, .if_icmp .ge 42), (49, .aload_n 0), (50, .getfield 47), (53, .iload 4), (55, .aload_n 0), (56, .iload 4), (58, .invokevirtual 228), (61, .ifCond .eq 7), (64, .iconst 0), (65, .goto 16), (68, .aload_n 0), (69, .iload 4), (71, .bipush 6), (73, .iconst 3), (74, .invokevirtual 257), (77, .iconst 0), (78, .invokestatic 195), (81, .iastore), (82, .iinc 4 1), (85, .goto (-42)), (88, .bipush (-9)), (90, .istore 4), (92, .iconst 0), (93, .istore 5), (95, .iload 5), (97, .sipush 256), (100, .if_icmp .ge 185), (103, .iconst 0), (104, .istore 6), (106, .iconst 0), (107, .istore 7), (109, .iconst 1), (110, .istore 8), (112, .iconst 0), (113, .istore 9), (115, .iload 9), (117, .iconst 4), (118, .if_icmp .ge 91), (121, .iload 5), (123, .iconst 2), (124, .iconst 3), (125, .iload 9), (127, .isub), (128, .imul), (129, .ishr), (130, .iconst 3), (131, .iand), (132, .istore 10), (134, .iload 8), (136, .ifCond .eq 33), (139, .iload 9), (141, .iload_n 3), (142, .if_icmp .ge 18), (145, .iload 10), (147, .aload_n 0), (148, .getfield 47), (151, .iload 9), (153, .iaload), (154, .if_icmp .gt 15), (157, .goto 8), (160, .iload 10), (162, .ifCond .ne 7), (165, .iconst 1), (166, .goto 4), (169, .iconst 0), (170, .istore 8), (172, .aload_n 0), (173, .getfield 50), (176, .iload 9), (178, .iload 10), (180, .iastore), (181, .iload 6), (183, .iload 10), (185, .iadd), (186, .istore 6), (188, .iload 7), (190, .iload 10), (192, .ifCond .le 7), (195, .iconst 1), (196, .goto 4), (199, .iconst 0), (200, .iadd), (201, .istore 7), (203, .iinc 9 1), (206, .goto (-91)), (209, .iload 8), (211, .ifCond .eq 68), (214, .iload 6), (216, .iload_n 1), (217, .if_icmp .ne 62), (220, .iload 4), (222, .bipush (-9)), (224, .if_icmp .eq 10), (227, .iload 7), (229, .iload 4), (231, .if_icmp .ge 48), (234, .iload 7), (236, .istore 4), (238, .aload_n 0), (239, .getfield 7), (242, .iload_n 2), (243, .iload_n 3), (244, .iastore), (245, .iconst 0), (246, .istore 9), (248, .iload 9), (250, .iload_n 3), (251, .if_icmp .ge 28), (254, .aload_n 0), (255, .getfield 13), (258, .bipush 40), (260, .iload_n 2), (261, .imul), (262, .iload 9), (264, .iadd), (265, .aload_n 0), (266, .getfield 50), (269, .iload 9), (271, .iaload), (272, .iastore), (273, .iinc 9 1), (276, .goto (-28)), (279, .iinc 5 1), (282, .goto (-187)), (285, .iload 4), (287, .ireturn)]
set_option maxRecDepth 100000 in
def zm_X10_post : zi_R := (10, ⟨"WaxWingsModel", "post", "(II)I"⟩, prog_12_method_70_code, 11, (some .int), false, 2, 1, 0, zc_X10_post, [(43, [0, 1, 2, 3, 4]), (81, [0, 1, 2, 3, 4]), (95, [0, 1, 2, 3, 4, 5]), (115, [0, 1, 2, 3, 4, 5, 6, 7, 8, 9]), (165, [0, 1, 2, 3, 4, 5, 6, 7, 9, 10]), (169, [0, 1, 2, 3, 4, 5, 6, 7, 9, 10]), (170, [0, 1, 2, 3, 4, 5, 6, 7, 9, 10]), (200, [0, 1, 2, 3, 4, 5, 6, 8, 9]), (234, [0, 1, 2, 3, 5, 7]), (248, [0, 1, 2, 3, 4, 5, 9]), (279, [0, 1, 2, 3, 4, 5])])
set_option maxRecDepth 100000 in
def zc_X10_lies : List (Nat × Instr) := [(0, .aload_n 0), (1, .getfield 53), (4, .bipush 7), (6, .iload_n 1), (7, .imul), (8, .aload_n 0), (9, .getfield 155), (12, .iastore), (13, .aload_n 0), (14, .getfield 53), (17, .bipush 7), (19, .iload_n 1), (20, .imul), (21, .iconst 1), (22, .iadd), (23, .aload_n 0), (24, .getfield 158), (27, .iastore), (28, .aload_n 0), (29, .getfield 53), (32, .bipush 7), (34, .iload_n 1), (35, .imul), (36, .iconst 2), (37, .iadd), (38, .aload_n 0), (39, .getfield 161), (42, .iastore), (43, .aload_n 0), (44, .getfield 53), (47, .bipush 7), (49, .iload_n 1), (50, .imul), (51, .iconst 3), (52, .iadd), (53, .aload_n 0), (54, .getfield 164), (57, .iastore), (58, .aload_n 0), (59, .getfield 53), (62, .bipush 7), (64, .iload_n 1), (65, .imul), (66, .iconst 4), (67, .iadd), (68, .aload_n 0), (69, .getfield 167), (72, .iastore), (73, .aload_n 0), (74, .getfield 53), (77, .bipush 7), (79, .iload_n 1), (80, .imul), (81, .iconst 5), (82, .iadd), (83, .aload_n 0), (84, .getfield 173), (87, .iastore), (88, .aload_n 0), (89, .getfield 59), (92, .iload_n 1), (93, .iconst 0), (94, .iastore), (95, .return_)]
set_option maxRecDepth 100000 in
def zm_X10_lies : zi_R := (10, ⟨"WaxWingsModel", "lies", "(I)V"⟩, prog_12_method_71_code, 2, none, false, 1, 0, 0, zc_X10_lies, [])
set_option maxRecDepth 100000 in
def zc_X10_stands : List (Nat × Instr) := [(0, .aload_n 0), (1, .aload_n 0), (2, .getfield 53), (5, .bipush 7), (7, .iload_n 1), (8, .imul), (9, .iaload), (10, .putfield 155), (13, .aload_n 0), (14, .aload_n 0), (15, .getfield 53), (18, .bipush 7), (20, .iload_n 1), (21, .imul), (22, .iconst 1), (23, .iadd), (24, .iaload), (25, .putfield 158), (28, .aload_n 0), (29, .aload_n 0), (30, .getfield 53), (33, .bipush 7), (35, .iload_n 1), (36, .imul), (37, .iconst 2), (38, .iadd), (39, .iaload), (40, .putfield 161), (43, .aload_n 0), (44, .aload_n 0), (45, .getfield 53), (48, .bipush 7), (50, .iload_n 1), (51, .imul), (52, .iconst 3), (53, .iadd), (54, .iaload), (55, .putfield 164), (58, .aload_n 0), (59, .aload_n 0), (60, .getfield 53), (63, .bipush 7), (65, .iload_n 1), (66, .imul), (67, .iconst 4), (68, .iadd), (69, .iaload), (70, .putfield 167), (73, .aload_n 0), (74, .aload_n 0), (75, .getfield 53), (78, .bipush 7), (80, .iload_n 1), (81, .imul), (82, .iconst 5), (83, .iadd), (84, .iaload), (85, .putfield 173), (88, .return_)]
set_option maxRecDepth 100000 in
def zm_X10_stands : zi_R := (10, ⟨"WaxWingsModel", "stands", "(I)V"⟩, prog_12_method_72_code, 2, none, false, 1, 0, 0, zc_X10_stands, [])
end
section
/-! THE METHODS AS RECORDS: their instructions, as decode gives them (checked below); their cuts -/
set_option maxRecDepth 100000 in
def zc_X10_twelves : List (Nat × Instr) := [(0, .lconst 1), (1, .lstore_n 1), (2, .iconst 0), (3, .istore_n 3), (4, .iload_n 3), (5, .iload_n 0), (6, .if_icmp .ge 15), (9, .lload_n 1), (10, .ldc2_w 260), (13, .lmul), (14, .lstore_n 1), (15, .iinc 3 1), (18, .goto (-14)), (21, .lload_n 1), (22, .lreturn)]
set_option maxRecDepth 100000 in
def zm_X10_twelves : zi_R := (10, ⟨"WaxWingsModel", "twelves", "(I)J"⟩, prog_12_method_73_code, 4, (some .long), true, 1, 2, 0, zc_X10_twelves, [(4, [0, 1, 3])])
set_option maxRecDepth 100000 in
def zc_X10_mayGust : List (Nat × Instr) := [(0, .aload_n 0), (1, .invokevirtual 189), (4, .ifCond .ne 32), (7, .aload_n 0), (8, .getfield 158), (11, .ifCond .le 25), (14, .aload_n 0), (15, .aload_n 0), (16, .getfield 155), (19, .aload_n 0), (20, .getfield 158), (23, .iconst 1), (24, .isub), (25, .invokevirtual 185), (28, .iconst 5), (29, .if_icmp .eq 7), (32, .iconst 1), (33, .goto 4), (36, .iconst 0), (37, .ireturn)]
set_option maxRecDepth 100000 in
def zm_X10_mayGust : zi_R := (10, ⟨"WaxWingsModel", "mayGust", "()Z"⟩, prog_12_method_74_code, 1, (some .boolean), false, 0, 4, 0, zc_X10_mayGust, [])
set_option maxRecDepth 100000 in
def zc_X10_chances : List (Nat × Instr) := [(0, .aload_n 0), (1, .iload_n 1), (2, .invokevirtual 208), (5, .iconst 0), (6, .istore 4), (8, .aload_n 0), (9, .iconst 0), (10, .invokevirtual 262), (13, .lconst 0), (14, .lstore 5), (16, .iload 4), (18, .ifCond .lt 530), (21, .aload_n 0), (22, .iload 4), (24, .invokevirtual 265), (27, .aload_n 0), (28, .getfield 59), (31, .iload 4), (33, .iaload), (34, .ifCond .ne 147), (37, .iload_n 2), (38, .bipush (-9)), (40, .if_icmp .eq 14), (43, .iload 4), (45, .aload_n 0), (46, .getfield 7), (49, .iload_n 2), (50, .iaload), (51, .if_icmp .lt 7), (54, .iconst 0), (55, .goto 15), (58, .aload_n 0), (59, .getfield 13), (62, .bipush 40), (64, .iload_n 2), (65, .imul), (66, .iload 4), (68, .iadd), (69, .iaload), (70, .istore 7), (72, .iload_n 2), (73, .bipush (-9)), (75, .if_icmp .eq 18), (78, .iload 4), (80, .aload_n 0), (81, .getfield 7), (84, .iload_n 2), (85, .iaload), (86, .if_icmp .lt 7), (89, .iconst 1), (90, .goto 4), (93, .iconst 0), (94, .istore 8), (96, .aload_n 0), (97, .getfield 56), (100, .iload 4), (102, .aload_n 0), (103, .getfield 173), (106, .ifCond .ne 15), (109, .aload_n 0), (110, .invokevirtual 189), (113, .ifCond .ne 8), (116, .iload 8), (118, .ifCond .eq 7), (121, .iconst 3), (122, .goto 5), (125, .iload 7), (127, .iastore), (128, .aload_n 0), (129, .getfield 66), (132, .iload 4), (134, .aload_n 0), (135, .getfield 173), (138, .ifCond .ne 21), (141, .aload_n 0), (142, .invokevirtual 189), (145, .ifCond .eq 14), (148, .bipush 8), (150, .iload 4), (152, .isub), (153, .invokestatic 268), (156, .goto 4), (159, .lconst 0), (160, .lastore), (161, .aload_n 0), (162, .getfield 69), (165, .iload 4), (167, .bipush (-9)), (169, .iastore), (170, .aload_n 0), (171, .getfield 59), (174, .iload 4), (176, .iconst 1), (177, .iastore), (178, .goto (-162)), (181, .aload_n 0), (182, .getfield 59), (185, .iload 4), (187, .iaload), (188, .iconst 1), (189, .if_icmp .ne 107), (192, .aload_n 0), (193, .getfield 56), (196, .iload 4), (198, .iaload), (199, .iconst 3), (200, .if_icmp .ne 18), (203, .aload_n 0), (204, .getfield 66), (207, .iload 4), (209, .laload), (210, .lstore 5), (212, .iinc 4 (-1)), (215, .goto (-199)), (218, .aload_n 0), (219, .aload_n 0), (220, .getfield 56), (223, .iload 4), (225, .iaload), (226, .invokevirtual 221), (229, .ifCond .eq 38), (232, .aload_n 0), (233, .aload_n 0), (234, .getfield 56), (237, .iload 4), (239, .iaload), (240, .invokevirtual 201), (243, .aload_n 0), (244, .invokevirtual 205), (247, .aload_n 0), (248, .getfield 59), (251, .iload 4), (253, .iconst 2), (254, .iastore), (255, .iinc 4 1), (258, .aload_n 0), (259, .iload 4), (261, .invokevirtual 262), (264, .goto (-248)), (267, .aload_n 0), (268, .getfield 56), (271, .iload 4), (273, .iload_n 2), (274, .bipush (-9)), (276, .if_icmp .ne 15), (279, .aload_n 0), (280, .getfield 56), (283, .iload 4), (285, .iaload), (286, .iconst 1), (287, .iadd), (288, .goto 4), (291, .iconst 3), (292, .iastore), (293, .goto (-277)), (296, .aload_n 0), (297, .getfield 59), (300, .iload 4), (302, .iaload), (303, .iconst 2), (304, .if_icmp .ne 93), (307, .aload_n 0), (308, .aload_n 0), (309, .getfield 56), (312, .iload 4), (314, .iaload), (315, .invokevirtual 201), (318, .aload_n 0), (319, .invokevirtual 272), (322, .istore 7), (324, .aload_n 0), (325, .getfield 62), (328, .iload 4), (330, .lload 5), (332, .iload 7), (334, .ifCond .eq 10), (337, .bipush 12), (339, .iload_n 3), (340, .isub), (341, .goto 5), (344, .bipush 12), (346, .i2l), (347, .lmul), (348, .lastore), (349, .aload_n 0), (350, .getfield 59), (353, .iload 4), (355, .iload 7), (357, .ifCond .eq 7), (360, .iconst 3), (361, .goto 4), (364, .iconst 4), (365, .iastore), (366, .iload 7), (368, .ifCond .eq 26), (371, .aload_n 0), (372, .dup), (373, .getfield 158), (376, .iconst 1), (377, .isub), (378, .putfield 158), (381, .aload_n 0), (382, .invokevirtual 205), (385, .iinc 4 1), (388, .aload_n 0), (389, .iload 4), (391, .invokevirtual 262), (394, .goto (-378)), (397, .aload_n 0), (398, .getfield 62), (401, .iload 4), (403, .dup2), (404, .laload), (405, .aload_n 0), (406, .getfield 59), (409, .iload 4), (411, .iaload), (412, .iconst 3), (413, .if_icmp .ne 11), (416, .lload 5), (418, .iload_n 3), (419, .i2l), (420, .lmul), (421, .goto 4), (424, .lconst 0), (425, .ladd), (426, .lastore), (427, .aload_n 0), (428, .getfield 69), (431, .iload 4), (433, .aload_n 0), (434, .getfield 62), (437, .iload 4), (439, .laload), (440, .aload_n 0), (441, .getfield 66), (444, .iload 4), (446, .laload), (447, .lcmp), (448, .ifCond .le 13), (451, .aload_n 0), (452, .getfield 56), (455, .iload 4), (457, .iaload), (458, .goto 10), (461, .aload_n 0), (462, .getfield 69), (465, .iload 4), (467, .iaload), (468, .iastore), (469, .aload_n 0), (470, .getfield 66), (473, .iload 4), (475, .aload_n 0), (476, .getfield 62), (479, .iload 4), (481, .laload), (482, .aload_n 0), (483, .getfield 66), (486, .iload 4), (488, .laload), (489, .lcmp), (490, .ifCond .le 13), (493, .aload_n 0), (494, .getfield 62), (497, .iload 4), (499, .laload), (500, .goto 10), (503, .aload_n 0), (504, .getfield 66), (507, .iload 4), (509, .laload), (510, .lastore), (511, .aload_n 0), (512, .getfield 56), (515, .iload 4), (517, .iload_n 2), (518, .bipush (-9)), (520, .if_icmp .ne 15), (523, .aload_n 0), (524, .getfield 56), (527, .iload 4), (529, .iaload), (530, .iconst 1), (531, .iadd), (532, .goto 4), (535, .iconst 3), (536, .iastore), (537, .aload_n 0), (538, .getfield 59), (541, .iload 4), (543, .iconst 1), (544, .iastore), (545, .goto (-529)), (548, .aload_n 0), (549, .getfield 66), (552, .iconst 0), (553, .laload), (554, .lreturn)]
set_option maxRecDepth 100000 in
def zm_X10_chances : zi_R := (10, ⟨"WaxWingsModel", "chances", "(III)J"⟩, prog_12_method_75_code, 9, (some .long), false, 3, 2, 0, zc_X10_chances, [(16, [0, 2, 3, 4, 5]), (54, [0, 2, 3, 4, 5]), (70, [0, 2, 3, 4, 5]), (93, [0, 2, 3, 4, 5, 7]), (94, [0, 2, 3, 4, 5, 7]), (121, [0, 2, 3, 4, 5]), (127, [0, 2, 3, 4, 5]), (159, [0, 2, 3, 4, 5]), (160, [0, 2, 3, 4, 5]), (292, [0, 2, 3, 4, 5]), (346, [0, 2, 3, 4, 5, 7]), (365, [0, 2, 3, 4, 5, 7]), (394, [0, 2, 3, 4, 5]), (425, [0, 2, 3, 4, 5]), (468, [0, 2, 3, 4, 5]), (510, [0, 2, 3, 4, 5]), (536, [0, 2, 3, 4, 5])])
set_option maxRecDepth 100000 in
def zc_X10_divisor : List (Nat × Instr) := [(0, .lload_n 0), (1, .lstore 4), (3, .lload_n 2), (4, .lstore 6), (6, .lload 6), (8, .lconst 0), (9, .lcmp), (10, .ifCond .eq 21), (13, .lload 4), (15, .lload 6), (17, .lrem), (18, .lstore 8), (20, .lload 6), (22, .lstore 4), (24, .lload 8), (26, .lstore 6), (28, .goto (-22)), (31, .lload 4), (33, .lreturn)]
set_option maxRecDepth 100000 in
def zm_X10_divisor : zi_R := (10, ⟨"WaxWingsModel", "divisor", "(JJ)J"⟩, prog_12_method_76_code, 10, (some .long), true, 2, 2, 0, zc_X10_divisor, [(6, [4, 6])])
set_option maxRecDepth 100000 in
def zc_X10_chanceIs : List (Nat × Instr) := [(0, .bipush 8), (2, .invokestatic 268), (5, .lstore_n 3), (6, .lload_n 1), (7, .lload_n 3), (8, .invokestatic 275), (11, .lstore 5), (13, .aload_n 0), (14, .lload_n 1), (15, .lload 5), (17, .ldiv), (18, .putfield 246), (21, .aload_n 0), (22, .lload_n 3), (23, .lload 5), (25, .ldiv), (26, .putfield 72), (29, .iconst 1), (30, .ireturn)]
set_option maxRecDepth 100000 in
def zm_X10_chanceIs : zi_R := (10, ⟨"WaxWingsModel", "chanceIs", "(J)I"⟩, prog_12_method_77_code, 7, (some .int), false, 1, 1, 0, zc_X10_chanceIs, [])
set_option maxRecDepth 100000 in
def zc_X10_plan : List (Nat × Instr) := [(0, .aload_n 0), (1, .iload_n 1), (2, .invokevirtual 147), (5, .ifCond .eq 22), (8, .iload_n 2), (9, .invokestatic 91), (12, .ifCond .eq 15), (15, .iload_n 3), (16, .i2l), (17, .lconst 0), (18, .ldc2_w 260), (21, .invokestatic 85), (24, .ifCond .ne 5), (27, .iconst (-1)), (28, .ireturn), (29, .aload_n 0), (30, .iload_n 1), (31, .invokevirtual 228), (34, .ifCond .eq 6), (37, .bipush (-4)), (39, .ireturn), (40, .aload_n 0), (41, .getfield 7), (44, .iload_n 2), (45, .iaload), (46, .ifCond .ge 9), (49, .aload_n 0), (50, .iconst 1), (51, .invokevirtual 95), (54, .ireturn), (55, .aload_n 0), (56, .getfield 7), (59, .iload_n 2), (60, .iaload), (61, .bipush 8), (63, .if_icmp .le 9), (66, .aload_n 0), (67, .iconst 5), (68, .invokevirtual 95), (71, .ireturn), (72, .aload_n 0), (73, .iload_n 2), (74, .invokevirtual 231), (77, .ifCond .eq 17), (80, .aload_n 0), (81, .aload_n 0), (82, .iload_n 1), (83, .iload_n 2), (84, .iload_n 3), (85, .invokevirtual 279), (88, .invokevirtual 283), (91, .goto 8), (94, .aload_n 0), (95, .iconst 3), (96, .invokevirtual 95), (99, .ireturn)]
set_option maxRecDepth 100000 in
def zm_X10_plan : zi_R := (10, ⟨"WaxWingsModel", "plan", "(III)I"⟩, prog_12_method_78_code, 4, (some .int), false, 3, 1, 0, zc_X10_plan, [])
set_option maxRecDepth 100000 in
def zc_X10_odds : List (Nat × Instr) := [(0, .aload_n 0), (1, .iload_n 1), (2, .invokevirtual 147), (5, .ifCond .eq 15), (8, .iload_n 2), (9, .i2l), (10, .lconst 0), (11, .ldc2_w 260), (14, .invokestatic 85), (17, .ifCond .ne 5), (20, .iconst (-1)), (21, .ireturn), (22, .aload_n 0), (23, .iload_n 1), (24, .invokevirtual 228), (27, .ifCond .eq 8), (30, .bipush (-4)), (32, .goto 15), (35, .aload_n 0), (36, .aload_n 0), (37, .iload_n 1), (38, .bipush (-9)), (40, .iload_n 2), (41, .invokevirtual 279), (44, .invokevirtual 283), (47, .ireturn)]
set_option maxRecDepth 100000 in
def zm_X10_odds : zi_R := (10, ⟨"WaxWingsModel", "odds", "(II)I"⟩, prog_12_method_79_code, 3, (some .int), false, 2, 1, 0, zc_X10_odds, [])
set_option maxRecDepth 100000 in
def zc_X10_choice : List (Nat × Instr) := [(0, .aload_n 0), (1, .iload_n 1), (2, .invokevirtual 147), (5, .ifCond .eq 15), (8, .iload_n 2), (9, .i2l), (10, .lconst 0), (11, .ldc2_w 260), (14, .invokestatic 85), (17, .ifCond .ne 5), (20, .iconst (-1)), (21, .ireturn), (22, .aload_n 0), (23, .iload_n 1), (24, .invokevirtual 228), (27, .ifCond .eq 6), (30, .bipush (-4)), (32, .ireturn), (33, .aload_n 0), (34, .iload_n 1), (35, .bipush (-9)), (37, .iload_n 2), (38, .invokevirtual 279), (41, .lconst 0), (42, .lcmp), (43, .ifCond .le 12), (46, .aload_n 0), (47, .getfield 69), (50, .iconst 0), (51, .iaload), (52, .goto 5), (55, .bipush (-9)), (57, .ireturn)]
set_option maxRecDepth 100000 in
def zm_X10_choice : zi_R := (10, ⟨"WaxWingsModel", "choice", "(II)I"⟩, prog_12_method_80_code, 3, (some .int), false, 2, 1, 0, zc_X10_choice, [])
set_option maxRecDepth 100000 in
def zc_X10_boats : List (Nat × Instr) := [(0, .iload_n 1), (1, .i2l), (2, .lconst 1), (3, .ldc2_w 287), (6, .invokestatic 85), (9, .ifCond .eq 10), (12, .iload_n 2), (13, .invokestatic 91), (16, .ifCond .ne 5), (19, .iconst (-1)), (20, .ireturn), (21, .aload_n 0), (22, .getfield 22), (25, .iconst 0), (26, .iaload), (27, .ifCond .ne 6), (30, .bipush (-4)), (32, .ireturn), (33, .iload_n 1), (34, .aload_n 0), (35, .getfield 22), (38, .iconst 0), (39, .iaload), (40, .if_icmp .le 9), (43, .aload_n 0), (44, .iconst 5), (45, .invokevirtual 95), (48, .ireturn), (49, .bipush 100), (51, .istore_n 3), (52, .iconst 0), (53, .istore 4), (55, .iconst 1), (56, .aload_n 0), (57, .getfield 22), (60, .iconst 0), (61, .iaload), (62, .ishl), (63, .iconst 1), (64, .isub), (65, .istore 5), (67, .iload 5), (69, .ifCond .le 174), (72, .iconst 0), (73, .istore 6), (75, .iconst 0), (76, .istore 7), (78, .iconst 0), (79, .istore 8), (81, .iload 8), (83, .aload_n 0), (84, .getfield 22), (87, .iconst 0), (88, .iaload), (89, .if_icmp .ge 108), (92, .bipush 100), (94, .istore 9), (96, .iconst 0), (97, .istore 10), (99, .iload 10), (101, .aload_n 0), (102, .getfield 22), (105, .iconst 0), (106, .iaload), (107, .if_icmp .ge 63), (110, .iload 10), (112, .iload 8), (114, .if_icmp .le 11), (117, .iload 10), (119, .iload 8), (121, .isub), (122, .goto 8), (125, .iload 8), (127, .iload 10), (129, .isub), (130, .istore 11), (132, .iload 5), (134, .aload_n 0), (135, .invokevirtual 182), (138, .iload 10), (140, .isub), (141, .ishr), (142, .iconst 1), (143, .iand), (144, .iconst 1), (145, .if_icmp .ne 15), (148, .iload 11), (150, .iload 9), (152, .if_icmp .ge 8), (155, .iload 11), (157, .goto 5), (160, .iload 9), (162, .istore 9), (164, .iinc 10 1), (167, .goto (-68)), (170, .iload 6), (172, .iload 5), (174, .iload 8), (176, .ishr), (177, .iconst 1), (178, .iand), (179, .iadd), (180, .istore 6), (182, .iload 9), (184, .iload 7), (186, .invokestatic 195), (189, .istore 7), (191, .iinc 8 1), (194, .goto (-113)), (197, .iload 6), (199, .iload_n 1), (200, .if_icmp .ne 14), (203, .iload 7), (205, .iload_n 3), (206, .if_icmp .ge 8), (209, .iload 5), (211, .goto 5), (214, .iload 4), (216, .istore 4), (218, .iload 6), (220, .iload_n 1), (221, .if_icmp .ne 14), (224, .iload 7), (226, .iload_n 3), (227, .if_icmp .ge 8), (230, .iload 7), (232, .goto 4), (235, .iload_n 3), (236, .istore_n 3), (237, .iinc 5 (-1)), (240, .goto (-173)), (243, .aload_n 0), (244, .getfield 7), (247, .iload_n 2), (248, .iconst 0), (249, .iastore), (250, .iconst 0), (251, .istore 5), (253, .iload 5), (255, .aload_n 0), (256, .getfield 22), (259, .iconst 0), (260, .iaload), (261, .if_icmp .ge 53), (264, .iload 4), (266, .aload_n 0), (267, .invokevirtual 182), (270, .iload 5), (272, .isub), (273, .ishr), (274, .iconst 1), (275, .iand), (276, .iconst 1), (277, .if_icmp .ne 31), (280, .aload_n 0), (281, .getfield 13), (284, .bipush 40), (286, .iload_n 2), (287, .imul), (288, .aload_n 0), (289, .getfield 7), (292, .iload_n 2), (293, .iaload), (294, .iadd), (295, .iload 5), (297, .iastore), (298, .aload_n 0), (299, .getfield 7), (302, .iload_n 2), (303, .dup2), (304, .iaload), (305, .iconst 1), (306, .iadd), (307, .iastore), (308, .iinc 5 1), (311, .goto (-58)), (314, .iload_n 3), (315, .ireturn)]
set_option maxRecDepth 100000 in
def zm_X10_boats : zi_R := (10, ⟨"WaxWingsModel", "boats", "(II)I"⟩, prog_12_method_81_code, 12, (some .int), false, 2, 1, 0, zc_X10_boats, [(67, [0, 1, 2, 3, 4, 5]), (81, [0, 1, 2, 3, 4, 5, 6, 7, 8]), (99, [0, 1, 2, 3, 4, 5, 6, 7, 8, 9, 10]), (130, [0, 1, 2, 3, 4, 5, 6, 7, 8, 9, 10]), (160, [0, 1, 2, 3, 4, 5, 6, 7, 8, 9, 10]), (162, [0, 1, 2, 3, 4, 5, 6, 7, 8, 10]), (214, [0, 1, 2, 3, 4, 5, 6, 7]), (216, [0, 1, 2, 3, 5, 6, 7]), (235, [0, 1, 2, 3, 4, 5]), (236, [0, 1, 2, 4, 5]), (253, [0, 2, 3, 4, 5]), (308, [0, 2, 3, 4, 5])])
set_option maxRecDepth 100000 in
def zc_X10_drip : List (Nat × Instr) := [(0, .aload_n 0), (1, .iload_n 1), (2, .invokevirtual 147), (5, .ifCond .eq 10), (8, .iload_n 2), (9, .invokestatic 91), (12, .ifCond .ne 5), (15, .iconst (-1)), (16, .ireturn), (17, .aload_n 0), (18, .iload_n 1), (19, .invokevirtual 228), (22, .ifCond .eq 6), (25, .bipush (-4)), (27, .ireturn), (28, .aload_n 0), (29, .getfield 7), (32, .iload_n 2), (33, .iaload), (34, .ifCond .ge 9), (37, .aload_n 0), (38, .iconst 1), (39, .invokevirtual 95), (42, .ireturn), (43, .aload_n 0), (44, .iload_n 2), (45, .invokevirtual 231), (48, .ifCond .ne 9), (51, .aload_n 0), (52, .iconst 3), (53, .invokevirtual 95), (56, .ireturn), (57, .aload_n 0), (58, .iload_n 1), (59, .invokevirtual 208), (62, .iconst 0), (63, .istore_n 3), (64, .iload_n 3), (65, .aload_n 0), (66, .getfield 7), (69, .iload_n 2), (70, .iaload), (71, .if_icmp .ge 68), (74, .aload_n 0), (75, .aload_n 0), (76, .getfield 13), (79, .bipush 40), (81, .iload_n 2), (82, .imul), (83, .iload_n 3), (84, .iadd), (85, .iaload), (86, .invokevirtual 221), (89, .ifCond .eq 50), (92, .aload_n 0), (93, .aload_n 0), (94, .getfield 13), (97, .bipush 40), (99, .iload_n 2), (100, .imul), (101, .iload_n 3), (102, .iadd), (103, .iaload), (104, .invokevirtual 213), (107, .aload_n 0), (108, .getfield 164), (111, .aload_n 0), (112, .getfield 176), (115, .iconst 2), (116, .idiv), (117, .if_icmp .le 16), (120, .aload_n 0), (121, .aload_n 0), (122, .getfield 164), (125, .putfield 80), (128, .aload_n 0), (129, .getfield 155), (132, .ireturn), (133, .iinc 3 1), (136, .goto (-72)), (139, .bipush (-9)), (141, .ireturn)]
set_option maxRecDepth 100000 in
def zm_X10_drip : zi_R := (10, ⟨"WaxWingsModel", "drip", "(II)I"⟩, prog_12_method_82_code, 4, (some .int), false, 2, 1, 0, zc_X10_drip, [(64, [0, 2, 3])])
set_option maxRecDepth 100000 in
def zc_X10_feathers : List (Nat × Instr) := [(0, .aload_n 0), (1, .iload_n 1), (2, .invokevirtual 147), (5, .ifCond .eq 23), (8, .iload_n 2), (9, .i2l), (10, .lconst 0), (11, .iconst 1), (12, .aload_n 0), (13, .getfield 22), (16, .iconst 0), (17, .iaload), (18, .ishl), (19, .iconst 1), (20, .isub), (21, .i2l), (22, .invokestatic 85), (25, .ifCond .ne 5), (28, .iconst (-1)), (29, .ireturn), (30, .aload_n 0), (31, .iload_n 1), (32, .invokevirtual 228), (35, .ifCond .eq 6), (38, .bipush (-4)), (40, .ireturn), (41, .lconst 0), (42, .lstore_n 3), (43, .iconst 0), (44, .istore 5), (46, .iconst 0), (47, .istore 6), (49, .iload 6), (51, .sipush 729), (54, .if_icmp .ge 57), (57, .aload_n 0), (58, .iload_n 1), (59, .invokevirtual 208), (62, .aload_n 0), (63, .iload 6), (65, .invokevirtual 240), (68, .ifCond .eq 37), (71, .aload_n 0), (72, .getfield 237), (75, .iload_n 2), (76, .if_icmp .ne 29), (79, .lload_n 3), (80, .lconst 1), (81, .ladd), (82, .lstore_n 3), (83, .iload 5), (85, .aload_n 0), (86, .getfield 234), (89, .ifCond .le 12), (92, .iconst 1), (93, .aload_n 0), (94, .getfield 158), (97, .ishl), (98, .goto 4), (101, .iconst 0), (102, .ior), (103, .istore 5), (105, .iinc 6 1), (108, .goto (-59)), (111, .aload_n 0), (112, .lload_n 3), (113, .putfield 246), (116, .aload_n 0), (117, .lconst 1), (118, .putfield 72), (121, .aload_n 0), (122, .iload 5), (124, .putfield 80), (127, .iconst 1), (128, .ireturn)]
set_option maxRecDepth 100000 in
def zm_X10_feathers : zi_R := (10, ⟨"WaxWingsModel", "feathers", "(II)I"⟩, prog_12_method_83_code, 7, (some .int), false, 2, 1, 0, zc_X10_feathers, [(49, [0, 1, 2, 3, 5, 6]), (102, [0, 1, 2, 3, 6]), (105, [0, 1, 2, 3, 5, 6])])
set_option maxRecDepth 100000 in
def zc_X10_lots : List (Nat × Instr) := [(0, .aload_n 0), (1, .iload_n 1), (2, .invokevirtual 147), (5, .ifCond .eq 27), (8, .iload_n 2), (9, .i2l), (10, .lconst 1), (11, .ldc2_w 211), (14, .invokestatic 85), (17, .ifCond .eq 15), (20, .iload_n 3), (21, .i2l), (22, .lconst 1), (23, .ldc2_w 289), (26, .invokestatic 85), (29, .ifCond .ne 5), (32, .iconst (-1)), (33, .ireturn), (34, .aload_n 0), (35, .iload_n 1), (36, .invokevirtual 228), (39, .ifCond .eq 6), (42, .bipush (-4)), (44, .ireturn), (45, .aload_n 0), (46, .getfield 22), (49, .iconst 4), (50, .iaload), (51, .iload_n 2), (52, .iadd), (53, .bipush 40), (55, .if_icmp .le 6), (58, .bipush (-2)), (60, .ireturn), (61, .iload_n 3), (62, .i2l), (63, .lstore 4), (65, .iconst 0), (66, .istore 6), (68, .iload 6), (70, .iload_n 2), (71, .if_icmp .ge 129), (74, .aload_n 0), (75, .iload_n 1), (76, .invokevirtual 208), (79, .iconst 0), (80, .istore 7), (82, .iconst 0), (83, .istore 8), (85, .iload 8), (87, .iconst 3), (88, .if_icmp .ge 28), (91, .iload 7), (93, .aload_n 0), (94, .iload 8), (96, .invokevirtual 221), (99, .ifCond .eq 7), (102, .iconst 1), (103, .goto 4), (106, .iconst 0), (107, .iadd), (108, .istore 7), (110, .iinc 8 1), (113, .goto (-28)), (116, .iload 7), (118, .ifCond .ne 6), (121, .iload 6), (123, .ireturn), (124, .lload 4), (126, .ldc2_w 291), (129, .lmul), (130, .ldc2_w 293), (133, .lrem), (134, .lstore 4), (136, .lload 4), (138, .iload 7), (140, .i2l), (141, .lrem), (142, .l2i), (143, .istore 8), (145, .iconst 0), (146, .istore 9), (148, .iload 8), (150, .ifCond .gt 12), (153, .aload_n 0), (154, .iload 9), (156, .invokevirtual 221), (159, .ifCond .ne 28), (162, .iload 8), (164, .aload_n 0), (165, .iload 9), (167, .invokevirtual 221), (170, .ifCond .eq 7), (173, .iconst 1), (174, .goto 4), (177, .iconst 0), (178, .isub), (179, .istore 8), (181, .iinc 9 1), (184, .goto (-36)), (187, .aload_n 0), (188, .iload_n 1), (189, .iload 9), (191, .invokevirtual 224), (194, .iinc 6 1), (197, .goto (-129)), (200, .iload 6), (202, .ireturn)]
set_option maxRecDepth 100000 in
def zm_X10_lots : zi_R := (10, ⟨"WaxWingsModel", "lots", "(III)I"⟩, prog_12_method_84_code, 10, (some .int), false, 3, 1, 0, zc_X10_lots, [(68, [0, 1, 2, 4, 6]), (85, [0, 1, 2, 4, 6, 7, 8]), (107, [0, 1, 2, 4, 6, 8]), (148, [0, 1, 2, 4, 6, 8, 9]), (162, [0, 1, 2, 4, 6, 8, 9]), (178, [0, 1, 2, 4, 6, 9])])
set_option maxRecDepth 100000 in
def zc_X10_asked : List (Nat × Instr) := [(0, .aload_n 0), (1, .getfield 80), (4, .ireturn)]
set_option maxRecDepth 100000 in
def zm_X10_asked : zi_R := (10, ⟨"WaxWingsModel", "asked", "()I"⟩, prog_12_method_85_code, 1, (some .int), false, 0, 1, 0, zc_X10_asked, [])
set_option maxRecDepth 100000 in
def zc_X10_upper : List (Nat × Instr) := [(0, .aload_n 0), (1, .getfield 246), (4, .lreturn)]
set_option maxRecDepth 100000 in
def zm_X10_upper : zi_R := (10, ⟨"WaxWingsModel", "upper", "()J"⟩, prog_12_method_86_code, 1, (some .long), false, 0, 2, 0, zc_X10_upper, [])
set_option maxRecDepth 100000 in
def zc_X10_lower : List (Nat × Instr) := [(0, .aload_n 0), (1, .getfield 72), (4, .lreturn)]
set_option maxRecDepth 100000 in
def zm_X10_lower : zi_R := (10, ⟨"WaxWingsModel", "lower", "()J"⟩, prog_12_method_87_code, 1, (some .long), false, 0, 2, 0, zc_X10_lower, [])
set_option maxRecDepth 100000 in
def zc_X10_countOf : List (Nat × Instr) := [(0, .iconst 0), (1, .istore_n 2), (2, .iconst 0), (3, .istore_n 3), (4, .iload_n 3), (5, .aload_n 0), (6, .getfield 22), (9, .iconst 3), (10, .iaload), (11, .if_icmp .ge 43), (14, .aload_n 0), (15, .getfield 22), (18, .bipush 40), (20, .bipush 9), (22, .iload_n 3), (23, .imul), (24, .iadd), (25, .iaload), (26, .istore 4), (28, .iload_n 2), (29, .iload 4), (31, .iconst 1), (32, .if_icmp .eq 9), (35, .iload 4), (37, .iconst 4), (38, .if_icmp .ne 7), (41, .iconst 1), (42, .goto 4), (45, .iconst 0), (46, .iadd), (47, .istore_n 2), (48, .iinc 3 1), (51, .goto (-47)), (54, .iconst 0), (55, .istore_n 3), (56, .iconst 0), (57, .istore 4), (59, .iload 4), (61, .bipush 6), (63, .if_icmp .ge 101), (66, .iload_n 1), (67, .bipush 6), (69, .if_icmp .ne 17), (72, .aload_n 0), (73, .getfield 7), (76, .iload 4), (78, .iaload), (79, .ifCond .lt 7), (82, .iconst 1), (83, .goto 4), (86, .iconst 0), (87, .istore 5), (89, .iload_n 1), (90, .bipush 7), (92, .if_icmp .ne 23), (95, .iload 4), (97, .iconst 4), (98, .if_icmp .ge 17), (101, .aload_n 0), (102, .getfield 16), (105, .iload 4), (107, .iaload), (108, .ifCond .lt 7), (111, .iconst 1), (112, .goto 4), (115, .iconst 0), (116, .istore 6), (118, .iload_n 3), (119, .iload 5), (121, .ifCond .ne 30), (124, .iload 6), (126, .ifCond .ne 25), (129, .iload_n 1), (130, .bipush 8), (132, .if_icmp .ne 23), (135, .iload 4), (137, .iconst 3), (138, .if_icmp .ge 17), (141, .aload_n 0), (142, .getfield 28), (145, .iload 4), (147, .baload), (148, .ifCond .eq 7), (151, .iconst 1), (152, .goto 4), (155, .iconst 0), (156, .iadd), (157, .istore_n 3), (158, .iinc 4 1), (161, .goto (-102)), (164, .iload_n 1), (165, .ifCond .ne 12), (168, .aload_n 0), (169, .getfield 22), (172, .iconst 3), (173, .iaload), (174, .goto 51), (177, .iload_n 1), (178, .iconst 1), (179, .if_icmp .ne 12), (182, .aload_n 0), (183, .getfield 22), (186, .iconst 0), (187, .iaload), (188, .goto 37), (191, .iload_n 1), (192, .iconst 2), (193, .if_icmp .ne 12), (196, .aload_n 0), (197, .getfield 22), (200, .iconst 1), (201, .iaload), (202, .goto 23), (205, .iload_n 1), (206, .iconst 3), (207, .if_icmp .ne 12), (210, .aload_n 0), (211, .getfield 22), (214, .iconst 2), (215, .iaload), (216, .goto 9), (219, .aload_n 0), (220, .getfield 22), (223, .iconst 4), (224, .iaload), (225, .istore 4), (227, .iload_n 1), (228, .iconst 5), (229, .if_icmp .ge 8), (232, .iload 4), (234, .goto 13), (237, .iload_n 1), (238, .iconst 5), (239, .if_icmp .ne 7), (242, .iload_n 2), (243, .goto 4), (246, .iload_n 3), (247, .ireturn)]
set_option maxRecDepth 100000 in
def zm_X10_countOf : zi_R := (10, ⟨"WaxWingsModel", "countOf", "(I)I"⟩, prog_12_method_88_code, 7, (some .int), false, 1, 1, 0, zc_X10_countOf, [(4, [0, 1, 2, 3]), (41, [0, 1, 3]), (46, [0, 1, 3]), (59, [0, 1, 2, 3, 4]), (86, [0, 1, 2, 3, 4]), (87, [0, 1, 2, 3, 4]), (115, [0, 1, 2, 3, 4, 5]), (116, [0, 1, 2, 3, 4, 5]), (151, [0, 1, 2, 4]), (155, [0, 1, 2, 4]), (156, [0, 1, 2, 4]), (225, [1, 2, 3])])
set_option maxRecDepth 100000 in
def zc_X10_count : List (Nat × Instr) := [(0, .iload_n 1), (1, .i2l), (2, .lconst 0), (3, .ldc2_w 295), (6, .invokestatic 85), (9, .ifCond .eq 11), (12, .aload_n 0), (13, .iload_n 1), (14, .invokevirtual 297), (17, .goto 4), (20, .iconst (-1)), (21, .ireturn)]
set_option maxRecDepth 100000 in
def zm_X10_count : zi_R := (10, ⟨"WaxWingsModel", "count", "(I)I"⟩, prog_12_method_89_code, 2, (some .int), false, 1, 1, 0, zc_X10_count, [])
set_option maxRecDepth 100000 in
def zc_X10_finding : List (Nat × Instr) := [(0, .aload_n 0), (1, .getfield 76), (4, .ireturn)]
set_option maxRecDepth 100000 in
def zm_X10_finding : zi_R := (10, ⟨"WaxWingsModel", "finding", "()I"⟩, prog_12_method_90_code, 1, (some .int), false, 0, 1, 0, zc_X10_finding, [])
set_option maxRecDepth 100000 in
def zc_X10_findings : List (Nat × Instr) := [(0, .iload_n 1), (1, .i2l), (2, .lconst 1), (3, .ldc2_w 83), (6, .invokestatic 85), (9, .ifCond .eq 12), (12, .aload_n 0), (13, .getfield 32), (16, .iload_n 1), (17, .iaload), (18, .goto 4), (21, .iconst (-1)), (22, .ireturn)]
set_option maxRecDepth 100000 in
def zm_X10_findings : zi_R := (10, ⟨"WaxWingsModel", "findings", "(I)I"⟩, prog_12_method_91_code, 2, (some .int), false, 1, 1, 0, zc_X10_findings, [])
set_option maxRecDepth 100000 in
def zc_X10_digest : List (Nat × Instr) := [(0, .ldc2_w 300), (3, .lstore_n 1), (4, .iconst 0), (5, .istore_n 3), (6, .iload_n 3), (7, .bipush 9), (9, .if_icmp .ge 22), (12, .ldc2_w 302), (15, .lload_n 1), (16, .lmul), (17, .aload_n 0), (18, .iload_n 3), (19, .invokevirtual 297), (22, .i2l), (23, .ladd), (24, .lstore_n 1), (25, .iinc 3 1), (28, .goto (-22)), (31, .iconst 0), (32, .istore_n 3), (33, .iload_n 3), (34, .aload_n 0), (35, .getfield 22), (38, .iconst 3), (39, .iaload), (40, .if_icmp .ge 48), (43, .iconst 0), (44, .istore 4), (46, .iload 4), (48, .bipush 8), (50, .if_icmp .ge 32), (53, .ldc2_w 302), (56, .lload_n 1), (57, .lmul), (58, .aload_n 0), (59, .getfield 22), (62, .bipush 40), (64, .bipush 9), (66, .iload_n 3), (67, .imul), (68, .iadd), (69, .iload 4), (71, .iadd), (72, .iaload), (73, .i2l), (74, .ladd), (75, .lstore_n 1), (76, .iinc 4 1), (79, .goto (-33)), (82, .iinc 3 1), (85, .goto (-52)), (88, .iconst 0), (89, .istore_n 3), (90, .iload_n 3), (91, .iconst 3), (92, .if_icmp .ge 42), (95, .ldc2_w 302), (98, .lload_n 1), (99, .lmul), (100, .aload_n 0), (101, .getfield 28), (104, .iload_n 3), (105, .baload), (106, .ifCond .eq 18), (109, .aload_n 0), (110, .getfield 25), (113, .sipush 356), (116, .iload_n 3), (117, .imul), (118, .iconst 4), (119, .iadd), (120, .iaload), (121, .goto 4), (124, .iconst (-1)), (125, .i2l), (126, .ladd), (127, .lstore_n 1), (128, .iinc 3 1), (131, .goto (-41)), (134, .iconst 0), (135, .istore_n 3), (136, .iload_n 3), (137, .bipush 6), (139, .if_icmp .ge 63), (142, .ldc2_w 302), (145, .lload_n 1), (146, .lmul), (147, .aload_n 0), (148, .getfield 7), (151, .iload_n 3), (152, .iaload), (153, .i2l), (154, .ladd), (155, .lstore_n 1), (156, .iconst 0), (157, .istore 4), (159, .iload 4), (161, .aload_n 0), (162, .getfield 7), (165, .iload_n 3), (166, .iaload), (167, .if_icmp .ge 29), (170, .ldc2_w 302), (173, .lload_n 1), (174, .lmul), (175, .aload_n 0), (176, .getfield 13), (179, .bipush 40), (181, .iload_n 3), (182, .imul), (183, .iload 4), (185, .iadd), (186, .iaload), (187, .i2l), (188, .ladd), (189, .lstore_n 1), (190, .iinc 4 1), (193, .goto (-34)), (196, .iinc 3 1), (199, .goto (-63)), (202, .iconst 0), (203, .istore_n 3), (204, .iload_n 3), (205, .iconst 4), (206, .if_icmp .ge 63), (209, .ldc2_w 302), (212, .lload_n 1), (213, .lmul), (214, .aload_n 0), (215, .getfield 16), (218, .iload_n 3), (219, .iaload), (220, .i2l), (221, .ladd), (222, .lstore_n 1), (223, .iconst 0), (224, .istore 4), (226, .iload 4), (228, .aload_n 0), (229, .getfield 16), (232, .iload_n 3), (233, .iaload), (234, .if_icmp .ge 29), (237, .ldc2_w 302), (240, .lload_n 1), (241, .lmul), (242, .aload_n 0), (243, .getfield 19), (246, .bipush 80), (248, .iload_n 3), (249, .imul), (250, .iload 4), (252, .iadd), (253, .iaload), (254, .i2l), (255, .ladd), (256, .lstore_n 1), (257, .iinc 4 1), (260, .goto (-34)), (263, .iinc 3 1), (266, .goto (-62)), (269, .lload_n 1), (270, .lreturn)]
set_option maxRecDepth 100000 in
def zm_X10_digest : zi_R := (10, ⟨"WaxWingsModel", "digest", "()J"⟩, prog_12_method_92_code, 5, (some .long), false, 0, 2, 0, zc_X10_digest, [(6, [0, 1, 3]), (33, [0, 1, 3]), (46, [0, 1, 3, 4]), (90, [0, 1, 3]), (125, [0, 3]), (136, [0, 1, 3]), (159, [0, 1, 3, 4]), (204, [0, 1, 3]), (226, [0, 1, 3, 4])])
set_option maxRecDepth 100000 in
def zc_J6_bitCount_0f7a4 : List (Nat × Instr) := [(0, .iload_n 0), (1, .iload_n 0), (2, .iconst 1), (3, .iushr), (4, .ldc_w 265), (7, .iand), (8, .isub), (9, .istore_n 0), (10, .iload_n 0), (11, .ldc_w 266), (14, .iand), (15, .iload_n 0), (16, .iconst 2), (17, .iushr), (18, .ldc_w 266), (21, .iand), (22, .iadd), (23, .istore_n 0), (24, .iload_n 0), (25, .iload_n 0), (26, .iconst 4), (27, .iushr), (28, .iadd), (29, .ldc_w 267), (32, .iand), (33, .istore_n 0), (34, .iload_n 0), (35, .iload_n 0), (36, .bipush 8), (38, .iushr), (39, .iadd), (40, .istore_n 0), (41, .iload_n 0), (42, .iload_n 0), (43, .bipush 16), (45, .iushr), (46, .iadd), (47, .istore_n 0), (48, .iload_n 0), (49, .bipush 63), (51, .iand), (52, .ireturn)]
set_option maxRecDepth 100000 in
def zm_J6_bitCount_0f7a4 : zi_R := (14, ⟨"java/lang/Integer", "bitCount", "(I)I"⟩, prog_13_method_49_code, 1, (some .int), true, 1, 1, 0, zc_J6_bitCount_0f7a4, [])
set_option maxRecDepth 100000 in
def zc_L_law : List (Nat × Instr) := [(0, .new 7), (3, .dup), (4, .invokespecial 9), (7, .astore_n 1), (8, .new 10), (11, .dup), (12, .invokespecial 12), (15, .astore_n 2), (16, .iconst 0), (17, .istore_n 3), (18, .iload_n 3), (19, .aload_n 0), (20, .arraylength), (21, .bipush 6), (23, .isub), (24, .if_icmp .gt 1562), (27, .aload_n 0), (28, .iload_n 3), (29, .iaload), (30, .bipush 63), (32, .iand), (33, .tableswitch 1547 0 46 #[203, 236, 279, 312, 335, 398, 421, 454, 497, 520, 543, 576, 609, 642, 665, 698, 731, 754, 767, 790, 813, 836, 869, 902, 935, 958, 991, 1034, 1057, 1080, 1103, 1126, 1149, 1182, 1225, 1258, 1291, 1324, 1357, 1390, 1433, 1446, 1460, 1474, 1497, 1510, 1533]), (236, .aload_n 1), (237, .aload_n 0), (238, .iload_n 3), (239, .iconst 1), (240, .iadd), (241, .iaload), (242, .aload_n 0), (243, .iload_n 3), (244, .iconst 2), (245, .iadd), (246, .iaload), (247, .invokevirtual 13), (250, .aload_n 2), (251, .aload_n 0), (252, .iload_n 3), (253, .iconst 1), (254, .iadd), (255, .iaload), (256, .aload_n 0), (257, .iload_n 3), (258, .iconst 2), (259, .iadd), (260, .iaload), (261, .invokevirtual 17), (264, .if_icmp .eq 1316), (267, .iconst 0), (268, .ireturn), (269, .aload_n 1), (270, .aload_n 0), (271, .iload_n 3), (272, .iconst 1), (273, .iadd), (274, .iaload), (275, .aload_n 0), (276, .iload_n 3), (277, .iconst 2), (278, .iadd), (279, .iaload), (280, .aload_n 0), (281, .iload_n 3), (282, .iconst 3), (283, .iadd), (284, .iaload), (285, .invokevirtual 18), (288, .aload_n 2), (289, .aload_n 0), (290, .iload_n 3), (291, .iconst 1), (292, .iadd), (293, .iaload), (294, .aload_n 0), (295, .iload_n 3), (296, .iconst 2), (297, .iadd), (298, .iaload), (299, .aload_n 0), (300, .iload_n 3), (301, .iconst 3), (302, .iadd), (303, .iaload), (304, .invokevirtual 22), (307, .if_icmp .eq 1273), (310, .iconst 0), (311, .ireturn), (312, .aload_n 1), (313, .aload_n 0), (314, .iload_n 3), (315, .iconst 1), (316, .iadd), (317, .iaload), (318, .aload_n 0), (319, .iload_n 3), (320, .iconst 2), (321, .iadd), (322, .iaload), (323, .invokevirtual 23), (326, .aload_n 2), (327, .aload_n 0), (328, .iload_n 3), (329, .iconst 1), (330, .iadd), (331, .iaload), (332, .aload_n 0), (333, .iload_n 3), (334, .iconst 2), (335, .iadd), (336, .iaload), (337, .invokevirtual 26), (340, .if_icmp .eq 1240), (343, .iconst 0), (344, .ireturn), (345, .aload_n 1), (346, .aload_n 0), (347, .iload_n 3), (348, .iconst 1), (349, .iadd), (350, .iaload), (351, .invokevirtual 27), (354, .aload_n 2), (355, .aload_n 0), (356, .iload_n 3), (357, .iconst 1), (358, .iadd), (359, .iaload), (360, .invokevirtual 31), (363, .if_icmp .eq 1217), (366, .iconst 0), (367, .ireturn), (368, .aload_n 1), (369, .aload_n 0), (370, .iload_n 3), (371, .iconst 1), (372, .iadd), (373, .iaload), (374, .aload_n 0), (375, .iload_n 3), (376, .iconst 2), (377, .iadd), (378, .iaload), (379, .aload_n 0), (380, .iload_n 3), (381, .iconst 3), (382, .iadd), (383, .iaload), (384, .aload_n 0), (385, .iload_n 3), (386, .iconst 4), (387, .iadd), (388, .iaload), (389, .aload_n 0), (390, .iload_n 3), (391, .iconst 5), (392, .iadd), (393, .iaload), (394, .invokevirtual 32), (397, .aload_n 2), (398, .aload_n 0), (399, .iload_n 3), (400, .iconst 1), (401, .iadd), (402, .iaload), (403, .aload_n 0), (404, .iload_n 3), (405, .iconst 2), (406, .iadd), (407, .iaload), (408, .aload_n 0), (409, .iload_n 3), (410, .iconst 3), (411, .iadd), (412, .iaload), (413, .aload_n 0), (414, .iload_n 3), (415, .iconst 4), (416, .iadd), (417, .iaload), (418, .aload_n 0), (419, .iload_n 3), (420, .iconst 5), (421, .iadd), (422, .iaload), (423, .invokevirtual 36), (426, .if_icmp .eq 1154), (429, .iconst 0), (430, .ireturn), (431, .aload_n 1), (432, .aload_n 0), (433, .iload_n 3), (434, .iconst 1), (435, .iadd), (436, .iaload), (437, .invokevirtual 37), (440, .aload_n 2), (441, .aload_n 0), (442, .iload_n 3), (443, .iconst 1), (444, .iadd), (445, .iaload), (446, .invokevirtual 40), (449, .if_icmp .eq 1131), (452, .iconst 0), (453, .ireturn), (454, .aload_n 1), (455, .aload_n 0), (456, .iload_n 3), (457, .iconst 1), (458, .iadd), (459, .iaload), (460, .aload_n 0), (461, .iload_n 3), (462, .iconst 2), (463, .iadd), (464, .iaload), (465, .invokevirtual 41), (468, .aload_n 2), (469, .aload_n 0), (470, .iload_n 3), (471, .iconst 1), (472, .iadd), (473, .iaload), (474, .aload_n 0), (475, .iload_n 3), (476, .iconst 2), (477, .iadd), (478, .iaload), (479, .invokevirtual 44), (482, .if_icmp .eq 1098), (485, .iconst 0), (486, .ireturn), (487, .aload_n 1), (488, .aload_n 0), (489, .iload_n 3), (490, .iconst 1), (491, .iadd), (492, .iaload), (493, .aload_n 0), (494, .iload_n 3), (495, .iconst 2), (496, .iadd), (497, .iaload), (498, .aload_n 0), (499, .iload_n 3), (500, .iconst 3), (501, .iadd), (502, .iaload), (503, .invokevirtual 45), (506, .aload_n 2), (507, .aload_n 0), (508, .iload_n 3), (509, .iconst 1), (510, .iadd), (511, .iaload), (512, .aload_n 0), (513, .iload_n 3), (514, .iconst 2), (515, .iadd), (516, .iaload), (517, .aload_n 0), (518, .iload_n 3), (519, .iconst 3), (520, .iadd), (521, .iaload), (522, .invokevirtual 48), (525, .if_icmp .eq 1055), (528, .iconst 0), (529, .ireturn), (530, .aload_n 1), (531, .aload_n 0), (532, .iload_n 3), (533, .iconst 1), (534, .iadd), (535, .iaload), (536, .invokevirtual 49), (539, .aload_n 2), (540, .aload_n 0), (541, .iload_n 3), (542, .iconst 1), (543, .iadd), (544, .iaload), (545, .invokevirtual 52), (548, .if_icmp .eq 1032), (551, .iconst 0), (552, .ireturn), (553, .aload_n 1), (554, .aload_n 0), (555, .iload_n 3), (556, .iconst 1), (557, .iadd), (558, .iaload), (559, .invokevirtual 53), (562, .aload_n 2), (563, .aload_n 0), (564, .iload_n 3), (565, .iconst 1), (566, .iadd), (567, .iaload), (568, .invokevirtual 56), (571, .if_icmp .eq 1009), (574, .iconst 0), (575, .ireturn), (576, .aload_n 1), (577, .aload_n 0), (578, .iload_n 3), (579, .iconst 1), (580, .iadd), (581, .iaload), (582, .aload_n 0), (583, .iload_n 3), (584, .iconst 2), (585, .iadd), (586, .iaload), (587, .invokevirtual 57), (590, .aload_n 2), (591, .aload_n 0), (592, .iload_n 3), (593, .iconst 1), (594, .iadd), (595, .iaload), (596, .aload_n 0), (597, .iload_n 3), (598, .iconst 2), (599, .iadd), (600, .iaload), (601, .invokevirtual 60), (604, .if_icmp .eq 976), (607, .iconst 0), (608, .ireturn), (609, .aload_n 1), (610, .aload_n 0), (611, .iload_n 3), (612, .iconst 1), (613, .iadd), (614, .iaload), (615, .aload_n 0), (616, .iload_n 3), (617, .iconst 2), (618, .iadd), (619, .iaload), (620, .invokevirtual 61), (623, .aload_n 2), (624, .aload_n 0), (625, .iload_n 3), (626, .iconst 1), (627, .iadd), (628, .iaload), (629, .aload_n 0), (630, .iload_n 3), (631, .iconst 2), (632, .iadd), (633, .iaload), (634, .invokevirtual 64), (637, .if_icmp .eq 943), (640, .iconst 0), (641, .ireturn), (642, .aload_n 1), (643, .aload_n 0), (644, .iload_n 3), (645, .iconst 1), (646, .iadd), (647, .iaload), (648, .aload_n 0), (649, .iload_n 3), (650, .iconst 2), (651, .iadd), (652, .iaload), (653, .invokevirtual 65), (656, .aload_n 2), (657, .aload_n 0), (658, .iload_n 3), (659, .iconst 1), (660, .iadd), (661, .iaload), (662, .aload_n 0), (663, .iload_n 3), (664, .iconst 2), (665, .iadd), (666, .iaload), (667, .invokevirtual 68), (670, .if_icmp .eq 910), (673, .iconst 0), (674, .ireturn), (675, .aload_n 1), (676, .aload_n 0), (677, .iload_n 3), (678, .iconst 1), (679, .iadd), (680, .iaload), (681, .invokevirtual 69), (684, .aload_n 2), (685, .aload_n 0), (686, .iload_n 3), (687, .iconst 1), (688, .iadd), (689, .iaload), (690, .invokevirtual 72), (693, .if_icmp .eq 887), (696, .iconst 0), (697, .ireturn), (698, .aload_n 1), (699, .aload_n 0), (700, .iload_n 3), (701, .iconst 1), (702, .iadd), (703, .iaload), (704, .aload_n 0), (705, .iload_n 3), (706, .iconst 2), (707, .iadd), (708, .iaload), (709, .invokevirtual 73), (712, .aload_n 2), (713, .aload_n 0), (714, .iload_n 3), (715, .iconst 1), (716, .iadd), (717, .iaload), (718, .aload_n 0), (719, .iload_n 3), (720, .iconst 2), (721, .iadd), (722, .iaload), (723, .invokevirtual 76), (726, .if_icmp .eq 854), (729, .iconst 0), (730, .ireturn), (731, .aload_n 1), (732, .aload_n 0), (733, .iload_n 3), (734, .iconst 1), (735, .iadd), (736, .iaload), (737, .aload_n 0), (738, .iload_n 3), (739, .iconst 2), (740, .iadd), (741, .iaload), (742, .invokevirtual 77), (745, .aload_n 2), (746, .aload_n 0), (747, .iload_n 3), (748, .iconst 1), (749, .iadd), (750, .iaload), (751, .aload_n 0), (752, .iload_n 3), (753, .iconst 2), (754, .iadd), (755, .iaload), (756, .invokevirtual 80), (759, .if_icmp .eq 821), (762, .iconst 0), (763, .ireturn), (764, .aload_n 1), (765, .aload_n 0), (766, .iload_n 3), (767, .iconst 1), (768, .iadd), (769, .iaload), (770, .invokevirtual 81), (773, .aload_n 2), (774, .aload_n 0), (775, .iload_n 3), (776, .iconst 1), (777, .iadd), (778, .iaload), (779, .invokevirtual 84), (782, .if_icmp .eq 798), (785, .iconst 0), (786, .ireturn), (787, .aload_n 1), (788, .invokevirtual 85), (791, .aload_n 2), (792, .invokevirtual 89), (795, .if_icmp .eq 785), (798, .iconst 0), (799, .ireturn), (800, .aload_n 1), (801, .aload_n 0), (802, .iload_n 3), (803, .iconst 1), (804, .iadd), (805, .iaload), (806, .invokevirtual 90), (809, .aload_n 2), (810, .aload_n 0), (811, .iload_n 3), (812, .iconst 1), (813, .iadd), (814, .iaload), (815, .invokevirtual 93), (818, .if_icmp .eq 762), (821, .iconst 0), (822, .ireturn), (823, .aload_n 1), (824, .aload_n 0), (825, .iload_n 3), (826, .iconst 1), (827, .iadd), (828, .iaload), (829, .invokevirtual 94), (832, .aload_n 2), (833, .aload_n 0), (834, .iload_n 3), (835, .iconst 1), (836, .iadd), (837, .iaload), (838, .invokevirtual 97), (841, .if_icmp .eq 739), (844, .iconst 0), (845, .ireturn), (846, .aload_n 1), (847, .aload_n 0), (848, .iload_n 3), (849, .iconst 1), (850, .iadd), (851, .iaload), (852, .invokevirtual 98), (855, .aload_n 2), (856, .aload_n 0), (857, .iload_n 3), (858, .iconst 1), (859, .iadd), (860, .iaload), (861, .invokevirtual 101), (864, .if_icmp .eq 716), (867, .iconst 0), (868, .ireturn), (869, .aload_n 1), (870, .aload_n 0), (871, .iload_n 3), (872, .iconst 1), (873, .iadd), (874, .iaload), (875, .aload_n 0), (876, .iload_n 3), (877, .iconst 2), (878, .iadd), (879, .iaload), (880, .invokevirtual 102), (883, .aload_n 2), (884, .aload_n 0), (885, .iload_n 3), (886, .iconst 1), (887, .iadd), (888, .iaload), (889, .aload_n 0), (890, .iload_n 3), (891, .iconst 2), (892, .iadd), (893, .iaload), (894, .invokevirtual 105), (897, .if_icmp .eq 683), (900, .iconst 0), (901, .ireturn), (902, .aload_n 1), (903, .aload_n 0), (904, .iload_n 3), (905, .iconst 1), (906, .iadd), (907, .iaload), (908, .aload_n 0), (909, .iload_n 3), (910, .iconst 2), (911, .iadd), (912, .iaload), (913, .invokevirtual 106), (916, .aload_n 2), (917, .aload_n 0), (918, .iload_n 3), (919, .iconst 1), (920, .iadd), (921, .iaload), (922, .aload_n 0), (923, .iload_n 3), (924, .iconst 2), (925, .iadd), (926, .iaload), (927, .invokevirtual 109), (930, .if_icmp .eq 650), (933, .iconst 0), (934, .ireturn), (935, .aload_n 1), (936, .aload_n 0), (937, .iload_n 3), (938, .iconst 1), (939, .iadd), (940, .iaload), (941, .aload_n 0), (942, .iload_n 3), (943, .iconst 2), (944, .iadd), (945, .iaload), (946, .invokevirtual 110), (949, .aload_n 2), (950, .aload_n 0), (951, .iload_n 3), (952, .iconst 1), (953, .iadd), (954, .iaload), (955, .aload_n 0), (956, .iload_n 3), (957, .iconst 2), (958, .iadd), (959, .iaload), (960, .invokevirtual 113), (963, .if_icmp .eq 617), (966, .iconst 0), (967, .ireturn), (968, .aload_n 1), (969, .aload_n 0), (970, .iload_n 3), (971, .iconst 1), (972, .iadd), (973, .iaload), (974, .invokevirtual 114), (977, .aload_n 2), (978, .aload_n 0), (979, .iload_n 3), (980, .iconst 1), (981, .iadd), (982, .iaload), (983, .invokevirtual 117), (986, .if_icmp .eq 594), (989, .iconst 0), (990, .ireturn), (991, .aload_n 1), (992, .aload_n 0), (993, .iload_n 3), (994, .iconst 1), (995, .iadd), (996, .iaload), (997, .aload_n 0), (998, .iload_n 3), (999, .iconst 2), (1000, .iadd), (1001, .iaload), (1002, .invokevirtual 118), (1005, .aload_n 2), (1006, .aload_n 0), (1007, .iload_n 3), (1008, .iconst 1), (1009, .iadd), (1010, .iaload), (1011, .aload_n 0), (1012, .iload_n 3), (1013, .iconst 2), (1014, .iadd), (1015, .iaload), (1016, .invokevirtual 121), (1019, .if_icmp .eq 561), (1022, .iconst 0), (1023, .ireturn), (1024, .aload_n 1), (1025, .aload_n 0), (1026, .iload_n 3), (1027, .iconst 1), (1028, .iadd), (1029, .iaload), (1030, .aload_n 0), (1031, .iload_n 3), (1032, .iconst 2), (1033, .iadd), (1034, .iaload), (1035, .aload_n 0), (1036, .iload_n 3), (1037, .iconst 3), (1038, .iadd), (1039, .iaload), (1040, .invokevirtual 122), (1043, .aload_n 2), (1044, .aload_n 0), (1045, .iload_n 3), (1046, .iconst 1), (1047, .iadd), (1048, .iaload), (1049, .aload_n 0), (1050, .iload_n 3), (1051, .iconst 2), (1052, .iadd), (1053, .iaload), (1054, .aload_n 0), (1055, .iload_n 3), (1056, .iconst 3), (1057, .iadd), (1058, .iaload), (1059, .invokevirtual 125), (1062, .if_icmp .eq 518), (1065, .iconst 0), (1066, .ireturn), (1067, .aload_n 1), (1068, .aload_n 0), (1069, .iload_n 3), (1070, .iconst 1), (1071, .iadd), (1072, .iaload), (1073, .invokevirtual 126), (1076, .aload_n 2), (1077, .aload_n 0), (1078, .iload_n 3), (1079, .iconst 1), (1080, .iadd), (1081, .iaload), (1082, .invokevirtual 129), (1085, .if_icmp .eq 495), (1088, .iconst 0), (1089, .ireturn), (1090, .aload_n 1), (1091, .aload_n 0), (1092, .iload_n 3), (1093, .iconst 1), (1094, .iadd), (1095, .iaload), (1096, .invokevirtual 130), (1099, .aload_n 2), (1100, .aload_n 0), (1101, .iload_n 3), (1102, .iconst 1), (1103, .iadd), (1104, .iaload), (1105, .invokevirtual 133), (1108, .if_icmp .eq 472), (1111, .iconst 0), (1112, .ireturn), (1113, .aload_n 1), (1114, .aload_n 0), (1115, .iload_n 3), (1116, .iconst 1), (1117, .iadd), (1118, .iaload), (1119, .invokevirtual 134), (1122, .aload_n 2), (1123, .aload_n 0), (1124, .iload_n 3), (1125, .iconst 1), (1126, .iadd), (1127, .iaload), (1128, .invokevirtual 137), (1131, .if_icmp .eq 449), (1134, .iconst 0), (1135, .ireturn), (1136, .aload_n 1), (1137, .aload_n 0), (1138, .iload_n 3), (1139, .iconst 1), (1140, .iadd), (1141, .iaload), (1142, .invokevirtual 138), (1145, .aload_n 2), (1146, .aload_n 0), (1147, .iload_n 3), (1148, .iconst 1), (1149, .iadd), (1150, .iaload), (1151, .invokevirtual 141), (1154, .if_icmp .eq 426), (1157, .iconst 0), (1158, .ireturn), (1159, .aload_n 1), (1160, .aload_n 0), (1161, .iload_n 3), (1162, .iconst 1), (1163, .iadd), (1164, .iaload), (1165, .invokevirtual 142), (1168, .aload_n 2), (1169, .aload_n 0), (1170, .iload_n 3), (1171, .iconst 1), (1172, .iadd), (1173, .iaload), (1174, .invokevirtual 145), (1177, .if_icmp .eq 403), (1180, .iconst 0), (1181, .ireturn), (1182, .aload_n 1), (1183, .aload_n 0), (1184, .iload_n 3), (1185, .iconst 1), (1186, .iadd), (1187, .iaload), (1188, .aload_n 0), (1189, .iload_n 3), (1190, .iconst 2), (1191, .iadd), (1192, .iaload), (1193, .invokevirtual 146), (1196, .aload_n 2), (1197, .aload_n 0), (1198, .iload_n 3), (1199, .iconst 1), (1200, .iadd), (1201, .iaload), (1202, .aload_n 0), (1203, .iload_n 3), (1204, .iconst 2), (1205, .iadd), (1206, .iaload), (1207, .invokevirtual 149), (1210, .if_icmp .eq 370), (1213, .iconst 0), (1214, .ireturn), (1215, .aload_n 1), (1216, .aload_n 0), (1217, .iload_n 3), (1218, .iconst 1), (1219, .iadd), (1220, .iaload), (1221, .aload_n 0), (1222, .iload_n 3), (1223, .iconst 2), (1224, .iadd), (1225, .iaload), (1226, .aload_n 0), (1227, .iload_n 3), (1228, .iconst 3), (1229, .iadd), (1230, .iaload), (1231, .invokevirtual 150), (1234, .aload_n 2), (1235, .aload_n 0), (1236, .iload_n 3), (1237, .iconst 1), (1238, .iadd), (1239, .iaload), (1240, .aload_n 0), (1241, .iload_n 3), (1242, .iconst 2), (1243, .iadd), (1244, .iaload), (1245, .aload_n 0), (1246, .iload_n 3), (1247, .iconst 3), (1248, .iadd), (1249, .iaload), (1250, .invokevirtual 153), (1253, .if_icmp .eq 327), (1256, .iconst 0), (1257, .ireturn), (1258, .aload_n 1), (1259, .aload_n 0), (1260, .iload_n 3), (1261, .iconst 1), (1262, .iadd), (1263, .iaload), (1264, .aload_n 0), (1265, .iload_n 3), (1266, .iconst 2), (1267, .iadd), (1268, .iaload), (1269, .invokevirtual 154), (1272, .aload_n 2), (1273, .aload_n 0), (1274, .iload_n 3), (1275, .iconst 1), (1276, .iadd), (1277, .iaload), (1278, .aload_n 0), (1279, .iload_n 3), (1280, .iconst 2), (1281, .iadd), (1282, .iaload), (1283, .invokevirtual 157), (1286, .if_icmp .eq 294), (1289, .iconst 0), (1290, .ireturn), (1291, .aload_n 1), (1292, .aload_n 0), (1293, .iload_n 3), (1294, .iconst 1), (1295, .iadd), (1296, .iaload), (1297, .aload_n 0), (1298, .iload_n 3), (1299, .iconst 2), (1300, .iadd), (1301, .iaload), (1302, .invokevirtual 158), (1305, .aload_n 2), (1306, .aload_n 0), (1307, .iload_n 3), (1308, .iconst 1), (1309, .iadd), (1310, .iaload), (1311, .aload_n 0), (1312, .iload_n 3), (1313, .iconst 2), (1314, .iadd), (1315, .iaload), (1316, .invokevirtual 161), (1319, .if_icmp .eq 261), (1322, .iconst 0), (1323, .ireturn), (1324, .aload_n 1), (1325, .aload_n 0), (1326, .iload_n 3), (1327, .iconst 1), (1328, .iadd), (1329, .iaload), (1330, .aload_n 0), (1331, .iload_n 3), (1332, .iconst 2), (1333, .iadd), (1334, .iaload), (1335, .invokevirtual 162), (1338, .aload_n 2), (1339, .aload_n 0), (1340, .iload_n 3), (1341, .iconst 1), (1342, .iadd), (1343, .iaload), (1344, .aload_n 0), (1345, .iload_n 3), (1346, .iconst 2), (1347, .iadd), (1348, .iaload), (1349, .invokevirtual 165), (1352, .if_icmp .eq 228), (1355, .iconst 0), (1356, .ireturn), (1357, .aload_n 1), (1358, .aload_n 0), (1359, .iload_n 3), (1360, .iconst 1), (1361, .iadd), (1362, .iaload), (1363, .aload_n 0), (1364, .iload_n 3), (1365, .iconst 2), (1366, .iadd), (1367, .iaload), (1368, .invokevirtual 166), (1371, .aload_n 2), (1372, .aload_n 0), (1373, .iload_n 3), (1374, .iconst 1), (1375, .iadd), (1376, .iaload), (1377, .aload_n 0), (1378, .iload_n 3), (1379, .iconst 2), (1380, .iadd), (1381, .iaload), (1382, .invokevirtual 169), (1385, .if_icmp .eq 195), (1388, .iconst 0), (1389, .ireturn), (1390, .aload_n 1), (1391, .aload_n 0), (1392, .iload_n 3), (1393, .iconst 1), (1394, .iadd), (1395, .iaload), (1396, .aload_n 0), (1397, .iload_n 3), (1398, .iconst 2), (1399, .iadd), (1400, .iaload), (1401, .invokevirtual 170), (1404, .aload_n 2), (1405, .aload_n 0), (1406, .iload_n 3), (1407, .iconst 1), (1408, .iadd), (1409, .iaload), (1410, .aload_n 0), (1411, .iload_n 3), (1412, .iconst 2), (1413, .iadd), (1414, .iaload), (1415, .invokevirtual 173), (1418, .if_icmp .eq 162), (1421, .iconst 0), (1422, .ireturn), (1423, .aload_n 1), (1424, .aload_n 0), (1425, .iload_n 3), (1426, .iconst 1), (1427, .iadd), (1428, .iaload), (1429, .aload_n 0), (1430, .iload_n 3), (1431, .iconst 2), (1432, .iadd), (1433, .iaload), (1434, .aload_n 0), (1435, .iload_n 3), (1436, .iconst 3), (1437, .iadd), (1438, .iaload), (1439, .invokevirtual 174), (1442, .aload_n 2), (1443, .aload_n 0), (1444, .iload_n 3), (1445, .iconst 1), (1446, .iadd), (1447, .iaload), (1448, .aload_n 0), (1449, .iload_n 3), (1450, .iconst 2), (1451, .iadd), (1452, .iaload), (1453, .aload_n 0), (1454, .iload_n 3), (1455, .iconst 3), (1456, .iadd), (1457, .iaload), (1458, .invokevirtual 177), (1461, .if_icmp .eq 119), (1464, .iconst 0), (1465, .ireturn), (1466, .aload_n 1), (1467, .invokevirtual 178), (1470, .aload_n 2), (1471, .invokevirtual 181), (1474, .if_icmp .eq 106), (1477, .iconst 0), (1478, .ireturn), (1479, .aload_n 1), (1480, .invokevirtual 182), (1483, .aload_n 2), (1484, .invokevirtual 186), (1487, .lcmp), (1488, .ifCond .eq 92), (1491, .iconst 0), (1492, .ireturn), (1493, .aload_n 1), (1494, .invokevirtual 187), (1497, .aload_n 2), (1498, .invokevirtual 190), (1501, .lcmp), (1502, .ifCond .eq 78), (1505, .iconst 0), (1506, .ireturn), (1507, .aload_n 1), (1508, .aload_n 0), (1509, .iload_n 3), (1510, .iconst 1), (1511, .iadd), (1512, .iaload), (1513, .invokevirtual 191), (1516, .aload_n 2), (1517, .aload_n 0), (1518, .iload_n 3), (1519, .iconst 1), (1520, .iadd), (1521, .iaload), (1522, .invokevirtual 194), (1525, .if_icmp .eq 55), (1528, .iconst 0), (1529, .ireturn), (1530, .aload_n 1), (1531, .invokevirtual 195), (1534, .aload_n 2), (1535, .invokevirtual 198), (1538, .if_icmp .eq 42), (1541, .iconst 0), (1542, .ireturn), (1543, .aload_n 1), (1544, .aload_n 0), (1545, .iload_n 3), (1546, .iconst 1), (1547, .iadd), (1548, .iaload), (1549, .invokevirtual 199), (1552, .aload_n 2), (1553, .aload_n 0), (1554, .iload_n 3), (1555, .iconst 1), (1556, .iadd), (1557, .iaload), (1558, .invokevirtual 202), (1561, .if_icmp .eq 19), (1564, .iconst 0), (1565, .ireturn), (1566, .aload_n 1), (1567, .invokevirtual 203), (1570, .aload_n 2), (1571, .invokevirtual 206), (1574, .lcmp), (1575, .ifCond .eq 5), (1578, .iconst 0), (1579, .ireturn), (1580, .iinc 3 6), (1583, .goto (-1565)), (1586, .iconst 1), (1587, .ireturn)]
set_option maxRecDepth 100000 in
def zm_L_law : zi_R := (12, ⟨"WaxWingsLaw", "law", "([I)Z"⟩, code, 4, (some .boolean), true, 1, 4, 0, zc_L_law, [(18, [0, 1, 2, 3]), (236, [0, 1, 2, 3]), (269, [0, 1, 2, 3]), (312, [0, 1, 2, 3]), (345, [0, 1, 2, 3]), (368, [0, 1, 2, 3]), (431, [0, 1, 2, 3]), (454, [0, 1, 2, 3]), (487, [0, 1, 2, 3]), (530, [0, 1, 2, 3]), (553, [0, 1, 2, 3]), (576, [0, 1, 2, 3]), (609, [0, 1, 2, 3]), (642, [0, 1, 2, 3]), (675, [0, 1, 2, 3]), (698, [0, 1, 2, 3]), (731, [0, 1, 2, 3]), (764, [0, 1, 2, 3]), (787, [0, 1, 2, 3]), (800, [0, 1, 2, 3]), (823, [0, 1, 2, 3]), (846, [0, 1, 2, 3]), (869, [0, 1, 2, 3]), (902, [0, 1, 2, 3]), (935, [0, 1, 2, 3]), (968, [0, 1, 2, 3]), (991, [0, 1, 2, 3]), (1024, [0, 1, 2, 3]), (1067, [0, 1, 2, 3]), (1090, [0, 1, 2, 3]), (1113, [0, 1, 2, 3]), (1136, [0, 1, 2, 3]), (1159, [0, 1, 2, 3]), (1182, [0, 1, 2, 3]), (1215, [0, 1, 2, 3]), (1258, [0, 1, 2, 3]), (1291, [0, 1, 2, 3]), (1324, [0, 1, 2, 3]), (1357, [0, 1, 2, 3]), (1390, [0, 1, 2, 3]), (1423, [0, 1, 2, 3]), (1466, [0, 1, 2, 3]), (1479, [0, 1, 2, 3]), (1493, [0, 1, 2, 3]), (1507, [0, 1, 2, 3]), (1530, [0, 1, 2, 3]), (1543, [0, 1, 2, 3]), (1566, [0, 1, 2, 3]), (1580, [0, 1, 2, 3])])
end
section
/-! THE LINKS: fields, methods, constants by own class and pool number; the place of the word that says so in lw_tbl -/
def zi_cns2 : List (Nat × String) := [(0, "WaxWings$Air"), (1, "WaxWings$Bird"), (2, "WaxWings$Flight"), (3, "WaxWings$Gusts"), (4, "WaxWings$Reader"), (5, "WaxWings$Row"), (6, "WaxWings$Sky"), (7, "WaxWings$Spot"), (8, "WaxWings$Walker"), (9, "WaxWings"), (10, "WaxWingsModel"), (12, "WaxWingsLaw"), (13, "java/lang/Math"), (14, "java/lang/Integer")]
def zi_cn (w : Nat) : String := (zi_at zi_cns2 w).getD ""
-- idx, (class, slot, type, of a nest mate, place)
def zi_fls : List (Nat × List (Nat × Nat × Nat × Nat × Bool × Nat)) := [(0, [(9, 0, 0, 2, false, 95), (15, 0, 1, 0, false, 96), (19, 0, 2, 0, false, 100)]),
  (1, [(30, 7, 0, 0, true, 134), (33, 7, 1, 0, true, 139), (36, 7, 2, 0, true, 145), (39, 7, 3, 0, true, 149), (42, 7, 4, 0, true, 153), (45, 7, 5, 0, true, 156), (10, 1, 0, 2, false, 173), (20, 1, 1, 0, false, 177), (24, 1, 2, 0, false, 181), (27, 1, 3, 0, false, 183)]),
  (2, [(38, 0, 1, 0, true, 97), (33, 7, 0, 0, true, 133), (59, 7, 1, 0, true, 141), (72, 7, 2, 0, true, 146), (43, 7, 3, 0, true, 150), (82, 7, 4, 0, true, 154), (52, 7, 5, 0, true, 158), (15, 1, 1, 0, true, 176), (22, 1, 2, 0, true, 180), (26, 1, 3, 0, true, 182), (9, 2, 0, 2, false, 231), (21, 2, 1, 0, false, 232), (25, 2, 2, 0, false, 234), (29, 2, 3, 0, false, 236), (30, 2, 4, 0, false, 238)]),
  (3, [(80, 7, 1, 0, true, 140), (52, 7, 5, 0, true, 157), (17, 3, 0, 2, false, 283), (11, 3, 1, 2, false, 284), (44, 3, 2, 0, false, 285), (48, 3, 3, 2, false, 286)]),
  (4, [(70, 0, 1, 0, true, 98), (73, 0, 2, 0, true, 101), (111, 6, 0, 2, true, 196), (97, 6, 4, 0, true, 202), (94, 6, 5, 0, true, 205), (12, 4, 0, 2, false, 306), (21, 4, 1, 2, false, 307), (29, 4, 2, 2, false, 308), (25, 4, 3, 0, false, 309)]),
  (5, [(19, 5, 0, 2, false, 329), (7, 5, 1, 0, false, 330)]),
  (6, [(44, 7, 0, 0, true, 135), (40, 1, 0, 2, true, 174), (33, 1, 1, 0, true, 178), (11, 6, 0, 2, false, 195), (17, 6, 1, 2, false, 197), (23, 6, 2, 2, false, 198), (64, 6, 3, 3, false, 199), (29, 6, 4, 0, false, 201), (68, 6, 5, 0, false, 204), (47, 6, 6, 0, false, 207)]),
  (7, [(7, 7, 0, 0, false, 132), (13, 7, 1, 0, false, 138), (16, 7, 2, 0, false, 143), (19, 7, 3, 0, false, 148), (22, 7, 4, 0, false, 152), (25, 7, 5, 0, false, 155)]),
  (8, [(74, 7, 0, 0, true, 136), (77, 7, 1, 0, true, 142), (38, 7, 2, 0, true, 144), (21, 8, 0, 2, false, 259), (11, 8, 1, 2, false, 260), (17, 8, 2, 2, false, 261), (30, 8, 3, 0, false, 262), (34, 8, 4, 3, false, 263)]),
  (9, [(184, 0, 1, 0, true, 99), (178, 0, 2, 0, true, 102), (190, 7, 0, 0, true, 137), (261, 7, 2, 0, true, 147), (324, 7, 3, 0, true, 151), (216, 7, 5, 0, true, 159), (187, 1, 0, 2, true, 175), (162, 1, 1, 0, true, 179), (200, 1, 3, 0, true, 184), (235, 6, 3, 3, true, 200), (150, 6, 4, 0, true, 203), (168, 6, 5, 0, true, 206), (210, 6, 6, 0, true, 208), (286, 2, 1, 0, true, 233), (270, 2, 2, 0, true, 235), (284, 2, 3, 0, true, 237), (285, 2, 4, 0, true, 239), (11, 9, 0, 2, false, 336), (15, 9, 1, 2, false, 337), (21, 9, 2, 2, false, 338), (28, 9, 3, 2, false, 339), (32, 9, 4, 2, false, 340), (41, 9, 5, 2, false, 341), (50, 9, 6, 2, false, 342), (57, 9, 7, 2, false, 343), (64, 9, 8, 2, false, 344), (71, 9, 9, 2, false, 345), (75, 9, 10, 2, false, 346), (79, 9, 11, 2, false, 347), (343, 9, 12, 0, false, 348), (112, 9, 13, 0, false, 349), (337, 9, 14, 1, false, 350), (82, 9, 15, 1, false, 351)]),
  (10, [(7, 10, 0, 2, false, 968), (13, 10, 1, 2, false, 969), (16, 10, 2, 2, false, 970), (19, 10, 3, 2, false, 971), (22, 10, 4, 2, false, 972), (25, 10, 5, 2, false, 973), (28, 10, 6, 2, false, 974), (32, 10, 7, 2, false, 975), (76, 10, 8, 0, false, 976), (80, 10, 9, 0, false, 977), (246, 10, 10, 1, false, 978), (72, 10, 11, 1, false, 979), (35, 10, 12, 2, false, 980), (111, 10, 13, 0, false, 981), (108, 10, 14, 0, false, 982), (105, 10, 15, 0, false, 983), (38, 10, 16, 2, false, 984), (152, 10, 17, 0, false, 985), (155, 10, 18, 0, false, 986), (158, 10, 19, 0, false, 987), (161, 10, 20, 0, false, 988), (164, 10, 21, 0, false, 989), (167, 10, 22, 0, false, 990), (173, 10, 23, 0, false, 991), (176, 10, 24, 0, false, 992), (170, 10, 25, 0, false, 993), (179, 10, 26, 0, false, 994), (41, 10, 27, 2, false, 995), (234, 10, 28, 0, false, 996), (237, 10, 29, 0, false, 997), (44, 10, 30, 2, false, 998), (47, 10, 31, 2, false, 999), (50, 10, 32, 2, false, 1000), (53, 10, 33, 2, false, 1001), (56, 10, 34, 2, false, 1002), (59, 10, 35, 2, false, 1003), (62, 10, 36, 2, false, 1004), (66, 10, 37, 2, false, 1005), (69, 10, 38, 2, false, 1006)])]
def zi_fl (w idx : Nat) : Option (Nat × Nat × Nat × Bool × Nat) := zi_at ((zi_at zi_fls w).getD []) idx
-- idx, (method, of a nest mate, place, place of the method in zi_mts)
set_option maxRecDepth 100000 in
def zi_lks : List (Nat × List (Nat × zi_R × Bool × Nat × Nat)) := [(1, [(16, zm_X7_take, false, 570, 52)]),
  (2, [(85, zm_X2_move, false, 643, 11), (55, zm_X2_isOver, false, 647, 7), (62, zm_X0_look, false, 651, 0), (68, zm_X7_take, false, 653, 52), (75, zm_X2_cost, false, 654, 9), (89, zm_X2_settle, false, 655, 13), (79, zm_X2_warmth, false, 659, 10)]),
  (3, [(22, zm_X3_begin, false, 821, 17), (40, zm_X7_take, false, 825, 52), (26, zm_X3_chance, false, 826, 18), (30, zm_X2_isOver, false, 830, 7), (56, zm_X5_has, false, 832, 37), (62, zm_X5_get, false, 833, 39), (36, zm_X3_chanceBy, false, 834, 19), (70, zm_X2_move, false, 838, 11), (74, zm_X2_canSink, false, 839, 12), (77, zm_X3_settledChance, false, 843, 20), (83, zm_X2_settle, false, 847, 13)]),
  (4, [(33, zm_X4_skipBlanks, false, 489, 25), (66, zm_X4_here, false, 493, 24), (56, zm_X5_has, false, 497, 37), (62, zm_X5_get, false, 498, 39), (36, zm_X4_readLines, false, 499, 26), (76, zm_X4_readLine, false, 503, 27), (83, zm_X4_placeOf, false, 509, 33), (87, zm_X0_fill, false, 512, 1), (40, zm_X4_readSun, false, 516, 28), (91, zm_X4_figureBelow, false, 520, 32), (43, zm_X4_readFlyers, false, 524, 29), (103, zm_X4_readFlyer, false, 530, 30), (107, zm_X0_look, false, 534, 0), (115, zm_X1_begin, false, 538, 4), (46, zm_X4_readEnd, false, 542, 31), (49, zm_X0_take, false, 558, 2), (53, zm_X6_take, false, 562, 51)]),
  (5, [(23, zm_X5_has, false, 432, 37), (30, zm_X5_hasRun, false, 457, 38), (42, zm_X5_get, false, 961, 39)]),
  (6, [(71, zm_X1_take, false, 566, 3), (50, zm_X7_take, false, 574, 52), (60, zm_X6_birdAt, false, 674, 45), (36, zm_X9_isOfKind, true, 934, 114)]),
  (8, [(26, zm_X7_take, false, 716, 52), (41, zm_X2_isOver, false, 721, 7), (48, zm_X2_fly, false, 723, 14), (61, zm_X8_size, false, 734, 56), (65, zm_X5_make, false, 735, 42), (71, zm_X5_set, false, 736, 40), (80, zm_X2_drips, false, 900, 8)]),
  (9, [(89, zm_X9_rowAt, false, 389, 108), (93, zm_X9_madeAnew, false, 393, 110), (354, zm_X5_room, false, 397, 34), (101, zm_X9_refuse, false, 401, 111), (315, zm_X5_make, false, 405, 42), (97, zm_X5_isThere, false, 416, 36), (105, zm_X5_has, false, 420, 37), (109, zm_X5_get, false, 424, 39), (116, zm_X5_set, false, 428, 40), (120, zm_X5_drop, false, 441, 41), (123, zm_X5_hasRun, false, 449, 38), (127, zm_X5_takeRun, false, 453, 43), (131, zm_X5_size, false, 465, 35), (135, zm_X9_textAt, false, 473, 109), (138, zm_X4_read, false, 485, 22), (142, zm_X4_place, false, 546, 21), (145, zm_X4_hand, false, 554, 23), (149, zm_X6_drop, false, 575, 50), (153, zm_X6_birdAt, false, 583, 45), (157, zm_X1_tell, false, 587, 5), (165, zm_X9_isOfKind, false, 595, 114), (171, zm_X2_board, false, 598, 6), (175, zm_X2_cost, false, 602, 9), (181, zm_X2_warmth, false, 607, 10), (193, zm_X6_othersIn, false, 611, 47), (197, zm_X0_look, false, 619, 0), (203, zm_X9_isBeat, false, 632, 113), (206, zm_X9_perform, false, 635, 116), (223, zm_X2_fly, false, 639, 14), (357, zm_X6_note, false, 660, 48), (242, zm_X7_take, false, 664, 52), (213, zm_X6_goBack, false, 669, 49), (219, zm_X2_isOver, false, 679, 7), (227, zm_X9_openBeats, false, 684, 117), (231, zm_X6_take, false, 692, 51), (239, zm_X9_holdsBeatsAlone, false, 701, 115), (245, zm_X9_setOut, false, 708, 119), (361, zm_X8_start, false, 712, 53), (249, zm_X8_findNext, false, 717, 55), (252, zm_X8_size, false, 724, 56), (253, zm_X8_write, false, 730, 58), (257, zm_X8_end, false, 741, 57), (264, zm_X9_tell, false, 749, 112), (267, zm_X8_heightsIn, false, 757, 59), (273, zm_X9_hasWay, false, 769, 120), (276, zm_X8_strengthen, false, 777, 54), (287, zm_X9_loadsOf, false, 798, 121), (290, zm_X9_carriersOf, false, 802, 123), (364, zm_X9_shareOf, false, 806, 122), (293, zm_X9_writeShares, false, 809, 124), (297, zm_X3_chanceOf, false, 817, 15), (303, zm_X3_bestBeat, false, 858, 16), (307, zm_J6_bitCount_0f7a4, false, 866, 220), (312, zm_X9_farthestFrom, false, 872, 126), (318, zm_X9_hasBoat, false, 876, 125), (321, zm_X2_drips, false, 888, 8), (327, zm_X8_dripColumns, false, 896, 60), (334, zm_X9_bitAt, false, 907, 118), (340, zm_X9_tally, false, 926, 127), (373, zm_X6_oldOnes, false, 930, 46), (376, zm_X9_thereOf, false, 935, 128), (380, zm_X9_keptSkies, false, 938, 129), (350, zm_X5_digestOn, false, 956, 44)]),
  (10, [(91, zm_X10_isRow, false, 1092, 134), (85, zm_X10_in, false, 1096, 130), (95, zm_X10_finds, false, 1099, 132), (99, zm_X10_tells, false, 1107, 133), (102, zm_X10_isText, false, 1131, 135), (144, zm_X10_faultOf, false, 1143, 153), (141, zm_X10_reads, false, 1147, 152), (132, zm_X10_readsAir, false, 1151, 150), (114, zm_X10_sign, false, 1155, 145), (122, zm_X10_airOf, false, 1159, 147), (128, zm_X10_isFigure, false, 1162, 149), (135, zm_X10_isRest, false, 1168, 146), (138, zm_X10_readsFlyer, false, 1172, 151), (125, zm_X10_kindOf, false, 1176, 148), (147, zm_X10_isFlyer, false, 1187, 136), (208, zm_X10_takes, false, 1196, 157), (182, zm_X10_last, false, 1200, 159), (198, zm_X10_costs, false, 1204, 163), (195, zm_X10_more, false, 1208, 131), (185, zm_X10_airAt, false, 1215, 158), (221, zm_X10_canBeat, false, 1233, 162), (189, zm_X10_isOver, false, 1237, 160), (192, zm_X10_columnBehind, false, 1241, 161), (224, zm_X10_does, false, 1245, 172), (213, zm_X10_beats, false, 1249, 166), (201, zm_X10_moves, false, 1253, 164), (205, zm_X10_settles, false, 1257, 165), (216, zm_X10_keeps, false, 1261, 171), (228, zm_X10_hasFallen, false, 1289, 179), (231, zm_X10_areBeats, false, 1293, 180), (240, zm_X10_goes, false, 1301, 182), (243, zm_X10_lays, false, 1305, 183), (253, zm_X10_least, false, 1329, 190), (249, zm_X10_mayGo, false, 1333, 189), (257, zm_X10_greatest, false, 1345, 191), (279, zm_X10_chances, false, 1366, 202), (262, zm_X10_lies, false, 1370, 198), (265, zm_X10_stands, false, 1374, 199), (268, zm_X10_twelves, false, 1378, 200), (272, zm_X10_mayGust, false, 1381, 201), (283, zm_X10_chanceIs, false, 1385, 204), (275, zm_X10_divisor, false, 1389, 203), (297, zm_X10_countOf, false, 1437, 215)]),
  (12, [(13, zm_X9_row, false, 385, 61), (18, zm_X9_lay, false, 412, 62), (23, zm_X9_at, false, 433, 63), (27, zm_X9_tear, false, 437, 64), (32, zm_X9_copy, false, 445, 65), (37, zm_X9_mean, false, 461, 66), (41, zm_X9_text, false, 469, 67), (45, zm_X9_put, false, 477, 68), (49, zm_X9_fault, false, 481, 69), (53, zm_X9_sky, false, 550, 70), (57, zm_X9_flyer, false, 579, 71), (61, zm_X9_mark, false, 591, 72), (65, zm_X9_air, false, 615, 73), (69, zm_X9_sun, false, 620, 74), (73, zm_X9_letters, false, 624, 75), (77, zm_X9_beat, false, 628, 76), (81, zm_X9_undo, false, 665, 77), (85, zm_X9_over, false, 675, 78), (90, zm_X9_can, false, 680, 79), (94, zm_X9_keep, false, 688, 80), (98, zm_X9_on, false, 693, 81), (102, zm_X9_judge, false, 697, 82), (106, zm_X9_soonest, false, 704, 83), (110, zm_X9_lightest, false, 737, 84), (114, zm_X9_ways, false, 745, 85), (118, zm_X9_heights, false, 753, 86), (122, zm_X9_nth, false, 761, 87), (126, zm_X9_wax, false, 765, 88), (130, zm_X9_strength, false, 773, 89), (134, zm_X9_most, false, 782, 90), (138, zm_X9_hottest, false, 786, 91), (142, zm_X9_kinds, false, 790, 92), (146, zm_X9_post, false, 794, 93), (150, zm_X9_plan, false, 813, 94), (154, zm_X9_odds, false, 850, 95), (158, zm_X9_choice, false, 854, 96), (162, zm_X9_boats, false, 862, 97), (166, zm_X9_drip, false, 884, 98), (170, zm_X9_feathers, false, 892, 99), (174, zm_X9_lots, false, 901, 100), (178, zm_X9_asked, false, 910, 101), (182, zm_X9_upper, false, 914, 102), (187, zm_X9_lower, false, 918, 103), (191, zm_X9_count, false, 922, 104), (195, zm_X9_finding, false, 942, 105), (199, zm_X9_findings, false, 946, 106), (203, zm_X9_digest, false, 950, 107), (17, zm_X10_row, false, 1088, 137), (22, zm_X10_lay, false, 1103, 138), (26, zm_X10_at, false, 1111, 139), (31, zm_X10_tear, false, 1115, 140), (36, zm_X10_copy, false, 1119, 141), (40, zm_X10_mean, false, 1123, 142), (44, zm_X10_text, false, 1127, 143), (48, zm_X10_put, false, 1135, 144), (52, zm_X10_fault, false, 1139, 154), (56, zm_X10_sky, false, 1179, 155), (60, zm_X10_flyer, false, 1183, 156), (64, zm_X10_mark, false, 1192, 167), (68, zm_X10_air, false, 1211, 168), (72, zm_X10_sun, false, 1219, 169), (76, zm_X10_letters, false, 1224, 170), (80, zm_X10_beat, false, 1228, 173), (84, zm_X10_undo, false, 1265, 174), (89, zm_X10_over, false, 1269, 175), (93, zm_X10_can, false, 1273, 176), (97, zm_X10_keep, false, 1277, 177), (101, zm_X10_on, false, 1281, 178), (105, zm_X10_judge, false, 1285, 181), (109, zm_X10_soonest, false, 1297, 184), (113, zm_X10_lightest, false, 1309, 185), (117, zm_X10_ways, false, 1313, 186), (121, zm_X10_heights, false, 1317, 187), (125, zm_X10_nth, false, 1321, 188), (129, zm_X10_wax, false, 1325, 192), (133, zm_X10_strength, false, 1337, 193), (137, zm_X10_most, false, 1341, 194), (141, zm_X10_hottest, false, 1349, 195), (145, zm_X10_kinds, false, 1353, 196), (149, zm_X10_post, false, 1357, 197), (153, zm_X10_plan, false, 1362, 205), (157, zm_X10_odds, false, 1392, 206), (161, zm_X10_choice, false, 1396, 207), (165, zm_X10_boats, false, 1400, 208), (169, zm_X10_drip, false, 1405, 209), (173, zm_X10_feathers, false, 1409, 210), (177, zm_X10_lots, false, 1413, 211), (181, zm_X10_asked, false, 1420, 212), (186, zm_X10_upper, false, 1424, 213), (190, zm_X10_lower, false, 1428, 214), (194, zm_X10_count, false, 1432, 216), (198, zm_X10_finding, false, 1441, 217), (202, zm_X10_findings, false, 1445, 218), (206, zm_X10_digest, false, 1449, 219)])]
def zi_lk (w idx : Nat) : Option (zi_R × Bool × Nat × Nat) := zi_at ((zi_at zi_lks w).getD []) idx
set_option maxRecDepth 100000 in
def zi_mts : List zi_R := [zm_X0_look, zm_X0_fill, zm_X0_take, zm_X1_take, zm_X1_begin, zm_X1_tell, zm_X2_board, zm_X2_isOver, zm_X2_drips, zm_X2_cost, zm_X2_warmth, zm_X2_move, zm_X2_canSink, zm_X2_settle, zm_X2_fly, zm_X3_chanceOf, zm_X3_bestBeat, zm_X3_begin, zm_X3_chance, zm_X3_chanceBy, zm_X3_settledChance, zm_X4_place, zm_X4_read, zm_X4_hand, zm_X4_here, zm_X4_skipBlanks, zm_X4_readLines, zm_X4_readLine, zm_X4_readSun, zm_X4_readFlyers, zm_X4_readFlyer, zm_X4_readEnd, zm_X4_figureBelow, zm_X4_placeOf, zm_X5_room, zm_X5_size, zm_X5_isThere, zm_X5_has, zm_X5_hasRun, zm_X5_get, zm_X5_set, zm_X5_drop, zm_X5_make, zm_X5_takeRun, zm_X5_digestOn, zm_X6_birdAt, zm_X6_oldOnes, zm_X6_othersIn, zm_X6_note, zm_X6_goBack, zm_X6_drop, zm_X6_take, zm_X7_take, zm_X8_start, zm_X8_strengthen, zm_X8_findNext, zm_X8_size, zm_X8_end, zm_X8_write, zm_X8_heightsIn, zm_X8_dripColumns, zm_X9_row, zm_X9_lay, zm_X9_at, zm_X9_tear, zm_X9_copy, zm_X9_mean, zm_X9_text, zm_X9_put, zm_X9_fault, zm_X9_sky, zm_X9_flyer, zm_X9_mark, zm_X9_air, zm_X9_sun, zm_X9_letters, zm_X9_beat, zm_X9_undo, zm_X9_over, zm_X9_can, zm_X9_keep, zm_X9_on, zm_X9_judge, zm_X9_soonest, zm_X9_lightest, zm_X9_ways, zm_X9_heights, zm_X9_nth, zm_X9_wax, zm_X9_strength, zm_X9_most, zm_X9_hottest, zm_X9_kinds, zm_X9_post, zm_X9_plan, zm_X9_odds, zm_X9_choice, zm_X9_boats, zm_X9_drip, zm_X9_feathers, zm_X9_lots, zm_X9_asked, zm_X9_upper, zm_X9_lower, zm_X9_count, zm_X9_finding, zm_X9_findings, zm_X9_digest, zm_X9_rowAt, zm_X9_textAt, zm_X9_madeAnew, zm_X9_refuse, zm_X9_tell, zm_X9_isBeat, zm_X9_isOfKind, zm_X9_holdsBeatsAlone, zm_X9_perform, zm_X9_openBeats, zm_X9_bitAt, zm_X9_setOut, zm_X9_hasWay, zm_X9_loadsOf, zm_X9_shareOf, zm_X9_carriersOf, zm_X9_writeShares, zm_X9_hasBoat, zm_X9_farthestFrom, zm_X9_tally, zm_X9_thereOf, zm_X9_keptSkies, zm_X10_in, zm_X10_more, zm_X10_finds, zm_X10_tells, zm_X10_isRow, zm_X10_isText, zm_X10_isFlyer, zm_X10_row, zm_X10_lay, zm_X10_at, zm_X10_tear, zm_X10_copy, zm_X10_mean, zm_X10_text, zm_X10_put, zm_X10_sign, zm_X10_isRest, zm_X10_airOf, zm_X10_kindOf, zm_X10_isFigure, zm_X10_readsAir, zm_X10_readsFlyer, zm_X10_reads, zm_X10_faultOf, zm_X10_fault, zm_X10_sky, zm_X10_flyer, zm_X10_takes, zm_X10_airAt, zm_X10_last, zm_X10_isOver, zm_X10_columnBehind, zm_X10_canBeat, zm_X10_costs, zm_X10_moves, zm_X10_settles, zm_X10_beats, zm_X10_mark, zm_X10_air, zm_X10_sun, zm_X10_letters, zm_X10_keeps, zm_X10_does, zm_X10_beat, zm_X10_undo, zm_X10_over, zm_X10_can, zm_X10_keep, zm_X10_on, zm_X10_hasFallen, zm_X10_areBeats, zm_X10_judge, zm_X10_goes, zm_X10_lays, zm_X10_soonest, zm_X10_lightest, zm_X10_ways, zm_X10_heights, zm_X10_nth, zm_X10_mayGo, zm_X10_least, zm_X10_greatest, zm_X10_wax, zm_X10_strength, zm_X10_most, zm_X10_hottest, zm_X10_kinds, zm_X10_post, zm_X10_lies, zm_X10_stands, zm_X10_twelves, zm_X10_mayGust, zm_X10_chances, zm_X10_divisor, zm_X10_chanceIs, zm_X10_plan, zm_X10_odds, zm_X10_choice, zm_X10_boats, zm_X10_drip, zm_X10_feathers, zm_X10_lots, zm_X10_asked, zm_X10_upper, zm_X10_lower, zm_X10_countOf, zm_X10_count, zm_X10_finding, zm_X10_findings, zm_X10_digest, zm_J6_bitCount_0f7a4, zm_L_law]
def zi_sls : List (Nat × List (Nat × Nat × Nat)) := [(4, [(79, 91, 507), (100, 92, 528)])]
def zi_sl (w idx : Nat) : Option (Nat × Nat) := zi_at ((zi_at zi_sls w).getD []) idx
def zi_kIs : List (Nat × List (Nat × Int32 × Nat)) := [(3, [(55, 2985984, 831)]), (8, [(47, 100000, 722)]), (14, [(265, 1431655765, 869), (266, 858993459, 870), (267, 252645135, 871)])]
def zi_kI (w idx : Nat) : Option (Int32 × Nat) := zi_at ((zi_at zi_kIs w).getD []) idx
def zi_kLs : List (Nat × List (Nat × Int64 × Nat)) := [(5, [(40, 31, 960)]), (9, [(301, 2985984, 849), (330, 2147483647, 905), (332, 48271, 906), (346, 17, 954), (348, 31, 955)]), (10, [(83, 5, 1095), (89, 3, 1134), (118, 48, 1166), (120, 57, 1167), (150, 7, 1191), (211, 9, 1223), (219, 2, 1232), (260, 12, 1361), (287, 4, 1404), (289, 2147483646, 1417), (291, 48271, 1418), (293, 2147483647, 1419), (295, 8, 1436), (300, 17, 1453), (302, 31, 1454)])]
def zi_kL (w idx : Nat) : Option (Int64 × Nat) := zi_at ((zi_at zi_kLs w).getD []) idx
def zi_mxs : List (Nat × List (Nat × Nat × Nat)) := [(2, [(46, 1, 606), (65, 2, 652)]), (3, [(65, 1, 848)]), (5, [(13, 1, 326), (27, 2, 409)]), (6, [(54, 2, 673)]), (8, [(52, 2, 728), (58, 1, 729)]), (9, [(279, 1, 781), (367, 0, 880), (370, 2, 883)])]
def zi_mx (w idx : Nat) : Option Nat := (zi_at ((zi_at zi_mxs w).getD []) idx).map (·.1)
def zi_acw (w idx : Nat) : Bool := Nat.beq w 5 && Nat.beq idx 34
theorem zi_acl : lw_tbl[458]? = some (Cond.methodLink "WaxWings$Row" 34 arraycopyName) := by decide +kernel
theorem zi_acn : Cond.native arraycopyName ∈ lw_tbl := List.mem_of_getElem? (i := 460) (by decide +kernel)
theorem zi_acs : Cond.static arraycopyName ∈ lw_tbl := List.mem_of_getElem? (i := 459) (by decide +kernel)
theorem zi_aci : Cond.initialized "java/lang/System" ∈ lw_tbl := List.mem_of_getElem? (i := 77) (by decide +kernel)
end
section
/-! ONE STEP, THE RUN WITH FUEL, THE RUN ITSELF -/
def zi_op {α : Type} (o : Option α) (K : α → zi_O) : zi_O := match o with
  | some a => K a
  | none => none
def zi_bl (b : Bool) (A B : zi_O) : zi_O := match b with
  | true => A
  | false => B
def zi_nn (o : Option Nat) (A : zi_O) (B : Nat → zi_O) : zi_O := match o with
  | none => A
  | some k => B k
def zi_du (S : zi_S) (K : zi_S → zi_O) : zi_O := match S with
  | .inl x :: S' => K (.inl x :: .inl x :: S')
  | .inr (.inr q) :: S' => K (.inr (.inr q) :: .inr (.inr q) :: S')
  | _ => none
def zi_d2 (S : zi_S) (K : zi_S → zi_O) : zi_O := match S with
  | .inl x :: .inr (.inr q) :: S' => K (.inl x :: .inr (.inr q) :: .inl x :: .inr (.inr q) :: S')
  | _ => none
def zi_po (S : zi_S) (K : zi_S → zi_O) : zi_O := match S with
  | .inl _ :: S' => K S'
  | .inr (.inr _) :: S' => K S'
  | _ => none
def zi_abs (x : Int32) : Int32 := if 0 ≤ x then x else 0 - x
def zi_max (x y : Int32) : Int32 := if x < y then y else x
def zi_min (x y : Int32) : Int32 := if y < x then y else x
/-- Math.abs, max, min -/
def zi_ma (t : Nat) (S : zi_S) (K : zi_S → zi_O) : zi_O := if t = 0 then zi_1i S (fun x S' => zi_rs S' (K (.inl (zi_abs x) :: S'))) else if t = 1 then zi_2i S (fun x y S' => zi_rs S' (K (.inl (zi_max x y) :: S'))) else if t = 2 then zi_2i S (fun x y S' => zi_rs S' (K (.inl (zi_min x y) :: S'))) else none
/-- the returns -/
def zi_ri (r : zi_R) (S : zi_S) (M : zi_M) : zi_O := match S with
  | [.inl x] => if zi_ak r = 4 then zi_bo x (some (some (.inl x), M)) else if zi_ak r = 1 then some (some (.inl x), M) else none
  | _ => none
def zi_rl (r : zi_R) (S : zi_S) (M : zi_M) : zi_O := match S with
  | [.inr (.inl x)] => if zi_ak r = 2 then some (some (.inr (.inl x)), M) else none
  | _ => none
def zi_ra (r : zi_R) (S : zi_S) (M : zi_M) : zi_O := match S with
  | [.inr (.inr (c, o))] => if zi_ak r = 3 then zi_nn o (some (some (.inr (.inr (zi_rr r, none))), M)) (fun k => if c = zi_rr r then some (some (.inr (.inr (c, some k))), M) else none) else none
  | _ => none
def zi_rv (r : zi_R) (S : zi_S) (M : zi_M) : zi_O := match S with
  | [] => if zi_ak r = 0 then some (none, M) else none
  | _ => none
def zi_st (r : zi_R) (f sw : Nat → zi_L → zi_S → zi_M → zi_O) (call : zi_R → List zi_V → zi_M → zi_O) (i : Instr) (pc : Nat) (L : zi_L) (S : zi_S) (M : zi_M) : zi_O :=
  match i with
  | .iconst v => f (pc + 1) L (.inl (Int32.ofInt v) :: S) M
  | .bipush v => f (pc + 2) L (.inl (Int8.ofInt v).toInt32 :: S) M
  | .sipush v => f (pc + 3) L (.inl (Int16.ofInt v).toInt32 :: S) M
  | .lconst v => f (pc + 1) L (.inr (.inl (Int64.ofNat v.val)) :: S) M
  | .ldc idx => zi_op (zi_kI (zi_w r) idx) (fun q => f (pc + 2) L (.inl q.1 :: S) M)
  | .ldc_w idx => zi_op (zi_kI (zi_w r) idx) (fun q => f (pc + 3) L (.inl q.1 :: S) M)
  | .ldc2_w idx => zi_op (zi_kL (zi_w r) idx) (fun q => f (pc + 3) L (.inr (.inl q.1) :: S) M)
  | .iload_n k => zi_li L k.val (fun x => f (pc + 1) L (.inl x :: S) M)
  | .iload k => zi_li L k (fun x => f (pc + 2) L (.inl x :: S) M)
  | .lload_n k => zi_ll L k.val (fun x => f (pc + 1) L (.inr (.inl x) :: S) M)
  | .lload k => zi_ll L k (fun x => f (pc + 2) L (.inr (.inl x) :: S) M)
  | .aload_n k => zi_la L k.val (fun c o => f (pc + 1) L (.inr (.inr (c, o)) :: S) M)
  | .aload k => zi_la L k (fun c o => f (pc + 2) L (.inr (.inr (c, o)) :: S) M)
  | .istore_n k => zi_1i S (fun x S' => zi_p1 L k.val (.inl x) (fun L' => f (pc + 1) L' S' M))
  | .istore k => zi_1i S (fun x S' => zi_p1 L k (.inl x) (fun L' => f (pc + 2) L' S' M))
  | .lstore_n k => zi_1l S (fun x S' => zi_p2 L k.val (.inr (.inl x)) (fun L' => f (pc + 1) L' S' M))
  | .lstore k => zi_1l S (fun x S' => zi_p2 L k (.inr (.inl x)) (fun L' => f (pc + 2) L' S' M))
  | .astore_n k => zi_1r S (fun c o S' => zi_p1 L k.val (.inr (.inr (c, o))) (fun L' => f (pc + 1) L' S' M))
  | .astore k => zi_1r S (fun c o S' => zi_p1 L k (.inr (.inr (c, o))) (fun L' => f (pc + 2) L' S' M))
  | .iinc k n => zi_li L k (fun x => zi_p1 L k (.inl (x + Int32.ofInt n)) (fun L' => f (pc + 3) L' S M))
  | .iadd => zi_2i S (fun x y S' => f (pc + 1) L (.inl (x + y) :: S') M)
  | .isub => zi_2i S (fun x y S' => f (pc + 1) L (.inl (x - y) :: S') M)
  | .imul => zi_2i S (fun x y S' => f (pc + 1) L (.inl (x * y) :: S') M)
  | .idiv => zi_2i S (fun x y S' => if y = 0 then none else f (pc + 1) L (.inl (x / y) :: S') M)
  | .irem => zi_2i S (fun x y S' => if y = 0 then none else f (pc + 1) L (.inl (x - x / y * y) :: S') M)
  | .iand => zi_2i S (fun x y S' => f (pc + 1) L (.inl (x &&& y) :: S') M)
  | .ior => zi_2i S (fun x y S' => f (pc + 1) L (.inl (x ||| y) :: S') M)
  | .ishl => zi_2i S (fun x y S' => f (pc + 1) L (.inl (x <<< (y &&& 31)) :: S') M)
  | .ishr => zi_2i S (fun x y S' => f (pc + 1) L (.inl (x >>> (y &&& 31)) :: S') M)
  | .iushr => zi_2i S (fun x y S' => f (pc + 1) L (.inl (x.toUInt32 >>> (y.toUInt32 &&& Int32.toUInt32 31)).toInt32 :: S') M)
  | .ineg => zi_1i S (fun x S' => f (pc + 1) L (.inl (-x) :: S') M)
  | .ladd => zi_2l S (fun x y S' => f (pc + 1) L (.inr (.inl (x + y)) :: S') M)
  | .lsub => zi_2l S (fun x y S' => f (pc + 1) L (.inr (.inl (x - y)) :: S') M)
  | .lmul => zi_2l S (fun x y S' => f (pc + 1) L (.inr (.inl (x * y)) :: S') M)
  | .ldiv => zi_2l S (fun x y S' => if y = 0 then none else f (pc + 1) L (.inr (.inl (x / y)) :: S') M)
  | .lrem => zi_2l S (fun x y S' => if y = 0 then none else f (pc + 1) L (.inr (.inl (x - x / y * y)) :: S') M)
  | .lcmp => zi_2l S (fun x y S' => f (pc + 1) L (.inl (lg_cmp x y) :: S') M)
  | .i2l => zi_1i S (fun x S' => f (pc + 1) L (.inr (.inl x.toInt64) :: S') M)
  | .l2i => zi_1l S (fun x S' => f (pc + 1) L (.inl x.toInt32 :: S') M)
  | .i2b => zi_1i S (fun x S' => f (pc + 1) L (.inl x.toInt8.toInt32 :: S') M)
  | .dup => zi_du S (fun S' => f (pc + 1) L S' M)
  | .dup2 => zi_d2 S (fun S' => f (pc + 1) L S' M)
  | .pop => zi_po S (fun S' => f (pc + 1) L S' M)
  | .aconst_null => f (pc + 1) L (.inr (.inr (0, none)) :: S) M
  | .goto off => zi_to pc off (fun t => f t L S M)
  | .ifCond c off => zi_1i S (fun x S' => zi_if c x 0 (zi_to pc off (fun t => f t L S' M)) (f (pc + 3) L S' M))
  | .if_icmp c off => zi_2i S (fun x y S' => zi_if c x y (zi_to pc off (fun t => f t L S' M)) (f (pc + 3) L S' M))
  | .ifnull off => zi_1r S (fun _ o S' => zi_nl o (zi_to pc off (fun t => f t L S' M)) (f (pc + 3) L S' M))
  | .ifnonnull off => zi_1r S (fun _ o S' => zi_nl o (f (pc + 3) L S' M) (zi_to pc off (fun t => f t L S' M)))
  | .tableswitch dflt lo hi offs => zi_1i S (fun x S' => zi_sw x dflt lo hi offs (fun off => zi_to pc off (fun t => sw t L S' M)))
  | .getfield idx => zi_op (zi_fl (zi_w r) idx) (fun q => zi_1r S (fun c o S' => if c = q.1 then zi_sm o (fun k => f (pc + 3) L (zi_rd M q.1 k q.2.1 q.2.2.1 :: S') M) else none))
  | .putfield idx => zi_op (zi_fl (zi_w r) idx) (fun q => if q.2.2.1 = 0 then zi_1i S (fun x S1 => zi_1r S1 (fun c o S' => if c = q.1 then zi_sm o (fun k => f (pc + 3) L S' (zi_sI M q.1 k q.2.1 x)) else none))
      else if q.2.2.1 = 1 then zi_1l S (fun x S1 => zi_1r S1 (fun c o S' => if c = q.1 then zi_sm o (fun k => f (pc + 3) L S' (zi_sL M q.1 k q.2.1 x)) else none))
      else if q.2.2.1 = 3 then zi_1i S (fun x S1 => zi_bo x (zi_1r S1 (fun c o S' => if c = q.1 then zi_sm o (fun k => f (pc + 3) L S' (zi_sI M q.1 k q.2.1 x)) else none)))
      else zi_bl (zi_mu q.1 q.2.1) (zi_1r S (fun c1 o1 S1 => zi_1r S1 (fun c o S' => if c = q.1 then zi_sm o (fun k => zi_nn o1 (f (pc + 3) L S' (zi_sR M q.1 k q.2.1 none)) (fun k1 => if c1 = zi_fk q.1 q.2.1 then f (pc + 3) L S' (zi_sR M q.1 k q.2.1 (some k1)) else none)) else none))) none)
  | .getstatic idx => zi_op (zi_sl (zi_w r) idx) (fun q => f (pc + 3) L (.inr (.inr (q.1, some 0)) :: S) M)
  | .arraylength => zi_1r S (fun c o S' => if c < 11 then none else zi_sm o (fun k => f (pc + 1) L (.inl (Int32.ofNat (zi_len M c k)) :: S') M))
  | .iaload => zi_1i S (fun x S1 => zi_1r S1 (fun c o S' => if zi_aty c = 0 then zi_sm o (fun k => zi_ix x (zi_len M c k) (fun q => f (pc + 1) L (.inl (M.1 c k q) :: S') M)) else none))
  | .baload => zi_1i S (fun x S1 => zi_1r S1 (fun c o S' => if zi_aty c = 3 then zi_sm o (fun k => zi_ix x (zi_len M c k) (fun q => f (pc + 1) L (.inl (M.1 c k q) :: S') M)) else none))
  | .laload => zi_1i S (fun x S1 => zi_1r S1 (fun c o S' => if zi_aty c = 1 then zi_sm o (fun k => zi_ix x (zi_len M c k) (fun q => f (pc + 1) L (.inr (.inl (M.2.1 c k q)) :: S') M)) else none))
  | .aaload => zi_1i S (fun x S1 => zi_1r S1 (fun c o S' => if zi_aty c = 2 then zi_sm o (fun k => zi_ix x (zi_len M c k) (fun q => f (pc + 1) L (.inr (.inr (zi_ek c, some (zi_rf c k q))) :: S') M)) else none))
  | .iastore => zi_1i S (fun v S0 => zi_1i S0 (fun x S1 => zi_1r S1 (fun c o S' => if zi_aty c = 0 then (if c < 90 then zi_sm o (fun k => zi_ix x (zi_len M c k) (fun q => f (pc + 1) L S' (zi_sI M c k q v))) else none) else none)))
  | .bastore => zi_1i S (fun v S0 => zi_bo v (zi_1i S0 (fun x S1 => zi_1r S1 (fun c o S' => if zi_aty c = 3 then zi_sm o (fun k => zi_ix x (zi_len M c k) (fun q => f (pc + 1) L S' (zi_sI M c k q v))) else none))))
  | .lastore => zi_1l S (fun v S0 => zi_1i S0 (fun x S1 => zi_1r S1 (fun c o S' => if zi_aty c = 1 then zi_sm o (fun k => zi_ix x (zi_len M c k) (fun q => f (pc + 1) L S' (zi_sL M c k q v))) else none)))
  | .invokevirtual idx => zi_op (zi_lk (zi_w r) idx) (fun q => zi_bl (zi_sc q.1) none (zi_pp (zi_na q.1) S [] (fun as S1 => zi_1r S1 (fun c o S' => if c = zi_w q.1 then zi_sm o (fun k => zi_rs S' (zi_ca q.1 (call q.1 (.inr (.inr (c, some k)) :: as) M) S' (fun S2 M2 => f (pc + 3) L S2 M2))) else none))))
  | .invokestatic idx => zi_bl (zi_acw (zi_w r) idx) (zi_ac M S (fun S' M' => f (pc + 3) L S' M')) (zi_nn (zi_mx (zi_w r) idx) (zi_op (zi_lk (zi_w r) idx) (fun q => zi_bl (zi_sc q.1) (zi_pp (zi_na q.1) S [] (fun as S' => zi_rs S' (zi_ca q.1 (call q.1 as M) S' (fun S2 M2 => f (pc + 3) L S2 M2)))) none)) (fun t => zi_ma t S (fun S' => f (pc + 3) L S' M)))
  | .ireturn => zi_ri r S M
  | .lreturn => zi_rl r S M
  | .areturn => zi_ra r S M
  | .return_ => zi_rv r S M
  | _ => none
abbrev zi_G : Type := Nat → zi_R → Nat → zi_L → zi_S → zi_M → zi_O
def zi_kc (r : zi_R) (t : Nat) (L : zi_L) : zi_L := match zi_at (zi_cu r) t with
  | some ks => zi_kl ks 0 L
  | none => L
def zi_k (g f : zi_G) (d : Nat) (r : zi_R) (t : Nat) (L : zi_L) (S : zi_S) (M : zi_M) : zi_O := match zi_at (zi_cu r) t with
  | some ks => g d r t (zi_kl ks 0 L) S M
  | none => f d r t L S M
def zi_F (g f : zi_G) : zi_G := fun d r pc L S M => match zi_at (zi_cd r) pc with
  | none => none
  | some i => zi_st r (zi_k g f d r) (fun t L S M => g d r t (zi_kc r t L) S M) (fun r' as M' => zi_dn d (fun e => g e r' 0 (zi_en (zi_ml r') as) [] M')) i pc L S M
def zi_go : Nat → zi_G
  | 0 => fun _ _ _ _ _ _ => none
  | n + 1 => zi_F (zi_go n) (zi_go n)
noncomputable def zi_run : zi_G := fun d r pc L S M => @dite _ (∃ n, (zi_go n d r pc L S M).isSome = true) (Classical.propDecidable _) (fun h => zi_go (Classical.choose h) d r pc L S M) (fun _ => none)
def zi_bk (g : zi_G) : Nat → zi_G
  | 0 => g
  | n + 1 => zi_F g (zi_bk g n)
end
section
/-! THE RUN IS A FIXED POINT -/
def zi_le (a b : zi_O) : Prop := ∀ q, a = some q → b = some q
theorem zi_le_r (a : zi_O) : zi_le a a := fun _ h => h
theorem zi_le_n (b : zi_O) : zi_le none b := fun _ h => by cases h
theorem zi_le_1i {S : zi_S} {K K' : Int32 → zi_S → zi_O} (h : ∀ x T, zi_le (K x T) (K' x T)) : zi_le (zi_1i S K) (zi_1i S K') := by
  unfold zi_1i; split
  · exact h _ _
  · exact zi_le_n _
theorem zi_le_2i {S : zi_S} {K K' : Int32 → Int32 → zi_S → zi_O} (h : ∀ x y T, zi_le (K x y T) (K' x y T)) : zi_le (zi_2i S K) (zi_2i S K') := by
  unfold zi_2i; split
  · exact h _ _ _
  · exact zi_le_n _
theorem zi_le_1l {S : zi_S} {K K' : Int64 → zi_S → zi_O} (h : ∀ x T, zi_le (K x T) (K' x T)) : zi_le (zi_1l S K) (zi_1l S K') := by
  unfold zi_1l; split
  · exact h _ _
  · exact zi_le_n _
theorem zi_le_2l {S : zi_S} {K K' : Int64 → Int64 → zi_S → zi_O} (h : ∀ x y T, zi_le (K x y T) (K' x y T)) : zi_le (zi_2l S K) (zi_2l S K') := by
  unfold zi_2l; split
  · exact h _ _ _
  · exact zi_le_n _
theorem zi_le_1r {S : zi_S} {K K' : Nat → Option Nat → zi_S → zi_O} (h : ∀ c o T, zi_le (K c o T) (K' c o T)) : zi_le (zi_1r S K) (zi_1r S K') := by
  unfold zi_1r; split
  · exact h _ _ _
  · exact zi_le_n _
theorem zi_le_sm {o : Option Nat} {K K' : Nat → zi_O} (h : ∀ k, zi_le (K k) (K' k)) : zi_le (zi_sm o K) (zi_sm o K') := by
  unfold zi_sm; split
  · exact h _
  · exact zi_le_n _
theorem zi_le_nl {o : Option Nat} {A A' B B' : zi_O} (h : zi_le A A') (g : zi_le B B') : zi_le (zi_nl o A B) (zi_nl o A' B') := by
  unfold zi_nl; split
  · exact g
  · exact h
theorem zi_le_ite {c : Prop} [Decidable c] {A A' B B' : zi_O} (h : zi_le A A') (g : zi_le B B') : zi_le (if c then A else B) (if c then A' else B') := by
  split
  · exact h
  · exact g
theorem zi_le_ix {i : Int32} {n : Nat} {K K' : Nat → zi_O} (h : ∀ k, zi_le (K k) (K' k)) : zi_le (zi_ix i n K) (zi_ix i n K') := zi_le_ite (zi_le_n _) (zi_le_ite (zi_le_n _) (h _))
theorem zi_le_li {L : zi_L} {i : Nat} {K K' : Int32 → zi_O} (h : ∀ k, zi_le (K k) (K' k)) : zi_le (zi_li L i K) (zi_li L i K') := by
  unfold zi_li; split
  · exact h _
  · exact zi_le_n _
theorem zi_le_ll {L : zi_L} {i : Nat} {K K' : Int64 → zi_O} (h : ∀ k, zi_le (K k) (K' k)) : zi_le (zi_ll L i K) (zi_ll L i K') := by
  unfold zi_ll; split
  · exact h _
  · exact zi_le_n _
theorem zi_le_la {L : zi_L} {i : Nat} {K K' : Nat → Option Nat → zi_O} (h : ∀ c k, zi_le (K c k) (K' c k)) : zi_le (zi_la L i K) (zi_la L i K') := by
  unfold zi_la; split
  · exact h _ _
  · exact zi_le_n _
theorem zi_le_p1 {L : zi_L} {i : Nat} {v : zi_V} {K K' : zi_L → zi_O} (h : ∀ k, zi_le (K k) (K' k)) : zi_le (zi_p1 L i v K) (zi_p1 L i v K') := by
  unfold zi_p1; split
  · exact h _
  · exact zi_le_n _
theorem zi_le_p2 {L : zi_L} {i : Nat} {v : zi_V} {K K' : zi_L → zi_O} (h : ∀ k, zi_le (K k) (K' k)) : zi_le (zi_p2 L i v K) (zi_p2 L i v K') := by
  unfold zi_p2; split
  · exact h _
  · exact zi_le_n _
theorem zi_le_to {pc : Nat} {off : Int} {K K' : Nat → zi_O} (h : ∀ k, zi_le (K k) (K' k)) : zi_le (zi_to pc off K) (zi_to pc off K') := by
  unfold zi_to; split
  · exact h _
  · exact zi_le_n _
theorem zi_le_if {c : ClassFile.Cond} {x y : Int32} {A A' B B' : zi_O} (h : zi_le A A') (g : zi_le B B') : zi_le (zi_if c x y A B) (zi_if c x y A' B') := by
  unfold zi_if; cases c <;> first | exact zi_le_ite h g | exact zi_le_ite g h
theorem zi_le_bo {x : Int32} {A A' : zi_O} (h : zi_le A A') : zi_le (zi_bo x A) (zi_bo x A') := zi_le_ite h (zi_le_ite h (zi_le_n _))
theorem zi_le_rs {S : zi_S} {A A' : zi_O} (h : zi_le A A') : zi_le (zi_rs S A) (zi_rs S A') := by
  unfold zi_rs; split
  · exact h
  · exact zi_le_n _
theorem zi_le_pp {K K' : List zi_V → zi_S → zi_O} (h : ∀ a T, zi_le (K a T) (K' a T)) (n : Nat) : ∀ (S : zi_S) (a : List zi_V), zi_le (zi_pp n S a K) (zi_pp n S a K') := by
  induction n with
  | zero => intro S a; exact h _ _
  | succ n ih =>
    intro S a
    cases S with
    | nil => exact zi_le_n _
    | cons v S => exact ih _ _
theorem zi_le_op {α : Type} {o : Option α} {K K' : α → zi_O} (h : ∀ k, zi_le (K k) (K' k)) : zi_le (zi_op o K) (zi_op o K') := by
  unfold zi_op; split
  · exact h _
  · exact zi_le_n _
theorem zi_le_bl {b : Bool} {A A' B B' : zi_O} (h : zi_le A A') (g : zi_le B B') : zi_le (zi_bl b A B) (zi_bl b A' B') := by
  unfold zi_bl; split
  · exact h
  · exact g
theorem zi_le_nn {o : Option Nat} {A A' : zi_O} {K K' : Nat → zi_O} (g : zi_le A A') (h : ∀ k, zi_le (K k) (K' k)) : zi_le (zi_nn o A K) (zi_nn o A' K') := by
  unfold zi_nn; split
  · exact g
  · exact h _
theorem zi_le_du {S : zi_S} {K K' : zi_S → zi_O} (h : ∀ k, zi_le (K k) (K' k)) : zi_le (zi_du S K) (zi_du S K') := by
  unfold zi_du; split
  · exact h _
  · exact h _
  · exact zi_le_n _
theorem zi_le_d2 {S : zi_S} {K K' : zi_S → zi_O} (h : ∀ k, zi_le (K k) (K' k)) : zi_le (zi_d2 S K) (zi_d2 S K') := by
  unfold zi_d2; split
  · exact h _
  · exact zi_le_n _
theorem zi_le_po {S : zi_S} {K K' : zi_S → zi_O} (h : ∀ k, zi_le (K k) (K' k)) : zi_le (zi_po S K) (zi_po S K') := by
  unfold zi_po; split
  · exact h _
  · exact h _
  · exact zi_le_n _
theorem zi_le_cV {o o' : zi_O} {K K' : zi_M → zi_O} (ho : zi_le o o') (h : ∀ k, zi_le (K k) (K' k)) : zi_le (zi_cV o K) (zi_cV o' K') := by
  intro q hq
  unfold zi_cV at hq ⊢
  split at hq
  · rw [ho _ rfl]; exact h _ _ hq
  · cases hq
theorem zi_le_cI {o o' : zi_O} {K K' : Int32 → zi_M → zi_O} (ho : zi_le o o') (h : ∀ x k, zi_le (K x k) (K' x k)) : zi_le (zi_cI o K) (zi_cI o' K') := by
  intro q hq
  unfold zi_cI at hq ⊢
  split at hq
  · rw [ho _ rfl]; exact h _ _ _ hq
  · cases hq
theorem zi_le_cL {o o' : zi_O} {K K' : Int64 → zi_M → zi_O} (ho : zi_le o o') (h : ∀ x k, zi_le (K x k) (K' x k)) : zi_le (zi_cL o K) (zi_cL o' K') := by
  intro q hq
  unfold zi_cL at hq ⊢
  split at hq
  · rw [ho _ rfl]; exact h _ _ _ hq
  · cases hq
theorem zi_le_cR {o o' : zi_O} {c : Nat} {K K' : Option Nat → zi_M → zi_O} (ho : zi_le o o') (h : ∀ x k, zi_le (K x k) (K' x k)) : zi_le (zi_cR o c K) (zi_cR o' c K') := by
  intro q hq
  unfold zi_cR at hq ⊢
  split at hq
  · rw [ho _ rfl]
    exact zi_le_ite (h _ _) (zi_le_n _) _ hq
  · cases hq
theorem zi_le_ca {r : zi_R} {o o' : zi_O} {S : zi_S} {K K' : zi_S → zi_M → zi_O} (ho : zi_le o o') (h : ∀ x k, zi_le (K x k) (K' x k)) : zi_le (zi_ca r o S K) (zi_ca r o' S K') := by
  unfold zi_ca; split
  · exact zi_le_cV ho (fun _ => h _ _)
  · exact zi_le_cL ho (fun _ _ => h _ _)
  · exact zi_le_cR ho (fun _ _ => h _ _)
  · exact zi_le_cI ho (fun _ _ => h _ _)
theorem zi_le_dn {d : Nat} {K K' : Nat → zi_O} (h : ∀ e, zi_le (K e) (K' e)) : zi_le (zi_dn d K) (zi_dn d K') := zi_le_ite (zi_le_n _) (h _)
theorem zi_le_sw {x : Int32} {d lo hi : Int} {offs : Array Int} {K K' : Int → zi_O} (h : ∀ e, zi_le (K e) (K' e)) : zi_le (zi_sw x d lo hi offs K) (zi_sw x d lo hi offs K') := by
  unfold zi_sw
  refine zi_le_ite (h _) (zi_le_ite (h _) ?_)
  split
  · exact h _
  · exact zi_le_n _
theorem zi_le_ac {M : zi_M} {S : zi_S} {K K' : zi_S → zi_M → zi_O} (h : ∀ x k, zi_le (K x k) (K' x k)) : zi_le (zi_ac M S K) (zi_ac M S K') := by
  unfold zi_ac; split
  · exact zi_le_ite (zi_le_ite (zi_le_ite (zi_le_n _) (zi_le_ite (zi_le_n _) (zi_le_ite (zi_le_n _) (zi_le_ite (zi_le_ite (zi_le_rs (h _ _)) (zi_le_n _)) (zi_le_n _))))) (zi_le_n _)) (zi_le_n _)
  · exact zi_le_n _
theorem zi_le_ma {t : Nat} {S : zi_S} {K K' : zi_S → zi_O} (h : ∀ k, zi_le (K k) (K' k)) : zi_le (zi_ma t S K) (zi_ma t S K') := zi_le_ite (zi_le_1i (fun _ _ => zi_le_rs (h _))) (zi_le_ite (zi_le_2i (fun _ _ _ => zi_le_rs (h _))) (zi_le_ite (zi_le_2i (fun _ _ _ => zi_le_rs (h _))) (zi_le_n _)))
set_option maxHeartbeats 4000000 in
theorem zi_le_st {r : zi_R} {f f' sw sw' : Nat → zi_L → zi_S → zi_M → zi_O} {call call' : zi_R → List zi_V → zi_M → zi_O} (hf : ∀ a b c d, zi_le (f a b c d) (f' a b c d)) (hs : ∀ a b c d, zi_le (sw a b c d) (sw' a b c d)) (hc : ∀ a b c, zi_le (call a b c) (call' a b c)) (i : Instr) (pc : Nat) (L : zi_L) (S : zi_S) (M : zi_M) : zi_le (zi_st r f sw call i pc L S M) (zi_st r f' sw' call' i pc L S M) := by
  cases i <;> simp only [zi_st] <;> first
    | exact zi_le_n _
    | exact zi_le_r _
    | (repeat' first
      | exact zi_le_n _
      | exact hf _ _ _ _
      | exact hs _ _ _ _
      | exact hc _ _ _
      | refine zi_le_1i (fun _ _ => ?_)
      | refine zi_le_2i (fun _ _ _ => ?_)
      | refine zi_le_1l (fun _ _ => ?_)
      | refine zi_le_2l (fun _ _ _ => ?_)
      | refine zi_le_1r (fun _ _ _ => ?_)
      | refine zi_le_sm (fun _ => ?_)
      | refine zi_le_nl ?_ ?_
      | refine zi_le_ix (fun _ => ?_)
      | refine zi_le_li (fun _ => ?_)
      | refine zi_le_ll (fun _ => ?_)
      | refine zi_le_la (fun _ _ => ?_)
      | refine zi_le_p1 (fun _ => ?_)
      | refine zi_le_p2 (fun _ => ?_)
      | refine zi_le_to (fun _ => ?_)
      | refine zi_le_if ?_ ?_
      | refine zi_le_bo ?_
      | refine zi_le_rs ?_
      | refine zi_le_pp (fun _ _ => ?_) _ _ _
      | refine zi_le_op (fun _ => ?_)
      | refine zi_le_bl ?_ ?_
      | refine zi_le_nn ?_ (fun _ => ?_)
      | refine zi_le_du (fun _ => ?_)
      | refine zi_le_ma (fun _ => ?_)
      | refine zi_le_d2 (fun _ => ?_)
      | refine zi_le_po (fun _ => ?_)
      | refine zi_le_ca ?_ (fun _ _ => ?_)
      | refine zi_le_sw (fun _ => ?_)
      | refine zi_le_ac (fun _ _ => ?_)
      | refine zi_le_ite ?_ ?_
      | exact zi_le_r _)
theorem zi_le_k {g g' f f' : zi_G} (hg : ∀ d r a b c e, zi_le (g d r a b c e) (g' d r a b c e)) (hf : ∀ d r a b c e, zi_le (f d r a b c e) (f' d r a b c e)) (d : Nat) (r : zi_R) (t : Nat) (L : zi_L) (S : zi_S) (M : zi_M) : zi_le (zi_k g f d r t L S M) (zi_k g' f' d r t L S M) := by
  unfold zi_k; split
  · exact hg _ _ _ _ _ _
  · exact hf _ _ _ _ _ _
theorem zi_le_F {g g' f f' : zi_G} (hg : ∀ d r a b c e, zi_le (g d r a b c e) (g' d r a b c e)) (hf : ∀ d r a b c e, zi_le (f d r a b c e) (f' d r a b c e)) (d : Nat) (r : zi_R) (t : Nat) (L : zi_L) (S : zi_S) (M : zi_M) : zi_le (zi_F g f d r t L S M) (zi_F g' f' d r t L S M) := by
  unfold zi_F; split
  · exact zi_le_n _
  · exact zi_le_st (fun _ _ _ _ => zi_le_k hg hf _ _ _ _ _ _) (fun _ _ _ _ => hg _ _ _ _ _ _) (fun _ _ _ => zi_le_dn (fun _ => hg _ _ _ _ _ _)) _ _ _ _ _
theorem zi_go_1 : ∀ (n d : Nat) (r : zi_R) (t : Nat) (L : zi_L) (S : zi_S) (M : zi_M), zi_le (zi_go n d r t L S M) (zi_go (n + 1) d r t L S M)
  | 0, _, _, _, _, _, _ => zi_le_n _
  | n + 1, _, _, _, _, _, _ => zi_le_F (fun _ _ _ _ _ _ => zi_go_1 n _ _ _ _ _ _) (fun _ _ _ _ _ _ => zi_go_1 n _ _ _ _ _ _) _ _ _ _ _ _
theorem zi_go_m {n m : Nat} (h : n ≤ m) (d : Nat) (r : zi_R) (t : Nat) (L : zi_L) (S : zi_S) (M : zi_M) : zi_le (zi_go n d r t L S M) (zi_go m d r t L S M) := by
  induction h with
  | refl => exact zi_le_r _
  | step _ ih => exact fun q hq => zi_go_1 _ _ _ _ _ _ _ q (ih q hq)
theorem zi_run_of {n d : Nat} {r : zi_R} {t : Nat} {L : zi_L} {S : zi_S} {M : zi_M} {q : Option zi_V × zi_M} (h : zi_go n d r t L S M = some q) : zi_run d r t L S M = some q := by
  have hex : ∃ n, (zi_go n d r t L S M).isSome = true := ⟨n, by rw [h]; rfl⟩
  unfold zi_run
  rw [dif_pos hex]
  obtain ⟨q', hq'⟩ := Option.isSome_iff_exists.mp (Classical.choose_spec hex)
  rw [hq']
  have h1 := zi_go_m (Nat.le_max_left n (Classical.choose hex)) d r t L S M q h
  have h2 := zi_go_m (Nat.le_max_right n (Classical.choose hex)) d r t L S M q' hq'
  rw [h1] at h2
  exact h2.symm
theorem zi_of_run {d : Nat} {r : zi_R} {t : Nat} {L : zi_L} {S : zi_S} {M : zi_M} {q : Option zi_V × zi_M} (h : zi_run d r t L S M = some q) : ∃ n, zi_go n d r t L S M = some q := by
  by_cases hex : ∃ n, (zi_go n d r t L S M).isSome = true
  · unfold zi_run at h
    rw [dif_pos hex] at h
    exact ⟨_, h⟩
  · unfold zi_run at h
    rw [dif_neg hex] at h
    cases h
/-! limits -/
def zi_lm (A : Nat → zi_O) (B : zi_O) : Prop := (∀ n m, n ≤ m → zi_le (A n) (A m)) ∧ ∀ q, B = some q → ∃ n, A n = some q
theorem zi_lm_c (a : zi_O) : zi_lm (fun _ => a) a := ⟨fun _ _ _ => zi_le_r _, fun _ h => ⟨0, h⟩⟩
theorem zi_lm_1i {S : zi_S} {K : Nat → Int32 → zi_S → zi_O} {K' : Int32 → zi_S → zi_O} (h : ∀ a b, zi_lm (fun n => K n a b) (K' a b)) : zi_lm (fun n => zi_1i S (K n)) (zi_1i S K') := by
  refine ⟨fun n m hnm => zi_le_1i (fun a b => (h a b).1 n m hnm), fun q hq => ?_⟩
  unfold zi_1i at hq ⊢
  split at hq
  · exact (h _ _).2 q hq
  · cases hq
theorem zi_lm_1l {S : zi_S} {K : Nat → Int64 → zi_S → zi_O} {K' : Int64 → zi_S → zi_O} (h : ∀ a b, zi_lm (fun n => K n a b) (K' a b)) : zi_lm (fun n => zi_1l S (K n)) (zi_1l S K') := by
  refine ⟨fun n m hnm => zi_le_1l (fun a b => (h a b).1 n m hnm), fun q hq => ?_⟩
  unfold zi_1l at hq ⊢
  split at hq
  · exact (h _ _).2 q hq
  · cases hq
theorem zi_lm_2i {S : zi_S} {K : Nat → Int32 → Int32 → zi_S → zi_O} {K' : Int32 → Int32 → zi_S → zi_O} (h : ∀ a b c, zi_lm (fun n => K n a b c) (K' a b c)) : zi_lm (fun n => zi_2i S (K n)) (zi_2i S K') := by
  refine ⟨fun n m hnm => zi_le_2i (fun a b c => (h a b c).1 n m hnm), fun q hq => ?_⟩
  unfold zi_2i at hq ⊢
  split at hq
  · exact (h _ _ _).2 q hq
  · cases hq
theorem zi_lm_2l {S : zi_S} {K : Nat → Int64 → Int64 → zi_S → zi_O} {K' : Int64 → Int64 → zi_S → zi_O} (h : ∀ a b c, zi_lm (fun n => K n a b c) (K' a b c)) : zi_lm (fun n => zi_2l S (K n)) (zi_2l S K') := by
  refine ⟨fun n m hnm => zi_le_2l (fun a b c => (h a b c).1 n m hnm), fun q hq => ?_⟩
  unfold zi_2l at hq ⊢
  split at hq
  · exact (h _ _ _).2 q hq
  · cases hq
theorem zi_lm_1r {S : zi_S} {K : Nat → Nat → Option Nat → zi_S → zi_O} {K' : Nat → Option Nat → zi_S → zi_O} (h : ∀ a b c, zi_lm (fun n => K n a b c) (K' a b c)) : zi_lm (fun n => zi_1r S (K n)) (zi_1r S K') := by
  refine ⟨fun n m hnm => zi_le_1r (fun a b c => (h a b c).1 n m hnm), fun q hq => ?_⟩
  unfold zi_1r at hq ⊢
  split at hq
  · exact (h _ _ _).2 q hq
  · cases hq
theorem zi_lm_sm {o : Option Nat} {K : Nat → Nat → zi_O} {K' : Nat → zi_O} (h : ∀ a, zi_lm (fun n => K n a) (K' a)) : zi_lm (fun n => zi_sm o (K n)) (zi_sm o K') := by
  refine ⟨fun n m hnm => zi_le_sm (fun a => (h a).1 n m hnm), fun q hq => ?_⟩
  unfold zi_sm at hq ⊢
  split at hq
  · exact (h _).2 q hq
  · cases hq
theorem zi_lm_li {L : zi_L} {i : Nat} {K : Nat → Int32 → zi_O} {K' : Int32 → zi_O} (h : ∀ a, zi_lm (fun n => K n a) (K' a)) : zi_lm (fun n => zi_li L i (K n)) (zi_li L i K') := by
  refine ⟨fun n m hnm => zi_le_li (fun a => (h a).1 n m hnm), fun q hq => ?_⟩
  unfold zi_li at hq ⊢
  split at hq
  · exact (h _).2 q hq
  · cases hq
theorem zi_lm_ll {L : zi_L} {i : Nat} {K : Nat → Int64 → zi_O} {K' : Int64 → zi_O} (h : ∀ a, zi_lm (fun n => K n a) (K' a)) : zi_lm (fun n => zi_ll L i (K n)) (zi_ll L i K') := by
  refine ⟨fun n m hnm => zi_le_ll (fun a => (h a).1 n m hnm), fun q hq => ?_⟩
  unfold zi_ll at hq ⊢
  split at hq
  · exact (h _).2 q hq
  · cases hq
theorem zi_lm_la {L : zi_L} {i : Nat} {K : Nat → Nat → Option Nat → zi_O} {K' : Nat → Option Nat → zi_O} (h : ∀ a b, zi_lm (fun n => K n a b) (K' a b)) : zi_lm (fun n => zi_la L i (K n)) (zi_la L i K') := by
  refine ⟨fun n m hnm => zi_le_la (fun a b => (h a b).1 n m hnm), fun q hq => ?_⟩
  unfold zi_la at hq ⊢
  split at hq
  · exact (h _ _).2 q hq
  · cases hq
theorem zi_lm_p1 {L : zi_L} {i : Nat} {v : zi_V} {K : Nat → zi_L → zi_O} {K' : zi_L → zi_O} (h : ∀ a, zi_lm (fun n => K n a) (K' a)) : zi_lm (fun n => zi_p1 L i v (K n)) (zi_p1 L i v K') := by
  refine ⟨fun n m hnm => zi_le_p1 (fun a => (h a).1 n m hnm), fun q hq => ?_⟩
  unfold zi_p1 at hq ⊢
  split at hq
  · exact (h _).2 q hq
  · cases hq
theorem zi_lm_p2 {L : zi_L} {i : Nat} {v : zi_V} {K : Nat → zi_L → zi_O} {K' : zi_L → zi_O} (h : ∀ a, zi_lm (fun n => K n a) (K' a)) : zi_lm (fun n => zi_p2 L i v (K n)) (zi_p2 L i v K') := by
  refine ⟨fun n m hnm => zi_le_p2 (fun a => (h a).1 n m hnm), fun q hq => ?_⟩
  unfold zi_p2 at hq ⊢
  split at hq
  · exact (h _).2 q hq
  · cases hq
theorem zi_lm_to {pc : Nat} {off : Int} {K : Nat → Nat → zi_O} {K' : Nat → zi_O} (h : ∀ a, zi_lm (fun n => K n a) (K' a)) : zi_lm (fun n => zi_to pc off (K n)) (zi_to pc off K') := by
  refine ⟨fun n m hnm => zi_le_to (fun a => (h a).1 n m hnm), fun q hq => ?_⟩
  unfold zi_to at hq ⊢
  split at hq
  · exact (h _).2 q hq
  · cases hq
theorem zi_lm_op {α : Type} {o : Option α} {K : Nat → α → zi_O} {K' : α → zi_O} (h : ∀ a, zi_lm (fun n => K n a) (K' a)) : zi_lm (fun n => zi_op o (K n)) (zi_op o K') := by
  refine ⟨fun n m hnm => zi_le_op (fun a => (h a).1 n m hnm), fun q hq => ?_⟩
  unfold zi_op at hq ⊢
  split at hq
  · exact (h _).2 q hq
  · cases hq
theorem zi_lm_d2 {S : zi_S} {K : Nat → zi_S → zi_O} {K' : zi_S → zi_O} (h : ∀ a, zi_lm (fun n => K n a) (K' a)) : zi_lm (fun n => zi_d2 S (K n)) (zi_d2 S K') := by
  refine ⟨fun n m hnm => zi_le_d2 (fun a => (h a).1 n m hnm), fun q hq => ?_⟩
  unfold zi_d2 at hq ⊢
  split at hq
  · exact (h _).2 q hq
  · cases hq
theorem zi_lm_du {S : zi_S} {K : Nat → zi_S → zi_O} {K' : zi_S → zi_O} (h : ∀ a, zi_lm (fun n => K n a) (K' a)) : zi_lm (fun n => zi_du S (K n)) (zi_du S K') := by
  refine ⟨fun n m hnm => zi_le_du (fun a => (h a).1 n m hnm), fun q hq => ?_⟩
  unfold zi_du at hq ⊢
  split at hq
  · exact (h _).2 q hq
  · exact (h _).2 q hq
  · cases hq
theorem zi_lm_po {S : zi_S} {K : Nat → zi_S → zi_O} {K' : zi_S → zi_O} (h : ∀ a, zi_lm (fun n => K n a) (K' a)) : zi_lm (fun n => zi_po S (K n)) (zi_po S K') := by
  refine ⟨fun n m hnm => zi_le_po (fun a => (h a).1 n m hnm), fun q hq => ?_⟩
  unfold zi_po at hq ⊢
  split at hq
  · exact (h _).2 q hq
  · exact (h _).2 q hq
  · cases hq
theorem zi_lm_ite {c : Prop} [Decidable c] {A B : Nat → zi_O} {A' B' : zi_O} (h : zi_lm A A') (g : zi_lm B B') : zi_lm (fun n => if c then A n else B n) (if c then A' else B') := by
  by_cases hc : c
  · simp only [if_pos hc]; exact h
  · simp only [if_neg hc]; exact g
theorem zi_lm_ix {i : Int32} {n0 : Nat} {K : Nat → Nat → zi_O} {K' : Nat → zi_O} (h : ∀ k, zi_lm (fun n => K n k) (K' k)) : zi_lm (fun n => zi_ix i n0 (K n)) (zi_ix i n0 K') := zi_lm_ite (zi_lm_c _) (zi_lm_ite (zi_lm_c _) (h _))
theorem zi_lm_nl {o : Option Nat} {A B : Nat → zi_O} {A' B' : zi_O} (h : zi_lm A A') (g : zi_lm B B') : zi_lm (fun n => zi_nl o (A n) (B n)) (zi_nl o A' B') := by
  cases o
  · exact h
  · exact g
theorem zi_lm_bl {o : Bool} {A B : Nat → zi_O} {A' B' : zi_O} (h : zi_lm A A') (g : zi_lm B B') : zi_lm (fun n => zi_bl o (A n) (B n)) (zi_bl o A' B') := by
  cases o
  · exact g
  · exact h
theorem zi_lm_nn {o : Option Nat} {A : Nat → zi_O} {A' : zi_O} {K : Nat → Nat → zi_O} {K' : Nat → zi_O} (g : zi_lm A A') (h : ∀ k, zi_lm (fun n => K n k) (K' k)) : zi_lm (fun n => zi_nn o (A n) (K n)) (zi_nn o A' K') := by
  cases o
  · exact g
  · exact h _
theorem zi_lm_if {c : ClassFile.Cond} {x y : Int32} {A B : Nat → zi_O} {A' B' : zi_O} (h : zi_lm A A') (g : zi_lm B B') : zi_lm (fun n => zi_if c x y (A n) (B n)) (zi_if c x y A' B') := by
  cases c <;> first | exact zi_lm_ite h g | exact zi_lm_ite g h
theorem zi_lm_bo {x : Int32} {A : Nat → zi_O} {A' : zi_O} (h : zi_lm A A') : zi_lm (fun n => zi_bo x (A n)) (zi_bo x A') := zi_lm_ite h (zi_lm_ite h (zi_lm_c _))
theorem zi_lm_rs {S : zi_S} {A : Nat → zi_O} {A' : zi_O} (h : zi_lm A A') : zi_lm (fun n => zi_rs S (A n)) (zi_rs S A') := by
  unfold zi_rs
  cases Nat.ble (S.map zi_ct).sum 8
  · exact zi_lm_c _
  · exact h
theorem zi_lm_pp {K : Nat → List zi_V → zi_S → zi_O} {K' : List zi_V → zi_S → zi_O} (h : ∀ a T, zi_lm (fun n => K n a T) (K' a T)) (k : Nat) : ∀ (S : zi_S) (a : List zi_V), zi_lm (fun n => zi_pp k S a (K n)) (zi_pp k S a K') := by
  induction k with
  | zero => intro S a; exact h _ _
  | succ n ih =>
    intro S a
    cases S with
    | nil => exact zi_lm_c _
    | cons v S => exact ih _ _
theorem zi_lm_cV {o : Nat → zi_O} {o' : zi_O} {K : Nat → zi_M → zi_O} {K' : zi_M → zi_O} (ho : zi_lm o o') (h : ∀ k, zi_lm (fun n => K n k) (K' k)) : zi_lm (fun n => zi_cV (o n) (K n)) (zi_cV o' K') := by
  refine ⟨fun n m hnm => zi_le_cV (ho.1 n m hnm) (fun k => (h k).1 n m hnm), fun q hq => ?_⟩
  unfold zi_cV at hq
  split at hq
  · next M =>
    obtain ⟨n1, h1⟩ := ho.2 _ rfl
    obtain ⟨n2, h2⟩ := (h M).2 _ hq
    refine ⟨max n1 n2, ?_⟩
    simp only [zi_cV, ho.1 _ _ (Nat.le_max_left n1 n2) _ h1]
    exact (h M).1 _ _ (Nat.le_max_right n1 n2) _ h2
  · cases hq
theorem zi_lm_cI {o : Nat → zi_O} {o' : zi_O} {K : Nat → Int32 → zi_M → zi_O} {K' : Int32 → zi_M → zi_O} (ho : zi_lm o o') (h : ∀ x k, zi_lm (fun n => K n x k) (K' x k)) : zi_lm (fun n => zi_cI (o n) (K n)) (zi_cI o' K') := by
  refine ⟨fun n m hnm => zi_le_cI (ho.1 n m hnm) (fun x k => (h x k).1 n m hnm), fun q hq => ?_⟩
  unfold zi_cI at hq
  split at hq
  · next x M =>
    obtain ⟨n1, h1⟩ := ho.2 _ rfl
    obtain ⟨n2, h2⟩ := (h x M).2 _ hq
    refine ⟨max n1 n2, ?_⟩
    simp only [zi_cI, ho.1 _ _ (Nat.le_max_left n1 n2) _ h1]
    exact (h x M).1 _ _ (Nat.le_max_right n1 n2) _ h2
  · cases hq
theorem zi_lm_cL {o : Nat → zi_O} {o' : zi_O} {K : Nat → Int64 → zi_M → zi_O} {K' : Int64 → zi_M → zi_O} (ho : zi_lm o o') (h : ∀ x k, zi_lm (fun n => K n x k) (K' x k)) : zi_lm (fun n => zi_cL (o n) (K n)) (zi_cL o' K') := by
  refine ⟨fun n m hnm => zi_le_cL (ho.1 n m hnm) (fun x k => (h x k).1 n m hnm), fun q hq => ?_⟩
  unfold zi_cL at hq
  split at hq
  · next x M =>
    obtain ⟨n1, h1⟩ := ho.2 _ rfl
    obtain ⟨n2, h2⟩ := (h x M).2 _ hq
    refine ⟨max n1 n2, ?_⟩
    simp only [zi_cL, ho.1 _ _ (Nat.le_max_left n1 n2) _ h1]
    exact (h x M).1 _ _ (Nat.le_max_right n1 n2) _ h2
  · cases hq
theorem zi_lm_cR {o : Nat → zi_O} {o' : zi_O} {c : Nat} {K : Nat → Option Nat → zi_M → zi_O} {K' : Option Nat → zi_M → zi_O} (ho : zi_lm o o') (h : ∀ x k, zi_lm (fun n => K n x k) (K' x k)) : zi_lm (fun n => zi_cR (o n) c (K n)) (zi_cR o' c K') := by
  refine ⟨fun n m hnm => zi_le_cR (ho.1 n m hnm) (fun x k => (h x k).1 n m hnm), fun q hq => ?_⟩
  unfold zi_cR at hq
  split at hq
  · next c' x M =>
    split at hq
    · next hc =>
      obtain ⟨n1, h1⟩ := ho.2 _ rfl
      obtain ⟨n2, h2⟩ := (h x M).2 _ hq
      refine ⟨max n1 n2, ?_⟩
      simp only [zi_cR, ho.1 _ _ (Nat.le_max_left n1 n2) _ h1, if_pos hc]
      exact (h x M).1 _ _ (Nat.le_max_right n1 n2) _ h2
    · cases hq
  · cases hq
theorem zi_lm_ca {r : zi_R} {o : Nat → zi_O} {o' : zi_O} {S : zi_S} {K : Nat → zi_S → zi_M → zi_O} {K' : zi_S → zi_M → zi_O} (ho : zi_lm o o') (h : ∀ x k, zi_lm (fun n => K n x k) (K' x k)) : zi_lm (fun n => zi_ca r (o n) S (K n)) (zi_ca r o' S K') := by
  unfold zi_ca
  generalize zi_ak r = a
  match a with
  | 0 => exact zi_lm_cV ho (fun _ => h _ _)
  | 1 => exact zi_lm_cI ho (fun _ _ => h _ _)
  | 2 => exact zi_lm_cL ho (fun _ _ => h _ _)
  | 3 => exact zi_lm_cR ho (fun _ _ => h _ _)
  | _ + 4 => exact zi_lm_cI ho (fun _ _ => h _ _)
theorem zi_lm_dn {d : Nat} {K : Nat → Nat → zi_O} {K' : Nat → zi_O} (h : ∀ k, zi_lm (fun n => K n k) (K' k)) : zi_lm (fun n => zi_dn d (K n)) (zi_dn d K') := zi_lm_ite (zi_lm_c _) (h _)
theorem zi_lm_sw {x : Int32} {d lo hi : Int} {offs : Array Int} {K : Nat → Int → zi_O} {K' : Int → zi_O} (h : ∀ e, zi_lm (fun n => K n e) (K' e)) : zi_lm (fun n => zi_sw x d lo hi offs (K n)) (zi_sw x d lo hi offs K') := by
  unfold zi_sw
  refine zi_lm_ite (h _) (zi_lm_ite (h _) ?_)
  cases offs[(x.toInt - lo).toNat]? with
  | none => exact zi_lm_c _
  | some o => exact h _
theorem zi_lm_ac {M : zi_M} {S : zi_S} {K : Nat → zi_S → zi_M → zi_O} {K' : zi_S → zi_M → zi_O} (h : ∀ x k, zi_lm (fun n => K n x k) (K' x k)) : zi_lm (fun n => zi_ac M S (K n)) (zi_ac M S K') := by
  refine ⟨fun n m hnm => zi_le_ac (fun x k => (h x k).1 n m hnm), fun q hq => ?_⟩
  unfold zi_ac at hq ⊢
  split at hq
  · exact (zi_lm_ite (zi_lm_ite (zi_lm_ite (zi_lm_c _) (zi_lm_ite (zi_lm_c _) (zi_lm_ite (zi_lm_c _) (zi_lm_ite (zi_lm_ite (zi_lm_rs (h _ _)) (zi_lm_c _)) (zi_lm_c _))))) (zi_lm_c _)) (zi_lm_c _)).2 q hq
  · cases hq
theorem zi_lm_ma {t : Nat} {S : zi_S} {K : Nat → zi_S → zi_O} {K' : zi_S → zi_O} (h : ∀ k, zi_lm (fun n => K n k) (K' k)) : zi_lm (fun n => zi_ma t S (K n)) (zi_ma t S K') := zi_lm_ite (zi_lm_1i (fun _ _ => zi_lm_rs (h _))) (zi_lm_ite (zi_lm_2i (fun _ _ _ => zi_lm_rs (h _))) (zi_lm_ite (zi_lm_2i (fun _ _ _ => zi_lm_rs (h _))) (zi_lm_c _)))
set_option maxHeartbeats 4000000 in
theorem zi_lm_st {r : zi_R} {f sw : Nat → Nat → zi_L → zi_S → zi_M → zi_O} {f' sw' : Nat → zi_L → zi_S → zi_M → zi_O} {call : Nat → zi_R → List zi_V → zi_M → zi_O} {call' : zi_R → List zi_V → zi_M → zi_O} (hf : ∀ a b c d, zi_lm (fun n => f n a b c d) (f' a b c d)) (hs : ∀ a b c d, zi_lm (fun n => sw n a b c d) (sw' a b c d)) (hc : ∀ a b c, zi_lm (fun n => call n a b c) (call' a b c)) (i : Instr) (pc : Nat) (L : zi_L) (S : zi_S) (M : zi_M) : zi_lm (fun n => zi_st r (f n) (sw n) (call n) i pc L S M) (zi_st r f' sw' call' i pc L S M) := by
  cases i <;> simp only [zi_st] <;> first
    | exact zi_lm_c _
    | (repeat' first
      | exact zi_lm_c _
      | exact hf _ _ _ _
      | exact hs _ _ _ _
      | exact hc _ _ _
      | refine zi_lm_1i (fun _ _ => ?_)
      | refine zi_lm_2i (fun _ _ _ => ?_)
      | refine zi_lm_1l (fun _ _ => ?_)
      | refine zi_lm_2l (fun _ _ _ => ?_)
      | refine zi_lm_1r (fun _ _ _ => ?_)
      | refine zi_lm_sm (fun _ => ?_)
      | refine zi_lm_nl ?_ ?_
      | refine zi_lm_ix (fun _ => ?_)
      | refine zi_lm_li (fun _ => ?_)
      | refine zi_lm_ll (fun _ => ?_)
      | refine zi_lm_la (fun _ _ => ?_)
      | refine zi_lm_p1 (fun _ => ?_)
      | refine zi_lm_p2 (fun _ => ?_)
      | refine zi_lm_to (fun _ => ?_)
      | refine zi_lm_if ?_ ?_
      | refine zi_lm_bo ?_
      | refine zi_lm_rs ?_
      | refine zi_lm_pp (fun _ _ => ?_) _ _ _
      | refine zi_lm_op (fun _ => ?_)
      | refine zi_lm_bl ?_ ?_
      | refine zi_lm_nn ?_ (fun _ => ?_)
      | refine zi_lm_du (fun _ => ?_)
      | refine zi_lm_ma (fun _ => ?_)
      | refine zi_lm_d2 (fun _ => ?_)
      | refine zi_lm_po (fun _ => ?_)
      | refine zi_lm_ca ?_ (fun _ _ => ?_)
      | refine zi_lm_sw (fun _ => ?_)
      | refine zi_lm_ac (fun _ _ => ?_)
      | refine zi_lm_ite ?_ ?_)
theorem zi_lm_run (d : Nat) (r : zi_R) (t : Nat) (L : zi_L) (S : zi_S) (M : zi_M) : zi_lm (fun n => zi_go n d r t L S M) (zi_run d r t L S M) := ⟨fun _ _ h => zi_go_m h _ _ _ _ _ _, fun _ h => zi_of_run h⟩
theorem zi_lm_k (d : Nat) (r : zi_R) (t : Nat) (L : zi_L) (S : zi_S) (M : zi_M) : zi_lm (fun n => zi_k (zi_go n) (zi_go n) d r t L S M) (zi_k zi_run zi_run d r t L S M) := by
  unfold zi_k
  cases zi_at (zi_cu r) t with
  | none => exact zi_lm_run _ _ _ _ _ _
  | some ks => exact zi_lm_run _ _ _ _ _ _
theorem zi_lm_F (d : Nat) (r : zi_R) (t : Nat) (L : zi_L) (S : zi_S) (M : zi_M) : zi_lm (fun n => zi_F (zi_go n) (zi_go n) d r t L S M) (zi_F zi_run zi_run d r t L S M) := by
  unfold zi_F
  cases zi_at (zi_cd r) t with
  | none => exact zi_lm_c _
  | some i => exact zi_lm_st (fun _ _ _ _ => zi_lm_k _ _ _ _ _ _) (fun _ _ _ _ => zi_lm_run _ _ _ _ _ _) (fun _ _ _ => zi_lm_dn (fun _ => zi_lm_run _ _ _ _ _ _)) _ _ _ _ _
/-- the run is a fixed point of the step -/
theorem zi_fix (d : Nat) (r : zi_R) (t : Nat) (L : zi_L) (S : zi_S) (M : zi_M) : zi_run d r t L S M = zi_F zi_run zi_run d r t L S M := by
  have hA : zi_le (zi_run d r t L S M) (zi_F zi_run zi_run d r t L S M) := by
    intro q hq
    obtain ⟨n, hn⟩ := zi_of_run hq
    have h1 := zi_go_1 n _ _ _ _ _ _ q hn
    exact zi_le_F (fun _ _ _ _ _ _ _ h => zi_run_of h) (fun _ _ _ _ _ _ _ h => zi_run_of h) _ _ _ _ _ _ q h1
  have hB : zi_le (zi_F zi_run zi_run d r t L S M) (zi_run d r t L S M) := by
    intro q hq
    obtain ⟨n, hn⟩ := (zi_lm_F d r t L S M).2 q hq
    exact zi_run_of (n := n + 1) hn
  cases h1 : zi_run d r t L S M with
  | some q => exact (hA q h1).symm
  | none =>
    cases h2 : zi_F zi_run zi_run d r t L S M with
    | none => rfl
    | some q => rw [hB q h2] at h1; cases h1
/-- .. and of any number of steps that stop at the cuts -/
theorem zi_blk (n : Nat) : ∀ (d : Nat) (r : zi_R) (t : Nat) (L : zi_L) (S : zi_S) (M : zi_M), zi_run d r t L S M = zi_bk zi_run n d r t L S M := by
  induction n with
  | zero => intros; rfl
  | succ n ih =>
    intro d r t L S M
    have h : zi_bk zi_run n = zi_run := by
      funext d r t L S M
      exact (ih d r t L S M).symm
    show _ = zi_F zi_run (zi_bk zi_run n) d r t L S M
    rw [h]
    exact zi_fix _ _ _ _ _ _
end
section
/-! THE TABLES ARE RIGHT: links -/
theorem zi_at_mem {α : Type} : ∀ (l : List (Nat × α)) (q : Nat) {a : α}, zi_at l q = some a → (q, a) ∈ l
  | [], _, _, h => by cases h
  | (p, b) :: t, q, a, h => by
    unfold zi_at at h
    split at h
    · next hb =>
      cases h
      rw [Nat.eq_of_beq_eq_true hb]
      exact List.mem_cons_self
    · exact List.mem_cons_of_mem _ (zi_at_mem t q h)
def zi_okF (w : Nat) (e : Nat × Nat × Nat × Nat × Bool × Nat) : Prop := ∃ (C : String) (T : u_T) (N : Nat), vwCl[e.2.1]? = some (C, T, N) ∧ e.2.2.1 < N ∧ N = (zi_ftl e.2.1).length ∧ (zi_ftl e.2.1)[e.2.2.1]? = some e.2.2.2.1 ∧ (T e.2.2.1).1 = C ∧
  (e.2.2.2.2.1 = false → Cond.fieldLink (zi_cn w) e.1 C (T e.2.2.1).2.1 (T e.2.2.1).2.2.1 ∈ zi_gw) ∧ (e.2.2.2.2.1 = true → Cond.fieldLinkNest (zi_cn w) e.1 C (T e.2.2.1).2.1 (T e.2.2.1).2.2.1 "WaxWings" ∈ lw_tbl) ∧
  (e.2.2.2.1 = 0 → parseFieldDescriptor (T e.2.2.1).2.2.1 = some .int ∧ (T e.2.2.1).2.2.2 = false) ∧ (e.2.2.2.1 = 1 → parseFieldDescriptor (T e.2.2.1).2.2.1 = some .long ∧ (T e.2.2.1).2.2.2 = false) ∧ (e.2.2.2.1 = 3 → parseFieldDescriptor (T e.2.2.1).2.2.1 = some .boolean ∧ (T e.2.2.1).2.2.2 = false) ∧
  (e.2.2.2.1 = 0 ∨ e.2.2.2.1 = 1 ∨ e.2.2.2.1 = 2 ∨ e.2.2.2.1 = 3) ∧ (zi_mu e.2.1 e.2.2.1 = true → (∃ R, parseFieldDescriptor (T e.2.2.1).2.2.1 = some (.object R)) ∧ (T e.2.2.1).2.2.2 = false) ∧ e.2.1 < 11
theorem zf_0_9 : zi_okF 0 (9, 0, 0, 2, false, 95) := ⟨RX0, TX0, 3, rfl, by decide, by decide +kernel, by decide +kernel, by decide +kernel, fun _ => zi_gwI 95 (by decide +kernel) rfl, (fun h => by cases h), (fun h => by cases h), (fun h => by cases h), (fun h => by cases h), Or.inr (Or.inr (Or.inl rfl)), (fun h => absurd h (by decide)), by decide⟩
theorem zf_0_15 : zi_okF 0 (15, 0, 1, 0, false, 96) := ⟨RX0, TX0, 3, rfl, by decide, by decide +kernel, by decide +kernel, by decide +kernel, fun _ => zi_gwI 96 (by decide +kernel) rfl, (fun h => by cases h), (fun _ => ⟨by decide +kernel, by decide +kernel⟩), (fun h => by cases h), (fun h => by cases h), Or.inl rfl, (fun h => absurd h (by decide)), by decide⟩
theorem zf_0_19 : zi_okF 0 (19, 0, 2, 0, false, 100) := ⟨RX0, TX0, 3, rfl, by decide, by decide +kernel, by decide +kernel, by decide +kernel, fun _ => zi_gwI 100 (by decide +kernel) rfl, (fun h => by cases h), (fun _ => ⟨by decide +kernel, by decide +kernel⟩), (fun h => by cases h), (fun h => by cases h), Or.inl rfl, (fun h => absurd h (by decide)), by decide⟩
theorem zf_1_30 : zi_okF 1 (30, 7, 0, 0, true, 134) := ⟨RX7, TX7, 6, rfl, by decide, by decide +kernel, by decide +kernel, by decide +kernel, (fun h => by cases h), fun _ => List.mem_of_getElem? (i := 134) (by decide +kernel), (fun _ => ⟨by decide +kernel, by decide +kernel⟩), (fun h => by cases h), (fun h => by cases h), Or.inl rfl, (fun h => absurd h (by decide)), by decide⟩
theorem zf_1_33 : zi_okF 1 (33, 7, 1, 0, true, 139) := ⟨RX7, TX7, 6, rfl, by decide, by decide +kernel, by decide +kernel, by decide +kernel, (fun h => by cases h), fun _ => List.mem_of_getElem? (i := 139) (by decide +kernel), (fun _ => ⟨by decide +kernel, by decide +kernel⟩), (fun h => by cases h), (fun h => by cases h), Or.inl rfl, (fun h => absurd h (by decide)), by decide⟩
theorem zf_1_36 : zi_okF 1 (36, 7, 2, 0, true, 145) := ⟨RX7, TX7, 6, rfl, by decide, by decide +kernel, by decide +kernel, by decide +kernel, (fun h => by cases h), fun _ => List.mem_of_getElem? (i := 145) (by decide +kernel), (fun _ => ⟨by decide +kernel, by decide +kernel⟩), (fun h => by cases h), (fun h => by cases h), Or.inl rfl, (fun h => absurd h (by decide)), by decide⟩
theorem zf_1_39 : zi_okF 1 (39, 7, 3, 0, true, 149) := ⟨RX7, TX7, 6, rfl, by decide, by decide +kernel, by decide +kernel, by decide +kernel, (fun h => by cases h), fun _ => List.mem_of_getElem? (i := 149) (by decide +kernel), (fun _ => ⟨by decide +kernel, by decide +kernel⟩), (fun h => by cases h), (fun h => by cases h), Or.inl rfl, (fun h => absurd h (by decide)), by decide⟩
theorem zf_1_42 : zi_okF 1 (42, 7, 4, 0, true, 153) := ⟨RX7, TX7, 6, rfl, by decide, by decide +kernel, by decide +kernel, by decide +kernel, (fun h => by cases h), fun _ => List.mem_of_getElem? (i := 153) (by decide +kernel), (fun _ => ⟨by decide +kernel, by decide +kernel⟩), (fun h => by cases h), (fun h => by cases h), Or.inl rfl, (fun h => absurd h (by decide)), by decide⟩
theorem zf_1_45 : zi_okF 1 (45, 7, 5, 0, true, 156) := ⟨RX7, TX7, 6, rfl, by decide, by decide +kernel, by decide +kernel, by decide +kernel, (fun h => by cases h), fun _ => List.mem_of_getElem? (i := 156) (by decide +kernel), (fun _ => ⟨by decide +kernel, by decide +kernel⟩), (fun h => by cases h), (fun h => by cases h), Or.inl rfl, (fun h => absurd h (by decide)), by decide⟩
theorem zf_1_10 : zi_okF 1 (10, 1, 0, 2, false, 173) := ⟨RX1, TX1, 4, rfl, by decide, by decide +kernel, by decide +kernel, by decide +kernel, fun _ => zi_gwI 173 (by decide +kernel) rfl, (fun h => by cases h), (fun h => by cases h), (fun h => by cases h), (fun h => by cases h), Or.inr (Or.inr (Or.inl rfl)), (fun h => absurd h (by decide)), by decide⟩
theorem zf_1_20 : zi_okF 1 (20, 1, 1, 0, false, 177) := ⟨RX1, TX1, 4, rfl, by decide, by decide +kernel, by decide +kernel, by decide +kernel, fun _ => zi_gwI 177 (by decide +kernel) rfl, (fun h => by cases h), (fun _ => ⟨by decide +kernel, by decide +kernel⟩), (fun h => by cases h), (fun h => by cases h), Or.inl rfl, (fun h => absurd h (by decide)), by decide⟩
theorem zf_1_24 : zi_okF 1 (24, 1, 2, 0, false, 181) := ⟨RX1, TX1, 4, rfl, by decide, by decide +kernel, by decide +kernel, by decide +kernel, fun _ => zi_gwI 181 (by decide +kernel) rfl, (fun h => by cases h), (fun _ => ⟨by decide +kernel, by decide +kernel⟩), (fun h => by cases h), (fun h => by cases h), Or.inl rfl, (fun h => absurd h (by decide)), by decide⟩
theorem zf_1_27 : zi_okF 1 (27, 1, 3, 0, false, 183) := ⟨RX1, TX1, 4, rfl, by decide, by decide +kernel, by decide +kernel, by decide +kernel, fun _ => zi_gwI 183 (by decide +kernel) rfl, (fun h => by cases h), (fun _ => ⟨by decide +kernel, by decide +kernel⟩), (fun h => by cases h), (fun h => by cases h), Or.inl rfl, (fun h => absurd h (by decide)), by decide⟩
theorem zf_2_38 : zi_okF 2 (38, 0, 1, 0, true, 97) := ⟨RX0, TX0, 3, rfl, by decide, by decide +kernel, by decide +kernel, by decide +kernel, (fun h => by cases h), fun _ => List.mem_of_getElem? (i := 97) (by decide +kernel), (fun _ => ⟨by decide +kernel, by decide +kernel⟩), (fun h => by cases h), (fun h => by cases h), Or.inl rfl, (fun h => absurd h (by decide)), by decide⟩
theorem zf_2_33 : zi_okF 2 (33, 7, 0, 0, true, 133) := ⟨RX7, TX7, 6, rfl, by decide, by decide +kernel, by decide +kernel, by decide +kernel, (fun h => by cases h), fun _ => List.mem_of_getElem? (i := 133) (by decide +kernel), (fun _ => ⟨by decide +kernel, by decide +kernel⟩), (fun h => by cases h), (fun h => by cases h), Or.inl rfl, (fun h => absurd h (by decide)), by decide⟩
theorem zf_2_59 : zi_okF 2 (59, 7, 1, 0, true, 141) := ⟨RX7, TX7, 6, rfl, by decide, by decide +kernel, by decide +kernel, by decide +kernel, (fun h => by cases h), fun _ => List.mem_of_getElem? (i := 141) (by decide +kernel), (fun _ => ⟨by decide +kernel, by decide +kernel⟩), (fun h => by cases h), (fun h => by cases h), Or.inl rfl, (fun h => absurd h (by decide)), by decide⟩
theorem zf_2_72 : zi_okF 2 (72, 7, 2, 0, true, 146) := ⟨RX7, TX7, 6, rfl, by decide, by decide +kernel, by decide +kernel, by decide +kernel, (fun h => by cases h), fun _ => List.mem_of_getElem? (i := 146) (by decide +kernel), (fun _ => ⟨by decide +kernel, by decide +kernel⟩), (fun h => by cases h), (fun h => by cases h), Or.inl rfl, (fun h => absurd h (by decide)), by decide⟩
theorem zf_2_43 : zi_okF 2 (43, 7, 3, 0, true, 150) := ⟨RX7, TX7, 6, rfl, by decide, by decide +kernel, by decide +kernel, by decide +kernel, (fun h => by cases h), fun _ => List.mem_of_getElem? (i := 150) (by decide +kernel), (fun _ => ⟨by decide +kernel, by decide +kernel⟩), (fun h => by cases h), (fun h => by cases h), Or.inl rfl, (fun h => absurd h (by decide)), by decide⟩
theorem zf_2_82 : zi_okF 2 (82, 7, 4, 0, true, 154) := ⟨RX7, TX7, 6, rfl, by decide, by decide +kernel, by decide +kernel, by decide +kernel, (fun h => by cases h), fun _ => List.mem_of_getElem? (i := 154) (by decide +kernel), (fun _ => ⟨by decide +kernel, by decide +kernel⟩), (fun h => by cases h), (fun h => by cases h), Or.inl rfl, (fun h => absurd h (by decide)), by decide⟩
theorem zf_2_52 : zi_okF 2 (52, 7, 5, 0, true, 158) := ⟨RX7, TX7, 6, rfl, by decide, by decide +kernel, by decide +kernel, by decide +kernel, (fun h => by cases h), fun _ => List.mem_of_getElem? (i := 158) (by decide +kernel), (fun _ => ⟨by decide +kernel, by decide +kernel⟩), (fun h => by cases h), (fun h => by cases h), Or.inl rfl, (fun h => absurd h (by decide)), by decide⟩
theorem zf_2_15 : zi_okF 2 (15, 1, 1, 0, true, 176) := ⟨RX1, TX1, 4, rfl, by decide, by decide +kernel, by decide +kernel, by decide +kernel, (fun h => by cases h), fun _ => List.mem_of_getElem? (i := 176) (by decide +kernel), (fun _ => ⟨by decide +kernel, by decide +kernel⟩), (fun h => by cases h), (fun h => by cases h), Or.inl rfl, (fun h => absurd h (by decide)), by decide⟩
theorem zf_2_22 : zi_okF 2 (22, 1, 2, 0, true, 180) := ⟨RX1, TX1, 4, rfl, by decide, by decide +kernel, by decide +kernel, by decide +kernel, (fun h => by cases h), fun _ => List.mem_of_getElem? (i := 180) (by decide +kernel), (fun _ => ⟨by decide +kernel, by decide +kernel⟩), (fun h => by cases h), (fun h => by cases h), Or.inl rfl, (fun h => absurd h (by decide)), by decide⟩
theorem zf_2_26 : zi_okF 2 (26, 1, 3, 0, true, 182) := ⟨RX1, TX1, 4, rfl, by decide, by decide +kernel, by decide +kernel, by decide +kernel, (fun h => by cases h), fun _ => List.mem_of_getElem? (i := 182) (by decide +kernel), (fun _ => ⟨by decide +kernel, by decide +kernel⟩), (fun h => by cases h), (fun h => by cases h), Or.inl rfl, (fun h => absurd h (by decide)), by decide⟩
theorem zf_2_9 : zi_okF 2 (9, 2, 0, 2, false, 231) := ⟨RX2, TX2, 5, rfl, by decide, by decide +kernel, by decide +kernel, by decide +kernel, fun _ => zi_gwI 231 (by decide +kernel) rfl, (fun h => by cases h), (fun h => by cases h), (fun h => by cases h), (fun h => by cases h), Or.inr (Or.inr (Or.inl rfl)), (fun h => absurd h (by decide)), by decide⟩
theorem zf_2_21 : zi_okF 2 (21, 2, 1, 0, false, 232) := ⟨RX2, TX2, 5, rfl, by decide, by decide +kernel, by decide +kernel, by decide +kernel, fun _ => zi_gwI 232 (by decide +kernel) rfl, (fun h => by cases h), (fun _ => ⟨by decide +kernel, by decide +kernel⟩), (fun h => by cases h), (fun h => by cases h), Or.inl rfl, (fun h => absurd h (by decide)), by decide⟩
theorem zf_2_25 : zi_okF 2 (25, 2, 2, 0, false, 234) := ⟨RX2, TX2, 5, rfl, by decide, by decide +kernel, by decide +kernel, by decide +kernel, fun _ => zi_gwI 234 (by decide +kernel) rfl, (fun h => by cases h), (fun _ => ⟨by decide +kernel, by decide +kernel⟩), (fun h => by cases h), (fun h => by cases h), Or.inl rfl, (fun h => absurd h (by decide)), by decide⟩
theorem zf_2_29 : zi_okF 2 (29, 2, 3, 0, false, 236) := ⟨RX2, TX2, 5, rfl, by decide, by decide +kernel, by decide +kernel, by decide +kernel, fun _ => zi_gwI 236 (by decide +kernel) rfl, (fun h => by cases h), (fun _ => ⟨by decide +kernel, by decide +kernel⟩), (fun h => by cases h), (fun h => by cases h), Or.inl rfl, (fun h => absurd h (by decide)), by decide⟩
theorem zf_2_30 : zi_okF 2 (30, 2, 4, 0, false, 238) := ⟨RX2, TX2, 5, rfl, by decide, by decide +kernel, by decide +kernel, by decide +kernel, fun _ => zi_gwI 238 (by decide +kernel) rfl, (fun h => by cases h), (fun _ => ⟨by decide +kernel, by decide +kernel⟩), (fun h => by cases h), (fun h => by cases h), Or.inl rfl, (fun h => absurd h (by decide)), by decide⟩
theorem zf_3_80 : zi_okF 3 (80, 7, 1, 0, true, 140) := ⟨RX7, TX7, 6, rfl, by decide, by decide +kernel, by decide +kernel, by decide +kernel, (fun h => by cases h), fun _ => List.mem_of_getElem? (i := 140) (by decide +kernel), (fun _ => ⟨by decide +kernel, by decide +kernel⟩), (fun h => by cases h), (fun h => by cases h), Or.inl rfl, (fun h => absurd h (by decide)), by decide⟩
theorem zf_3_52 : zi_okF 3 (52, 7, 5, 0, true, 157) := ⟨RX7, TX7, 6, rfl, by decide, by decide +kernel, by decide +kernel, by decide +kernel, (fun h => by cases h), fun _ => List.mem_of_getElem? (i := 157) (by decide +kernel), (fun _ => ⟨by decide +kernel, by decide +kernel⟩), (fun h => by cases h), (fun h => by cases h), Or.inl rfl, (fun h => absurd h (by decide)), by decide⟩
theorem zf_3_17 : zi_okF 3 (17, 3, 0, 2, false, 283) := ⟨RX3, TX3, 4, rfl, by decide, by decide +kernel, by decide +kernel, by decide +kernel, fun _ => zi_gwI 283 (by decide +kernel) rfl, (fun h => by cases h), (fun h => by cases h), (fun h => by cases h), (fun h => by cases h), Or.inr (Or.inr (Or.inl rfl)), (fun h => absurd h (by decide)), by decide⟩
theorem zf_3_11 : zi_okF 3 (11, 3, 1, 2, false, 284) := ⟨RX3, TX3, 4, rfl, by decide, by decide +kernel, by decide +kernel, by decide +kernel, fun _ => zi_gwI 284 (by decide +kernel) rfl, (fun h => by cases h), (fun h => by cases h), (fun h => by cases h), (fun h => by cases h), Or.inr (Or.inr (Or.inl rfl)), (fun h => absurd h (by decide)), by decide⟩
theorem zf_3_44 : zi_okF 3 (44, 3, 2, 0, false, 285) := ⟨RX3, TX3, 4, rfl, by decide, by decide +kernel, by decide +kernel, by decide +kernel, fun _ => zi_gwI 285 (by decide +kernel) rfl, (fun h => by cases h), (fun _ => ⟨by decide +kernel, by decide +kernel⟩), (fun h => by cases h), (fun h => by cases h), Or.inl rfl, (fun h => absurd h (by decide)), by decide⟩
theorem zf_3_48 : zi_okF 3 (48, 3, 3, 2, false, 286) := ⟨RX3, TX3, 4, rfl, by decide, by decide +kernel, by decide +kernel, by decide +kernel, fun _ => zi_gwI 286 (by decide +kernel) rfl, (fun h => by cases h), (fun h => by cases h), (fun h => by cases h), (fun h => by cases h), Or.inr (Or.inr (Or.inl rfl)), fun _ => ⟨⟨"WaxWings$Row", by decide +kernel⟩, by decide +kernel⟩, by decide⟩
theorem zf_4_70 : zi_okF 4 (70, 0, 1, 0, true, 98) := ⟨RX0, TX0, 3, rfl, by decide, by decide +kernel, by decide +kernel, by decide +kernel, (fun h => by cases h), fun _ => List.mem_of_getElem? (i := 98) (by decide +kernel), (fun _ => ⟨by decide +kernel, by decide +kernel⟩), (fun h => by cases h), (fun h => by cases h), Or.inl rfl, (fun h => absurd h (by decide)), by decide⟩
theorem zf_4_73 : zi_okF 4 (73, 0, 2, 0, true, 101) := ⟨RX0, TX0, 3, rfl, by decide, by decide +kernel, by decide +kernel, by decide +kernel, (fun h => by cases h), fun _ => List.mem_of_getElem? (i := 101) (by decide +kernel), (fun _ => ⟨by decide +kernel, by decide +kernel⟩), (fun h => by cases h), (fun h => by cases h), Or.inl rfl, (fun h => absurd h (by decide)), by decide⟩
theorem zf_4_111 : zi_okF 4 (111, 6, 0, 2, true, 196) := ⟨RX6, TX6, 7, rfl, by decide, by decide +kernel, by decide +kernel, by decide +kernel, (fun h => by cases h), fun _ => List.mem_of_getElem? (i := 196) (by decide +kernel), (fun h => by cases h), (fun h => by cases h), (fun h => by cases h), Or.inr (Or.inr (Or.inl rfl)), (fun h => absurd h (by decide)), by decide⟩
theorem zf_4_97 : zi_okF 4 (97, 6, 4, 0, true, 202) := ⟨RX6, TX6, 7, rfl, by decide, by decide +kernel, by decide +kernel, by decide +kernel, (fun h => by cases h), fun _ => List.mem_of_getElem? (i := 202) (by decide +kernel), (fun _ => ⟨by decide +kernel, by decide +kernel⟩), (fun h => by cases h), (fun h => by cases h), Or.inl rfl, (fun h => absurd h (by decide)), by decide⟩
theorem zf_4_94 : zi_okF 4 (94, 6, 5, 0, true, 205) := ⟨RX6, TX6, 7, rfl, by decide, by decide +kernel, by decide +kernel, by decide +kernel, (fun h => by cases h), fun _ => List.mem_of_getElem? (i := 205) (by decide +kernel), (fun _ => ⟨by decide +kernel, by decide +kernel⟩), (fun h => by cases h), (fun h => by cases h), Or.inl rfl, (fun h => absurd h (by decide)), by decide⟩
theorem zf_4_12 : zi_okF 4 (12, 4, 0, 2, false, 306) := ⟨RX4, TX4, 4, rfl, by decide, by decide +kernel, by decide +kernel, by decide +kernel, fun _ => zi_gwI 306 (by decide +kernel) rfl, (fun h => by cases h), (fun h => by cases h), (fun h => by cases h), (fun h => by cases h), Or.inr (Or.inr (Or.inl rfl)), (fun h => absurd h (by decide)), by decide⟩
theorem zf_4_21 : zi_okF 4 (21, 4, 1, 2, false, 307) := ⟨RX4, TX4, 4, rfl, by decide, by decide +kernel, by decide +kernel, by decide +kernel, fun _ => zi_gwI 307 (by decide +kernel) rfl, (fun h => by cases h), (fun h => by cases h), (fun h => by cases h), (fun h => by cases h), Or.inr (Or.inr (Or.inl rfl)), (fun h => absurd h (by decide)), by decide⟩
theorem zf_4_29 : zi_okF 4 (29, 4, 2, 2, false, 308) := ⟨RX4, TX4, 4, rfl, by decide, by decide +kernel, by decide +kernel, by decide +kernel, fun _ => zi_gwI 308 (by decide +kernel) rfl, (fun h => by cases h), (fun h => by cases h), (fun h => by cases h), (fun h => by cases h), Or.inr (Or.inr (Or.inl rfl)), fun _ => ⟨⟨"WaxWings$Row", by decide +kernel⟩, by decide +kernel⟩, by decide⟩
theorem zf_4_25 : zi_okF 4 (25, 4, 3, 0, false, 309) := ⟨RX4, TX4, 4, rfl, by decide, by decide +kernel, by decide +kernel, by decide +kernel, fun _ => zi_gwI 309 (by decide +kernel) rfl, (fun h => by cases h), (fun _ => ⟨by decide +kernel, by decide +kernel⟩), (fun h => by cases h), (fun h => by cases h), Or.inl rfl, (fun h => absurd h (by decide)), by decide⟩
theorem zf_5_19 : zi_okF 5 (19, 5, 0, 2, false, 329) := ⟨RX5, TX5, 2, rfl, by decide, by decide +kernel, by decide +kernel, by decide +kernel, fun _ => zi_gwI 329 (by decide +kernel) rfl, (fun h => by cases h), (fun h => by cases h), (fun h => by cases h), (fun h => by cases h), Or.inr (Or.inr (Or.inl rfl)), (fun h => absurd h (by decide)), by decide⟩
theorem zf_5_7 : zi_okF 5 (7, 5, 1, 0, false, 330) := ⟨RX5, TX5, 2, rfl, by decide, by decide +kernel, by decide +kernel, by decide +kernel, fun _ => zi_gwI 330 (by decide +kernel) rfl, (fun h => by cases h), (fun _ => ⟨by decide +kernel, by decide +kernel⟩), (fun h => by cases h), (fun h => by cases h), Or.inl rfl, (fun h => absurd h (by decide)), by decide⟩
theorem zf_6_44 : zi_okF 6 (44, 7, 0, 0, true, 135) := ⟨RX7, TX7, 6, rfl, by decide, by decide +kernel, by decide +kernel, by decide +kernel, (fun h => by cases h), fun _ => List.mem_of_getElem? (i := 135) (by decide +kernel), (fun _ => ⟨by decide +kernel, by decide +kernel⟩), (fun h => by cases h), (fun h => by cases h), Or.inl rfl, (fun h => absurd h (by decide)), by decide⟩
theorem zf_6_40 : zi_okF 6 (40, 1, 0, 2, true, 174) := ⟨RX1, TX1, 4, rfl, by decide, by decide +kernel, by decide +kernel, by decide +kernel, (fun h => by cases h), fun _ => List.mem_of_getElem? (i := 174) (by decide +kernel), (fun h => by cases h), (fun h => by cases h), (fun h => by cases h), Or.inr (Or.inr (Or.inl rfl)), (fun h => absurd h (by decide)), by decide⟩
theorem zf_6_33 : zi_okF 6 (33, 1, 1, 0, true, 178) := ⟨RX1, TX1, 4, rfl, by decide, by decide +kernel, by decide +kernel, by decide +kernel, (fun h => by cases h), fun _ => List.mem_of_getElem? (i := 178) (by decide +kernel), (fun _ => ⟨by decide +kernel, by decide +kernel⟩), (fun h => by cases h), (fun h => by cases h), Or.inl rfl, (fun h => absurd h (by decide)), by decide⟩
theorem zf_6_11 : zi_okF 6 (11, 6, 0, 2, false, 195) := ⟨RX6, TX6, 7, rfl, by decide, by decide +kernel, by decide +kernel, by decide +kernel, fun _ => zi_gwI 195 (by decide +kernel) rfl, (fun h => by cases h), (fun h => by cases h), (fun h => by cases h), (fun h => by cases h), Or.inr (Or.inr (Or.inl rfl)), (fun h => absurd h (by decide)), by decide⟩
theorem zf_6_17 : zi_okF 6 (17, 6, 1, 2, false, 197) := ⟨RX6, TX6, 7, rfl, by decide, by decide +kernel, by decide +kernel, by decide +kernel, fun _ => zi_gwI 197 (by decide +kernel) rfl, (fun h => by cases h), (fun h => by cases h), (fun h => by cases h), (fun h => by cases h), Or.inr (Or.inr (Or.inl rfl)), (fun h => absurd h (by decide)), by decide⟩
theorem zf_6_23 : zi_okF 6 (23, 6, 2, 2, false, 198) := ⟨RX6, TX6, 7, rfl, by decide, by decide +kernel, by decide +kernel, by decide +kernel, fun _ => zi_gwI 198 (by decide +kernel) rfl, (fun h => by cases h), (fun h => by cases h), (fun h => by cases h), (fun h => by cases h), Or.inr (Or.inr (Or.inl rfl)), (fun h => absurd h (by decide)), by decide⟩
theorem zf_6_64 : zi_okF 6 (64, 6, 3, 3, false, 199) := ⟨RX6, TX6, 7, rfl, by decide, by decide +kernel, by decide +kernel, by decide +kernel, fun _ => zi_gwI 199 (by decide +kernel) rfl, (fun h => by cases h), (fun h => by cases h), (fun h => by cases h), (fun _ => ⟨by decide +kernel, by decide +kernel⟩), Or.inr (Or.inr (Or.inr rfl)), (fun h => absurd h (by decide)), by decide⟩
theorem zf_6_29 : zi_okF 6 (29, 6, 4, 0, false, 201) := ⟨RX6, TX6, 7, rfl, by decide, by decide +kernel, by decide +kernel, by decide +kernel, fun _ => zi_gwI 201 (by decide +kernel) rfl, (fun h => by cases h), (fun _ => ⟨by decide +kernel, by decide +kernel⟩), (fun h => by cases h), (fun h => by cases h), Or.inl rfl, (fun h => absurd h (by decide)), by decide⟩
theorem zf_6_68 : zi_okF 6 (68, 6, 5, 0, false, 204) := ⟨RX6, TX6, 7, rfl, by decide, by decide +kernel, by decide +kernel, by decide +kernel, fun _ => zi_gwI 204 (by decide +kernel) rfl, (fun h => by cases h), (fun _ => ⟨by decide +kernel, by decide +kernel⟩), (fun h => by cases h), (fun h => by cases h), Or.inl rfl, (fun h => absurd h (by decide)), by decide⟩
theorem zf_6_47 : zi_okF 6 (47, 6, 6, 0, false, 207) := ⟨RX6, TX6, 7, rfl, by decide, by decide +kernel, by decide +kernel, by decide +kernel, fun _ => zi_gwI 207 (by decide +kernel) rfl, (fun h => by cases h), (fun _ => ⟨by decide +kernel, by decide +kernel⟩), (fun h => by cases h), (fun h => by cases h), Or.inl rfl, (fun h => absurd h (by decide)), by decide⟩
theorem zf_7_7 : zi_okF 7 (7, 7, 0, 0, false, 132) := ⟨RX7, TX7, 6, rfl, by decide, by decide +kernel, by decide +kernel, by decide +kernel, fun _ => zi_gwI 132 (by decide +kernel) rfl, (fun h => by cases h), (fun _ => ⟨by decide +kernel, by decide +kernel⟩), (fun h => by cases h), (fun h => by cases h), Or.inl rfl, (fun h => absurd h (by decide)), by decide⟩
theorem zf_7_13 : zi_okF 7 (13, 7, 1, 0, false, 138) := ⟨RX7, TX7, 6, rfl, by decide, by decide +kernel, by decide +kernel, by decide +kernel, fun _ => zi_gwI 138 (by decide +kernel) rfl, (fun h => by cases h), (fun _ => ⟨by decide +kernel, by decide +kernel⟩), (fun h => by cases h), (fun h => by cases h), Or.inl rfl, (fun h => absurd h (by decide)), by decide⟩
theorem zf_7_16 : zi_okF 7 (16, 7, 2, 0, false, 143) := ⟨RX7, TX7, 6, rfl, by decide, by decide +kernel, by decide +kernel, by decide +kernel, fun _ => zi_gwI 143 (by decide +kernel) rfl, (fun h => by cases h), (fun _ => ⟨by decide +kernel, by decide +kernel⟩), (fun h => by cases h), (fun h => by cases h), Or.inl rfl, (fun h => absurd h (by decide)), by decide⟩
theorem zf_7_19 : zi_okF 7 (19, 7, 3, 0, false, 148) := ⟨RX7, TX7, 6, rfl, by decide, by decide +kernel, by decide +kernel, by decide +kernel, fun _ => zi_gwI 148 (by decide +kernel) rfl, (fun h => by cases h), (fun _ => ⟨by decide +kernel, by decide +kernel⟩), (fun h => by cases h), (fun h => by cases h), Or.inl rfl, (fun h => absurd h (by decide)), by decide⟩
theorem zf_7_22 : zi_okF 7 (22, 7, 4, 0, false, 152) := ⟨RX7, TX7, 6, rfl, by decide, by decide +kernel, by decide +kernel, by decide +kernel, fun _ => zi_gwI 152 (by decide +kernel) rfl, (fun h => by cases h), (fun _ => ⟨by decide +kernel, by decide +kernel⟩), (fun h => by cases h), (fun h => by cases h), Or.inl rfl, (fun h => absurd h (by decide)), by decide⟩
theorem zf_7_25 : zi_okF 7 (25, 7, 5, 0, false, 155) := ⟨RX7, TX7, 6, rfl, by decide, by decide +kernel, by decide +kernel, by decide +kernel, fun _ => zi_gwI 155 (by decide +kernel) rfl, (fun h => by cases h), (fun _ => ⟨by decide +kernel, by decide +kernel⟩), (fun h => by cases h), (fun h => by cases h), Or.inl rfl, (fun h => absurd h (by decide)), by decide⟩
theorem zf_8_74 : zi_okF 8 (74, 7, 0, 0, true, 136) := ⟨RX7, TX7, 6, rfl, by decide, by decide +kernel, by decide +kernel, by decide +kernel, (fun h => by cases h), fun _ => List.mem_of_getElem? (i := 136) (by decide +kernel), (fun _ => ⟨by decide +kernel, by decide +kernel⟩), (fun h => by cases h), (fun h => by cases h), Or.inl rfl, (fun h => absurd h (by decide)), by decide⟩
theorem zf_8_77 : zi_okF 8 (77, 7, 1, 0, true, 142) := ⟨RX7, TX7, 6, rfl, by decide, by decide +kernel, by decide +kernel, by decide +kernel, (fun h => by cases h), fun _ => List.mem_of_getElem? (i := 142) (by decide +kernel), (fun _ => ⟨by decide +kernel, by decide +kernel⟩), (fun h => by cases h), (fun h => by cases h), Or.inl rfl, (fun h => absurd h (by decide)), by decide⟩
theorem zf_8_38 : zi_okF 8 (38, 7, 2, 0, true, 144) := ⟨RX7, TX7, 6, rfl, by decide, by decide +kernel, by decide +kernel, by decide +kernel, (fun h => by cases h), fun _ => List.mem_of_getElem? (i := 144) (by decide +kernel), (fun _ => ⟨by decide +kernel, by decide +kernel⟩), (fun h => by cases h), (fun h => by cases h), Or.inl rfl, (fun h => absurd h (by decide)), by decide⟩
theorem zf_8_21 : zi_okF 8 (21, 8, 0, 2, false, 259) := ⟨RX8, TX8, 5, rfl, by decide, by decide +kernel, by decide +kernel, by decide +kernel, fun _ => zi_gwI 259 (by decide +kernel) rfl, (fun h => by cases h), (fun h => by cases h), (fun h => by cases h), (fun h => by cases h), Or.inr (Or.inr (Or.inl rfl)), (fun h => absurd h (by decide)), by decide⟩
theorem zf_8_11 : zi_okF 8 (11, 8, 1, 2, false, 260) := ⟨RX8, TX8, 5, rfl, by decide, by decide +kernel, by decide +kernel, by decide +kernel, fun _ => zi_gwI 260 (by decide +kernel) rfl, (fun h => by cases h), (fun h => by cases h), (fun h => by cases h), (fun h => by cases h), Or.inr (Or.inr (Or.inl rfl)), (fun h => absurd h (by decide)), by decide⟩
theorem zf_8_17 : zi_okF 8 (17, 8, 2, 2, false, 261) := ⟨RX8, TX8, 5, rfl, by decide, by decide +kernel, by decide +kernel, by decide +kernel, fun _ => zi_gwI 261 (by decide +kernel) rfl, (fun h => by cases h), (fun h => by cases h), (fun h => by cases h), (fun h => by cases h), Or.inr (Or.inr (Or.inl rfl)), (fun h => absurd h (by decide)), by decide⟩
theorem zf_8_30 : zi_okF 8 (30, 8, 3, 0, false, 262) := ⟨RX8, TX8, 5, rfl, by decide, by decide +kernel, by decide +kernel, by decide +kernel, fun _ => zi_gwI 262 (by decide +kernel) rfl, (fun h => by cases h), (fun _ => ⟨by decide +kernel, by decide +kernel⟩), (fun h => by cases h), (fun h => by cases h), Or.inl rfl, (fun h => absurd h (by decide)), by decide⟩
theorem zf_8_34 : zi_okF 8 (34, 8, 4, 3, false, 263) := ⟨RX8, TX8, 5, rfl, by decide, by decide +kernel, by decide +kernel, by decide +kernel, fun _ => zi_gwI 263 (by decide +kernel) rfl, (fun h => by cases h), (fun h => by cases h), (fun h => by cases h), (fun _ => ⟨by decide +kernel, by decide +kernel⟩), Or.inr (Or.inr (Or.inr rfl)), (fun h => absurd h (by decide)), by decide⟩
theorem zf_9_184 : zi_okF 9 (184, 0, 1, 0, true, 99) := ⟨RX0, TX0, 3, rfl, by decide, by decide +kernel, by decide +kernel, by decide +kernel, (fun h => by cases h), fun _ => List.mem_of_getElem? (i := 99) (by decide +kernel), (fun _ => ⟨by decide +kernel, by decide +kernel⟩), (fun h => by cases h), (fun h => by cases h), Or.inl rfl, (fun h => absurd h (by decide)), by decide⟩
theorem zf_9_178 : zi_okF 9 (178, 0, 2, 0, true, 102) := ⟨RX0, TX0, 3, rfl, by decide, by decide +kernel, by decide +kernel, by decide +kernel, (fun h => by cases h), fun _ => List.mem_of_getElem? (i := 102) (by decide +kernel), (fun _ => ⟨by decide +kernel, by decide +kernel⟩), (fun h => by cases h), (fun h => by cases h), Or.inl rfl, (fun h => absurd h (by decide)), by decide⟩
theorem zf_9_190 : zi_okF 9 (190, 7, 0, 0, true, 137) := ⟨RX7, TX7, 6, rfl, by decide, by decide +kernel, by decide +kernel, by decide +kernel, (fun h => by cases h), fun _ => List.mem_of_getElem? (i := 137) (by decide +kernel), (fun _ => ⟨by decide +kernel, by decide +kernel⟩), (fun h => by cases h), (fun h => by cases h), Or.inl rfl, (fun h => absurd h (by decide)), by decide⟩
theorem zf_9_261 : zi_okF 9 (261, 7, 2, 0, true, 147) := ⟨RX7, TX7, 6, rfl, by decide, by decide +kernel, by decide +kernel, by decide +kernel, (fun h => by cases h), fun _ => List.mem_of_getElem? (i := 147) (by decide +kernel), (fun _ => ⟨by decide +kernel, by decide +kernel⟩), (fun h => by cases h), (fun h => by cases h), Or.inl rfl, (fun h => absurd h (by decide)), by decide⟩
theorem zf_9_324 : zi_okF 9 (324, 7, 3, 0, true, 151) := ⟨RX7, TX7, 6, rfl, by decide, by decide +kernel, by decide +kernel, by decide +kernel, (fun h => by cases h), fun _ => List.mem_of_getElem? (i := 151) (by decide +kernel), (fun _ => ⟨by decide +kernel, by decide +kernel⟩), (fun h => by cases h), (fun h => by cases h), Or.inl rfl, (fun h => absurd h (by decide)), by decide⟩
theorem zf_9_216 : zi_okF 9 (216, 7, 5, 0, true, 159) := ⟨RX7, TX7, 6, rfl, by decide, by decide +kernel, by decide +kernel, by decide +kernel, (fun h => by cases h), fun _ => List.mem_of_getElem? (i := 159) (by decide +kernel), (fun _ => ⟨by decide +kernel, by decide +kernel⟩), (fun h => by cases h), (fun h => by cases h), Or.inl rfl, (fun h => absurd h (by decide)), by decide⟩
theorem zf_9_187 : zi_okF 9 (187, 1, 0, 2, true, 175) := ⟨RX1, TX1, 4, rfl, by decide, by decide +kernel, by decide +kernel, by decide +kernel, (fun h => by cases h), fun _ => List.mem_of_getElem? (i := 175) (by decide +kernel), (fun h => by cases h), (fun h => by cases h), (fun h => by cases h), Or.inr (Or.inr (Or.inl rfl)), (fun h => absurd h (by decide)), by decide⟩
theorem zf_9_162 : zi_okF 9 (162, 1, 1, 0, true, 179) := ⟨RX1, TX1, 4, rfl, by decide, by decide +kernel, by decide +kernel, by decide +kernel, (fun h => by cases h), fun _ => List.mem_of_getElem? (i := 179) (by decide +kernel), (fun _ => ⟨by decide +kernel, by decide +kernel⟩), (fun h => by cases h), (fun h => by cases h), Or.inl rfl, (fun h => absurd h (by decide)), by decide⟩
theorem zf_9_200 : zi_okF 9 (200, 1, 3, 0, true, 184) := ⟨RX1, TX1, 4, rfl, by decide, by decide +kernel, by decide +kernel, by decide +kernel, (fun h => by cases h), fun _ => List.mem_of_getElem? (i := 184) (by decide +kernel), (fun _ => ⟨by decide +kernel, by decide +kernel⟩), (fun h => by cases h), (fun h => by cases h), Or.inl rfl, (fun h => absurd h (by decide)), by decide⟩
theorem zf_9_235 : zi_okF 9 (235, 6, 3, 3, true, 200) := ⟨RX6, TX6, 7, rfl, by decide, by decide +kernel, by decide +kernel, by decide +kernel, (fun h => by cases h), fun _ => List.mem_of_getElem? (i := 200) (by decide +kernel), (fun h => by cases h), (fun h => by cases h), (fun _ => ⟨by decide +kernel, by decide +kernel⟩), Or.inr (Or.inr (Or.inr rfl)), (fun h => absurd h (by decide)), by decide⟩
theorem zf_9_150 : zi_okF 9 (150, 6, 4, 0, true, 203) := ⟨RX6, TX6, 7, rfl, by decide, by decide +kernel, by decide +kernel, by decide +kernel, (fun h => by cases h), fun _ => List.mem_of_getElem? (i := 203) (by decide +kernel), (fun _ => ⟨by decide +kernel, by decide +kernel⟩), (fun h => by cases h), (fun h => by cases h), Or.inl rfl, (fun h => absurd h (by decide)), by decide⟩
theorem zf_9_168 : zi_okF 9 (168, 6, 5, 0, true, 206) := ⟨RX6, TX6, 7, rfl, by decide, by decide +kernel, by decide +kernel, by decide +kernel, (fun h => by cases h), fun _ => List.mem_of_getElem? (i := 206) (by decide +kernel), (fun _ => ⟨by decide +kernel, by decide +kernel⟩), (fun h => by cases h), (fun h => by cases h), Or.inl rfl, (fun h => absurd h (by decide)), by decide⟩
theorem zf_9_210 : zi_okF 9 (210, 6, 6, 0, true, 208) := ⟨RX6, TX6, 7, rfl, by decide, by decide +kernel, by decide +kernel, by decide +kernel, (fun h => by cases h), fun _ => List.mem_of_getElem? (i := 208) (by decide +kernel), (fun _ => ⟨by decide +kernel, by decide +kernel⟩), (fun h => by cases h), (fun h => by cases h), Or.inl rfl, (fun h => absurd h (by decide)), by decide⟩
theorem zf_9_286 : zi_okF 9 (286, 2, 1, 0, true, 233) := ⟨RX2, TX2, 5, rfl, by decide, by decide +kernel, by decide +kernel, by decide +kernel, (fun h => by cases h), fun _ => List.mem_of_getElem? (i := 233) (by decide +kernel), (fun _ => ⟨by decide +kernel, by decide +kernel⟩), (fun h => by cases h), (fun h => by cases h), Or.inl rfl, (fun h => absurd h (by decide)), by decide⟩
theorem zf_9_270 : zi_okF 9 (270, 2, 2, 0, true, 235) := ⟨RX2, TX2, 5, rfl, by decide, by decide +kernel, by decide +kernel, by decide +kernel, (fun h => by cases h), fun _ => List.mem_of_getElem? (i := 235) (by decide +kernel), (fun _ => ⟨by decide +kernel, by decide +kernel⟩), (fun h => by cases h), (fun h => by cases h), Or.inl rfl, (fun h => absurd h (by decide)), by decide⟩
theorem zf_9_284 : zi_okF 9 (284, 2, 3, 0, true, 237) := ⟨RX2, TX2, 5, rfl, by decide, by decide +kernel, by decide +kernel, by decide +kernel, (fun h => by cases h), fun _ => List.mem_of_getElem? (i := 237) (by decide +kernel), (fun _ => ⟨by decide +kernel, by decide +kernel⟩), (fun h => by cases h), (fun h => by cases h), Or.inl rfl, (fun h => absurd h (by decide)), by decide⟩
theorem zf_9_285 : zi_okF 9 (285, 2, 4, 0, true, 239) := ⟨RX2, TX2, 5, rfl, by decide, by decide +kernel, by decide +kernel, by decide +kernel, (fun h => by cases h), fun _ => List.mem_of_getElem? (i := 239) (by decide +kernel), (fun _ => ⟨by decide +kernel, by decide +kernel⟩), (fun h => by cases h), (fun h => by cases h), Or.inl rfl, (fun h => absurd h (by decide)), by decide⟩
theorem zf_9_11 : zi_okF 9 (11, 9, 0, 2, false, 336) := ⟨RX9, TX9, 16, rfl, by decide, by decide +kernel, by decide +kernel, by decide +kernel, fun _ => zi_gwI 336 (by decide +kernel) rfl, (fun h => by cases h), (fun h => by cases h), (fun h => by cases h), (fun h => by cases h), Or.inr (Or.inr (Or.inl rfl)), (fun h => absurd h (by decide)), by decide⟩
theorem zf_9_15 : zi_okF 9 (15, 9, 1, 2, false, 337) := ⟨RX9, TX9, 16, rfl, by decide, by decide +kernel, by decide +kernel, by decide +kernel, fun _ => zi_gwI 337 (by decide +kernel) rfl, (fun h => by cases h), (fun h => by cases h), (fun h => by cases h), (fun h => by cases h), Or.inr (Or.inr (Or.inl rfl)), (fun h => absurd h (by decide)), by decide⟩
theorem zf_9_21 : zi_okF 9 (21, 9, 2, 2, false, 338) := ⟨RX9, TX9, 16, rfl, by decide, by decide +kernel, by decide +kernel, by decide +kernel, fun _ => zi_gwI 338 (by decide +kernel) rfl, (fun h => by cases h), (fun h => by cases h), (fun h => by cases h), (fun h => by cases h), Or.inr (Or.inr (Or.inl rfl)), (fun h => absurd h (by decide)), by decide⟩
theorem zf_9_28 : zi_okF 9 (28, 9, 3, 2, false, 339) := ⟨RX9, TX9, 16, rfl, by decide, by decide +kernel, by decide +kernel, by decide +kernel, fun _ => zi_gwI 339 (by decide +kernel) rfl, (fun h => by cases h), (fun h => by cases h), (fun h => by cases h), (fun h => by cases h), Or.inr (Or.inr (Or.inl rfl)), (fun h => absurd h (by decide)), by decide⟩
theorem zf_9_32 : zi_okF 9 (32, 9, 4, 2, false, 340) := ⟨RX9, TX9, 16, rfl, by decide, by decide +kernel, by decide +kernel, by decide +kernel, fun _ => zi_gwI 340 (by decide +kernel) rfl, (fun h => by cases h), (fun h => by cases h), (fun h => by cases h), (fun h => by cases h), Or.inr (Or.inr (Or.inl rfl)), (fun h => absurd h (by decide)), by decide⟩
theorem zf_9_41 : zi_okF 9 (41, 9, 5, 2, false, 341) := ⟨RX9, TX9, 16, rfl, by decide, by decide +kernel, by decide +kernel, by decide +kernel, fun _ => zi_gwI 341 (by decide +kernel) rfl, (fun h => by cases h), (fun h => by cases h), (fun h => by cases h), (fun h => by cases h), Or.inr (Or.inr (Or.inl rfl)), (fun h => absurd h (by decide)), by decide⟩
theorem zf_9_50 : zi_okF 9 (50, 9, 6, 2, false, 342) := ⟨RX9, TX9, 16, rfl, by decide, by decide +kernel, by decide +kernel, by decide +kernel, fun _ => zi_gwI 342 (by decide +kernel) rfl, (fun h => by cases h), (fun h => by cases h), (fun h => by cases h), (fun h => by cases h), Or.inr (Or.inr (Or.inl rfl)), (fun h => absurd h (by decide)), by decide⟩
theorem zf_9_57 : zi_okF 9 (57, 9, 7, 2, false, 343) := ⟨RX9, TX9, 16, rfl, by decide, by decide +kernel, by decide +kernel, by decide +kernel, fun _ => zi_gwI 343 (by decide +kernel) rfl, (fun h => by cases h), (fun h => by cases h), (fun h => by cases h), (fun h => by cases h), Or.inr (Or.inr (Or.inl rfl)), (fun h => absurd h (by decide)), by decide⟩
theorem zf_9_64 : zi_okF 9 (64, 9, 8, 2, false, 344) := ⟨RX9, TX9, 16, rfl, by decide, by decide +kernel, by decide +kernel, by decide +kernel, fun _ => zi_gwI 344 (by decide +kernel) rfl, (fun h => by cases h), (fun h => by cases h), (fun h => by cases h), (fun h => by cases h), Or.inr (Or.inr (Or.inl rfl)), (fun h => absurd h (by decide)), by decide⟩
theorem zf_9_71 : zi_okF 9 (71, 9, 9, 2, false, 345) := ⟨RX9, TX9, 16, rfl, by decide, by decide +kernel, by decide +kernel, by decide +kernel, fun _ => zi_gwI 345 (by decide +kernel) rfl, (fun h => by cases h), (fun h => by cases h), (fun h => by cases h), (fun h => by cases h), Or.inr (Or.inr (Or.inl rfl)), (fun h => absurd h (by decide)), by decide⟩
theorem zf_9_75 : zi_okF 9 (75, 9, 10, 2, false, 346) := ⟨RX9, TX9, 16, rfl, by decide, by decide +kernel, by decide +kernel, by decide +kernel, fun _ => zi_gwI 346 (by decide +kernel) rfl, (fun h => by cases h), (fun h => by cases h), (fun h => by cases h), (fun h => by cases h), Or.inr (Or.inr (Or.inl rfl)), (fun h => absurd h (by decide)), by decide⟩
theorem zf_9_79 : zi_okF 9 (79, 9, 11, 2, false, 347) := ⟨RX9, TX9, 16, rfl, by decide, by decide +kernel, by decide +kernel, by decide +kernel, fun _ => zi_gwI 347 (by decide +kernel) rfl, (fun h => by cases h), (fun h => by cases h), (fun h => by cases h), (fun h => by cases h), Or.inr (Or.inr (Or.inl rfl)), (fun h => absurd h (by decide)), by decide⟩
theorem zf_9_343 : zi_okF 9 (343, 9, 12, 0, false, 348) := ⟨RX9, TX9, 16, rfl, by decide, by decide +kernel, by decide +kernel, by decide +kernel, fun _ => zi_gwI 348 (by decide +kernel) rfl, (fun h => by cases h), (fun _ => ⟨by decide +kernel, by decide +kernel⟩), (fun h => by cases h), (fun h => by cases h), Or.inl rfl, (fun h => absurd h (by decide)), by decide⟩
theorem zf_9_112 : zi_okF 9 (112, 9, 13, 0, false, 349) := ⟨RX9, TX9, 16, rfl, by decide, by decide +kernel, by decide +kernel, by decide +kernel, fun _ => zi_gwI 349 (by decide +kernel) rfl, (fun h => by cases h), (fun _ => ⟨by decide +kernel, by decide +kernel⟩), (fun h => by cases h), (fun h => by cases h), Or.inl rfl, (fun h => absurd h (by decide)), by decide⟩
theorem zf_9_337 : zi_okF 9 (337, 9, 14, 1, false, 350) := ⟨RX9, TX9, 16, rfl, by decide, by decide +kernel, by decide +kernel, by decide +kernel, fun _ => zi_gwI 350 (by decide +kernel) rfl, (fun h => by cases h), (fun h => by cases h), (fun _ => ⟨by decide +kernel, by decide +kernel⟩), (fun h => by cases h), Or.inr (Or.inl rfl), (fun h => absurd h (by decide)), by decide⟩
theorem zf_9_82 : zi_okF 9 (82, 9, 15, 1, false, 351) := ⟨RX9, TX9, 16, rfl, by decide, by decide +kernel, by decide +kernel, by decide +kernel, fun _ => zi_gwI 351 (by decide +kernel) rfl, (fun h => by cases h), (fun h => by cases h), (fun _ => ⟨by decide +kernel, by decide +kernel⟩), (fun h => by cases h), Or.inr (Or.inl rfl), (fun h => absurd h (by decide)), by decide⟩
theorem zf_10_7 : zi_okF 10 (7, 10, 0, 2, false, 968) := ⟨RX10, TX10, 39, rfl, by decide, by decide +kernel, by decide +kernel, by decide +kernel, fun _ => zi_gwI 968 (by decide +kernel) rfl, (fun h => by cases h), (fun h => by cases h), (fun h => by cases h), (fun h => by cases h), Or.inr (Or.inr (Or.inl rfl)), (fun h => absurd h (by decide)), by decide⟩
theorem zf_10_13 : zi_okF 10 (13, 10, 1, 2, false, 969) := ⟨RX10, TX10, 39, rfl, by decide, by decide +kernel, by decide +kernel, by decide +kernel, fun _ => zi_gwI 969 (by decide +kernel) rfl, (fun h => by cases h), (fun h => by cases h), (fun h => by cases h), (fun h => by cases h), Or.inr (Or.inr (Or.inl rfl)), (fun h => absurd h (by decide)), by decide⟩
theorem zf_10_16 : zi_okF 10 (16, 10, 2, 2, false, 970) := ⟨RX10, TX10, 39, rfl, by decide, by decide +kernel, by decide +kernel, by decide +kernel, fun _ => zi_gwI 970 (by decide +kernel) rfl, (fun h => by cases h), (fun h => by cases h), (fun h => by cases h), (fun h => by cases h), Or.inr (Or.inr (Or.inl rfl)), (fun h => absurd h (by decide)), by decide⟩
theorem zf_10_19 : zi_okF 10 (19, 10, 3, 2, false, 971) := ⟨RX10, TX10, 39, rfl, by decide, by decide +kernel, by decide +kernel, by decide +kernel, fun _ => zi_gwI 971 (by decide +kernel) rfl, (fun h => by cases h), (fun h => by cases h), (fun h => by cases h), (fun h => by cases h), Or.inr (Or.inr (Or.inl rfl)), (fun h => absurd h (by decide)), by decide⟩
theorem zf_10_22 : zi_okF 10 (22, 10, 4, 2, false, 972) := ⟨RX10, TX10, 39, rfl, by decide, by decide +kernel, by decide +kernel, by decide +kernel, fun _ => zi_gwI 972 (by decide +kernel) rfl, (fun h => by cases h), (fun h => by cases h), (fun h => by cases h), (fun h => by cases h), Or.inr (Or.inr (Or.inl rfl)), (fun h => absurd h (by decide)), by decide⟩
theorem zf_10_25 : zi_okF 10 (25, 10, 5, 2, false, 973) := ⟨RX10, TX10, 39, rfl, by decide, by decide +kernel, by decide +kernel, by decide +kernel, fun _ => zi_gwI 973 (by decide +kernel) rfl, (fun h => by cases h), (fun h => by cases h), (fun h => by cases h), (fun h => by cases h), Or.inr (Or.inr (Or.inl rfl)), (fun h => absurd h (by decide)), by decide⟩
theorem zf_10_28 : zi_okF 10 (28, 10, 6, 2, false, 974) := ⟨RX10, TX10, 39, rfl, by decide, by decide +kernel, by decide +kernel, by decide +kernel, fun _ => zi_gwI 974 (by decide +kernel) rfl, (fun h => by cases h), (fun h => by cases h), (fun h => by cases h), (fun h => by cases h), Or.inr (Or.inr (Or.inl rfl)), (fun h => absurd h (by decide)), by decide⟩
theorem zf_10_32 : zi_okF 10 (32, 10, 7, 2, false, 975) := ⟨RX10, TX10, 39, rfl, by decide, by decide +kernel, by decide +kernel, by decide +kernel, fun _ => zi_gwI 975 (by decide +kernel) rfl, (fun h => by cases h), (fun h => by cases h), (fun h => by cases h), (fun h => by cases h), Or.inr (Or.inr (Or.inl rfl)), (fun h => absurd h (by decide)), by decide⟩
theorem zf_10_76 : zi_okF 10 (76, 10, 8, 0, false, 976) := ⟨RX10, TX10, 39, rfl, by decide, by decide +kernel, by decide +kernel, by decide +kernel, fun _ => zi_gwI 976 (by decide +kernel) rfl, (fun h => by cases h), (fun _ => ⟨by decide +kernel, by decide +kernel⟩), (fun h => by cases h), (fun h => by cases h), Or.inl rfl, (fun h => absurd h (by decide)), by decide⟩
theorem zf_10_80 : zi_okF 10 (80, 10, 9, 0, false, 977) := ⟨RX10, TX10, 39, rfl, by decide, by decide +kernel, by decide +kernel, by decide +kernel, fun _ => zi_gwI 977 (by decide +kernel) rfl, (fun h => by cases h), (fun _ => ⟨by decide +kernel, by decide +kernel⟩), (fun h => by cases h), (fun h => by cases h), Or.inl rfl, (fun h => absurd h (by decide)), by decide⟩
theorem zf_10_246 : zi_okF 10 (246, 10, 10, 1, false, 978) := ⟨RX10, TX10, 39, rfl, by decide, by decide +kernel, by decide +kernel, by decide +kernel, fun _ => zi_gwI 978 (by decide +kernel) rfl, (fun h => by cases h), (fun h => by cases h), (fun _ => ⟨by decide +kernel, by decide +kernel⟩), (fun h => by cases h), Or.inr (Or.inl rfl), (fun h => absurd h (by decide)), by decide⟩
theorem zf_10_72 : zi_okF 10 (72, 10, 11, 1, false, 979) := ⟨RX10, TX10, 39, rfl, by decide, by decide +kernel, by decide +kernel, by decide +kernel, fun _ => zi_gwI 979 (by decide +kernel) rfl, (fun h => by cases h), (fun h => by cases h), (fun _ => ⟨by decide +kernel, by decide +kernel⟩), (fun h => by cases h), Or.inr (Or.inl rfl), (fun h => absurd h (by decide)), by decide⟩
theorem zf_10_35 : zi_okF 10 (35, 10, 12, 2, false, 980) := ⟨RX10, TX10, 39, rfl, by decide, by decide +kernel, by decide +kernel, by decide +kernel, fun _ => zi_gwI 980 (by decide +kernel) rfl, (fun h => by cases h), (fun h => by cases h), (fun h => by cases h), (fun h => by cases h), Or.inr (Or.inr (Or.inl rfl)), (fun h => absurd h (by decide)), by decide⟩
theorem zf_10_111 : zi_okF 10 (111, 10, 13, 0, false, 981) := ⟨RX10, TX10, 39, rfl, by decide, by decide +kernel, by decide +kernel, by decide +kernel, fun _ => zi_gwI 981 (by decide +kernel) rfl, (fun h => by cases h), (fun _ => ⟨by decide +kernel, by decide +kernel⟩), (fun h => by cases h), (fun h => by cases h), Or.inl rfl, (fun h => absurd h (by decide)), by decide⟩
theorem zf_10_108 : zi_okF 10 (108, 10, 14, 0, false, 982) := ⟨RX10, TX10, 39, rfl, by decide, by decide +kernel, by decide +kernel, by decide +kernel, fun _ => zi_gwI 982 (by decide +kernel) rfl, (fun h => by cases h), (fun _ => ⟨by decide +kernel, by decide +kernel⟩), (fun h => by cases h), (fun h => by cases h), Or.inl rfl, (fun h => absurd h (by decide)), by decide⟩
theorem zf_10_105 : zi_okF 10 (105, 10, 15, 0, false, 983) := ⟨RX10, TX10, 39, rfl, by decide, by decide +kernel, by decide +kernel, by decide +kernel, fun _ => zi_gwI 983 (by decide +kernel) rfl, (fun h => by cases h), (fun _ => ⟨by decide +kernel, by decide +kernel⟩), (fun h => by cases h), (fun h => by cases h), Or.inl rfl, (fun h => absurd h (by decide)), by decide⟩
theorem zf_10_38 : zi_okF 10 (38, 10, 16, 2, false, 984) := ⟨RX10, TX10, 39, rfl, by decide, by decide +kernel, by decide +kernel, by decide +kernel, fun _ => zi_gwI 984 (by decide +kernel) rfl, (fun h => by cases h), (fun h => by cases h), (fun h => by cases h), (fun h => by cases h), Or.inr (Or.inr (Or.inl rfl)), (fun h => absurd h (by decide)), by decide⟩
theorem zf_10_152 : zi_okF 10 (152, 10, 17, 0, false, 985) := ⟨RX10, TX10, 39, rfl, by decide, by decide +kernel, by decide +kernel, by decide +kernel, fun _ => zi_gwI 985 (by decide +kernel) rfl, (fun h => by cases h), (fun _ => ⟨by decide +kernel, by decide +kernel⟩), (fun h => by cases h), (fun h => by cases h), Or.inl rfl, (fun h => absurd h (by decide)), by decide⟩
theorem zf_10_155 : zi_okF 10 (155, 10, 18, 0, false, 986) := ⟨RX10, TX10, 39, rfl, by decide, by decide +kernel, by decide +kernel, by decide +kernel, fun _ => zi_gwI 986 (by decide +kernel) rfl, (fun h => by cases h), (fun _ => ⟨by decide +kernel, by decide +kernel⟩), (fun h => by cases h), (fun h => by cases h), Or.inl rfl, (fun h => absurd h (by decide)), by decide⟩
theorem zf_10_158 : zi_okF 10 (158, 10, 19, 0, false, 987) := ⟨RX10, TX10, 39, rfl, by decide, by decide +kernel, by decide +kernel, by decide +kernel, fun _ => zi_gwI 987 (by decide +kernel) rfl, (fun h => by cases h), (fun _ => ⟨by decide +kernel, by decide +kernel⟩), (fun h => by cases h), (fun h => by cases h), Or.inl rfl, (fun h => absurd h (by decide)), by decide⟩
theorem zf_10_161 : zi_okF 10 (161, 10, 20, 0, false, 988) := ⟨RX10, TX10, 39, rfl, by decide, by decide +kernel, by decide +kernel, by decide +kernel, fun _ => zi_gwI 988 (by decide +kernel) rfl, (fun h => by cases h), (fun _ => ⟨by decide +kernel, by decide +kernel⟩), (fun h => by cases h), (fun h => by cases h), Or.inl rfl, (fun h => absurd h (by decide)), by decide⟩
theorem zf_10_164 : zi_okF 10 (164, 10, 21, 0, false, 989) := ⟨RX10, TX10, 39, rfl, by decide, by decide +kernel, by decide +kernel, by decide +kernel, fun _ => zi_gwI 989 (by decide +kernel) rfl, (fun h => by cases h), (fun _ => ⟨by decide +kernel, by decide +kernel⟩), (fun h => by cases h), (fun h => by cases h), Or.inl rfl, (fun h => absurd h (by decide)), by decide⟩
theorem zf_10_167 : zi_okF 10 (167, 10, 22, 0, false, 990) := ⟨RX10, TX10, 39, rfl, by decide, by decide +kernel, by decide +kernel, by decide +kernel, fun _ => zi_gwI 990 (by decide +kernel) rfl, (fun h => by cases h), (fun _ => ⟨by decide +kernel, by decide +kernel⟩), (fun h => by cases h), (fun h => by cases h), Or.inl rfl, (fun h => absurd h (by decide)), by decide⟩
theorem zf_10_173 : zi_okF 10 (173, 10, 23, 0, false, 991) := ⟨RX10, TX10, 39, rfl, by decide, by decide +kernel, by decide +kernel, by decide +kernel, fun _ => zi_gwI 991 (by decide +kernel) rfl, (fun h => by cases h), (fun _ => ⟨by decide +kernel, by decide +kernel⟩), (fun h => by cases h), (fun h => by cases h), Or.inl rfl, (fun h => absurd h (by decide)), by decide⟩
theorem zf_10_176 : zi_okF 10 (176, 10, 24, 0, false, 992) := ⟨RX10, TX10, 39, rfl, by decide, by decide +kernel, by decide +kernel, by decide +kernel, fun _ => zi_gwI 992 (by decide +kernel) rfl, (fun h => by cases h), (fun _ => ⟨by decide +kernel, by decide +kernel⟩), (fun h => by cases h), (fun h => by cases h), Or.inl rfl, (fun h => absurd h (by decide)), by decide⟩
theorem zf_10_170 : zi_okF 10 (170, 10, 25, 0, false, 993) := ⟨RX10, TX10, 39, rfl, by decide, by decide +kernel, by decide +kernel, by decide +kernel, fun _ => zi_gwI 993 (by decide +kernel) rfl, (fun h => by cases h), (fun _ => ⟨by decide +kernel, by decide +kernel⟩), (fun h => by cases h), (fun h => by cases h), Or.inl rfl, (fun h => absurd h (by decide)), by decide⟩
theorem zf_10_179 : zi_okF 10 (179, 10, 26, 0, false, 994) := ⟨RX10, TX10, 39, rfl, by decide, by decide +kernel, by decide +kernel, by decide +kernel, fun _ => zi_gwI 994 (by decide +kernel) rfl, (fun h => by cases h), (fun _ => ⟨by decide +kernel, by decide +kernel⟩), (fun h => by cases h), (fun h => by cases h), Or.inl rfl, (fun h => absurd h (by decide)), by decide⟩
theorem zf_10_41 : zi_okF 10 (41, 10, 27, 2, false, 995) := ⟨RX10, TX10, 39, rfl, by decide, by decide +kernel, by decide +kernel, by decide +kernel, fun _ => zi_gwI 995 (by decide +kernel) rfl, (fun h => by cases h), (fun h => by cases h), (fun h => by cases h), (fun h => by cases h), Or.inr (Or.inr (Or.inl rfl)), (fun h => absurd h (by decide)), by decide⟩
theorem zf_10_234 : zi_okF 10 (234, 10, 28, 0, false, 996) := ⟨RX10, TX10, 39, rfl, by decide, by decide +kernel, by decide +kernel, by decide +kernel, fun _ => zi_gwI 996 (by decide +kernel) rfl, (fun h => by cases h), (fun _ => ⟨by decide +kernel, by decide +kernel⟩), (fun h => by cases h), (fun h => by cases h), Or.inl rfl, (fun h => absurd h (by decide)), by decide⟩
theorem zf_10_237 : zi_okF 10 (237, 10, 29, 0, false, 997) := ⟨RX10, TX10, 39, rfl, by decide, by decide +kernel, by decide +kernel, by decide +kernel, fun _ => zi_gwI 997 (by decide +kernel) rfl, (fun h => by cases h), (fun _ => ⟨by decide +kernel, by decide +kernel⟩), (fun h => by cases h), (fun h => by cases h), Or.inl rfl, (fun h => absurd h (by decide)), by decide⟩
theorem zf_10_44 : zi_okF 10 (44, 10, 30, 2, false, 998) := ⟨RX10, TX10, 39, rfl, by decide, by decide +kernel, by decide +kernel, by decide +kernel, fun _ => zi_gwI 998 (by decide +kernel) rfl, (fun h => by cases h), (fun h => by cases h), (fun h => by cases h), (fun h => by cases h), Or.inr (Or.inr (Or.inl rfl)), (fun h => absurd h (by decide)), by decide⟩
theorem zf_10_47 : zi_okF 10 (47, 10, 31, 2, false, 999) := ⟨RX10, TX10, 39, rfl, by decide, by decide +kernel, by decide +kernel, by decide +kernel, fun _ => zi_gwI 999 (by decide +kernel) rfl, (fun h => by cases h), (fun h => by cases h), (fun h => by cases h), (fun h => by cases h), Or.inr (Or.inr (Or.inl rfl)), (fun h => absurd h (by decide)), by decide⟩
theorem zf_10_50 : zi_okF 10 (50, 10, 32, 2, false, 1000) := ⟨RX10, TX10, 39, rfl, by decide, by decide +kernel, by decide +kernel, by decide +kernel, fun _ => zi_gwI 1000 (by decide +kernel) rfl, (fun h => by cases h), (fun h => by cases h), (fun h => by cases h), (fun h => by cases h), Or.inr (Or.inr (Or.inl rfl)), (fun h => absurd h (by decide)), by decide⟩
theorem zf_10_53 : zi_okF 10 (53, 10, 33, 2, false, 1001) := ⟨RX10, TX10, 39, rfl, by decide, by decide +kernel, by decide +kernel, by decide +kernel, fun _ => zi_gwI 1001 (by decide +kernel) rfl, (fun h => by cases h), (fun h => by cases h), (fun h => by cases h), (fun h => by cases h), Or.inr (Or.inr (Or.inl rfl)), (fun h => absurd h (by decide)), by decide⟩
theorem zf_10_56 : zi_okF 10 (56, 10, 34, 2, false, 1002) := ⟨RX10, TX10, 39, rfl, by decide, by decide +kernel, by decide +kernel, by decide +kernel, fun _ => zi_gwI 1002 (by decide +kernel) rfl, (fun h => by cases h), (fun h => by cases h), (fun h => by cases h), (fun h => by cases h), Or.inr (Or.inr (Or.inl rfl)), (fun h => absurd h (by decide)), by decide⟩
theorem zf_10_59 : zi_okF 10 (59, 10, 35, 2, false, 1003) := ⟨RX10, TX10, 39, rfl, by decide, by decide +kernel, by decide +kernel, by decide +kernel, fun _ => zi_gwI 1003 (by decide +kernel) rfl, (fun h => by cases h), (fun h => by cases h), (fun h => by cases h), (fun h => by cases h), Or.inr (Or.inr (Or.inl rfl)), (fun h => absurd h (by decide)), by decide⟩
theorem zf_10_62 : zi_okF 10 (62, 10, 36, 2, false, 1004) := ⟨RX10, TX10, 39, rfl, by decide, by decide +kernel, by decide +kernel, by decide +kernel, fun _ => zi_gwI 1004 (by decide +kernel) rfl, (fun h => by cases h), (fun h => by cases h), (fun h => by cases h), (fun h => by cases h), Or.inr (Or.inr (Or.inl rfl)), (fun h => absurd h (by decide)), by decide⟩
theorem zf_10_66 : zi_okF 10 (66, 10, 37, 2, false, 1005) := ⟨RX10, TX10, 39, rfl, by decide, by decide +kernel, by decide +kernel, by decide +kernel, fun _ => zi_gwI 1005 (by decide +kernel) rfl, (fun h => by cases h), (fun h => by cases h), (fun h => by cases h), (fun h => by cases h), Or.inr (Or.inr (Or.inl rfl)), (fun h => absurd h (by decide)), by decide⟩
theorem zf_10_69 : zi_okF 10 (69, 10, 38, 2, false, 1006) := ⟨RX10, TX10, 39, rfl, by decide, by decide +kernel, by decide +kernel, by decide +kernel, fun _ => zi_gwI 1006 (by decide +kernel) rfl, (fun h => by cases h), (fun h => by cases h), (fun h => by cases h), (fun h => by cases h), Or.inr (Or.inr (Or.inl rfl)), (fun h => absurd h (by decide)), by decide⟩
theorem zf_w0 : ∀ e ∈ (zi_at zi_fls 0).getD [], zi_okF 0 e := List.forall_mem_cons.mpr ⟨zf_0_9, List.forall_mem_cons.mpr ⟨zf_0_15, List.forall_mem_cons.mpr ⟨zf_0_19, fun _ h => absurd h List.not_mem_nil⟩⟩⟩
theorem zf_w1 : ∀ e ∈ (zi_at zi_fls 1).getD [], zi_okF 1 e := List.forall_mem_cons.mpr ⟨zf_1_30, List.forall_mem_cons.mpr ⟨zf_1_33, List.forall_mem_cons.mpr ⟨zf_1_36, List.forall_mem_cons.mpr ⟨zf_1_39, List.forall_mem_cons.mpr ⟨zf_1_42, List.forall_mem_cons.mpr ⟨zf_1_45, List.forall_mem_cons.mpr ⟨zf_1_10, List.forall_mem_cons.mpr ⟨zf_1_20, List.forall_mem_cons.mpr ⟨zf_1_24, List.forall_mem_cons.mpr ⟨zf_1_27, fun _ h => absurd h List.not_mem_nil⟩⟩⟩⟩⟩⟩⟩⟩⟩⟩
theorem zf_w2 : ∀ e ∈ (zi_at zi_fls 2).getD [], zi_okF 2 e := List.forall_mem_cons.mpr ⟨zf_2_38, List.forall_mem_cons.mpr ⟨zf_2_33, List.forall_mem_cons.mpr ⟨zf_2_59, List.forall_mem_cons.mpr ⟨zf_2_72, List.forall_mem_cons.mpr ⟨zf_2_43, List.forall_mem_cons.mpr ⟨zf_2_82, List.forall_mem_cons.mpr ⟨zf_2_52, List.forall_mem_cons.mpr ⟨zf_2_15, List.forall_mem_cons.mpr ⟨zf_2_22, List.forall_mem_cons.mpr ⟨zf_2_26, List.forall_mem_cons.mpr ⟨zf_2_9, List.forall_mem_cons.mpr ⟨zf_2_21, List.forall_mem_cons.mpr ⟨zf_2_25, List.forall_mem_cons.mpr ⟨zf_2_29, List.forall_mem_cons.mpr ⟨zf_2_30, fun _ h => absurd h List.not_mem_nil⟩⟩⟩⟩⟩⟩⟩⟩⟩⟩⟩⟩⟩⟩⟩
theorem zf_w3 : ∀ e ∈ (zi_at zi_fls 3).getD [], zi_okF 3 e := List.forall_mem_cons.mpr ⟨zf_3_80, List.forall_mem_cons.mpr ⟨zf_3_52, List.forall_mem_cons.mpr ⟨zf_3_17, List.forall_mem_cons.mpr ⟨zf_3_11, List.forall_mem_cons.mpr ⟨zf_3_44, List.forall_mem_cons.mpr ⟨zf_3_48, fun _ h => absurd h List.not_mem_nil⟩⟩⟩⟩⟩⟩
theorem zf_w4 : ∀ e ∈ (zi_at zi_fls 4).getD [], zi_okF 4 e := List.forall_mem_cons.mpr ⟨zf_4_70, List.forall_mem_cons.mpr ⟨zf_4_73, List.forall_mem_cons.mpr ⟨zf_4_111, List.forall_mem_cons.mpr ⟨zf_4_97, List.forall_mem_cons.mpr ⟨zf_4_94, List.forall_mem_cons.mpr ⟨zf_4_12, List.forall_mem_cons.mpr ⟨zf_4_21, List.forall_mem_cons.mpr ⟨zf_4_29, List.forall_mem_cons.mpr ⟨zf_4_25, fun _ h => absurd h List.not_mem_nil⟩⟩⟩⟩⟩⟩⟩⟩⟩
theorem zf_w5 : ∀ e ∈ (zi_at zi_fls 5).getD [], zi_okF 5 e := List.forall_mem_cons.mpr ⟨zf_5_19, List.forall_mem_cons.mpr ⟨zf_5_7, fun _ h => absurd h List.not_mem_nil⟩⟩
theorem zf_w6 : ∀ e ∈ (zi_at zi_fls 6).getD [], zi_okF 6 e := List.forall_mem_cons.mpr ⟨zf_6_44, List.forall_mem_cons.mpr ⟨zf_6_40, List.forall_mem_cons.mpr ⟨zf_6_33, List.forall_mem_cons.mpr ⟨zf_6_11, List.forall_mem_cons.mpr ⟨zf_6_17, List.forall_mem_cons.mpr ⟨zf_6_23, List.forall_mem_cons.mpr ⟨zf_6_64, List.forall_mem_cons.mpr ⟨zf_6_29, List.forall_mem_cons.mpr ⟨zf_6_68, List.forall_mem_cons.mpr ⟨zf_6_47, fun _ h => absurd h List.not_mem_nil⟩⟩⟩⟩⟩⟩⟩⟩⟩⟩
theorem zf_w7 : ∀ e ∈ (zi_at zi_fls 7).getD [], zi_okF 7 e := List.forall_mem_cons.mpr ⟨zf_7_7, List.forall_mem_cons.mpr ⟨zf_7_13, List.forall_mem_cons.mpr ⟨zf_7_16, List.forall_mem_cons.mpr ⟨zf_7_19, List.forall_mem_cons.mpr ⟨zf_7_22, List.forall_mem_cons.mpr ⟨zf_7_25, fun _ h => absurd h List.not_mem_nil⟩⟩⟩⟩⟩⟩
theorem zf_w8 : ∀ e ∈ (zi_at zi_fls 8).getD [], zi_okF 8 e := List.forall_mem_cons.mpr ⟨zf_8_74, List.forall_mem_cons.mpr ⟨zf_8_77, List.forall_mem_cons.mpr ⟨zf_8_38, List.forall_mem_cons.mpr ⟨zf_8_21, List.forall_mem_cons.mpr ⟨zf_8_11, List.forall_mem_cons.mpr ⟨zf_8_17, List.forall_mem_cons.mpr ⟨zf_8_30, List.forall_mem_cons.mpr ⟨zf_8_34, fun _ h => absurd h List.not_mem_nil⟩⟩⟩⟩⟩⟩⟩⟩
theorem zf_w9 : ∀ e ∈ (zi_at zi_fls 9).getD [], zi_okF 9 e := List.forall_mem_cons.mpr ⟨zf_9_184, List.forall_mem_cons.mpr ⟨zf_9_178, List.forall_mem_cons.mpr ⟨zf_9_190, List.forall_mem_cons.mpr ⟨zf_9_261, List.forall_mem_cons.mpr ⟨zf_9_324, List.forall_mem_cons.mpr ⟨zf_9_216, List.forall_mem_cons.mpr ⟨zf_9_187, List.forall_mem_cons.mpr ⟨zf_9_162, List.forall_mem_cons.mpr ⟨zf_9_200, List.forall_mem_cons.mpr ⟨zf_9_235, List.forall_mem_cons.mpr ⟨zf_9_150, List.forall_mem_cons.mpr ⟨zf_9_168, List.forall_mem_cons.mpr ⟨zf_9_210, List.forall_mem_cons.mpr ⟨zf_9_286, List.forall_mem_cons.mpr ⟨zf_9_270, List.forall_mem_cons.mpr ⟨zf_9_284, List.forall_mem_cons.mpr ⟨zf_9_285, List.forall_mem_cons.mpr ⟨zf_9_11, List.forall_mem_cons.mpr ⟨zf_9_15, List.forall_mem_cons.mpr ⟨zf_9_21, List.forall_mem_cons.mpr ⟨zf_9_28, List.forall_mem_cons.mpr ⟨zf_9_32, List.forall_mem_cons.mpr ⟨zf_9_41, List.forall_mem_cons.mpr ⟨zf_9_50, List.forall_mem_cons.mpr ⟨zf_9_57, List.forall_mem_cons.mpr ⟨zf_9_64, List.forall_mem_cons.mpr ⟨zf_9_71, List.forall_mem_cons.mpr ⟨zf_9_75, List.forall_mem_cons.mpr ⟨zf_9_79, List.forall_mem_cons.mpr ⟨zf_9_343, List.forall_mem_cons.mpr ⟨zf_9_112, List.forall_mem_cons.mpr ⟨zf_9_337, List.forall_mem_cons.mpr ⟨zf_9_82, fun _ h => absurd h List.not_mem_nil⟩⟩⟩⟩⟩⟩⟩⟩⟩⟩⟩⟩⟩⟩⟩⟩⟩⟩⟩⟩⟩⟩⟩⟩⟩⟩⟩⟩⟩⟩⟩⟩⟩
theorem zf_w10 : ∀ e ∈ (zi_at zi_fls 10).getD [], zi_okF 10 e := List.forall_mem_cons.mpr ⟨zf_10_7, List.forall_mem_cons.mpr ⟨zf_10_13, List.forall_mem_cons.mpr ⟨zf_10_16, List.forall_mem_cons.mpr ⟨zf_10_19, List.forall_mem_cons.mpr ⟨zf_10_22, List.forall_mem_cons.mpr ⟨zf_10_25, List.forall_mem_cons.mpr ⟨zf_10_28, List.forall_mem_cons.mpr ⟨zf_10_32, List.forall_mem_cons.mpr ⟨zf_10_76, List.forall_mem_cons.mpr ⟨zf_10_80, List.forall_mem_cons.mpr ⟨zf_10_246, List.forall_mem_cons.mpr ⟨zf_10_72, List.forall_mem_cons.mpr ⟨zf_10_35, List.forall_mem_cons.mpr ⟨zf_10_111, List.forall_mem_cons.mpr ⟨zf_10_108, List.forall_mem_cons.mpr ⟨zf_10_105, List.forall_mem_cons.mpr ⟨zf_10_38, List.forall_mem_cons.mpr ⟨zf_10_152, List.forall_mem_cons.mpr ⟨zf_10_155, List.forall_mem_cons.mpr ⟨zf_10_158, List.forall_mem_cons.mpr ⟨zf_10_161, List.forall_mem_cons.mpr ⟨zf_10_164, List.forall_mem_cons.mpr ⟨zf_10_167, List.forall_mem_cons.mpr ⟨zf_10_173, List.forall_mem_cons.mpr ⟨zf_10_176, List.forall_mem_cons.mpr ⟨zf_10_170, List.forall_mem_cons.mpr ⟨zf_10_179, List.forall_mem_cons.mpr ⟨zf_10_41, List.forall_mem_cons.mpr ⟨zf_10_234, List.forall_mem_cons.mpr ⟨zf_10_237, List.forall_mem_cons.mpr ⟨zf_10_44, List.forall_mem_cons.mpr ⟨zf_10_47, List.forall_mem_cons.mpr ⟨zf_10_50, List.forall_mem_cons.mpr ⟨zf_10_53, List.forall_mem_cons.mpr ⟨zf_10_56, List.forall_mem_cons.mpr ⟨zf_10_59, List.forall_mem_cons.mpr ⟨zf_10_62, List.forall_mem_cons.mpr ⟨zf_10_66, List.forall_mem_cons.mpr ⟨zf_10_69, fun _ h => absurd h List.not_mem_nil⟩⟩⟩⟩⟩⟩⟩⟩⟩⟩⟩⟩⟩⟩⟩⟩⟩⟩⟩⟩⟩⟩⟩⟩⟩⟩⟩⟩⟩⟩⟩⟩⟩⟩⟩⟩⟩⟩⟩
theorem zi_flok {w idx : Nat} {q : Nat × Nat × Nat × Bool × Nat} (h : zi_fl w idx = some q) : zi_okF w (idx, q) := by
  have hm := zi_at_mem _ _ h
  have hw : w < 15 := by
    rcases Nat.lt_or_ge w 15 with g | g
    · exact g
    · exfalso
      have e : zi_at zi_fls w = none := by
        have : ∀ (l : List (Nat × List (Nat × Nat × Nat × Nat × Bool × Nat))), (∀ e ∈ l, e.1 < 15) → zi_at l w = none := by
          intro l
          induction l with
          | nil => intro _; rfl
          | cons x t ih =>
            intro hh
            obtain ⟨p, a⟩ := x
            unfold zi_at
            have hp : p < 15 := hh (p, a) List.mem_cons_self
            have hb : Nat.beq p w = false := by
              cases hq : Nat.beq p w with
              | false => rfl
              | true => have := Nat.eq_of_beq_eq_true hq; omega
            rw [hb]
            exact ih (fun e he => hh e (List.mem_cons_of_mem _ he))
        exact this _ (by decide +kernel)
      rw [e] at hm
      cases hm
  match w, hw, hm with
  | 0, _, hm => exact zf_w0 _ hm
  | 1, _, hm => exact zf_w1 _ hm
  | 2, _, hm => exact zf_w2 _ hm
  | 3, _, hm => exact zf_w3 _ hm
  | 4, _, hm => exact zf_w4 _ hm
  | 5, _, hm => exact zf_w5 _ hm
  | 6, _, hm => exact zf_w6 _ hm
  | 7, _, hm => exact zf_w7 _ hm
  | 8, _, hm => exact zf_w8 _ hm
  | 9, _, hm => exact zf_w9 _ hm
  | 10, _, hm => exact zf_w10 _ hm
  | 11, _, hm => cases hm
  | 12, _, hm => cases hm
  | 13, _, hm => cases hm
  | 14, _, hm => cases hm
end
section
/-! THE TABLES ARE RIGHT: methods -/
def zi_dk (b : ByteArray) (q : Nat × Instr) : Bool := match decode b q.1 with
  | .ok (i, n) => decide (i = q.2) && (Nat.beq (zi_n q.2) 0 || Nat.beq n (zi_n q.2))
  | .error _ => false
def zi_okR (r : zi_R) : Prop := plainName (zi_y r).cls = true ∧ Cond.code (zi_y r) (zi_by r) (zi_ml r) (zi_rt r) ∈ zi_gw ∧ Cond.initialized (zi_y r).cls ∈ zi_gw ∧ ((zi_y r).cls ≠ "java/lang/invoke/MethodHandle" ∧ (zi_y r).cls ≠ "java/lang/invoke/VarHandle") ∧ (parseMethodDescriptor (zi_y r).desc).map (fun d => d.parameters.length) = some (zi_na r) ∧
  (zi_sc r = true → Cond.static (zi_y r) ∈ zi_gw) ∧ (zi_sc r = false → Cond.instanceMethod (zi_y r) ∈ zi_gw ∧ Cond.selects (zi_y r).cls (zi_y r) (zi_y r) ∈ zi_gw ∧ vwCl[zi_w r]?.map (·.1) = some (zi_y r).cls) ∧
  (zi_ak r = 0 ∧ zi_rt r = none ∨ zi_ak r = 1 ∧ zi_rt r = some .int ∨ zi_ak r = 2 ∧ zi_rt r = some .long ∨ (zi_ak r = 3 ∧ ∃ C, zi_rt r = some (.object C)) ∨ zi_ak r = 4 ∧ zi_rt r = some .boolean) ∧ zi_cn (zi_w r) = (zi_y r).cls ∧ zi_ml r ≤ 30
set_option maxRecDepth 100000 in
theorem zr_X0_look : zi_okR zm_X0_look := ⟨by decide +kernel, zi_gwI 537 rfl rfl, zi_gwI 66 (by decide +kernel) rfl, by decide +kernel, by decide +kernel, (fun h => by cases h), fun _ => ⟨zi_gwI 535 (by decide +kernel) rfl, zi_gwI 536 (by decide +kernel) rfl, by decide +kernel⟩, Or.inr (Or.inl ⟨rfl, rfl⟩), by decide +kernel, by decide⟩
set_option maxRecDepth 100000 in
theorem zr_X0_fill : zi_okR zm_X0_fill := ⟨by decide +kernel, zi_gwI 515 rfl rfl, zi_gwI 66 (by decide +kernel) rfl, by decide +kernel, by decide +kernel, (fun h => by cases h), fun _ => ⟨zi_gwI 513 (by decide +kernel) rfl, zi_gwI 514 (by decide +kernel) rfl, by decide +kernel⟩, Or.inl ⟨rfl, rfl⟩, by decide +kernel, by decide⟩
set_option maxRecDepth 100000 in
theorem zr_X0_take : zi_okR zm_X0_take := ⟨by decide +kernel, zi_gwI 561 rfl rfl, zi_gwI 66 (by decide +kernel) rfl, by decide +kernel, by decide +kernel, (fun h => by cases h), fun _ => ⟨zi_gwI 559 (by decide +kernel) rfl, zi_gwI 560 (by decide +kernel) rfl, by decide +kernel⟩, Or.inl ⟨rfl, rfl⟩, by decide +kernel, by decide⟩
set_option maxRecDepth 100000 in
theorem zr_X1_take : zi_okR zm_X1_take := ⟨by decide +kernel, zi_gwI 569 rfl rfl, zi_gwI 68 (by decide +kernel) rfl, by decide +kernel, by decide +kernel, (fun h => by cases h), fun _ => ⟨zi_gwI 567 (by decide +kernel) rfl, zi_gwI 568 (by decide +kernel) rfl, by decide +kernel⟩, Or.inl ⟨rfl, rfl⟩, by decide +kernel, by decide⟩
set_option maxRecDepth 100000 in
theorem zr_X1_begin : zi_okR zm_X1_begin := ⟨by decide +kernel, zi_gwI 541 rfl rfl, zi_gwI 68 (by decide +kernel) rfl, by decide +kernel, by decide +kernel, (fun h => by cases h), fun _ => ⟨zi_gwI 539 (by decide +kernel) rfl, zi_gwI 540 (by decide +kernel) rfl, by decide +kernel⟩, Or.inl ⟨rfl, rfl⟩, by decide +kernel, by decide⟩
set_option maxRecDepth 100000 in
theorem zr_X1_tell : zi_okR zm_X1_tell := ⟨by decide +kernel, zi_gwI 590 rfl rfl, zi_gwI 68 (by decide +kernel) rfl, by decide +kernel, by decide +kernel, (fun h => by cases h), fun _ => ⟨zi_gwI 588 (by decide +kernel) rfl, zi_gwI 589 (by decide +kernel) rfl, by decide +kernel⟩, Or.inr (Or.inl ⟨rfl, rfl⟩), by decide +kernel, by decide⟩
set_option maxRecDepth 100000 in
theorem zr_X2_board : zi_okR zm_X2_board := ⟨by decide +kernel, zi_gwI 601 rfl rfl, zi_gwI 70 (by decide +kernel) rfl, by decide +kernel, by decide +kernel, (fun h => by cases h), fun _ => ⟨zi_gwI 599 (by decide +kernel) rfl, zi_gwI 600 (by decide +kernel) rfl, by decide +kernel⟩, Or.inl ⟨rfl, rfl⟩, by decide +kernel, by decide⟩
set_option maxRecDepth 100000 in
theorem zr_X2_isOver : zi_okR zm_X2_isOver := ⟨by decide +kernel, zi_gwI 650 rfl rfl, zi_gwI 70 (by decide +kernel) rfl, by decide +kernel, by decide +kernel, (fun h => by cases h), fun _ => ⟨zi_gwI 648 (by decide +kernel) rfl, zi_gwI 649 (by decide +kernel) rfl, by decide +kernel⟩, Or.inr (Or.inr (Or.inr (Or.inr ⟨rfl, rfl⟩))), by decide +kernel, by decide⟩
set_option maxRecDepth 100000 in
theorem zr_X2_drips : zi_okR zm_X2_drips := ⟨by decide +kernel, zi_gwI 891 rfl rfl, zi_gwI 70 (by decide +kernel) rfl, by decide +kernel, by decide +kernel, (fun h => by cases h), fun _ => ⟨zi_gwI 889 (by decide +kernel) rfl, zi_gwI 890 (by decide +kernel) rfl, by decide +kernel⟩, Or.inr (Or.inr (Or.inr (Or.inr ⟨rfl, rfl⟩))), by decide +kernel, by decide⟩
set_option maxRecDepth 100000 in
theorem zr_X2_cost : zi_okR zm_X2_cost := ⟨by decide +kernel, zi_gwI 605 rfl rfl, zi_gwI 70 (by decide +kernel) rfl, by decide +kernel, by decide +kernel, (fun h => by cases h), fun _ => ⟨zi_gwI 603 (by decide +kernel) rfl, zi_gwI 604 (by decide +kernel) rfl, by decide +kernel⟩, Or.inr (Or.inl ⟨rfl, rfl⟩), by decide +kernel, by decide⟩
set_option maxRecDepth 100000 in
theorem zr_X2_warmth : zi_okR zm_X2_warmth := ⟨by decide +kernel, zi_gwI 610 rfl rfl, zi_gwI 70 (by decide +kernel) rfl, by decide +kernel, by decide +kernel, (fun h => by cases h), fun _ => ⟨zi_gwI 608 (by decide +kernel) rfl, zi_gwI 609 (by decide +kernel) rfl, by decide +kernel⟩, Or.inr (Or.inl ⟨rfl, rfl⟩), by decide +kernel, by decide⟩
set_option maxRecDepth 100000 in
theorem zr_X2_move : zi_okR zm_X2_move := ⟨by decide +kernel, zi_gwI 646 rfl rfl, zi_gwI 70 (by decide +kernel) rfl, by decide +kernel, by decide +kernel, (fun h => by cases h), fun _ => ⟨zi_gwI 644 (by decide +kernel) rfl, zi_gwI 645 (by decide +kernel) rfl, by decide +kernel⟩, Or.inr (Or.inr (Or.inr (Or.inr ⟨rfl, rfl⟩))), by decide +kernel, by decide⟩
set_option maxRecDepth 100000 in
theorem zr_X2_canSink : zi_okR zm_X2_canSink := ⟨by decide +kernel, zi_gwI 842 rfl rfl, zi_gwI 70 (by decide +kernel) rfl, by decide +kernel, by decide +kernel, (fun h => by cases h), fun _ => ⟨zi_gwI 840 (by decide +kernel) rfl, zi_gwI 841 (by decide +kernel) rfl, by decide +kernel⟩, Or.inr (Or.inr (Or.inr (Or.inr ⟨rfl, rfl⟩))), by decide +kernel, by decide⟩
set_option maxRecDepth 100000 in
theorem zr_X2_settle : zi_okR zm_X2_settle := ⟨by decide +kernel, zi_gwI 658 rfl rfl, zi_gwI 70 (by decide +kernel) rfl, by decide +kernel, by decide +kernel, (fun h => by cases h), fun _ => ⟨zi_gwI 656 (by decide +kernel) rfl, zi_gwI 657 (by decide +kernel) rfl, by decide +kernel⟩, Or.inl ⟨rfl, rfl⟩, by decide +kernel, by decide⟩
set_option maxRecDepth 100000 in
theorem zr_X2_fly : zi_okR zm_X2_fly := ⟨by decide +kernel, zi_gwI 642 rfl rfl, zi_gwI 70 (by decide +kernel) rfl, by decide +kernel, by decide +kernel, (fun h => by cases h), fun _ => ⟨zi_gwI 640 (by decide +kernel) rfl, zi_gwI 641 (by decide +kernel) rfl, by decide +kernel⟩, Or.inr (Or.inl ⟨rfl, rfl⟩), by decide +kernel, by decide⟩
set_option maxRecDepth 100000 in
theorem zr_X3_chanceOf : zi_okR zm_X3_chanceOf := ⟨by decide +kernel, zi_gwI 820 rfl rfl, zi_gwI 72 (by decide +kernel) rfl, by decide +kernel, by decide +kernel, (fun h => by cases h), fun _ => ⟨zi_gwI 818 (by decide +kernel) rfl, zi_gwI 819 (by decide +kernel) rfl, by decide +kernel⟩, Or.inr (Or.inl ⟨rfl, rfl⟩), by decide +kernel, by decide⟩
set_option maxRecDepth 100000 in
theorem zr_X3_bestBeat : zi_okR zm_X3_bestBeat := ⟨by decide +kernel, zi_gwI 861 rfl rfl, zi_gwI 72 (by decide +kernel) rfl, by decide +kernel, by decide +kernel, (fun h => by cases h), fun _ => ⟨zi_gwI 859 (by decide +kernel) rfl, zi_gwI 860 (by decide +kernel) rfl, by decide +kernel⟩, Or.inr (Or.inl ⟨rfl, rfl⟩), by decide +kernel, by decide⟩
set_option maxRecDepth 100000 in
theorem zr_X3_begin : zi_okR zm_X3_begin := ⟨by decide +kernel, zi_gwI 824 rfl rfl, zi_gwI 72 (by decide +kernel) rfl, by decide +kernel, by decide +kernel, (fun h => by cases h), fun _ => ⟨zi_gwI 823 (by decide +kernel) rfl, zi_gwI 21 (by decide +kernel) rfl, by decide +kernel⟩, Or.inl ⟨rfl, rfl⟩, by decide +kernel, by decide⟩
set_option maxRecDepth 100000 in
theorem zr_X3_chance : zi_okR zm_X3_chance := ⟨by decide +kernel, zi_gwI 829 rfl rfl, zi_gwI 72 (by decide +kernel) rfl, by decide +kernel, by decide +kernel, (fun h => by cases h), fun _ => ⟨zi_gwI 828 (by decide +kernel) rfl, zi_gwI 22 (by decide +kernel) rfl, by decide +kernel⟩, Or.inr (Or.inl ⟨rfl, rfl⟩), by decide +kernel, by decide⟩
set_option maxRecDepth 100000 in
theorem zr_X3_chanceBy : zi_okR zm_X3_chanceBy := ⟨by decide +kernel, zi_gwI 837 rfl rfl, zi_gwI 72 (by decide +kernel) rfl, by decide +kernel, by decide +kernel, (fun h => by cases h), fun _ => ⟨zi_gwI 836 (by decide +kernel) rfl, zi_gwI 23 (by decide +kernel) rfl, by decide +kernel⟩, Or.inr (Or.inl ⟨rfl, rfl⟩), by decide +kernel, by decide⟩
set_option maxRecDepth 100000 in
theorem zr_X3_settledChance : zi_okR zm_X3_settledChance := ⟨by decide +kernel, zi_gwI 846 rfl rfl, zi_gwI 72 (by decide +kernel) rfl, by decide +kernel, by decide +kernel, (fun h => by cases h), fun _ => ⟨zi_gwI 845 (by decide +kernel) rfl, zi_gwI 24 (by decide +kernel) rfl, by decide +kernel⟩, Or.inr (Or.inl ⟨rfl, rfl⟩), by decide +kernel, by decide⟩
set_option maxRecDepth 100000 in
theorem zr_X4_place : zi_okR zm_X4_place := ⟨by decide +kernel, zi_gwI 549 rfl rfl, zi_gwI 73 (by decide +kernel) rfl, by decide +kernel, by decide +kernel, (fun h => by cases h), fun _ => ⟨zi_gwI 547 (by decide +kernel) rfl, zi_gwI 548 (by decide +kernel) rfl, by decide +kernel⟩, Or.inr (Or.inl ⟨rfl, rfl⟩), by decide +kernel, by decide⟩
set_option maxRecDepth 100000 in
theorem zr_X4_read : zi_okR zm_X4_read := ⟨by decide +kernel, zi_gwI 488 rfl rfl, zi_gwI 73 (by decide +kernel) rfl, by decide +kernel, by decide +kernel, (fun h => by cases h), fun _ => ⟨zi_gwI 486 (by decide +kernel) rfl, zi_gwI 487 (by decide +kernel) rfl, by decide +kernel⟩, Or.inr (Or.inr (Or.inr (Or.inr ⟨rfl, rfl⟩))), by decide +kernel, by decide⟩
set_option maxRecDepth 100000 in
theorem zr_X4_hand : zi_okR zm_X4_hand := ⟨by decide +kernel, zi_gwI 557 rfl rfl, zi_gwI 73 (by decide +kernel) rfl, by decide +kernel, by decide +kernel, (fun h => by cases h), fun _ => ⟨zi_gwI 555 (by decide +kernel) rfl, zi_gwI 556 (by decide +kernel) rfl, by decide +kernel⟩, Or.inl ⟨rfl, rfl⟩, by decide +kernel, by decide⟩
set_option maxRecDepth 100000 in
theorem zr_X4_here : zi_okR zm_X4_here := ⟨by decide +kernel, zi_gwI 496 rfl rfl, zi_gwI 73 (by decide +kernel) rfl, by decide +kernel, by decide +kernel, (fun h => by cases h), fun _ => ⟨zi_gwI 495 (by decide +kernel) rfl, zi_gwI 5 (by decide +kernel) rfl, by decide +kernel⟩, Or.inr (Or.inl ⟨rfl, rfl⟩), by decide +kernel, by decide⟩
set_option maxRecDepth 100000 in
theorem zr_X4_skipBlanks : zi_okR zm_X4_skipBlanks := ⟨by decide +kernel, zi_gwI 492 rfl rfl, zi_gwI 73 (by decide +kernel) rfl, by decide +kernel, by decide +kernel, (fun h => by cases h), fun _ => ⟨zi_gwI 491 (by decide +kernel) rfl, zi_gwI 4 (by decide +kernel) rfl, by decide +kernel⟩, Or.inl ⟨rfl, rfl⟩, by decide +kernel, by decide⟩
set_option maxRecDepth 100000 in
theorem zr_X4_readLines : zi_okR zm_X4_readLines := ⟨by decide +kernel, zi_gwI 502 rfl rfl, zi_gwI 73 (by decide +kernel) rfl, by decide +kernel, by decide +kernel, (fun h => by cases h), fun _ => ⟨zi_gwI 501 (by decide +kernel) rfl, zi_gwI 6 (by decide +kernel) rfl, by decide +kernel⟩, Or.inr (Or.inr (Or.inr (Or.inr ⟨rfl, rfl⟩))), by decide +kernel, by decide⟩
set_option maxRecDepth 100000 in
theorem zr_X4_readLine : zi_okR zm_X4_readLine := ⟨by decide +kernel, zi_gwI 506 rfl rfl, zi_gwI 73 (by decide +kernel) rfl, by decide +kernel, by decide +kernel, (fun h => by cases h), fun _ => ⟨zi_gwI 505 (by decide +kernel) rfl, zi_gwI 7 (by decide +kernel) rfl, by decide +kernel⟩, Or.inr (Or.inr (Or.inr (Or.inr ⟨rfl, rfl⟩))), by decide +kernel, by decide⟩
set_option maxRecDepth 100000 in
theorem zr_X4_readSun : zi_okR zm_X4_readSun := ⟨by decide +kernel, zi_gwI 519 rfl rfl, zi_gwI 73 (by decide +kernel) rfl, by decide +kernel, by decide +kernel, (fun h => by cases h), fun _ => ⟨zi_gwI 518 (by decide +kernel) rfl, zi_gwI 8 (by decide +kernel) rfl, by decide +kernel⟩, Or.inr (Or.inr (Or.inr (Or.inr ⟨rfl, rfl⟩))), by decide +kernel, by decide⟩
set_option maxRecDepth 100000 in
theorem zr_X4_readFlyers : zi_okR zm_X4_readFlyers := ⟨by decide +kernel, zi_gwI 527 rfl rfl, zi_gwI 73 (by decide +kernel) rfl, by decide +kernel, by decide +kernel, (fun h => by cases h), fun _ => ⟨zi_gwI 526 (by decide +kernel) rfl, zi_gwI 10 (by decide +kernel) rfl, by decide +kernel⟩, Or.inr (Or.inr (Or.inr (Or.inr ⟨rfl, rfl⟩))), by decide +kernel, by decide⟩
set_option maxRecDepth 100000 in
theorem zr_X4_readFlyer : zi_okR zm_X4_readFlyer := ⟨by decide +kernel, zi_gwI 533 rfl rfl, zi_gwI 73 (by decide +kernel) rfl, by decide +kernel, by decide +kernel, (fun h => by cases h), fun _ => ⟨zi_gwI 532 (by decide +kernel) rfl, zi_gwI 11 (by decide +kernel) rfl, by decide +kernel⟩, Or.inr (Or.inr (Or.inr (Or.inr ⟨rfl, rfl⟩))), by decide +kernel, by decide⟩
set_option maxRecDepth 100000 in
theorem zr_X4_readEnd : zi_okR zm_X4_readEnd := ⟨by decide +kernel, zi_gwI 545 rfl rfl, zi_gwI 73 (by decide +kernel) rfl, by decide +kernel, by decide +kernel, (fun h => by cases h), fun _ => ⟨zi_gwI 544 (by decide +kernel) rfl, zi_gwI 12 (by decide +kernel) rfl, by decide +kernel⟩, Or.inr (Or.inr (Or.inr (Or.inr ⟨rfl, rfl⟩))), by decide +kernel, by decide⟩
set_option maxRecDepth 100000 in
theorem zr_X4_figureBelow : zi_okR zm_X4_figureBelow := ⟨by decide +kernel, zi_gwI 523 rfl rfl, zi_gwI 73 (by decide +kernel) rfl, by decide +kernel, by decide +kernel, (fun h => by cases h), fun _ => ⟨zi_gwI 522 (by decide +kernel) rfl, zi_gwI 9 (by decide +kernel) rfl, by decide +kernel⟩, Or.inr (Or.inl ⟨rfl, rfl⟩), by decide +kernel, by decide⟩
set_option maxRecDepth 100000 in
theorem zr_X4_placeOf : zi_okR zm_X4_placeOf := ⟨by decide +kernel, zi_gwI 511 rfl rfl, zi_gwI 73 (by decide +kernel) rfl, by decide +kernel, by decide +kernel, fun _ => zi_gwI 510 (by decide +kernel) rfl, (fun h => by cases h), Or.inr (Or.inl ⟨rfl, rfl⟩), by decide +kernel, by decide⟩
set_option maxRecDepth 100000 in
theorem zr_X5_room : zi_okR zm_X5_room := ⟨by decide +kernel, zi_gwI 400 rfl rfl, zi_gwI 74 (by decide +kernel) rfl, by decide +kernel, by decide +kernel, (fun h => by cases h), fun _ => ⟨zi_gwI 398 (by decide +kernel) rfl, zi_gwI 399 (by decide +kernel) rfl, by decide +kernel⟩, Or.inr (Or.inl ⟨rfl, rfl⟩), by decide +kernel, by decide⟩
set_option maxRecDepth 100000 in
theorem zr_X5_size : zi_okR zm_X5_size := ⟨by decide +kernel, zi_gwI 468 rfl rfl, zi_gwI 74 (by decide +kernel) rfl, by decide +kernel, by decide +kernel, (fun h => by cases h), fun _ => ⟨zi_gwI 466 (by decide +kernel) rfl, zi_gwI 467 (by decide +kernel) rfl, by decide +kernel⟩, Or.inr (Or.inl ⟨rfl, rfl⟩), by decide +kernel, by decide⟩
set_option maxRecDepth 100000 in
theorem zr_X5_isThere : zi_okR zm_X5_isThere := ⟨by decide +kernel, zi_gwI 419 rfl rfl, zi_gwI 74 (by decide +kernel) rfl, by decide +kernel, by decide +kernel, (fun h => by cases h), fun _ => ⟨zi_gwI 417 (by decide +kernel) rfl, zi_gwI 418 (by decide +kernel) rfl, by decide +kernel⟩, Or.inr (Or.inr (Or.inr (Or.inr ⟨rfl, rfl⟩))), by decide +kernel, by decide⟩
set_option maxRecDepth 100000 in
theorem zr_X5_has : zi_okR zm_X5_has := ⟨by decide +kernel, zi_gwI 423 rfl rfl, zi_gwI 74 (by decide +kernel) rfl, by decide +kernel, by decide +kernel, (fun h => by cases h), fun _ => ⟨zi_gwI 421 (by decide +kernel) rfl, zi_gwI 422 (by decide +kernel) rfl, by decide +kernel⟩, Or.inr (Or.inr (Or.inr (Or.inr ⟨rfl, rfl⟩))), by decide +kernel, by decide⟩
set_option maxRecDepth 100000 in
theorem zr_X5_hasRun : zi_okR zm_X5_hasRun := ⟨by decide +kernel, zi_gwI 452 rfl rfl, zi_gwI 74 (by decide +kernel) rfl, by decide +kernel, by decide +kernel, (fun h => by cases h), fun _ => ⟨zi_gwI 450 (by decide +kernel) rfl, zi_gwI 451 (by decide +kernel) rfl, by decide +kernel⟩, Or.inr (Or.inr (Or.inr (Or.inr ⟨rfl, rfl⟩))), by decide +kernel, by decide⟩
set_option maxRecDepth 100000 in
theorem zr_X5_get : zi_okR zm_X5_get := ⟨by decide +kernel, zi_gwI 427 rfl rfl, zi_gwI 74 (by decide +kernel) rfl, by decide +kernel, by decide +kernel, (fun h => by cases h), fun _ => ⟨zi_gwI 425 (by decide +kernel) rfl, zi_gwI 426 (by decide +kernel) rfl, by decide +kernel⟩, Or.inr (Or.inl ⟨rfl, rfl⟩), by decide +kernel, by decide⟩
set_option maxRecDepth 100000 in
theorem zr_X5_set : zi_okR zm_X5_set := ⟨by decide +kernel, zi_gwI 431 rfl rfl, zi_gwI 74 (by decide +kernel) rfl, by decide +kernel, by decide +kernel, (fun h => by cases h), fun _ => ⟨zi_gwI 429 (by decide +kernel) rfl, zi_gwI 430 (by decide +kernel) rfl, by decide +kernel⟩, Or.inl ⟨rfl, rfl⟩, by decide +kernel, by decide⟩
set_option maxRecDepth 100000 in
theorem zr_X5_drop : zi_okR zm_X5_drop := ⟨by decide +kernel, zi_gwI 444 rfl rfl, zi_gwI 74 (by decide +kernel) rfl, by decide +kernel, by decide +kernel, (fun h => by cases h), fun _ => ⟨zi_gwI 442 (by decide +kernel) rfl, zi_gwI 443 (by decide +kernel) rfl, by decide +kernel⟩, Or.inl ⟨rfl, rfl⟩, by decide +kernel, by decide⟩
set_option maxRecDepth 100000 in
theorem zr_X5_make : zi_okR zm_X5_make := ⟨by decide +kernel, zi_gwI 408 rfl rfl, zi_gwI 74 (by decide +kernel) rfl, by decide +kernel, by decide +kernel, (fun h => by cases h), fun _ => ⟨zi_gwI 406 (by decide +kernel) rfl, zi_gwI 407 (by decide +kernel) rfl, by decide +kernel⟩, Or.inl ⟨rfl, rfl⟩, by decide +kernel, by decide⟩
set_option maxRecDepth 100000 in
theorem zr_X5_takeRun : zi_okR zm_X5_takeRun := ⟨by decide +kernel, zi_gwI 456 rfl rfl, zi_gwI 74 (by decide +kernel) rfl, by decide +kernel, by decide +kernel, (fun h => by cases h), fun _ => ⟨zi_gwI 454 (by decide +kernel) rfl, zi_gwI 455 (by decide +kernel) rfl, by decide +kernel⟩, Or.inl ⟨rfl, rfl⟩, by decide +kernel, by decide⟩
set_option maxRecDepth 100000 in
theorem zr_X5_digestOn : zi_okR zm_X5_digestOn := ⟨by decide +kernel, zi_gwI 959 rfl rfl, zi_gwI 74 (by decide +kernel) rfl, by decide +kernel, by decide +kernel, (fun h => by cases h), fun _ => ⟨zi_gwI 957 (by decide +kernel) rfl, zi_gwI 958 (by decide +kernel) rfl, by decide +kernel⟩, Or.inr (Or.inr (Or.inl ⟨rfl, rfl⟩)), by decide +kernel, by decide⟩
set_option maxRecDepth 100000 in
theorem zr_X6_birdAt : zi_okR zm_X6_birdAt := ⟨by decide +kernel, zi_gwI 586 rfl rfl, zi_gwI 67 (by decide +kernel) rfl, by decide +kernel, by decide +kernel, (fun h => by cases h), fun _ => ⟨zi_gwI 584 (by decide +kernel) rfl, zi_gwI 585 (by decide +kernel) rfl, by decide +kernel⟩, Or.inr (Or.inr (Or.inr (Or.inl ⟨rfl, _, rfl⟩))), by decide +kernel, by decide⟩
set_option maxRecDepth 100000 in
theorem zr_X6_oldOnes : zi_okR zm_X6_oldOnes := ⟨by decide +kernel, zi_gwI 933 rfl rfl, zi_gwI 67 (by decide +kernel) rfl, by decide +kernel, by decide +kernel, (fun h => by cases h), fun _ => ⟨zi_gwI 931 (by decide +kernel) rfl, zi_gwI 932 (by decide +kernel) rfl, by decide +kernel⟩, Or.inr (Or.inl ⟨rfl, rfl⟩), by decide +kernel, by decide⟩
set_option maxRecDepth 100000 in
theorem zr_X6_othersIn : zi_okR zm_X6_othersIn := ⟨by decide +kernel, zi_gwI 614 rfl rfl, zi_gwI 67 (by decide +kernel) rfl, by decide +kernel, by decide +kernel, (fun h => by cases h), fun _ => ⟨zi_gwI 612 (by decide +kernel) rfl, zi_gwI 613 (by decide +kernel) rfl, by decide +kernel⟩, Or.inr (Or.inl ⟨rfl, rfl⟩), by decide +kernel, by decide⟩
set_option maxRecDepth 100000 in
theorem zr_X6_note : zi_okR zm_X6_note := ⟨by decide +kernel, zi_gwI 663 rfl rfl, zi_gwI 67 (by decide +kernel) rfl, by decide +kernel, by decide +kernel, (fun h => by cases h), fun _ => ⟨zi_gwI 661 (by decide +kernel) rfl, zi_gwI 662 (by decide +kernel) rfl, by decide +kernel⟩, Or.inr (Or.inr (Or.inr (Or.inr ⟨rfl, rfl⟩))), by decide +kernel, by decide⟩
set_option maxRecDepth 100000 in
theorem zr_X6_goBack : zi_okR zm_X6_goBack := ⟨by decide +kernel, zi_gwI 672 rfl rfl, zi_gwI 67 (by decide +kernel) rfl, by decide +kernel, by decide +kernel, (fun h => by cases h), fun _ => ⟨zi_gwI 670 (by decide +kernel) rfl, zi_gwI 671 (by decide +kernel) rfl, by decide +kernel⟩, Or.inr (Or.inl ⟨rfl, rfl⟩), by decide +kernel, by decide⟩
set_option maxRecDepth 100000 in
theorem zr_X6_drop : zi_okR zm_X6_drop := ⟨by decide +kernel, zi_gwI 578 rfl rfl, zi_gwI 67 (by decide +kernel) rfl, by decide +kernel, by decide +kernel, (fun h => by cases h), fun _ => ⟨zi_gwI 576 (by decide +kernel) rfl, zi_gwI 577 (by decide +kernel) rfl, by decide +kernel⟩, Or.inl ⟨rfl, rfl⟩, by decide +kernel, by decide⟩
set_option maxRecDepth 100000 in
theorem zr_X6_take : zi_okR zm_X6_take := ⟨by decide +kernel, zi_gwI 565 rfl rfl, zi_gwI 67 (by decide +kernel) rfl, by decide +kernel, by decide +kernel, (fun h => by cases h), fun _ => ⟨zi_gwI 563 (by decide +kernel) rfl, zi_gwI 564 (by decide +kernel) rfl, by decide +kernel⟩, Or.inl ⟨rfl, rfl⟩, by decide +kernel, by decide⟩
set_option maxRecDepth 100000 in
theorem zr_X7_take : zi_okR zm_X7_take := ⟨by decide +kernel, zi_gwI 573 rfl rfl, zi_gwI 69 (by decide +kernel) rfl, by decide +kernel, by decide +kernel, (fun h => by cases h), fun _ => ⟨zi_gwI 571 (by decide +kernel) rfl, zi_gwI 572 (by decide +kernel) rfl, by decide +kernel⟩, Or.inl ⟨rfl, rfl⟩, by decide +kernel, by decide⟩
set_option maxRecDepth 100000 in
theorem zr_X8_start : zi_okR zm_X8_start := ⟨by decide +kernel, zi_gwI 715 rfl rfl, zi_gwI 71 (by decide +kernel) rfl, by decide +kernel, by decide +kernel, (fun h => by cases h), fun _ => ⟨zi_gwI 713 (by decide +kernel) rfl, zi_gwI 714 (by decide +kernel) rfl, by decide +kernel⟩, Or.inl ⟨rfl, rfl⟩, by decide +kernel, by decide⟩
set_option maxRecDepth 100000 in
theorem zr_X8_strengthen : zi_okR zm_X8_strengthen := ⟨by decide +kernel, zi_gwI 780 rfl rfl, zi_gwI 71 (by decide +kernel) rfl, by decide +kernel, by decide +kernel, (fun h => by cases h), fun _ => ⟨zi_gwI 778 (by decide +kernel) rfl, zi_gwI 779 (by decide +kernel) rfl, by decide +kernel⟩, Or.inl ⟨rfl, rfl⟩, by decide +kernel, by decide⟩
set_option maxRecDepth 100000 in
theorem zr_X8_findNext : zi_okR zm_X8_findNext := ⟨by decide +kernel, zi_gwI 720 rfl rfl, zi_gwI 71 (by decide +kernel) rfl, by decide +kernel, by decide +kernel, (fun h => by cases h), fun _ => ⟨zi_gwI 718 (by decide +kernel) rfl, zi_gwI 719 (by decide +kernel) rfl, by decide +kernel⟩, Or.inr (Or.inr (Or.inr (Or.inr ⟨rfl, rfl⟩))), by decide +kernel, by decide⟩
set_option maxRecDepth 100000 in
theorem zr_X8_size : zi_okR zm_X8_size := ⟨by decide +kernel, zi_gwI 727 rfl rfl, zi_gwI 71 (by decide +kernel) rfl, by decide +kernel, by decide +kernel, (fun h => by cases h), fun _ => ⟨zi_gwI 725 (by decide +kernel) rfl, zi_gwI 726 (by decide +kernel) rfl, by decide +kernel⟩, Or.inr (Or.inl ⟨rfl, rfl⟩), by decide +kernel, by decide⟩
set_option maxRecDepth 100000 in
theorem zr_X8_end : zi_okR zm_X8_end := ⟨by decide +kernel, zi_gwI 744 rfl rfl, zi_gwI 71 (by decide +kernel) rfl, by decide +kernel, by decide +kernel, (fun h => by cases h), fun _ => ⟨zi_gwI 742 (by decide +kernel) rfl, zi_gwI 743 (by decide +kernel) rfl, by decide +kernel⟩, Or.inr (Or.inr (Or.inr (Or.inl ⟨rfl, _, rfl⟩))), by decide +kernel, by decide⟩
set_option maxRecDepth 100000 in
theorem zr_X8_write : zi_okR zm_X8_write := ⟨by decide +kernel, zi_gwI 733 rfl rfl, zi_gwI 71 (by decide +kernel) rfl, by decide +kernel, by decide +kernel, (fun h => by cases h), fun _ => ⟨zi_gwI 731 (by decide +kernel) rfl, zi_gwI 732 (by decide +kernel) rfl, by decide +kernel⟩, Or.inl ⟨rfl, rfl⟩, by decide +kernel, by decide⟩
set_option maxRecDepth 100000 in
theorem zr_X8_heightsIn : zi_okR zm_X8_heightsIn := ⟨by decide +kernel, zi_gwI 760 rfl rfl, zi_gwI 71 (by decide +kernel) rfl, by decide +kernel, by decide +kernel, (fun h => by cases h), fun _ => ⟨zi_gwI 758 (by decide +kernel) rfl, zi_gwI 759 (by decide +kernel) rfl, by decide +kernel⟩, Or.inr (Or.inl ⟨rfl, rfl⟩), by decide +kernel, by decide⟩
set_option maxRecDepth 100000 in
theorem zr_X8_dripColumns : zi_okR zm_X8_dripColumns := ⟨by decide +kernel, zi_gwI 899 rfl rfl, zi_gwI 71 (by decide +kernel) rfl, by decide +kernel, by decide +kernel, (fun h => by cases h), fun _ => ⟨zi_gwI 897 (by decide +kernel) rfl, zi_gwI 898 (by decide +kernel) rfl, by decide +kernel⟩, Or.inr (Or.inl ⟨rfl, rfl⟩), by decide +kernel, by decide⟩
set_option maxRecDepth 100000 in
theorem zr_X9_row : zi_okR zm_X9_row := ⟨by decide +kernel, zi_gwI 388 rfl rfl, zi_gwI 65 (by decide +kernel) rfl, by decide +kernel, by decide +kernel, (fun h => by cases h), fun _ => ⟨zi_gwI 386 (by decide +kernel) rfl, zi_gwI 387 (by decide +kernel) rfl, by decide +kernel⟩, Or.inr (Or.inl ⟨rfl, rfl⟩), by decide +kernel, by decide⟩
set_option maxRecDepth 100000 in
theorem zr_X9_lay : zi_okR zm_X9_lay := ⟨by decide +kernel, zi_gwI 415 rfl rfl, zi_gwI 65 (by decide +kernel) rfl, by decide +kernel, by decide +kernel, (fun h => by cases h), fun _ => ⟨zi_gwI 413 (by decide +kernel) rfl, zi_gwI 414 (by decide +kernel) rfl, by decide +kernel⟩, Or.inr (Or.inl ⟨rfl, rfl⟩), by decide +kernel, by decide⟩
set_option maxRecDepth 100000 in
theorem zr_X9_at : zi_okR zm_X9_at := ⟨by decide +kernel, zi_gwI 436 rfl rfl, zi_gwI 65 (by decide +kernel) rfl, by decide +kernel, by decide +kernel, (fun h => by cases h), fun _ => ⟨zi_gwI 434 (by decide +kernel) rfl, zi_gwI 435 (by decide +kernel) rfl, by decide +kernel⟩, Or.inr (Or.inl ⟨rfl, rfl⟩), by decide +kernel, by decide⟩
set_option maxRecDepth 100000 in
theorem zr_X9_tear : zi_okR zm_X9_tear := ⟨by decide +kernel, zi_gwI 440 rfl rfl, zi_gwI 65 (by decide +kernel) rfl, by decide +kernel, by decide +kernel, (fun h => by cases h), fun _ => ⟨zi_gwI 438 (by decide +kernel) rfl, zi_gwI 439 (by decide +kernel) rfl, by decide +kernel⟩, Or.inr (Or.inl ⟨rfl, rfl⟩), by decide +kernel, by decide⟩
set_option maxRecDepth 100000 in
theorem zr_X9_copy : zi_okR zm_X9_copy := ⟨by decide +kernel, zi_gwI 448 rfl rfl, zi_gwI 65 (by decide +kernel) rfl, by decide +kernel, by decide +kernel, (fun h => by cases h), fun _ => ⟨zi_gwI 446 (by decide +kernel) rfl, zi_gwI 447 (by decide +kernel) rfl, by decide +kernel⟩, Or.inr (Or.inl ⟨rfl, rfl⟩), by decide +kernel, by decide⟩
set_option maxRecDepth 100000 in
theorem zr_X9_mean : zi_okR zm_X9_mean := ⟨by decide +kernel, zi_gwI 464 rfl rfl, zi_gwI 65 (by decide +kernel) rfl, by decide +kernel, by decide +kernel, (fun h => by cases h), fun _ => ⟨zi_gwI 462 (by decide +kernel) rfl, zi_gwI 463 (by decide +kernel) rfl, by decide +kernel⟩, Or.inr (Or.inl ⟨rfl, rfl⟩), by decide +kernel, by decide⟩
set_option maxRecDepth 100000 in
theorem zr_X9_text : zi_okR zm_X9_text := ⟨by decide +kernel, zi_gwI 472 rfl rfl, zi_gwI 65 (by decide +kernel) rfl, by decide +kernel, by decide +kernel, (fun h => by cases h), fun _ => ⟨zi_gwI 470 (by decide +kernel) rfl, zi_gwI 471 (by decide +kernel) rfl, by decide +kernel⟩, Or.inr (Or.inl ⟨rfl, rfl⟩), by decide +kernel, by decide⟩
set_option maxRecDepth 100000 in
theorem zr_X9_put : zi_okR zm_X9_put := ⟨by decide +kernel, zi_gwI 480 rfl rfl, zi_gwI 65 (by decide +kernel) rfl, by decide +kernel, by decide +kernel, (fun h => by cases h), fun _ => ⟨zi_gwI 478 (by decide +kernel) rfl, zi_gwI 479 (by decide +kernel) rfl, by decide +kernel⟩, Or.inr (Or.inl ⟨rfl, rfl⟩), by decide +kernel, by decide⟩
set_option maxRecDepth 100000 in
theorem zr_X9_fault : zi_okR zm_X9_fault := ⟨by decide +kernel, zi_gwI 484 rfl rfl, zi_gwI 65 (by decide +kernel) rfl, by decide +kernel, by decide +kernel, (fun h => by cases h), fun _ => ⟨zi_gwI 482 (by decide +kernel) rfl, zi_gwI 483 (by decide +kernel) rfl, by decide +kernel⟩, Or.inr (Or.inl ⟨rfl, rfl⟩), by decide +kernel, by decide⟩
set_option maxRecDepth 100000 in
theorem zr_X9_sky : zi_okR zm_X9_sky := ⟨by decide +kernel, zi_gwI 553 rfl rfl, zi_gwI 65 (by decide +kernel) rfl, by decide +kernel, by decide +kernel, (fun h => by cases h), fun _ => ⟨zi_gwI 551 (by decide +kernel) rfl, zi_gwI 552 (by decide +kernel) rfl, by decide +kernel⟩, Or.inr (Or.inl ⟨rfl, rfl⟩), by decide +kernel, by decide⟩
set_option maxRecDepth 100000 in
theorem zr_X9_flyer : zi_okR zm_X9_flyer := ⟨by decide +kernel, zi_gwI 582 rfl rfl, zi_gwI 65 (by decide +kernel) rfl, by decide +kernel, by decide +kernel, (fun h => by cases h), fun _ => ⟨zi_gwI 580 (by decide +kernel) rfl, zi_gwI 581 (by decide +kernel) rfl, by decide +kernel⟩, Or.inr (Or.inl ⟨rfl, rfl⟩), by decide +kernel, by decide⟩
set_option maxRecDepth 100000 in
theorem zr_X9_mark : zi_okR zm_X9_mark := ⟨by decide +kernel, zi_gwI 594 rfl rfl, zi_gwI 65 (by decide +kernel) rfl, by decide +kernel, by decide +kernel, (fun h => by cases h), fun _ => ⟨zi_gwI 592 (by decide +kernel) rfl, zi_gwI 593 (by decide +kernel) rfl, by decide +kernel⟩, Or.inr (Or.inl ⟨rfl, rfl⟩), by decide +kernel, by decide⟩
set_option maxRecDepth 100000 in
theorem zr_X9_air : zi_okR zm_X9_air := ⟨by decide +kernel, zi_gwI 618 rfl rfl, zi_gwI 65 (by decide +kernel) rfl, by decide +kernel, by decide +kernel, (fun h => by cases h), fun _ => ⟨zi_gwI 616 (by decide +kernel) rfl, zi_gwI 617 (by decide +kernel) rfl, by decide +kernel⟩, Or.inr (Or.inl ⟨rfl, rfl⟩), by decide +kernel, by decide⟩
set_option maxRecDepth 100000 in
theorem zr_X9_sun : zi_okR zm_X9_sun := ⟨by decide +kernel, zi_gwI 623 rfl rfl, zi_gwI 65 (by decide +kernel) rfl, by decide +kernel, by decide +kernel, (fun h => by cases h), fun _ => ⟨zi_gwI 621 (by decide +kernel) rfl, zi_gwI 622 (by decide +kernel) rfl, by decide +kernel⟩, Or.inr (Or.inl ⟨rfl, rfl⟩), by decide +kernel, by decide⟩
set_option maxRecDepth 100000 in
theorem zr_X9_letters : zi_okR zm_X9_letters := ⟨by decide +kernel, zi_gwI 627 rfl rfl, zi_gwI 65 (by decide +kernel) rfl, by decide +kernel, by decide +kernel, (fun h => by cases h), fun _ => ⟨zi_gwI 625 (by decide +kernel) rfl, zi_gwI 626 (by decide +kernel) rfl, by decide +kernel⟩, Or.inr (Or.inl ⟨rfl, rfl⟩), by decide +kernel, by decide⟩
set_option maxRecDepth 100000 in
theorem zr_X9_beat : zi_okR zm_X9_beat := ⟨by decide +kernel, zi_gwI 631 rfl rfl, zi_gwI 65 (by decide +kernel) rfl, by decide +kernel, by decide +kernel, (fun h => by cases h), fun _ => ⟨zi_gwI 629 (by decide +kernel) rfl, zi_gwI 630 (by decide +kernel) rfl, by decide +kernel⟩, Or.inr (Or.inl ⟨rfl, rfl⟩), by decide +kernel, by decide⟩
set_option maxRecDepth 100000 in
theorem zr_X9_undo : zi_okR zm_X9_undo := ⟨by decide +kernel, zi_gwI 668 rfl rfl, zi_gwI 65 (by decide +kernel) rfl, by decide +kernel, by decide +kernel, (fun h => by cases h), fun _ => ⟨zi_gwI 666 (by decide +kernel) rfl, zi_gwI 667 (by decide +kernel) rfl, by decide +kernel⟩, Or.inr (Or.inl ⟨rfl, rfl⟩), by decide +kernel, by decide⟩
set_option maxRecDepth 100000 in
theorem zr_X9_over : zi_okR zm_X9_over := ⟨by decide +kernel, zi_gwI 678 rfl rfl, zi_gwI 65 (by decide +kernel) rfl, by decide +kernel, by decide +kernel, (fun h => by cases h), fun _ => ⟨zi_gwI 676 (by decide +kernel) rfl, zi_gwI 677 (by decide +kernel) rfl, by decide +kernel⟩, Or.inr (Or.inl ⟨rfl, rfl⟩), by decide +kernel, by decide⟩
set_option maxRecDepth 100000 in
theorem zr_X9_can : zi_okR zm_X9_can := ⟨by decide +kernel, zi_gwI 683 rfl rfl, zi_gwI 65 (by decide +kernel) rfl, by decide +kernel, by decide +kernel, (fun h => by cases h), fun _ => ⟨zi_gwI 681 (by decide +kernel) rfl, zi_gwI 682 (by decide +kernel) rfl, by decide +kernel⟩, Or.inr (Or.inl ⟨rfl, rfl⟩), by decide +kernel, by decide⟩
set_option maxRecDepth 100000 in
theorem zr_X9_keep : zi_okR zm_X9_keep := ⟨by decide +kernel, zi_gwI 691 rfl rfl, zi_gwI 65 (by decide +kernel) rfl, by decide +kernel, by decide +kernel, (fun h => by cases h), fun _ => ⟨zi_gwI 689 (by decide +kernel) rfl, zi_gwI 690 (by decide +kernel) rfl, by decide +kernel⟩, Or.inr (Or.inl ⟨rfl, rfl⟩), by decide +kernel, by decide⟩
set_option maxRecDepth 100000 in
theorem zr_X9_on : zi_okR zm_X9_on := ⟨by decide +kernel, zi_gwI 696 rfl rfl, zi_gwI 65 (by decide +kernel) rfl, by decide +kernel, by decide +kernel, (fun h => by cases h), fun _ => ⟨zi_gwI 694 (by decide +kernel) rfl, zi_gwI 695 (by decide +kernel) rfl, by decide +kernel⟩, Or.inr (Or.inl ⟨rfl, rfl⟩), by decide +kernel, by decide⟩
set_option maxRecDepth 100000 in
theorem zr_X9_judge : zi_okR zm_X9_judge := ⟨by decide +kernel, zi_gwI 700 rfl rfl, zi_gwI 65 (by decide +kernel) rfl, by decide +kernel, by decide +kernel, (fun h => by cases h), fun _ => ⟨zi_gwI 698 (by decide +kernel) rfl, zi_gwI 699 (by decide +kernel) rfl, by decide +kernel⟩, Or.inr (Or.inl ⟨rfl, rfl⟩), by decide +kernel, by decide⟩
set_option maxRecDepth 100000 in
theorem zr_X9_soonest : zi_okR zm_X9_soonest := ⟨by decide +kernel, zi_gwI 707 rfl rfl, zi_gwI 65 (by decide +kernel) rfl, by decide +kernel, by decide +kernel, (fun h => by cases h), fun _ => ⟨zi_gwI 705 (by decide +kernel) rfl, zi_gwI 706 (by decide +kernel) rfl, by decide +kernel⟩, Or.inr (Or.inl ⟨rfl, rfl⟩), by decide +kernel, by decide⟩
set_option maxRecDepth 100000 in
theorem zr_X9_lightest : zi_okR zm_X9_lightest := ⟨by decide +kernel, zi_gwI 740 rfl rfl, zi_gwI 65 (by decide +kernel) rfl, by decide +kernel, by decide +kernel, (fun h => by cases h), fun _ => ⟨zi_gwI 738 (by decide +kernel) rfl, zi_gwI 739 (by decide +kernel) rfl, by decide +kernel⟩, Or.inr (Or.inl ⟨rfl, rfl⟩), by decide +kernel, by decide⟩
set_option maxRecDepth 100000 in
theorem zr_X9_ways : zi_okR zm_X9_ways := ⟨by decide +kernel, zi_gwI 748 rfl rfl, zi_gwI 65 (by decide +kernel) rfl, by decide +kernel, by decide +kernel, (fun h => by cases h), fun _ => ⟨zi_gwI 746 (by decide +kernel) rfl, zi_gwI 747 (by decide +kernel) rfl, by decide +kernel⟩, Or.inr (Or.inl ⟨rfl, rfl⟩), by decide +kernel, by decide⟩
set_option maxRecDepth 100000 in
theorem zr_X9_heights : zi_okR zm_X9_heights := ⟨by decide +kernel, zi_gwI 756 rfl rfl, zi_gwI 65 (by decide +kernel) rfl, by decide +kernel, by decide +kernel, (fun h => by cases h), fun _ => ⟨zi_gwI 754 (by decide +kernel) rfl, zi_gwI 755 (by decide +kernel) rfl, by decide +kernel⟩, Or.inr (Or.inl ⟨rfl, rfl⟩), by decide +kernel, by decide⟩
set_option maxRecDepth 100000 in
theorem zr_X9_nth : zi_okR zm_X9_nth := ⟨by decide +kernel, zi_gwI 764 rfl rfl, zi_gwI 65 (by decide +kernel) rfl, by decide +kernel, by decide +kernel, (fun h => by cases h), fun _ => ⟨zi_gwI 762 (by decide +kernel) rfl, zi_gwI 763 (by decide +kernel) rfl, by decide +kernel⟩, Or.inr (Or.inl ⟨rfl, rfl⟩), by decide +kernel, by decide⟩
set_option maxRecDepth 100000 in
theorem zr_X9_wax : zi_okR zm_X9_wax := ⟨by decide +kernel, zi_gwI 768 rfl rfl, zi_gwI 65 (by decide +kernel) rfl, by decide +kernel, by decide +kernel, (fun h => by cases h), fun _ => ⟨zi_gwI 766 (by decide +kernel) rfl, zi_gwI 767 (by decide +kernel) rfl, by decide +kernel⟩, Or.inr (Or.inl ⟨rfl, rfl⟩), by decide +kernel, by decide⟩
set_option maxRecDepth 100000 in
theorem zr_X9_strength : zi_okR zm_X9_strength := ⟨by decide +kernel, zi_gwI 776 rfl rfl, zi_gwI 65 (by decide +kernel) rfl, by decide +kernel, by decide +kernel, (fun h => by cases h), fun _ => ⟨zi_gwI 774 (by decide +kernel) rfl, zi_gwI 775 (by decide +kernel) rfl, by decide +kernel⟩, Or.inr (Or.inl ⟨rfl, rfl⟩), by decide +kernel, by decide⟩
set_option maxRecDepth 100000 in
theorem zr_X9_most : zi_okR zm_X9_most := ⟨by decide +kernel, zi_gwI 785 rfl rfl, zi_gwI 65 (by decide +kernel) rfl, by decide +kernel, by decide +kernel, (fun h => by cases h), fun _ => ⟨zi_gwI 783 (by decide +kernel) rfl, zi_gwI 784 (by decide +kernel) rfl, by decide +kernel⟩, Or.inr (Or.inl ⟨rfl, rfl⟩), by decide +kernel, by decide⟩
set_option maxRecDepth 100000 in
theorem zr_X9_hottest : zi_okR zm_X9_hottest := ⟨by decide +kernel, zi_gwI 789 rfl rfl, zi_gwI 65 (by decide +kernel) rfl, by decide +kernel, by decide +kernel, (fun h => by cases h), fun _ => ⟨zi_gwI 787 (by decide +kernel) rfl, zi_gwI 788 (by decide +kernel) rfl, by decide +kernel⟩, Or.inr (Or.inl ⟨rfl, rfl⟩), by decide +kernel, by decide⟩
set_option maxRecDepth 100000 in
theorem zr_X9_kinds : zi_okR zm_X9_kinds := ⟨by decide +kernel, zi_gwI 793 rfl rfl, zi_gwI 65 (by decide +kernel) rfl, by decide +kernel, by decide +kernel, (fun h => by cases h), fun _ => ⟨zi_gwI 791 (by decide +kernel) rfl, zi_gwI 792 (by decide +kernel) rfl, by decide +kernel⟩, Or.inr (Or.inl ⟨rfl, rfl⟩), by decide +kernel, by decide⟩
set_option maxRecDepth 100000 in
theorem zr_X9_post : zi_okR zm_X9_post := ⟨by decide +kernel, zi_gwI 797 rfl rfl, zi_gwI 65 (by decide +kernel) rfl, by decide +kernel, by decide +kernel, (fun h => by cases h), fun _ => ⟨zi_gwI 795 (by decide +kernel) rfl, zi_gwI 796 (by decide +kernel) rfl, by decide +kernel⟩, Or.inr (Or.inl ⟨rfl, rfl⟩), by decide +kernel, by decide⟩
set_option maxRecDepth 100000 in
theorem zr_X9_plan : zi_okR zm_X9_plan := ⟨by decide +kernel, zi_gwI 816 rfl rfl, zi_gwI 65 (by decide +kernel) rfl, by decide +kernel, by decide +kernel, (fun h => by cases h), fun _ => ⟨zi_gwI 814 (by decide +kernel) rfl, zi_gwI 815 (by decide +kernel) rfl, by decide +kernel⟩, Or.inr (Or.inl ⟨rfl, rfl⟩), by decide +kernel, by decide⟩
set_option maxRecDepth 100000 in
theorem zr_X9_odds : zi_okR zm_X9_odds := ⟨by decide +kernel, zi_gwI 853 rfl rfl, zi_gwI 65 (by decide +kernel) rfl, by decide +kernel, by decide +kernel, (fun h => by cases h), fun _ => ⟨zi_gwI 851 (by decide +kernel) rfl, zi_gwI 852 (by decide +kernel) rfl, by decide +kernel⟩, Or.inr (Or.inl ⟨rfl, rfl⟩), by decide +kernel, by decide⟩
set_option maxRecDepth 100000 in
theorem zr_X9_choice : zi_okR zm_X9_choice := ⟨by decide +kernel, zi_gwI 857 rfl rfl, zi_gwI 65 (by decide +kernel) rfl, by decide +kernel, by decide +kernel, (fun h => by cases h), fun _ => ⟨zi_gwI 855 (by decide +kernel) rfl, zi_gwI 856 (by decide +kernel) rfl, by decide +kernel⟩, Or.inr (Or.inl ⟨rfl, rfl⟩), by decide +kernel, by decide⟩
set_option maxRecDepth 100000 in
theorem zr_X9_boats : zi_okR zm_X9_boats := ⟨by decide +kernel, zi_gwI 865 rfl rfl, zi_gwI 65 (by decide +kernel) rfl, by decide +kernel, by decide +kernel, (fun h => by cases h), fun _ => ⟨zi_gwI 863 (by decide +kernel) rfl, zi_gwI 864 (by decide +kernel) rfl, by decide +kernel⟩, Or.inr (Or.inl ⟨rfl, rfl⟩), by decide +kernel, by decide⟩
set_option maxRecDepth 100000 in
theorem zr_X9_drip : zi_okR zm_X9_drip := ⟨by decide +kernel, zi_gwI 887 rfl rfl, zi_gwI 65 (by decide +kernel) rfl, by decide +kernel, by decide +kernel, (fun h => by cases h), fun _ => ⟨zi_gwI 885 (by decide +kernel) rfl, zi_gwI 886 (by decide +kernel) rfl, by decide +kernel⟩, Or.inr (Or.inl ⟨rfl, rfl⟩), by decide +kernel, by decide⟩
set_option maxRecDepth 100000 in
theorem zr_X9_feathers : zi_okR zm_X9_feathers := ⟨by decide +kernel, zi_gwI 895 rfl rfl, zi_gwI 65 (by decide +kernel) rfl, by decide +kernel, by decide +kernel, (fun h => by cases h), fun _ => ⟨zi_gwI 893 (by decide +kernel) rfl, zi_gwI 894 (by decide +kernel) rfl, by decide +kernel⟩, Or.inr (Or.inl ⟨rfl, rfl⟩), by decide +kernel, by decide⟩
set_option maxRecDepth 100000 in
theorem zr_X9_lots : zi_okR zm_X9_lots := ⟨by decide +kernel, zi_gwI 904 rfl rfl, zi_gwI 65 (by decide +kernel) rfl, by decide +kernel, by decide +kernel, (fun h => by cases h), fun _ => ⟨zi_gwI 902 (by decide +kernel) rfl, zi_gwI 903 (by decide +kernel) rfl, by decide +kernel⟩, Or.inr (Or.inl ⟨rfl, rfl⟩), by decide +kernel, by decide⟩
set_option maxRecDepth 100000 in
theorem zr_X9_asked : zi_okR zm_X9_asked := ⟨by decide +kernel, zi_gwI 913 rfl rfl, zi_gwI 65 (by decide +kernel) rfl, by decide +kernel, by decide +kernel, (fun h => by cases h), fun _ => ⟨zi_gwI 911 (by decide +kernel) rfl, zi_gwI 912 (by decide +kernel) rfl, by decide +kernel⟩, Or.inr (Or.inl ⟨rfl, rfl⟩), by decide +kernel, by decide⟩
set_option maxRecDepth 100000 in
theorem zr_X9_upper : zi_okR zm_X9_upper := ⟨by decide +kernel, zi_gwI 917 rfl rfl, zi_gwI 65 (by decide +kernel) rfl, by decide +kernel, by decide +kernel, (fun h => by cases h), fun _ => ⟨zi_gwI 915 (by decide +kernel) rfl, zi_gwI 916 (by decide +kernel) rfl, by decide +kernel⟩, Or.inr (Or.inr (Or.inl ⟨rfl, rfl⟩)), by decide +kernel, by decide⟩
set_option maxRecDepth 100000 in
theorem zr_X9_lower : zi_okR zm_X9_lower := ⟨by decide +kernel, zi_gwI 921 rfl rfl, zi_gwI 65 (by decide +kernel) rfl, by decide +kernel, by decide +kernel, (fun h => by cases h), fun _ => ⟨zi_gwI 919 (by decide +kernel) rfl, zi_gwI 920 (by decide +kernel) rfl, by decide +kernel⟩, Or.inr (Or.inr (Or.inl ⟨rfl, rfl⟩)), by decide +kernel, by decide⟩
set_option maxRecDepth 100000 in
theorem zr_X9_count : zi_okR zm_X9_count := ⟨by decide +kernel, zi_gwI 925 rfl rfl, zi_gwI 65 (by decide +kernel) rfl, by decide +kernel, by decide +kernel, (fun h => by cases h), fun _ => ⟨zi_gwI 923 (by decide +kernel) rfl, zi_gwI 924 (by decide +kernel) rfl, by decide +kernel⟩, Or.inr (Or.inl ⟨rfl, rfl⟩), by decide +kernel, by decide⟩
set_option maxRecDepth 100000 in
theorem zr_X9_finding : zi_okR zm_X9_finding := ⟨by decide +kernel, zi_gwI 945 rfl rfl, zi_gwI 65 (by decide +kernel) rfl, by decide +kernel, by decide +kernel, (fun h => by cases h), fun _ => ⟨zi_gwI 943 (by decide +kernel) rfl, zi_gwI 944 (by decide +kernel) rfl, by decide +kernel⟩, Or.inr (Or.inl ⟨rfl, rfl⟩), by decide +kernel, by decide⟩
set_option maxRecDepth 100000 in
theorem zr_X9_findings : zi_okR zm_X9_findings := ⟨by decide +kernel, zi_gwI 949 rfl rfl, zi_gwI 65 (by decide +kernel) rfl, by decide +kernel, by decide +kernel, (fun h => by cases h), fun _ => ⟨zi_gwI 947 (by decide +kernel) rfl, zi_gwI 948 (by decide +kernel) rfl, by decide +kernel⟩, Or.inr (Or.inl ⟨rfl, rfl⟩), by decide +kernel, by decide⟩
set_option maxRecDepth 100000 in
theorem zr_X9_digest : zi_okR zm_X9_digest := ⟨by decide +kernel, zi_gwI 953 rfl rfl, zi_gwI 65 (by decide +kernel) rfl, by decide +kernel, by decide +kernel, (fun h => by cases h), fun _ => ⟨zi_gwI 951 (by decide +kernel) rfl, zi_gwI 952 (by decide +kernel) rfl, by decide +kernel⟩, Or.inr (Or.inr (Or.inl ⟨rfl, rfl⟩)), by decide +kernel, by decide⟩
set_option maxRecDepth 100000 in
theorem zr_X9_rowAt : zi_okR zm_X9_rowAt := ⟨by decide +kernel, zi_gwI 392 rfl rfl, zi_gwI 65 (by decide +kernel) rfl, by decide +kernel, by decide +kernel, (fun h => by cases h), fun _ => ⟨zi_gwI 391 (by decide +kernel) rfl, zi_gwI 0 (by decide +kernel) rfl, by decide +kernel⟩, Or.inr (Or.inr (Or.inr (Or.inl ⟨rfl, _, rfl⟩))), by decide +kernel, by decide⟩
set_option maxRecDepth 100000 in
theorem zr_X9_textAt : zi_okR zm_X9_textAt := ⟨by decide +kernel, zi_gwI 476 rfl rfl, zi_gwI 65 (by decide +kernel) rfl, by decide +kernel, by decide +kernel, (fun h => by cases h), fun _ => ⟨zi_gwI 475 (by decide +kernel) rfl, zi_gwI 3 (by decide +kernel) rfl, by decide +kernel⟩, Or.inr (Or.inr (Or.inr (Or.inl ⟨rfl, _, rfl⟩))), by decide +kernel, by decide⟩
set_option maxRecDepth 100000 in
theorem zr_X9_madeAnew : zi_okR zm_X9_madeAnew := ⟨by decide +kernel, zi_gwI 396 rfl rfl, zi_gwI 65 (by decide +kernel) rfl, by decide +kernel, by decide +kernel, (fun h => by cases h), fun _ => ⟨zi_gwI 395 (by decide +kernel) rfl, zi_gwI 1 (by decide +kernel) rfl, by decide +kernel⟩, Or.inr (Or.inl ⟨rfl, rfl⟩), by decide +kernel, by decide⟩
set_option maxRecDepth 100000 in
theorem zr_X9_refuse : zi_okR zm_X9_refuse := ⟨by decide +kernel, zi_gwI 404 rfl rfl, zi_gwI 65 (by decide +kernel) rfl, by decide +kernel, by decide +kernel, (fun h => by cases h), fun _ => ⟨zi_gwI 403 (by decide +kernel) rfl, zi_gwI 2 (by decide +kernel) rfl, by decide +kernel⟩, Or.inr (Or.inl ⟨rfl, rfl⟩), by decide +kernel, by decide⟩
set_option maxRecDepth 100000 in
theorem zr_X9_tell : zi_okR zm_X9_tell := ⟨by decide +kernel, zi_gwI 752 rfl rfl, zi_gwI 65 (by decide +kernel) rfl, by decide +kernel, by decide +kernel, (fun h => by cases h), fun _ => ⟨zi_gwI 751 (by decide +kernel) rfl, zi_gwI 16 (by decide +kernel) rfl, by decide +kernel⟩, Or.inl ⟨rfl, rfl⟩, by decide +kernel, by decide⟩
set_option maxRecDepth 100000 in
theorem zr_X9_isBeat : zi_okR zm_X9_isBeat := ⟨by decide +kernel, zi_gwI 634 rfl rfl, zi_gwI 65 (by decide +kernel) rfl, by decide +kernel, by decide +kernel, fun _ => zi_gwI 633 (by decide +kernel) rfl, (fun h => by cases h), Or.inr (Or.inr (Or.inr (Or.inr ⟨rfl, rfl⟩))), by decide +kernel, by decide⟩
set_option maxRecDepth 100000 in
theorem zr_X9_isOfKind : zi_okR zm_X9_isOfKind := ⟨by decide +kernel, zi_gwI 597 rfl rfl, zi_gwI 65 (by decide +kernel) rfl, by decide +kernel, by decide +kernel, fun _ => zi_gwI 596 (by decide +kernel) rfl, (fun h => by cases h), Or.inr (Or.inr (Or.inr (Or.inr ⟨rfl, rfl⟩))), by decide +kernel, by decide⟩
set_option maxRecDepth 100000 in
theorem zr_X9_holdsBeatsAlone : zi_okR zm_X9_holdsBeatsAlone := ⟨by decide +kernel, zi_gwI 703 rfl rfl, zi_gwI 65 (by decide +kernel) rfl, by decide +kernel, by decide +kernel, fun _ => zi_gwI 702 (by decide +kernel) rfl, (fun h => by cases h), Or.inr (Or.inr (Or.inr (Or.inr ⟨rfl, rfl⟩))), by decide +kernel, by decide⟩
set_option maxRecDepth 100000 in
theorem zr_X9_perform : zi_okR zm_X9_perform := ⟨by decide +kernel, zi_gwI 638 rfl rfl, zi_gwI 65 (by decide +kernel) rfl, by decide +kernel, by decide +kernel, (fun h => by cases h), fun _ => ⟨zi_gwI 637 (by decide +kernel) rfl, zi_gwI 13 (by decide +kernel) rfl, by decide +kernel⟩, Or.inr (Or.inl ⟨rfl, rfl⟩), by decide +kernel, by decide⟩
set_option maxRecDepth 100000 in
theorem zr_X9_openBeats : zi_okR zm_X9_openBeats := ⟨by decide +kernel, zi_gwI 687 rfl rfl, zi_gwI 65 (by decide +kernel) rfl, by decide +kernel, by decide +kernel, (fun h => by cases h), fun _ => ⟨zi_gwI 686 (by decide +kernel) rfl, zi_gwI 14 (by decide +kernel) rfl, by decide +kernel⟩, Or.inr (Or.inl ⟨rfl, rfl⟩), by decide +kernel, by decide⟩
set_option maxRecDepth 100000 in
theorem zr_X9_bitAt : zi_okR zm_X9_bitAt := ⟨by decide +kernel, zi_gwI 909 rfl rfl, zi_gwI 65 (by decide +kernel) rfl, by decide +kernel, by decide +kernel, fun _ => zi_gwI 908 (by decide +kernel) rfl, (fun h => by cases h), Or.inr (Or.inl ⟨rfl, rfl⟩), by decide +kernel, by decide⟩
set_option maxRecDepth 100000 in
theorem zr_X9_setOut : zi_okR zm_X9_setOut := ⟨by decide +kernel, zi_gwI 711 rfl rfl, zi_gwI 65 (by decide +kernel) rfl, by decide +kernel, by decide +kernel, (fun h => by cases h), fun _ => ⟨zi_gwI 710 (by decide +kernel) rfl, zi_gwI 15 (by decide +kernel) rfl, by decide +kernel⟩, Or.inl ⟨rfl, rfl⟩, by decide +kernel, by decide⟩
set_option maxRecDepth 100000 in
theorem zr_X9_hasWay : zi_okR zm_X9_hasWay := ⟨by decide +kernel, zi_gwI 772 rfl rfl, zi_gwI 65 (by decide +kernel) rfl, by decide +kernel, by decide +kernel, (fun h => by cases h), fun _ => ⟨zi_gwI 771 (by decide +kernel) rfl, zi_gwI 17 (by decide +kernel) rfl, by decide +kernel⟩, Or.inr (Or.inr (Or.inr (Or.inr ⟨rfl, rfl⟩))), by decide +kernel, by decide⟩
set_option maxRecDepth 100000 in
theorem zr_X9_loadsOf : zi_okR zm_X9_loadsOf := ⟨by decide +kernel, zi_gwI 801 rfl rfl, zi_gwI 65 (by decide +kernel) rfl, by decide +kernel, by decide +kernel, (fun h => by cases h), fun _ => ⟨zi_gwI 800 (by decide +kernel) rfl, zi_gwI 18 (by decide +kernel) rfl, by decide +kernel⟩, Or.inr (Or.inl ⟨rfl, rfl⟩), by decide +kernel, by decide⟩
set_option maxRecDepth 100000 in
theorem zr_X9_shareOf : zi_okR zm_X9_shareOf := ⟨by decide +kernel, zi_gwI 808 rfl rfl, zi_gwI 65 (by decide +kernel) rfl, by decide +kernel, by decide +kernel, fun _ => zi_gwI 807 (by decide +kernel) rfl, (fun h => by cases h), Or.inr (Or.inl ⟨rfl, rfl⟩), by decide +kernel, by decide⟩
set_option maxRecDepth 100000 in
theorem zr_X9_carriersOf : zi_okR zm_X9_carriersOf := ⟨by decide +kernel, zi_gwI 805 rfl rfl, zi_gwI 65 (by decide +kernel) rfl, by decide +kernel, by decide +kernel, (fun h => by cases h), fun _ => ⟨zi_gwI 804 (by decide +kernel) rfl, zi_gwI 19 (by decide +kernel) rfl, by decide +kernel⟩, Or.inr (Or.inl ⟨rfl, rfl⟩), by decide +kernel, by decide⟩
set_option maxRecDepth 100000 in
theorem zr_X9_writeShares : zi_okR zm_X9_writeShares := ⟨by decide +kernel, zi_gwI 812 rfl rfl, zi_gwI 65 (by decide +kernel) rfl, by decide +kernel, by decide +kernel, (fun h => by cases h), fun _ => ⟨zi_gwI 811 (by decide +kernel) rfl, zi_gwI 20 (by decide +kernel) rfl, by decide +kernel⟩, Or.inl ⟨rfl, rfl⟩, by decide +kernel, by decide⟩
set_option maxRecDepth 100000 in
theorem zr_X9_hasBoat : zi_okR zm_X9_hasBoat := ⟨by decide +kernel, zi_gwI 879 rfl rfl, zi_gwI 65 (by decide +kernel) rfl, by decide +kernel, by decide +kernel, (fun h => by cases h), fun _ => ⟨zi_gwI 878 (by decide +kernel) rfl, zi_gwI 26 (by decide +kernel) rfl, by decide +kernel⟩, Or.inr (Or.inr (Or.inr (Or.inr ⟨rfl, rfl⟩))), by decide +kernel, by decide⟩
set_option maxRecDepth 100000 in
theorem zr_X9_farthestFrom : zi_okR zm_X9_farthestFrom := ⟨by decide +kernel, zi_gwI 875 rfl rfl, zi_gwI 65 (by decide +kernel) rfl, by decide +kernel, by decide +kernel, (fun h => by cases h), fun _ => ⟨zi_gwI 874 (by decide +kernel) rfl, zi_gwI 25 (by decide +kernel) rfl, by decide +kernel⟩, Or.inr (Or.inl ⟨rfl, rfl⟩), by decide +kernel, by decide⟩
set_option maxRecDepth 100000 in
theorem zr_X9_tally : zi_okR zm_X9_tally := ⟨by decide +kernel, zi_gwI 929 rfl rfl, zi_gwI 65 (by decide +kernel) rfl, by decide +kernel, by decide +kernel, (fun h => by cases h), fun _ => ⟨zi_gwI 928 (by decide +kernel) rfl, zi_gwI 27 (by decide +kernel) rfl, by decide +kernel⟩, Or.inr (Or.inl ⟨rfl, rfl⟩), by decide +kernel, by decide⟩
set_option maxRecDepth 100000 in
theorem zr_X9_thereOf : zi_okR zm_X9_thereOf := ⟨by decide +kernel, zi_gwI 937 rfl rfl, zi_gwI 65 (by decide +kernel) rfl, by decide +kernel, by decide +kernel, fun _ => zi_gwI 936 (by decide +kernel) rfl, (fun h => by cases h), Or.inr (Or.inl ⟨rfl, rfl⟩), by decide +kernel, by decide⟩
set_option maxRecDepth 100000 in
theorem zr_X9_keptSkies : zi_okR zm_X9_keptSkies := ⟨by decide +kernel, zi_gwI 941 rfl rfl, zi_gwI 65 (by decide +kernel) rfl, by decide +kernel, by decide +kernel, (fun h => by cases h), fun _ => ⟨zi_gwI 940 (by decide +kernel) rfl, zi_gwI 28 (by decide +kernel) rfl, by decide +kernel⟩, Or.inr (Or.inl ⟨rfl, rfl⟩), by decide +kernel, by decide⟩
set_option maxRecDepth 100000 in
theorem zr_X10_in : zi_okR zm_X10_in := ⟨by decide +kernel, zi_gwI 1098 rfl rfl, zi_gwI 76 (by decide +kernel) rfl, by decide +kernel, by decide +kernel, fun _ => zi_gwI 1097 (by decide +kernel) rfl, (fun h => by cases h), Or.inr (Or.inr (Or.inr (Or.inr ⟨rfl, rfl⟩))), by decide +kernel, by decide⟩
set_option maxRecDepth 100000 in
theorem zr_X10_more : zi_okR zm_X10_more := ⟨by decide +kernel, zi_gwI 1210 rfl rfl, zi_gwI 76 (by decide +kernel) rfl, by decide +kernel, by decide +kernel, fun _ => zi_gwI 1209 (by decide +kernel) rfl, (fun h => by cases h), Or.inr (Or.inl ⟨rfl, rfl⟩), by decide +kernel, by decide⟩
set_option maxRecDepth 100000 in
theorem zr_X10_finds : zi_okR zm_X10_finds := ⟨by decide +kernel, zi_gwI 1102 rfl rfl, zi_gwI 76 (by decide +kernel) rfl, by decide +kernel, by decide +kernel, (fun h => by cases h), fun _ => ⟨zi_gwI 1101 (by decide +kernel) rfl, zi_gwI 29 (by decide +kernel) rfl, by decide +kernel⟩, Or.inr (Or.inl ⟨rfl, rfl⟩), by decide +kernel, by decide⟩
set_option maxRecDepth 100000 in
theorem zr_X10_tells : zi_okR zm_X10_tells := ⟨by decide +kernel, zi_gwI 1110 rfl rfl, zi_gwI 76 (by decide +kernel) rfl, by decide +kernel, by decide +kernel, (fun h => by cases h), fun _ => ⟨zi_gwI 1109 (by decide +kernel) rfl, zi_gwI 30 (by decide +kernel) rfl, by decide +kernel⟩, Or.inr (Or.inl ⟨rfl, rfl⟩), by decide +kernel, by decide⟩
set_option maxRecDepth 100000 in
theorem zr_X10_isRow : zi_okR zm_X10_isRow := ⟨by decide +kernel, zi_gwI 1094 rfl rfl, zi_gwI 76 (by decide +kernel) rfl, by decide +kernel, by decide +kernel, fun _ => zi_gwI 1093 (by decide +kernel) rfl, (fun h => by cases h), Or.inr (Or.inr (Or.inr (Or.inr ⟨rfl, rfl⟩))), by decide +kernel, by decide⟩
set_option maxRecDepth 100000 in
theorem zr_X10_isText : zi_okR zm_X10_isText := ⟨by decide +kernel, zi_gwI 1133 rfl rfl, zi_gwI 76 (by decide +kernel) rfl, by decide +kernel, by decide +kernel, fun _ => zi_gwI 1132 (by decide +kernel) rfl, (fun h => by cases h), Or.inr (Or.inr (Or.inr (Or.inr ⟨rfl, rfl⟩))), by decide +kernel, by decide⟩
set_option maxRecDepth 100000 in
theorem zr_X10_isFlyer : zi_okR zm_X10_isFlyer := ⟨by decide +kernel, zi_gwI 1190 rfl rfl, zi_gwI 76 (by decide +kernel) rfl, by decide +kernel, by decide +kernel, (fun h => by cases h), fun _ => ⟨zi_gwI 1189 (by decide +kernel) rfl, zi_gwI 38 (by decide +kernel) rfl, by decide +kernel⟩, Or.inr (Or.inr (Or.inr (Or.inr ⟨rfl, rfl⟩))), by decide +kernel, by decide⟩
set_option maxRecDepth 100000 in
theorem zr_X10_row : zi_okR zm_X10_row := ⟨by decide +kernel, zi_gwI 1091 rfl rfl, zi_gwI 76 (by decide +kernel) rfl, by decide +kernel, by decide +kernel, (fun h => by cases h), fun _ => ⟨zi_gwI 1089 (by decide +kernel) rfl, zi_gwI 1090 (by decide +kernel) rfl, by decide +kernel⟩, Or.inr (Or.inl ⟨rfl, rfl⟩), by decide +kernel, by decide⟩
set_option maxRecDepth 100000 in
theorem zr_X10_lay : zi_okR zm_X10_lay := ⟨by decide +kernel, zi_gwI 1106 rfl rfl, zi_gwI 76 (by decide +kernel) rfl, by decide +kernel, by decide +kernel, (fun h => by cases h), fun _ => ⟨zi_gwI 1104 (by decide +kernel) rfl, zi_gwI 1105 (by decide +kernel) rfl, by decide +kernel⟩, Or.inr (Or.inl ⟨rfl, rfl⟩), by decide +kernel, by decide⟩
set_option maxRecDepth 100000 in
theorem zr_X10_at : zi_okR zm_X10_at := ⟨by decide +kernel, zi_gwI 1114 rfl rfl, zi_gwI 76 (by decide +kernel) rfl, by decide +kernel, by decide +kernel, (fun h => by cases h), fun _ => ⟨zi_gwI 1112 (by decide +kernel) rfl, zi_gwI 1113 (by decide +kernel) rfl, by decide +kernel⟩, Or.inr (Or.inl ⟨rfl, rfl⟩), by decide +kernel, by decide⟩
set_option maxRecDepth 100000 in
theorem zr_X10_tear : zi_okR zm_X10_tear := ⟨by decide +kernel, zi_gwI 1118 rfl rfl, zi_gwI 76 (by decide +kernel) rfl, by decide +kernel, by decide +kernel, (fun h => by cases h), fun _ => ⟨zi_gwI 1116 (by decide +kernel) rfl, zi_gwI 1117 (by decide +kernel) rfl, by decide +kernel⟩, Or.inr (Or.inl ⟨rfl, rfl⟩), by decide +kernel, by decide⟩
set_option maxRecDepth 100000 in
theorem zr_X10_copy : zi_okR zm_X10_copy := ⟨by decide +kernel, zi_gwI 1122 rfl rfl, zi_gwI 76 (by decide +kernel) rfl, by decide +kernel, by decide +kernel, (fun h => by cases h), fun _ => ⟨zi_gwI 1120 (by decide +kernel) rfl, zi_gwI 1121 (by decide +kernel) rfl, by decide +kernel⟩, Or.inr (Or.inl ⟨rfl, rfl⟩), by decide +kernel, by decide⟩
set_option maxRecDepth 100000 in
theorem zr_X10_mean : zi_okR zm_X10_mean := ⟨by decide +kernel, zi_gwI 1126 rfl rfl, zi_gwI 76 (by decide +kernel) rfl, by decide +kernel, by decide +kernel, (fun h => by cases h), fun _ => ⟨zi_gwI 1124 (by decide +kernel) rfl, zi_gwI 1125 (by decide +kernel) rfl, by decide +kernel⟩, Or.inr (Or.inl ⟨rfl, rfl⟩), by decide +kernel, by decide⟩
set_option maxRecDepth 100000 in
theorem zr_X10_text : zi_okR zm_X10_text := ⟨by decide +kernel, zi_gwI 1130 rfl rfl, zi_gwI 76 (by decide +kernel) rfl, by decide +kernel, by decide +kernel, (fun h => by cases h), fun _ => ⟨zi_gwI 1128 (by decide +kernel) rfl, zi_gwI 1129 (by decide +kernel) rfl, by decide +kernel⟩, Or.inr (Or.inl ⟨rfl, rfl⟩), by decide +kernel, by decide⟩
set_option maxRecDepth 100000 in
theorem zr_X10_put : zi_okR zm_X10_put := ⟨by decide +kernel, zi_gwI 1138 rfl rfl, zi_gwI 76 (by decide +kernel) rfl, by decide +kernel, by decide +kernel, (fun h => by cases h), fun _ => ⟨zi_gwI 1136 (by decide +kernel) rfl, zi_gwI 1137 (by decide +kernel) rfl, by decide +kernel⟩, Or.inr (Or.inl ⟨rfl, rfl⟩), by decide +kernel, by decide⟩
set_option maxRecDepth 100000 in
theorem zr_X10_sign : zi_okR zm_X10_sign := ⟨by decide +kernel, zi_gwI 1158 rfl rfl, zi_gwI 76 (by decide +kernel) rfl, by decide +kernel, by decide +kernel, (fun h => by cases h), fun _ => ⟨zi_gwI 1157 (by decide +kernel) rfl, zi_gwI 34 (by decide +kernel) rfl, by decide +kernel⟩, Or.inr (Or.inl ⟨rfl, rfl⟩), by decide +kernel, by decide⟩
set_option maxRecDepth 100000 in
theorem zr_X10_isRest : zi_okR zm_X10_isRest := ⟨by decide +kernel, zi_gwI 1171 rfl rfl, zi_gwI 76 (by decide +kernel) rfl, by decide +kernel, by decide +kernel, (fun h => by cases h), fun _ => ⟨zi_gwI 1170 (by decide +kernel) rfl, zi_gwI 36 (by decide +kernel) rfl, by decide +kernel⟩, Or.inr (Or.inr (Or.inr (Or.inr ⟨rfl, rfl⟩))), by decide +kernel, by decide⟩
set_option maxRecDepth 100000 in
theorem zr_X10_airOf : zi_okR zm_X10_airOf := ⟨by decide +kernel, zi_gwI 1161 rfl rfl, zi_gwI 76 (by decide +kernel) rfl, by decide +kernel, by decide +kernel, fun _ => zi_gwI 1160 (by decide +kernel) rfl, (fun h => by cases h), Or.inr (Or.inl ⟨rfl, rfl⟩), by decide +kernel, by decide⟩
set_option maxRecDepth 100000 in
theorem zr_X10_kindOf : zi_okR zm_X10_kindOf := ⟨by decide +kernel, zi_gwI 1178 rfl rfl, zi_gwI 76 (by decide +kernel) rfl, by decide +kernel, by decide +kernel, fun _ => zi_gwI 1177 (by decide +kernel) rfl, (fun h => by cases h), Or.inr (Or.inl ⟨rfl, rfl⟩), by decide +kernel, by decide⟩
set_option maxRecDepth 100000 in
theorem zr_X10_isFigure : zi_okR zm_X10_isFigure := ⟨by decide +kernel, zi_gwI 1165 rfl rfl, zi_gwI 76 (by decide +kernel) rfl, by decide +kernel, by decide +kernel, (fun h => by cases h), fun _ => ⟨zi_gwI 1164 (by decide +kernel) rfl, zi_gwI 35 (by decide +kernel) rfl, by decide +kernel⟩, Or.inr (Or.inr (Or.inr (Or.inr ⟨rfl, rfl⟩))), by decide +kernel, by decide⟩
set_option maxRecDepth 100000 in
theorem zr_X10_readsAir : zi_okR zm_X10_readsAir := ⟨by decide +kernel, zi_gwI 1154 rfl rfl, zi_gwI 76 (by decide +kernel) rfl, by decide +kernel, by decide +kernel, (fun h => by cases h), fun _ => ⟨zi_gwI 1153 (by decide +kernel) rfl, zi_gwI 33 (by decide +kernel) rfl, by decide +kernel⟩, Or.inr (Or.inr (Or.inr (Or.inr ⟨rfl, rfl⟩))), by decide +kernel, by decide⟩
set_option maxRecDepth 100000 in
theorem zr_X10_readsFlyer : zi_okR zm_X10_readsFlyer := ⟨by decide +kernel, zi_gwI 1175 rfl rfl, zi_gwI 76 (by decide +kernel) rfl, by decide +kernel, by decide +kernel, (fun h => by cases h), fun _ => ⟨zi_gwI 1174 (by decide +kernel) rfl, zi_gwI 37 (by decide +kernel) rfl, by decide +kernel⟩, Or.inr (Or.inr (Or.inr (Or.inr ⟨rfl, rfl⟩))), by decide +kernel, by decide⟩
set_option maxRecDepth 100000 in
theorem zr_X10_reads : zi_okR zm_X10_reads := ⟨by decide +kernel, zi_gwI 1150 rfl rfl, zi_gwI 76 (by decide +kernel) rfl, by decide +kernel, by decide +kernel, (fun h => by cases h), fun _ => ⟨zi_gwI 1149 (by decide +kernel) rfl, zi_gwI 32 (by decide +kernel) rfl, by decide +kernel⟩, Or.inr (Or.inr (Or.inr (Or.inr ⟨rfl, rfl⟩))), by decide +kernel, by decide⟩
set_option maxRecDepth 100000 in
theorem zr_X10_faultOf : zi_okR zm_X10_faultOf := ⟨by decide +kernel, zi_gwI 1146 rfl rfl, zi_gwI 76 (by decide +kernel) rfl, by decide +kernel, by decide +kernel, (fun h => by cases h), fun _ => ⟨zi_gwI 1145 (by decide +kernel) rfl, zi_gwI 31 (by decide +kernel) rfl, by decide +kernel⟩, Or.inr (Or.inl ⟨rfl, rfl⟩), by decide +kernel, by decide⟩
set_option maxRecDepth 100000 in
theorem zr_X10_fault : zi_okR zm_X10_fault := ⟨by decide +kernel, zi_gwI 1142 rfl rfl, zi_gwI 76 (by decide +kernel) rfl, by decide +kernel, by decide +kernel, (fun h => by cases h), fun _ => ⟨zi_gwI 1140 (by decide +kernel) rfl, zi_gwI 1141 (by decide +kernel) rfl, by decide +kernel⟩, Or.inr (Or.inl ⟨rfl, rfl⟩), by decide +kernel, by decide⟩
set_option maxRecDepth 100000 in
theorem zr_X10_sky : zi_okR zm_X10_sky := ⟨by decide +kernel, zi_gwI 1182 rfl rfl, zi_gwI 76 (by decide +kernel) rfl, by decide +kernel, by decide +kernel, (fun h => by cases h), fun _ => ⟨zi_gwI 1180 (by decide +kernel) rfl, zi_gwI 1181 (by decide +kernel) rfl, by decide +kernel⟩, Or.inr (Or.inl ⟨rfl, rfl⟩), by decide +kernel, by decide⟩
set_option maxRecDepth 100000 in
theorem zr_X10_flyer : zi_okR zm_X10_flyer := ⟨by decide +kernel, zi_gwI 1186 rfl rfl, zi_gwI 76 (by decide +kernel) rfl, by decide +kernel, by decide +kernel, (fun h => by cases h), fun _ => ⟨zi_gwI 1184 (by decide +kernel) rfl, zi_gwI 1185 (by decide +kernel) rfl, by decide +kernel⟩, Or.inr (Or.inl ⟨rfl, rfl⟩), by decide +kernel, by decide⟩
set_option maxRecDepth 100000 in
theorem zr_X10_takes : zi_okR zm_X10_takes := ⟨by decide +kernel, zi_gwI 1199 rfl rfl, zi_gwI 76 (by decide +kernel) rfl, by decide +kernel, by decide +kernel, (fun h => by cases h), fun _ => ⟨zi_gwI 1198 (by decide +kernel) rfl, zi_gwI 39 (by decide +kernel) rfl, by decide +kernel⟩, Or.inl ⟨rfl, rfl⟩, by decide +kernel, by decide⟩
set_option maxRecDepth 100000 in
theorem zr_X10_airAt : zi_okR zm_X10_airAt := ⟨by decide +kernel, zi_gwI 1218 rfl rfl, zi_gwI 76 (by decide +kernel) rfl, by decide +kernel, by decide +kernel, (fun h => by cases h), fun _ => ⟨zi_gwI 1217 (by decide +kernel) rfl, zi_gwI 42 (by decide +kernel) rfl, by decide +kernel⟩, Or.inr (Or.inl ⟨rfl, rfl⟩), by decide +kernel, by decide⟩
set_option maxRecDepth 100000 in
theorem zr_X10_last : zi_okR zm_X10_last := ⟨by decide +kernel, zi_gwI 1203 rfl rfl, zi_gwI 76 (by decide +kernel) rfl, by decide +kernel, by decide +kernel, (fun h => by cases h), fun _ => ⟨zi_gwI 1202 (by decide +kernel) rfl, zi_gwI 40 (by decide +kernel) rfl, by decide +kernel⟩, Or.inr (Or.inl ⟨rfl, rfl⟩), by decide +kernel, by decide⟩
set_option maxRecDepth 100000 in
theorem zr_X10_isOver : zi_okR zm_X10_isOver := ⟨by decide +kernel, zi_gwI 1240 rfl rfl, zi_gwI 76 (by decide +kernel) rfl, by decide +kernel, by decide +kernel, (fun h => by cases h), fun _ => ⟨zi_gwI 1239 (by decide +kernel) rfl, zi_gwI 44 (by decide +kernel) rfl, by decide +kernel⟩, Or.inr (Or.inr (Or.inr (Or.inr ⟨rfl, rfl⟩))), by decide +kernel, by decide⟩
set_option maxRecDepth 100000 in
theorem zr_X10_columnBehind : zi_okR zm_X10_columnBehind := ⟨by decide +kernel, zi_gwI 1244 rfl rfl, zi_gwI 76 (by decide +kernel) rfl, by decide +kernel, by decide +kernel, (fun h => by cases h), fun _ => ⟨zi_gwI 1243 (by decide +kernel) rfl, zi_gwI 45 (by decide +kernel) rfl, by decide +kernel⟩, Or.inr (Or.inl ⟨rfl, rfl⟩), by decide +kernel, by decide⟩
set_option maxRecDepth 100000 in
theorem zr_X10_canBeat : zi_okR zm_X10_canBeat := ⟨by decide +kernel, zi_gwI 1236 rfl rfl, zi_gwI 76 (by decide +kernel) rfl, by decide +kernel, by decide +kernel, (fun h => by cases h), fun _ => ⟨zi_gwI 1235 (by decide +kernel) rfl, zi_gwI 43 (by decide +kernel) rfl, by decide +kernel⟩, Or.inr (Or.inr (Or.inr (Or.inr ⟨rfl, rfl⟩))), by decide +kernel, by decide⟩
set_option maxRecDepth 100000 in
theorem zr_X10_costs : zi_okR zm_X10_costs := ⟨by decide +kernel, zi_gwI 1207 rfl rfl, zi_gwI 76 (by decide +kernel) rfl, by decide +kernel, by decide +kernel, (fun h => by cases h), fun _ => ⟨zi_gwI 1206 (by decide +kernel) rfl, zi_gwI 41 (by decide +kernel) rfl, by decide +kernel⟩, Or.inr (Or.inl ⟨rfl, rfl⟩), by decide +kernel, by decide⟩
set_option maxRecDepth 100000 in
theorem zr_X10_moves : zi_okR zm_X10_moves := ⟨by decide +kernel, zi_gwI 1256 rfl rfl, zi_gwI 76 (by decide +kernel) rfl, by decide +kernel, by decide +kernel, (fun h => by cases h), fun _ => ⟨zi_gwI 1255 (by decide +kernel) rfl, zi_gwI 48 (by decide +kernel) rfl, by decide +kernel⟩, Or.inl ⟨rfl, rfl⟩, by decide +kernel, by decide⟩
set_option maxRecDepth 100000 in
theorem zr_X10_settles : zi_okR zm_X10_settles := ⟨by decide +kernel, zi_gwI 1260 rfl rfl, zi_gwI 76 (by decide +kernel) rfl, by decide +kernel, by decide +kernel, (fun h => by cases h), fun _ => ⟨zi_gwI 1259 (by decide +kernel) rfl, zi_gwI 49 (by decide +kernel) rfl, by decide +kernel⟩, Or.inl ⟨rfl, rfl⟩, by decide +kernel, by decide⟩
set_option maxRecDepth 100000 in
theorem zr_X10_beats : zi_okR zm_X10_beats := ⟨by decide +kernel, zi_gwI 1252 rfl rfl, zi_gwI 76 (by decide +kernel) rfl, by decide +kernel, by decide +kernel, (fun h => by cases h), fun _ => ⟨zi_gwI 1251 (by decide +kernel) rfl, zi_gwI 47 (by decide +kernel) rfl, by decide +kernel⟩, Or.inl ⟨rfl, rfl⟩, by decide +kernel, by decide⟩
set_option maxRecDepth 100000 in
theorem zr_X10_mark : zi_okR zm_X10_mark := ⟨by decide +kernel, zi_gwI 1195 rfl rfl, zi_gwI 76 (by decide +kernel) rfl, by decide +kernel, by decide +kernel, (fun h => by cases h), fun _ => ⟨zi_gwI 1193 (by decide +kernel) rfl, zi_gwI 1194 (by decide +kernel) rfl, by decide +kernel⟩, Or.inr (Or.inl ⟨rfl, rfl⟩), by decide +kernel, by decide⟩
set_option maxRecDepth 100000 in
theorem zr_X10_air : zi_okR zm_X10_air := ⟨by decide +kernel, zi_gwI 1214 rfl rfl, zi_gwI 76 (by decide +kernel) rfl, by decide +kernel, by decide +kernel, (fun h => by cases h), fun _ => ⟨zi_gwI 1212 (by decide +kernel) rfl, zi_gwI 1213 (by decide +kernel) rfl, by decide +kernel⟩, Or.inr (Or.inl ⟨rfl, rfl⟩), by decide +kernel, by decide⟩
set_option maxRecDepth 100000 in
theorem zr_X10_sun : zi_okR zm_X10_sun := ⟨by decide +kernel, zi_gwI 1222 rfl rfl, zi_gwI 76 (by decide +kernel) rfl, by decide +kernel, by decide +kernel, (fun h => by cases h), fun _ => ⟨zi_gwI 1220 (by decide +kernel) rfl, zi_gwI 1221 (by decide +kernel) rfl, by decide +kernel⟩, Or.inr (Or.inl ⟨rfl, rfl⟩), by decide +kernel, by decide⟩
set_option maxRecDepth 100000 in
theorem zr_X10_letters : zi_okR zm_X10_letters := ⟨by decide +kernel, zi_gwI 1227 rfl rfl, zi_gwI 76 (by decide +kernel) rfl, by decide +kernel, by decide +kernel, (fun h => by cases h), fun _ => ⟨zi_gwI 1225 (by decide +kernel) rfl, zi_gwI 1226 (by decide +kernel) rfl, by decide +kernel⟩, Or.inr (Or.inl ⟨rfl, rfl⟩), by decide +kernel, by decide⟩
set_option maxRecDepth 100000 in
theorem zr_X10_keeps : zi_okR zm_X10_keeps := ⟨by decide +kernel, zi_gwI 1264 rfl rfl, zi_gwI 76 (by decide +kernel) rfl, by decide +kernel, by decide +kernel, (fun h => by cases h), fun _ => ⟨zi_gwI 1263 (by decide +kernel) rfl, zi_gwI 50 (by decide +kernel) rfl, by decide +kernel⟩, Or.inl ⟨rfl, rfl⟩, by decide +kernel, by decide⟩
set_option maxRecDepth 100000 in
theorem zr_X10_does : zi_okR zm_X10_does := ⟨by decide +kernel, zi_gwI 1248 rfl rfl, zi_gwI 76 (by decide +kernel) rfl, by decide +kernel, by decide +kernel, (fun h => by cases h), fun _ => ⟨zi_gwI 1247 (by decide +kernel) rfl, zi_gwI 46 (by decide +kernel) rfl, by decide +kernel⟩, Or.inl ⟨rfl, rfl⟩, by decide +kernel, by decide⟩
set_option maxRecDepth 100000 in
theorem zr_X10_beat : zi_okR zm_X10_beat := ⟨by decide +kernel, zi_gwI 1231 rfl rfl, zi_gwI 76 (by decide +kernel) rfl, by decide +kernel, by decide +kernel, (fun h => by cases h), fun _ => ⟨zi_gwI 1229 (by decide +kernel) rfl, zi_gwI 1230 (by decide +kernel) rfl, by decide +kernel⟩, Or.inr (Or.inl ⟨rfl, rfl⟩), by decide +kernel, by decide⟩
set_option maxRecDepth 100000 in
theorem zr_X10_undo : zi_okR zm_X10_undo := ⟨by decide +kernel, zi_gwI 1268 rfl rfl, zi_gwI 76 (by decide +kernel) rfl, by decide +kernel, by decide +kernel, (fun h => by cases h), fun _ => ⟨zi_gwI 1266 (by decide +kernel) rfl, zi_gwI 1267 (by decide +kernel) rfl, by decide +kernel⟩, Or.inr (Or.inl ⟨rfl, rfl⟩), by decide +kernel, by decide⟩
set_option maxRecDepth 100000 in
theorem zr_X10_over : zi_okR zm_X10_over := ⟨by decide +kernel, zi_gwI 1272 rfl rfl, zi_gwI 76 (by decide +kernel) rfl, by decide +kernel, by decide +kernel, (fun h => by cases h), fun _ => ⟨zi_gwI 1270 (by decide +kernel) rfl, zi_gwI 1271 (by decide +kernel) rfl, by decide +kernel⟩, Or.inr (Or.inl ⟨rfl, rfl⟩), by decide +kernel, by decide⟩
set_option maxRecDepth 100000 in
theorem zr_X10_can : zi_okR zm_X10_can := ⟨by decide +kernel, zi_gwI 1276 rfl rfl, zi_gwI 76 (by decide +kernel) rfl, by decide +kernel, by decide +kernel, (fun h => by cases h), fun _ => ⟨zi_gwI 1274 (by decide +kernel) rfl, zi_gwI 1275 (by decide +kernel) rfl, by decide +kernel⟩, Or.inr (Or.inl ⟨rfl, rfl⟩), by decide +kernel, by decide⟩
set_option maxRecDepth 100000 in
theorem zr_X10_keep : zi_okR zm_X10_keep := ⟨by decide +kernel, zi_gwI 1280 rfl rfl, zi_gwI 76 (by decide +kernel) rfl, by decide +kernel, by decide +kernel, (fun h => by cases h), fun _ => ⟨zi_gwI 1278 (by decide +kernel) rfl, zi_gwI 1279 (by decide +kernel) rfl, by decide +kernel⟩, Or.inr (Or.inl ⟨rfl, rfl⟩), by decide +kernel, by decide⟩
set_option maxRecDepth 100000 in
theorem zr_X10_on : zi_okR zm_X10_on := ⟨by decide +kernel, zi_gwI 1284 rfl rfl, zi_gwI 76 (by decide +kernel) rfl, by decide +kernel, by decide +kernel, (fun h => by cases h), fun _ => ⟨zi_gwI 1282 (by decide +kernel) rfl, zi_gwI 1283 (by decide +kernel) rfl, by decide +kernel⟩, Or.inr (Or.inl ⟨rfl, rfl⟩), by decide +kernel, by decide⟩
set_option maxRecDepth 100000 in
theorem zr_X10_hasFallen : zi_okR zm_X10_hasFallen := ⟨by decide +kernel, zi_gwI 1292 rfl rfl, zi_gwI 76 (by decide +kernel) rfl, by decide +kernel, by decide +kernel, (fun h => by cases h), fun _ => ⟨zi_gwI 1291 (by decide +kernel) rfl, zi_gwI 51 (by decide +kernel) rfl, by decide +kernel⟩, Or.inr (Or.inr (Or.inr (Or.inr ⟨rfl, rfl⟩))), by decide +kernel, by decide⟩
set_option maxRecDepth 100000 in
theorem zr_X10_areBeats : zi_okR zm_X10_areBeats := ⟨by decide +kernel, zi_gwI 1296 rfl rfl, zi_gwI 76 (by decide +kernel) rfl, by decide +kernel, by decide +kernel, (fun h => by cases h), fun _ => ⟨zi_gwI 1295 (by decide +kernel) rfl, zi_gwI 52 (by decide +kernel) rfl, by decide +kernel⟩, Or.inr (Or.inr (Or.inr (Or.inr ⟨rfl, rfl⟩))), by decide +kernel, by decide⟩
set_option maxRecDepth 100000 in
theorem zr_X10_judge : zi_okR zm_X10_judge := ⟨by decide +kernel, zi_gwI 1288 rfl rfl, zi_gwI 76 (by decide +kernel) rfl, by decide +kernel, by decide +kernel, (fun h => by cases h), fun _ => ⟨zi_gwI 1286 (by decide +kernel) rfl, zi_gwI 1287 (by decide +kernel) rfl, by decide +kernel⟩, Or.inr (Or.inl ⟨rfl, rfl⟩), by decide +kernel, by decide⟩
set_option maxRecDepth 100000 in
theorem zr_X10_goes : zi_okR zm_X10_goes := ⟨by decide +kernel, zi_gwI 1304 rfl rfl, zi_gwI 76 (by decide +kernel) rfl, by decide +kernel, by decide +kernel, (fun h => by cases h), fun _ => ⟨zi_gwI 1303 (by decide +kernel) rfl, zi_gwI 53 (by decide +kernel) rfl, by decide +kernel⟩, Or.inr (Or.inr (Or.inr (Or.inr ⟨rfl, rfl⟩))), by decide +kernel, by decide⟩
set_option maxRecDepth 100000 in
theorem zr_X10_lays : zi_okR zm_X10_lays := ⟨by decide +kernel, zi_gwI 1308 rfl rfl, zi_gwI 76 (by decide +kernel) rfl, by decide +kernel, by decide +kernel, (fun h => by cases h), fun _ => ⟨zi_gwI 1307 (by decide +kernel) rfl, zi_gwI 54 (by decide +kernel) rfl, by decide +kernel⟩, Or.inl ⟨rfl, rfl⟩, by decide +kernel, by decide⟩
set_option maxRecDepth 100000 in
theorem zr_X10_soonest : zi_okR zm_X10_soonest := ⟨by decide +kernel, zi_gwI 1300 rfl rfl, zi_gwI 76 (by decide +kernel) rfl, by decide +kernel, by decide +kernel, (fun h => by cases h), fun _ => ⟨zi_gwI 1298 (by decide +kernel) rfl, zi_gwI 1299 (by decide +kernel) rfl, by decide +kernel⟩, Or.inr (Or.inl ⟨rfl, rfl⟩), by decide +kernel, by decide⟩
set_option maxRecDepth 100000 in
theorem zr_X10_lightest : zi_okR zm_X10_lightest := ⟨by decide +kernel, zi_gwI 1312 rfl rfl, zi_gwI 76 (by decide +kernel) rfl, by decide +kernel, by decide +kernel, (fun h => by cases h), fun _ => ⟨zi_gwI 1310 (by decide +kernel) rfl, zi_gwI 1311 (by decide +kernel) rfl, by decide +kernel⟩, Or.inr (Or.inl ⟨rfl, rfl⟩), by decide +kernel, by decide⟩
set_option maxRecDepth 100000 in
theorem zr_X10_ways : zi_okR zm_X10_ways := ⟨by decide +kernel, zi_gwI 1316 rfl rfl, zi_gwI 76 (by decide +kernel) rfl, by decide +kernel, by decide +kernel, (fun h => by cases h), fun _ => ⟨zi_gwI 1314 (by decide +kernel) rfl, zi_gwI 1315 (by decide +kernel) rfl, by decide +kernel⟩, Or.inr (Or.inl ⟨rfl, rfl⟩), by decide +kernel, by decide⟩
set_option maxRecDepth 100000 in
theorem zr_X10_heights : zi_okR zm_X10_heights := ⟨by decide +kernel, zi_gwI 1320 rfl rfl, zi_gwI 76 (by decide +kernel) rfl, by decide +kernel, by decide +kernel, (fun h => by cases h), fun _ => ⟨zi_gwI 1318 (by decide +kernel) rfl, zi_gwI 1319 (by decide +kernel) rfl, by decide +kernel⟩, Or.inr (Or.inl ⟨rfl, rfl⟩), by decide +kernel, by decide⟩
set_option maxRecDepth 100000 in
theorem zr_X10_nth : zi_okR zm_X10_nth := ⟨by decide +kernel, zi_gwI 1324 rfl rfl, zi_gwI 76 (by decide +kernel) rfl, by decide +kernel, by decide +kernel, (fun h => by cases h), fun _ => ⟨zi_gwI 1322 (by decide +kernel) rfl, zi_gwI 1323 (by decide +kernel) rfl, by decide +kernel⟩, Or.inr (Or.inl ⟨rfl, rfl⟩), by decide +kernel, by decide⟩
set_option maxRecDepth 100000 in
theorem zr_X10_mayGo : zi_okR zm_X10_mayGo := ⟨by decide +kernel, zi_gwI 1336 rfl rfl, zi_gwI 76 (by decide +kernel) rfl, by decide +kernel, by decide +kernel, (fun h => by cases h), fun _ => ⟨zi_gwI 1335 (by decide +kernel) rfl, zi_gwI 56 (by decide +kernel) rfl, by decide +kernel⟩, Or.inr (Or.inr (Or.inr (Or.inr ⟨rfl, rfl⟩))), by decide +kernel, by decide⟩
set_option maxRecDepth 100000 in
theorem zr_X10_least : zi_okR zm_X10_least := ⟨by decide +kernel, zi_gwI 1332 rfl rfl, zi_gwI 76 (by decide +kernel) rfl, by decide +kernel, by decide +kernel, (fun h => by cases h), fun _ => ⟨zi_gwI 1331 (by decide +kernel) rfl, zi_gwI 55 (by decide +kernel) rfl, by decide +kernel⟩, Or.inr (Or.inl ⟨rfl, rfl⟩), by decide +kernel, by decide⟩
set_option maxRecDepth 100000 in
theorem zr_X10_greatest : zi_okR zm_X10_greatest := ⟨by decide +kernel, zi_gwI 1348 rfl rfl, zi_gwI 76 (by decide +kernel) rfl, by decide +kernel, by decide +kernel, (fun h => by cases h), fun _ => ⟨zi_gwI 1347 (by decide +kernel) rfl, zi_gwI 57 (by decide +kernel) rfl, by decide +kernel⟩, Or.inr (Or.inl ⟨rfl, rfl⟩), by decide +kernel, by decide⟩
set_option maxRecDepth 100000 in
theorem zr_X10_wax : zi_okR zm_X10_wax := ⟨by decide +kernel, zi_gwI 1328 rfl rfl, zi_gwI 76 (by decide +kernel) rfl, by decide +kernel, by decide +kernel, (fun h => by cases h), fun _ => ⟨zi_gwI 1326 (by decide +kernel) rfl, zi_gwI 1327 (by decide +kernel) rfl, by decide +kernel⟩, Or.inr (Or.inl ⟨rfl, rfl⟩), by decide +kernel, by decide⟩
set_option maxRecDepth 100000 in
theorem zr_X10_strength : zi_okR zm_X10_strength := ⟨by decide +kernel, zi_gwI 1340 rfl rfl, zi_gwI 76 (by decide +kernel) rfl, by decide +kernel, by decide +kernel, (fun h => by cases h), fun _ => ⟨zi_gwI 1338 (by decide +kernel) rfl, zi_gwI 1339 (by decide +kernel) rfl, by decide +kernel⟩, Or.inr (Or.inl ⟨rfl, rfl⟩), by decide +kernel, by decide⟩
set_option maxRecDepth 100000 in
theorem zr_X10_most : zi_okR zm_X10_most := ⟨by decide +kernel, zi_gwI 1344 rfl rfl, zi_gwI 76 (by decide +kernel) rfl, by decide +kernel, by decide +kernel, (fun h => by cases h), fun _ => ⟨zi_gwI 1342 (by decide +kernel) rfl, zi_gwI 1343 (by decide +kernel) rfl, by decide +kernel⟩, Or.inr (Or.inl ⟨rfl, rfl⟩), by decide +kernel, by decide⟩
set_option maxRecDepth 100000 in
theorem zr_X10_hottest : zi_okR zm_X10_hottest := ⟨by decide +kernel, zi_gwI 1352 rfl rfl, zi_gwI 76 (by decide +kernel) rfl, by decide +kernel, by decide +kernel, (fun h => by cases h), fun _ => ⟨zi_gwI 1350 (by decide +kernel) rfl, zi_gwI 1351 (by decide +kernel) rfl, by decide +kernel⟩, Or.inr (Or.inl ⟨rfl, rfl⟩), by decide +kernel, by decide⟩
set_option maxRecDepth 100000 in
theorem zr_X10_kinds : zi_okR zm_X10_kinds := ⟨by decide +kernel, zi_gwI 1356 rfl rfl, zi_gwI 76 (by decide +kernel) rfl, by decide +kernel, by decide +kernel, (fun h => by cases h), fun _ => ⟨zi_gwI 1354 (by decide +kernel) rfl, zi_gwI 1355 (by decide +kernel) rfl, by decide +kernel⟩, Or.inr (Or.inl ⟨rfl, rfl⟩), by decide +kernel, by decide⟩
set_option maxRecDepth 100000 in
theorem zr_X10_post : zi_okR zm_X10_post := ⟨by decide +kernel, zi_gwI 1360 rfl rfl, zi_gwI 76 (by decide +kernel) rfl, by decide +kernel, by decide +kernel, (fun h => by cases h), fun _ => ⟨zi_gwI 1358 (by decide +kernel) rfl, zi_gwI 1359 (by decide +kernel) rfl, by decide +kernel⟩, Or.inr (Or.inl ⟨rfl, rfl⟩), by decide +kernel, by decide⟩
set_option maxRecDepth 100000 in
theorem zr_X10_lies : zi_okR zm_X10_lies := ⟨by decide +kernel, zi_gwI 1373 rfl rfl, zi_gwI 76 (by decide +kernel) rfl, by decide +kernel, by decide +kernel, (fun h => by cases h), fun _ => ⟨zi_gwI 1372 (by decide +kernel) rfl, zi_gwI 59 (by decide +kernel) rfl, by decide +kernel⟩, Or.inl ⟨rfl, rfl⟩, by decide +kernel, by decide⟩
set_option maxRecDepth 100000 in
theorem zr_X10_stands : zi_okR zm_X10_stands := ⟨by decide +kernel, zi_gwI 1377 rfl rfl, zi_gwI 76 (by decide +kernel) rfl, by decide +kernel, by decide +kernel, (fun h => by cases h), fun _ => ⟨zi_gwI 1376 (by decide +kernel) rfl, zi_gwI 60 (by decide +kernel) rfl, by decide +kernel⟩, Or.inl ⟨rfl, rfl⟩, by decide +kernel, by decide⟩
set_option maxRecDepth 100000 in
theorem zr_X10_twelves : zi_okR zm_X10_twelves := ⟨by decide +kernel, zi_gwI 1380 rfl rfl, zi_gwI 76 (by decide +kernel) rfl, by decide +kernel, by decide +kernel, fun _ => zi_gwI 1379 (by decide +kernel) rfl, (fun h => by cases h), Or.inr (Or.inr (Or.inl ⟨rfl, rfl⟩)), by decide +kernel, by decide⟩
set_option maxRecDepth 100000 in
theorem zr_X10_mayGust : zi_okR zm_X10_mayGust := ⟨by decide +kernel, zi_gwI 1384 rfl rfl, zi_gwI 76 (by decide +kernel) rfl, by decide +kernel, by decide +kernel, (fun h => by cases h), fun _ => ⟨zi_gwI 1383 (by decide +kernel) rfl, zi_gwI 61 (by decide +kernel) rfl, by decide +kernel⟩, Or.inr (Or.inr (Or.inr (Or.inr ⟨rfl, rfl⟩))), by decide +kernel, by decide⟩
set_option maxRecDepth 100000 in
theorem zr_X10_chances : zi_okR zm_X10_chances := ⟨by decide +kernel, zi_gwI 1369 rfl rfl, zi_gwI 76 (by decide +kernel) rfl, by decide +kernel, by decide +kernel, (fun h => by cases h), fun _ => ⟨zi_gwI 1368 (by decide +kernel) rfl, zi_gwI 58 (by decide +kernel) rfl, by decide +kernel⟩, Or.inr (Or.inr (Or.inl ⟨rfl, rfl⟩)), by decide +kernel, by decide⟩
set_option maxRecDepth 100000 in
theorem zr_X10_divisor : zi_okR zm_X10_divisor := ⟨by decide +kernel, zi_gwI 1391 rfl rfl, zi_gwI 76 (by decide +kernel) rfl, by decide +kernel, by decide +kernel, fun _ => zi_gwI 1390 (by decide +kernel) rfl, (fun h => by cases h), Or.inr (Or.inr (Or.inl ⟨rfl, rfl⟩)), by decide +kernel, by decide⟩
set_option maxRecDepth 100000 in
theorem zr_X10_chanceIs : zi_okR zm_X10_chanceIs := ⟨by decide +kernel, zi_gwI 1388 rfl rfl, zi_gwI 76 (by decide +kernel) rfl, by decide +kernel, by decide +kernel, (fun h => by cases h), fun _ => ⟨zi_gwI 1387 (by decide +kernel) rfl, zi_gwI 62 (by decide +kernel) rfl, by decide +kernel⟩, Or.inr (Or.inl ⟨rfl, rfl⟩), by decide +kernel, by decide⟩
set_option maxRecDepth 100000 in
theorem zr_X10_plan : zi_okR zm_X10_plan := ⟨by decide +kernel, zi_gwI 1365 rfl rfl, zi_gwI 76 (by decide +kernel) rfl, by decide +kernel, by decide +kernel, (fun h => by cases h), fun _ => ⟨zi_gwI 1363 (by decide +kernel) rfl, zi_gwI 1364 (by decide +kernel) rfl, by decide +kernel⟩, Or.inr (Or.inl ⟨rfl, rfl⟩), by decide +kernel, by decide⟩
set_option maxRecDepth 100000 in
theorem zr_X10_odds : zi_okR zm_X10_odds := ⟨by decide +kernel, zi_gwI 1395 rfl rfl, zi_gwI 76 (by decide +kernel) rfl, by decide +kernel, by decide +kernel, (fun h => by cases h), fun _ => ⟨zi_gwI 1393 (by decide +kernel) rfl, zi_gwI 1394 (by decide +kernel) rfl, by decide +kernel⟩, Or.inr (Or.inl ⟨rfl, rfl⟩), by decide +kernel, by decide⟩
set_option maxRecDepth 100000 in
theorem zr_X10_choice : zi_okR zm_X10_choice := ⟨by decide +kernel, zi_gwI 1399 rfl rfl, zi_gwI 76 (by decide +kernel) rfl, by decide +kernel, by decide +kernel, (fun h => by cases h), fun _ => ⟨zi_gwI 1397 (by decide +kernel) rfl, zi_gwI 1398 (by decide +kernel) rfl, by decide +kernel⟩, Or.inr (Or.inl ⟨rfl, rfl⟩), by decide +kernel, by decide⟩
set_option maxRecDepth 100000 in
theorem zr_X10_boats : zi_okR zm_X10_boats := ⟨by decide +kernel, zi_gwI 1403 rfl rfl, zi_gwI 76 (by decide +kernel) rfl, by decide +kernel, by decide +kernel, (fun h => by cases h), fun _ => ⟨zi_gwI 1401 (by decide +kernel) rfl, zi_gwI 1402 (by decide +kernel) rfl, by decide +kernel⟩, Or.inr (Or.inl ⟨rfl, rfl⟩), by decide +kernel, by decide⟩
set_option maxRecDepth 100000 in
theorem zr_X10_drip : zi_okR zm_X10_drip := ⟨by decide +kernel, zi_gwI 1408 rfl rfl, zi_gwI 76 (by decide +kernel) rfl, by decide +kernel, by decide +kernel, (fun h => by cases h), fun _ => ⟨zi_gwI 1406 (by decide +kernel) rfl, zi_gwI 1407 (by decide +kernel) rfl, by decide +kernel⟩, Or.inr (Or.inl ⟨rfl, rfl⟩), by decide +kernel, by decide⟩
set_option maxRecDepth 100000 in
theorem zr_X10_feathers : zi_okR zm_X10_feathers := ⟨by decide +kernel, zi_gwI 1412 rfl rfl, zi_gwI 76 (by decide +kernel) rfl, by decide +kernel, by decide +kernel, (fun h => by cases h), fun _ => ⟨zi_gwI 1410 (by decide +kernel) rfl, zi_gwI 1411 (by decide +kernel) rfl, by decide +kernel⟩, Or.inr (Or.inl ⟨rfl, rfl⟩), by decide +kernel, by decide⟩
set_option maxRecDepth 100000 in
theorem zr_X10_lots : zi_okR zm_X10_lots := ⟨by decide +kernel, zi_gwI 1416 rfl rfl, zi_gwI 76 (by decide +kernel) rfl, by decide +kernel, by decide +kernel, (fun h => by cases h), fun _ => ⟨zi_gwI 1414 (by decide +kernel) rfl, zi_gwI 1415 (by decide +kernel) rfl, by decide +kernel⟩, Or.inr (Or.inl ⟨rfl, rfl⟩), by decide +kernel, by decide⟩
set_option maxRecDepth 100000 in
theorem zr_X10_asked : zi_okR zm_X10_asked := ⟨by decide +kernel, zi_gwI 1423 rfl rfl, zi_gwI 76 (by decide +kernel) rfl, by decide +kernel, by decide +kernel, (fun h => by cases h), fun _ => ⟨zi_gwI 1421 (by decide +kernel) rfl, zi_gwI 1422 (by decide +kernel) rfl, by decide +kernel⟩, Or.inr (Or.inl ⟨rfl, rfl⟩), by decide +kernel, by decide⟩
set_option maxRecDepth 100000 in
theorem zr_X10_upper : zi_okR zm_X10_upper := ⟨by decide +kernel, zi_gwI 1427 rfl rfl, zi_gwI 76 (by decide +kernel) rfl, by decide +kernel, by decide +kernel, (fun h => by cases h), fun _ => ⟨zi_gwI 1425 (by decide +kernel) rfl, zi_gwI 1426 (by decide +kernel) rfl, by decide +kernel⟩, Or.inr (Or.inr (Or.inl ⟨rfl, rfl⟩)), by decide +kernel, by decide⟩
set_option maxRecDepth 100000 in
theorem zr_X10_lower : zi_okR zm_X10_lower := ⟨by decide +kernel, zi_gwI 1431 rfl rfl, zi_gwI 76 (by decide +kernel) rfl, by decide +kernel, by decide +kernel, (fun h => by cases h), fun _ => ⟨zi_gwI 1429 (by decide +kernel) rfl, zi_gwI 1430 (by decide +kernel) rfl, by decide +kernel⟩, Or.inr (Or.inr (Or.inl ⟨rfl, rfl⟩)), by decide +kernel, by decide⟩
set_option maxRecDepth 100000 in
theorem zr_X10_countOf : zi_okR zm_X10_countOf := ⟨by decide +kernel, zi_gwI 1440 rfl rfl, zi_gwI 76 (by decide +kernel) rfl, by decide +kernel, by decide +kernel, (fun h => by cases h), fun _ => ⟨zi_gwI 1439 (by decide +kernel) rfl, zi_gwI 63 (by decide +kernel) rfl, by decide +kernel⟩, Or.inr (Or.inl ⟨rfl, rfl⟩), by decide +kernel, by decide⟩
set_option maxRecDepth 100000 in
theorem zr_X10_count : zi_okR zm_X10_count := ⟨by decide +kernel, zi_gwI 1435 rfl rfl, zi_gwI 76 (by decide +kernel) rfl, by decide +kernel, by decide +kernel, (fun h => by cases h), fun _ => ⟨zi_gwI 1433 (by decide +kernel) rfl, zi_gwI 1434 (by decide +kernel) rfl, by decide +kernel⟩, Or.inr (Or.inl ⟨rfl, rfl⟩), by decide +kernel, by decide⟩
set_option maxRecDepth 100000 in
theorem zr_X10_finding : zi_okR zm_X10_finding := ⟨by decide +kernel, zi_gwI 1444 rfl rfl, zi_gwI 76 (by decide +kernel) rfl, by decide +kernel, by decide +kernel, (fun h => by cases h), fun _ => ⟨zi_gwI 1442 (by decide +kernel) rfl, zi_gwI 1443 (by decide +kernel) rfl, by decide +kernel⟩, Or.inr (Or.inl ⟨rfl, rfl⟩), by decide +kernel, by decide⟩
set_option maxRecDepth 100000 in
theorem zr_X10_findings : zi_okR zm_X10_findings := ⟨by decide +kernel, zi_gwI 1448 rfl rfl, zi_gwI 76 (by decide +kernel) rfl, by decide +kernel, by decide +kernel, (fun h => by cases h), fun _ => ⟨zi_gwI 1446 (by decide +kernel) rfl, zi_gwI 1447 (by decide +kernel) rfl, by decide +kernel⟩, Or.inr (Or.inl ⟨rfl, rfl⟩), by decide +kernel, by decide⟩
set_option maxRecDepth 100000 in
theorem zr_X10_digest : zi_okR zm_X10_digest := ⟨by decide +kernel, zi_gwI 1452 rfl rfl, zi_gwI 76 (by decide +kernel) rfl, by decide +kernel, by decide +kernel, (fun h => by cases h), fun _ => ⟨zi_gwI 1450 (by decide +kernel) rfl, zi_gwI 1451 (by decide +kernel) rfl, by decide +kernel⟩, Or.inr (Or.inr (Or.inl ⟨rfl, rfl⟩)), by decide +kernel, by decide⟩
set_option maxRecDepth 100000 in
theorem zr_J6_bitCount_0f7a4 : zi_okR zm_J6_bitCount_0f7a4 := ⟨by decide +kernel, zi_gwI 868 rfl rfl, zi_gwI 78 (by decide +kernel) rfl, by decide +kernel, by decide +kernel, fun _ => zi_gwI 867 (by decide +kernel) rfl, (fun h => by cases h), Or.inr (Or.inl ⟨rfl, rfl⟩), by decide +kernel, by decide⟩
end
section
/-! THE TABLES ARE RIGHT: instructions -/
theorem zd_X0_look : ∀ q ∈ zi_cd zm_X0_look, zi_dk (zi_by zm_X0_look) q = true := by decide +kernel
theorem zd_X0_fill : ∀ q ∈ zi_cd zm_X0_fill, zi_dk (zi_by zm_X0_fill) q = true := by decide +kernel
theorem zd_X0_take : ∀ q ∈ zi_cd zm_X0_take, zi_dk (zi_by zm_X0_take) q = true := by decide +kernel
theorem zd_X1_take : ∀ q ∈ zi_cd zm_X1_take, zi_dk (zi_by zm_X1_take) q = true := by decide +kernel
theorem zd_X1_begin : ∀ q ∈ zi_cd zm_X1_begin, zi_dk (zi_by zm_X1_begin) q = true := by decide +kernel
theorem zd_X1_tell : ∀ q ∈ zi_cd zm_X1_tell, zi_dk (zi_by zm_X1_tell) q = true := by decide +kernel
theorem zd_X2_board : ∀ q ∈ zi_cd zm_X2_board, zi_dk (zi_by zm_X2_board) q = true := by decide +kernel
theorem zd_X2_isOver : ∀ q ∈ zi_cd zm_X2_isOver, zi_dk (zi_by zm_X2_isOver) q = true := by decide +kernel
theorem zd_X2_drips : ∀ q ∈ zi_cd zm_X2_drips, zi_dk (zi_by zm_X2_drips) q = true := by decide +kernel
theorem zd_X2_cost : ∀ q ∈ zi_cd zm_X2_cost, zi_dk (zi_by zm_X2_cost) q = true := by decide +kernel
theorem zd_X2_warmth : ∀ q ∈ zi_cd zm_X2_warmth, zi_dk (zi_by zm_X2_warmth) q = true := by decide +kernel
theorem zd_X2_move : ∀ q ∈ zi_cd zm_X2_move, zi_dk (zi_by zm_X2_move) q = true := by decide +kernel
theorem zd_X2_canSink : ∀ q ∈ zi_cd zm_X2_canSink, zi_dk (zi_by zm_X2_canSink) q = true := by decide +kernel
theorem zd_X2_settle : ∀ q ∈ zi_cd zm_X2_settle, zi_dk (zi_by zm_X2_settle) q = true := by decide +kernel
theorem zd_X2_fly : ∀ q ∈ zi_cd zm_X2_fly, zi_dk (zi_by zm_X2_fly) q = true := by decide +kernel
theorem zd_X3_chanceOf : ∀ q ∈ zi_cd zm_X3_chanceOf, zi_dk (zi_by zm_X3_chanceOf) q = true := by decide +kernel
theorem zd_X3_bestBeat : ∀ q ∈ zi_cd zm_X3_bestBeat, zi_dk (zi_by zm_X3_bestBeat) q = true := by decide +kernel
theorem zd_X3_begin : ∀ q ∈ zi_cd zm_X3_begin, zi_dk (zi_by zm_X3_begin) q = true := by decide +kernel
theorem zd_X3_chance : ∀ q ∈ zi_cd zm_X3_chance, zi_dk (zi_by zm_X3_chance) q = true := by decide +kernel
theorem zd_X3_chanceBy : ∀ q ∈ zi_cd zm_X3_chanceBy, zi_dk (zi_by zm_X3_chanceBy) q = true := by decide +kernel
theorem zd_X3_settledChance : ∀ q ∈ zi_cd zm_X3_settledChance, zi_dk (zi_by zm_X3_settledChance) q = true := by decide +kernel
theorem zd_X4_place : ∀ q ∈ zi_cd zm_X4_place, zi_dk (zi_by zm_X4_place) q = true := by decide +kernel
theorem zd_X4_read : ∀ q ∈ zi_cd zm_X4_read, zi_dk (zi_by zm_X4_read) q = true := by decide +kernel
theorem zd_X4_hand : ∀ q ∈ zi_cd zm_X4_hand, zi_dk (zi_by zm_X4_hand) q = true := by decide +kernel
theorem zd_X4_here : ∀ q ∈ zi_cd zm_X4_here, zi_dk (zi_by zm_X4_here) q = true := by decide +kernel
theorem zd_X4_skipBlanks : ∀ q ∈ zi_cd zm_X4_skipBlanks, zi_dk (zi_by zm_X4_skipBlanks) q = true := by decide +kernel
theorem zd_X4_readLines : ∀ q ∈ zi_cd zm_X4_readLines, zi_dk (zi_by zm_X4_readLines) q = true := by decide +kernel
theorem zd_X4_readLine : ∀ q ∈ zi_cd zm_X4_readLine, zi_dk (zi_by zm_X4_readLine) q = true := by decide +kernel
theorem zd_X4_readSun : ∀ q ∈ zi_cd zm_X4_readSun, zi_dk (zi_by zm_X4_readSun) q = true := by decide +kernel
theorem zd_X4_readFlyers : ∀ q ∈ zi_cd zm_X4_readFlyers, zi_dk (zi_by zm_X4_readFlyers) q = true := by decide +kernel
theorem zd_X4_readFlyer : ∀ q ∈ zi_cd zm_X4_readFlyer, zi_dk (zi_by zm_X4_readFlyer) q = true := by decide +kernel
theorem zd_X4_readEnd : ∀ q ∈ zi_cd zm_X4_readEnd, zi_dk (zi_by zm_X4_readEnd) q = true := by decide +kernel
theorem zd_X4_figureBelow : ∀ q ∈ zi_cd zm_X4_figureBelow, zi_dk (zi_by zm_X4_figureBelow) q = true := by decide +kernel
theorem zd_X4_placeOf : ∀ q ∈ zi_cd zm_X4_placeOf, zi_dk (zi_by zm_X4_placeOf) q = true := by decide +kernel
theorem zd_X5_room : ∀ q ∈ zi_cd zm_X5_room, zi_dk (zi_by zm_X5_room) q = true := by decide +kernel
theorem zd_X5_size : ∀ q ∈ zi_cd zm_X5_size, zi_dk (zi_by zm_X5_size) q = true := by decide +kernel
theorem zd_X5_isThere : ∀ q ∈ zi_cd zm_X5_isThere, zi_dk (zi_by zm_X5_isThere) q = true := by decide +kernel
theorem zd_X5_has : ∀ q ∈ zi_cd zm_X5_has, zi_dk (zi_by zm_X5_has) q = true := by decide +kernel
theorem zd_X5_hasRun : ∀ q ∈ zi_cd zm_X5_hasRun, zi_dk (zi_by zm_X5_hasRun) q = true := by decide +kernel
theorem zd_X5_get : ∀ q ∈ zi_cd zm_X5_get, zi_dk (zi_by zm_X5_get) q = true := by decide +kernel
theorem zd_X5_set : ∀ q ∈ zi_cd zm_X5_set, zi_dk (zi_by zm_X5_set) q = true := by decide +kernel
theorem zd_X5_drop : ∀ q ∈ zi_cd zm_X5_drop, zi_dk (zi_by zm_X5_drop) q = true := by decide +kernel
theorem zd_X5_make : ∀ q ∈ zi_cd zm_X5_make, zi_dk (zi_by zm_X5_make) q = true := by decide +kernel
theorem zd_X5_takeRun : ∀ q ∈ zi_cd zm_X5_takeRun, zi_dk (zi_by zm_X5_takeRun) q = true := by decide +kernel
theorem zd_X5_digestOn : ∀ q ∈ zi_cd zm_X5_digestOn, zi_dk (zi_by zm_X5_digestOn) q = true := by decide +kernel
theorem zd_X6_birdAt : ∀ q ∈ zi_cd zm_X6_birdAt, zi_dk (zi_by zm_X6_birdAt) q = true := by decide +kernel
theorem zd_X6_oldOnes : ∀ q ∈ zi_cd zm_X6_oldOnes, zi_dk (zi_by zm_X6_oldOnes) q = true := by decide +kernel
theorem zd_X6_othersIn : ∀ q ∈ zi_cd zm_X6_othersIn, zi_dk (zi_by zm_X6_othersIn) q = true := by decide +kernel
theorem zd_X6_note : ∀ q ∈ zi_cd zm_X6_note, zi_dk (zi_by zm_X6_note) q = true := by decide +kernel
theorem zd_X6_goBack : ∀ q ∈ zi_cd zm_X6_goBack, zi_dk (zi_by zm_X6_goBack) q = true := by decide +kernel
theorem zd_X6_drop : ∀ q ∈ zi_cd zm_X6_drop, zi_dk (zi_by zm_X6_drop) q = true := by decide +kernel
theorem zd_X6_take : ∀ q ∈ zi_cd zm_X6_take, zi_dk (zi_by zm_X6_take) q = true := by decide +kernel
theorem zd_X7_take : ∀ q ∈ zi_cd zm_X7_take, zi_dk (zi_by zm_X7_take) q = true := by decide +kernel
theorem zd_X8_start : ∀ q ∈ zi_cd zm_X8_start, zi_dk (zi_by zm_X8_start) q = true := by decide +kernel
theorem zd_X8_strengthen : ∀ q ∈ zi_cd zm_X8_strengthen, zi_dk (zi_by zm_X8_strengthen) q = true := by decide +kernel
theorem zd_X8_findNext : ∀ q ∈ zi_cd zm_X8_findNext, zi_dk (zi_by zm_X8_findNext) q = true := by decide +kernel
theorem zd_X8_size : ∀ q ∈ zi_cd zm_X8_size, zi_dk (zi_by zm_X8_size) q = true := by decide +kernel
theorem zd_X8_end : ∀ q ∈ zi_cd zm_X8_end, zi_dk (zi_by zm_X8_end) q = true := by decide +kernel
theorem zd_X8_write : ∀ q ∈ zi_cd zm_X8_write, zi_dk (zi_by zm_X8_write) q = true := by decide +kernel
theorem zd_X8_heightsIn : ∀ q ∈ zi_cd zm_X8_heightsIn, zi_dk (zi_by zm_X8_heightsIn) q = true := by decide +kernel
theorem zd_X8_dripColumns : ∀ q ∈ zi_cd zm_X8_dripColumns, zi_dk (zi_by zm_X8_dripColumns) q = true := by decide +kernel
theorem zd_X9_row : ∀ q ∈ zi_cd zm_X9_row, zi_dk (zi_by zm_X9_row) q = true := by decide +kernel
theorem zd_X9_lay : ∀ q ∈ zi_cd zm_X9_lay, zi_dk (zi_by zm_X9_lay) q = true := by decide +kernel
theorem zd_X9_at : ∀ q ∈ zi_cd zm_X9_at, zi_dk (zi_by zm_X9_at) q = true := by decide +kernel
theorem zd_X9_tear : ∀ q ∈ zi_cd zm_X9_tear, zi_dk (zi_by zm_X9_tear) q = true := by decide +kernel
theorem zd_X9_copy : ∀ q ∈ zi_cd zm_X9_copy, zi_dk (zi_by zm_X9_copy) q = true := by decide +kernel
theorem zd_X9_mean : ∀ q ∈ zi_cd zm_X9_mean, zi_dk (zi_by zm_X9_mean) q = true := by decide +kernel
theorem zd_X9_text : ∀ q ∈ zi_cd zm_X9_text, zi_dk (zi_by zm_X9_text) q = true := by decide +kernel
theorem zd_X9_put : ∀ q ∈ zi_cd zm_X9_put, zi_dk (zi_by zm_X9_put) q = true := by decide +kernel
theorem zd_X9_fault : ∀ q ∈ zi_cd zm_X9_fault, zi_dk (zi_by zm_X9_fault) q = true := by decide +kernel
theorem zd_X9_sky : ∀ q ∈ zi_cd zm_X9_sky, zi_dk (zi_by zm_X9_sky) q = true := by decide +kernel
theorem zd_X9_flyer : ∀ q ∈ zi_cd zm_X9_flyer, zi_dk (zi_by zm_X9_flyer) q = true := by decide +kernel
theorem zd_X9_mark : ∀ q ∈ zi_cd zm_X9_mark, zi_dk (zi_by zm_X9_mark) q = true := by decide +kernel
theorem zd_X9_air : ∀ q ∈ zi_cd zm_X9_air, zi_dk (zi_by zm_X9_air) q = true := by decide +kernel
theorem zd_X9_sun : ∀ q ∈ zi_cd zm_X9_sun, zi_dk (zi_by zm_X9_sun) q = true := by decide +kernel
theorem zd_X9_letters : ∀ q ∈ zi_cd zm_X9_letters, zi_dk (zi_by zm_X9_letters) q = true := by decide +kernel
theorem zd_X9_beat : ∀ q ∈ zi_cd zm_X9_beat, zi_dk (zi_by zm_X9_beat) q = true := by decide +kernel
theorem zd_X9_undo : ∀ q ∈ zi_cd zm_X9_undo, zi_dk (zi_by zm_X9_undo) q = true := by decide +kernel
theorem zd_X9_over : ∀ q ∈ zi_cd zm_X9_over, zi_dk (zi_by zm_X9_over) q = true := by decide +kernel
theorem zd_X9_can : ∀ q ∈ zi_cd zm_X9_can, zi_dk (zi_by zm_X9_can) q = true := by decide +kernel
theorem zd_X9_keep : ∀ q ∈ zi_cd zm_X9_keep, zi_dk (zi_by zm_X9_keep) q = true := by decide +kernel
theorem zd_X9_on : ∀ q ∈ zi_cd zm_X9_on, zi_dk (zi_by zm_X9_on) q = true := by decide +kernel
theorem zd_X9_judge : ∀ q ∈ zi_cd zm_X9_judge, zi_dk (zi_by zm_X9_judge) q = true := by decide +kernel
theorem zd_X9_soonest : ∀ q ∈ zi_cd zm_X9_soonest, zi_dk (zi_by zm_X9_soonest) q = true := by decide +kernel
theorem zd_X9_lightest : ∀ q ∈ zi_cd zm_X9_lightest, zi_dk (zi_by zm_X9_lightest) q = true := by decide +kernel
theorem zd_X9_ways : ∀ q ∈ zi_cd zm_X9_ways, zi_dk (zi_by zm_X9_ways) q = true := by decide +kernel
end
section
/-! THE TABLES ARE RIGHT: instructions -/
theorem zd_X9_heights : ∀ q ∈ zi_cd zm_X9_heights, zi_dk (zi_by zm_X9_heights) q = true := by decide +kernel
theorem zd_X9_nth : ∀ q ∈ zi_cd zm_X9_nth, zi_dk (zi_by zm_X9_nth) q = true := by decide +kernel
theorem zd_X9_wax : ∀ q ∈ zi_cd zm_X9_wax, zi_dk (zi_by zm_X9_wax) q = true := by decide +kernel
theorem zd_X9_strength : ∀ q ∈ zi_cd zm_X9_strength, zi_dk (zi_by zm_X9_strength) q = true := by decide +kernel
theorem zd_X9_most : ∀ q ∈ zi_cd zm_X9_most, zi_dk (zi_by zm_X9_most) q = true := by decide +kernel
theorem zd_X9_hottest : ∀ q ∈ zi_cd zm_X9_hottest, zi_dk (zi_by zm_X9_hottest) q = true := by decide +kernel
theorem zd_X9_kinds : ∀ q ∈ zi_cd zm_X9_kinds, zi_dk (zi_by zm_X9_kinds) q = true := by decide +kernel
theorem zd_X9_post : ∀ q ∈ zi_cd zm_X9_post, zi_dk (zi_by zm_X9_post) q = true := by decide +kernel
theorem zd_X9_plan : ∀ q ∈ zi_cd zm_X9_plan, zi_dk (zi_by zm_X9_plan) q = true := by decide +kernel
theorem zd_X9_odds : ∀ q ∈ zi_cd zm_X9_odds, zi_dk (zi_by zm_X9_odds) q = true := by decide +kernel
theorem zd_X9_choice : ∀ q ∈ zi_cd zm_X9_choice, zi_dk (zi_by zm_X9_choice) q = true := by decide +kernel
theorem zd_X9_boats : ∀ q ∈ zi_cd zm_X9_boats, zi_dk (zi_by zm_X9_boats) q = true := by decide +kernel
theorem zd_X9_drip : ∀ q ∈ zi_cd zm_X9_drip, zi_dk (zi_by zm_X9_drip) q = true := by decide +kernel
theorem zd_X9_feathers : ∀ q ∈ zi_cd zm_X9_feathers, zi_dk (zi_by zm_X9_feathers) q = true := by decide +kernel
theorem zd_X9_lots : ∀ q ∈ zi_cd zm_X9_lots, zi_dk (zi_by zm_X9_lots) q = true := by decide +kernel
theorem zd_X9_asked : ∀ q ∈ zi_cd zm_X9_asked, zi_dk (zi_by zm_X9_asked) q = true := by decide +kernel
theorem zd_X9_upper : ∀ q ∈ zi_cd zm_X9_upper, zi_dk (zi_by zm_X9_upper) q = true := by decide +kernel
theorem zd_X9_lower : ∀ q ∈ zi_cd zm_X9_lower, zi_dk (zi_by zm_X9_lower) q = true := by decide +kernel
theorem zd_X9_count : ∀ q ∈ zi_cd zm_X9_count, zi_dk (zi_by zm_X9_count) q = true := by decide +kernel
theorem zd_X9_finding : ∀ q ∈ zi_cd zm_X9_finding, zi_dk (zi_by zm_X9_finding) q = true := by decide +kernel
theorem zd_X9_findings : ∀ q ∈ zi_cd zm_X9_findings, zi_dk (zi_by zm_X9_findings) q = true := by decide +kernel
theorem zd_X9_digest : ∀ q ∈ zi_cd zm_X9_digest, zi_dk (zi_by zm_X9_digest) q = true := by decide +kernel
theorem zd_X9_rowAt : ∀ q ∈ zi_cd zm_X9_rowAt, zi_dk (zi_by zm_X9_rowAt) q = true := by decide +kernel
theorem zd_X9_textAt : ∀ q ∈ zi_cd zm_X9_textAt, zi_dk (zi_by zm_X9_textAt) q = true := by decide +kernel
theorem zd_X9_madeAnew : ∀ q ∈ zi_cd zm_X9_madeAnew, zi_dk (zi_by zm_X9_madeAnew) q = true := by decide +kernel
theorem zd_X9_refuse : ∀ q ∈ zi_cd zm_X9_refuse, zi_dk (zi_by zm_X9_refuse) q = true := by decide +kernel
theorem zd_X9_tell : ∀ q ∈ zi_cd zm_X9_tell, zi_dk (zi_by zm_X9_tell) q = true := by decide +kernel
theorem zd_X9_isBeat : ∀ q ∈ zi_cd zm_X9_isBeat, zi_dk (zi_by zm_X9_isBeat) q = true := by decide +kernel
theorem zd_X9_isOfKind : ∀ q ∈ zi_cd zm_X9_isOfKind, zi_dk (zi_by zm_X9_isOfKind) q = true := by decide +kernel
theorem zd_X9_holdsBeatsAlone : ∀ q ∈ zi_cd zm_X9_holdsBeatsAlone, zi_dk (zi_by zm_X9_holdsBeatsAlone) q = true := by decide +kernel
theorem zd_X9_perform : ∀ q ∈ zi_cd zm_X9_perform, zi_dk (zi_by zm_X9_perform) q = true := by decide +kernel
theorem zd_X9_openBeats : ∀ q ∈ zi_cd zm_X9_openBeats, zi_dk (zi_by zm_X9_openBeats) q = true := by decide +kernel
theorem zd_X9_bitAt : ∀ q ∈ zi_cd zm_X9_bitAt, zi_dk (zi_by zm_X9_bitAt) q = true := by decide +kernel
theorem zd_X9_setOut : ∀ q ∈ zi_cd zm_X9_setOut, zi_dk (zi_by zm_X9_setOut) q = true := by decide +kernel
theorem zd_X9_hasWay : ∀ q ∈ zi_cd zm_X9_hasWay, zi_dk (zi_by zm_X9_hasWay) q = true := by decide +kernel
theorem zd_X9_loadsOf : ∀ q ∈ zi_cd zm_X9_loadsOf, zi_dk (zi_by zm_X9_loadsOf) q = true := by decide +kernel
theorem zd_X9_shareOf : ∀ q ∈ zi_cd zm_X9_shareOf, zi_dk (zi_by zm_X9_shareOf) q = true := by decide +kernel
theorem zd_X9_carriersOf : ∀ q ∈ zi_cd zm_X9_carriersOf, zi_dk (zi_by zm_X9_carriersOf) q = true := by decide +kernel
theorem zd_X9_writeShares : ∀ q ∈ zi_cd zm_X9_writeShares, zi_dk (zi_by zm_X9_writeShares) q = true := by decide +kernel
theorem zd_X9_hasBoat : ∀ q ∈ zi_cd zm_X9_hasBoat, zi_dk (zi_by zm_X9_hasBoat) q = true := by decide +kernel
theorem zd_X9_farthestFrom : ∀ q ∈ zi_cd zm_X9_farthestFrom, zi_dk (zi_by zm_X9_farthestFrom) q = true := by decide +kernel
theorem zd_X9_tally : ∀ q ∈ zi_cd zm_X9_tally, zi_dk (zi_by zm_X9_tally) q = true := by decide +kernel
theorem zd_X9_thereOf : ∀ q ∈ zi_cd zm_X9_thereOf, zi_dk (zi_by zm_X9_thereOf) q = true := by decide +kernel
theorem zd_X9_keptSkies : ∀ q ∈ zi_cd zm_X9_keptSkies, zi_dk (zi_by zm_X9_keptSkies) q = true := by decide +kernel
theorem zd_X10_in : ∀ q ∈ zi_cd zm_X10_in, zi_dk (zi_by zm_X10_in) q = true := by decide +kernel
theorem zd_X10_more : ∀ q ∈ zi_cd zm_X10_more, zi_dk (zi_by zm_X10_more) q = true := by decide +kernel
theorem zd_X10_finds : ∀ q ∈ zi_cd zm_X10_finds, zi_dk (zi_by zm_X10_finds) q = true := by decide +kernel
theorem zd_X10_tells : ∀ q ∈ zi_cd zm_X10_tells, zi_dk (zi_by zm_X10_tells) q = true := by decide +kernel
theorem zd_X10_isRow : ∀ q ∈ zi_cd zm_X10_isRow, zi_dk (zi_by zm_X10_isRow) q = true := by decide +kernel
theorem zd_X10_isText : ∀ q ∈ zi_cd zm_X10_isText, zi_dk (zi_by zm_X10_isText) q = true := by decide +kernel
theorem zd_X10_isFlyer : ∀ q ∈ zi_cd zm_X10_isFlyer, zi_dk (zi_by zm_X10_isFlyer) q = true := by decide +kernel
theorem zd_X10_row : ∀ q ∈ zi_cd zm_X10_row, zi_dk (zi_by zm_X10_row) q = true := by decide +kernel
theorem zd_X10_lay : ∀ q ∈ zi_cd zm_X10_lay, zi_dk (zi_by zm_X10_lay) q = true := by decide +kernel
theorem zd_X10_at : ∀ q ∈ zi_cd zm_X10_at, zi_dk (zi_by zm_X10_at) q = true := by decide +kernel
theorem zd_X10_tear : ∀ q ∈ zi_cd zm_X10_tear, zi_dk (zi_by zm_X10_tear) q = true := by decide +kernel
theorem zd_X10_copy : ∀ q ∈ zi_cd zm_X10_copy, zi_dk (zi_by zm_X10_copy) q = true := by decide +kernel
theorem zd_X10_mean : ∀ q ∈ zi_cd zm_X10_mean, zi_dk (zi_by zm_X10_mean) q = true := by decide +kernel
theorem zd_X10_text : ∀ q ∈ zi_cd zm_X10_text, zi_dk (zi_by zm_X10_text) q = true := by decide +kernel
theorem zd_X10_put : ∀ q ∈ zi_cd zm_X10_put, zi_dk (zi_by zm_X10_put) q = true := by decide +kernel
theorem zd_X10_sign : ∀ q ∈ zi_cd zm_X10_sign, zi_dk (zi_by zm_X10_sign) q = true := by decide +kernel
theorem zd_X10_isRest : ∀ q ∈ zi_cd zm_X10_isRest, zi_dk (zi_by zm_X10_isRest) q = true := by decide +kernel
theorem zd_X10_airOf : ∀ q ∈ zi_cd zm_X10_airOf, zi_dk (zi_by zm_X10_airOf) q = true := by decide +kernel
theorem zd_X10_kindOf : ∀ q ∈ zi_cd zm_X10_kindOf, zi_dk (zi_by zm_X10_kindOf) q = true := by decide +kernel
theorem zd_X10_isFigure : ∀ q ∈ zi_cd zm_X10_isFigure, zi_dk (zi_by zm_X10_isFigure) q = true := by decide +kernel
theorem zd_X10_readsAir : ∀ q ∈ zi_cd zm_X10_readsAir, zi_dk (zi_by zm_X10_readsAir) q = true := by decide +kernel
theorem zd_X10_readsFlyer : ∀ q ∈ zi_cd zm_X10_readsFlyer, zi_dk (zi_by zm_X10_readsFlyer) q = true := by decide +kernel
theorem zd_X10_reads : ∀ q ∈ zi_cd zm_X10_reads, zi_dk (zi_by zm_X10_reads) q = true := by decide +kernel
theorem zd_X10_faultOf : ∀ q ∈ zi_cd zm_X10_faultOf, zi_dk (zi_by zm_X10_faultOf) q = true := by decide +kernel
theorem zd_X10_fault : ∀ q ∈ zi_cd zm_X10_fault, zi_dk (zi_by zm_X10_fault) q = true := by decide +kernel
theorem zd_X10_sky : ∀ q ∈ zi_cd zm_X10_sky, zi_dk (zi_by zm_X10_sky) q = true := by decide +kernel
end
section
/-! THE TABLES ARE RIGHT: instructions -/
theorem zd_X10_flyer : ∀ q ∈ zi_cd zm_X10_flyer, zi_dk (zi_by zm_X10_flyer) q = true := by decide +kernel
theorem zd_X10_takes : ∀ q ∈ zi_cd zm_X10_takes, zi_dk (zi_by zm_X10_takes) q = true := by decide +kernel
theorem zd_X10_airAt : ∀ q ∈ zi_cd zm_X10_airAt, zi_dk (zi_by zm_X10_airAt) q = true := by decide +kernel
theorem zd_X10_last : ∀ q ∈ zi_cd zm_X10_last, zi_dk (zi_by zm_X10_last) q = true := by decide +kernel
theorem zd_X10_isOver : ∀ q ∈ zi_cd zm_X10_isOver, zi_dk (zi_by zm_X10_isOver) q = true := by decide +kernel
theorem zd_X10_columnBehind : ∀ q ∈ zi_cd zm_X10_columnBehind, zi_dk (zi_by zm_X10_columnBehind) q = true := by decide +kernel
theorem zd_X10_canBeat : ∀ q ∈ zi_cd zm_X10_canBeat, zi_dk (zi_by zm_X10_canBeat) q = true := by decide +kernel
theorem zd_X10_costs : ∀ q ∈ zi_cd zm_X10_costs, zi_dk (zi_by zm_X10_costs) q = true := by decide +kernel
theorem zd_X10_moves : ∀ q ∈ zi_cd zm_X10_moves, zi_dk (zi_by zm_X10_moves) q = true := by decide +kernel
theorem zd_X10_settles : ∀ q ∈ zi_cd zm_X10_settles, zi_dk (zi_by zm_X10_settles) q = true := by decide +kernel
theorem zd_X10_beats : ∀ q ∈ zi_cd zm_X10_beats, zi_dk (zi_by zm_X10_beats) q = true := by decide +kernel
theorem zd_X10_mark : ∀ q ∈ zi_cd zm_X10_mark, zi_dk (zi_by zm_X10_mark) q = true := by decide +kernel
theorem zd_X10_air : ∀ q ∈ zi_cd zm_X10_air, zi_dk (zi_by zm_X10_air) q = true := by decide +kernel
theorem zd_X10_sun : ∀ q ∈ zi_cd zm_X10_sun, zi_dk (zi_by zm_X10_sun) q = true := by decide +kernel
theorem zd_X10_letters : ∀ q ∈ zi_cd zm_X10_letters, zi_dk (zi_by zm_X10_letters) q = true := by decide +kernel
theorem zd_X10_keeps : ∀ q ∈ zi_cd zm_X10_keeps, zi_dk (zi_by zm_X10_keeps) q = true := by decide +kernel
theorem zd_X10_does : ∀ q ∈ zi_cd zm_X10_does, zi_dk (zi_by zm_X10_does) q = true := by decide +kernel
theorem zd_X10_beat : ∀ q ∈ zi_cd zm_X10_beat, zi_dk (zi_by zm_X10_beat) q = true := by decide +kernel
theorem zd_X10_undo : ∀ q ∈ zi_cd zm_X10_undo, zi_dk (zi_by zm_X10_undo) q = true := by decide +kernel
theorem zd_X10_over : ∀ q ∈ zi_cd zm_X10_over, zi_dk (zi_by zm_X10_over) q = true := by decide +kernel
theorem zd_X10_can : ∀ q ∈ zi_cd zm_X10_can, zi_dk (zi_by zm_X10_can) q = true := by decide +kernel
theorem zd_X10_keep : ∀ q ∈ zi_cd zm_X10_keep, zi_dk (zi_by zm_X10_keep) q = true := by decide +kernel
theorem zd_X10_on : ∀ q ∈ zi_cd zm_X10_on, zi_dk (zi_by zm_X10_on) q = true := by decide +kernel
theorem zd_X10_hasFallen : ∀ q ∈ zi_cd zm_X10_hasFallen, zi_dk (zi_by zm_X10_hasFallen) q = true := by decide +kernel
theorem zd_X10_areBeats : ∀ q ∈ zi_cd zm_X10_areBeats, zi_dk (zi_by zm_X10_areBeats) q = true := by decide +kernel
theorem zd_X10_judge : ∀ q ∈ zi_cd zm_X10_judge, zi_dk (zi_by zm_X10_judge) q = true := by decide +kernel
theorem zd_X10_goes : ∀ q ∈ zi_cd zm_X10_goes, zi_dk (zi_by zm_X10_goes) q = true := by decide +kernel
theorem zd_X10_lays : ∀ q ∈ zi_cd zm_X10_lays, zi_dk (zi_by zm_X10_lays) q = true := by decide +kernel
theorem zd_X10_soonest : ∀ q ∈ zi_cd zm_X10_soonest, zi_dk (zi_by zm_X10_soonest) q = true := by decide +kernel
theorem zd_X10_lightest : ∀ q ∈ zi_cd zm_X10_lightest, zi_dk (zi_by zm_X10_lightest) q = true := by decide +kernel
theorem zd_X10_ways : ∀ q ∈ zi_cd zm_X10_ways, zi_dk (zi_by zm_X10_ways) q = true := by decide +kernel
theorem zd_X10_heights : ∀ q ∈ zi_cd zm_X10_heights, zi_dk (zi_by zm_X10_heights) q = true := by decide +kernel
theorem zd_X10_nth : ∀ q ∈ zi_cd zm_X10_nth, zi_dk (zi_by zm_X10_nth) q = true := by decide +kernel
theorem zd_X10_mayGo : ∀ q ∈ zi_cd zm_X10_mayGo, zi_dk (zi_by zm_X10_mayGo) q = true := by decide +kernel
theorem zd_X10_least : ∀ q ∈ zi_cd zm_X10_least, zi_dk (zi_by zm_X10_least) q = true := by decide +kernel
theorem zd_X10_greatest : ∀ q ∈ zi_cd zm_X10_greatest, zi_dk (zi_by zm_X10_greatest) q = true := by decide +kernel
theorem zd_X10_wax : ∀ q ∈ zi_cd zm_X10_wax, zi_dk (zi_by zm_X10_wax) q = true := by decide +kernel
theorem zd_X10_strength : ∀ q ∈ zi_cd zm_X10_strength, zi_dk (zi_by zm_X10_strength) q = true := by decide +kernel
theorem zd_X10_most : ∀ q ∈ zi_cd zm_X10_most, zi_dk (zi_by zm_X10_most) q = true := by decide +kernel
theorem zd_X10_hottest : ∀ q ∈ zi_cd zm_X10_hottest, zi_dk (zi_by zm_X10_hottest) q = true := by decide +kernel
theorem zd_X10_kinds : ∀ q ∈ zi_cd zm_X10_kinds, zi_dk (zi_by zm_X10_kinds) q = true := by decide +kernel
theorem zd_X10_post : ∀ q ∈ zi_cd zm_X10_post, zi_dk (zi_by zm_X10_post) q = true := by decide +kernel
theorem zd_X10_lies : ∀ q ∈ zi_cd zm_X10_lies, zi_dk (zi_by zm_X10_lies) q = true := by decide +kernel
theorem zd_X10_stands : ∀ q ∈ zi_cd zm_X10_stands, zi_dk (zi_by zm_X10_stands) q = true := by decide +kernel
theorem zd_X10_twelves : ∀ q ∈ zi_cd zm_X10_twelves, zi_dk (zi_by zm_X10_twelves) q = true := by decide +kernel
theorem zd_X10_mayGust : ∀ q ∈ zi_cd zm_X10_mayGust, zi_dk (zi_by zm_X10_mayGust) q = true := by decide +kernel
theorem zd_X10_chances : ∀ q ∈ zi_cd zm_X10_chances, zi_dk (zi_by zm_X10_chances) q = true := by decide +kernel
end
section
/-! THE TABLES ARE RIGHT: instructions -/
theorem zd_X10_divisor : ∀ q ∈ zi_cd zm_X10_divisor, zi_dk (zi_by zm_X10_divisor) q = true := by decide +kernel
theorem zd_X10_chanceIs : ∀ q ∈ zi_cd zm_X10_chanceIs, zi_dk (zi_by zm_X10_chanceIs) q = true := by decide +kernel
theorem zd_X10_plan : ∀ q ∈ zi_cd zm_X10_plan, zi_dk (zi_by zm_X10_plan) q = true := by decide +kernel
theorem zd_X10_odds : ∀ q ∈ zi_cd zm_X10_odds, zi_dk (zi_by zm_X10_odds) q = true := by decide +kernel
theorem zd_X10_choice : ∀ q ∈ zi_cd zm_X10_choice, zi_dk (zi_by zm_X10_choice) q = true := by decide +kernel
theorem zd_X10_boats : ∀ q ∈ zi_cd zm_X10_boats, zi_dk (zi_by zm_X10_boats) q = true := by decide +kernel
theorem zd_X10_drip : ∀ q ∈ zi_cd zm_X10_drip, zi_dk (zi_by zm_X10_drip) q = true := by decide +kernel
theorem zd_X10_feathers : ∀ q ∈ zi_cd zm_X10_feathers, zi_dk (zi_by zm_X10_feathers) q = true := by decide +kernel
theorem zd_X10_lots : ∀ q ∈ zi_cd zm_X10_lots, zi_dk (zi_by zm_X10_lots) q = true := by decide +kernel
theorem zd_X10_asked : ∀ q ∈ zi_cd zm_X10_asked, zi_dk (zi_by zm_X10_asked) q = true := by decide +kernel
theorem zd_X10_upper : ∀ q ∈ zi_cd zm_X10_upper, zi_dk (zi_by zm_X10_upper) q = true := by decide +kernel
theorem zd_X10_lower : ∀ q ∈ zi_cd zm_X10_lower, zi_dk (zi_by zm_X10_lower) q = true := by decide +kernel
theorem zd_X10_countOf : ∀ q ∈ zi_cd zm_X10_countOf, zi_dk (zi_by zm_X10_countOf) q = true := by decide +kernel
theorem zd_X10_count : ∀ q ∈ zi_cd zm_X10_count, zi_dk (zi_by zm_X10_count) q = true := by decide +kernel
theorem zd_X10_finding : ∀ q ∈ zi_cd zm_X10_finding, zi_dk (zi_by zm_X10_finding) q = true := by decide +kernel
theorem zd_X10_findings : ∀ q ∈ zi_cd zm_X10_findings, zi_dk (zi_by zm_X10_findings) q = true := by decide +kernel
theorem zd_X10_digest : ∀ q ∈ zi_cd zm_X10_digest, zi_dk (zi_by zm_X10_digest) q = true := by decide +kernel
theorem zd_J6_bitCount_0f7a4 : ∀ q ∈ zi_cd zm_J6_bitCount_0f7a4, zi_dk (zi_by zm_J6_bitCount_0f7a4) q = true := by decide +kernel
theorem zd_L_law : ∀ q ∈ zi_cd zm_L_law, zi_dk (zi_by zm_L_law) q = true := by decide +kernel
end
section
/-! THE TABLES ARE RIGHT: all methods, their links -/
def zi_okA (r : zi_R) : Prop := zi_okR r ∧ ∀ q ∈ zi_cd r, zi_dk (zi_by r) q = true
def zi_okM (w : Nat) (e : Nat × zi_R × Bool × Nat × Nat) : Prop := zi_okA e.2.1 ∧ (e.2.2.1 = false → Cond.methodLink (zi_cn w) e.1 (zi_y e.2.1) ∈ zi_gw) ∧ (e.2.2.1 = true → Cond.methodLinkNest (zi_cn w) e.1 (zi_y e.2.1) "WaxWings" ∈ lw_tbl)
theorem zl_1_16 : zi_okM 1 (16, zm_X7_take, false, 570, 52) := ⟨⟨zr_X7_take, zd_X7_take⟩, fun _ => zi_gwI 570 (by decide +kernel) rfl, (fun h => by cases h)⟩
set_option maxRecDepth 100000 in
theorem zl_w1 : ∀ e ∈ (zi_at zi_lks 1).getD [], zi_okM 1 e := List.forall_mem_cons.mpr ⟨zl_1_16, fun _ h => absurd h List.not_mem_nil⟩
theorem zl_2_85 : zi_okM 2 (85, zm_X2_move, false, 643, 11) := ⟨⟨zr_X2_move, zd_X2_move⟩, fun _ => zi_gwI 643 (by decide +kernel) rfl, (fun h => by cases h)⟩
theorem zl_2_55 : zi_okM 2 (55, zm_X2_isOver, false, 647, 7) := ⟨⟨zr_X2_isOver, zd_X2_isOver⟩, fun _ => zi_gwI 647 (by decide +kernel) rfl, (fun h => by cases h)⟩
theorem zl_2_62 : zi_okM 2 (62, zm_X0_look, false, 651, 0) := ⟨⟨zr_X0_look, zd_X0_look⟩, fun _ => zi_gwI 651 (by decide +kernel) rfl, (fun h => by cases h)⟩
theorem zl_2_68 : zi_okM 2 (68, zm_X7_take, false, 653, 52) := ⟨⟨zr_X7_take, zd_X7_take⟩, fun _ => zi_gwI 653 (by decide +kernel) rfl, (fun h => by cases h)⟩
theorem zl_2_75 : zi_okM 2 (75, zm_X2_cost, false, 654, 9) := ⟨⟨zr_X2_cost, zd_X2_cost⟩, fun _ => zi_gwI 654 (by decide +kernel) rfl, (fun h => by cases h)⟩
theorem zl_2_89 : zi_okM 2 (89, zm_X2_settle, false, 655, 13) := ⟨⟨zr_X2_settle, zd_X2_settle⟩, fun _ => zi_gwI 655 (by decide +kernel) rfl, (fun h => by cases h)⟩
theorem zl_2_79 : zi_okM 2 (79, zm_X2_warmth, false, 659, 10) := ⟨⟨zr_X2_warmth, zd_X2_warmth⟩, fun _ => zi_gwI 659 (by decide +kernel) rfl, (fun h => by cases h)⟩
set_option maxRecDepth 100000 in
theorem zl_w2 : ∀ e ∈ (zi_at zi_lks 2).getD [], zi_okM 2 e := List.forall_mem_cons.mpr ⟨zl_2_85, List.forall_mem_cons.mpr ⟨zl_2_55, List.forall_mem_cons.mpr ⟨zl_2_62, List.forall_mem_cons.mpr ⟨zl_2_68, List.forall_mem_cons.mpr ⟨zl_2_75, List.forall_mem_cons.mpr ⟨zl_2_89, List.forall_mem_cons.mpr ⟨zl_2_79, fun _ h => absurd h List.not_mem_nil⟩⟩⟩⟩⟩⟩⟩
theorem zl_3_22 : zi_okM 3 (22, zm_X3_begin, false, 821, 17) := ⟨⟨zr_X3_begin, zd_X3_begin⟩, fun _ => zi_gwI 821 (by decide +kernel) rfl, (fun h => by cases h)⟩
theorem zl_3_40 : zi_okM 3 (40, zm_X7_take, false, 825, 52) := ⟨⟨zr_X7_take, zd_X7_take⟩, fun _ => zi_gwI 825 (by decide +kernel) rfl, (fun h => by cases h)⟩
theorem zl_3_26 : zi_okM 3 (26, zm_X3_chance, false, 826, 18) := ⟨⟨zr_X3_chance, zd_X3_chance⟩, fun _ => zi_gwI 826 (by decide +kernel) rfl, (fun h => by cases h)⟩
theorem zl_3_30 : zi_okM 3 (30, zm_X2_isOver, false, 830, 7) := ⟨⟨zr_X2_isOver, zd_X2_isOver⟩, fun _ => zi_gwI 830 (by decide +kernel) rfl, (fun h => by cases h)⟩
theorem zl_3_56 : zi_okM 3 (56, zm_X5_has, false, 832, 37) := ⟨⟨zr_X5_has, zd_X5_has⟩, fun _ => zi_gwI 832 (by decide +kernel) rfl, (fun h => by cases h)⟩
theorem zl_3_62 : zi_okM 3 (62, zm_X5_get, false, 833, 39) := ⟨⟨zr_X5_get, zd_X5_get⟩, fun _ => zi_gwI 833 (by decide +kernel) rfl, (fun h => by cases h)⟩
theorem zl_3_36 : zi_okM 3 (36, zm_X3_chanceBy, false, 834, 19) := ⟨⟨zr_X3_chanceBy, zd_X3_chanceBy⟩, fun _ => zi_gwI 834 (by decide +kernel) rfl, (fun h => by cases h)⟩
theorem zl_3_70 : zi_okM 3 (70, zm_X2_move, false, 838, 11) := ⟨⟨zr_X2_move, zd_X2_move⟩, fun _ => zi_gwI 838 (by decide +kernel) rfl, (fun h => by cases h)⟩
theorem zl_3_74 : zi_okM 3 (74, zm_X2_canSink, false, 839, 12) := ⟨⟨zr_X2_canSink, zd_X2_canSink⟩, fun _ => zi_gwI 839 (by decide +kernel) rfl, (fun h => by cases h)⟩
theorem zl_3_77 : zi_okM 3 (77, zm_X3_settledChance, false, 843, 20) := ⟨⟨zr_X3_settledChance, zd_X3_settledChance⟩, fun _ => zi_gwI 843 (by decide +kernel) rfl, (fun h => by cases h)⟩
theorem zl_3_83 : zi_okM 3 (83, zm_X2_settle, false, 847, 13) := ⟨⟨zr_X2_settle, zd_X2_settle⟩, fun _ => zi_gwI 847 (by decide +kernel) rfl, (fun h => by cases h)⟩
set_option maxRecDepth 100000 in
theorem zl_w3 : ∀ e ∈ (zi_at zi_lks 3).getD [], zi_okM 3 e := List.forall_mem_cons.mpr ⟨zl_3_22, List.forall_mem_cons.mpr ⟨zl_3_40, List.forall_mem_cons.mpr ⟨zl_3_26, List.forall_mem_cons.mpr ⟨zl_3_30, List.forall_mem_cons.mpr ⟨zl_3_56, List.forall_mem_cons.mpr ⟨zl_3_62, List.forall_mem_cons.mpr ⟨zl_3_36, List.forall_mem_cons.mpr ⟨zl_3_70, List.forall_mem_cons.mpr ⟨zl_3_74, List.forall_mem_cons.mpr ⟨zl_3_77, List.forall_mem_cons.mpr ⟨zl_3_83, fun _ h => absurd h List.not_mem_nil⟩⟩⟩⟩⟩⟩⟩⟩⟩⟩⟩
theorem zl_4_33 : zi_okM 4 (33, zm_X4_skipBlanks, false, 489, 25) := ⟨⟨zr_X4_skipBlanks, zd_X4_skipBlanks⟩, fun _ => zi_gwI 489 (by decide +kernel) rfl, (fun h => by cases h)⟩
theorem zl_4_66 : zi_okM 4 (66, zm_X4_here, false, 493, 24) := ⟨⟨zr_X4_here, zd_X4_here⟩, fun _ => zi_gwI 493 (by decide +kernel) rfl, (fun h => by cases h)⟩
theorem zl_4_56 : zi_okM 4 (56, zm_X5_has, false, 497, 37) := ⟨⟨zr_X5_has, zd_X5_has⟩, fun _ => zi_gwI 497 (by decide +kernel) rfl, (fun h => by cases h)⟩
theorem zl_4_62 : zi_okM 4 (62, zm_X5_get, false, 498, 39) := ⟨⟨zr_X5_get, zd_X5_get⟩, fun _ => zi_gwI 498 (by decide +kernel) rfl, (fun h => by cases h)⟩
theorem zl_4_36 : zi_okM 4 (36, zm_X4_readLines, false, 499, 26) := ⟨⟨zr_X4_readLines, zd_X4_readLines⟩, fun _ => zi_gwI 499 (by decide +kernel) rfl, (fun h => by cases h)⟩
theorem zl_4_76 : zi_okM 4 (76, zm_X4_readLine, false, 503, 27) := ⟨⟨zr_X4_readLine, zd_X4_readLine⟩, fun _ => zi_gwI 503 (by decide +kernel) rfl, (fun h => by cases h)⟩
theorem zl_4_83 : zi_okM 4 (83, zm_X4_placeOf, false, 509, 33) := ⟨⟨zr_X4_placeOf, zd_X4_placeOf⟩, fun _ => zi_gwI 509 (by decide +kernel) rfl, (fun h => by cases h)⟩
theorem zl_4_87 : zi_okM 4 (87, zm_X0_fill, false, 512, 1) := ⟨⟨zr_X0_fill, zd_X0_fill⟩, fun _ => zi_gwI 512 (by decide +kernel) rfl, (fun h => by cases h)⟩
theorem zl_4_40 : zi_okM 4 (40, zm_X4_readSun, false, 516, 28) := ⟨⟨zr_X4_readSun, zd_X4_readSun⟩, fun _ => zi_gwI 516 (by decide +kernel) rfl, (fun h => by cases h)⟩
theorem zl_4_91 : zi_okM 4 (91, zm_X4_figureBelow, false, 520, 32) := ⟨⟨zr_X4_figureBelow, zd_X4_figureBelow⟩, fun _ => zi_gwI 520 (by decide +kernel) rfl, (fun h => by cases h)⟩
theorem zl_4_43 : zi_okM 4 (43, zm_X4_readFlyers, false, 524, 29) := ⟨⟨zr_X4_readFlyers, zd_X4_readFlyers⟩, fun _ => zi_gwI 524 (by decide +kernel) rfl, (fun h => by cases h)⟩
theorem zl_4_103 : zi_okM 4 (103, zm_X4_readFlyer, false, 530, 30) := ⟨⟨zr_X4_readFlyer, zd_X4_readFlyer⟩, fun _ => zi_gwI 530 (by decide +kernel) rfl, (fun h => by cases h)⟩
theorem zl_4_107 : zi_okM 4 (107, zm_X0_look, false, 534, 0) := ⟨⟨zr_X0_look, zd_X0_look⟩, fun _ => zi_gwI 534 (by decide +kernel) rfl, (fun h => by cases h)⟩
theorem zl_4_115 : zi_okM 4 (115, zm_X1_begin, false, 538, 4) := ⟨⟨zr_X1_begin, zd_X1_begin⟩, fun _ => zi_gwI 538 (by decide +kernel) rfl, (fun h => by cases h)⟩
theorem zl_4_46 : zi_okM 4 (46, zm_X4_readEnd, false, 542, 31) := ⟨⟨zr_X4_readEnd, zd_X4_readEnd⟩, fun _ => zi_gwI 542 (by decide +kernel) rfl, (fun h => by cases h)⟩
theorem zl_4_49 : zi_okM 4 (49, zm_X0_take, false, 558, 2) := ⟨⟨zr_X0_take, zd_X0_take⟩, fun _ => zi_gwI 558 (by decide +kernel) rfl, (fun h => by cases h)⟩
theorem zl_4_53 : zi_okM 4 (53, zm_X6_take, false, 562, 51) := ⟨⟨zr_X6_take, zd_X6_take⟩, fun _ => zi_gwI 562 (by decide +kernel) rfl, (fun h => by cases h)⟩
set_option maxRecDepth 100000 in
theorem zl_w4 : ∀ e ∈ (zi_at zi_lks 4).getD [], zi_okM 4 e := List.forall_mem_cons.mpr ⟨zl_4_33, List.forall_mem_cons.mpr ⟨zl_4_66, List.forall_mem_cons.mpr ⟨zl_4_56, List.forall_mem_cons.mpr ⟨zl_4_62, List.forall_mem_cons.mpr ⟨zl_4_36, List.forall_mem_cons.mpr ⟨zl_4_76, List.forall_mem_cons.mpr ⟨zl_4_83, List.forall_mem_cons.mpr ⟨zl_4_87, List.forall_mem_cons.mpr ⟨zl_4_40, List.forall_mem_cons.mpr ⟨zl_4_91, List.forall_mem_cons.mpr ⟨zl_4_43, List.forall_mem_cons.mpr ⟨zl_4_103, List.forall_mem_cons.mpr ⟨zl_4_107, List.forall_mem_cons.mpr ⟨zl_4_115, List.forall_mem_cons.mpr ⟨zl_4_46, List.forall_mem_cons.mpr ⟨zl_4_49, List.forall_mem_cons.mpr ⟨zl_4_53, fun _ h => absurd h List.not_mem_nil⟩⟩⟩⟩⟩⟩⟩⟩⟩⟩⟩⟩⟩⟩⟩⟩⟩
theorem zl_5_23 : zi_okM 5 (23, zm_X5_has, false, 432, 37) := ⟨⟨zr_X5_has, zd_X5_has⟩, fun _ => zi_gwI 432 (by decide +kernel) rfl, (fun h => by cases h)⟩
theorem zl_5_30 : zi_okM 5 (30, zm_X5_hasRun, false, 457, 38) := ⟨⟨zr_X5_hasRun, zd_X5_hasRun⟩, fun _ => zi_gwI 457 (by decide +kernel) rfl, (fun h => by cases h)⟩
theorem zl_5_42 : zi_okM 5 (42, zm_X5_get, false, 961, 39) := ⟨⟨zr_X5_get, zd_X5_get⟩, fun _ => zi_gwI 961 (by decide +kernel) rfl, (fun h => by cases h)⟩
set_option maxRecDepth 100000 in
theorem zl_w5 : ∀ e ∈ (zi_at zi_lks 5).getD [], zi_okM 5 e := List.forall_mem_cons.mpr ⟨zl_5_23, List.forall_mem_cons.mpr ⟨zl_5_30, List.forall_mem_cons.mpr ⟨zl_5_42, fun _ h => absurd h List.not_mem_nil⟩⟩⟩
theorem zl_6_71 : zi_okM 6 (71, zm_X1_take, false, 566, 3) := ⟨⟨zr_X1_take, zd_X1_take⟩, fun _ => zi_gwI 566 (by decide +kernel) rfl, (fun h => by cases h)⟩
theorem zl_6_50 : zi_okM 6 (50, zm_X7_take, false, 574, 52) := ⟨⟨zr_X7_take, zd_X7_take⟩, fun _ => zi_gwI 574 (by decide +kernel) rfl, (fun h => by cases h)⟩
theorem zl_6_60 : zi_okM 6 (60, zm_X6_birdAt, false, 674, 45) := ⟨⟨zr_X6_birdAt, zd_X6_birdAt⟩, fun _ => zi_gwI 674 (by decide +kernel) rfl, (fun h => by cases h)⟩
theorem zl_6_36 : zi_okM 6 (36, zm_X9_isOfKind, true, 934, 114) := ⟨⟨zr_X9_isOfKind, zd_X9_isOfKind⟩, (fun h => by cases h), fun _ => List.mem_of_getElem? (i := 934) (by decide +kernel)⟩
set_option maxRecDepth 100000 in
theorem zl_w6 : ∀ e ∈ (zi_at zi_lks 6).getD [], zi_okM 6 e := List.forall_mem_cons.mpr ⟨zl_6_71, List.forall_mem_cons.mpr ⟨zl_6_50, List.forall_mem_cons.mpr ⟨zl_6_60, List.forall_mem_cons.mpr ⟨zl_6_36, fun _ h => absurd h List.not_mem_nil⟩⟩⟩⟩
theorem zl_8_26 : zi_okM 8 (26, zm_X7_take, false, 716, 52) := ⟨⟨zr_X7_take, zd_X7_take⟩, fun _ => zi_gwI 716 (by decide +kernel) rfl, (fun h => by cases h)⟩
theorem zl_8_41 : zi_okM 8 (41, zm_X2_isOver, false, 721, 7) := ⟨⟨zr_X2_isOver, zd_X2_isOver⟩, fun _ => zi_gwI 721 (by decide +kernel) rfl, (fun h => by cases h)⟩
theorem zl_8_48 : zi_okM 8 (48, zm_X2_fly, false, 723, 14) := ⟨⟨zr_X2_fly, zd_X2_fly⟩, fun _ => zi_gwI 723 (by decide +kernel) rfl, (fun h => by cases h)⟩
theorem zl_8_61 : zi_okM 8 (61, zm_X8_size, false, 734, 56) := ⟨⟨zr_X8_size, zd_X8_size⟩, fun _ => zi_gwI 734 (by decide +kernel) rfl, (fun h => by cases h)⟩
theorem zl_8_65 : zi_okM 8 (65, zm_X5_make, false, 735, 42) := ⟨⟨zr_X5_make, zd_X5_make⟩, fun _ => zi_gwI 735 (by decide +kernel) rfl, (fun h => by cases h)⟩
theorem zl_8_71 : zi_okM 8 (71, zm_X5_set, false, 736, 40) := ⟨⟨zr_X5_set, zd_X5_set⟩, fun _ => zi_gwI 736 (by decide +kernel) rfl, (fun h => by cases h)⟩
theorem zl_8_80 : zi_okM 8 (80, zm_X2_drips, false, 900, 8) := ⟨⟨zr_X2_drips, zd_X2_drips⟩, fun _ => zi_gwI 900 (by decide +kernel) rfl, (fun h => by cases h)⟩
set_option maxRecDepth 100000 in
theorem zl_w8 : ∀ e ∈ (zi_at zi_lks 8).getD [], zi_okM 8 e := List.forall_mem_cons.mpr ⟨zl_8_26, List.forall_mem_cons.mpr ⟨zl_8_41, List.forall_mem_cons.mpr ⟨zl_8_48, List.forall_mem_cons.mpr ⟨zl_8_61, List.forall_mem_cons.mpr ⟨zl_8_65, List.forall_mem_cons.mpr ⟨zl_8_71, List.forall_mem_cons.mpr ⟨zl_8_80, fun _ h => absurd h List.not_mem_nil⟩⟩⟩⟩⟩⟩⟩
theorem zl_9_89 : zi_okM 9 (89, zm_X9_rowAt, false, 389, 108) := ⟨⟨zr_X9_rowAt, zd_X9_rowAt⟩, fun _ => zi_gwI 389 (by decide +kernel) rfl, (fun h => by cases h)⟩
theorem zl_9_93 : zi_okM 9 (93, zm_X9_madeAnew, false, 393, 110) := ⟨⟨zr_X9_madeAnew, zd_X9_madeAnew⟩, fun _ => zi_gwI 393 (by decide +kernel) rfl, (fun h => by cases h)⟩
theorem zl_9_354 : zi_okM 9 (354, zm_X5_room, false, 397, 34) := ⟨⟨zr_X5_room, zd_X5_room⟩, fun _ => zi_gwI 397 (by decide +kernel) rfl, (fun h => by cases h)⟩
theorem zl_9_101 : zi_okM 9 (101, zm_X9_refuse, false, 401, 111) := ⟨⟨zr_X9_refuse, zd_X9_refuse⟩, fun _ => zi_gwI 401 (by decide +kernel) rfl, (fun h => by cases h)⟩
theorem zl_9_315 : zi_okM 9 (315, zm_X5_make, false, 405, 42) := ⟨⟨zr_X5_make, zd_X5_make⟩, fun _ => zi_gwI 405 (by decide +kernel) rfl, (fun h => by cases h)⟩
theorem zl_9_97 : zi_okM 9 (97, zm_X5_isThere, false, 416, 36) := ⟨⟨zr_X5_isThere, zd_X5_isThere⟩, fun _ => zi_gwI 416 (by decide +kernel) rfl, (fun h => by cases h)⟩
theorem zl_9_105 : zi_okM 9 (105, zm_X5_has, false, 420, 37) := ⟨⟨zr_X5_has, zd_X5_has⟩, fun _ => zi_gwI 420 (by decide +kernel) rfl, (fun h => by cases h)⟩
theorem zl_9_109 : zi_okM 9 (109, zm_X5_get, false, 424, 39) := ⟨⟨zr_X5_get, zd_X5_get⟩, fun _ => zi_gwI 424 (by decide +kernel) rfl, (fun h => by cases h)⟩
theorem zl_9_116 : zi_okM 9 (116, zm_X5_set, false, 428, 40) := ⟨⟨zr_X5_set, zd_X5_set⟩, fun _ => zi_gwI 428 (by decide +kernel) rfl, (fun h => by cases h)⟩
theorem zl_9_120 : zi_okM 9 (120, zm_X5_drop, false, 441, 41) := ⟨⟨zr_X5_drop, zd_X5_drop⟩, fun _ => zi_gwI 441 (by decide +kernel) rfl, (fun h => by cases h)⟩
theorem zl_9_123 : zi_okM 9 (123, zm_X5_hasRun, false, 449, 38) := ⟨⟨zr_X5_hasRun, zd_X5_hasRun⟩, fun _ => zi_gwI 449 (by decide +kernel) rfl, (fun h => by cases h)⟩
theorem zl_9_127 : zi_okM 9 (127, zm_X5_takeRun, false, 453, 43) := ⟨⟨zr_X5_takeRun, zd_X5_takeRun⟩, fun _ => zi_gwI 453 (by decide +kernel) rfl, (fun h => by cases h)⟩
theorem zl_9_131 : zi_okM 9 (131, zm_X5_size, false, 465, 35) := ⟨⟨zr_X5_size, zd_X5_size⟩, fun _ => zi_gwI 465 (by decide +kernel) rfl, (fun h => by cases h)⟩
theorem zl_9_135 : zi_okM 9 (135, zm_X9_textAt, false, 473, 109) := ⟨⟨zr_X9_textAt, zd_X9_textAt⟩, fun _ => zi_gwI 473 (by decide +kernel) rfl, (fun h => by cases h)⟩
theorem zl_9_138 : zi_okM 9 (138, zm_X4_read, false, 485, 22) := ⟨⟨zr_X4_read, zd_X4_read⟩, fun _ => zi_gwI 485 (by decide +kernel) rfl, (fun h => by cases h)⟩
theorem zl_9_142 : zi_okM 9 (142, zm_X4_place, false, 546, 21) := ⟨⟨zr_X4_place, zd_X4_place⟩, fun _ => zi_gwI 546 (by decide +kernel) rfl, (fun h => by cases h)⟩
theorem zl_9_145 : zi_okM 9 (145, zm_X4_hand, false, 554, 23) := ⟨⟨zr_X4_hand, zd_X4_hand⟩, fun _ => zi_gwI 554 (by decide +kernel) rfl, (fun h => by cases h)⟩
theorem zl_9_149 : zi_okM 9 (149, zm_X6_drop, false, 575, 50) := ⟨⟨zr_X6_drop, zd_X6_drop⟩, fun _ => zi_gwI 575 (by decide +kernel) rfl, (fun h => by cases h)⟩
theorem zl_9_153 : zi_okM 9 (153, zm_X6_birdAt, false, 583, 45) := ⟨⟨zr_X6_birdAt, zd_X6_birdAt⟩, fun _ => zi_gwI 583 (by decide +kernel) rfl, (fun h => by cases h)⟩
theorem zl_9_157 : zi_okM 9 (157, zm_X1_tell, false, 587, 5) := ⟨⟨zr_X1_tell, zd_X1_tell⟩, fun _ => zi_gwI 587 (by decide +kernel) rfl, (fun h => by cases h)⟩
theorem zl_9_165 : zi_okM 9 (165, zm_X9_isOfKind, false, 595, 114) := ⟨⟨zr_X9_isOfKind, zd_X9_isOfKind⟩, fun _ => zi_gwI 595 (by decide +kernel) rfl, (fun h => by cases h)⟩
theorem zl_9_171 : zi_okM 9 (171, zm_X2_board, false, 598, 6) := ⟨⟨zr_X2_board, zd_X2_board⟩, fun _ => zi_gwI 598 (by decide +kernel) rfl, (fun h => by cases h)⟩
theorem zl_9_175 : zi_okM 9 (175, zm_X2_cost, false, 602, 9) := ⟨⟨zr_X2_cost, zd_X2_cost⟩, fun _ => zi_gwI 602 (by decide +kernel) rfl, (fun h => by cases h)⟩
theorem zl_9_181 : zi_okM 9 (181, zm_X2_warmth, false, 607, 10) := ⟨⟨zr_X2_warmth, zd_X2_warmth⟩, fun _ => zi_gwI 607 (by decide +kernel) rfl, (fun h => by cases h)⟩
theorem zl_9_193 : zi_okM 9 (193, zm_X6_othersIn, false, 611, 47) := ⟨⟨zr_X6_othersIn, zd_X6_othersIn⟩, fun _ => zi_gwI 611 (by decide +kernel) rfl, (fun h => by cases h)⟩
theorem zl_9_197 : zi_okM 9 (197, zm_X0_look, false, 619, 0) := ⟨⟨zr_X0_look, zd_X0_look⟩, fun _ => zi_gwI 619 (by decide +kernel) rfl, (fun h => by cases h)⟩
theorem zl_9_203 : zi_okM 9 (203, zm_X9_isBeat, false, 632, 113) := ⟨⟨zr_X9_isBeat, zd_X9_isBeat⟩, fun _ => zi_gwI 632 (by decide +kernel) rfl, (fun h => by cases h)⟩
theorem zl_9_206 : zi_okM 9 (206, zm_X9_perform, false, 635, 116) := ⟨⟨zr_X9_perform, zd_X9_perform⟩, fun _ => zi_gwI 635 (by decide +kernel) rfl, (fun h => by cases h)⟩
theorem zl_9_223 : zi_okM 9 (223, zm_X2_fly, false, 639, 14) := ⟨⟨zr_X2_fly, zd_X2_fly⟩, fun _ => zi_gwI 639 (by decide +kernel) rfl, (fun h => by cases h)⟩
theorem zl_9_357 : zi_okM 9 (357, zm_X6_note, false, 660, 48) := ⟨⟨zr_X6_note, zd_X6_note⟩, fun _ => zi_gwI 660 (by decide +kernel) rfl, (fun h => by cases h)⟩
theorem zl_9_242 : zi_okM 9 (242, zm_X7_take, false, 664, 52) := ⟨⟨zr_X7_take, zd_X7_take⟩, fun _ => zi_gwI 664 (by decide +kernel) rfl, (fun h => by cases h)⟩
theorem zl_9_213 : zi_okM 9 (213, zm_X6_goBack, false, 669, 49) := ⟨⟨zr_X6_goBack, zd_X6_goBack⟩, fun _ => zi_gwI 669 (by decide +kernel) rfl, (fun h => by cases h)⟩
theorem zl_9_219 : zi_okM 9 (219, zm_X2_isOver, false, 679, 7) := ⟨⟨zr_X2_isOver, zd_X2_isOver⟩, fun _ => zi_gwI 679 (by decide +kernel) rfl, (fun h => by cases h)⟩
theorem zl_9_227 : zi_okM 9 (227, zm_X9_openBeats, false, 684, 117) := ⟨⟨zr_X9_openBeats, zd_X9_openBeats⟩, fun _ => zi_gwI 684 (by decide +kernel) rfl, (fun h => by cases h)⟩
theorem zl_9_231 : zi_okM 9 (231, zm_X6_take, false, 692, 51) := ⟨⟨zr_X6_take, zd_X6_take⟩, fun _ => zi_gwI 692 (by decide +kernel) rfl, (fun h => by cases h)⟩
theorem zl_9_239 : zi_okM 9 (239, zm_X9_holdsBeatsAlone, false, 701, 115) := ⟨⟨zr_X9_holdsBeatsAlone, zd_X9_holdsBeatsAlone⟩, fun _ => zi_gwI 701 (by decide +kernel) rfl, (fun h => by cases h)⟩
theorem zl_9_245 : zi_okM 9 (245, zm_X9_setOut, false, 708, 119) := ⟨⟨zr_X9_setOut, zd_X9_setOut⟩, fun _ => zi_gwI 708 (by decide +kernel) rfl, (fun h => by cases h)⟩
theorem zl_9_361 : zi_okM 9 (361, zm_X8_start, false, 712, 53) := ⟨⟨zr_X8_start, zd_X8_start⟩, fun _ => zi_gwI 712 (by decide +kernel) rfl, (fun h => by cases h)⟩
theorem zl_9_249 : zi_okM 9 (249, zm_X8_findNext, false, 717, 55) := ⟨⟨zr_X8_findNext, zd_X8_findNext⟩, fun _ => zi_gwI 717 (by decide +kernel) rfl, (fun h => by cases h)⟩
theorem zl_9_252 : zi_okM 9 (252, zm_X8_size, false, 724, 56) := ⟨⟨zr_X8_size, zd_X8_size⟩, fun _ => zi_gwI 724 (by decide +kernel) rfl, (fun h => by cases h)⟩
theorem zl_9_253 : zi_okM 9 (253, zm_X8_write, false, 730, 58) := ⟨⟨zr_X8_write, zd_X8_write⟩, fun _ => zi_gwI 730 (by decide +kernel) rfl, (fun h => by cases h)⟩
theorem zl_9_257 : zi_okM 9 (257, zm_X8_end, false, 741, 57) := ⟨⟨zr_X8_end, zd_X8_end⟩, fun _ => zi_gwI 741 (by decide +kernel) rfl, (fun h => by cases h)⟩
theorem zl_9_264 : zi_okM 9 (264, zm_X9_tell, false, 749, 112) := ⟨⟨zr_X9_tell, zd_X9_tell⟩, fun _ => zi_gwI 749 (by decide +kernel) rfl, (fun h => by cases h)⟩
theorem zl_9_267 : zi_okM 9 (267, zm_X8_heightsIn, false, 757, 59) := ⟨⟨zr_X8_heightsIn, zd_X8_heightsIn⟩, fun _ => zi_gwI 757 (by decide +kernel) rfl, (fun h => by cases h)⟩
theorem zl_9_273 : zi_okM 9 (273, zm_X9_hasWay, false, 769, 120) := ⟨⟨zr_X9_hasWay, zd_X9_hasWay⟩, fun _ => zi_gwI 769 (by decide +kernel) rfl, (fun h => by cases h)⟩
theorem zl_9_276 : zi_okM 9 (276, zm_X8_strengthen, false, 777, 54) := ⟨⟨zr_X8_strengthen, zd_X8_strengthen⟩, fun _ => zi_gwI 777 (by decide +kernel) rfl, (fun h => by cases h)⟩
theorem zl_9_287 : zi_okM 9 (287, zm_X9_loadsOf, false, 798, 121) := ⟨⟨zr_X9_loadsOf, zd_X9_loadsOf⟩, fun _ => zi_gwI 798 (by decide +kernel) rfl, (fun h => by cases h)⟩
theorem zl_9_290 : zi_okM 9 (290, zm_X9_carriersOf, false, 802, 123) := ⟨⟨zr_X9_carriersOf, zd_X9_carriersOf⟩, fun _ => zi_gwI 802 (by decide +kernel) rfl, (fun h => by cases h)⟩
theorem zl_9_364 : zi_okM 9 (364, zm_X9_shareOf, false, 806, 122) := ⟨⟨zr_X9_shareOf, zd_X9_shareOf⟩, fun _ => zi_gwI 806 (by decide +kernel) rfl, (fun h => by cases h)⟩
theorem zl_9_293 : zi_okM 9 (293, zm_X9_writeShares, false, 809, 124) := ⟨⟨zr_X9_writeShares, zd_X9_writeShares⟩, fun _ => zi_gwI 809 (by decide +kernel) rfl, (fun h => by cases h)⟩
theorem zl_9_297 : zi_okM 9 (297, zm_X3_chanceOf, false, 817, 15) := ⟨⟨zr_X3_chanceOf, zd_X3_chanceOf⟩, fun _ => zi_gwI 817 (by decide +kernel) rfl, (fun h => by cases h)⟩
theorem zl_9_303 : zi_okM 9 (303, zm_X3_bestBeat, false, 858, 16) := ⟨⟨zr_X3_bestBeat, zd_X3_bestBeat⟩, fun _ => zi_gwI 858 (by decide +kernel) rfl, (fun h => by cases h)⟩
theorem zl_9_307 : zi_okM 9 (307, zm_J6_bitCount_0f7a4, false, 866, 220) := ⟨⟨zr_J6_bitCount_0f7a4, zd_J6_bitCount_0f7a4⟩, fun _ => zi_gwI 866 (by decide +kernel) rfl, (fun h => by cases h)⟩
theorem zl_9_312 : zi_okM 9 (312, zm_X9_farthestFrom, false, 872, 126) := ⟨⟨zr_X9_farthestFrom, zd_X9_farthestFrom⟩, fun _ => zi_gwI 872 (by decide +kernel) rfl, (fun h => by cases h)⟩
theorem zl_9_318 : zi_okM 9 (318, zm_X9_hasBoat, false, 876, 125) := ⟨⟨zr_X9_hasBoat, zd_X9_hasBoat⟩, fun _ => zi_gwI 876 (by decide +kernel) rfl, (fun h => by cases h)⟩
theorem zl_9_321 : zi_okM 9 (321, zm_X2_drips, false, 888, 8) := ⟨⟨zr_X2_drips, zd_X2_drips⟩, fun _ => zi_gwI 888 (by decide +kernel) rfl, (fun h => by cases h)⟩
theorem zl_9_327 : zi_okM 9 (327, zm_X8_dripColumns, false, 896, 60) := ⟨⟨zr_X8_dripColumns, zd_X8_dripColumns⟩, fun _ => zi_gwI 896 (by decide +kernel) rfl, (fun h => by cases h)⟩
theorem zl_9_334 : zi_okM 9 (334, zm_X9_bitAt, false, 907, 118) := ⟨⟨zr_X9_bitAt, zd_X9_bitAt⟩, fun _ => zi_gwI 907 (by decide +kernel) rfl, (fun h => by cases h)⟩
theorem zl_9_340 : zi_okM 9 (340, zm_X9_tally, false, 926, 127) := ⟨⟨zr_X9_tally, zd_X9_tally⟩, fun _ => zi_gwI 926 (by decide +kernel) rfl, (fun h => by cases h)⟩
theorem zl_9_373 : zi_okM 9 (373, zm_X6_oldOnes, false, 930, 46) := ⟨⟨zr_X6_oldOnes, zd_X6_oldOnes⟩, fun _ => zi_gwI 930 (by decide +kernel) rfl, (fun h => by cases h)⟩
theorem zl_9_376 : zi_okM 9 (376, zm_X9_thereOf, false, 935, 128) := ⟨⟨zr_X9_thereOf, zd_X9_thereOf⟩, fun _ => zi_gwI 935 (by decide +kernel) rfl, (fun h => by cases h)⟩
theorem zl_9_380 : zi_okM 9 (380, zm_X9_keptSkies, false, 938, 129) := ⟨⟨zr_X9_keptSkies, zd_X9_keptSkies⟩, fun _ => zi_gwI 938 (by decide +kernel) rfl, (fun h => by cases h)⟩
theorem zl_9_350 : zi_okM 9 (350, zm_X5_digestOn, false, 956, 44) := ⟨⟨zr_X5_digestOn, zd_X5_digestOn⟩, fun _ => zi_gwI 956 (by decide +kernel) rfl, (fun h => by cases h)⟩
set_option maxRecDepth 100000 in
theorem zl_w9 : ∀ e ∈ (zi_at zi_lks 9).getD [], zi_okM 9 e := List.forall_mem_cons.mpr ⟨zl_9_89, List.forall_mem_cons.mpr ⟨zl_9_93, List.forall_mem_cons.mpr ⟨zl_9_354, List.forall_mem_cons.mpr ⟨zl_9_101, List.forall_mem_cons.mpr ⟨zl_9_315, List.forall_mem_cons.mpr ⟨zl_9_97, List.forall_mem_cons.mpr ⟨zl_9_105, List.forall_mem_cons.mpr ⟨zl_9_109, List.forall_mem_cons.mpr ⟨zl_9_116, List.forall_mem_cons.mpr ⟨zl_9_120, List.forall_mem_cons.mpr ⟨zl_9_123, List.forall_mem_cons.mpr ⟨zl_9_127, List.forall_mem_cons.mpr ⟨zl_9_131, List.forall_mem_cons.mpr ⟨zl_9_135, List.forall_mem_cons.mpr ⟨zl_9_138, List.forall_mem_cons.mpr ⟨zl_9_142, List.forall_mem_cons.mpr ⟨zl_9_145, List.forall_mem_cons.mpr ⟨zl_9_149, List.forall_mem_cons.mpr ⟨zl_9_153, List.forall_mem_cons.mpr ⟨zl_9_157, List.forall_mem_cons.mpr ⟨zl_9_165, List.forall_mem_cons.mpr ⟨zl_9_171, List.forall_mem_cons.mpr ⟨zl_9_175, List.forall_mem_cons.mpr ⟨zl_9_181, List.forall_mem_cons.mpr ⟨zl_9_193, List.forall_mem_cons.mpr ⟨zl_9_197, List.forall_mem_cons.mpr ⟨zl_9_203, List.forall_mem_cons.mpr ⟨zl_9_206, List.forall_mem_cons.mpr ⟨zl_9_223, List.forall_mem_cons.mpr ⟨zl_9_357, List.forall_mem_cons.mpr ⟨zl_9_242, List.forall_mem_cons.mpr ⟨zl_9_213, List.forall_mem_cons.mpr ⟨zl_9_219, List.forall_mem_cons.mpr ⟨zl_9_227, List.forall_mem_cons.mpr ⟨zl_9_231, List.forall_mem_cons.mpr ⟨zl_9_239, List.forall_mem_cons.mpr ⟨zl_9_245, List.forall_mem_cons.mpr ⟨zl_9_361, List.forall_mem_cons.mpr ⟨zl_9_249, List.forall_mem_cons.mpr ⟨zl_9_252, List.forall_mem_cons.mpr ⟨zl_9_253, List.forall_mem_cons.mpr ⟨zl_9_257, List.forall_mem_cons.mpr ⟨zl_9_264, List.forall_mem_cons.mpr ⟨zl_9_267, List.forall_mem_cons.mpr ⟨zl_9_273, List.forall_mem_cons.mpr ⟨zl_9_276, List.forall_mem_cons.mpr ⟨zl_9_287, List.forall_mem_cons.mpr ⟨zl_9_290, List.forall_mem_cons.mpr ⟨zl_9_364, List.forall_mem_cons.mpr ⟨zl_9_293, List.forall_mem_cons.mpr ⟨zl_9_297, List.forall_mem_cons.mpr ⟨zl_9_303, List.forall_mem_cons.mpr ⟨zl_9_307, List.forall_mem_cons.mpr ⟨zl_9_312, List.forall_mem_cons.mpr ⟨zl_9_318, List.forall_mem_cons.mpr ⟨zl_9_321, List.forall_mem_cons.mpr ⟨zl_9_327, List.forall_mem_cons.mpr ⟨zl_9_334, List.forall_mem_cons.mpr ⟨zl_9_340, List.forall_mem_cons.mpr ⟨zl_9_373, List.forall_mem_cons.mpr ⟨zl_9_376, List.forall_mem_cons.mpr ⟨zl_9_380, List.forall_mem_cons.mpr ⟨zl_9_350, fun _ h => absurd h List.not_mem_nil⟩⟩⟩⟩⟩⟩⟩⟩⟩⟩⟩⟩⟩⟩⟩⟩⟩⟩⟩⟩⟩⟩⟩⟩⟩⟩⟩⟩⟩⟩⟩⟩⟩⟩⟩⟩⟩⟩⟩⟩⟩⟩⟩⟩⟩⟩⟩⟩⟩⟩⟩⟩⟩⟩⟩⟩⟩⟩⟩⟩⟩⟩⟩
theorem zl_10_91 : zi_okM 10 (91, zm_X10_isRow, false, 1092, 134) := ⟨⟨zr_X10_isRow, zd_X10_isRow⟩, fun _ => zi_gwI 1092 (by decide +kernel) rfl, (fun h => by cases h)⟩
theorem zl_10_85 : zi_okM 10 (85, zm_X10_in, false, 1096, 130) := ⟨⟨zr_X10_in, zd_X10_in⟩, fun _ => zi_gwI 1096 (by decide +kernel) rfl, (fun h => by cases h)⟩
theorem zl_10_95 : zi_okM 10 (95, zm_X10_finds, false, 1099, 132) := ⟨⟨zr_X10_finds, zd_X10_finds⟩, fun _ => zi_gwI 1099 (by decide +kernel) rfl, (fun h => by cases h)⟩
theorem zl_10_99 : zi_okM 10 (99, zm_X10_tells, false, 1107, 133) := ⟨⟨zr_X10_tells, zd_X10_tells⟩, fun _ => zi_gwI 1107 (by decide +kernel) rfl, (fun h => by cases h)⟩
theorem zl_10_102 : zi_okM 10 (102, zm_X10_isText, false, 1131, 135) := ⟨⟨zr_X10_isText, zd_X10_isText⟩, fun _ => zi_gwI 1131 (by decide +kernel) rfl, (fun h => by cases h)⟩
theorem zl_10_144 : zi_okM 10 (144, zm_X10_faultOf, false, 1143, 153) := ⟨⟨zr_X10_faultOf, zd_X10_faultOf⟩, fun _ => zi_gwI 1143 (by decide +kernel) rfl, (fun h => by cases h)⟩
theorem zl_10_141 : zi_okM 10 (141, zm_X10_reads, false, 1147, 152) := ⟨⟨zr_X10_reads, zd_X10_reads⟩, fun _ => zi_gwI 1147 (by decide +kernel) rfl, (fun h => by cases h)⟩
theorem zl_10_132 : zi_okM 10 (132, zm_X10_readsAir, false, 1151, 150) := ⟨⟨zr_X10_readsAir, zd_X10_readsAir⟩, fun _ => zi_gwI 1151 (by decide +kernel) rfl, (fun h => by cases h)⟩
theorem zl_10_114 : zi_okM 10 (114, zm_X10_sign, false, 1155, 145) := ⟨⟨zr_X10_sign, zd_X10_sign⟩, fun _ => zi_gwI 1155 (by decide +kernel) rfl, (fun h => by cases h)⟩
theorem zl_10_122 : zi_okM 10 (122, zm_X10_airOf, false, 1159, 147) := ⟨⟨zr_X10_airOf, zd_X10_airOf⟩, fun _ => zi_gwI 1159 (by decide +kernel) rfl, (fun h => by cases h)⟩
theorem zl_10_128 : zi_okM 10 (128, zm_X10_isFigure, false, 1162, 149) := ⟨⟨zr_X10_isFigure, zd_X10_isFigure⟩, fun _ => zi_gwI 1162 (by decide +kernel) rfl, (fun h => by cases h)⟩
theorem zl_10_135 : zi_okM 10 (135, zm_X10_isRest, false, 1168, 146) := ⟨⟨zr_X10_isRest, zd_X10_isRest⟩, fun _ => zi_gwI 1168 (by decide +kernel) rfl, (fun h => by cases h)⟩
theorem zl_10_138 : zi_okM 10 (138, zm_X10_readsFlyer, false, 1172, 151) := ⟨⟨zr_X10_readsFlyer, zd_X10_readsFlyer⟩, fun _ => zi_gwI 1172 (by decide +kernel) rfl, (fun h => by cases h)⟩
theorem zl_10_125 : zi_okM 10 (125, zm_X10_kindOf, false, 1176, 148) := ⟨⟨zr_X10_kindOf, zd_X10_kindOf⟩, fun _ => zi_gwI 1176 (by decide +kernel) rfl, (fun h => by cases h)⟩
theorem zl_10_147 : zi_okM 10 (147, zm_X10_isFlyer, false, 1187, 136) := ⟨⟨zr_X10_isFlyer, zd_X10_isFlyer⟩, fun _ => zi_gwI 1187 (by decide +kernel) rfl, (fun h => by cases h)⟩
theorem zl_10_208 : zi_okM 10 (208, zm_X10_takes, false, 1196, 157) := ⟨⟨zr_X10_takes, zd_X10_takes⟩, fun _ => zi_gwI 1196 (by decide +kernel) rfl, (fun h => by cases h)⟩
theorem zl_10_182 : zi_okM 10 (182, zm_X10_last, false, 1200, 159) := ⟨⟨zr_X10_last, zd_X10_last⟩, fun _ => zi_gwI 1200 (by decide +kernel) rfl, (fun h => by cases h)⟩
theorem zl_10_198 : zi_okM 10 (198, zm_X10_costs, false, 1204, 163) := ⟨⟨zr_X10_costs, zd_X10_costs⟩, fun _ => zi_gwI 1204 (by decide +kernel) rfl, (fun h => by cases h)⟩
theorem zl_10_195 : zi_okM 10 (195, zm_X10_more, false, 1208, 131) := ⟨⟨zr_X10_more, zd_X10_more⟩, fun _ => zi_gwI 1208 (by decide +kernel) rfl, (fun h => by cases h)⟩
theorem zl_10_185 : zi_okM 10 (185, zm_X10_airAt, false, 1215, 158) := ⟨⟨zr_X10_airAt, zd_X10_airAt⟩, fun _ => zi_gwI 1215 (by decide +kernel) rfl, (fun h => by cases h)⟩
theorem zl_10_221 : zi_okM 10 (221, zm_X10_canBeat, false, 1233, 162) := ⟨⟨zr_X10_canBeat, zd_X10_canBeat⟩, fun _ => zi_gwI 1233 (by decide +kernel) rfl, (fun h => by cases h)⟩
theorem zl_10_189 : zi_okM 10 (189, zm_X10_isOver, false, 1237, 160) := ⟨⟨zr_X10_isOver, zd_X10_isOver⟩, fun _ => zi_gwI 1237 (by decide +kernel) rfl, (fun h => by cases h)⟩
theorem zl_10_192 : zi_okM 10 (192, zm_X10_columnBehind, false, 1241, 161) := ⟨⟨zr_X10_columnBehind, zd_X10_columnBehind⟩, fun _ => zi_gwI 1241 (by decide +kernel) rfl, (fun h => by cases h)⟩
theorem zl_10_224 : zi_okM 10 (224, zm_X10_does, false, 1245, 172) := ⟨⟨zr_X10_does, zd_X10_does⟩, fun _ => zi_gwI 1245 (by decide +kernel) rfl, (fun h => by cases h)⟩
theorem zl_10_213 : zi_okM 10 (213, zm_X10_beats, false, 1249, 166) := ⟨⟨zr_X10_beats, zd_X10_beats⟩, fun _ => zi_gwI 1249 (by decide +kernel) rfl, (fun h => by cases h)⟩
theorem zl_10_201 : zi_okM 10 (201, zm_X10_moves, false, 1253, 164) := ⟨⟨zr_X10_moves, zd_X10_moves⟩, fun _ => zi_gwI 1253 (by decide +kernel) rfl, (fun h => by cases h)⟩
theorem zl_10_205 : zi_okM 10 (205, zm_X10_settles, false, 1257, 165) := ⟨⟨zr_X10_settles, zd_X10_settles⟩, fun _ => zi_gwI 1257 (by decide +kernel) rfl, (fun h => by cases h)⟩
theorem zl_10_216 : zi_okM 10 (216, zm_X10_keeps, false, 1261, 171) := ⟨⟨zr_X10_keeps, zd_X10_keeps⟩, fun _ => zi_gwI 1261 (by decide +kernel) rfl, (fun h => by cases h)⟩
theorem zl_10_228 : zi_okM 10 (228, zm_X10_hasFallen, false, 1289, 179) := ⟨⟨zr_X10_hasFallen, zd_X10_hasFallen⟩, fun _ => zi_gwI 1289 (by decide +kernel) rfl, (fun h => by cases h)⟩
theorem zl_10_231 : zi_okM 10 (231, zm_X10_areBeats, false, 1293, 180) := ⟨⟨zr_X10_areBeats, zd_X10_areBeats⟩, fun _ => zi_gwI 1293 (by decide +kernel) rfl, (fun h => by cases h)⟩
theorem zl_10_240 : zi_okM 10 (240, zm_X10_goes, false, 1301, 182) := ⟨⟨zr_X10_goes, zd_X10_goes⟩, fun _ => zi_gwI 1301 (by decide +kernel) rfl, (fun h => by cases h)⟩
theorem zl_10_243 : zi_okM 10 (243, zm_X10_lays, false, 1305, 183) := ⟨⟨zr_X10_lays, zd_X10_lays⟩, fun _ => zi_gwI 1305 (by decide +kernel) rfl, (fun h => by cases h)⟩
theorem zl_10_253 : zi_okM 10 (253, zm_X10_least, false, 1329, 190) := ⟨⟨zr_X10_least, zd_X10_least⟩, fun _ => zi_gwI 1329 (by decide +kernel) rfl, (fun h => by cases h)⟩
theorem zl_10_249 : zi_okM 10 (249, zm_X10_mayGo, false, 1333, 189) := ⟨⟨zr_X10_mayGo, zd_X10_mayGo⟩, fun _ => zi_gwI 1333 (by decide +kernel) rfl, (fun h => by cases h)⟩
theorem zl_10_257 : zi_okM 10 (257, zm_X10_greatest, false, 1345, 191) := ⟨⟨zr_X10_greatest, zd_X10_greatest⟩, fun _ => zi_gwI 1345 (by decide +kernel) rfl, (fun h => by cases h)⟩
theorem zl_10_279 : zi_okM 10 (279, zm_X10_chances, false, 1366, 202) := ⟨⟨zr_X10_chances, zd_X10_chances⟩, fun _ => zi_gwI 1366 (by decide +kernel) rfl, (fun h => by cases h)⟩
theorem zl_10_262 : zi_okM 10 (262, zm_X10_lies, false, 1370, 198) := ⟨⟨zr_X10_lies, zd_X10_lies⟩, fun _ => zi_gwI 1370 (by decide +kernel) rfl, (fun h => by cases h)⟩
theorem zl_10_265 : zi_okM 10 (265, zm_X10_stands, false, 1374, 199) := ⟨⟨zr_X10_stands, zd_X10_stands⟩, fun _ => zi_gwI 1374 (by decide +kernel) rfl, (fun h => by cases h)⟩
theorem zl_10_268 : zi_okM 10 (268, zm_X10_twelves, false, 1378, 200) := ⟨⟨zr_X10_twelves, zd_X10_twelves⟩, fun _ => zi_gwI 1378 (by decide +kernel) rfl, (fun h => by cases h)⟩
theorem zl_10_272 : zi_okM 10 (272, zm_X10_mayGust, false, 1381, 201) := ⟨⟨zr_X10_mayGust, zd_X10_mayGust⟩, fun _ => zi_gwI 1381 (by decide +kernel) rfl, (fun h => by cases h)⟩
theorem zl_10_283 : zi_okM 10 (283, zm_X10_chanceIs, false, 1385, 204) := ⟨⟨zr_X10_chanceIs, zd_X10_chanceIs⟩, fun _ => zi_gwI 1385 (by decide +kernel) rfl, (fun h => by cases h)⟩
theorem zl_10_275 : zi_okM 10 (275, zm_X10_divisor, false, 1389, 203) := ⟨⟨zr_X10_divisor, zd_X10_divisor⟩, fun _ => zi_gwI 1389 (by decide +kernel) rfl, (fun h => by cases h)⟩
theorem zl_10_297 : zi_okM 10 (297, zm_X10_countOf, false, 1437, 215) := ⟨⟨zr_X10_countOf, zd_X10_countOf⟩, fun _ => zi_gwI 1437 (by decide +kernel) rfl, (fun h => by cases h)⟩
set_option maxRecDepth 100000 in
theorem zl_w10 : ∀ e ∈ (zi_at zi_lks 10).getD [], zi_okM 10 e := List.forall_mem_cons.mpr ⟨zl_10_91, List.forall_mem_cons.mpr ⟨zl_10_85, List.forall_mem_cons.mpr ⟨zl_10_95, List.forall_mem_cons.mpr ⟨zl_10_99, List.forall_mem_cons.mpr ⟨zl_10_102, List.forall_mem_cons.mpr ⟨zl_10_144, List.forall_mem_cons.mpr ⟨zl_10_141, List.forall_mem_cons.mpr ⟨zl_10_132, List.forall_mem_cons.mpr ⟨zl_10_114, List.forall_mem_cons.mpr ⟨zl_10_122, List.forall_mem_cons.mpr ⟨zl_10_128, List.forall_mem_cons.mpr ⟨zl_10_135, List.forall_mem_cons.mpr ⟨zl_10_138, List.forall_mem_cons.mpr ⟨zl_10_125, List.forall_mem_cons.mpr ⟨zl_10_147, List.forall_mem_cons.mpr ⟨zl_10_208, List.forall_mem_cons.mpr ⟨zl_10_182, List.forall_mem_cons.mpr ⟨zl_10_198, List.forall_mem_cons.mpr ⟨zl_10_195, List.forall_mem_cons.mpr ⟨zl_10_185, List.forall_mem_cons.mpr ⟨zl_10_221, List.forall_mem_cons.mpr ⟨zl_10_189, List.forall_mem_cons.mpr ⟨zl_10_192, List.forall_mem_cons.mpr ⟨zl_10_224, List.forall_mem_cons.mpr ⟨zl_10_213, List.forall_mem_cons.mpr ⟨zl_10_201, List.forall_mem_cons.mpr ⟨zl_10_205, List.forall_mem_cons.mpr ⟨zl_10_216, List.forall_mem_cons.mpr ⟨zl_10_228, List.forall_mem_cons.mpr ⟨zl_10_231, List.forall_mem_cons.mpr ⟨zl_10_240, List.forall_mem_cons.mpr ⟨zl_10_243, List.forall_mem_cons.mpr ⟨zl_10_253, List.forall_mem_cons.mpr ⟨zl_10_249, List.forall_mem_cons.mpr ⟨zl_10_257, List.forall_mem_cons.mpr ⟨zl_10_279, List.forall_mem_cons.mpr ⟨zl_10_262, List.forall_mem_cons.mpr ⟨zl_10_265, List.forall_mem_cons.mpr ⟨zl_10_268, List.forall_mem_cons.mpr ⟨zl_10_272, List.forall_mem_cons.mpr ⟨zl_10_283, List.forall_mem_cons.mpr ⟨zl_10_275, List.forall_mem_cons.mpr ⟨zl_10_297, fun _ h => absurd h List.not_mem_nil⟩⟩⟩⟩⟩⟩⟩⟩⟩⟩⟩⟩⟩⟩⟩⟩⟩⟩⟩⟩⟩⟩⟩⟩⟩⟩⟩⟩⟩⟩⟩⟩⟩⟩⟩⟩⟩⟩⟩⟩⟩⟩⟩
theorem zl_12_13 : zi_okM 12 (13, zm_X9_row, false, 385, 61) := ⟨⟨zr_X9_row, zd_X9_row⟩, fun _ => zi_gwI 385 (by decide +kernel) rfl, (fun h => by cases h)⟩
theorem zl_12_18 : zi_okM 12 (18, zm_X9_lay, false, 412, 62) := ⟨⟨zr_X9_lay, zd_X9_lay⟩, fun _ => zi_gwI 412 (by decide +kernel) rfl, (fun h => by cases h)⟩
theorem zl_12_23 : zi_okM 12 (23, zm_X9_at, false, 433, 63) := ⟨⟨zr_X9_at, zd_X9_at⟩, fun _ => zi_gwI 433 (by decide +kernel) rfl, (fun h => by cases h)⟩
theorem zl_12_27 : zi_okM 12 (27, zm_X9_tear, false, 437, 64) := ⟨⟨zr_X9_tear, zd_X9_tear⟩, fun _ => zi_gwI 437 (by decide +kernel) rfl, (fun h => by cases h)⟩
theorem zl_12_32 : zi_okM 12 (32, zm_X9_copy, false, 445, 65) := ⟨⟨zr_X9_copy, zd_X9_copy⟩, fun _ => zi_gwI 445 (by decide +kernel) rfl, (fun h => by cases h)⟩
theorem zl_12_37 : zi_okM 12 (37, zm_X9_mean, false, 461, 66) := ⟨⟨zr_X9_mean, zd_X9_mean⟩, fun _ => zi_gwI 461 (by decide +kernel) rfl, (fun h => by cases h)⟩
theorem zl_12_41 : zi_okM 12 (41, zm_X9_text, false, 469, 67) := ⟨⟨zr_X9_text, zd_X9_text⟩, fun _ => zi_gwI 469 (by decide +kernel) rfl, (fun h => by cases h)⟩
theorem zl_12_45 : zi_okM 12 (45, zm_X9_put, false, 477, 68) := ⟨⟨zr_X9_put, zd_X9_put⟩, fun _ => zi_gwI 477 (by decide +kernel) rfl, (fun h => by cases h)⟩
theorem zl_12_49 : zi_okM 12 (49, zm_X9_fault, false, 481, 69) := ⟨⟨zr_X9_fault, zd_X9_fault⟩, fun _ => zi_gwI 481 (by decide +kernel) rfl, (fun h => by cases h)⟩
theorem zl_12_53 : zi_okM 12 (53, zm_X9_sky, false, 550, 70) := ⟨⟨zr_X9_sky, zd_X9_sky⟩, fun _ => zi_gwI 550 (by decide +kernel) rfl, (fun h => by cases h)⟩
theorem zl_12_57 : zi_okM 12 (57, zm_X9_flyer, false, 579, 71) := ⟨⟨zr_X9_flyer, zd_X9_flyer⟩, fun _ => zi_gwI 579 (by decide +kernel) rfl, (fun h => by cases h)⟩
theorem zl_12_61 : zi_okM 12 (61, zm_X9_mark, false, 591, 72) := ⟨⟨zr_X9_mark, zd_X9_mark⟩, fun _ => zi_gwI 591 (by decide +kernel) rfl, (fun h => by cases h)⟩
theorem zl_12_65 : zi_okM 12 (65, zm_X9_air, false, 615, 73) := ⟨⟨zr_X9_air, zd_X9_air⟩, fun _ => zi_gwI 615 (by decide +kernel) rfl, (fun h => by cases h)⟩
theorem zl_12_69 : zi_okM 12 (69, zm_X9_sun, false, 620, 74) := ⟨⟨zr_X9_sun, zd_X9_sun⟩, fun _ => zi_gwI 620 (by decide +kernel) rfl, (fun h => by cases h)⟩
theorem zl_12_73 : zi_okM 12 (73, zm_X9_letters, false, 624, 75) := ⟨⟨zr_X9_letters, zd_X9_letters⟩, fun _ => zi_gwI 624 (by decide +kernel) rfl, (fun h => by cases h)⟩
theorem zl_12_77 : zi_okM 12 (77, zm_X9_beat, false, 628, 76) := ⟨⟨zr_X9_beat, zd_X9_beat⟩, fun _ => zi_gwI 628 (by decide +kernel) rfl, (fun h => by cases h)⟩
theorem zl_12_81 : zi_okM 12 (81, zm_X9_undo, false, 665, 77) := ⟨⟨zr_X9_undo, zd_X9_undo⟩, fun _ => zi_gwI 665 (by decide +kernel) rfl, (fun h => by cases h)⟩
theorem zl_12_85 : zi_okM 12 (85, zm_X9_over, false, 675, 78) := ⟨⟨zr_X9_over, zd_X9_over⟩, fun _ => zi_gwI 675 (by decide +kernel) rfl, (fun h => by cases h)⟩
theorem zl_12_90 : zi_okM 12 (90, zm_X9_can, false, 680, 79) := ⟨⟨zr_X9_can, zd_X9_can⟩, fun _ => zi_gwI 680 (by decide +kernel) rfl, (fun h => by cases h)⟩
theorem zl_12_94 : zi_okM 12 (94, zm_X9_keep, false, 688, 80) := ⟨⟨zr_X9_keep, zd_X9_keep⟩, fun _ => zi_gwI 688 (by decide +kernel) rfl, (fun h => by cases h)⟩
theorem zl_12_98 : zi_okM 12 (98, zm_X9_on, false, 693, 81) := ⟨⟨zr_X9_on, zd_X9_on⟩, fun _ => zi_gwI 693 (by decide +kernel) rfl, (fun h => by cases h)⟩
theorem zl_12_102 : zi_okM 12 (102, zm_X9_judge, false, 697, 82) := ⟨⟨zr_X9_judge, zd_X9_judge⟩, fun _ => zi_gwI 697 (by decide +kernel) rfl, (fun h => by cases h)⟩
theorem zl_12_106 : zi_okM 12 (106, zm_X9_soonest, false, 704, 83) := ⟨⟨zr_X9_soonest, zd_X9_soonest⟩, fun _ => zi_gwI 704 (by decide +kernel) rfl, (fun h => by cases h)⟩
theorem zl_12_110 : zi_okM 12 (110, zm_X9_lightest, false, 737, 84) := ⟨⟨zr_X9_lightest, zd_X9_lightest⟩, fun _ => zi_gwI 737 (by decide +kernel) rfl, (fun h => by cases h)⟩
theorem zl_12_114 : zi_okM 12 (114, zm_X9_ways, false, 745, 85) := ⟨⟨zr_X9_ways, zd_X9_ways⟩, fun _ => zi_gwI 745 (by decide +kernel) rfl, (fun h => by cases h)⟩
theorem zl_12_118 : zi_okM 12 (118, zm_X9_heights, false, 753, 86) := ⟨⟨zr_X9_heights, zd_X9_heights⟩, fun _ => zi_gwI 753 (by decide +kernel) rfl, (fun h => by cases h)⟩
theorem zl_12_122 : zi_okM 12 (122, zm_X9_nth, false, 761, 87) := ⟨⟨zr_X9_nth, zd_X9_nth⟩, fun _ => zi_gwI 761 (by decide +kernel) rfl, (fun h => by cases h)⟩
theorem zl_12_126 : zi_okM 12 (126, zm_X9_wax, false, 765, 88) := ⟨⟨zr_X9_wax, zd_X9_wax⟩, fun _ => zi_gwI 765 (by decide +kernel) rfl, (fun h => by cases h)⟩
theorem zl_12_130 : zi_okM 12 (130, zm_X9_strength, false, 773, 89) := ⟨⟨zr_X9_strength, zd_X9_strength⟩, fun _ => zi_gwI 773 (by decide +kernel) rfl, (fun h => by cases h)⟩
theorem zl_12_134 : zi_okM 12 (134, zm_X9_most, false, 782, 90) := ⟨⟨zr_X9_most, zd_X9_most⟩, fun _ => zi_gwI 782 (by decide +kernel) rfl, (fun h => by cases h)⟩
theorem zl_12_138 : zi_okM 12 (138, zm_X9_hottest, false, 786, 91) := ⟨⟨zr_X9_hottest, zd_X9_hottest⟩, fun _ => zi_gwI 786 (by decide +kernel) rfl, (fun h => by cases h)⟩
theorem zl_12_142 : zi_okM 12 (142, zm_X9_kinds, false, 790, 92) := ⟨⟨zr_X9_kinds, zd_X9_kinds⟩, fun _ => zi_gwI 790 (by decide +kernel) rfl, (fun h => by cases h)⟩
theorem zl_12_146 : zi_okM 12 (146, zm_X9_post, false, 794, 93) := ⟨⟨zr_X9_post, zd_X9_post⟩, fun _ => zi_gwI 794 (by decide +kernel) rfl, (fun h => by cases h)⟩
theorem zl_12_150 : zi_okM 12 (150, zm_X9_plan, false, 813, 94) := ⟨⟨zr_X9_plan, zd_X9_plan⟩, fun _ => zi_gwI 813 (by decide +kernel) rfl, (fun h => by cases h)⟩
theorem zl_12_154 : zi_okM 12 (154, zm_X9_odds, false, 850, 95) := ⟨⟨zr_X9_odds, zd_X9_odds⟩, fun _ => zi_gwI 850 (by decide +kernel) rfl, (fun h => by cases h)⟩
theorem zl_12_158 : zi_okM 12 (158, zm_X9_choice, false, 854, 96) := ⟨⟨zr_X9_choice, zd_X9_choice⟩, fun _ => zi_gwI 854 (by decide +kernel) rfl, (fun h => by cases h)⟩
theorem zl_12_162 : zi_okM 12 (162, zm_X9_boats, false, 862, 97) := ⟨⟨zr_X9_boats, zd_X9_boats⟩, fun _ => zi_gwI 862 (by decide +kernel) rfl, (fun h => by cases h)⟩
theorem zl_12_166 : zi_okM 12 (166, zm_X9_drip, false, 884, 98) := ⟨⟨zr_X9_drip, zd_X9_drip⟩, fun _ => zi_gwI 884 (by decide +kernel) rfl, (fun h => by cases h)⟩
theorem zl_12_170 : zi_okM 12 (170, zm_X9_feathers, false, 892, 99) := ⟨⟨zr_X9_feathers, zd_X9_feathers⟩, fun _ => zi_gwI 892 (by decide +kernel) rfl, (fun h => by cases h)⟩
theorem zl_12_174 : zi_okM 12 (174, zm_X9_lots, false, 901, 100) := ⟨⟨zr_X9_lots, zd_X9_lots⟩, fun _ => zi_gwI 901 (by decide +kernel) rfl, (fun h => by cases h)⟩
theorem zl_12_178 : zi_okM 12 (178, zm_X9_asked, false, 910, 101) := ⟨⟨zr_X9_asked, zd_X9_asked⟩, fun _ => zi_gwI 910 (by decide +kernel) rfl, (fun h => by cases h)⟩
theorem zl_12_182 : zi_okM 12 (182, zm_X9_upper, false, 914, 102) := ⟨⟨zr_X9_upper, zd_X9_upper⟩, fun _ => zi_gwI 914 (by decide +kernel) rfl, (fun h => by cases h)⟩
theorem zl_12_187 : zi_okM 12 (187, zm_X9_lower, false, 918, 103) := ⟨⟨zr_X9_lower, zd_X9_lower⟩, fun _ => zi_gwI 918 (by decide +kernel) rfl, (fun h => by cases h)⟩
theorem zl_12_191 : zi_okM 12 (191, zm_X9_count, false, 922, 104) := ⟨⟨zr_X9_count, zd_X9_count⟩, fun _ => zi_gwI 922 (by decide +kernel) rfl, (fun h => by cases h)⟩
theorem zl_12_195 : zi_okM 12 (195, zm_X9_finding, false, 942, 105) := ⟨⟨zr_X9_finding, zd_X9_finding⟩, fun _ => zi_gwI 942 (by decide +kernel) rfl, (fun h => by cases h)⟩
theorem zl_12_199 : zi_okM 12 (199, zm_X9_findings, false, 946, 106) := ⟨⟨zr_X9_findings, zd_X9_findings⟩, fun _ => zi_gwI 946 (by decide +kernel) rfl, (fun h => by cases h)⟩
theorem zl_12_203 : zi_okM 12 (203, zm_X9_digest, false, 950, 107) := ⟨⟨zr_X9_digest, zd_X9_digest⟩, fun _ => zi_gwI 950 (by decide +kernel) rfl, (fun h => by cases h)⟩
theorem zl_12_17 : zi_okM 12 (17, zm_X10_row, false, 1088, 137) := ⟨⟨zr_X10_row, zd_X10_row⟩, fun _ => zi_gwI 1088 (by decide +kernel) rfl, (fun h => by cases h)⟩
theorem zl_12_22 : zi_okM 12 (22, zm_X10_lay, false, 1103, 138) := ⟨⟨zr_X10_lay, zd_X10_lay⟩, fun _ => zi_gwI 1103 (by decide +kernel) rfl, (fun h => by cases h)⟩
theorem zl_12_26 : zi_okM 12 (26, zm_X10_at, false, 1111, 139) := ⟨⟨zr_X10_at, zd_X10_at⟩, fun _ => zi_gwI 1111 (by decide +kernel) rfl, (fun h => by cases h)⟩
theorem zl_12_31 : zi_okM 12 (31, zm_X10_tear, false, 1115, 140) := ⟨⟨zr_X10_tear, zd_X10_tear⟩, fun _ => zi_gwI 1115 (by decide +kernel) rfl, (fun h => by cases h)⟩
theorem zl_12_36 : zi_okM 12 (36, zm_X10_copy, false, 1119, 141) := ⟨⟨zr_X10_copy, zd_X10_copy⟩, fun _ => zi_gwI 1119 (by decide +kernel) rfl, (fun h => by cases h)⟩
theorem zl_12_40 : zi_okM 12 (40, zm_X10_mean, false, 1123, 142) := ⟨⟨zr_X10_mean, zd_X10_mean⟩, fun _ => zi_gwI 1123 (by decide +kernel) rfl, (fun h => by cases h)⟩
theorem zl_12_44 : zi_okM 12 (44, zm_X10_text, false, 1127, 143) := ⟨⟨zr_X10_text, zd_X10_text⟩, fun _ => zi_gwI 1127 (by decide +kernel) rfl, (fun h => by cases h)⟩
theorem zl_12_48 : zi_okM 12 (48, zm_X10_put, false, 1135, 144) := ⟨⟨zr_X10_put, zd_X10_put⟩, fun _ => zi_gwI 1135 (by decide +kernel) rfl, (fun h => by cases h)⟩
theorem zl_12_52 : zi_okM 12 (52, zm_X10_fault, false, 1139, 154) := ⟨⟨zr_X10_fault, zd_X10_fault⟩, fun _ => zi_gwI 1139 (by decide +kernel) rfl, (fun h => by cases h)⟩
theorem zl_12_56 : zi_okM 12 (56, zm_X10_sky, false, 1179, 155) := ⟨⟨zr_X10_sky, zd_X10_sky⟩, fun _ => zi_gwI 1179 (by decide +kernel) rfl, (fun h => by cases h)⟩
theorem zl_12_60 : zi_okM 12 (60, zm_X10_flyer, false, 1183, 156) := ⟨⟨zr_X10_flyer, zd_X10_flyer⟩, fun _ => zi_gwI 1183 (by decide +kernel) rfl, (fun h => by cases h)⟩
theorem zl_12_64 : zi_okM 12 (64, zm_X10_mark, false, 1192, 167) := ⟨⟨zr_X10_mark, zd_X10_mark⟩, fun _ => zi_gwI 1192 (by decide +kernel) rfl, (fun h => by cases h)⟩
theorem zl_12_68 : zi_okM 12 (68, zm_X10_air, false, 1211, 168) := ⟨⟨zr_X10_air, zd_X10_air⟩, fun _ => zi_gwI 1211 (by decide +kernel) rfl, (fun h => by cases h)⟩
theorem zl_12_72 : zi_okM 12 (72, zm_X10_sun, false, 1219, 169) := ⟨⟨zr_X10_sun, zd_X10_sun⟩, fun _ => zi_gwI 1219 (by decide +kernel) rfl, (fun h => by cases h)⟩
theorem zl_12_76 : zi_okM 12 (76, zm_X10_letters, false, 1224, 170) := ⟨⟨zr_X10_letters, zd_X10_letters⟩, fun _ => zi_gwI 1224 (by decide +kernel) rfl, (fun h => by cases h)⟩
theorem zl_12_80 : zi_okM 12 (80, zm_X10_beat, false, 1228, 173) := ⟨⟨zr_X10_beat, zd_X10_beat⟩, fun _ => zi_gwI 1228 (by decide +kernel) rfl, (fun h => by cases h)⟩
theorem zl_12_84 : zi_okM 12 (84, zm_X10_undo, false, 1265, 174) := ⟨⟨zr_X10_undo, zd_X10_undo⟩, fun _ => zi_gwI 1265 (by decide +kernel) rfl, (fun h => by cases h)⟩
theorem zl_12_89 : zi_okM 12 (89, zm_X10_over, false, 1269, 175) := ⟨⟨zr_X10_over, zd_X10_over⟩, fun _ => zi_gwI 1269 (by decide +kernel) rfl, (fun h => by cases h)⟩
theorem zl_12_93 : zi_okM 12 (93, zm_X10_can, false, 1273, 176) := ⟨⟨zr_X10_can, zd_X10_can⟩, fun _ => zi_gwI 1273 (by decide +kernel) rfl, (fun h => by cases h)⟩
theorem zl_12_97 : zi_okM 12 (97, zm_X10_keep, false, 1277, 177) := ⟨⟨zr_X10_keep, zd_X10_keep⟩, fun _ => zi_gwI 1277 (by decide +kernel) rfl, (fun h => by cases h)⟩
theorem zl_12_101 : zi_okM 12 (101, zm_X10_on, false, 1281, 178) := ⟨⟨zr_X10_on, zd_X10_on⟩, fun _ => zi_gwI 1281 (by decide +kernel) rfl, (fun h => by cases h)⟩
theorem zl_12_105 : zi_okM 12 (105, zm_X10_judge, false, 1285, 181) := ⟨⟨zr_X10_judge, zd_X10_judge⟩, fun _ => zi_gwI 1285 (by decide +kernel) rfl, (fun h => by cases h)⟩
theorem zl_12_109 : zi_okM 12 (109, zm_X10_soonest, false, 1297, 184) := ⟨⟨zr_X10_soonest, zd_X10_soonest⟩, fun _ => zi_gwI 1297 (by decide +kernel) rfl, (fun h => by cases h)⟩
theorem zl_12_113 : zi_okM 12 (113, zm_X10_lightest, false, 1309, 185) := ⟨⟨zr_X10_lightest, zd_X10_lightest⟩, fun _ => zi_gwI 1309 (by decide +kernel) rfl, (fun h => by cases h)⟩
theorem zl_12_117 : zi_okM 12 (117, zm_X10_ways, false, 1313, 186) := ⟨⟨zr_X10_ways, zd_X10_ways⟩, fun _ => zi_gwI 1313 (by decide +kernel) rfl, (fun h => by cases h)⟩
theorem zl_12_121 : zi_okM 12 (121, zm_X10_heights, false, 1317, 187) := ⟨⟨zr_X10_heights, zd_X10_heights⟩, fun _ => zi_gwI 1317 (by decide +kernel) rfl, (fun h => by cases h)⟩
theorem zl_12_125 : zi_okM 12 (125, zm_X10_nth, false, 1321, 188) := ⟨⟨zr_X10_nth, zd_X10_nth⟩, fun _ => zi_gwI 1321 (by decide +kernel) rfl, (fun h => by cases h)⟩
theorem zl_12_129 : zi_okM 12 (129, zm_X10_wax, false, 1325, 192) := ⟨⟨zr_X10_wax, zd_X10_wax⟩, fun _ => zi_gwI 1325 (by decide +kernel) rfl, (fun h => by cases h)⟩
theorem zl_12_133 : zi_okM 12 (133, zm_X10_strength, false, 1337, 193) := ⟨⟨zr_X10_strength, zd_X10_strength⟩, fun _ => zi_gwI 1337 (by decide +kernel) rfl, (fun h => by cases h)⟩
theorem zl_12_137 : zi_okM 12 (137, zm_X10_most, false, 1341, 194) := ⟨⟨zr_X10_most, zd_X10_most⟩, fun _ => zi_gwI 1341 (by decide +kernel) rfl, (fun h => by cases h)⟩
theorem zl_12_141 : zi_okM 12 (141, zm_X10_hottest, false, 1349, 195) := ⟨⟨zr_X10_hottest, zd_X10_hottest⟩, fun _ => zi_gwI 1349 (by decide +kernel) rfl, (fun h => by cases h)⟩
theorem zl_12_145 : zi_okM 12 (145, zm_X10_kinds, false, 1353, 196) := ⟨⟨zr_X10_kinds, zd_X10_kinds⟩, fun _ => zi_gwI 1353 (by decide +kernel) rfl, (fun h => by cases h)⟩
theorem zl_12_149 : zi_okM 12 (149, zm_X10_post, false, 1357, 197) := ⟨⟨zr_X10_post, zd_X10_post⟩, fun _ => zi_gwI 1357 (by decide +kernel) rfl, (fun h => by cases h)⟩
theorem zl_12_153 : zi_okM 12 (153, zm_X10_plan, false, 1362, 205) := ⟨⟨zr_X10_plan, zd_X10_plan⟩, fun _ => zi_gwI 1362 (by decide +kernel) rfl, (fun h => by cases h)⟩
theorem zl_12_157 : zi_okM 12 (157, zm_X10_odds, false, 1392, 206) := ⟨⟨zr_X10_odds, zd_X10_odds⟩, fun _ => zi_gwI 1392 (by decide +kernel) rfl, (fun h => by cases h)⟩
theorem zl_12_161 : zi_okM 12 (161, zm_X10_choice, false, 1396, 207) := ⟨⟨zr_X10_choice, zd_X10_choice⟩, fun _ => zi_gwI 1396 (by decide +kernel) rfl, (fun h => by cases h)⟩
theorem zl_12_165 : zi_okM 12 (165, zm_X10_boats, false, 1400, 208) := ⟨⟨zr_X10_boats, zd_X10_boats⟩, fun _ => zi_gwI 1400 (by decide +kernel) rfl, (fun h => by cases h)⟩
theorem zl_12_169 : zi_okM 12 (169, zm_X10_drip, false, 1405, 209) := ⟨⟨zr_X10_drip, zd_X10_drip⟩, fun _ => zi_gwI 1405 (by decide +kernel) rfl, (fun h => by cases h)⟩
theorem zl_12_173 : zi_okM 12 (173, zm_X10_feathers, false, 1409, 210) := ⟨⟨zr_X10_feathers, zd_X10_feathers⟩, fun _ => zi_gwI 1409 (by decide +kernel) rfl, (fun h => by cases h)⟩
theorem zl_12_177 : zi_okM 12 (177, zm_X10_lots, false, 1413, 211) := ⟨⟨zr_X10_lots, zd_X10_lots⟩, fun _ => zi_gwI 1413 (by decide +kernel) rfl, (fun h => by cases h)⟩
theorem zl_12_181 : zi_okM 12 (181, zm_X10_asked, false, 1420, 212) := ⟨⟨zr_X10_asked, zd_X10_asked⟩, fun _ => zi_gwI 1420 (by decide +kernel) rfl, (fun h => by cases h)⟩
theorem zl_12_186 : zi_okM 12 (186, zm_X10_upper, false, 1424, 213) := ⟨⟨zr_X10_upper, zd_X10_upper⟩, fun _ => zi_gwI 1424 (by decide +kernel) rfl, (fun h => by cases h)⟩
theorem zl_12_190 : zi_okM 12 (190, zm_X10_lower, false, 1428, 214) := ⟨⟨zr_X10_lower, zd_X10_lower⟩, fun _ => zi_gwI 1428 (by decide +kernel) rfl, (fun h => by cases h)⟩
theorem zl_12_194 : zi_okM 12 (194, zm_X10_count, false, 1432, 216) := ⟨⟨zr_X10_count, zd_X10_count⟩, fun _ => zi_gwI 1432 (by decide +kernel) rfl, (fun h => by cases h)⟩
theorem zl_12_198 : zi_okM 12 (198, zm_X10_finding, false, 1441, 217) := ⟨⟨zr_X10_finding, zd_X10_finding⟩, fun _ => zi_gwI 1441 (by decide +kernel) rfl, (fun h => by cases h)⟩
theorem zl_12_202 : zi_okM 12 (202, zm_X10_findings, false, 1445, 218) := ⟨⟨zr_X10_findings, zd_X10_findings⟩, fun _ => zi_gwI 1445 (by decide +kernel) rfl, (fun h => by cases h)⟩
theorem zl_12_206 : zi_okM 12 (206, zm_X10_digest, false, 1449, 219) := ⟨⟨zr_X10_digest, zd_X10_digest⟩, fun _ => zi_gwI 1449 (by decide +kernel) rfl, (fun h => by cases h)⟩
set_option maxRecDepth 100000 in
theorem zl_w12 : ∀ e ∈ (zi_at zi_lks 12).getD [], zi_okM 12 e := List.forall_mem_cons.mpr ⟨zl_12_13, List.forall_mem_cons.mpr ⟨zl_12_18, List.forall_mem_cons.mpr ⟨zl_12_23, List.forall_mem_cons.mpr ⟨zl_12_27, List.forall_mem_cons.mpr ⟨zl_12_32, List.forall_mem_cons.mpr ⟨zl_12_37, List.forall_mem_cons.mpr ⟨zl_12_41, List.forall_mem_cons.mpr ⟨zl_12_45, List.forall_mem_cons.mpr ⟨zl_12_49, List.forall_mem_cons.mpr ⟨zl_12_53, List.forall_mem_cons.mpr ⟨zl_12_57, List.forall_mem_cons.mpr ⟨zl_12_61, List.forall_mem_cons.mpr ⟨zl_12_65, List.forall_mem_cons.mpr ⟨zl_12_69, List.forall_mem_cons.mpr ⟨zl_12_73, List.forall_mem_cons.mpr ⟨zl_12_77, List.forall_mem_cons.mpr ⟨zl_12_81, List.forall_mem_cons.mpr ⟨zl_12_85, List.forall_mem_cons.mpr ⟨zl_12_90, List.forall_mem_cons.mpr ⟨zl_12_94, List.forall_mem_cons.mpr ⟨zl_12_98, List.forall_mem_cons.mpr ⟨zl_12_102, List.forall_mem_cons.mpr ⟨zl_12_106, List.forall_mem_cons.mpr ⟨zl_12_110, List.forall_mem_cons.mpr ⟨zl_12_114, List.forall_mem_cons.mpr ⟨zl_12_118, List.forall_mem_cons.mpr ⟨zl_12_122, List.forall_mem_cons.mpr ⟨zl_12_126, List.forall_mem_cons.mpr ⟨zl_12_130, List.forall_mem_cons.mpr ⟨zl_12_134, List.forall_mem_cons.mpr ⟨zl_12_138, List.forall_mem_cons.mpr ⟨zl_12_142, List.forall_mem_cons.mpr ⟨zl_12_146, List.forall_mem_cons.mpr ⟨zl_12_150, List.forall_mem_cons.mpr ⟨zl_12_154, List.forall_mem_cons.mpr ⟨zl_12_158, List.forall_mem_cons.mpr ⟨zl_12_162, List.forall_mem_cons.mpr ⟨zl_12_166, List.forall_mem_cons.mpr ⟨zl_12_170, List.forall_mem_cons.mpr ⟨zl_12_174, List.forall_mem_cons.mpr ⟨zl_12_178, List.forall_mem_cons.mpr ⟨zl_12_182, List.forall_mem_cons.mpr ⟨zl_12_187, List.forall_mem_cons.mpr ⟨zl_12_191, List.forall_mem_cons.mpr ⟨zl_12_195, List.forall_mem_cons.mpr ⟨zl_12_199, List.forall_mem_cons.mpr ⟨zl_12_203, List.forall_mem_cons.mpr ⟨zl_12_17, List.forall_mem_cons.mpr ⟨zl_12_22, List.forall_mem_cons.mpr ⟨zl_12_26, List.forall_mem_cons.mpr ⟨zl_12_31, List.forall_mem_cons.mpr ⟨zl_12_36, List.forall_mem_cons.mpr ⟨zl_12_40, List.forall_mem_cons.mpr ⟨zl_12_44, List.forall_mem_cons.mpr ⟨zl_12_48, List.forall_mem_cons.mpr ⟨zl_12_52, List.forall_mem_cons.mpr ⟨zl_12_56, List.forall_mem_cons.mpr ⟨zl_12_60, List.forall_mem_cons.mpr ⟨zl_12_64, List.forall_mem_cons.mpr ⟨zl_12_68, List.forall_mem_cons.mpr ⟨zl_12_72, List.forall_mem_cons.mpr ⟨zl_12_76, List.forall_mem_cons.mpr ⟨zl_12_80, List.forall_mem_cons.mpr ⟨zl_12_84, List.forall_mem_cons.mpr ⟨zl_12_89, List.forall_mem_cons.mpr ⟨zl_12_93, List.forall_mem_cons.mpr ⟨zl_12_97, List.forall_mem_cons.mpr ⟨zl_12_101, List.forall_mem_cons.mpr ⟨zl_12_105, List.forall_mem_cons.mpr ⟨zl_12_109, List.forall_mem_cons.mpr ⟨zl_12_113, List.forall_mem_cons.mpr ⟨zl_12_117, List.forall_mem_cons.mpr ⟨zl_12_121, List.forall_mem_cons.mpr ⟨zl_12_125, List.forall_mem_cons.mpr ⟨zl_12_129, List.forall_mem_cons.mpr ⟨zl_12_133, List.forall_mem_cons.mpr ⟨zl_12_137, List.forall_mem_cons.mpr ⟨zl_12_141, List.forall_mem_cons.mpr ⟨zl_12_145, List.forall_mem_cons.mpr ⟨zl_12_149, List.forall_mem_cons.mpr ⟨zl_12_153, List.forall_mem_cons.mpr ⟨zl_12_157, List.forall_mem_cons.mpr ⟨zl_12_161, List.forall_mem_cons.mpr ⟨zl_12_165, List.forall_mem_cons.mpr ⟨zl_12_169, List.forall_mem_cons.mpr ⟨zl_12_173, List.forall_mem_cons.mpr ⟨zl_12_177, List.forall_mem_cons.mpr ⟨zl_12_181, List.forall_mem_cons.mpr ⟨zl_12_186, List.forall_mem_cons.mpr ⟨zl_12_190, List.forall_mem_cons.mpr ⟨zl_12_194, List.forall_mem_cons.mpr ⟨zl_12_198, List.forall_mem_cons.mpr ⟨zl_12_202, List.forall_mem_cons.mpr ⟨zl_12_206, fun _ h => absurd h List.not_mem_nil⟩⟩⟩⟩⟩⟩⟩⟩⟩⟩⟩⟩⟩⟩⟩⟩⟩⟩⟩⟩⟩⟩⟩⟩⟩⟩⟩⟩⟩⟩⟩⟩⟩⟩⟩⟩⟩⟩⟩⟩⟩⟩⟩⟩⟩⟩⟩⟩⟩⟩⟩⟩⟩⟩⟩⟩⟩⟩⟩⟩⟩⟩⟩⟩⟩⟩⟩⟩⟩⟩⟩⟩⟩⟩⟩⟩⟩⟩⟩⟩⟩⟩⟩⟩⟩⟩⟩⟩⟩⟩⟩⟩⟩⟩
theorem zi_lkok {w idx : Nat} {q : zi_R × Bool × Nat × Nat} (h : zi_lk w idx = some q) : zi_okM w (idx, q) := by
  have hm := zi_at_mem _ _ h
  have hw : w < 15 := by
    rcases Nat.lt_or_ge w 15 with g | g
    · exact g
    · exfalso
      have e : zi_at zi_lks w = none := by
        have : ∀ (l : List (Nat × List (Nat × zi_R × Bool × Nat × Nat))), (∀ e ∈ l.map (·.1), e < 15) → zi_at l w = none := by
          intro l
          induction l with
          | nil => intro _; rfl
          | cons x t ih =>
            intro hh
            obtain ⟨p, a⟩ := x
            unfold zi_at
            have hp : p < 15 := hh p (by simp)
            have hb : Nat.beq p w = false := by
              cases hq : Nat.beq p w with
              | false => rfl
              | true => have := Nat.eq_of_beq_eq_true hq; omega
            rw [hb]
            exact ih (fun e he => hh e (by simp at he ⊢; exact Or.inr he))
        exact this _ (by decide +kernel)
      rw [e] at hm
      cases hm
  match w, hw, hm with
  | 0, _, hm => cases hm
  | 1, _, hm => exact zl_w1 _ hm
  | 2, _, hm => exact zl_w2 _ hm
  | 3, _, hm => exact zl_w3 _ hm
  | 4, _, hm => exact zl_w4 _ hm
  | 5, _, hm => exact zl_w5 _ hm
  | 6, _, hm => exact zl_w6 _ hm
  | 7, _, hm => cases hm
  | 8, _, hm => exact zl_w8 _ hm
  | 9, _, hm => exact zl_w9 _ hm
  | 10, _, hm => exact zl_w10 _ hm
  | 11, _, hm => cases hm
  | 12, _, hm => exact zl_w12 _ hm
  | 13, _, hm => cases hm
  | 14, _, hm => cases hm
theorem zkI_3_55 : Cond.constant (zi_cn 3) 55 2985984 ∈ zi_gw := zi_gwI 831 (by decide +kernel) rfl
theorem zkI_w3 : ∀ e ∈ (zi_at zi_kIs 3).getD [], Cond.constant (zi_cn 3) e.1 e.2.1 ∈ zi_gw := List.forall_mem_cons.mpr ⟨zkI_3_55, fun _ h => absurd h List.not_mem_nil⟩
theorem zkI_8_47 : Cond.constant (zi_cn 8) 47 100000 ∈ zi_gw := zi_gwI 722 (by decide +kernel) rfl
theorem zkI_w8 : ∀ e ∈ (zi_at zi_kIs 8).getD [], Cond.constant (zi_cn 8) e.1 e.2.1 ∈ zi_gw := List.forall_mem_cons.mpr ⟨zkI_8_47, fun _ h => absurd h List.not_mem_nil⟩
theorem zkI_14_265 : Cond.constant (zi_cn 14) 265 1431655765 ∈ zi_gw := zi_gwI 869 (by decide +kernel) rfl
theorem zkI_14_266 : Cond.constant (zi_cn 14) 266 858993459 ∈ zi_gw := zi_gwI 870 (by decide +kernel) rfl
theorem zkI_14_267 : Cond.constant (zi_cn 14) 267 252645135 ∈ zi_gw := zi_gwI 871 (by decide +kernel) rfl
theorem zkI_w14 : ∀ e ∈ (zi_at zi_kIs 14).getD [], Cond.constant (zi_cn 14) e.1 e.2.1 ∈ zi_gw := List.forall_mem_cons.mpr ⟨zkI_14_265, List.forall_mem_cons.mpr ⟨zkI_14_266, List.forall_mem_cons.mpr ⟨zkI_14_267, fun _ h => absurd h List.not_mem_nil⟩⟩⟩
theorem zi_kIok {w idx : Nat} {q : Int32 × Nat} (h : zi_kI w idx = some q) : Cond.constant (zi_cn w) idx q.1 ∈ zi_gw := by
  have hm := zi_at_mem _ _ h
  unfold zi_kI at h
  cases hz : zi_at zi_kIs w with
  | none => rw [hz] at hm; cases hm
  | some l =>
    have hk := zi_at_mem _ _ hz
    rw [hz] at hm
    simp only [zi_kIs, List.mem_cons, Prod.mk.injEq, List.not_mem_nil, or_false] at hk
    rcases hk with ⟨rfl, rfl⟩ | ⟨rfl, rfl⟩ | ⟨rfl, rfl⟩
    · exact zkI_w3 _ hm
    · exact zkI_w8 _ hm
    · exact zkI_w14 _ hm
theorem zkL_5_40 : Cond.constantLong (zi_cn 5) 40 31 ∈ zi_gw := zi_gwI 960 (by decide +kernel) rfl
theorem zkL_w5 : ∀ e ∈ (zi_at zi_kLs 5).getD [], Cond.constantLong (zi_cn 5) e.1 e.2.1 ∈ zi_gw := List.forall_mem_cons.mpr ⟨zkL_5_40, fun _ h => absurd h List.not_mem_nil⟩
theorem zkL_9_301 : Cond.constantLong (zi_cn 9) 301 2985984 ∈ zi_gw := zi_gwI 849 (by decide +kernel) rfl
theorem zkL_9_330 : Cond.constantLong (zi_cn 9) 330 2147483647 ∈ zi_gw := zi_gwI 905 (by decide +kernel) rfl
theorem zkL_9_332 : Cond.constantLong (zi_cn 9) 332 48271 ∈ zi_gw := zi_gwI 906 (by decide +kernel) rfl
theorem zkL_9_346 : Cond.constantLong (zi_cn 9) 346 17 ∈ zi_gw := zi_gwI 954 (by decide +kernel) rfl
theorem zkL_9_348 : Cond.constantLong (zi_cn 9) 348 31 ∈ zi_gw := zi_gwI 955 (by decide +kernel) rfl
theorem zkL_w9 : ∀ e ∈ (zi_at zi_kLs 9).getD [], Cond.constantLong (zi_cn 9) e.1 e.2.1 ∈ zi_gw := List.forall_mem_cons.mpr ⟨zkL_9_301, List.forall_mem_cons.mpr ⟨zkL_9_330, List.forall_mem_cons.mpr ⟨zkL_9_332, List.forall_mem_cons.mpr ⟨zkL_9_346, List.forall_mem_cons.mpr ⟨zkL_9_348, fun _ h => absurd h List.not_mem_nil⟩⟩⟩⟩⟩
theorem zkL_10_83 : Cond.constantLong (zi_cn 10) 83 5 ∈ zi_gw := zi_gwI 1095 (by decide +kernel) rfl
theorem zkL_10_89 : Cond.constantLong (zi_cn 10) 89 3 ∈ zi_gw := zi_gwI 1134 (by decide +kernel) rfl
theorem zkL_10_118 : Cond.constantLong (zi_cn 10) 118 48 ∈ zi_gw := zi_gwI 1166 (by decide +kernel) rfl
theorem zkL_10_120 : Cond.constantLong (zi_cn 10) 120 57 ∈ zi_gw := zi_gwI 1167 (by decide +kernel) rfl
theorem zkL_10_150 : Cond.constantLong (zi_cn 10) 150 7 ∈ zi_gw := zi_gwI 1191 (by decide +kernel) rfl
theorem zkL_10_211 : Cond.constantLong (zi_cn 10) 211 9 ∈ zi_gw := zi_gwI 1223 (by decide +kernel) rfl
theorem zkL_10_219 : Cond.constantLong (zi_cn 10) 219 2 ∈ zi_gw := zi_gwI 1232 (by decide +kernel) rfl
theorem zkL_10_260 : Cond.constantLong (zi_cn 10) 260 12 ∈ zi_gw := zi_gwI 1361 (by decide +kernel) rfl
theorem zkL_10_287 : Cond.constantLong (zi_cn 10) 287 4 ∈ zi_gw := zi_gwI 1404 (by decide +kernel) rfl
theorem zkL_10_289 : Cond.constantLong (zi_cn 10) 289 2147483646 ∈ zi_gw := zi_gwI 1417 (by decide +kernel) rfl
theorem zkL_10_291 : Cond.constantLong (zi_cn 10) 291 48271 ∈ zi_gw := zi_gwI 1418 (by decide +kernel) rfl
theorem zkL_10_293 : Cond.constantLong (zi_cn 10) 293 2147483647 ∈ zi_gw := zi_gwI 1419 (by decide +kernel) rfl
theorem zkL_10_295 : Cond.constantLong (zi_cn 10) 295 8 ∈ zi_gw := zi_gwI 1436 (by decide +kernel) rfl
theorem zkL_10_300 : Cond.constantLong (zi_cn 10) 300 17 ∈ zi_gw := zi_gwI 1453 (by decide +kernel) rfl
theorem zkL_10_302 : Cond.constantLong (zi_cn 10) 302 31 ∈ zi_gw := zi_gwI 1454 (by decide +kernel) rfl
theorem zkL_w10 : ∀ e ∈ (zi_at zi_kLs 10).getD [], Cond.constantLong (zi_cn 10) e.1 e.2.1 ∈ zi_gw := List.forall_mem_cons.mpr ⟨zkL_10_83, List.forall_mem_cons.mpr ⟨zkL_10_89, List.forall_mem_cons.mpr ⟨zkL_10_118, List.forall_mem_cons.mpr ⟨zkL_10_120, List.forall_mem_cons.mpr ⟨zkL_10_150, List.forall_mem_cons.mpr ⟨zkL_10_211, List.forall_mem_cons.mpr ⟨zkL_10_219, List.forall_mem_cons.mpr ⟨zkL_10_260, List.forall_mem_cons.mpr ⟨zkL_10_287, List.forall_mem_cons.mpr ⟨zkL_10_289, List.forall_mem_cons.mpr ⟨zkL_10_291, List.forall_mem_cons.mpr ⟨zkL_10_293, List.forall_mem_cons.mpr ⟨zkL_10_295, List.forall_mem_cons.mpr ⟨zkL_10_300, List.forall_mem_cons.mpr ⟨zkL_10_302, fun _ h => absurd h List.not_mem_nil⟩⟩⟩⟩⟩⟩⟩⟩⟩⟩⟩⟩⟩⟩⟩
theorem zi_kLok {w idx : Nat} {q : Int64 × Nat} (h : zi_kL w idx = some q) : Cond.constantLong (zi_cn w) idx q.1 ∈ zi_gw := by
  have hm := zi_at_mem _ _ h
  unfold zi_kL at h
  cases hz : zi_at zi_kLs w with
  | none => rw [hz] at hm; cases hm
  | some l =>
    have hk := zi_at_mem _ _ hz
    rw [hz] at hm
    simp only [zi_kLs, List.mem_cons, Prod.mk.injEq, List.not_mem_nil, or_false] at hk
    rcases hk with ⟨rfl, rfl⟩ | ⟨rfl, rfl⟩ | ⟨rfl, rfl⟩
    · exact zkL_w5 _ hm
    · exact zkL_w9 _ hm
    · exact zkL_w10 _ hm
theorem zx_2_46 : Cond.methodLink (zi_cn 2) 46 Lib.Math.max.name ∈ zi_gw := zi_gwI 606 (by decide +kernel) rfl
theorem zx_2_65 : Cond.methodLink (zi_cn 2) 65 Lib.Math.min.name ∈ zi_gw := zi_gwI 652 (by decide +kernel) rfl
theorem zx_w2 : ∀ e ∈ (zi_at zi_mxs 2).getD [], (e.2.1 = 0 → Cond.methodLink (zi_cn 2) e.1 Lib.Math.abs.name ∈ zi_gw) ∧ (e.2.1 = 1 → Cond.methodLink (zi_cn 2) e.1 Lib.Math.max.name ∈ zi_gw) ∧ (e.2.1 = 2 → Cond.methodLink (zi_cn 2) e.1 Lib.Math.min.name ∈ zi_gw) := List.forall_mem_cons.mpr ⟨⟨(fun h => by cases h), fun _ => zx_2_46, (fun h => by cases h)⟩, List.forall_mem_cons.mpr ⟨⟨(fun h => by cases h), (fun h => by cases h), fun _ => zx_2_65⟩, fun _ h => absurd h List.not_mem_nil⟩⟩
theorem zx_3_65 : Cond.methodLink (zi_cn 3) 65 Lib.Math.max.name ∈ zi_gw := zi_gwI 848 (by decide +kernel) rfl
theorem zx_w3 : ∀ e ∈ (zi_at zi_mxs 3).getD [], (e.2.1 = 0 → Cond.methodLink (zi_cn 3) e.1 Lib.Math.abs.name ∈ zi_gw) ∧ (e.2.1 = 1 → Cond.methodLink (zi_cn 3) e.1 Lib.Math.max.name ∈ zi_gw) ∧ (e.2.1 = 2 → Cond.methodLink (zi_cn 3) e.1 Lib.Math.min.name ∈ zi_gw) := List.forall_mem_cons.mpr ⟨⟨(fun h => by cases h), fun _ => zx_3_65, (fun h => by cases h)⟩, fun _ h => absurd h List.not_mem_nil⟩
theorem zx_5_13 : Cond.methodLink (zi_cn 5) 13 Lib.Math.max.name ∈ zi_gw := zi_gwI 326 (by decide +kernel) rfl
theorem zx_5_27 : Cond.methodLink (zi_cn 5) 27 Lib.Math.min.name ∈ zi_gw := zi_gwI 409 (by decide +kernel) rfl
theorem zx_w5 : ∀ e ∈ (zi_at zi_mxs 5).getD [], (e.2.1 = 0 → Cond.methodLink (zi_cn 5) e.1 Lib.Math.abs.name ∈ zi_gw) ∧ (e.2.1 = 1 → Cond.methodLink (zi_cn 5) e.1 Lib.Math.max.name ∈ zi_gw) ∧ (e.2.1 = 2 → Cond.methodLink (zi_cn 5) e.1 Lib.Math.min.name ∈ zi_gw) := List.forall_mem_cons.mpr ⟨⟨(fun h => by cases h), fun _ => zx_5_13, (fun h => by cases h)⟩, List.forall_mem_cons.mpr ⟨⟨(fun h => by cases h), (fun h => by cases h), fun _ => zx_5_27⟩, fun _ h => absurd h List.not_mem_nil⟩⟩
theorem zx_6_54 : Cond.methodLink (zi_cn 6) 54 Lib.Math.min.name ∈ zi_gw := zi_gwI 673 (by decide +kernel) rfl
theorem zx_w6 : ∀ e ∈ (zi_at zi_mxs 6).getD [], (e.2.1 = 0 → Cond.methodLink (zi_cn 6) e.1 Lib.Math.abs.name ∈ zi_gw) ∧ (e.2.1 = 1 → Cond.methodLink (zi_cn 6) e.1 Lib.Math.max.name ∈ zi_gw) ∧ (e.2.1 = 2 → Cond.methodLink (zi_cn 6) e.1 Lib.Math.min.name ∈ zi_gw) := List.forall_mem_cons.mpr ⟨⟨(fun h => by cases h), (fun h => by cases h), fun _ => zx_6_54⟩, fun _ h => absurd h List.not_mem_nil⟩
theorem zx_8_52 : Cond.methodLink (zi_cn 8) 52 Lib.Math.min.name ∈ zi_gw := zi_gwI 728 (by decide +kernel) rfl
theorem zx_8_58 : Cond.methodLink (zi_cn 8) 58 Lib.Math.max.name ∈ zi_gw := zi_gwI 729 (by decide +kernel) rfl
theorem zx_w8 : ∀ e ∈ (zi_at zi_mxs 8).getD [], (e.2.1 = 0 → Cond.methodLink (zi_cn 8) e.1 Lib.Math.abs.name ∈ zi_gw) ∧ (e.2.1 = 1 → Cond.methodLink (zi_cn 8) e.1 Lib.Math.max.name ∈ zi_gw) ∧ (e.2.1 = 2 → Cond.methodLink (zi_cn 8) e.1 Lib.Math.min.name ∈ zi_gw) := List.forall_mem_cons.mpr ⟨⟨(fun h => by cases h), (fun h => by cases h), fun _ => zx_8_52⟩, List.forall_mem_cons.mpr ⟨⟨(fun h => by cases h), fun _ => zx_8_58, (fun h => by cases h)⟩, fun _ h => absurd h List.not_mem_nil⟩⟩
theorem zx_9_279 : Cond.methodLink (zi_cn 9) 279 Lib.Math.max.name ∈ zi_gw := zi_gwI 781 (by decide +kernel) rfl
theorem zx_9_367 : Cond.methodLink (zi_cn 9) 367 Lib.Math.abs.name ∈ zi_gw := zi_gwI 880 (by decide +kernel) rfl
theorem zx_9_370 : Cond.methodLink (zi_cn 9) 370 Lib.Math.min.name ∈ zi_gw := zi_gwI 883 (by decide +kernel) rfl
theorem zx_w9 : ∀ e ∈ (zi_at zi_mxs 9).getD [], (e.2.1 = 0 → Cond.methodLink (zi_cn 9) e.1 Lib.Math.abs.name ∈ zi_gw) ∧ (e.2.1 = 1 → Cond.methodLink (zi_cn 9) e.1 Lib.Math.max.name ∈ zi_gw) ∧ (e.2.1 = 2 → Cond.methodLink (zi_cn 9) e.1 Lib.Math.min.name ∈ zi_gw) := List.forall_mem_cons.mpr ⟨⟨(fun h => by cases h), fun _ => zx_9_279, (fun h => by cases h)⟩, List.forall_mem_cons.mpr ⟨⟨fun _ => zx_9_367, (fun h => by cases h), (fun h => by cases h)⟩, List.forall_mem_cons.mpr ⟨⟨(fun h => by cases h), (fun h => by cases h), fun _ => zx_9_370⟩, fun _ h => absurd h List.not_mem_nil⟩⟩⟩
theorem zi_mxok {w idx t : Nat} (h : zi_mx w idx = some t) : (t = 0 → Cond.methodLink (zi_cn w) idx Lib.Math.abs.name ∈ zi_gw) ∧ (t = 1 → Cond.methodLink (zi_cn w) idx Lib.Math.max.name ∈ zi_gw) ∧ (t = 2 → Cond.methodLink (zi_cn w) idx Lib.Math.min.name ∈ zi_gw) := by
  unfold zi_mx at h
  cases hq : zi_at ((zi_at zi_mxs w).getD []) idx with
  | none => rw [hq] at h; cases h
  | some q =>
    rw [hq] at h
    cases h
    have hm := zi_at_mem _ _ hq
    cases hz : zi_at zi_mxs w with
    | none => rw [hz] at hm; cases hm
    | some l =>
      have hk := zi_at_mem _ _ hz
      rw [hz] at hm
      simp only [zi_mxs, List.mem_cons, Prod.mk.injEq, List.not_mem_nil, or_false] at hk
      rcases hk with ⟨rfl, rfl⟩ | ⟨rfl, rfl⟩ | ⟨rfl, rfl⟩ | ⟨rfl, rfl⟩ | ⟨rfl, rfl⟩ | ⟨rfl, rfl⟩
      · exact zx_w2 _ hm
      · exact zx_w3 _ hm
      · exact zx_w5 _ hm
      · exact zx_w6 _ hm
      · exact zx_w8 _ hm
      · exact zx_w9 _ hm
theorem zx_cabs : Cond.code Lib.Math.abs.name Lib.Math.abs.code 1 (some .int) ∈ zi_gw := zi_gwI 882 (by decide +kernel) rfl
theorem zx_sabs : Cond.static Lib.Math.abs.name ∈ zi_gw := zi_gwI 881 (by decide +kernel) rfl
theorem zx_cmax : Cond.code Lib.Math.max.name Lib.Math.max.code 2 (some .int) ∈ zi_gw := zi_gwI 328 (by decide +kernel) rfl
theorem zx_smax : Cond.static Lib.Math.max.name ∈ zi_gw := zi_gwI 327 (by decide +kernel) rfl
theorem zx_cmin : Cond.code Lib.Math.min.name Lib.Math.min.code 2 (some .int) ∈ zi_gw := zi_gwI 411 (by decide +kernel) rfl
theorem zx_smin : Cond.static Lib.Math.min.name ∈ zi_gw := zi_gwI 410 (by decide +kernel) rfl
theorem zx_ini : Cond.initialized "java/lang/Math" ∈ zi_gw := zi_gwI 75 (by decide +kernel) rfl
theorem zi_slok {w idx : Nat} {q : Nat × Nat} (h : zi_sl w idx = some q) : (q.1 = 91 ∧ Cond.fieldLinkNest (zi_cn w) idx "WaxWings" "SIGNS" "[I" "WaxWings" ∈ lw_tbl) ∨ (q.1 = 92 ∧ Cond.fieldLinkNest (zi_cn w) idx "WaxWings" "KIND_LETTERS" "[I" "WaxWings" ∈ lw_tbl) := by
  have hm := zi_at_mem _ _ h
  cases hz : zi_at zi_sls w with
  | none => rw [hz] at hm; cases hm
  | some l =>
    have hk := zi_at_mem _ _ hz
    rw [hz] at hm
    simp only [zi_sls, List.mem_cons, Prod.mk.injEq, List.not_mem_nil, or_false] at hk
    obtain ⟨rfl, rfl⟩ := hk
    simp at hm
    rcases hm with ⟨rfl, rfl⟩ | ⟨rfl, rfl⟩
    · exact Or.inl ⟨rfl, List.mem_of_getElem? (i := 507) (by decide +kernel)⟩
    · exact Or.inr ⟨rfl, List.mem_of_getElem? (i := 528) (by decide +kernel)⟩
end
section
/-! THE WORLD: what the heap holds when the abstract memory is M -/
def zi_cv (ad : Nat → Nat → Nat) (v : zi_V) : Value := match v with
  | .inl x => .int x
  | .inr (.inl x) => .long x
  | .inr (.inr q) => va_rf (q.2.map (ad q.1))
def zi_fs (ad : Nat → Nat → Nat) (M : zi_M) (c k : Nat) : List Value := (List.range (zi_ftl c).length).map (fun s => zi_cv ad (zi_rd M c k s ((zi_ftl c)[s]?.getD 0)))
def zi_con (ad : Nat → Nat → Nat) (M : zi_M) (c k : Nat) : (Nat → Int32) ⊕ (Nat → Int64) ⊕ (Nat → UInt32) ⊕ (Nat → UInt64) ⊕ (Nat → Option Nat) := if zi_aty c = 1 then .inr (.inl (M.2.1 c k)) else if zi_aty c = 2 then .inr (.inr (.inr (.inr (fun j => some (ad (zi_ek c) (zi_rf c k j)))))) else .inl (M.1 c k)
def zi_ent (ca : Nat → ClassId) (ad : Nat → Nat → Nat) (M : zi_M) (c k : Nat) : va_E := if c < 11 then .inr (c, zi_fs ad M c k) else .inl (ca c, zi_ln c k, zi_con ad M c k)
def zi_all : List (Nat × Nat) := (List.range 44).flatMap (fun c => ((List.range 300).filter (zi_ex c)).map (fun k => (c, k)))
def zi_wl (ca : Nat → ClassId) (ad : Nat → Nat → Nat) (M : zi_M) : va_W := zi_all.map (fun q => (ad q.1 q.2, zi_ent ca ad M q.1 q.2))
theorem zi_nd : va_nd (zi_all.map (fun q => q.1 * 300 + q.2)) = true := by decide +kernel
theorem zi_cn44 : ∀ c, c < 90 → 44 ≤ c → (zi_at zi_cns c).getD 0 = 0 := by decide +kernel
theorem zi_cn300 : ∀ c, c < 90 → (zi_at zi_cns c).getD 0 ≤ 300 := by decide +kernel
theorem zi_exb {c k : Nat} (hc : c < 90) (h : zi_ex c k = true) : c < 44 ∧ k < 300 := by
  unfold zi_ex at h
  by_cases h7 : c = 7
  · subst h7
    rw [if_pos rfl] at h
    simp only [Bool.or_eq_true, Bool.and_eq_true, Nat.blt_eq, Nat.ble_eq, Nat.beq_eq] at h
    omega
  · rw [if_neg h7, Nat.blt_eq] at h
    refine ⟨?_, Nat.lt_of_lt_of_le h (zi_cn300 c hc)⟩
    rcases Nat.lt_or_ge c 44 with g | g
    · exact g
    · have := zi_cn44 c hc g
      omega
theorem zi_in {c k : Nat} (hc : c < 90) (h : zi_ex c k = true) : ∃ i : Nat, zi_all[i]? = some (c, k) := by
  obtain ⟨h1, h2⟩ := zi_exb hc h
  apply List.getElem?_of_mem
  unfold zi_all
  exact List.mem_flatMap.mpr ⟨c, List.mem_range.mpr h1, List.mem_map.mpr ⟨k, List.mem_filter.mpr ⟨List.mem_range.mpr h2, h⟩, rfl⟩⟩
theorem zi_inj {i j : Nat} {q : Nat × Nat} (h1 : zi_all[i]? = some q) (h2 : zi_all[j]? = some q) : i = j :=
  va_nd_inj _ zi_nd i j (q.1 * 300 + q.2) (by rw [List.getElem?_map, h1]; rfl) (by rw [List.getElem?_map, h2]; rfl)
theorem zi_alt {i : Nat} {c k : Nat} (h : zi_all[i]? = some (c, k)) : c < 44 ∧ zi_ex c k = true := by
  have hm := List.mem_of_getElem? h
  unfold zi_all at hm
  obtain ⟨c', h1, h2⟩ := List.mem_flatMap.mp hm
  obtain ⟨k', h3, h4⟩ := List.mem_map.mp h2
  cases h4
  exact ⟨List.mem_range.mp h1, (List.mem_filter.mp h3).2⟩
theorem zi_wg {ca : Nat → ClassId} {ad : Nat → Nat → Nat} {M : zi_M} {i c k : Nat} (h : zi_all[i]? = some (c, k)) : (zi_wl ca ad M)[i]? = some (ad c k, zi_ent ca ad M c k) := by
  unfold zi_wl
  rw [List.getElem?_map, h]; rfl
/-- one cell changes -/
theorem zi_set {ca : Nat → ClassId} {ad : Nat → Nat → Nat} {M M' : zi_M} {i c k : Nat} (h : zi_all[i]? = some (c, k)) (ho : ∀ c' k', c' < 44 → ¬ (c' = c ∧ k' = k) → zi_ent ca ad M' c' k' = zi_ent ca ad M c' k') : (zi_wl ca ad M).set i (ad c k, zi_ent ca ad M' c k) = zi_wl ca ad M' := by
  apply List.ext_getElem?
  intro j
  by_cases hj : j = i
  · subst hj
    have hl : j < (zi_wl ca ad M).length := (List.getElem?_eq_some_iff.mp (zi_wg (ca := ca) (ad := ad) (M := M) h)).1
    rw [List.getElem?_set_self hl, zi_wg h]
  · rw [List.getElem?_set_ne (Ne.symm hj)]
    unfold zi_wl
    rw [List.getElem?_map, List.getElem?_map]
    cases hq : zi_all[j]? with
    | none => rfl
    | some q =>
      obtain ⟨c', k'⟩ := q
      have hne : ¬ (c' = c ∧ k' = k) := by
        rintro ⟨rfl, rfl⟩
        exact hj (zi_inj hq h)
      have := ho c' k' (zi_alt hq).1 hne
      simp only [Option.map_some]
      rw [this]
theorem zi_fsl {ad : Nat → Nat → Nat} {M : zi_M} {c k : Nat} : (zi_fs ad M c k).length = (zi_ftl c).length := by simp [zi_fs]
theorem zi_fsg {ad : Nat → Nat → Nat} {M : zi_M} {c k s ty : Nat} (h : (zi_ftl c)[s]? = some ty) : (zi_fs ad M c k)[s]? = some (zi_cv ad (zi_rd M c k s ty)) := by
  have hl : s < (zi_ftl c).length := (List.getElem?_eq_some_iff.mp h).1
  unfold zi_fs
  rw [List.getElem?_map, List.getElem?_range hl, Option.map_some, h]; rfl
/-- cells that aren't written stay as they are -/
theorem zi_fse {ad : Nat → Nat → Nat} {M M' : zi_M} {c k : Nat} (h1 : ∀ s, M'.1 c k s = M.1 c k s) (h2 : ∀ s, M'.2.1 c k s = M.2.1 c k s) (h3 : ∀ s, M'.2.2 c k s = M.2.2 c k s) : zi_fs ad M' c k = zi_fs ad M c k := by
  unfold zi_fs
  apply List.map_congr_left
  intro s _
  simp only [zi_rd, zi_gr, h1, h2, h3]
theorem zi_ente {ca : Nat → ClassId} {ad : Nat → Nat → Nat} {M M' : zi_M} {c k : Nat} (h1 : ∀ s, M'.1 c k s = M.1 c k s) (h2 : ∀ s, M'.2.1 c k s = M.2.1 c k s) (h3 : ∀ s, M'.2.2 c k s = M.2.2 c k s) : zi_ent ca ad M' c k = zi_ent ca ad M c k := by
  unfold zi_ent
  rw [zi_fse h1 h2 h3]
  have e1 : M'.1 c k = M.1 c k := funext h1
  have e2 : M'.2.1 c k = M.2.1 c k := funext h2
  unfold zi_con
  rw [e1, e2]
theorem zi_sIo {M : zi_M} {c k s : Nat} {x : Int32} {c' k' : Nat} (h : ¬ (c' = c ∧ k' = k)) (s' : Nat) : (zi_sI M c k s x).1 c' k' s' = M.1 c' k' s' := by
  simp only [zi_sI]
  split
  · next e => split
              · split
                · next e2 => exact absurd ⟨e, e2⟩ h
                · rfl
              · rfl
  · rfl
theorem zi_sLo {M : zi_M} {c k s : Nat} {x : Int64} {c' k' : Nat} (h : ¬ (c' = c ∧ k' = k)) (s' : Nat) : (zi_sL M c k s x).2.1 c' k' s' = M.2.1 c' k' s' := by
  simp only [zi_sL]
  split
  · next e => split
              · split
                · next e2 => exact absurd ⟨e, e2⟩ h
                · rfl
              · rfl
  · rfl
theorem zi_sRo {M : zi_M} {c k s : Nat} {x : Option Nat} {c' k' : Nat} (h : ¬ (c' = c ∧ k' = k)) (s' : Nat) : (zi_sR M c k s x).2.2 c' k' s' = M.2.2 c' k' s' := by
  simp only [zi_sR]
  split
  · next e => split
              · split
                · next e2 => exact absurd ⟨e, e2⟩ h
                · rfl
              · rfl
  · rfl
theorem zi_cpo {M : zi_M} {c0 k0 c k a b n : Nat} {c' k' : Nat} (h : ¬ (c' = c ∧ k' = k)) (s' : Nat) : (zi_cp M c0 k0 c k a b n).1 c' k' s' = M.1 c' k' s' := by
  simp only [zi_cp]
  split
  · next e => split
              · next e2 => exact absurd ⟨e, e2⟩ h
              · rfl
  · rfl
theorem zi_sIs {M : zi_M} {c k s : Nat} {x : Int32} : (zi_sI M c k s x).1 c k s = x := by simp [zi_sI]
theorem zi_sIn {M : zi_M} {c k s s' : Nat} {x : Int32} (h : s' ≠ s) : (zi_sI M c k s x).1 c k s' = M.1 c k s' := by simp [zi_sI, h]
theorem zi_sLs {M : zi_M} {c k s : Nat} {x : Int64} : (zi_sL M c k s x).2.1 c k s = x := by simp [zi_sL]
theorem zi_sLn {M : zi_M} {c k s s' : Nat} {x : Int64} (h : s' ≠ s) : (zi_sL M c k s x).2.1 c k s' = M.2.1 c k s' := by simp [zi_sL, h]
theorem zi_sRs {M : zi_M} {c k s : Nat} {x : Option Nat} : (zi_sR M c k s x).2.2 c k s = x := by simp [zi_sR]
theorem zi_sRn {M : zi_M} {c k s s' : Nat} {x : Option Nat} (h : s' ≠ s) : (zi_sR M c k s x).2.2 c k s' = M.2.2 c k s' := by simp [zi_sR, h]
/-- a written object -/
theorem zi_fsw {ad : Nat → Nat → Nat} {M M' : zi_M} {c k s ty : Nat} {v : zi_V} (h : (zi_ftl c)[s]? = some ty) (hv : zi_rd M' c k s ty = v) (ho : ∀ s' ty', s' ≠ s → zi_rd M' c k s' ty' = zi_rd M c k s' ty') : zi_fs ad M' c k = (zi_fs ad M c k).set s (zi_cv ad v) := by
  apply List.ext_getElem?
  intro j
  by_cases hj : j = s
  · subst hj
    have hl : j < (zi_fs ad M c k).length := by rw [zi_fsl]; exact (List.getElem?_eq_some_iff.mp h).1
    rw [List.getElem?_set_self hl, zi_fsg h, hv]
  · rw [List.getElem?_set_ne (Ne.symm hj)]
    unfold zi_fs
    rw [List.getElem?_map, List.getElem?_map]
    cases hq : (List.range (zi_ftl c).length)[j]? with
    | none => rfl
    | some q =>
      have : q = j := by
        have := (List.getElem?_eq_some_iff.mp hq).2
        simpa using this.symm
      subst this
      simp only [Option.map_some]
      rw [ho _ _ hj]
theorem zi_fswI {ad : Nat → Nat → Nat} {M : zi_M} {c k s ty : Nat} {x : Int32} (h : (zi_ftl c)[s]? = some ty) (ht : ty = 0 ∨ ty = 3) : zi_fs ad (zi_sI M c k s x) c k = (zi_fs ad M c k).set s (.int x) := by
  refine zi_fsw (v := .inl x) h ?_ ?_
  · rcases ht with rfl | rfl <;> simp [zi_rd, zi_sIs]
  · intro s' ty' hs
    simp only [zi_rd, zi_gr, zi_sIn hs]
    rfl
theorem zi_fswL {ad : Nat → Nat → Nat} {M : zi_M} {c k s : Nat} {x : Int64} (h : (zi_ftl c)[s]? = some 1) : zi_fs ad (zi_sL M c k s x) c k = (zi_fs ad M c k).set s (.long x) := by
  refine zi_fsw (v := .inr (.inl x)) h ?_ ?_
  · simp [zi_rd, zi_sLs]
  · intro s' ty' hs
    simp only [zi_rd, zi_gr, zi_sLn hs]
    rfl
theorem zi_fswR {ad : Nat → Nat → Nat} {M : zi_M} {c k s : Nat} {x : Option Nat} (h : (zi_ftl c)[s]? = some 2) (hm : zi_mu c s = true) : zi_fs ad (zi_sR M c k s x) c k = (zi_fs ad M c k).set s (va_rf (x.map (ad (zi_fk c s)))) := by
  refine zi_fsw (v := .inr (.inr (zi_fk c s, x))) h ?_ ?_
  · simp [zi_rd, zi_gr, hm, zi_sRs]
  · intro s' ty' hs
    simp only [zi_rd, zi_gr, zi_sRn hs]
    rfl
/-- arrays that are only read: the script, the class's static arrays -/
def zi_RO (ad : Nat → Nat → Nat) (M : zi_M) (U : State) (H : Heap) : Prop := ∀ c, 90 ≤ c → c < 93 → ∃ cell : Cell, H[ad c 0]? = some cell ∧ U.isArrayOf cell .int ∧ cell.vm ≠ .unknown ∧ zi_len M c 0 ≤ cell.slots.size ∧ cell.slots.size.toInt32 = Int32.ofNat (zi_len M c 0) ∧ ∀ j : Nat, j < zi_len M c 0 → cell.slots[j]? = some (.int (M.1 c 0 j))
def zi_tyl : List (Nat × FieldType) := [(11, .int), (12, .int), (13, .object "WaxWings$Bird"), (14, .int), (15, .object "WaxWings$Spot"), (16, .object "WaxWings$Spot"), (17, .int), (18, .object "WaxWings$Spot"), (19, .object "WaxWings$Row"), (20, .object "WaxWings$Row"), (21, .object "WaxWings$Sky"), (22, .int), (23, .int), (24, .int), (25, .int), (26, .int), (27, .int), (28, .int), (29, .int), (30, .boolean), (31, .int), (32, .int), (33, .int), (34, .int), (35, .int), (36, .int), (37, .int), (38, .int), (39, .int), (40, .int), (41, .long), (42, .long), (43, .int)]
def zi_tys (ca : Nat → ClassId) : List (ClassId × FieldType) := zi_tyl.map (fun q => (ca q.1, q.2))
def zi_isN : Cond → Bool
  | .fieldLinkNest .. => true
  | .methodLinkNest .. => true
  | _ => false
def zi_K (D : va_G) (ca : Nat → ClassId) (U : State) : Prop := va_K D vwCl (zi_tys ca) U ∧ ∀ w ∈ lw_tbl, zi_isN w = true → va_Nw w U
def zi_Z (ad : Nat → Nat → Nat) (A : Nat → Prop) (U : State) (H : Heap) : Prop := va_Z "WaxWings" "SIGNS" "[I" (.ref (ad 91 0)) A U H ∧ va_Z "WaxWings" "KIND_LETTERS" "[I" (.ref (ad 92 0)) A U H
def zi_NA (ad : Nat → Nat → Nat) (A : Nat → Prop) (U : State) : Prop := ∀ c, 90 ≤ c → c < 93 → ¬ A (ad c 0) ∧ ad c 0 < U.heap.size
def zi_vl (v : zi_V) : Prop := match v with
  | .inr (.inr (c, some k)) => zi_ex c k = true
  | _ => True
def zi_vm (M : zi_M) : Prop := ∀ c k s o, zi_mu c s = true → M.2.2 c k s = some o → zi_ex (zi_fk c s) o = true
def zi_Lr (ad : Nat → Nat → Nat) (ls : Array Slot) (n : Nat) (L : zi_L) : Prop := ls.size = n ∧ L.length = n ∧ lv_wf ls ∧ ∀ (i : Nat) (v : zi_V), L[i]? = some (some v) → ls[i]? = some (.val (zi_cv ad v))
/-- the heap holds M -/
def zi_H (D : va_G) (ca : Nat → ClassId) (ad : Nat → Nat → Nat) (A : Nat → Prop) (M : zi_M) (U : State) (H : Heap) : Prop := va_P D vwCl (zi_wl ca ad M) H ∧ va_D A (zi_wl ca ad M) ∧ zi_RO ad M U H ∧ zi_vm M
def zi_P (D : va_G) (ca : Nat → ClassId) (ad : Nat → Nat → Nat) (A : Nat → Prop) (M : zi_M) (U : State) : Prop := zi_H D ca ad A M U U.heap ∧ zi_K D ca U ∧ zi_Z ad A U U.heap ∧ zi_NA ad A U
end
section
/-! ROWS OVER THE WORLD: an instruction that reads or writes a cell -/
theorem zi_clok {ci : Nat} {C : String} {T : u_T} {N : Nat} (h : vwCl[ci]? = some (C, T, N)) : (∀ w ∈ u_ws C T N, w ∈ zi_gw) ∧ (∃ ty0 : Nat → FieldType, ∀ k, k < N → parseFieldDescriptor (T k).2.2.1 = some (ty0 k)) ∧ (∀ a, a < N → ∀ b, b < N → a ≠ b → (T a).2.1 ≠ (T b).2.1) := by
  match ci, h with
  | 0, h => cases h; exact ⟨zi_ly0, ⟨tyX0, tyX0_ok⟩, nmX0⟩
  | 1, h => cases h; exact ⟨zi_ly1, ⟨tyX1, tyX1_ok⟩, nmX1⟩
  | 2, h => cases h; exact ⟨zi_ly2, ⟨tyX2, tyX2_ok⟩, nmX2⟩
  | 3, h => cases h; exact ⟨zi_ly3, ⟨tyX3, tyX3_ok⟩, nmX3⟩
  | 4, h => cases h; exact ⟨zi_ly4, ⟨tyX4, tyX4_ok⟩, nmX4⟩
  | 5, h => cases h; exact ⟨zi_ly5, ⟨tyX5, tyX5_ok⟩, nmX5⟩
  | 6, h => cases h; exact ⟨zi_ly6, ⟨tyX6, tyX6_ok⟩, nmX6⟩
  | 7, h => cases h; exact ⟨zi_ly7, ⟨tyX7, tyX7_ok⟩, nmX7⟩
  | 8, h => cases h; exact ⟨zi_ly8, ⟨tyX8, tyX8_ok⟩, nmX8⟩
  | 9, h => cases h; exact ⟨zi_ly9, ⟨tyX9, tyX9_ok⟩, nmX9⟩
  | 10, h => cases h; exact ⟨zi_ly10, ⟨tyX10, tyX10_ok⟩, nmX10⟩
  | k + 11, h => simp at h
theorem zi_ty0 : ∀ c, c < 44 → zi_aty c = 0 → 11 ≤ c ∧ zi_tyl[c - 11]? = some (c, .int) := by decide +kernel
theorem zi_ty1 : ∀ c, c < 44 → zi_aty c = 1 → 11 ≤ c ∧ zi_tyl[c - 11]? = some (c, .long) := by decide +kernel
theorem zi_ty3 : ∀ c, c < 44 → zi_aty c = 3 → 11 ≤ c ∧ zi_tyl[c - 11]? = some (c, .boolean) := by decide +kernel
theorem zi_ty2 : ∀ c, c < 44 → zi_aty c = 2 → 11 ≤ c ∧ ∃ C : String, zi_tyl[c - 11]? = some (c, .object C) := by
  have h : ∀ c, c < 44 → zi_aty c = 2 → 11 ≤ c ∧ (match zi_tyl[c - 11]? with | some (c', .object _) => c' == c | _ => false) = true := by decide +kernel
  intro c hc h2
  obtain ⟨h3, h4⟩ := h c hc h2
  refine ⟨h3, ?_⟩
  split at h4
  · next c' C e =>
    rw [e, eq_of_beq h4]
    exact ⟨C, rfl⟩
  · cases h4
theorem zi_tya : ∀ c, c < 44 → 11 ≤ c → ∃ ty, zi_tyl[c - 11]? = some (c, ty) := by
  intro c h1 h2
  have h : ∀ c, c < 44 → 11 ≤ c → zi_tyl[c - 11]?.map (·.1) = some c := by decide +kernel
  have h3 := h c h1 h2
  cases h4 : zi_tyl[c - 11]? with
  | none => rw [h4] at h3; cases h3
  | some q => rw [h4] at h3; obtain ⟨a, b⟩ := q; simp at h3; subst h3; exact ⟨b, rfl⟩
theorem zi_tg {ca : Nat → ClassId} {c : Nat} {ty : FieldType} (h : zi_tyl[c - 11]? = some (c, ty)) : (zi_tys ca)[c - 11]? = some (ca c, ty) := by
  unfold zi_tys
  rw [List.getElem?_map, h]; rfl
theorem zi_lenn {M : zi_M} {c k : Nat} (h : c < 90) : zi_len M c k = zi_ln c k := by
  unfold zi_len
  rw [if_neg (by omega)]
theorem zi_ro_ty : ∀ c, c < 93 → zi_aty c = 0 → c < 44 ∨ 90 ≤ c := by decide +kernel
/-- kinds that there are -/
theorem zi_k93 {c k : Nat} (h : zi_ex c k = true) : c < 93 := by
  rcases Nat.lt_or_ge c 93 with g | g
  · exact g
  · exfalso
    unfold zi_ex at h
    rw [if_neg (by omega), Nat.blt_eq] at h
    have e : ∀ (l : List (Nat × Nat)), (∀ e ∈ l, e.1 < 93) → zi_at l c = none := by
      intro l
      induction l with
      | nil => intro _; rfl
      | cons x t ih =>
        intro hh
        obtain ⟨p, a⟩ := x
        unfold zi_at
        have hp : p < 93 := hh (p, a) List.mem_cons_self
        have hb : Nat.beq p c = false := by
          cases hq : Nat.beq p c with
          | false => rfl
          | true => have := Nat.eq_of_beq_eq_true hq; omega
        rw [hb]
        exact ih (fun e he => hh e (List.mem_cons_of_mem _ he))
    rw [e zi_cns (by decide +kernel)] at h
    exact Nat.not_lt_zero _ h
theorem zi_k0 : ∀ c, c < 93 → 90 ≤ c → (zi_at zi_cns c).getD 0 = 1 := by decide +kernel
theorem zi_k90 {c k : Nat} (hc : 90 ≤ c) (h : zi_ex c k = true) : c < 93 ∧ k = 0 := by
  have h1 := zi_k93 h
  unfold zi_ex at h
  rw [if_neg (by omega), Nat.blt_eq, zi_k0 c h1 hc] at h
  exact ⟨h1, by omega⟩
section ZR
variable {p : Program} {l : Launch} {e : Env} {R : Room} {s : State} {m : MethodId} {args : Array Value} {below : List Frame} {meth : Method} {c : Code} {H : Heap} {locs : List Loc} {cells slots : Nat} {Q : State → Prop}
variable {cc : ByteArray} {pc : Nat} {ls : Array Slot} {rest : List Value} {D : va_G} {ca : Nat → ClassId} {ad : Nat → Nat → Nat} {A : Nat → Prop} {M : zi_M}
theorem zi_ROk {M' : zi_M} {H1 : Heap} {locs1 : List Loc} (h : zi_RO ad M s H) (hS : va_S A s.heap H locs) (hS1 : va_S A s.heap H1 locs1) (hN : zi_NA ad A s) (he : ∀ c, 90 ≤ c → c < 93 → ∀ k j, M'.1 c k j = M.1 c k j) : zi_RO ad M' s H1 := by
  intro c h1 h2
  obtain ⟨cell, a1, a2, a3, a4, a5, a6⟩ := h c h1 h2
  have hl : zi_len M' c 0 = zi_len M c 0 := by
    unfold zi_len
    rw [he 90 (by omega) (by omega)]
  refine ⟨cell, ?_, a2, a3, by rw [hl]; exact a4, by rw [hl]; exact a5, fun j hj => ?_⟩
  · rw [hS1.2.1 _ (hN c h1 h2).2 (hN c h1 h2).1, ← hS.2.1 _ (hN c h1 h2).2 (hN c h1 h2).1]
    exact a1
  · rw [he c h1 h2]
    exact a6 j (by rw [← hl]; exact hj)
theorem zi_after {M' : zi_M} {i c0 k0 : Nat} {H1 : Heap} {locs1 : List Loc} (hi : zi_all[i]? = some (c0, k0)) (hH : zi_H D ca ad A M s H) (hS : va_S A s.heap H locs) (hN : zi_NA ad A s) (hP1 : va_P D vwCl ((zi_wl ca ad M).set i (ad c0 k0, zi_ent ca ad M' c0 k0)) H1) (hD1 : va_D A ((zi_wl ca ad M).set i (ad c0 k0, zi_ent ca ad M' c0 k0))) (hS1 : va_S A s.heap H1 locs1)
    (o1 : ∀ c' k', ¬ (c' = c0 ∧ k' = k0) → ∀ j, M'.1 c' k' j = M.1 c' k' j) (o2 : ∀ c' k', ¬ (c' = c0 ∧ k' = k0) → ∀ j, M'.2.1 c' k' j = M.2.1 c' k' j) (o3 : ∀ c' k', ¬ (c' = c0 ∧ k' = k0) → ∀ j, M'.2.2 c' k' j = M.2.2 c' k' j) (hv : zi_vm M') : zi_H D ca ad A M' s H1 := by
  have e := zi_set (ca := ca) (ad := ad) (M := M) (M' := M') hi (fun c' k' _ hne => zi_ente (o1 c' k' hne) (o2 c' k' hne) (o3 c' k' hne))
  rw [e] at hP1 hD1
  have h44 := (zi_alt hi).1
  exact ⟨hP1, hD1, zi_ROk hH.2.2.1 hS hS1 hN (fun c h1 h2 k j => o1 c k (by omega) j), hv⟩
theorem zi_entO {c0 k0 : Nat} (h : c0 < 11) : zi_ent ca ad M c0 k0 = .inr (c0, zi_fs ad M c0 k0) := by unfold zi_ent; rw [if_pos h]
theorem zi_entA {c0 k0 : Nat} (h : 11 ≤ c0) : zi_ent ca ad M c0 k0 = .inl (ca c0, zi_ln c0 k0, zi_con ad M c0 k0) := by unfold zi_ent; rw [if_neg (by omega)]
theorem zi_conI {c0 k0 : Nat} (h : zi_aty c0 = 0 ∨ zi_aty c0 = 3) : zi_con ad M c0 k0 = .inl (M.1 c0 k0) := by unfold zi_con; rcases h with h | h <;> rw [h] <;> rfl
theorem zi_conL {c0 k0 : Nat} (h : zi_aty c0 = 1) : zi_con ad M c0 k0 = .inr (.inl (M.2.1 c0 k0)) := by unfold zi_con; rw [h]; rfl
theorem zi_conR {c0 k0 : Nat} (h : zi_aty c0 = 2) : zi_con ad M c0 k0 = .inr (.inr (.inr (.inr (fun j => some (ad (zi_ek c0) (zi_rf c0 k0 j)))))) := by unfold zi_con; rw [h]; rfl
theorem zi_getf (hx : p.tables.exec = Jvm.exec) (hb : c.code = cc) {w idx : Nat} (hown : s.vm.findClass (zi_cn w) = some m.cls) (hg : ∀ w ∈ zi_gw, w.before args s = true) (hK : zi_K D ca s) (hP : va_P D vwCl (zi_wl ca ad M) H) {q : Nat × Nat × Nat × Bool × Nat} (hq : zi_fl w idx = some q) {k : Nat} (hex : zi_ex q.1 k = true) (hdg : decode cc pc = .ok (.getfield idx, 3))
    (kk : W p l e R s m args below meth c H locs cells slots Q (F0 m (pc + 3) ls (zi_cv ad (zi_rd M q.1 k q.2.1 q.2.2.1) :: rest))) : W p l e R s m args below meth c H locs cells slots Q (F0 m pc ls (.ref (ad q.1 k) :: rest)) := by
  obtain ⟨C, T, N, hc, hk, hN, hft, hT1, hl, hln, -, -, -, -, -, h11⟩ := zi_flok hq
  dsimp only at hc hk hN hft hT1 hl hln h11
  obtain ⟨i, hi⟩ := zi_in (by omega) hex
  have he := zi_wg (ca := ca) (ad := ad) (M := M) hi
  rw [zi_entO h11] at he
  obtain ⟨hin, -, -⟩ := zi_clok hc
  cases hn : q.2.2.2.1 with
  | false => exact va_get hx hb hg hin hown hK.1 hP i he hc q.2.1 hk (hg _ (hl hn)) (fun x h => by rw [hT1] at h; exact h) (zi_fsg hft) hdg kk
  | true => exact va_getN hx hb hg hin hown hK.1 hP i he hc q.2.1 hk (va_Nw.use rfl (hK.2 _ (hln hn) rfl)) (fun x h => by rw [hT1] at h; exact h) (zi_fsg hft) hdg kk
theorem zi_putV (hx : p.tables.exec = Jvm.exec) (hb : c.code = cc) {w idx : Nat} (hown : s.vm.findClass (zi_cn w) = some m.cls) (hg : ∀ w ∈ zi_gw, w.before args s = true) (hK : zi_K D ca s) (hN0 : zi_NA ad A s) (hH : zi_H D ca ad A M s H) (hS : va_S A s.heap H locs) {q : Nat × Nat × Nat × Bool × Nat} (hq : zi_fl w idx = some q) {k : Nat} (hex : zi_ex q.1 k = true) {M' : zi_M} {v : Value} {ty : FieldType}
    (hty : ∀ (C : String) (T : u_T) (N : Nat), vwCl[q.1]? = some (C, T, N) → zi_okF w (idx, q) → parseFieldDescriptor (T q.2.1).2.2.1 = some ty ∧ (T q.2.1).2.2.2 = false) (hn : narrow ty v = v) (hfit : fits ty v = true) (hfs : zi_fs ad M' q.1 k = (zi_fs ad M q.1 k).set q.2.1 v)
    (o1 : ∀ c' k', ¬ (c' = q.1 ∧ k' = k) → ∀ j, M'.1 c' k' j = M.1 c' k' j) (o2 : ∀ c' k', ¬ (c' = q.1 ∧ k' = k) → ∀ j, M'.2.1 c' k' j = M.2.1 c' k' j) (o3 : ∀ c' k', ¬ (c' = q.1 ∧ k' = k) → ∀ j, M'.2.2 c' k' j = M.2.2 c' k' j) (hv : zi_vm M') (hdg : decode cc pc = .ok (.putfield idx, 3))
    (kk : ∀ (H1 : Heap) (locs1 : List Loc), zi_H D ca ad A M' s H1 → va_S A s.heap H1 locs1 → W p l e R s m args below meth c H1 locs1 cells slots Q (F0 m (pc + 3) ls rest)) : W p l e R s m args below meth c H locs cells slots Q (F0 m pc ls (v :: .ref (ad q.1 k) :: rest)) := by
  have hok := zi_flok hq
  obtain ⟨C, T, N, hc, hk, hN, hft, hT1, hl, hln, -, -, -, -, -, h11⟩ := id hok
  dsimp only at hc hk hN hft hT1 hl hln h11
  obtain ⟨hpd, hfin⟩ := hty C T N hc hok
  obtain ⟨i, hi⟩ := zi_in (by omega) hex
  have he := zi_wg (ca := ca) (ad := ad) (M := M) hi
  rw [zi_entO h11] at he
  obtain ⟨hin, ⟨ty0, hty0⟩, hnm⟩ := zi_clok hc
  have hE : (.inr (q.1, (zi_fs ad M q.1 k).set q.2.1 v) : va_E) = zi_ent ca ad M' q.1 k := by rw [zi_entO h11, hfs]
  have hl2 : q.2.1 < (zi_fs ad M q.1 k).length := by rw [zi_fsl, ← hN]; exact hk
  have go : ∀ (H1 : Heap) (locs1 : List Loc), va_P D vwCl ((zi_wl ca ad M).set i (ad q.1 k, .inr (q.1, (zi_fs ad M q.1 k).set q.2.1 v))) H1 → va_D A ((zi_wl ca ad M).set i (ad q.1 k, .inr (q.1, (zi_fs ad M q.1 k).set q.2.1 v))) → va_S A s.heap H1 locs1 → W p l e R s m args below meth c H1 locs1 cells slots Q (F0 m (pc + 3) ls rest) := by
    intro H1 locs1 g1 g2 g3
    rw [hE] at g1 g2
    exact kk H1 locs1 (zi_after hi hH hS hN0 g1 g2 g3 o1 o2 o3 hv) g3
  cases hne : q.2.2.2.1 with
  | false => exact va_put hx hb hg hin ty0 hty0 hnm hown hK.1 hH.1 hH.2.1 hS i he hc q.2.1 hk (hg _ (hl hne)) (fun x h => by rw [hT1] at h; exact h) hfin hpd hn hfit hl2 hdg go
  | true => exact va_putN hx hb hg hin ty0 hty0 hnm hown hK.1 hH.1 hH.2.1 hS i he hc q.2.1 hk (va_Nw.use rfl (hK.2 _ (hln hne) rfl)) (fun x h => by rw [hT1] at h; exact h) hfin hpd hn hfit hl2 hdg go
/-- an index in range -/
theorem zi_vp {x : Int32} {n : Nat} (h1 : ¬ x < 0) (h2 : ¬ n ≤ x.toNatClampNeg) : vp_in x n := fun h => h.elim h1 h2
theorem zi_iald (hx : p.tables.exec = Jvm.exec) (hb : c.code = cc) (hK : zi_K D ca s) (hH : zi_H D ca ad A M s H) {c0 k : Nat} (hex : zi_ex c0 k = true) (ht : zi_aty c0 = 0) {x : Int32} (h1 : ¬ x < 0) (h2 : ¬ zi_len M c0 k ≤ x.toNatClampNeg) (hdg : decode cc pc = .ok (.iaload, 1))
    (kk : W p l e R s m args below meth c H locs cells slots Q (F0 m (pc + 1) ls (.int (M.1 c0 k x.toNatClampNeg) :: rest))) : W p l e R s m args below meth c H locs cells slots Q (F0 m pc ls (.int x :: .ref (ad c0 k) :: rest)) := by
  rcases zi_ro_ty c0 (zi_k93 hex) ht with h44 | h90
  · obtain ⟨i, hi⟩ := zi_in (by omega) hex
    have he := zi_wg (ca := ca) (ad := ad) (M := M) hi
    obtain ⟨h11, hty⟩ := zi_ty0 c0 h44 ht
    rw [zi_entA h11, zi_conI (Or.inl ht)] at he
    rw [zi_lenn (by omega)] at h2
    exact va_iald hx hb hK.1 hH.1 i (c0 - 11) he (zi_tg hty) (zi_vp h1 h2) hdg kk
  · obtain ⟨h93, rfl⟩ := zi_k90 h90 hex
    obtain ⟨cell, a1, a2, a3, a4, a5, a6⟩ := hH.2.2.1 c0 h90 h93
    exact W.iald (v := .int (M.1 c0 0 x.toNatClampNeg)) hx hb a1 a2 a3 (fun h => h.elim h1 (fun h => by omega)) (a6 _ (by omega)) rfl rfl hdg kk
theorem zi_zald (hx : p.tables.exec = Jvm.exec) (hb : c.code = cc) (hK : zi_K D ca s) (hH : zi_H D ca ad A M s H) {c0 k : Nat} (hex : zi_ex c0 k = true) (h90 : c0 < 90) (ht : zi_aty c0 = 3) {x : Int32} (h1 : ¬ x < 0) (h2 : ¬ zi_len M c0 k ≤ x.toNatClampNeg) (hdg : decode cc pc = .ok (.baload, 1))
    (kk : W p l e R s m args below meth c H locs cells slots Q (F0 m (pc + 1) ls (.int (M.1 c0 k x.toNatClampNeg) :: rest))) : W p l e R s m args below meth c H locs cells slots Q (F0 m pc ls (.int x :: .ref (ad c0 k) :: rest)) := by
  obtain ⟨i, hi⟩ := zi_in h90 hex
  have he := zi_wg (ca := ca) (ad := ad) (M := M) hi
  obtain ⟨h11, hty⟩ := zi_ty3 c0 (zi_alt hi).1 ht
  rw [zi_entA h11, zi_conI (Or.inr ht)] at he
  rw [zi_lenn h90] at h2
  exact va_zald hx hb hK.1 hH.1 i (c0 - 11) he (zi_tg hty) (zi_vp h1 h2) hdg kk
theorem zi_lald (hx : p.tables.exec = Jvm.exec) (hb : c.code = cc) (hK : zi_K D ca s) (hH : zi_H D ca ad A M s H) {c0 k : Nat} (hex : zi_ex c0 k = true) (h90 : c0 < 90) (ht : zi_aty c0 = 1) {x : Int32} (h1 : ¬ x < 0) (h2 : ¬ zi_len M c0 k ≤ x.toNatClampNeg) (hdg : decode cc pc = .ok (.laload, 1))
    (kk : W p l e R s m args below meth c H locs cells slots Q (F0 m (pc + 1) ls (.long (M.2.1 c0 k x.toNatClampNeg) :: rest))) : W p l e R s m args below meth c H locs cells slots Q (F0 m pc ls (.int x :: .ref (ad c0 k) :: rest)) := by
  obtain ⟨i, hi⟩ := zi_in h90 hex
  have he := zi_wg (ca := ca) (ad := ad) (M := M) hi
  obtain ⟨h11, hty⟩ := zi_ty1 c0 (zi_alt hi).1 ht
  rw [zi_entA h11, zi_conL ht] at he
  rw [zi_lenn h90] at h2
  exact va_lald hx hb hK.1 hH.1 i (c0 - 11) he (zi_tg hty) (zi_vp h1 h2) hdg kk
theorem zi_aald (hx : p.tables.exec = Jvm.exec) (hb : c.code = cc) (hK : zi_K D ca s) (hH : zi_H D ca ad A M s H) {c0 k : Nat} (hex : zi_ex c0 k = true) (h90 : c0 < 90) (ht : zi_aty c0 = 2) {x : Int32} (h1 : ¬ x < 0) (h2 : ¬ zi_len M c0 k ≤ x.toNatClampNeg) (hdg : decode cc pc = .ok (.aaload, 1))
    (kk : W p l e R s m args below meth c H locs cells slots Q (F0 m (pc + 1) ls (.ref (ad (zi_ek c0) (zi_rf c0 k x.toNatClampNeg)) :: rest))) : W p l e R s m args below meth c H locs cells slots Q (F0 m pc ls (.int x :: .ref (ad c0 k) :: rest)) := by
  obtain ⟨i, hi⟩ := zi_in h90 hex
  have he := zi_wg (ca := ca) (ad := ad) (M := M) hi
  obtain ⟨h11, C, hty⟩ := zi_ty2 c0 (zi_alt hi).1 ht
  rw [zi_entA h11, zi_conR ht] at he
  rw [zi_lenn h90] at h2
  exact va_aldq hx hb hK.1 hH.1 i (c0 - 11) he (zi_tg hty) (zi_vp h1 h2) hdg kk
theorem zi_alen (hx : p.tables.exec = Jvm.exec) (hb : c.code = cc) (hK : zi_K D ca s) (hH : zi_H D ca ad A M s H) {c0 k : Nat} (hex : zi_ex c0 k = true) (h11 : 11 ≤ c0) (hdg : decode cc pc = .ok (.arraylength, 1))
    (kk : W p l e R s m args below meth c H locs cells slots Q (F0 m (pc + 1) ls (.int (Int32.ofNat (zi_len M c0 k)) :: rest))) : W p l e R s m args below meth c H locs cells slots Q (F0 m pc ls (.ref (ad c0 k) :: rest)) := by
  rcases Nat.lt_or_ge c0 90 with h90 | h90
  · obtain ⟨i, hi⟩ := zi_in h90 hex
    have he := zi_wg (ca := ca) (ad := ad) (M := M) hi
    obtain ⟨ty, hty⟩ := zi_tya c0 (zi_alt hi).1 h11
    rw [zi_entA h11] at he
    exact va_alen hx hb hK.1 hH.1 i (c0 - 11) he (zi_tg hty) (by rw [zi_lenn h90]) hdg kk
  · obtain ⟨h93, rfl⟩ := zi_k90 h90 hex
    obtain ⟨cell, a1, a2, a3, a4, a5, a6⟩ := hH.2.2.1 c0 h90 h93
    exact W.alen (n := Int32.ofNat (zi_len M c0 0)) hx hb a1 a2 a5 rfl rfl hdg kk
theorem zi_iast (hx : p.tables.exec = Jvm.exec) (hb : c.code = cc) (hK : zi_K D ca s) (hN0 : zi_NA ad A s) (hH : zi_H D ca ad A M s H) (hS : va_S A s.heap H locs) {c0 k : Nat} (hex : zi_ex c0 k = true) (h90 : c0 < 90) (ht : zi_aty c0 = 0) {x v : Int32} (h1 : ¬ x < 0) (h2 : ¬ zi_len M c0 k ≤ x.toNatClampNeg) (hdg : decode cc pc = .ok (.iastore, 1))
    (kk : ∀ (H1 : Heap) (locs1 : List Loc), zi_H D ca ad A (zi_sI M c0 k x.toNatClampNeg v) s H1 → va_S A s.heap H1 locs1 → W p l e R s m args below meth c H1 locs1 cells slots Q (F0 m (pc + 1) ls rest)) : W p l e R s m args below meth c H locs cells slots Q (F0 m pc ls (.int v :: .int x :: .ref (ad c0 k) :: rest)) := by
  obtain ⟨i, hi⟩ := zi_in h90 hex
  have he := zi_wg (ca := ca) (ad := ad) (M := M) hi
  obtain ⟨h11, hty⟩ := zi_ty0 c0 (zi_alt hi).1 ht
  rw [zi_entA h11, zi_conI (Or.inl ht)] at he
  rw [zi_lenn h90] at h2
  refine va_iast hx hb hK.1 hH.1 hH.2.1 hS i (c0 - 11) he (zi_tg hty) (zi_vp h1 h2) hdg (fun H1 locs1 g1 g2 g3 => ?_)
  have hE : (.inl (ca c0, zi_ln c0 k, .inl (upd (M.1 c0 k) x.toNatClampNeg v)) : va_E) = zi_ent ca ad (zi_sI M c0 k x.toNatClampNeg v) c0 k := by
    rw [zi_entA h11, zi_conI (Or.inl ht)]
    congr 4
    funext j
    by_cases hj : j = x.toNatClampNeg
    · subst hj; simp [upd, zi_sIs]
    · simp [upd, hj, zi_sIn hj]
  rw [hE] at g1 g2
  exact kk H1 locs1 (zi_after hi hH hS hN0 g1 g2 g3 (fun _ _ h => zi_sIo h) (fun _ _ _ _ => rfl) (fun _ _ _ _ => rfl) hH.2.2.2) g3
theorem zi_zast (hx : p.tables.exec = Jvm.exec) (hb : c.code = cc) (hK : zi_K D ca s) (hN0 : zi_NA ad A s) (hH : zi_H D ca ad A M s H) (hS : va_S A s.heap H locs) {c0 k : Nat} (hex : zi_ex c0 k = true) (h90 : c0 < 90) (ht : zi_aty c0 = 3) {x v : Int32} (hv : v = 0 ∨ v = 1) (h1 : ¬ x < 0) (h2 : ¬ zi_len M c0 k ≤ x.toNatClampNeg) (hdg : decode cc pc = .ok (.bastore, 1))
    (kk : ∀ (H1 : Heap) (locs1 : List Loc), zi_H D ca ad A (zi_sI M c0 k x.toNatClampNeg v) s H1 → va_S A s.heap H1 locs1 → W p l e R s m args below meth c H1 locs1 cells slots Q (F0 m (pc + 1) ls rest)) : W p l e R s m args below meth c H locs cells slots Q (F0 m pc ls (.int v :: .int x :: .ref (ad c0 k) :: rest)) := by
  obtain ⟨i, hi⟩ := zi_in h90 hex
  have he := zi_wg (ca := ca) (ad := ad) (M := M) hi
  obtain ⟨h11, hty⟩ := zi_ty3 c0 (zi_alt hi).1 ht
  rw [zi_entA h11, zi_conI (Or.inr ht)] at he
  rw [zi_lenn h90] at h2
  refine va_zast hx hb hK.1 hH.1 hH.2.1 hS i (c0 - 11) he (zi_tg hty) (zi_vp h1 h2) hdg (fun H1 locs1 g1 g2 g3 => ?_)
  have hvv : vp_nar .boolean v = v := by rcases hv with rfl | rfl <;> decide
  have hE : (.inl (ca c0, zi_ln c0 k, .inl (upd (M.1 c0 k) x.toNatClampNeg (vp_nar .boolean v))) : va_E) = zi_ent ca ad (zi_sI M c0 k x.toNatClampNeg v) c0 k := by
    rw [zi_entA h11, zi_conI (Or.inr ht), hvv]
    congr 4
    funext j
    by_cases hj : j = x.toNatClampNeg
    · subst hj; simp [upd, zi_sIs]
    · simp [upd, hj, zi_sIn hj]
  rw [hE] at g1 g2
  exact kk H1 locs1 (zi_after hi hH hS hN0 g1 g2 g3 (fun _ _ h => zi_sIo h) (fun _ _ _ _ => rfl) (fun _ _ _ _ => rfl) hH.2.2.2) g3
theorem zi_last (hx : p.tables.exec = Jvm.exec) (hb : c.code = cc) (hK : zi_K D ca s) (hN0 : zi_NA ad A s) (hH : zi_H D ca ad A M s H) (hS : va_S A s.heap H locs) {c0 k : Nat} (hex : zi_ex c0 k = true) (h90 : c0 < 90) (ht : zi_aty c0 = 1) {x : Int32} {v : Int64} (h1 : ¬ x < 0) (h2 : ¬ zi_len M c0 k ≤ x.toNatClampNeg) (hdg : decode cc pc = .ok (.lastore, 1))
    (kk : ∀ (H1 : Heap) (locs1 : List Loc), zi_H D ca ad A (zi_sL M c0 k x.toNatClampNeg v) s H1 → va_S A s.heap H1 locs1 → W p l e R s m args below meth c H1 locs1 cells slots Q (F0 m (pc + 1) ls rest)) : W p l e R s m args below meth c H locs cells slots Q (F0 m pc ls (.long v :: .int x :: .ref (ad c0 k) :: rest)) := by
  obtain ⟨i, hi⟩ := zi_in h90 hex
  have he := zi_wg (ca := ca) (ad := ad) (M := M) hi
  obtain ⟨h11, hty⟩ := zi_ty1 c0 (zi_alt hi).1 ht
  rw [zi_entA h11, zi_conL ht] at he
  rw [zi_lenn h90] at h2
  refine va_last hx hb hK.1 hH.1 hH.2.1 hS i (c0 - 11) he (zi_tg hty) (zi_vp h1 h2) hdg (fun H1 locs1 g1 g2 g3 => ?_)
  have hE : (.inl (ca c0, zi_ln c0 k, .inr (.inl (vp_updL (M.2.1 c0 k) x.toNatClampNeg v))) : va_E) = zi_ent ca ad (zi_sL M c0 k x.toNatClampNeg v) c0 k := by
    rw [zi_entA h11, zi_conL ht]
    congr 5
    funext j
    by_cases hj : j = x.toNatClampNeg
    · subst hj; simp [vp_updL, zi_sLs]
    · simp [vp_updL, hj, zi_sLn hj]
  rw [hE] at g1 g2
  exact kk H1 locs1 (zi_after hi hH hS hN0 g1 g2 g3 (fun _ _ _ _ => rfl) (fun _ _ h => zi_sLo h) (fun _ _ _ _ => rfl) hH.2.2.2) g3
theorem zi_acop (hx : p.tables.exec = Jvm.exec) (hb : c.code = cc) (hml : c.maxLocals = ls.size) {w idx : Nat} (hw : zi_acw w idx = true) (hown : s.vm.findClass (zi_cn w) = some m.cls) (hg : ∀ w ∈ zi_gw, w.before args s = true) (hK : zi_K D ca s) (hN0 : zi_NA ad A s) (hH : zi_H D ca ad A M s H) (hS : va_S A s.heap H locs) {k0 k1 : Nat} (hex0 : zi_ex 12 k0 = true) (hex1 : zi_ex 12 k1 = true)
    {sp dp n : Int32} (h1 : ¬ sp < 0) (h2 : ¬ dp < 0) (h3 : ¬ n < 0) (h4 : sp.toNatClampNeg + n.toNatClampNeg ≤ zi_len M 12 k0) (h5 : dp.toNatClampNeg + n.toNatClampNeg ≤ zi_len M 12 k1)
    (hfr : 1 ≤ R.frames) (hlo : (rest.map fun v => v.category).sum + (nativeFrameWords "java/lang/System" "arraycopy" 5 + 11) ≤ R.locals) (hdg : decode cc pc = .ok (.invokestatic idx, 3))
    (kk : ∀ (H1 : Heap) (locs1 : List Loc), zi_H D ca ad A (zi_cp M 12 k0 12 k1 sp.toNatClampNeg dp.toNatClampNeg n.toNatClampNeg) s H1 → va_S A s.heap H1 locs1 → W p l e R s m args below meth c H1 locs1 cells slots Q (F0 m (pc + 3) ls rest)) : W p l e R s m args below meth c H locs cells slots Q (F0 m pc ls (.int n :: .int dp :: .ref (ad 12 k1) :: .int sp :: .ref (ad 12 k0) :: rest)) := by
  obtain ⟨i0, hi0⟩ := zi_in (by omega) hex0
  obtain ⟨i1, hi1⟩ := zi_in (by omega) hex1
  have he0 := zi_wg (ca := ca) (ad := ad) (M := M) hi0
  have he1 := zi_wg (ca := ca) (ad := ad) (M := M) hi1
  rw [zi_entA (by omega), zi_conI (Or.inl (by decide))] at he0 he1
  rw [zi_lenn (by omega)] at h4 h5
  have hwi : w = 5 ∧ idx = 34 := by
    unfold zi_acw at hw
    rw [Bool.and_eq_true, Nat.beq_eq, Nat.beq_eq] at hw
    exact hw
  obtain ⟨rfl, rfl⟩ := hwi
  have gg : ∀ {w : Cond}, w ∈ lw_tbl → goodWord w = true → w.before args s = true := fun h g => hg _ (List.mem_filter.mpr ⟨h, g⟩)
  refine va_copyi hx hb hml hown (gg (List.mem_of_getElem? zi_acl) rfl) (gg zi_acn rfl) (gg zi_acs rfl) (gg zi_aci rfl) hK.1 hH.1 hH.2.1 hS i0 i1 (12 - 11) (12 - 11) he0 he1 (zi_tg (by decide +kernel)) (zi_tg (by decide +kernel)) (ty := .int) rfl h1 h2 h3 h4 h5 (fun _ _ => rfl) hfr hlo hdg (fun H1 locs1 g1 g2 g3 => ?_)
  have hE : (.inl (ca 12, zi_ln 12 k1, .inl (va_cpy (M.1 12 k0) (M.1 12 k1) sp.toNatClampNeg dp.toNatClampNeg n.toNatClampNeg)) : va_E) = zi_ent ca ad (zi_cp M 12 k0 12 k1 sp.toNatClampNeg dp.toNatClampNeg n.toNatClampNeg) 12 k1 := by
    rw [zi_entA (by omega), zi_conI (Or.inl (by decide))]
    simp [zi_cp]
  rw [hE] at g1 g2
  exact kk H1 locs1 (zi_after hi1 hH hS hN0 g1 g2 g3 (fun _ _ h => zi_cpo h) (fun _ _ _ _ => rfl) (fun _ _ _ _ => rfl) hH.2.2.2) g3
end ZR
end
