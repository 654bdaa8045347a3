section
-- ===== PART A: goes FIRST, ahead of the names: the tables' words, and 'selects' of the private methods out of them =====
/-- a private method of a class that the tables say can be made, by its rows of tables_1 -/
def lw_okq (q : MethodName × Nat) : Prop := (q.1.cls ≠ "java/lang/invoke/MethodHandle" ∧ q.1.cls ≠ "java/lang/invoke/VarHandle") ∧ Cond.instantiable q.1.cls q.2 ∈ tables_1 ∧ Cond.privateMethod q.1 ∈ tables_1 ∧ Cond.instanceMethod q.1 ∈ tables_1
theorem lw_p0 : lw_okq (⟨"WaxWings", "rowAt", "(I)LWaxWings$Row;"⟩, 16) := ⟨⟨by decide +kernel, by decide +kernel⟩, List.mem_of_getElem? (i := 16) (by decide +kernel), List.mem_of_getElem? (i := 326) (by decide +kernel), List.mem_of_getElem? (i := 327) (by decide +kernel)⟩
theorem lw_p1 : lw_okq (⟨"WaxWings", "madeAnew", "(LWaxWings$Row;II)I"⟩, 16) := ⟨⟨by decide +kernel, by decide +kernel⟩, List.mem_of_getElem? (i := 16) (by decide +kernel), List.mem_of_getElem? (i := 330) (by decide +kernel), List.mem_of_getElem? (i := 331) (by decide +kernel)⟩
theorem lw_p2 : lw_okq (⟨"WaxWings", "refuse", "(I)I"⟩, 16) := ⟨⟨by decide +kernel, by decide +kernel⟩, List.mem_of_getElem? (i := 16) (by decide +kernel), List.mem_of_getElem? (i := 338) (by decide +kernel), List.mem_of_getElem? (i := 339) (by decide +kernel)⟩
theorem lw_p3 : lw_okq (⟨"WaxWings", "textAt", "(I)LWaxWings$Row;"⟩, 16) := ⟨⟨by decide +kernel, by decide +kernel⟩, List.mem_of_getElem? (i := 16) (by decide +kernel), List.mem_of_getElem? (i := 410) (by decide +kernel), List.mem_of_getElem? (i := 411) (by decide +kernel)⟩
theorem lw_p4 : lw_okq (⟨"WaxWings$Reader", "skipBlanks", "()V"⟩, 4) := ⟨⟨by decide +kernel, by decide +kernel⟩, List.mem_of_getElem? (i := 233) (by decide +kernel), List.mem_of_getElem? (i := 426) (by decide +kernel), List.mem_of_getElem? (i := 427) (by decide +kernel)⟩
theorem lw_p5 : lw_okq (⟨"WaxWings$Reader", "here", "()I"⟩, 4) := ⟨⟨by decide +kernel, by decide +kernel⟩, List.mem_of_getElem? (i := 233) (by decide +kernel), List.mem_of_getElem? (i := 430) (by decide +kernel), List.mem_of_getElem? (i := 431) (by decide +kernel)⟩
theorem lw_p6 : lw_okq (⟨"WaxWings$Reader", "readLines", "()Z"⟩, 4) := ⟨⟨by decide +kernel, by decide +kernel⟩, List.mem_of_getElem? (i := 233) (by decide +kernel), List.mem_of_getElem? (i := 436) (by decide +kernel), List.mem_of_getElem? (i := 437) (by decide +kernel)⟩
theorem lw_p7 : lw_okq (⟨"WaxWings$Reader", "readLine", "(I)Z"⟩, 4) := ⟨⟨by decide +kernel, by decide +kernel⟩, List.mem_of_getElem? (i := 233) (by decide +kernel), List.mem_of_getElem? (i := 440) (by decide +kernel), List.mem_of_getElem? (i := 441) (by decide +kernel)⟩
theorem lw_p8 : lw_okq (⟨"WaxWings$Reader", "readSun", "()Z"⟩, 4) := ⟨⟨by decide +kernel, by decide +kernel⟩, List.mem_of_getElem? (i := 233) (by decide +kernel), List.mem_of_getElem? (i := 453) (by decide +kernel), List.mem_of_getElem? (i := 454) (by decide +kernel)⟩
theorem lw_p9 : lw_okq (⟨"WaxWings$Reader", "figureBelow", "(I)I"⟩, 4) := ⟨⟨by decide +kernel, by decide +kernel⟩, List.mem_of_getElem? (i := 233) (by decide +kernel), List.mem_of_getElem? (i := 457) (by decide +kernel), List.mem_of_getElem? (i := 458) (by decide +kernel)⟩
theorem lw_p10 : lw_okq (⟨"WaxWings$Reader", "readFlyers", "()Z"⟩, 4) := ⟨⟨by decide +kernel, by decide +kernel⟩, List.mem_of_getElem? (i := 233) (by decide +kernel), List.mem_of_getElem? (i := 461) (by decide +kernel), List.mem_of_getElem? (i := 462) (by decide +kernel)⟩
theorem lw_p11 : lw_okq (⟨"WaxWings$Reader", "readFlyer", "(II)Z"⟩, 4) := ⟨⟨by decide +kernel, by decide +kernel⟩, List.mem_of_getElem? (i := 233) (by decide +kernel), List.mem_of_getElem? (i := 467) (by decide +kernel), List.mem_of_getElem? (i := 468) (by decide +kernel)⟩
theorem lw_p12 : lw_okq (⟨"WaxWings$Reader", "readEnd", "()Z"⟩, 4) := ⟨⟨by decide +kernel, by decide +kernel⟩, List.mem_of_getElem? (i := 233) (by decide +kernel), List.mem_of_getElem? (i := 479) (by decide +kernel), List.mem_of_getElem? (i := 480) (by decide +kernel)⟩
theorem lw_p13 : lw_okq (⟨"WaxWings", "perform", "(ILWaxWings$Bird;I)I"⟩, 16) := ⟨⟨by decide +kernel, by decide +kernel⟩, List.mem_of_getElem? (i := 16) (by decide +kernel), List.mem_of_getElem? (i := 572) (by decide +kernel), List.mem_of_getElem? (i := 573) (by decide +kernel)⟩
theorem lw_p14 : lw_okq (⟨"WaxWings", "openBeats", "(LWaxWings$Bird;)I"⟩, 16) := ⟨⟨by decide +kernel, by decide +kernel⟩, List.mem_of_getElem? (i := 16) (by decide +kernel), List.mem_of_getElem? (i := 621) (by decide +kernel), List.mem_of_getElem? (i := 622) (by decide +kernel)⟩
theorem lw_p15 : lw_okq (⟨"WaxWings", "setOut", "(LWaxWings$Bird;)V"⟩, 16) := ⟨⟨by decide +kernel, by decide +kernel⟩, List.mem_of_getElem? (i := 16) (by decide +kernel), List.mem_of_getElem? (i := 645) (by decide +kernel), List.mem_of_getElem? (i := 646) (by decide +kernel)⟩
def lw_privs_1 : List (MethodName × Nat) := [(⟨"WaxWings", "rowAt", "(I)LWaxWings$Row;"⟩, 16), (⟨"WaxWings", "madeAnew", "(LWaxWings$Row;II)I"⟩, 16), (⟨"WaxWings", "refuse", "(I)I"⟩, 16), (⟨"WaxWings", "textAt", "(I)LWaxWings$Row;"⟩, 16), (⟨"WaxWings$Reader", "skipBlanks", "()V"⟩, 4), (⟨"WaxWings$Reader", "here", "()I"⟩, 4), (⟨"WaxWings$Reader", "readLines", "()Z"⟩, 4), (⟨"WaxWings$Reader", "readLine", "(I)Z"⟩, 4), (⟨"WaxWings$Reader", "readSun", "()Z"⟩, 4), (⟨"WaxWings$Reader", "figureBelow", "(I)I"⟩, 4), (⟨"WaxWings$Reader", "readFlyers", "()Z"⟩, 4), (⟨"WaxWings$Reader", "readFlyer", "(II)Z"⟩, 4), (⟨"WaxWings$Reader", "readEnd", "()Z"⟩, 4), (⟨"WaxWings", "perform", "(ILWaxWings$Bird;I)I"⟩, 16), (⟨"WaxWings", "openBeats", "(LWaxWings$Bird;)I"⟩, 16), (⟨"WaxWings", "setOut", "(LWaxWings$Bird;)V"⟩, 16)]
theorem lw_r1 : ∀ q ∈ lw_privs_1, lw_okq q := List.forall_mem_cons.mpr ⟨lw_p0, List.forall_mem_cons.mpr ⟨lw_p1, List.forall_mem_cons.mpr ⟨lw_p2, List.forall_mem_cons.mpr ⟨lw_p3, List.forall_mem_cons.mpr ⟨lw_p4, List.forall_mem_cons.mpr ⟨lw_p5, List.forall_mem_cons.mpr ⟨lw_p6, List.forall_mem_cons.mpr ⟨lw_p7, List.forall_mem_cons.mpr ⟨lw_p8, List.forall_mem_cons.mpr ⟨lw_p9, List.forall_mem_cons.mpr ⟨lw_p10, List.forall_mem_cons.mpr ⟨lw_p11, List.forall_mem_cons.mpr ⟨lw_p12, List.forall_mem_cons.mpr ⟨lw_p13, List.forall_mem_cons.mpr ⟨lw_p14, List.forall_mem_cons.mpr ⟨lw_p15, fun _ h => absurd h List.not_mem_nil⟩⟩⟩⟩⟩⟩⟩⟩⟩⟩⟩⟩⟩⟩⟩⟩
theorem lw_p16 : lw_okq (⟨"WaxWings", "tell", "(JJ)V"⟩, 16) := ⟨⟨by decide +kernel, by decide +kernel⟩, List.mem_of_getElem? (i := 16) (by decide +kernel), List.mem_of_getElem? (i := 686) (by decide +kernel), List.mem_of_getElem? (i := 687) (by decide +kernel)⟩
theorem lw_p17 : lw_okq (⟨"WaxWings", "hasWay", "(LWaxWings$Spot;)Z"⟩, 16) := ⟨⟨by decide +kernel, by decide +kernel⟩, List.mem_of_getElem? (i := 16) (by decide +kernel), List.mem_of_getElem? (i := 706) (by decide +kernel), List.mem_of_getElem? (i := 707) (by decide +kernel)⟩
theorem lw_p18 : lw_okq (⟨"WaxWings", "loadsOf", "(LWaxWings$Bird;)I"⟩, 16) := ⟨⟨by decide +kernel, by decide +kernel⟩, List.mem_of_getElem? (i := 16) (by decide +kernel), List.mem_of_getElem? (i := 735) (by decide +kernel), List.mem_of_getElem? (i := 736) (by decide +kernel)⟩
theorem lw_p19 : lw_okq (⟨"WaxWings", "carriersOf", "(II)I"⟩, 16) := ⟨⟨by decide +kernel, by decide +kernel⟩, List.mem_of_getElem? (i := 16) (by decide +kernel), List.mem_of_getElem? (i := 739) (by decide +kernel), List.mem_of_getElem? (i := 740) (by decide +kernel)⟩
theorem lw_p20 : lw_okq (⟨"WaxWings", "writeShares", "(ILWaxWings$Row;)V"⟩, 16) := ⟨⟨by decide +kernel, by decide +kernel⟩, List.mem_of_getElem? (i := 16) (by decide +kernel), List.mem_of_getElem? (i := 746) (by decide +kernel), List.mem_of_getElem? (i := 747) (by decide +kernel)⟩
theorem lw_p21 : lw_okq (⟨"WaxWings$Gusts", "begin", "(LWaxWings$Spot;ILWaxWings$Row;)V"⟩, 4) := ⟨⟨by decide +kernel, by decide +kernel⟩, List.mem_of_getElem? (i := 212) (by decide +kernel), List.mem_of_getElem? (i := 758) (by decide +kernel), List.mem_of_getElem? (i := 759) (by decide +kernel)⟩
theorem lw_p22 : lw_okq (⟨"WaxWings$Gusts", "chance", "(I)I"⟩, 4) := ⟨⟨by decide +kernel, by decide +kernel⟩, List.mem_of_getElem? (i := 212) (by decide +kernel), List.mem_of_getElem? (i := 763) (by decide +kernel), List.mem_of_getElem? (i := 764) (by decide +kernel)⟩
theorem lw_p23 : lw_okq (⟨"WaxWings$Gusts", "chanceBy", "(II)I"⟩, 4) := ⟨⟨by decide +kernel, by decide +kernel⟩, List.mem_of_getElem? (i := 212) (by decide +kernel), List.mem_of_getElem? (i := 771) (by decide +kernel), List.mem_of_getElem? (i := 772) (by decide +kernel)⟩
theorem lw_p24 : lw_okq (⟨"WaxWings$Gusts", "settledChance", "(I)I"⟩, 4) := ⟨⟨by decide +kernel, by decide +kernel⟩, List.mem_of_getElem? (i := 212) (by decide +kernel), List.mem_of_getElem? (i := 780) (by decide +kernel), List.mem_of_getElem? (i := 781) (by decide +kernel)⟩
theorem lw_p25 : lw_okq (⟨"WaxWings", "farthestFrom", "(I)I"⟩, 16) := ⟨⟨by decide +kernel, by decide +kernel⟩, List.mem_of_getElem? (i := 16) (by decide +kernel), List.mem_of_getElem? (i := 809) (by decide +kernel), List.mem_of_getElem? (i := 810) (by decide +kernel)⟩
theorem lw_p26 : lw_okq (⟨"WaxWings", "hasBoat", "(II)Z"⟩, 16) := ⟨⟨by decide +kernel, by decide +kernel⟩, List.mem_of_getElem? (i := 16) (by decide +kernel), List.mem_of_getElem? (i := 813) (by decide +kernel), List.mem_of_getElem? (i := 814) (by decide +kernel)⟩
theorem lw_p27 : lw_okq (⟨"WaxWings", "tally", "(I)I"⟩, 16) := ⟨⟨by decide +kernel, by decide +kernel⟩, List.mem_of_getElem? (i := 16) (by decide +kernel), List.mem_of_getElem? (i := 863) (by decide +kernel), List.mem_of_getElem? (i := 864) (by decide +kernel)⟩
theorem lw_p28 : lw_okq (⟨"WaxWings", "keptSkies", "()I"⟩, 16) := ⟨⟨by decide +kernel, by decide +kernel⟩, List.mem_of_getElem? (i := 16) (by decide +kernel), List.mem_of_getElem? (i := 875) (by decide +kernel), List.mem_of_getElem? (i := 876) (by decide +kernel)⟩
theorem lw_p29 : lw_okq (⟨"WaxWingsModel", "finds", "(I)I"⟩, 39) := ⟨⟨by decide +kernel, by decide +kernel⟩, List.mem_of_getElem? (i := 899) (by decide +kernel), List.mem_of_getElem? (i := 1036) (by decide +kernel), List.mem_of_getElem? (i := 1037) (by decide +kernel)⟩
theorem lw_p30 : lw_okq (⟨"WaxWingsModel", "tells", "(I)I"⟩, 39) := ⟨⟨by decide +kernel, by decide +kernel⟩, List.mem_of_getElem? (i := 899) (by decide +kernel), List.mem_of_getElem? (i := 1044) (by decide +kernel), List.mem_of_getElem? (i := 1045) (by decide +kernel)⟩
theorem lw_p31 : lw_okq (⟨"WaxWingsModel", "faultOf", "(I)I"⟩, 39) := ⟨⟨by decide +kernel, by decide +kernel⟩, List.mem_of_getElem? (i := 899) (by decide +kernel), List.mem_of_getElem? (i := 1080) (by decide +kernel), List.mem_of_getElem? (i := 1081) (by decide +kernel)⟩
def lw_privs_2 : List (MethodName × Nat) := [(⟨"WaxWings", "tell", "(JJ)V"⟩, 16), (⟨"WaxWings", "hasWay", "(LWaxWings$Spot;)Z"⟩, 16), (⟨"WaxWings", "loadsOf", "(LWaxWings$Bird;)I"⟩, 16), (⟨"WaxWings", "carriersOf", "(II)I"⟩, 16), (⟨"WaxWings", "writeShares", "(ILWaxWings$Row;)V"⟩, 16), (⟨"WaxWings$Gusts", "begin", "(LWaxWings$Spot;ILWaxWings$Row;)V"⟩, 4), (⟨"WaxWings$Gusts", "chance", "(I)I"⟩, 4), (⟨"WaxWings$Gusts", "chanceBy", "(II)I"⟩, 4), (⟨"WaxWings$Gusts", "settledChance", "(I)I"⟩, 4), (⟨"WaxWings", "farthestFrom", "(I)I"⟩, 16), (⟨"WaxWings", "hasBoat", "(II)Z"⟩, 16), (⟨"WaxWings", "tally", "(I)I"⟩, 16), (⟨"WaxWings", "keptSkies", "()I"⟩, 16), (⟨"WaxWingsModel", "finds", "(I)I"⟩, 39), (⟨"WaxWingsModel", "tells", "(I)I"⟩, 39), (⟨"WaxWingsModel", "faultOf", "(I)I"⟩, 39)]
theorem lw_r2 : ∀ q ∈ lw_privs_2, lw_okq q := List.forall_mem_cons.mpr ⟨lw_p16, List.forall_mem_cons.mpr ⟨lw_p17, List.forall_mem_cons.mpr ⟨lw_p18, List.forall_mem_cons.mpr ⟨lw_p19, List.forall_mem_cons.mpr ⟨lw_p20, List.forall_mem_cons.mpr ⟨lw_p21, List.forall_mem_cons.mpr ⟨lw_p22, List.forall_mem_cons.mpr ⟨lw_p23, List.forall_mem_cons.mpr ⟨lw_p24, List.forall_mem_cons.mpr ⟨lw_p25, List.forall_mem_cons.mpr ⟨lw_p26, List.forall_mem_cons.mpr ⟨lw_p27, List.forall_mem_cons.mpr ⟨lw_p28, List.forall_mem_cons.mpr ⟨lw_p29, List.forall_mem_cons.mpr ⟨lw_p30, List.forall_mem_cons.mpr ⟨lw_p31, fun _ h => absurd h List.not_mem_nil⟩⟩⟩⟩⟩⟩⟩⟩⟩⟩⟩⟩⟩⟩⟩⟩
theorem lw_p32 : lw_okq (⟨"WaxWingsModel", "reads", "()Z"⟩, 39) := ⟨⟨by decide +kernel, by decide +kernel⟩, List.mem_of_getElem? (i := 899) (by decide +kernel), List.mem_of_getElem? (i := 1084) (by decide +kernel), List.mem_of_getElem? (i := 1085) (by decide +kernel)⟩
theorem lw_p33 : lw_okq (⟨"WaxWingsModel", "readsAir", "()Z"⟩, 39) := ⟨⟨by decide +kernel, by decide +kernel⟩, List.mem_of_getElem? (i := 899) (by decide +kernel), List.mem_of_getElem? (i := 1088) (by decide +kernel), List.mem_of_getElem? (i := 1089) (by decide +kernel)⟩
theorem lw_p34 : lw_okq (⟨"WaxWingsModel", "sign", "()I"⟩, 39) := ⟨⟨by decide +kernel, by decide +kernel⟩, List.mem_of_getElem? (i := 899) (by decide +kernel), List.mem_of_getElem? (i := 1092) (by decide +kernel), List.mem_of_getElem? (i := 1093) (by decide +kernel)⟩
theorem lw_p35 : lw_okq (⟨"WaxWingsModel", "isFigure", "()Z"⟩, 39) := ⟨⟨by decide +kernel, by decide +kernel⟩, List.mem_of_getElem? (i := 899) (by decide +kernel), List.mem_of_getElem? (i := 1099) (by decide +kernel), List.mem_of_getElem? (i := 1100) (by decide +kernel)⟩
theorem lw_p36 : lw_okq (⟨"WaxWingsModel", "isRest", "()Z"⟩, 39) := ⟨⟨by decide +kernel, by decide +kernel⟩, List.mem_of_getElem? (i := 899) (by decide +kernel), List.mem_of_getElem? (i := 1105) (by decide +kernel), List.mem_of_getElem? (i := 1106) (by decide +kernel)⟩
theorem lw_p37 : lw_okq (⟨"WaxWingsModel", "readsFlyer", "()Z"⟩, 39) := ⟨⟨by decide +kernel, by decide +kernel⟩, List.mem_of_getElem? (i := 899) (by decide +kernel), List.mem_of_getElem? (i := 1109) (by decide +kernel), List.mem_of_getElem? (i := 1110) (by decide +kernel)⟩
theorem lw_p38 : lw_okq (⟨"WaxWingsModel", "isFlyer", "(I)Z"⟩, 39) := ⟨⟨by decide +kernel, by decide +kernel⟩, List.mem_of_getElem? (i := 899) (by decide +kernel), List.mem_of_getElem? (i := 1124) (by decide +kernel), List.mem_of_getElem? (i := 1125) (by decide +kernel)⟩
theorem lw_p39 : lw_okq (⟨"WaxWingsModel", "takes", "(I)V"⟩, 39) := ⟨⟨by decide +kernel, by decide +kernel⟩, List.mem_of_getElem? (i := 899) (by decide +kernel), List.mem_of_getElem? (i := 1133) (by decide +kernel), List.mem_of_getElem? (i := 1134) (by decide +kernel)⟩
theorem lw_p40 : lw_okq (⟨"WaxWingsModel", "last", "()I"⟩, 39) := ⟨⟨by decide +kernel, by decide +kernel⟩, List.mem_of_getElem? (i := 899) (by decide +kernel), List.mem_of_getElem? (i := 1137) (by decide +kernel), List.mem_of_getElem? (i := 1138) (by decide +kernel)⟩
theorem lw_p41 : lw_okq (⟨"WaxWingsModel", "costs", "(I)I"⟩, 39) := ⟨⟨by decide +kernel, by decide +kernel⟩, List.mem_of_getElem? (i := 899) (by decide +kernel), List.mem_of_getElem? (i := 1141) (by decide +kernel), List.mem_of_getElem? (i := 1142) (by decide +kernel)⟩
theorem lw_p42 : lw_okq (⟨"WaxWingsModel", "airAt", "(II)I"⟩, 39) := ⟨⟨by decide +kernel, by decide +kernel⟩, List.mem_of_getElem? (i := 899) (by decide +kernel), List.mem_of_getElem? (i := 1152) (by decide +kernel), List.mem_of_getElem? (i := 1153) (by decide +kernel)⟩
theorem lw_p43 : lw_okq (⟨"WaxWingsModel", "canBeat", "(I)Z"⟩, 39) := ⟨⟨by decide +kernel, by decide +kernel⟩, List.mem_of_getElem? (i := 899) (by decide +kernel), List.mem_of_getElem? (i := 1170) (by decide +kernel), List.mem_of_getElem? (i := 1171) (by decide +kernel)⟩
theorem lw_p44 : lw_okq (⟨"WaxWingsModel", "isOver", "()Z"⟩, 39) := ⟨⟨by decide +kernel, by decide +kernel⟩, List.mem_of_getElem? (i := 899) (by decide +kernel), List.mem_of_getElem? (i := 1174) (by decide +kernel), List.mem_of_getElem? (i := 1175) (by decide +kernel)⟩
theorem lw_p45 : lw_okq (⟨"WaxWingsModel", "columnBehind", "()I"⟩, 39) := ⟨⟨by decide +kernel, by decide +kernel⟩, List.mem_of_getElem? (i := 899) (by decide +kernel), List.mem_of_getElem? (i := 1178) (by decide +kernel), List.mem_of_getElem? (i := 1179) (by decide +kernel)⟩
theorem lw_p46 : lw_okq (⟨"WaxWingsModel", "does", "(II)V"⟩, 39) := ⟨⟨by decide +kernel, by decide +kernel⟩, List.mem_of_getElem? (i := 899) (by decide +kernel), List.mem_of_getElem? (i := 1182) (by decide +kernel), List.mem_of_getElem? (i := 1183) (by decide +kernel)⟩
theorem lw_p47 : lw_okq (⟨"WaxWingsModel", "beats", "(I)V"⟩, 39) := ⟨⟨by decide +kernel, by decide +kernel⟩, List.mem_of_getElem? (i := 899) (by decide +kernel), List.mem_of_getElem? (i := 1186) (by decide +kernel), List.mem_of_getElem? (i := 1187) (by decide +kernel)⟩
def lw_privs_3 : List (MethodName × Nat) := [(⟨"WaxWingsModel", "reads", "()Z"⟩, 39), (⟨"WaxWingsModel", "readsAir", "()Z"⟩, 39), (⟨"WaxWingsModel", "sign", "()I"⟩, 39), (⟨"WaxWingsModel", "isFigure", "()Z"⟩, 39), (⟨"WaxWingsModel", "isRest", "()Z"⟩, 39), (⟨"WaxWingsModel", "readsFlyer", "()Z"⟩, 39), (⟨"WaxWingsModel", "isFlyer", "(I)Z"⟩, 39), (⟨"WaxWingsModel", "takes", "(I)V"⟩, 39), (⟨"WaxWingsModel", "last", "()I"⟩, 39), (⟨"WaxWingsModel", "costs", "(I)I"⟩, 39), (⟨"WaxWingsModel", "airAt", "(II)I"⟩, 39), (⟨"WaxWingsModel", "canBeat", "(I)Z"⟩, 39), (⟨"WaxWingsModel", "isOver", "()Z"⟩, 39), (⟨"WaxWingsModel", "columnBehind", "()I"⟩, 39), (⟨"WaxWingsModel", "does", "(II)V"⟩, 39), (⟨"WaxWingsModel", "beats", "(I)V"⟩, 39)]
theorem lw_r3 : ∀ q ∈ lw_privs_3, lw_okq q := List.forall_mem_cons.mpr ⟨lw_p32, List.forall_mem_cons.mpr ⟨lw_p33, List.forall_mem_cons.mpr ⟨lw_p34, List.forall_mem_cons.mpr ⟨lw_p35, List.forall_mem_cons.mpr ⟨lw_p36, List.forall_mem_cons.mpr ⟨lw_p37, List.forall_mem_cons.mpr ⟨lw_p38, List.forall_mem_cons.mpr ⟨lw_p39, List.forall_mem_cons.mpr ⟨lw_p40, List.forall_mem_cons.mpr ⟨lw_p41, List.forall_mem_cons.mpr ⟨lw_p42, List.forall_mem_cons.mpr ⟨lw_p43, List.forall_mem_cons.mpr ⟨lw_p44, List.forall_mem_cons.mpr ⟨lw_p45, List.forall_mem_cons.mpr ⟨lw_p46, List.forall_mem_cons.mpr ⟨lw_p47, fun _ h => absurd h List.not_mem_nil⟩⟩⟩⟩⟩⟩⟩⟩⟩⟩⟩⟩⟩⟩⟩⟩
theorem lw_p48 : lw_okq (⟨"WaxWingsModel", "moves", "(I)V"⟩, 39) := ⟨⟨by decide +kernel, by decide +kernel⟩, List.mem_of_getElem? (i := 899) (by decide +kernel), List.mem_of_getElem? (i := 1190) (by decide +kernel), List.mem_of_getElem? (i := 1191) (by decide +kernel)⟩
theorem lw_p49 : lw_okq (⟨"WaxWingsModel", "settles", "()V"⟩, 39) := ⟨⟨by decide +kernel, by decide +kernel⟩, List.mem_of_getElem? (i := 899) (by decide +kernel), List.mem_of_getElem? (i := 1194) (by decide +kernel), List.mem_of_getElem? (i := 1195) (by decide +kernel)⟩
theorem lw_p50 : lw_okq (⟨"WaxWingsModel", "keeps", "(I)V"⟩, 39) := ⟨⟨by decide +kernel, by decide +kernel⟩, List.mem_of_getElem? (i := 899) (by decide +kernel), List.mem_of_getElem? (i := 1198) (by decide +kernel), List.mem_of_getElem? (i := 1199) (by decide +kernel)⟩
theorem lw_p51 : lw_okq (⟨"WaxWingsModel", "hasFallen", "(I)Z"⟩, 39) := ⟨⟨by decide +kernel, by decide +kernel⟩, List.mem_of_getElem? (i := 899) (by decide +kernel), List.mem_of_getElem? (i := 1226) (by decide +kernel), List.mem_of_getElem? (i := 1227) (by decide +kernel)⟩
theorem lw_p52 : lw_okq (⟨"WaxWingsModel", "areBeats", "(I)Z"⟩, 39) := ⟨⟨by decide +kernel, by decide +kernel⟩, List.mem_of_getElem? (i := 899) (by decide +kernel), List.mem_of_getElem? (i := 1230) (by decide +kernel), List.mem_of_getElem? (i := 1231) (by decide +kernel)⟩
theorem lw_p53 : lw_okq (⟨"WaxWingsModel", "goes", "(I)Z"⟩, 39) := ⟨⟨by decide +kernel, by decide +kernel⟩, List.mem_of_getElem? (i := 899) (by decide +kernel), List.mem_of_getElem? (i := 1238) (by decide +kernel), List.mem_of_getElem? (i := 1239) (by decide +kernel)⟩
theorem lw_p54 : lw_okq (⟨"WaxWingsModel", "lays", "(I)V"⟩, 39) := ⟨⟨by decide +kernel, by decide +kernel⟩, List.mem_of_getElem? (i := 899) (by decide +kernel), List.mem_of_getElem? (i := 1242) (by decide +kernel), List.mem_of_getElem? (i := 1243) (by decide +kernel)⟩
theorem lw_p55 : lw_okq (⟨"WaxWingsModel", "least", "(III)I"⟩, 39) := ⟨⟨by decide +kernel, by decide +kernel⟩, List.mem_of_getElem? (i := 899) (by decide +kernel), List.mem_of_getElem? (i := 1266) (by decide +kernel), List.mem_of_getElem? (i := 1267) (by decide +kernel)⟩
theorem lw_p56 : lw_okq (⟨"WaxWingsModel", "mayGo", "(III)Z"⟩, 39) := ⟨⟨by decide +kernel, by decide +kernel⟩, List.mem_of_getElem? (i := 899) (by decide +kernel), List.mem_of_getElem? (i := 1270) (by decide +kernel), List.mem_of_getElem? (i := 1271) (by decide +kernel)⟩
theorem lw_p57 : lw_okq (⟨"WaxWingsModel", "greatest", "(III)I"⟩, 39) := ⟨⟨by decide +kernel, by decide +kernel⟩, List.mem_of_getElem? (i := 899) (by decide +kernel), List.mem_of_getElem? (i := 1282) (by decide +kernel), List.mem_of_getElem? (i := 1283) (by decide +kernel)⟩
theorem lw_p58 : lw_okq (⟨"WaxWingsModel", "chances", "(III)J"⟩, 39) := ⟨⟨by decide +kernel, by decide +kernel⟩, List.mem_of_getElem? (i := 899) (by decide +kernel), List.mem_of_getElem? (i := 1303) (by decide +kernel), List.mem_of_getElem? (i := 1304) (by decide +kernel)⟩
theorem lw_p59 : lw_okq (⟨"WaxWingsModel", "lies", "(I)V"⟩, 39) := ⟨⟨by decide +kernel, by decide +kernel⟩, List.mem_of_getElem? (i := 899) (by decide +kernel), List.mem_of_getElem? (i := 1307) (by decide +kernel), List.mem_of_getElem? (i := 1308) (by decide +kernel)⟩
theorem lw_p60 : lw_okq (⟨"WaxWingsModel", "stands", "(I)V"⟩, 39) := ⟨⟨by decide +kernel, by decide +kernel⟩, List.mem_of_getElem? (i := 899) (by decide +kernel), List.mem_of_getElem? (i := 1311) (by decide +kernel), List.mem_of_getElem? (i := 1312) (by decide +kernel)⟩
theorem lw_p61 : lw_okq (⟨"WaxWingsModel", "mayGust", "()Z"⟩, 39) := ⟨⟨by decide +kernel, by decide +kernel⟩, List.mem_of_getElem? (i := 899) (by decide +kernel), List.mem_of_getElem? (i := 1318) (by decide +kernel), List.mem_of_getElem? (i := 1319) (by decide +kernel)⟩
theorem lw_p62 : lw_okq (⟨"WaxWingsModel", "chanceIs", "(J)I"⟩, 39) := ⟨⟨by decide +kernel, by decide +kernel⟩, List.mem_of_getElem? (i := 899) (by decide +kernel), List.mem_of_getElem? (i := 1322) (by decide +kernel), List.mem_of_getElem? (i := 1323) (by decide +kernel)⟩
theorem lw_p63 : lw_okq (⟨"WaxWingsModel", "countOf", "(I)I"⟩, 39) := ⟨⟨by decide +kernel, by decide +kernel⟩, List.mem_of_getElem? (i := 899) (by decide +kernel), List.mem_of_getElem? (i := 1374) (by decide +kernel), List.mem_of_getElem? (i := 1375) (by decide +kernel)⟩
def lw_privs_4 : List (MethodName × Nat) := [(⟨"WaxWingsModel", "moves", "(I)V"⟩, 39), (⟨"WaxWingsModel", "settles", "()V"⟩, 39), (⟨"WaxWingsModel", "keeps", "(I)V"⟩, 39), (⟨"WaxWingsModel", "hasFallen", "(I)Z"⟩, 39), (⟨"WaxWingsModel", "areBeats", "(I)Z"⟩, 39), (⟨"WaxWingsModel", "goes", "(I)Z"⟩, 39), (⟨"WaxWingsModel", "lays", "(I)V"⟩, 39), (⟨"WaxWingsModel", "least", "(III)I"⟩, 39), (⟨"WaxWingsModel", "mayGo", "(III)Z"⟩, 39), (⟨"WaxWingsModel", "greatest", "(III)I"⟩, 39), (⟨"WaxWingsModel", "chances", "(III)J"⟩, 39), (⟨"WaxWingsModel", "lies", "(I)V"⟩, 39), (⟨"WaxWingsModel", "stands", "(I)V"⟩, 39), (⟨"WaxWingsModel", "mayGust", "()Z"⟩, 39), (⟨"WaxWingsModel", "chanceIs", "(J)I"⟩, 39), (⟨"WaxWingsModel", "countOf", "(I)I"⟩, 39)]
theorem lw_r4 : ∀ q ∈ lw_privs_4, lw_okq q := List.forall_mem_cons.mpr ⟨lw_p48, List.forall_mem_cons.mpr ⟨lw_p49, List.forall_mem_cons.mpr ⟨lw_p50, List.forall_mem_cons.mpr ⟨lw_p51, List.forall_mem_cons.mpr ⟨lw_p52, List.forall_mem_cons.mpr ⟨lw_p53, List.forall_mem_cons.mpr ⟨lw_p54, List.forall_mem_cons.mpr ⟨lw_p55, List.forall_mem_cons.mpr ⟨lw_p56, List.forall_mem_cons.mpr ⟨lw_p57, List.forall_mem_cons.mpr ⟨lw_p58, List.forall_mem_cons.mpr ⟨lw_p59, List.forall_mem_cons.mpr ⟨lw_p60, List.forall_mem_cons.mpr ⟨lw_p61, List.forall_mem_cons.mpr ⟨lw_p62, List.forall_mem_cons.mpr ⟨lw_p63, fun _ h => absurd h List.not_mem_nil⟩⟩⟩⟩⟩⟩⟩⟩⟩⟩⟩⟩⟩⟩⟩⟩
def lw_privs : List (MethodName × Nat) := lw_privs_1 ++ (lw_privs_2 ++ (lw_privs_3 ++ (lw_privs_4)))
def lw_tbl : List Cond := k2_sels lw_privs ++ tables_1
theorem lw_privs_ok : ∀ q ∈ lw_privs, lw_okq q := by
  show ∀ q ∈ lw_privs_1 ++ (lw_privs_2 ++ (lw_privs_3 ++ (lw_privs_4))), lw_okq q
  exact List.forall_mem_append.mpr ⟨lw_r1, List.forall_mem_append.mpr ⟨lw_r2, List.forall_mem_append.mpr ⟨lw_r3, lw_r4⟩⟩⟩
def RX0 : String := "WaxWings$Air"
def TX0 : u_T := fun k => match k with
  | 0 => ("WaxWings$Air", "cells", "[I", true)
  | 1 => ("WaxWings$Air", "columns", "I", false)
  | _ => ("WaxWings$Air", "heights", "I", false)
def tyX0 : Nat → FieldType := fun k => match k with
  | 0 => .array .int
  | 1 => .int
  | _ => .int
abbrev wsX00 : List Cond := u_ws RX0 TX0 3
theorem nmX0 : ∀ a, a < 3 → ∀ b, b < 3 → a ≠ b → (TX0 a).2.1 ≠ (TX0 b).2.1 := by decide +kernel
theorem tyX0_ok : ∀ k, k < 3 → parseFieldDescriptor (TX0 k).2.2.1 = some (tyX0 k) := by decide +kernel
def RX1 : String := "WaxWings$Bird"
def TX1 : u_T := fun k => match k with
  | 0 => ("WaxWings$Bird", "spot", "LWaxWings$Spot;", true)
  | 1 => ("WaxWings$Bird", "kind", "I", false)
  | 2 => ("WaxWings$Bird", "wax", "I", false)
  | _ => ("WaxWings$Bird", "letters", "I", false)
def tyX1 : Nat → FieldType := fun k => match k with
  | 0 => .object "WaxWings$Spot"
  | 1 => .int
  | 2 => .int
  | _ => .int
abbrev wsX10 : List Cond := u_ws RX1 TX1 4
theorem nmX1 : ∀ a, a < 4 → ∀ b, b < 4 → a ≠ b → (TX1 a).2.1 ≠ (TX1 b).2.1 := by decide +kernel
theorem tyX1_ok : ∀ k, k < 4 → parseFieldDescriptor (TX1 k).2.2.1 = some (tyX1 k) := by decide +kernel
def RX2 : String := "WaxWings$Flight"
def TX2 : u_T := fun k => match k with
  | 0 => ("WaxWings$Flight", "air", "LWaxWings$Air;", true)
  | 1 => ("WaxWings$Flight", "kind", "I", false)
  | 2 => ("WaxWings$Flight", "wax", "I", false)
  | 3 => ("WaxWings$Flight", "letters", "I", false)
  | _ => ("WaxWings$Flight", "sun", "I", false)
def tyX2 : Nat → FieldType := fun k => match k with
  | 0 => .object "WaxWings$Air"
  | 1 => .int
  | 2 => .int
  | 3 => .int
  | _ => .int
abbrev wsX20 : List Cond := u_ws RX2 TX2 5
theorem nmX2 : ∀ a, a < 5 → ∀ b, b < 5 → a ≠ b → (TX2 a).2.1 ≠ (TX2 b).2.1 := by decide +kernel
theorem tyX2_ok : ∀ k, k < 5 → parseFieldDescriptor (TX2 k).2.2.1 = some (tyX2 k) := by decide +kernel
def RX3 : String := "WaxWings$Gusts"
def TX3 : u_T := fun k => match k with
  | 0 => ("WaxWings$Gusts", "flight", "LWaxWings$Flight;", true)
  | 1 => ("WaxWings$Gusts", "trail", "[LWaxWings$Spot;", true)
  | 2 => ("WaxWings$Gusts", "force", "I", false)
  | _ => ("WaxWings$Gusts", "script", "LWaxWings$Row;", false)
def tyX3 : Nat → FieldType := fun k => match k with
  | 0 => .object "WaxWings$Flight"
  | 1 => .array (.object "WaxWings$Spot")
  | 2 => .int
  | _ => .object "WaxWings$Row"
abbrev wsX30 : List Cond := u_ws RX3 TX3 4
theorem nmX3 : ∀ a, a < 4 → ∀ b, b < 4 → a ≠ b → (TX3 a).2.1 ≠ (TX3 b).2.1 := by decide +kernel
theorem tyX3_ok : ∀ k, k < 4 → parseFieldDescriptor (TX3 k).2.2.1 = some (tyX3 k) := by decide +kernel
def RX4 : String := "WaxWings$Reader"
def TX4 : u_T := fun k => match k with
  | 0 => ("WaxWings$Reader", "air", "LWaxWings$Air;", true)
  | 1 => ("WaxWings$Reader", "sky", "LWaxWings$Sky;", true)
  | 2 => ("WaxWings$Reader", "text", "LWaxWings$Row;", false)
  | _ => ("WaxWings$Reader", "place", "I", false)
def tyX4 : Nat → FieldType := fun k => match k with
  | 0 => .object "WaxWings$Air"
  | 1 => .object "WaxWings$Sky"
  | 2 => .object "WaxWings$Row"
  | _ => .int
abbrev wsX40 : List Cond := u_ws RX4 TX4 4
theorem nmX4 : ∀ a, a < 4 → ∀ b, b < 4 → a ≠ b → (TX4 a).2.1 ≠ (TX4 b).2.1 := by decide +kernel
theorem tyX4_ok : ∀ k, k < 4 → parseFieldDescriptor (TX4 k).2.2.1 = some (tyX4 k) := by decide +kernel
def RX5 : String := "WaxWings$Row"
def TX5 : u_T := fun k => match k with
  | 0 => ("WaxWings$Row", "places", "[I", true)
  | _ => ("WaxWings$Row", "size", "I", false)
def tyX5 : Nat → FieldType := fun k => match k with
  | 0 => .array .int
  | _ => .int
abbrev wsX50 : List Cond := u_ws RX5 TX5 2
theorem nmX5 : ∀ a, a < 2 → ∀ b, b < 2 → a ≠ b → (TX5 a).2.1 ≠ (TX5 b).2.1 := by decide +kernel
theorem tyX5_ok : ∀ k, k < 2 → parseFieldDescriptor (TX5 k).2.2.1 = some (tyX5 k) := by decide +kernel
def RX6 : String := "WaxWings$Sky"
def TX6 : u_T := fun k => match k with
  | 0 => ("WaxWings$Sky", "birds", "[LWaxWings$Bird;", true)
  | 1 => ("WaxWings$Sky", "who", "[I", true)
  | 2 => ("WaxWings$Sky", "past", "[LWaxWings$Spot;", true)
  | 3 => ("WaxWings$Sky", "there", "Z", false)
  | 4 => ("WaxWings$Sky", "flyers", "I", false)
  | 5 => ("WaxWings$Sky", "sun", "I", false)
  | _ => ("WaxWings$Sky", "beats", "I", false)
def tyX6 : Nat → FieldType := fun k => match k with
  | 0 => .array (.object "WaxWings$Bird")
  | 1 => .array .int
  | 2 => .array (.object "WaxWings$Spot")
  | 3 => .boolean
  | 4 => .int
  | 5 => .int
  | _ => .int
abbrev wsX60 : List Cond := u_ws RX6 TX6 7
theorem nmX6 : ∀ a, a < 7 → ∀ b, b < 7 → a ≠ b → (TX6 a).2.1 ≠ (TX6 b).2.1 := by decide +kernel
theorem tyX6_ok : ∀ k, k < 7 → parseFieldDescriptor (TX6 k).2.2.1 = some (tyX6 k) := by decide +kernel
def RX7 : String := "WaxWings$Spot"
def TX7 : u_T := fun k => match k with
  | 0 => ("WaxWings$Spot", "column", "I", false)
  | 1 => ("WaxWings$Spot", "height", "I", false)
  | 2 => ("WaxWings$Spot", "strength", "I", false)
  | 3 => ("WaxWings$Spot", "heat", "I", false)
  | 4 => ("WaxWings$Spot", "clog", "I", false)
  | _ => ("WaxWings$Spot", "fell", "I", false)
def tyX7 : Nat → FieldType := fun k => match k with
  | 0 => .int
  | 1 => .int
  | 2 => .int
  | 3 => .int
  | 4 => .int
  | _ => .int
abbrev wsX70 : List Cond := u_ws RX7 TX7 6
theorem nmX7 : ∀ a, a < 6 → ∀ b, b < 6 → a ≠ b → (TX7 a).2.1 ≠ (TX7 b).2.1 := by decide +kernel
theorem tyX7_ok : ∀ k, k < 6 → parseFieldDescriptor (TX7 k).2.2.1 = some (tyX7 k) := by decide +kernel
def RX8 : String := "WaxWings$Walker"
def TX8 : u_T := fun k => match k with
  | 0 => ("WaxWings$Walker", "flight", "LWaxWings$Flight;", true)
  | 1 => ("WaxWings$Walker", "trail", "[LWaxWings$Spot;", true)
  | 2 => ("WaxWings$Walker", "beats", "[I", true)
  | 3 => ("WaxWings$Walker", "depth", "I", false)
  | _ => ("WaxWings$Walker", "fresh", "Z", false)
def tyX8 : Nat → FieldType := fun k => match k with
  | 0 => .object "WaxWings$Flight"
  | 1 => .array (.object "WaxWings$Spot")
  | 2 => .array .int
  | 3 => .int
  | _ => .boolean
abbrev wsX80 : List Cond := u_ws RX8 TX8 5
theorem nmX8 : ∀ a, a < 5 → ∀ b, b < 5 → a ≠ b → (TX8 a).2.1 ≠ (TX8 b).2.1 := by decide +kernel
theorem tyX8_ok : ∀ k, k < 5 → parseFieldDescriptor (TX8 k).2.2.1 = some (tyX8 k) := by decide +kernel
def RX9 : String := "WaxWings"
def TX9 : u_T := fun k => match k with
  | 0 => ("WaxWings", "rows", "[LWaxWings$Row;", true)
  | 1 => ("WaxWings", "texts", "[LWaxWings$Row;", true)
  | 2 => ("WaxWings", "air", "LWaxWings$Air;", true)
  | 3 => ("WaxWings", "now", "LWaxWings$Sky;", true)
  | 4 => ("WaxWings", "kept", "[LWaxWings$Sky;", true)
  | 5 => ("WaxWings", "flight", "LWaxWings$Flight;", true)
  | 6 => ("WaxWings", "walker", "LWaxWings$Walker;", true)
  | 7 => ("WaxWings", "gusts", "LWaxWings$Gusts;", true)
  | 8 => ("WaxWings", "reader", "LWaxWings$Reader;", true)
  | 9 => ("WaxWings", "aside", "LWaxWings$Spot;", true)
  | 10 => ("WaxWings", "found", "[I", true)
  | 11 => ("WaxWings", "loads", "[I", true)
  | 12 => ("WaxWings", "latest", "I", false)
  | 13 => ("WaxWings", "told", "I", false)
  | 14 => ("WaxWings", "upperTold", "J", false)
  | _ => ("WaxWings", "lowerTold", "J", false)
def tyX9 : Nat → FieldType := fun k => match k with
  | 0 => .array (.object "WaxWings$Row")
  | 1 => .array (.object "WaxWings$Row")
  | 2 => .object "WaxWings$Air"
  | 3 => .object "WaxWings$Sky"
  | 4 => .array (.object "WaxWings$Sky")
  | 5 => .object "WaxWings$Flight"
  | 6 => .object "WaxWings$Walker"
  | 7 => .object "WaxWings$Gusts"
  | 8 => .object "WaxWings$Reader"
  | 9 => .object "WaxWings$Spot"
  | 10 => .array .int
  | 11 => .array .int
  | 12 => .int
  | 13 => .int
  | 14 => .long
  | _ => .long
abbrev wsX90 : List Cond := u_ws RX9 TX9 16
theorem nmX9 : ∀ a, a < 16 → ∀ b, b < 16 → a ≠ b → (TX9 a).2.1 ≠ (TX9 b).2.1 := by decide +kernel
theorem tyX9_ok : ∀ k, k < 16 → parseFieldDescriptor (TX9 k).2.2.1 = some (tyX9 k) := by decide +kernel
def RX10 : String := "WaxWingsModel"
def TX10 : u_T := fun k => match k with
  | 0 => ("WaxWingsModel", "sizes", "[I", true)
  | 1 => ("WaxWingsModel", "rows", "[I", true)
  | 2 => ("WaxWingsModel", "lengths", "[I", true)
  | 3 => ("WaxWingsModel", "texts", "[I", true)
  | 4 => ("WaxWingsModel", "sky", "[I", true)
  | 5 => ("WaxWingsModel", "images", "[I", true)
  | 6 => ("WaxWingsModel", "kept", "[Z", true)
  | 7 => ("WaxWingsModel", "found", "[I", true)
  | 8 => ("WaxWingsModel", "latest", "I", false)
  | 9 => ("WaxWingsModel", "told", "I", false)
  | 10 => ("WaxWingsModel", "up", "J", false)
  | 11 => ("WaxWingsModel", "down", "J", false)
  | 12 => ("WaxWingsModel", "copied", "[I", true)
  | 13 => ("WaxWingsModel", "from", "I", false)
  | 14 => ("WaxWingsModel", "end", "I", false)
  | 15 => ("WaxWingsModel", "place", "I", false)
  | 16 => ("WaxWingsModel", "drawn", "[I", true)
  | 17 => ("WaxWingsModel", "kind", "I", false)
  | 18 => ("WaxWingsModel", "column", "I", false)
  | 19 => ("WaxWingsModel", "height", "I", false)
  | 20 => ("WaxWingsModel", "strength", "I", false)
  | 21 => ("WaxWingsModel", "heat", "I", false)
  | 22 => ("WaxWingsModel", "clog", "I", false)
  | 23 => ("WaxWingsModel", "fell", "I", false)
  | 24 => ("WaxWingsModel", "wax", "I", false)
  | 25 => ("WaxWingsModel", "letters", "I", false)
  | 26 => ("WaxWingsModel", "sun", "I", false)
  | 27 => ("WaxWingsModel", "way", "[I", true)
  | 28 => ("WaxWingsModel", "steps", "I", false)
  | 29 => ("WaxWingsModel", "hot", "I", false)
  | 30 => ("WaxWingsModel", "comes", "[I", true)
  | 31 => ("WaxWingsModel", "may", "[I", true)
  | 32 => ("WaxWingsModel", "has", "[I", true)
  | 33 => ("WaxWingsModel", "pile", "[I", true)
  | 34 => ("WaxWingsModel", "beat", "[I", true)
  | 35 => ("WaxWingsModel", "phase", "[I", true)
  | 36 => ("WaxWingsModel", "gathered", "[J", true)
  | 37 => ("WaxWingsModel", "best", "[J", true)
  | _ => ("WaxWingsModel", "pick", "[I", true)
def tyX10 : Nat → FieldType := fun k => match k with
  | 0 => .array .int
  | 1 => .array .int
  | 2 => .array .int
  | 3 => .array .int
  | 4 => .array .int
  | 5 => .array .int
  | 6 => .array .boolean
  | 7 => .array .int
  | 8 => .int
  | 9 => .int
  | 10 => .long
  | 11 => .long
  | 12 => .array .int
  | 13 => .int
  | 14 => .int
  | 15 => .int
  | 16 => .array .int
  | 17 => .int
  | 18 => .int
  | 19 => .int
  | 20 => .int
  | 21 => .int
  | 22 => .int
  | 23 => .int
  | 24 => .int
  | 25 => .int
  | 26 => .int
  | 27 => .array .int
  | 28 => .int
  | 29 => .int
  | 30 => .array .int
  | 31 => .array .int
  | 32 => .array .int
  | 33 => .array .int
  | 34 => .array .int
  | 35 => .array .int
  | 36 => .array .long
  | 37 => .array .long
  | _ => .array .int
abbrev wsX100 : List Cond := u_ws RX10 TX10 39
theorem nmX10 : ∀ a, a < 39 → ∀ b, b < 39 → a ≠ b → (TX10 a).2.1 ≠ (TX10 b).2.1 := by decide +kernel
theorem tyX10_ok : ∀ k, k < 39 → parseFieldDescriptor (TX10 k).2.2.1 = some (tyX10 k) := by decide +kernel
abbrev vwCl : List vw_C := [(RX0, TX0, 3), (RX1, TX1, 4), (RX2, TX2, 5), (RX3, TX3, 4), (RX4, TX4, 4), (RX5, TX5, 2), (RX6, TX6, 7), (RX7, TX7, 6), (RX8, TX8, 5), (RX9, TX9, 16), (RX10, TX10, 39)]
def zi_gw : List Cond := lw_tbl.filter goodWord
theorem zi_gwI {w : Cond} (i : Nat) (h : lw_tbl[i]? = some w) (g : goodWord w = true) : w ∈ zi_gw := List.mem_filter.mpr ⟨List.mem_of_getElem? h, g⟩
def zi_li0 : List Nat := [103, 105, 107]
theorem zi_ly0 : ∀ w ∈ wsX00, w ∈ zi_gw := by
  have h : ∀ k, k < 3 → (lw_tbl[(zi_li0)[k]?.getD 0]? = some (u_lay RX0 TX0 k) ∧ goodWord (u_lay RX0 TX0 k) = true) := by decide +kernel
  intro w hw
  obtain ⟨k, hk, rfl⟩ := List.mem_map.mp hw
  have hk := List.mem_range.mp hk
  exact zi_gwI _ (h k hk).1 (h k hk).2
def zi_li1 : List Nat := [185, 187, 189, 191]
theorem zi_ly1 : ∀ w ∈ wsX10, w ∈ zi_gw := by
  have h : ∀ k, k < 4 → (lw_tbl[(zi_li1)[k]?.getD 0]? = some (u_lay RX1 TX1 k) ∧ goodWord (u_lay RX1 TX1 k) = true) := by decide +kernel
  intro w hw
  obtain ⟨k, hk, rfl⟩ := List.mem_map.mp hw
  have hk := List.mem_range.mp hk
  exact zi_gwI _ (h k hk).1 (h k hk).2
def zi_li2 : List Nat := [240, 242, 244, 246, 248]
theorem zi_ly2 : ∀ w ∈ wsX20, w ∈ zi_gw := by
  have h : ∀ k, k < 5 → (lw_tbl[(zi_li2)[k]?.getD 0]? = some (u_lay RX2 TX2 k) ∧ goodWord (u_lay RX2 TX2 k) = true) := by decide +kernel
  intro w hw
  obtain ⟨k, hk, rfl⟩ := List.mem_map.mp hw
  have hk := List.mem_range.mp hk
  exact zi_gwI _ (h k hk).1 (h k hk).2
def zi_li3 : List Nat := [287, 289, 291, 293]
theorem zi_ly3 : ∀ w ∈ wsX30, w ∈ zi_gw := by
  have h : ∀ k, k < 4 → (lw_tbl[(zi_li3)[k]?.getD 0]? = some (u_lay RX3 TX3 k) ∧ goodWord (u_lay RX3 TX3 k) = true) := by decide +kernel
  intro w hw
  obtain ⟨k, hk, rfl⟩ := List.mem_map.mp hw
  have hk := List.mem_range.mp hk
  exact zi_gwI _ (h k hk).1 (h k hk).2
def zi_li4 : List Nat := [310, 312, 314, 316]
theorem zi_ly4 : ∀ w ∈ wsX40, w ∈ zi_gw := by
  have h : ∀ k, k < 4 → (lw_tbl[(zi_li4)[k]?.getD 0]? = some (u_lay RX4 TX4 k) ∧ goodWord (u_lay RX4 TX4 k) = true) := by decide +kernel
  intro w hw
  obtain ⟨k, hk, rfl⟩ := List.mem_map.mp hw
  have hk := List.mem_range.mp hk
  exact zi_gwI _ (h k hk).1 (h k hk).2
def zi_li5 : List Nat := [331, 333]
theorem zi_ly5 : ∀ w ∈ wsX50, w ∈ zi_gw := by
  have h : ∀ k, k < 2 → (lw_tbl[(zi_li5)[k]?.getD 0]? = some (u_lay RX5 TX5 k) ∧ goodWord (u_lay RX5 TX5 k) = true) := by decide +kernel
  intro w hw
  obtain ⟨k, hk, rfl⟩ := List.mem_map.mp hw
  have hk := List.mem_range.mp hk
  exact zi_gwI _ (h k hk).1 (h k hk).2
def zi_li6 : List Nat := [209, 211, 213, 215, 217, 219, 221]
theorem zi_ly6 : ∀ w ∈ wsX60, w ∈ zi_gw := by
  have h : ∀ k, k < 7 → (lw_tbl[(zi_li6)[k]?.getD 0]? = some (u_lay RX6 TX6 k) ∧ goodWord (u_lay RX6 TX6 k) = true) := by decide +kernel
  intro w hw
  obtain ⟨k, hk, rfl⟩ := List.mem_map.mp hw
  have hk := List.mem_range.mp hk
  exact zi_gwI _ (h k hk).1 (h k hk).2
def zi_li7 : List Nat := [160, 162, 164, 166, 168, 170]
theorem zi_ly7 : ∀ w ∈ wsX70, w ∈ zi_gw := by
  have h : ∀ k, k < 6 → (lw_tbl[(zi_li7)[k]?.getD 0]? = some (u_lay RX7 TX7 k) ∧ goodWord (u_lay RX7 TX7 k) = true) := by decide +kernel
  intro w hw
  obtain ⟨k, hk, rfl⟩ := List.mem_map.mp hw
  have hk := List.mem_range.mp hk
  exact zi_gwI _ (h k hk).1 (h k hk).2
def zi_li8 : List Nat := [264, 266, 268, 270, 272]
theorem zi_ly8 : ∀ w ∈ wsX80, w ∈ zi_gw := by
  have h : ∀ k, k < 5 → (lw_tbl[(zi_li8)[k]?.getD 0]? = some (u_lay RX8 TX8 k) ∧ goodWord (u_lay RX8 TX8 k) = true) := by decide +kernel
  intro w hw
  obtain ⟨k, hk, rfl⟩ := List.mem_map.mp hw
  have hk := List.mem_range.mp hk
  exact zi_gwI _ (h k hk).1 (h k hk).2
def zi_li9 : List Nat := [352, 354, 356, 358, 360, 362, 364, 366, 368, 370, 372, 374, 376, 378, 380, 382]
theorem zi_ly9 : ∀ w ∈ wsX90, w ∈ zi_gw := by
  have h : ∀ k, k < 16 → (lw_tbl[(zi_li9)[k]?.getD 0]? = some (u_lay RX9 TX9 k) ∧ goodWord (u_lay RX9 TX9 k) = true) := by decide +kernel
  intro w hw
  obtain ⟨k, hk, rfl⟩ := List.mem_map.mp hw
  have hk := List.mem_range.mp hk
  exact zi_gwI _ (h k hk).1 (h k hk).2
def zi_li10 : List Nat := [1007, 1009, 1011, 1013, 1015, 1017, 1019, 1021, 1023, 1025, 1027, 1029, 1031, 1033, 1035, 1037, 1039, 1041, 1043, 1045, 1047, 1049, 1051, 1053, 1055, 1057, 1059, 1061, 1063, 1065, 1067, 1069, 1071, 1073, 1075, 1077, 1079, 1081, 1083]
theorem zi_ly10 : ∀ w ∈ wsX100, w ∈ zi_gw := by
  have h : ∀ k, k < 39 → (lw_tbl[(zi_li10)[k]?.getD 0]? = some (u_lay RX10 TX10 k) ∧ goodWord (u_lay RX10 TX10 k) = true) := by decide +kernel
  intro w hw
  obtain ⟨k, hk, rfl⟩ := List.mem_map.mp hw
  have hk := List.mem_range.mp hk
  exact zi_gwI _ (h k hk).1 (h k hk).2
end
