/-! THE METHODS AS RECORDS: their instructions, as decode gives them (checked below); their cuts -/
set_option maxRecDepth 100000 in
def zc_X0_look : List (Nat × Instr) := [(0, .iload_n 1), (1, .ifCond .lt 23), (4, .iload_n 1), (5, .aload_n 0), (6, .getfield 15), (9, .if_icmp .ge 15), (12, .iload_n 2), (13, .ifCond .lt 11), (16, .iload_n 2), (17, .aload_n 0), (18, .getfield 19), (21, .if_icmp .lt 5), (24, .iconst 5), (25, .ireturn), (26, .iload_n 2), (27, .bipush 7), (29, .imul), (30, .iload_n 1), (31, .iadd), (32, .istore_n 3), (33, .iload_n 3), (34, .aload_n 0), (35, .getfield 9), (38, .arraylength), (39, .if_icmp .ge 12), (42, .aload_n 0), (43, .getfield 9), (46, .iload_n 3), (47, .iaload), (48, .goto 4), (51, .iconst 5), (52, .ireturn)]
set_option maxRecDepth 100000 in
def zm_X0_look : zi_R := (0, ⟨"WaxWings$Air", "look", "(II)I"⟩, prog_2_method_2_code, 4, (some .int), false, 2, 1, 0, zc_X0_look, [])
set_option maxRecDepth 100000 in
def zc_X0_fill : List (Nat × Instr) := [(0, .iload_n 2), (1, .bipush 7), (3, .imul), (4, .iload_n 1), (5, .iadd), (6, .istore 4), (8, .iload 4), (10, .ifCond .lt 21), (13, .iload 4), (15, .aload_n 0), (16, .getfield 9), (19, .arraylength), (20, .if_icmp .ge 11), (23, .aload_n 0), (24, .getfield 9), (27, .iload 4), (29, .iload_n 3), (30, .iastore), (31, .return_)]
set_option maxRecDepth 100000 in
def zm_X0_fill : zi_R := (0, ⟨"WaxWings$Air", "fill", "(III)V"⟩, prog_2_method_3_code, 5, none, false, 3, 0, 0, zc_X0_fill, [])
set_option maxRecDepth 100000 in
def zc_X0_take : List (Nat × Instr) := [(0, .aload_n 0), (1, .aload_n 1), (2, .getfield 15), (5, .putfield 15), (8, .aload_n 0), (9, .aload_n 1), (10, .getfield 19), (13, .putfield 19), (16, .iconst 0), (17, .istore_n 2), (18, .iload_n 2), (19, .aload_n 0), (20, .getfield 9), (23, .arraylength), (24, .if_icmp .ge 21), (27, .aload_n 0), (28, .getfield 9), (31, .iload_n 2), (32, .aload_n 1), (33, .getfield 9), (36, .iload_n 2), (37, .iaload), (38, .iastore), (39, .iinc 2 1), (42, .goto (-24)), (45, .return_)]
set_option maxRecDepth 100000 in
def zm_X0_take : zi_R := (0, ⟨"WaxWings$Air", "take", "(LWaxWings$Air;)V"⟩, prog_2_method_4_code, 3, none, false, 1, 0, 0, zc_X0_take, [(18, [0, 1, 2])])
set_option maxRecDepth 100000 in
def zc_X1_take : List (Nat × Instr) := [(0, .aload_n 0), (1, .getfield 10), (4, .aload_n 1), (5, .getfield 10), (8, .invokevirtual 16), (11, .aload_n 0), (12, .aload_n 1), (13, .getfield 20), (16, .putfield 20), (19, .aload_n 0), (20, .aload_n 1), (21, .getfield 24), (24, .putfield 24), (27, .aload_n 0), (28, .aload_n 1), (29, .getfield 27), (32, .putfield 27), (35, .return_)]
set_option maxRecDepth 100000 in
def zm_X1_take : zi_R := (1, ⟨"WaxWings$Bird", "take", "(LWaxWings$Bird;)V"⟩, prog_3_method_2_code, 2, none, false, 1, 0, 0, zc_X1_take, [])
set_option maxRecDepth 100000 in
def zc_X1_begin : List (Nat × Instr) := [(0, .aload_n 0), (1, .iload_n 1), (2, .putfield 20), (5, .aload_n 0), (6, .iload_n 2), (7, .putfield 24), (10, .aload_n 0), (11, .iconst 0), (12, .putfield 27), (15, .aload_n 0), (16, .getfield 10), (19, .iconst 0), (20, .putfield 30), (23, .aload_n 0), (24, .getfield 10), (27, .iload 4), (29, .putfield 33), (32, .aload_n 0), (33, .getfield 10), (36, .iload_n 3), (37, .putfield 36), (40, .aload_n 0), (41, .getfield 10), (44, .iconst 0), (45, .putfield 39), (48, .aload_n 0), (49, .getfield 10), (52, .iconst 0), (53, .putfield 42), (56, .aload_n 0), (57, .getfield 10), (60, .iconst 0), (61, .putfield 45), (64, .return_)]
set_option maxRecDepth 100000 in
def zm_X1_begin : zi_R := (1, ⟨"WaxWings$Bird", "begin", "(IIII)V"⟩, prog_3_method_3_code, 5, none, false, 4, 0, 0, zc_X1_begin, [])
set_option maxRecDepth 100000 in
def zc_X1_tell : List (Nat × Instr) := [(0, .iload_n 1), (1, .tableswitch 93 0 6 #[43, 48, 56, 64, 72, 80, 88]), (44, .aload_n 0), (45, .getfield 20), (48, .ireturn), (49, .aload_n 0), (50, .getfield 10), (53, .getfield 30), (56, .ireturn), (57, .aload_n 0), (58, .getfield 10), (61, .getfield 33), (64, .ireturn), (65, .aload_n 0), (66, .getfield 10), (69, .getfield 36), (72, .ireturn), (73, .aload_n 0), (74, .getfield 10), (77, .getfield 39), (80, .ireturn), (81, .aload_n 0), (82, .getfield 10), (85, .getfield 42), (88, .ireturn), (89, .aload_n 0), (90, .getfield 27), (93, .ireturn), (94, .aload_n 0), (95, .getfield 10), (98, .getfield 45), (101, .ireturn)]
set_option maxRecDepth 100000 in
def zm_X1_tell : zi_R := (1, ⟨"WaxWings$Bird", "tell", "(I)I"⟩, prog_3_method_4_code, 2, (some .int), false, 1, 1, 0, zc_X1_tell, [(44, [0]), (49, [0]), (57, [0]), (65, [0]), (73, [0]), (81, [0]), (89, [0]), (94, [0])])
set_option maxRecDepth 100000 in
def zc_X2_board : List (Nat × Instr) := [(0, .aload_n 0), (1, .aload_n 1), (2, .getfield 15), (5, .putfield 21), (8, .aload_n 0), (9, .aload_n 1), (10, .getfield 22), (13, .putfield 25), (16, .aload_n 0), (17, .aload_n 1), (18, .getfield 26), (21, .putfield 29), (24, .aload_n 0), (25, .iload_n 2), (26, .putfield 30), (29, .return_)]
set_option maxRecDepth 100000 in
def zm_X2_board : zi_R := (2, ⟨"WaxWings$Flight", "board", "(LWaxWings$Bird;I)V"⟩, prog_4_method_2_code, 3, none, false, 2, 0, 0, zc_X2_board, [])
set_option maxRecDepth 100000 in
def zc_X2_isOver : List (Nat × Instr) := [(0, .aload_n 1), (1, .getfield 33), (4, .aload_n 0), (5, .getfield 9), (8, .getfield 38), (11, .iconst 1), (12, .isub), (13, .if_icmp .lt 7), (16, .iconst 1), (17, .goto 4), (20, .iconst 0), (21, .ireturn)]
set_option maxRecDepth 100000 in
def zm_X2_isOver : zi_R := (2, ⟨"WaxWings$Flight", "isOver", "(LWaxWings$Spot;)Z"⟩, prog_4_method_3_code, 2, (some .boolean), false, 1, 4, 0, zc_X2_isOver, [])
set_option maxRecDepth 100000 in
def zc_X2_drips : List (Nat × Instr) := [(0, .aload_n 1), (1, .getfield 43), (4, .aload_n 0), (5, .getfield 25), (8, .iconst 2), (9, .idiv), (10, .if_icmp .le 7), (13, .iconst 1), (14, .goto 4), (17, .iconst 0), (18, .ireturn)]
set_option maxRecDepth 100000 in
def zm_X2_drips : zi_R := (2, ⟨"WaxWings$Flight", "drips", "(LWaxWings$Spot;)Z"⟩, prog_4_method_4_code, 2, (some .boolean), false, 1, 4, 0, zc_X2_drips, [])
set_option maxRecDepth 100000 in
def zc_X2_cost : List (Nat × Instr) := [(0, .iload_n 1), (1, .iconst 2), (2, .if_icmp .ne 12), (5, .iconst 2), (6, .aload_n 0), (7, .getfield 29), (10, .iadd), (11, .goto 13), (14, .iload_n 1), (15, .iconst 1), (16, .if_icmp .ne 7), (19, .iconst 1), (20, .goto 4), (23, .iconst 0), (24, .istore_n 2), (25, .aload_n 0), (26, .getfield 21), (29, .iconst 1), (30, .if_icmp .eq 11), (33, .aload_n 0), (34, .getfield 21), (37, .iconst 4), (38, .if_icmp .ne 16), (41, .iload_n 1), (42, .iconst 2), (43, .if_icmp .ne 9), (46, .iload_n 2), (47, .iconst 1), (48, .iadd), (49, .goto 4), (52, .iconst 0), (53, .istore_n 2), (54, .aload_n 0), (55, .getfield 21), (58, .iconst 3), (59, .if_icmp .eq 11), (62, .aload_n 0), (63, .getfield 21), (66, .iconst 5), (67, .if_icmp .ne 15), (70, .iload_n 1), (71, .iconst 1), (72, .if_icmp .ne 10), (75, .iload_n 2), (76, .aload_n 0), (77, .getfield 29), (80, .iadd), (81, .istore_n 2), (82, .aload_n 0), (83, .getfield 21), (86, .iconst 5), (87, .if_icmp .ne 13), (90, .iconst 0), (91, .iload_n 2), (92, .iconst 1), (93, .isub), (94, .invokestatic 46), (97, .goto 4), (100, .iload_n 2), (101, .ireturn)]
set_option maxRecDepth 100000 in
def zm_X2_cost : zi_R := (2, ⟨"WaxWings$Flight", "cost", "(I)I"⟩, prog_4_method_5_code, 3, (some .int), false, 1, 1, 0, zc_X2_cost, [(24, [0, 1]), (41, [0, 1, 2]), (53, [0, 1]), (54, [0, 1, 2]), (70, [0, 1, 2]), (82, [0, 2])])
set_option maxRecDepth 100000 in
def zc_X2_warmth : List (Nat × Instr) := [(0, .iconst 0), (1, .iload_n 1), (2, .aload_n 0), (3, .getfield 30), (6, .iadd), (7, .iconst 4), (8, .isub), (9, .invokestatic 46), (12, .istore_n 2), (13, .aload_n 0), (14, .getfield 21), (17, .iconst 4), (18, .if_icmp .ne 5), (21, .iconst 0), (22, .ireturn), (23, .aload_n 0), (24, .getfield 21), (27, .iconst 2), (28, .if_icmp .ne 9), (31, .iconst 2), (32, .iload_n 2), (33, .imul), (34, .goto 4), (37, .iload_n 2), (38, .ireturn)]
set_option maxRecDepth 100000 in
def zm_X2_warmth : zi_R := (2, ⟨"WaxWings$Flight", "warmth", "(I)I"⟩, prog_4_method_6_code, 3, (some .int), false, 1, 1, 0, zc_X2_warmth, [])
set_option maxRecDepth 100000 in
def zc_X2_move : List (Nat × Instr) := [(0, .aload_n 1), (1, .getfield 52), (4, .ifCond .ne 11), (7, .aload_n 0), (8, .aload_n 1), (9, .invokevirtual 55), (12, .ifCond .eq 5), (15, .iconst 0), (16, .ireturn), (17, .aload_n 0), (18, .getfield 9), (21, .aload_n 1), (22, .getfield 33), (25, .aload_n 1), (26, .getfield 59), (29, .invokevirtual 62), (32, .istore 4), (34, .aload_n 1), (35, .getfield 59), (38, .iload_n 2), (39, .iadd), (40, .iconst 1), (41, .isub), (42, .istore 5), (44, .aload_n 1), (45, .getfield 33), (48, .iload 4), (50, .iconst 4), (51, .if_icmp .ne 7), (54, .iconst 2), (55, .goto 4), (58, .iconst 1), (59, .iadd), (60, .aload_n 0), (61, .getfield 9), (64, .getfield 38), (67, .iconst 1), (68, .isub), (69, .invokestatic 65), (72, .istore 6), (74, .aload_n 0), (75, .getfield 9), (78, .iload 6), (80, .iload 5), (82, .invokevirtual 62), (85, .iconst 5), (86, .if_icmp .ne 5), (89, .iconst 0), (90, .ireturn), (91, .aload_n 3), (92, .aload_n 1), (93, .invokevirtual 68), (96, .aload_n 3), (97, .iload 6), (99, .putfield 33), (102, .aload_n 3), (103, .iload 5), (105, .putfield 59), (108, .iload 4), (110, .iconst 3), (111, .if_icmp .eq 17), (114, .aload_n 3), (115, .dup), (116, .getfield 72), (119, .aload_n 0), (120, .iload_n 2), (121, .invokevirtual 75), (124, .isub), (125, .putfield 72), (128, .iconst 1), (129, .ireturn)]
set_option maxRecDepth 100000 in
def zm_X2_move : zi_R := (2, ⟨"WaxWings$Flight", "move", "(LWaxWings$Spot;ILWaxWings$Spot;)Z"⟩, prog_4_method_7_code, 7, (some .boolean), false, 3, 4, 0, zc_X2_move, [(59, [0, 1, 2, 3, 4, 5])])
set_option maxRecDepth 100000 in
def zc_X2_canSink : List (Nat × Instr) := [(0, .aload_n 0), (1, .getfield 9), (4, .aload_n 1), (5, .getfield 33), (8, .aload_n 1), (9, .getfield 59), (12, .iconst 1), (13, .isub), (14, .invokevirtual 62), (17, .iconst 5), (18, .if_icmp .eq 7), (21, .iconst 1), (22, .goto 4), (25, .iconst 0), (26, .ireturn)]
set_option maxRecDepth 100000 in
def zm_X2_canSink : zi_R := (2, ⟨"WaxWings$Flight", "canSink", "(LWaxWings$Spot;)Z"⟩, prog_4_method_8_code, 2, (some .boolean), false, 1, 4, 0, zc_X2_canSink, [])
set_option maxRecDepth 100000 in
def zc_X2_settle : List (Nat × Instr) := [(0, .aload_n 0), (1, .getfield 9), (4, .aload_n 1), (5, .getfield 33), (8, .aload_n 1), (9, .getfield 59), (12, .invokevirtual 62), (15, .istore_n 2), (16, .aload_n 1), (17, .iload_n 2), (18, .iconst 1), (19, .if_icmp .ne 16), (22, .iconst 0), (23, .aload_n 1), (24, .getfield 43), (27, .iconst 1), (28, .isub), (29, .invokestatic 46), (32, .goto 16), (35, .aload_n 1), (36, .getfield 43), (39, .aload_n 0), (40, .aload_n 1), (41, .getfield 59), (44, .invokevirtual 79), (47, .iadd), (48, .putfield 43), (51, .aload_n 1), (52, .getfield 59), (55, .ifCond .eq 8), (58, .iload_n 2), (59, .iconst 2), (60, .if_icmp .ne 7), (63, .iconst 1), (64, .goto 4), (67, .iconst 0), (68, .istore_n 3), (69, .aload_n 1), (70, .iload_n 3), (71, .ifCond .eq 12), (74, .aload_n 1), (75, .getfield 82), (78, .iconst 1), (79, .iadd), (80, .goto 13), (83, .iconst 0), (84, .aload_n 1), (85, .getfield 82), (88, .iconst 1), (89, .isub), (90, .invokestatic 46), (93, .putfield 82), (96, .aload_n 1), (97, .aload_n 1), (98, .getfield 72), (101, .ifCond .ge 7), (104, .iconst 1), (105, .goto 31), (108, .aload_n 1), (109, .getfield 43), (112, .aload_n 0), (113, .getfield 25), (116, .if_icmp .le 7), (119, .iconst 2), (120, .goto 16), (123, .aload_n 1), (124, .getfield 82), (127, .iconst 2), (128, .if_icmp .le 7), (131, .iconst 3), (132, .goto 4), (135, .iconst 0), (136, .putfield 52), (139, .return_)]
set_option maxRecDepth 100000 in
def zm_X2_settle : zi_R := (2, ⟨"WaxWings$Flight", "settle", "(LWaxWings$Spot;)V"⟩, prog_4_method_9_code, 4, none, false, 1, 0, 0, zc_X2_settle, [(48, [0, 1, 2]), (63, [0, 1]), (68, [0, 1]), (93, [0, 1]), (136, [])])
set_option maxRecDepth 100000 in
def zc_X2_fly : List (Nat × Instr) := [(0, .aload_n 0), (1, .aload_n 1), (2, .iload_n 2), (3, .aload_n 3), (4, .invokevirtual 85), (7, .ifCond .ne 5), (10, .iconst (-1)), (11, .ireturn), (12, .aload_n 0), (13, .aload_n 3), (14, .invokevirtual 89), (17, .aload_n 3), (18, .getfield 52), (21, .ireturn)]
set_option maxRecDepth 100000 in
def zm_X2_fly : zi_R := (2, ⟨"WaxWings$Flight", "fly", "(LWaxWings$Spot;ILWaxWings$Spot;)I"⟩, prog_4_method_10_code, 4, (some .int), false, 3, 1, 0, zc_X2_fly, [])
set_option maxRecDepth 100000 in
def zc_X3_chanceOf : List (Nat × Instr) := [(0, .aload_n 0), (1, .aload_n 1), (2, .iload_n 2), (3, .aload_n 3), (4, .invokevirtual 22), (7, .aload_n 0), (8, .iconst 0), (9, .invokevirtual 26), (12, .ireturn)]
set_option maxRecDepth 100000 in
def zm_X3_chanceOf : zi_R := (3, ⟨"WaxWings$Gusts", "chanceOf", "(LWaxWings$Spot;ILWaxWings$Row;)I"⟩, prog_5_method_2_code, 4, (some .int), false, 3, 1, 0, zc_X3_chanceOf, [])
set_option maxRecDepth 100000 in
def zc_X3_bestBeat : List (Nat × Instr) := [(0, .aload_n 0), (1, .aload_n 1), (2, .iload_n 2), (3, .aconst_null), (4, .invokevirtual 22), (7, .aload_n 0), (8, .getfield 17), (11, .aload_n 1), (12, .invokevirtual 30), (15, .ifCond .eq 6), (18, .bipush (-9)), (20, .ireturn), (21, .iconst 0), (22, .istore_n 3), (23, .bipush (-9)), (25, .istore 4), (27, .iconst 0), (28, .istore 5), (30, .iload 5), (32, .iconst 2), (33, .if_icmp .gt 34), (36, .aload_n 0), (37, .iconst 0), (38, .iload 5), (40, .invokevirtual 36), (43, .istore 6), (45, .iload 6), (47, .iload_n 3), (48, .if_icmp .gt 6), (51, .goto 10), (54, .iload 6), (56, .istore_n 3), (57, .iload 5), (59, .istore 4), (61, .iinc 5 1), (64, .goto (-34)), (67, .iload 4), (69, .ireturn)]
set_option maxRecDepth 100000 in
def zm_X3_bestBeat : zi_R := (3, ⟨"WaxWings$Gusts", "bestBeat", "(LWaxWings$Spot;I)I"⟩, prog_5_method_3_code, 7, (some .int), false, 2, 1, 0, zc_X3_bestBeat, [(30, [0, 3, 4, 5]), (61, [0, 3, 4, 5])])
set_option maxRecDepth 100000 in
def zc_X3_begin : List (Nat × Instr) := [(0, .aload_n 0), (1, .getfield 11), (4, .iconst 0), (5, .aaload), (6, .aload_n 1), (7, .invokevirtual 40), (10, .aload_n 0), (11, .iload_n 2), (12, .putfield 44), (15, .aload_n 0), (16, .aload_n 3), (17, .putfield 48), (20, .return_)]
set_option maxRecDepth 100000 in
def zm_X3_begin : zi_R := (3, ⟨"WaxWings$Gusts", "begin", "(LWaxWings$Spot;ILWaxWings$Row;)V"⟩, prog_5_method_4_code, 4, none, false, 3, 0, 0, zc_X3_begin, [])
set_option maxRecDepth 100000 in
def zc_X3_chance : List (Nat × Instr) := [(0, .iload_n 1), (1, .ifCond .lt 21), (4, .iload_n 1), (5, .bipush 6), (7, .if_icmp .gt 15), (10, .aload_n 0), (11, .getfield 11), (14, .iload_n 1), (15, .aaload), (16, .getfield 52), (19, .ifCond .eq 5), (22, .iconst 0), (23, .ireturn), (24, .aload_n 0), (25, .getfield 17), (28, .aload_n 0), (29, .getfield 11), (32, .iload_n 1), (33, .aaload), (34, .invokevirtual 30), (37, .ifCond .eq 6), (40, .ldc 55), (42, .ireturn), (43, .aload_n 0), (44, .getfield 48), (47, .ifnull 32), (50, .aload_n 0), (51, .getfield 48), (54, .iload_n 1), (55, .invokevirtual 56), (58, .ifCond .eq 19), (61, .aload_n 0), (62, .iload_n 1), (63, .aload_n 0), (64, .getfield 48), (67, .iload_n 1), (68, .invokevirtual 62), (71, .invokevirtual 36), (74, .goto 4), (77, .iconst 0), (78, .ireturn), (79, .iconst 0), (80, .istore_n 2), (81, .iconst 0), (82, .istore_n 3), (83, .iload_n 3), (84, .iconst 2), (85, .if_icmp .gt 26), (88, .iload_n 2), (89, .ldc 55), (91, .if_icmp .ge 20), (94, .iload_n 2), (95, .aload_n 0), (96, .iload_n 1), (97, .iload_n 3), (98, .invokevirtual 36), (101, .invokestatic 65), (104, .istore_n 2), (105, .iinc 3 1), (108, .goto (-25)), (111, .iload_n 2), (112, .ireturn)]
set_option maxRecDepth 100000 in
def zm_X3_chance : zi_R := (3, ⟨"WaxWings$Gusts", "chance", "(I)I"⟩, prog_5_method_5_code, 4, (some .int), false, 1, 1, 0, zc_X3_chance, [(83, [0, 1, 2, 3])])
set_option maxRecDepth 100000 in
def zc_X3_chanceBy : List (Nat × Instr) := [(0, .iload_n 1), (1, .ifCond .lt 34), (4, .iload_n 1), (5, .bipush 6), (7, .if_icmp .ge 28), (10, .aload_n 0), (11, .getfield 17), (14, .aload_n 0), (15, .getfield 11), (18, .iload_n 1), (19, .aaload), (20, .iload_n 2), (21, .aload_n 0), (22, .getfield 11), (25, .iload_n 1), (26, .iconst 1), (27, .iadd), (28, .aaload), (29, .invokevirtual 70), (32, .ifCond .ne 5), (35, .iconst 0), (36, .ireturn), (37, .aload_n 0), (38, .getfield 11), (41, .iload_n 1), (42, .iconst 1), (43, .iadd), (44, .aaload), (45, .astore_n 3), (46, .aload_n 0), (47, .getfield 44), (50, .ifCond .eq 25), (53, .aload_n 0), (54, .getfield 17), (57, .aload_n 3), (58, .invokevirtual 30), (61, .ifCond .ne 14), (64, .aload_n 0), (65, .getfield 17), (68, .aload_n 3), (69, .invokevirtual 74), (72, .ifCond .ne 11), (75, .aload_n 0), (76, .iload_n 1), (77, .iconst 1), (78, .iadd), (79, .invokevirtual 77), (82, .ireturn), (83, .aload_n 3), (84, .dup), (85, .getfield 80), (88, .iconst 1), (89, .isub), (90, .putfield 80), (93, .aload_n 0), (94, .iload_n 1), (95, .iconst 1), (96, .iadd), (97, .invokevirtual 77), (100, .istore 4), (102, .aload_n 0), (103, .getfield 44), (106, .bipush 12), (108, .if_icmp .ne 6), (111, .iload 4), (113, .ireturn), (114, .aload_n 0), (115, .getfield 17), (118, .aload_n 0), (119, .getfield 11), (122, .iload_n 1), (123, .aaload), (124, .iload_n 2), (125, .aload_n 3), (126, .invokevirtual 70), (129, .pop), (130, .aload_n 0), (131, .iload_n 1), (132, .iconst 1), (133, .iadd), (134, .invokevirtual 77), (137, .istore 5), (139, .aload_n 0), (140, .getfield 44), (143, .iload 4), (145, .imul), (146, .bipush 12), (148, .aload_n 0), (149, .getfield 44), (152, .isub), (153, .iload 5), (155, .imul), (156, .iadd), (157, .bipush 12), (159, .idiv), (160, .ireturn)]
set_option maxRecDepth 100000 in
def zm_X3_chanceBy : zi_R := (3, ⟨"WaxWings$Gusts", "chanceBy", "(II)I"⟩, prog_5_method_6_code, 6, (some .int), false, 2, 1, 0, zc_X3_chanceBy, [(75, [0, 1])])
set_option maxRecDepth 100000 in
def zc_X3_settledChance : List (Nat × Instr) := [(0, .iload_n 1), (1, .ifCond .lt 9), (4, .iload_n 1), (5, .bipush 6), (7, .if_icmp .le 5), (10, .iconst 0), (11, .ireturn), (12, .aload_n 0), (13, .getfield 17), (16, .aload_n 0), (17, .getfield 11), (20, .iload_n 1), (21, .aaload), (22, .invokevirtual 83), (25, .aload_n 0), (26, .iload_n 1), (27, .invokevirtual 26), (30, .ireturn)]
set_option maxRecDepth 100000 in
def zm_X3_settledChance : zi_R := (3, ⟨"WaxWings$Gusts", "settledChance", "(I)I"⟩, prog_5_method_7_code, 2, (some .int), false, 1, 1, 0, zc_X3_settledChance, [])
set_option maxRecDepth 100000 in
def zc_X4_place : List (Nat × Instr) := [(0, .aload_n 0), (1, .getfield 25), (4, .ireturn)]
set_option maxRecDepth 100000 in
def zm_X4_place : zi_R := (4, ⟨"WaxWings$Reader", "place", "()I"⟩, prog_6_method_2_code, 1, (some .int), false, 0, 1, 0, zc_X4_place, [])
set_option maxRecDepth 100000 in
def zc_X4_read : List (Nat × Instr) := [(0, .aload_n 0), (1, .aload_n 1), (2, .putfield 29), (5, .aload_n 0), (6, .iconst 0), (7, .putfield 25), (10, .aload_n 0), (11, .invokevirtual 33), (14, .aload_n 0), (15, .invokevirtual 36), (18, .ifCond .eq 28), (21, .aload_n 0), (22, .invokevirtual 40), (25, .ifCond .eq 21), (28, .aload_n 0), (29, .invokevirtual 43), (32, .ifCond .eq 14), (35, .aload_n 0), (36, .invokevirtual 46), (39, .ifCond .eq 7), (42, .iconst 1), (43, .goto 4), (46, .iconst 0), (47, .ireturn)]
set_option maxRecDepth 100000 in
def zm_X4_read : zi_R := (4, ⟨"WaxWings$Reader", "read", "(LWaxWings$Row;)Z"⟩, prog_6_method_3_code, 2, (some .boolean), false, 1, 4, 0, zc_X4_read, [])
set_option maxRecDepth 100000 in
def zc_X4_hand : List (Nat × Instr) := [(0, .aload_n 1), (1, .aload_n 0), (2, .getfield 12), (5, .invokevirtual 49), (8, .aload_n 2), (9, .aload_n 0), (10, .getfield 21), (13, .invokevirtual 53), (16, .return_)]
set_option maxRecDepth 100000 in
def zm_X4_hand : zi_R := (4, ⟨"WaxWings$Reader", "hand", "(LWaxWings$Air;LWaxWings$Sky;)V"⟩, prog_6_method_4_code, 3, none, false, 2, 0, 0, zc_X4_hand, [])
set_option maxRecDepth 100000 in
def zc_X4_here : List (Nat × Instr) := [(0, .aload_n 0), (1, .getfield 29), (4, .ifnull 31), (7, .aload_n 0), (8, .getfield 29), (11, .aload_n 0), (12, .getfield 25), (15, .invokevirtual 56), (18, .ifCond .eq 17), (21, .aload_n 0), (22, .getfield 29), (25, .aload_n 0), (26, .getfield 25), (29, .invokevirtual 62), (32, .goto 6), (35, .sipush 1000), (38, .ireturn)]
set_option maxRecDepth 100000 in
def zm_X4_here : zi_R := (4, ⟨"WaxWings$Reader", "here", "()I"⟩, prog_6_method_5_code, 1, (some .int), false, 0, 1, 0, zc_X4_here, [])
set_option maxRecDepth 100000 in
def zc_X4_skipBlanks : List (Nat × Instr) := [(0, .aload_n 0), (1, .getfield 25), (4, .bipush 80), (6, .if_icmp .ge 25), (9, .aload_n 0), (10, .invokevirtual 66), (13, .bipush 32), (15, .if_icmp .ne 16), (18, .aload_n 0), (19, .dup), (20, .getfield 25), (23, .iconst 1), (24, .iadd), (25, .putfield 25), (28, .goto (-28)), (31, .return_)]
set_option maxRecDepth 100000 in
def zm_X4_skipBlanks : zi_R := (4, ⟨"WaxWings$Reader", "skipBlanks", "()V"⟩, prog_6_method_6_code, 1, none, false, 0, 0, 0, zc_X4_skipBlanks, [(0, [0])])
set_option maxRecDepth 100000 in
def zc_X4_readLines : List (Nat × Instr) := [(0, .aload_n 0), (1, .getfield 12), (4, .iconst 0), (5, .putfield 70), (8, .aload_n 0), (9, .getfield 12), (12, .iconst 0), (13, .putfield 73), (16, .iconst 0), (17, .istore_n 1), (18, .iload_n 1), (19, .iconst 5), (20, .if_icmp .ge 69), (23, .aload_n 0), (24, .iload_n 1), (25, .invokevirtual 76), (28, .ifCond .ne 5), (31, .iconst 0), (32, .ireturn), (33, .aload_n 0), (34, .invokevirtual 66), (37, .istore_n 2), (38, .iload_n 2), (39, .bipush 61), (41, .if_icmp .ne 7), (44, .iconst 1), (45, .goto 4), (48, .iconst 0), (49, .istore_n 3), (50, .iload_n 3), (51, .ifCond .ne 16), (54, .iload_n 2), (55, .bipush 47), (57, .if_icmp .ne 8), (60, .iload_n 1), (61, .iconst 4), (62, .if_icmp .ne 5), (65, .iconst 0), (66, .ireturn), (67, .aload_n 0), (68, .dup), (69, .getfield 25), (72, .iconst 1), (73, .iadd), (74, .putfield 25), (77, .iload_n 3), (78, .ifCond .eq 5), (81, .iconst 1), (82, .ireturn), (83, .iinc 1 1), (86, .goto (-68)), (89, .iconst 0), (90, .ireturn)]
set_option maxRecDepth 100000 in
def zm_X4_readLines : zi_R := (4, ⟨"WaxWings$Reader", "readLines", "()Z"⟩, prog_6_method_7_code, 4, (some .boolean), false, 0, 4, 0, zc_X4_readLines, [(18, [0, 1]), (49, [0, 1, 2]), (67, [0, 1, 3])])
set_option maxRecDepth 100000 in
def zc_X4_readLine : List (Nat × Instr) := [(0, .iload_n 1), (1, .ifCond .ne 8), (4, .bipush 7), (6, .goto 10), (9, .aload_n 0), (10, .getfield 12), (13, .getfield 70), (16, .istore_n 2), (17, .iconst 0), (18, .istore_n 3), (19, .iload_n 3), (20, .iload_n 2), (21, .if_icmp .ge 50), (24, .aload_n 0), (25, .invokevirtual 66), (28, .getstatic 79), (31, .invokestatic 83), (34, .istore 4), (36, .iload 4), (38, .ifCond .ge 6), (41, .goto 30), (44, .aload_n 0), (45, .getfield 12), (48, .iload_n 3), (49, .iload_n 1), (50, .iload 4), (52, .invokevirtual 87), (55, .iinc 3 1), (58, .aload_n 0), (59, .dup), (60, .getfield 25), (63, .iconst 1), (64, .iadd), (65, .putfield 25), (68, .goto (-49)), (71, .iload_n 1), (72, .ifCond .ne 11), (75, .aload_n 0), (76, .getfield 12), (79, .iload_n 3), (80, .putfield 70), (83, .aload_n 0), (84, .getfield 12), (87, .iload_n 1), (88, .iconst 1), (89, .iadd), (90, .putfield 73), (93, .iload_n 3), (94, .iconst 2), (95, .if_icmp .lt 18), (98, .iload_n 3), (99, .aload_n 0), (100, .getfield 12), (103, .getfield 70), (106, .if_icmp .ne 7), (109, .iconst 1), (110, .goto 4), (113, .iconst 0), (114, .ireturn)]
set_option maxRecDepth 100000 in
def zm_X4_readLine : zi_R := (4, ⟨"WaxWings$Reader", "readLine", "(I)Z"⟩, prog_6_method_8_code, 5, (some .boolean), false, 1, 4, 0, zc_X4_readLine, [(16, [0, 1]), (19, [0, 1, 2, 3]), (71, [0, 1, 3]), (83, [0, 1, 3])])
set_option maxRecDepth 100000 in
def zc_X4_readSun : List (Nat × Instr) := [(0, .aload_n 0), (1, .bipush 10), (3, .invokevirtual 91), (6, .istore_n 1), (7, .iload_n 1), (8, .ifCond .ge 5), (11, .iconst 0), (12, .ireturn), (13, .aload_n 0), (14, .getfield 21), (17, .iload_n 1), (18, .putfield 94), (21, .aload_n 0), (22, .dup), (23, .getfield 25), (26, .iconst 1), (27, .iadd), (28, .putfield 25), (31, .iconst 1), (32, .ireturn)]
set_option maxRecDepth 100000 in
def zm_X4_readSun : zi_R := (4, ⟨"WaxWings$Reader", "readSun", "()Z"⟩, prog_6_method_9_code, 2, (some .boolean), false, 0, 4, 0, zc_X4_readSun, [])
set_option maxRecDepth 100000 in
def zc_X4_readFlyers : List (Nat × Instr) := [(0, .aload_n 0), (1, .getfield 21), (4, .iconst 0), (5, .putfield 97), (8, .iconst 0), (9, .istore_n 1), (10, .iload_n 1), (11, .iconst 4), (12, .if_icmp .ge 57), (15, .aload_n 0), (16, .invokevirtual 66), (19, .getstatic 100), (22, .invokestatic 83), (25, .istore_n 2), (26, .iload_n 2), (27, .ifCond .ge 5), (30, .iconst 1), (31, .ireturn), (32, .aload_n 0), (33, .dup), (34, .getfield 25), (37, .iconst 1), (38, .iadd), (39, .putfield 25), (42, .aload_n 0), (43, .iload_n 1), (44, .iload_n 2), (45, .invokevirtual 103), (48, .ifCond .ne 5), (51, .iconst 0), (52, .ireturn), (53, .aload_n 0), (54, .getfield 21), (57, .iload_n 1), (58, .iconst 1), (59, .iadd), (60, .putfield 97), (63, .iinc 1 1), (66, .goto (-56)), (69, .iconst 1), (70, .ireturn)]
set_option maxRecDepth 100000 in
def zm_X4_readFlyers : zi_R := (4, ⟨"WaxWings$Reader", "readFlyers", "()Z"⟩, prog_6_method_10_code, 3, (some .boolean), false, 0, 4, 0, zc_X4_readFlyers, [(10, [0, 1])])
set_option maxRecDepth 100000 in
def zc_X4_readFlyer : List (Nat × Instr) := [(0, .aload_n 0), (1, .bipush 10), (3, .invokevirtual 91), (6, .istore_n 3), (7, .iload_n 3), (8, .ifCond .ge 5), (11, .iconst 0), (12, .ireturn), (13, .aload_n 0), (14, .dup), (15, .getfield 25), (18, .iconst 1), (19, .iadd), (20, .putfield 25), (23, .aload_n 0), (24, .bipush 10), (26, .invokevirtual 91), (29, .istore 4), (31, .iload 4), (33, .ifCond .ge 5), (36, .iconst 0), (37, .ireturn), (38, .aload_n 0), (39, .dup), (40, .getfield 25), (43, .iconst 1), (44, .iadd), (45, .putfield 25), (48, .aload_n 0), (49, .aload_n 0), (50, .getfield 12), (53, .getfield 73), (56, .invokevirtual 91), (59, .istore 5), (61, .iload 5), (63, .ifCond .lt 17), (66, .aload_n 0), (67, .getfield 12), (70, .iconst 0), (71, .iload 5), (73, .invokevirtual 107), (76, .iconst 5), (77, .if_icmp .ne 5), (80, .iconst 0), (81, .ireturn), (82, .aload_n 0), (83, .dup), (84, .getfield 25), (87, .iconst 1), (88, .iadd), (89, .putfield 25), (92, .iload_n 1), (93, .ifCond .lt 26), (96, .iload_n 1), (97, .iconst 4), (98, .if_icmp .ge 21), (101, .aload_n 0), (102, .getfield 21), (105, .getfield 111), (108, .iload_n 1), (109, .aaload), (110, .iload_n 2), (111, .iload_n 3), (112, .iload 4), (114, .iload 5), (116, .invokevirtual 115), (119, .iconst 1), (120, .ireturn)]
set_option maxRecDepth 100000 in
def zm_X4_readFlyer : zi_R := (4, ⟨"WaxWings$Reader", "readFlyer", "(II)Z"⟩, prog_6_method_11_code, 6, (some .boolean), false, 2, 4, 0, zc_X4_readFlyer, [])
set_option maxRecDepth 100000 in
def zc_X4_readEnd : List (Nat × Instr) := [(0, .aload_n 0), (1, .invokevirtual 33), (4, .aload_n 0), (5, .invokevirtual 66), (8, .sipush 1000), (11, .if_icmp .ne 7), (14, .iconst 1), (15, .goto 4), (18, .iconst 0), (19, .ireturn)]
set_option maxRecDepth 100000 in
def zm_X4_readEnd : zi_R := (4, ⟨"WaxWings$Reader", "readEnd", "()Z"⟩, prog_6_method_12_code, 1, (some .boolean), false, 0, 4, 0, zc_X4_readEnd, [])
set_option maxRecDepth 100000 in
def zc_X4_figureBelow : List (Nat × Instr) := [(0, .aload_n 0), (1, .invokevirtual 66), (4, .bipush 48), (6, .isub), (7, .istore_n 2), (8, .iload_n 2), (9, .ifCond .lt 18), (12, .iload_n 2), (13, .bipush 9), (15, .if_icmp .gt 12), (18, .iload_n 2), (19, .iload_n 1), (20, .if_icmp .ge 7), (23, .iload_n 2), (24, .goto 4), (27, .iconst (-1)), (28, .ireturn)]
set_option maxRecDepth 100000 in
def zm_X4_figureBelow : zi_R := (4, ⟨"WaxWings$Reader", "figureBelow", "(I)I"⟩, prog_6_method_13_code, 3, (some .int), false, 1, 1, 0, zc_X4_figureBelow, [])
set_option maxRecDepth 100000 in
def zc_X4_placeOf : List (Nat × Instr) := [(0, .iconst 0), (1, .istore_n 2), (2, .iload_n 2), (3, .aload_n 1), (4, .arraylength), (5, .if_icmp .ge 18), (8, .aload_n 1), (9, .iload_n 2), (10, .iaload), (11, .iload_n 0), (12, .if_icmp .ne 5), (15, .iload_n 2), (16, .ireturn), (17, .iinc 2 1), (20, .goto (-18)), (23, .iconst (-1)), (24, .ireturn)]
set_option maxRecDepth 100000 in
def zm_X4_placeOf : zi_R := (4, ⟨"WaxWings$Reader", "placeOf", "(I[I)I"⟩, prog_6_method_14_code, 3, (some .int), true, 2, 1, 0, zc_X4_placeOf, [(2, [0, 1, 2])])
set_option maxRecDepth 100000 in
def zc_X5_room : List (Nat × Instr) := [(0, .aload_n 0), (1, .getfield 19), (4, .arraylength), (5, .ireturn)]
set_option maxRecDepth 100000 in
def zm_X5_room : zi_R := (5, ⟨"WaxWings$Row", "room", "()I"⟩, prog_7_method_2_code, 1, (some .int), false, 0, 1, 0, zc_X5_room, [])
set_option maxRecDepth 100000 in
def zc_X5_size : List (Nat × Instr) := [(0, .aload_n 0), (1, .getfield 7), (4, .ireturn)]
set_option maxRecDepth 100000 in
def zm_X5_size : zi_R := (5, ⟨"WaxWings$Row", "size", "()I"⟩, prog_7_method_3_code, 1, (some .int), false, 0, 1, 0, zc_X5_size, [])
set_option maxRecDepth 100000 in
def zc_X5_isThere : List (Nat × Instr) := [(0, .aload_n 0), (1, .getfield 7), (4, .ifCond .lt 7), (7, .iconst 1), (8, .goto 4), (11, .iconst 0), (12, .ireturn)]
set_option maxRecDepth 100000 in
def zm_X5_isThere : zi_R := (5, ⟨"WaxWings$Row", "isThere", "()Z"⟩, prog_7_method_4_code, 1, (some .boolean), false, 0, 4, 0, zc_X5_isThere, [])
set_option maxRecDepth 100000 in
def zc_X5_has : List (Nat × Instr) := [(0, .iload_n 1), (1, .ifCond .lt 24), (4, .iload_n 1), (5, .aload_n 0), (6, .getfield 7), (9, .if_icmp .ge 16), (12, .iload_n 1), (13, .aload_n 0), (14, .getfield 19), (17, .arraylength), (18, .if_icmp .ge 7), (21, .iconst 1), (22, .goto 4), (25, .iconst 0), (26, .ireturn)]
set_option maxRecDepth 100000 in
def zm_X5_has : zi_R := (5, ⟨"WaxWings$Row", "has", "(I)Z"⟩, prog_7_method_5_code, 2, (some .boolean), false, 1, 4, 0, zc_X5_has, [])
set_option maxRecDepth 100000 in
def zc_X5_hasRun : List (Nat × Instr) := [(0, .iload_n 1), (1, .ifCond .lt 29), (4, .iload_n 2), (5, .ifCond .lt 25), (8, .iload_n 2), (9, .aload_n 0), (10, .getfield 7), (13, .if_icmp .gt 17), (16, .iload_n 1), (17, .aload_n 0), (18, .getfield 7), (21, .iload_n 2), (22, .isub), (23, .if_icmp .gt 7), (26, .iconst 1), (27, .goto 4), (30, .iconst 0), (31, .ireturn)]
set_option maxRecDepth 100000 in
def zm_X5_hasRun : zi_R := (5, ⟨"WaxWings$Row", "hasRun", "(II)Z"⟩, prog_7_method_6_code, 3, (some .boolean), false, 2, 4, 0, zc_X5_hasRun, [])
set_option maxRecDepth 100000 in
def zc_X5_get : List (Nat × Instr) := [(0, .iload_n 1), (1, .ifCond .lt 29), (4, .iload_n 1), (5, .aload_n 0), (6, .getfield 7), (9, .if_icmp .ge 21), (12, .iload_n 1), (13, .aload_n 0), (14, .getfield 19), (17, .arraylength), (18, .if_icmp .ge 12), (21, .aload_n 0), (22, .getfield 19), (25, .iload_n 1), (26, .iaload), (27, .goto 4), (30, .iconst 0), (31, .ireturn)]
set_option maxRecDepth 100000 in
def zm_X5_get : zi_R := (5, ⟨"WaxWings$Row", "get", "(I)I"⟩, prog_7_method_7_code, 2, (some .int), false, 1, 1, 0, zc_X5_get, [])
set_option maxRecDepth 100000 in
def zc_X5_set : List (Nat × Instr) := [(0, .aload_n 0), (1, .iload_n 1), (2, .invokevirtual 23), (5, .ifCond .eq 10), (8, .aload_n 0), (9, .getfield 19), (12, .iload_n 1), (13, .iload_n 2), (14, .iastore), (15, .return_)]
set_option maxRecDepth 100000 in
def zm_X5_set : zi_R := (5, ⟨"WaxWings$Row", "set", "(II)V"⟩, prog_7_method_8_code, 3, none, false, 2, 0, 0, zc_X5_set, [])
set_option maxRecDepth 100000 in
def zc_X5_drop : List (Nat × Instr) := [(0, .aload_n 0), (1, .iconst (-1)), (2, .putfield 7), (5, .return_)]
set_option maxRecDepth 100000 in
def zm_X5_drop : zi_R := (5, ⟨"WaxWings$Row", "drop", "()V"⟩, prog_7_method_9_code, 1, none, false, 0, 0, 0, zc_X5_drop, [])
set_option maxRecDepth 100000 in
def zc_X5_make : List (Nat × Instr) := [(0, .aload_n 0), (1, .iconst 0), (2, .iload_n 1), (3, .aload_n 0), (4, .getfield 19), (7, .arraylength), (8, .invokestatic 27), (11, .invokestatic 13), (14, .putfield 7), (17, .iconst 0), (18, .istore_n 3), (19, .iload_n 3), (20, .aload_n 0), (21, .getfield 7), (24, .if_icmp .ge 16), (27, .aload_n 0), (28, .getfield 19), (31, .iload_n 3), (32, .iload_n 2), (33, .iastore), (34, .iinc 3 1), (37, .goto (-18)), (40, .return_)]
set_option maxRecDepth 100000 in
def zm_X5_make : zi_R := (5, ⟨"WaxWings$Row", "make", "(II)V"⟩, prog_7_method_10_code, 4, none, false, 2, 0, 0, zc_X5_make, [(19, [0, 2, 3])])
set_option maxRecDepth 100000 in
def zc_X5_takeRun : List (Nat × Instr) := [(0, .aload_n 0), (1, .iload_n 1), (2, .iload 4), (4, .invokevirtual 30), (7, .ifCond .eq 13), (10, .aload_n 2), (11, .iload_n 3), (12, .iload 4), (14, .invokevirtual 30), (17, .ifCond .ne 4), (20, .return_), (21, .aload_n 2), (22, .getfield 19), (25, .iload_n 3), (26, .aload_n 0), (27, .getfield 19), (30, .iload_n 1), (31, .iload 4), (33, .invokestatic 34), (36, .return_)]
set_option maxRecDepth 100000 in
def zm_X5_takeRun : zi_R := (5, ⟨"WaxWings$Row", "takeRun", "(ILWaxWings$Row;II)V"⟩, prog_7_method_11_code, 5, none, false, 4, 0, 0, zc_X5_takeRun, [])
set_option maxRecDepth 100000 in
def zc_X5_digestOn : List (Nat × Instr) := [(0, .ldc2_w 40), (3, .lload_n 1), (4, .lmul), (5, .aload_n 0), (6, .getfield 7), (9, .i2l), (10, .ladd), (11, .lstore_n 3), (12, .iconst 0), (13, .istore 5), (15, .iload 5), (17, .aload_n 0), (18, .getfield 7), (21, .if_icmp .ge 23), (24, .ldc2_w 40), (27, .lload_n 3), (28, .lmul), (29, .aload_n 0), (30, .iload 5), (32, .invokevirtual 42), (35, .i2l), (36, .ladd), (37, .lstore_n 3), (38, .iinc 5 1), (41, .goto (-26)), (44, .lload_n 3), (45, .lreturn)]
set_option maxRecDepth 100000 in
def zm_X5_digestOn : zi_R := (5, ⟨"WaxWings$Row", "digestOn", "(J)J"⟩, prog_7_method_12_code, 6, (some .long), false, 1, 2, 0, zc_X5_digestOn, [(15, [0, 3, 5])])
set_option maxRecDepth 100000 in
def zc_X6_birdAt : List (Nat × Instr) := [(0, .iload_n 1), (1, .ifCond .lt 25), (4, .iload_n 1), (5, .aload_n 0), (6, .getfield 29), (9, .if_icmp .ge 17), (12, .iload_n 1), (13, .iconst 4), (14, .if_icmp .ge 12), (17, .aload_n 0), (18, .getfield 11), (21, .iload_n 1), (22, .aaload), (23, .goto 4), (26, .aconst_null), (27, .areturn)]
set_option maxRecDepth 100000 in
def zm_X6_birdAt : zi_R := (6, ⟨"WaxWings$Sky", "birdAt", "(I)LWaxWings$Bird;"⟩, prog_8_method_2_code, 2, (some (.object "WaxWings$Bird")), false, 1, 3, 1, zc_X6_birdAt, [])
set_option maxRecDepth 100000 in
def zc_X6_oldOnes : List (Nat × Instr) := [(0, .iconst 0), (1, .istore_n 1), (2, .iconst 0), (3, .istore_n 2), (4, .iload_n 2), (5, .aload_n 0), (6, .getfield 29), (9, .if_icmp .ge 33), (12, .iload_n 2), (13, .iconst 4), (14, .if_icmp .ge 28), (17, .aload_n 0), (18, .getfield 11), (21, .iload_n 2), (22, .aaload), (23, .getfield 33), (26, .iconst 1), (27, .invokestatic 36), (30, .ifCond .eq 6), (33, .iinc 1 1), (36, .iinc 2 1), (39, .goto (-35)), (42, .iload_n 1), (43, .ireturn)]
set_option maxRecDepth 100000 in
def zm_X6_oldOnes : zi_R := (6, ⟨"WaxWings$Sky", "oldOnes", "()I"⟩, prog_8_method_3_code, 3, (some .int), false, 0, 1, 0, zc_X6_oldOnes, [(4, [0, 1, 2]), (36, [0, 1, 2])])
set_option maxRecDepth 100000 in
def zc_X6_othersIn : List (Nat × Instr) := [(0, .iconst 0), (1, .istore_n 3), (2, .iconst 0), (3, .istore 4), (5, .iload 4), (7, .aload_n 0), (8, .getfield 29), (11, .if_icmp .ge 41), (14, .iload 4), (16, .iconst 4), (17, .if_icmp .ge 35), (20, .iload 4), (22, .iload_n 1), (23, .if_icmp .eq 23), (26, .aload_n 0), (27, .getfield 11), (30, .iload 4), (32, .aaload), (33, .getfield 40), (36, .getfield 44), (39, .iload_n 2), (40, .if_icmp .ne 6), (43, .iinc 3 1), (46, .iinc 4 1), (49, .goto (-44)), (52, .iload_n 3), (53, .ireturn)]
set_option maxRecDepth 100000 in
def zm_X6_othersIn : zi_R := (6, ⟨"WaxWings$Sky", "othersIn", "(II)I"⟩, prog_8_method_4_code, 5, (some .int), false, 2, 1, 0, zc_X6_othersIn, [(5, [0, 1, 2, 3, 4]), (46, [0, 1, 2, 3, 4])])
set_option maxRecDepth 100000 in
def zc_X6_note : List (Nat × Instr) := [(0, .aload_n 0), (1, .getfield 47), (4, .ifCond .lt 12), (7, .aload_n 0), (8, .getfield 47), (11, .bipush 40), (13, .if_icmp .lt 5), (16, .iconst 0), (17, .ireturn), (18, .aload_n 0), (19, .getfield 17), (22, .aload_n 0), (23, .getfield 47), (26, .iload_n 1), (27, .iastore), (28, .aload_n 0), (29, .getfield 23), (32, .aload_n 0), (33, .getfield 47), (36, .aaload), (37, .aload_n 2), (38, .invokevirtual 50), (41, .aload_n 0), (42, .dup), (43, .getfield 47), (46, .iconst 1), (47, .iadd), (48, .putfield 47), (51, .iconst 1), (52, .ireturn)]
set_option maxRecDepth 100000 in
def zm_X6_note : zi_R := (6, ⟨"WaxWings$Sky", "note", "(ILWaxWings$Spot;)Z"⟩, prog_8_method_5_code, 3, (some .boolean), false, 2, 4, 0, zc_X6_note, [])
set_option maxRecDepth 100000 in
def zc_X6_goBack : List (Nat × Instr) := [(0, .iconst 0), (1, .istore_n 2), (2, .aload_n 0), (3, .getfield 47), (6, .bipush 40), (8, .invokestatic 54), (11, .iconst 1), (12, .isub), (13, .istore_n 3), (14, .iload_n 3), (15, .ifCond .lt 48), (18, .iload_n 3), (19, .iload_n 1), (20, .if_icmp .lt 43), (23, .aload_n 0), (24, .aload_n 0), (25, .getfield 17), (28, .iload_n 3), (29, .iaload), (30, .invokevirtual 60), (33, .astore 4), (35, .aload 4), (37, .ifnull 17), (40, .aload 4), (42, .getfield 40), (45, .aload_n 0), (46, .getfield 23), (49, .iload_n 3), (50, .aaload), (51, .invokevirtual 50), (54, .iinc 2 1), (57, .iinc 3 (-1)), (60, .goto (-46)), (63, .aload_n 0), (64, .dup), (65, .getfield 47), (68, .iload_n 2), (69, .isub), (70, .putfield 47), (73, .iload_n 2), (74, .ireturn)]
set_option maxRecDepth 100000 in
def zm_X6_goBack : zi_R := (6, ⟨"WaxWings$Sky", "goBack", "(I)I"⟩, prog_8_method_6_code, 5, (some .int), false, 1, 1, 0, zc_X6_goBack, [(14, [0, 1, 2, 3]), (54, [0, 1, 2, 3]), (63, [0, 2])])
set_option maxRecDepth 100000 in
def zc_X6_drop : List (Nat × Instr) := [(0, .aload_n 0), (1, .iconst 0), (2, .putfield 64), (5, .return_)]
set_option maxRecDepth 100000 in
def zm_X6_drop : zi_R := (6, ⟨"WaxWings$Sky", "drop", "()V"⟩, prog_8_method_7_code, 1, none, false, 0, 0, 0, zc_X6_drop, [])
set_option maxRecDepth 100000 in
def zc_X6_take : List (Nat × Instr) := [(0, .aload_n 0), (1, .iconst 1), (2, .putfield 64), (5, .aload_n 0), (6, .aload_n 1), (7, .getfield 29), (10, .putfield 29), (13, .aload_n 0), (14, .aload_n 1), (15, .getfield 68), (18, .putfield 68), (21, .aload_n 0), (22, .aload_n 1), (23, .getfield 47), (26, .putfield 47), (29, .iconst 0), (30, .istore_n 2), (31, .iload_n 2), (32, .iconst 4), (33, .if_icmp .ge 24), (36, .aload_n 0), (37, .getfield 11), (40, .iload_n 2), (41, .aaload), (42, .aload_n 1), (43, .getfield 11), (46, .iload_n 2), (47, .aaload), (48, .invokevirtual 71), (51, .iinc 2 1), (54, .goto (-23)), (57, .iconst 0), (58, .istore_n 2), (59, .iload_n 2), (60, .aload_n 0), (61, .getfield 47), (64, .if_icmp .ge 42), (67, .iload_n 2), (68, .bipush 40), (70, .if_icmp .ge 36), (73, .aload_n 0), (74, .getfield 17), (77, .iload_n 2), (78, .aload_n 1), (79, .getfield 17), (82, .iload_n 2), (83, .iaload), (84, .iastore), (85, .aload_n 0), (86, .getfield 23), (89, .iload_n 2), (90, .aaload), (91, .aload_n 1), (92, .getfield 23), (95, .iload_n 2), (96, .aaload), (97, .invokevirtual 50), (100, .iinc 2 1), (103, .goto (-44)), (106, .return_)]
set_option maxRecDepth 100000 in
def zm_X6_take : zi_R := (6, ⟨"WaxWings$Sky", "take", "(LWaxWings$Sky;)V"⟩, prog_8_method_8_code, 3, none, false, 1, 0, 0, zc_X6_take, [(31, [0, 1, 2]), (59, [0, 1, 2])])
set_option maxRecDepth 100000 in
def zc_X7_take : List (Nat × Instr) := [(0, .aload_n 0), (1, .aload_n 1), (2, .getfield 7), (5, .putfield 7), (8, .aload_n 0), (9, .aload_n 1), (10, .getfield 13), (13, .putfield 13), (16, .aload_n 0), (17, .aload_n 1), (18, .getfield 16), (21, .putfield 16), (24, .aload_n 0), (25, .aload_n 1), (26, .getfield 19), (29, .putfield 19), (32, .aload_n 0), (33, .aload_n 1), (34, .getfield 22), (37, .putfield 22), (40, .aload_n 0), (41, .aload_n 1), (42, .getfield 25), (45, .putfield 25), (48, .return_)]
set_option maxRecDepth 100000 in
def zm_X7_take : zi_R := (7, ⟨"WaxWings$Spot", "take", "(LWaxWings$Spot;)V"⟩, prog_9_method_2_code, 2, none, false, 1, 0, 0, zc_X7_take, [])
