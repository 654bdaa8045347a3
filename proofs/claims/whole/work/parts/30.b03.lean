/-! THE BLOCKS: a method from its entry, and from each cut, to the next cuts -/
set_option maxRecDepth 100000 in
set_option maxHeartbeats 4000000 in
theorem ze_X9_digest_59 (d : Nat) (y1 : Int64) (x3 : Int32) (o4 : Option Nat) (x5 : Int32) (M : zi_M) : zi_run d zm_X9_digest 59 [some (.inr (.inr (9, some 0))), some (.inr (.inl y1)), none, some (.inl x3), some (.inr (.inr (1, o4))), some (.inl x5)] [] M = (if 7 < x5 then zi_run d zm_X9_digest 87 [some (.inr (.inr (9, some 0))), some (.inr (.inl y1)), none, some (.inl x3), none, none] [] M else (zi_sm o4 (fun k21 => (zi_cI (zi_dn d (fun e => zi_run e zm_X1_tell 0 [some (.inr (.inr (1, some k21))), some (.inl x5)] [] M)) (fun x23 M22 => zi_run d zm_X9_digest 59 [some (.inr (.inr (9, some 0))), some (.inr (.inl ((31 * y1) + (Int32.toInt64 x23)))), none, some (.inl x3), some (.inr (.inr (1, o4))), some (.inl (x5 + 1))] [] M22))))) := (zi_blk 15 d zm_X9_digest 59 _ _ M).trans rfl
set_option maxRecDepth 100000 in
set_option maxHeartbeats 4000000 in
theorem ze_X9_digest_87 (d : Nat) (y1 : Int64) (x3 : Int32) (M : zi_M) : zi_run d zm_X9_digest 87 [some (.inr (.inr (9, some 0))), some (.inr (.inl y1)), none, some (.inl x3), none, none] [] M = zi_run d zm_X9_digest 33 [some (.inr (.inr (9, some 0))), some (.inr (.inl y1)), none, some (.inl (x3 + 1)), none, none] [] M := (zi_blk 3 d zm_X9_digest 87 _ _ M).trans rfl
set_option maxRecDepth 100000 in
set_option maxHeartbeats 4000000 in
theorem ze_X9_digest_95 (d : Nat) (y1 : Int64) (x3 : Int32) (M : zi_M) : zi_run d zm_X9_digest 95 [some (.inr (.inr (9, some 0))), some (.inr (.inl y1)), none, some (.inl x3), none, none] [] M = (if 3 ≤ x3 then zi_run d zm_X9_digest 141 [some (.inr (.inr (9, some 0))), some (.inr (.inl y1)), none, some (.inl 0), none, none] [] M else (zi_ix x3 3 (fun q21 => (if (M.1 6 (1 + q21) 3) = 0 then zi_run d zm_X9_digest 130 [some (.inr (.inr (9, some 0))), none, none, some (.inl x3), none, none] [.inl ((-1)), .inr (.inl (31 * y1))] M else (zi_ix x3 3 (fun q22 => zi_run d zm_X9_digest 130 [some (.inr (.inr (9, some 0))), none, none, some (.inl x3), none, none] [.inl (M.1 6 (1 + q22) 6), .inr (.inl (31 * y1))] M)))))) := (zi_blk 19 d zm_X9_digest 95 _ _ M).trans rfl
set_option maxRecDepth 100000 in
set_option maxHeartbeats 4000000 in
theorem ze_X9_digest_130 (d : Nat) (x3 : Int32) (ys0 : Int64) (xs1 : Int32) (M : zi_M) : zi_run d zm_X9_digest 130 [some (.inr (.inr (9, some 0))), none, none, some (.inl x3), none, none] [.inl xs1, .inr (.inl ys0)] M = zi_run d zm_X9_digest 95 [some (.inr (.inr (9, some 0))), some (.inr (.inl (ys0 + (Int32.toInt64 xs1)))), none, some (.inl (x3 + 1)), none, none] [] M := (zi_blk 6 d zm_X9_digest 130 _ _ M).trans rfl
set_option maxRecDepth 100000 in
set_option maxHeartbeats 4000000 in
theorem ze_X9_digest_141 (d : Nat) (y1 : Int64) (x3 : Int32) (M : zi_M) : zi_run d zm_X9_digest 141 [some (.inr (.inr (9, some 0))), some (.inr (.inl y1)), none, some (.inl x3), none, none] [] M = (if 6 ≤ x3 then zi_run d zm_X9_digest 166 [some (.inr (.inr (9, some 0))), some (.inr (.inl y1)), none, some (.inl 0), none, none] [] M else (zi_ix x3 6 (fun q21 => (zi_cL (zi_dn d (fun e => zi_run e zm_X5_digestOn 0 [some (.inr (.inr (5, some q21))), some (.inr (.inl y1)), none, none, none, none] [] M)) (fun x23 M22 => zi_run d zm_X9_digest 141 [some (.inr (.inr (9, some 0))), some (.inr (.inl x23)), none, some (.inl (x3 + 1)), none, none] [] M22))))) := (zi_blk 13 d zm_X9_digest 141 _ _ M).trans rfl
set_option maxRecDepth 100000 in
set_option maxHeartbeats 4000000 in
theorem ze_X9_digest_166 (d : Nat) (y1 : Int64) (x3 : Int32) (M : zi_M) : zi_run d zm_X9_digest 166 [some (.inr (.inr (9, some 0))), some (.inr (.inl y1)), none, some (.inl x3), none, none] [] M = (if 4 ≤ x3 then some (some (.inr (.inl y1)), M) else (zi_ix x3 4 (fun q21 => (zi_cL (zi_dn d (fun e => zi_run e zm_X5_digestOn 0 [some (.inr (.inr (5, some (6 + q21)))), some (.inr (.inl y1)), none, none, none, none] [] M)) (fun x23 M22 => zi_run d zm_X9_digest 166 [some (.inr (.inr (9, some 0))), some (.inr (.inl x23)), none, some (.inl (x3 + 1)), none, none] [] M22))))) := (zi_blk 13 d zm_X9_digest 166 _ _ M).trans rfl
set_option maxRecDepth 100000 in
set_option maxHeartbeats 4000000 in
theorem ze_X9_rowAt_0 (d : Nat) (x1 : Int32) (M : zi_M) : zi_run d zm_X9_rowAt 0 [some (.inr (.inr (9, some 0))), some (.inl x1)] [] M = (if x1 < 0 then some (some (.inr (.inr (5, none))), M) else (if 6 ≤ x1 then some (some (.inr (.inr (5, none))), M) else (zi_ix x1 6 (fun q21 => some (some (.inr (.inr (5, some q21))), M))))) := (zi_blk 11 d zm_X9_rowAt 0 _ _ M).trans rfl
set_option maxRecDepth 100000 in
set_option maxHeartbeats 4000000 in
theorem ze_X9_textAt_0 (d : Nat) (x1 : Int32) (M : zi_M) : zi_run d zm_X9_textAt 0 [some (.inr (.inr (9, some 0))), some (.inl x1)] [] M = (if x1 < 0 then some (some (.inr (.inr (5, none))), M) else (if 4 ≤ x1 then some (some (.inr (.inr (5, none))), M) else (zi_ix x1 4 (fun q21 => some (some (.inr (.inr (5, some (6 + q21)))), M))))) := (zi_blk 11 d zm_X9_textAt 0 _ _ M).trans rfl
set_option maxRecDepth 100000 in
set_option maxHeartbeats 4000000 in
theorem ze_X9_madeAnew_0 (d : Nat) (o1 : Option Nat) (x2 : Int32) (x3 : Int32) (M : zi_M) : zi_run d zm_X9_madeAnew 0 [some (.inr (.inr (9, some 0))), some (.inr (.inr (5, o1))), some (.inl x2), some (.inl x3)] [] M = (zi_nl o1 (some (some (.inl ((-1))), M)) ((zi_sm o1 (fun k21 => (zi_cI (zi_dn d (fun e => zi_run e zm_X5_room 0 [some (.inr (.inr (5, some k21)))] [] M)) (fun x23 M22 => (if x2 ≤ x23 then (if 0 ≤ x2 then (zi_sm o1 (fun k24 => (zi_cV (zi_dn d (fun e => zi_run e zm_X5_make 0 [some (.inr (.inr (5, some k24))), some (.inl x2), some (.inl x3), none] [] M22)) (fun M25 => some (some (.inl x2), M25))))) else (zi_cI (zi_dn d (fun e => zi_run e zm_X9_refuse 0 [some (.inr (.inr (9, some 0))), some (.inl 5)] [] M22)) (fun x27 M26 => some (some (.inl x27), M26)))) else some (some (.inl ((-1))), M22)))))))) := (zi_blk 14 d zm_X9_madeAnew 0 _ _ M).trans rfl
set_option maxRecDepth 100000 in
set_option maxHeartbeats 4000000 in
theorem ze_X9_refuse_0 (d : Nat) (x1 : Int32) (M : zi_M) : zi_run d zm_X9_refuse 0 [some (.inr (.inr (9, some 0))), some (.inl x1)] [] M = (if x1 < 1 then some (some (.inl ((-3))), zi_sI M 9 0 12 x1) else (if 5 < x1 then some (some (.inl ((-3))), zi_sI M 9 0 12 x1) else (zi_ix x1 6 (fun q21 => (zi_ix x1 6 (fun q22 => some (some (.inl ((-3))), zi_sI (zi_sI M 9 0 12 x1) 22 0 q22 ((M.1 22 0 q21) + 1)))))))) := (zi_blk 19 d zm_X9_refuse 0 _ _ M).trans rfl
set_option maxRecDepth 100000 in
set_option maxHeartbeats 4000000 in
theorem ze_X9_tell_0 (d : Nat) (y1 : Int64) (y3 : Int64) (M : zi_M) : zi_run d zm_X9_tell 0 [some (.inr (.inr (9, some 0))), some (.inr (.inl y1)), none, some (.inr (.inl y3)), none, none, none, none, none, none, none, none] [] M = zi_run d zm_X9_tell 9 [some (.inr (.inr (9, some 0))), some (.inr (.inl y1)), none, some (.inr (.inl y3)), none, some (.inr (.inl y1)), none, some (.inr (.inl y3)), none, some (.inl 0), none, none] [] M := (zi_blk 7 d zm_X9_tell 0 _ _ M).trans rfl
set_option maxRecDepth 100000 in
set_option maxHeartbeats 4000000 in
theorem ze_X9_tell_9 (d : Nat) (y1 : Int64) (y3 : Int64) (y5 : Int64) (y7 : Int64) (x9 : Int32) (M : zi_M) : zi_run d zm_X9_tell 9 [some (.inr (.inr (9, some 0))), some (.inr (.inl y1)), none, some (.inr (.inl y3)), none, some (.inr (.inl y5)), none, some (.inr (.inl y7)), none, some (.inl x9), none, none] [] M = (if 100 ≤ x9 then zi_run d zm_X9_tell 44 [some (.inr (.inr (9, some 0))), some (.inr (.inl y1)), none, some (.inr (.inl y3)), none, some (.inr (.inl y5)), none, none, none, none, none, none] [] M else (if (lg_cmp y7 0) = 0 then zi_run d zm_X9_tell 44 [some (.inr (.inr (9, some 0))), some (.inr (.inl y1)), none, some (.inr (.inl y3)), none, some (.inr (.inl y5)), none, none, none, none, none, none] [] M else (if y7 = 0 then none else zi_run d zm_X9_tell 9 [some (.inr (.inr (9, some 0))), some (.inr (.inl y1)), none, some (.inr (.inl y3)), none, some (.inr (.inl y7)), none, some (.inr (.inl (y5 - y5 / y7 * y7))), none, some (.inl (x9 + 1)), none, none] [] M))) := (zi_blk 18 d zm_X9_tell 9 _ _ M).trans rfl
set_option maxRecDepth 100000 in
set_option maxHeartbeats 4000000 in
theorem ze_X9_tell_44 (d : Nat) (y1 : Int64) (y3 : Int64) (y5 : Int64) (M : zi_M) : zi_run d zm_X9_tell 44 [some (.inr (.inr (9, some 0))), some (.inr (.inl y1)), none, some (.inr (.inl y3)), none, some (.inr (.inl y5)), none, none, none, none, none, none] [] M = (if 0 < (lg_cmp y5 0) then zi_run d zm_X9_tell 54 [some (.inr (.inr (9, some 0))), some (.inr (.inl y1)), none, some (.inr (.inl y3)), none, some (.inr (.inl y5)), none, none, none, none, none, none] [] M else zi_run d zm_X9_tell 54 [some (.inr (.inr (9, some 0))), some (.inr (.inl y1)), none, some (.inr (.inl y3)), none, some (.inr (.inl 1)), none, none, none, none, none, none] [] M) := (zi_blk 7 d zm_X9_tell 44 _ _ M).trans rfl
set_option maxRecDepth 100000 in
set_option maxHeartbeats 4000000 in
theorem ze_X9_tell_54 (d : Nat) (y1 : Int64) (y3 : Int64) (y5 : Int64) (M : zi_M) : zi_run d zm_X9_tell 54 [some (.inr (.inr (9, some 0))), some (.inr (.inl y1)), none, some (.inr (.inl y3)), none, some (.inr (.inl y5)), none, none, none, none, none, none] [] M = (if y5 = 0 then none else (if y5 = 0 then none else some (none, zi_sL (zi_sL M 9 0 14 (y1 / y5)) 9 0 15 (y3 / y5)))) := (zi_blk 11 d zm_X9_tell 54 _ _ M).trans rfl
set_option maxRecDepth 100000 in
set_option maxHeartbeats 4000000 in
theorem ze_X9_isBeat_0 (d : Nat) (x0 : Int32) (M : zi_M) : zi_run d zm_X9_isBeat 0 [some (.inl x0)] [] M = (if x0 < 0 then some (some (.inl 0), M) else (if 2 < x0 then some (some (.inl 0), M) else some (some (.inl 1), M))) := (zi_blk 8 d zm_X9_isBeat 0 _ _ M).trans rfl
set_option maxRecDepth 100000 in
set_option maxHeartbeats 4000000 in
theorem ze_X9_isOfKind_0 (d : Nat) (x0 : Int32) (x1 : Int32) (M : zi_M) : zi_run d zm_X9_isOfKind 0 [some (.inl x0), some (.inl x1)] [] M = (if x0 = x1 then some (some (.inl 1), M) else (if x1 = 1 then (if x0 = 4 then some (some (.inl 1), M) else zi_run d zm_X9_isOfKind 15 [some (.inl x0), some (.inl x1)] [] M) else zi_run d zm_X9_isOfKind 15 [some (.inl x0), some (.inl x1)] [] M)) := (zi_blk 12 d zm_X9_isOfKind 0 _ _ M).trans rfl
set_option maxRecDepth 100000 in
set_option maxHeartbeats 4000000 in
theorem ze_X9_isOfKind_15 (d : Nat) (x0 : Int32) (x1 : Int32) (M : zi_M) : zi_run d zm_X9_isOfKind 15 [some (.inl x0), some (.inl x1)] [] M = (if x1 = 3 then (if x0 = 5 then some (some (.inl 1), M) else some (some (.inl 0), M)) else some (some (.inl 0), M)) := (zi_blk 9 d zm_X9_isOfKind 15 _ _ M).trans rfl
set_option maxRecDepth 100000 in
set_option maxHeartbeats 4000000 in
theorem ze_X9_holdsBeatsAlone_0 (d : Nat) (k0 : Nat) (M : zi_M) : zi_run d zm_X9_holdsBeatsAlone 0 [some (.inr (.inr (5, some k0))), none] [] M = zi_run d zm_X9_holdsBeatsAlone 2 [some (.inr (.inr (5, some k0))), some (.inl 0)] [] M := (zi_blk 3 d zm_X9_holdsBeatsAlone 0 _ _ M).trans rfl
set_option maxRecDepth 100000 in
set_option maxHeartbeats 4000000 in
theorem ze_X9_holdsBeatsAlone_2 (d : Nat) (k0 : Nat) (x1 : Int32) (M : zi_M) : zi_run d zm_X9_holdsBeatsAlone 2 [some (.inr (.inr (5, some k0))), some (.inl x1)] [] M = (zi_cI (zi_dn d (fun e => zi_run e zm_X5_size 0 [some (.inr (.inr (5, some k0)))] [] M)) (fun x22 M21 => (if x22 ≤ x1 then some (some (.inl 1), M21) else (zi_cI (zi_dn d (fun e => zi_run e zm_X5_get 0 [some (.inr (.inr (5, some k0))), some (.inl x1)] [] M21)) (fun x24 M23 => (zi_cI (zi_dn d (fun e => zi_run e zm_X9_isBeat 0 [some (.inl x24)] [] M23)) (fun x26 M25 => (if x26 = 0 then some (some (.inl 0), M25) else zi_run d zm_X9_holdsBeatsAlone 2 [some (.inr (.inr (5, some k0))), some (.inl (x1 + 1))] [] M25)))))))) := (zi_blk 12 d zm_X9_holdsBeatsAlone 2 _ _ M).trans rfl
set_option maxRecDepth 100000 in
set_option maxHeartbeats 4000000 in
theorem ze_X9_perform_0 (d : Nat) (x1 : Int32) (k2 : Nat) (x3 : Int32) (M : zi_M) : zi_run d zm_X9_perform 0 [some (.inr (.inr (9, some 0))), some (.inl x1), some (.inr (.inr (1, some k2))), some (.inl x3), none] [] M = (zi_cI (zi_dn d (fun e => zi_run e zm_X2_fly 0 [some (.inr (.inr (2, some 0))), some (.inr (.inr (7, some k2))), some (.inl x3), some (.inr (.inr (7, some 40)))] [] M)) (fun x22 M21 => (if x22 = ((-1)) then some (some (.inl ((-4))), M21) else (zi_cI (zi_dn d (fun e => zi_run e zm_X6_note 0 [some (.inr (.inr (6, some 0))), some (.inl x1), some (.inr (.inr (7, some k2)))] [] M21)) (fun x24 M23 => (if x24 = 0 then some (some (.inl ((-2))), M23) else (zi_cV (zi_dn d (fun e => zi_run e zm_X7_take 0 [some (.inr (.inr (7, some k2))), some (.inr (.inr (7, some 40)))] [] M23)) (fun M25 => some (some (.inl x22), M25))))))))) := (zi_blk 26 d zm_X9_perform 0 _ _ M).trans rfl
set_option maxRecDepth 100000 in
set_option maxHeartbeats 4000000 in
theorem ze_X9_openBeats_0 (d : Nat) (k1 : Nat) (M : zi_M) : zi_run d zm_X9_openBeats 0 [some (.inr (.inr (9, some 0))), some (.inr (.inr (1, some k1))), none, none] [] M = zi_run d zm_X9_openBeats 4 [some (.inr (.inr (9, some 0))), some (.inr (.inr (1, some k1))), some (.inl 0), some (.inl 0)] [] M := (zi_blk 5 d zm_X9_openBeats 0 _ _ M).trans rfl
set_option maxRecDepth 100000 in
set_option maxHeartbeats 4000000 in
theorem ze_X9_openBeats_4 (d : Nat) (k1 : Nat) (x2 : Int32) (x3 : Int32) (M : zi_M) : zi_run d zm_X9_openBeats 4 [some (.inr (.inr (9, some 0))), some (.inr (.inr (1, some k1))), some (.inl x2), some (.inl x3)] [] M = (if 2 < x3 then some (some (.inl x2), M) else (zi_cI (zi_dn d (fun e => zi_run e zm_X2_fly 0 [some (.inr (.inr (2, some 0))), some (.inr (.inr (7, some k1))), some (.inl x3), some (.inr (.inr (7, some 40)))] [] M)) (fun x22 M21 => (if x22 = ((-1)) then zi_run d zm_X9_openBeats 35 [some (.inr (.inr (9, some 0))), some (.inr (.inr (1, some k1))), some (.inl x2), some (.inl x3)] [] M21 else zi_run d zm_X9_openBeats 35 [some (.inr (.inr (9, some 0))), some (.inr (.inr (1, some k1))), some (.inl (x2 ||| (1 <<< (x3 &&& 31)))), some (.inl x3)] [] M21)))) := (zi_blk 20 d zm_X9_openBeats 4 _ _ M).trans rfl
set_option maxRecDepth 100000 in
set_option maxHeartbeats 4000000 in
theorem ze_X9_openBeats_35 (d : Nat) (k1 : Nat) (x2 : Int32) (x3 : Int32) (M : zi_M) : zi_run d zm_X9_openBeats 35 [some (.inr (.inr (9, some 0))), some (.inr (.inr (1, some k1))), some (.inl x2), some (.inl x3)] [] M = zi_run d zm_X9_openBeats 4 [some (.inr (.inr (9, some 0))), some (.inr (.inr (1, some k1))), some (.inl x2), some (.inl (x3 + 1))] [] M := (zi_blk 3 d zm_X9_openBeats 35 _ _ M).trans rfl
set_option maxRecDepth 100000 in
set_option maxHeartbeats 4000000 in
theorem ze_X9_bitAt_0 (d : Nat) (x0 : Int32) (x1 : Int32) (M : zi_M) : zi_run d zm_X9_bitAt 0 [some (.inl x0), some (.inl x1), none, none] [] M = zi_run d zm_X9_bitAt 4 [some (.inl x0), none, some (.inl x1), some (.inl 0)] [] M := (zi_blk 5 d zm_X9_bitAt 0 _ _ M).trans rfl
set_option maxRecDepth 100000 in
set_option maxHeartbeats 4000000 in
theorem ze_X9_bitAt_4 (d : Nat) (x0 : Int32) (x2 : Int32) (x3 : Int32) (M : zi_M) : zi_run d zm_X9_bitAt 4 [some (.inl x0), none, some (.inl x2), some (.inl x3)] [] M = (if 31 ≤ x3 then some (some (.inl 0), M) else (if ((x0 >>> (x3 &&& 31)) &&& 1) = 0 then zi_run d zm_X9_bitAt 30 [some (.inl x0), none, some (.inl x2), some (.inl x3)] [] M else (if x2 = 0 then some (some (.inl x3), M) else zi_run d zm_X9_bitAt 30 [some (.inl x0), none, some (.inl (x2 + (-1))), some (.inl x3)] [] M))) := (zi_blk 13 d zm_X9_bitAt 4 _ _ M).trans rfl
set_option maxRecDepth 100000 in
set_option maxHeartbeats 4000000 in
theorem ze_X9_bitAt_30 (d : Nat) (x0 : Int32) (x2 : Int32) (x3 : Int32) (M : zi_M) : zi_run d zm_X9_bitAt 30 [some (.inl x0), none, some (.inl x2), some (.inl x3)] [] M = zi_run d zm_X9_bitAt 4 [some (.inl x0), none, some (.inl x2), some (.inl (x3 + 1))] [] M := (zi_blk 3 d zm_X9_bitAt 30 _ _ M).trans rfl
set_option maxRecDepth 100000 in
set_option maxHeartbeats 4000000 in
theorem ze_X9_setOut_0 (d : Nat) (k1 : Nat) (M : zi_M) : zi_run d zm_X9_setOut 0 [some (.inr (.inr (9, some 0))), some (.inr (.inr (1, some k1)))] [] M = (zi_cV (zi_dn d (fun e => zi_run e zm_X2_board 0 [some (.inr (.inr (2, some 0))), some (.inr (.inr (1, some k1))), some (.inl (M.1 6 0 5))] [] M)) (fun M21 => (zi_cV (zi_dn d (fun e => zi_run e zm_X8_start 0 [some (.inr (.inr (8, some 0))), some (.inr (.inr (7, some k1)))] [] M21)) (fun M22 => some (none, M22))))) := (zi_blk 13 d zm_X9_setOut 0 _ _ M).trans rfl
set_option maxRecDepth 100000 in
set_option maxHeartbeats 4000000 in
theorem ze_X9_hasWay_0 (d : Nat) (k1 : Nat) (M : zi_M) : zi_run d zm_X9_hasWay 0 [some (.inr (.inr (9, some 0))), some (.inr (.inr (7, some k1)))] [] M = (zi_cV (zi_dn d (fun e => zi_run e zm_X8_start 0 [some (.inr (.inr (8, some 0))), some (.inr (.inr (7, some k1)))] [] M)) (fun M21 => (zi_cI (zi_dn d (fun e => zi_run e zm_X8_findNext 0 [some (.inr (.inr (8, some 0))), none, none] [] M21)) (fun x23 M22 => (zi_bo x23 (some (some (.inl x23), M22))))))) := (zi_blk 8 d zm_X9_hasWay 0 _ _ M).trans rfl
set_option maxRecDepth 100000 in
set_option maxHeartbeats 4000000 in
theorem ze_X9_loadsOf_0 (d : Nat) (o1 : Option Nat) (M : zi_M) : zi_run d zm_X9_loadsOf 0 [some (.inr (.inr (9, some 0))), some (.inr (.inr (1, o1))), none, none] [] M = (zi_nl o1 (some (some (.inl 1), M)) ((zi_sm o1 (fun k21 => (if (M.1 7 k21 5) = 0 then (zi_cV (zi_dn d (fun e => zi_run e zm_X2_board 0 [some (.inr (.inr (2, some 0))), some (.inr (.inr (1, o1))), some (.inl (M.1 6 0 5))] [] M)) (fun M22 => zi_run d zm_X9_loadsOf 35 [some (.inr (.inr (9, some 0))), some (.inr (.inr (1, o1))), some (.inl 1), some (.inl 1)] [] M22)) else some (some (.inl 1), M)))))) := (zi_blk 18 d zm_X9_loadsOf 0 _ _ M).trans rfl
set_option maxRecDepth 100000 in
set_option maxHeartbeats 4000000 in
theorem ze_X9_loadsOf_35 (d : Nat) (o1 : Option Nat) (x2 : Int32) (x3 : Int32) (M : zi_M) : zi_run d zm_X9_loadsOf 35 [some (.inr (.inr (9, some 0))), some (.inr (.inr (1, o1))), some (.inl x2), some (.inl x3)] [] M = (if 3 < x3 then some (some (.inl x2), M) else (zi_sm o1 (fun k21 => (zi_cI (zi_dn d (fun e => zi_run e zm_X9_hasWay 0 [some (.inr (.inr (9, some 0))), some (.inr (.inr (7, some k21)))] [] (zi_sI M 2 0 3 x3))) (fun x23 M22 => (if x23 = 0 then zi_run d zm_X9_loadsOf 65 [some (.inr (.inr (9, some 0))), some (.inr (.inr (1, o1))), some (.inl x2), some (.inl x3)] [] M22 else zi_run d zm_X9_loadsOf 65 [some (.inr (.inr (9, some 0))), some (.inr (.inr (1, o1))), some (.inl (x2 ||| (1 <<< (x3 &&& 31)))), some (.inl x3)] [] M22)))))) := (zi_blk 19 d zm_X9_loadsOf 35 _ _ M).trans rfl
set_option maxRecDepth 100000 in
set_option maxHeartbeats 4000000 in
theorem ze_X9_loadsOf_65 (d : Nat) (o1 : Option Nat) (x2 : Int32) (x3 : Int32) (M : zi_M) : zi_run d zm_X9_loadsOf 65 [some (.inr (.inr (9, some 0))), some (.inr (.inr (1, o1))), some (.inl x2), some (.inl x3)] [] M = zi_run d zm_X9_loadsOf 35 [some (.inr (.inr (9, some 0))), some (.inr (.inr (1, o1))), some (.inl x2), some (.inl (x3 + 1))] [] M := (zi_blk 3 d zm_X9_loadsOf 65 _ _ M).trans rfl
set_option maxRecDepth 100000 in
set_option maxHeartbeats 4000000 in
theorem ze_X9_shareOf_0 (d : Nat) (x0 : Int32) (x1 : Int32) (M : zi_M) : zi_run d zm_X9_shareOf 0 [some (.inl x0), some (.inl x1)] [] M = some (some (.inl ((x0 >>> ((2 * (3 - x1)) &&& 31)) &&& 3)), M) := (zi_blk 10 d zm_X9_shareOf 0 _ _ M).trans rfl
set_option maxRecDepth 100000 in
set_option maxHeartbeats 4000000 in
theorem ze_X9_carriersOf_0 (d : Nat) (x1 : Int32) (x2 : Int32) (M : zi_M) : zi_run d zm_X9_carriersOf 0 [some (.inr (.inr (9, some 0))), some (.inl x1), some (.inl x2), none, none, none, none] [] M = zi_run d zm_X9_carriersOf 8 [some (.inr (.inr (9, some 0))), some (.inl x1), some (.inl x2), some (.inl 0), some (.inl 0), some (.inl 0), none] [] M := (zi_blk 7 d zm_X9_carriersOf 0 _ _ M).trans rfl
set_option maxRecDepth 100000 in
set_option maxHeartbeats 4000000 in
theorem ze_X9_carriersOf_8 (d : Nat) (x1 : Int32) (x2 : Int32) (x3 : Int32) (x4 : Int32) (x5 : Int32) (M : zi_M) : zi_run d zm_X9_carriersOf 8 [some (.inr (.inr (9, some 0))), some (.inl x1), some (.inl x2), some (.inl x3), some (.inl x4), some (.inl x5), none] [] M = (if 4 ≤ x5 then (if x4 = x2 then some (some (.inl x3), M) else some (some (.inl ((-9))), M)) else (zi_cI (zi_dn d (fun e => zi_run e zm_X9_shareOf 0 [some (.inl x1), some (.inl x5)] [] M)) (fun x22 M21 => (zi_ix x5 4 (fun q23 => (if (((M21.1 23 0 q23) >>> (x22 &&& 31)) &&& 1) = 0 then some (some (.inl ((-9))), M21) else (if x22 ≤ 0 then zi_run d zm_X9_carriersOf 55 [some (.inr (.inr (9, some 0))), some (.inl x1), some (.inl x2), some (.inl x3), some (.inl (x4 + x22)), some (.inl x5), none] [] M21 else zi_run d zm_X9_carriersOf 55 [some (.inr (.inr (9, some 0))), some (.inl x1), some (.inl x2), some (.inl (x3 + 1)), some (.inl (x4 + x22)), some (.inl x5), none] [] M21))))))) := (zi_blk 24 d zm_X9_carriersOf 8 _ _ M).trans rfl
set_option maxRecDepth 100000 in
set_option maxHeartbeats 4000000 in
theorem ze_X9_carriersOf_55 (d : Nat) (x1 : Int32) (x2 : Int32) (x3 : Int32) (x4 : Int32) (x5 : Int32) (M : zi_M) : zi_run d zm_X9_carriersOf 55 [some (.inr (.inr (9, some 0))), some (.inl x1), some (.inl x2), some (.inl x3), some (.inl x4), some (.inl x5), none] [] M = zi_run d zm_X9_carriersOf 8 [some (.inr (.inr (9, some 0))), some (.inl x1), some (.inl x2), some (.inl x3), some (.inl x4), some (.inl (x5 + 1)), none] [] M := (zi_blk 3 d zm_X9_carriersOf 55 _ _ M).trans rfl
set_option maxRecDepth 100000 in
set_option maxHeartbeats 4000000 in
theorem ze_X9_writeShares_0 (d : Nat) (x1 : Int32) (k2 : Nat) (M : zi_M) : zi_run d zm_X9_writeShares 0 [some (.inr (.inr (9, some 0))), some (.inl x1), some (.inr (.inr (5, some k2))), none] [] M = (zi_cV (zi_dn d (fun e => zi_run e zm_X5_make 0 [some (.inr (.inr (5, some k2))), some (.inl (M.1 6 0 4)), some (.inl 0), none] [] M)) (fun M21 => zi_run d zm_X9_writeShares 14 [some (.inr (.inr (9, some 0))), some (.inl x1), some (.inr (.inr (5, some k2))), some (.inl 0)] [] M21)) := (zi_blk 9 d zm_X9_writeShares 0 _ _ M).trans rfl
set_option maxRecDepth 100000 in
set_option maxHeartbeats 4000000 in
theorem ze_X9_writeShares_14 (d : Nat) (x1 : Int32) (k2 : Nat) (x3 : Int32) (M : zi_M) : zi_run d zm_X9_writeShares 14 [some (.inr (.inr (9, some 0))), some (.inl x1), some (.inr (.inr (5, some k2))), some (.inl x3)] [] M = (if (M.1 6 0 4) ≤ x3 then some (none, M) else (zi_cI (zi_dn d (fun e => zi_run e zm_X9_shareOf 0 [some (.inl x1), some (.inl x3)] [] M)) (fun x22 M21 => (zi_cV (zi_dn d (fun e => zi_run e zm_X5_set 0 [some (.inr (.inr (5, some k2))), some (.inl x3), some (.inl x22)] [] M21)) (fun M23 => zi_run d zm_X9_writeShares 14 [some (.inr (.inr (9, some 0))), some (.inl x1), some (.inr (.inr (5, some k2))), some (.inl (x3 + 1))] [] M23))))) := (zi_blk 14 d zm_X9_writeShares 14 _ _ M).trans rfl
set_option maxRecDepth 100000 in
set_option maxHeartbeats 4000000 in
theorem ze_X9_hasBoat_0 (d : Nat) (x1 : Int32) (x2 : Int32) (M : zi_M) : zi_run d zm_X9_hasBoat 0 [some (.inr (.inr (9, some 0))), some (.inl x1), some (.inl x2)] [] M = (if ((x1 >>> ((((M.1 0 0 1) - 1) - x2) &&& 31)) &&& 1) = 1 then some (some (.inl 1), M) else some (some (.inl 0), M)) := (zi_blk 16 d zm_X9_hasBoat 0 _ _ M).trans rfl
set_option maxRecDepth 100000 in
set_option maxHeartbeats 4000000 in
theorem ze_X9_farthestFrom_0 (d : Nat) (x1 : Int32) (M : zi_M) : zi_run d zm_X9_farthestFrom 0 [some (.inr (.inr (9, some 0))), some (.inl x1), none, none, none, none] [] M = zi_run d zm_X9_farthestFrom 4 [some (.inr (.inr (9, some 0))), some (.inl x1), some (.inl 0), some (.inl 0), none, none] [] M := (zi_blk 5 d zm_X9_farthestFrom 0 _ _ M).trans rfl
set_option maxRecDepth 100000 in
set_option maxHeartbeats 4000000 in
theorem ze_X9_farthestFrom_4 (d : Nat) (x1 : Int32) (x2 : Int32) (x3 : Int32) (M : zi_M) : zi_run d zm_X9_farthestFrom 4 [some (.inr (.inr (9, some 0))), some (.inl x1), some (.inl x2), some (.inl x3), none, none] [] M = (if (M.1 0 0 1) ≤ x3 then some (some (.inl x2), M) else zi_run d zm_X9_farthestFrom 22 [some (.inr (.inr (9, some 0))), some (.inl x1), some (.inl x2), some (.inl x3), some (.inl 7), some (.inl 0)] [] M) := (zi_blk 10 d zm_X9_farthestFrom 4 _ _ M).trans rfl
set_option maxRecDepth 100000 in
set_option maxHeartbeats 4000000 in
theorem ze_X9_farthestFrom_22 (d : Nat) (x1 : Int32) (x2 : Int32) (x3 : Int32) (x4 : Int32) (x5 : Int32) (M : zi_M) : zi_run d zm_X9_farthestFrom 22 [some (.inr (.inr (9, some 0))), some (.inl x1), some (.inl x2), some (.inl x3), some (.inl x4), some (.inl x5)] [] M = (if (M.1 0 0 1) ≤ x5 then zi_run d zm_X9_farthestFrom 4 [some (.inr (.inr (9, some 0))), some (.inl x1), some (.inl (zi_max x2 x4)), some (.inl (x3 + 1)), none, none] [] M else (zi_cI (zi_dn d (fun e => zi_run e zm_X9_hasBoat 0 [some (.inr (.inr (9, some 0))), some (.inl x1), some (.inl x5)] [] M)) (fun x22 M21 => (if x22 = 0 then zi_run d zm_X9_farthestFrom 58 [some (.inr (.inr (9, some 0))), some (.inl x1), some (.inl x2), some (.inl x3), some (.inl x4), some (.inl x5)] [] M21 else zi_run d zm_X9_farthestFrom 58 [some (.inr (.inr (9, some 0))), some (.inl x1), some (.inl x2), some (.inl x3), some (.inl (zi_min x4 (zi_abs (x5 - x3)))), some (.inl x5)] [] M21)))) := (zi_blk 18 d zm_X9_farthestFrom 22 _ _ M).trans rfl
set_option maxRecDepth 100000 in
set_option maxHeartbeats 4000000 in
theorem ze_X9_farthestFrom_58 (d : Nat) (x1 : Int32) (x2 : Int32) (x3 : Int32) (x4 : Int32) (x5 : Int32) (M : zi_M) : zi_run d zm_X9_farthestFrom 58 [some (.inr (.inr (9, some 0))), some (.inl x1), some (.inl x2), some (.inl x3), some (.inl x4), some (.inl x5)] [] M = zi_run d zm_X9_farthestFrom 22 [some (.inr (.inr (9, some 0))), some (.inl x1), some (.inl x2), some (.inl x3), some (.inl x4), some (.inl (x5 + 1))] [] M := (zi_blk 3 d zm_X9_farthestFrom 58 _ _ M).trans rfl
set_option maxRecDepth 100000 in
set_option maxHeartbeats 4000000 in
theorem ze_X9_tally_0 (d : Nat) (x1 : Int32) (M : zi_M) : zi_run d zm_X9_tally 0 [some (.inr (.inr (9, some 0))), some (.inl x1)] [] M = zi_sw x1 111 0 7 #[47, 55, 63, 71, 79, 87, 95, 103] (fun off => zi_to 1 off (fun t => zi_run d zm_X9_tally t (zi_kc zm_X9_tally t [some (.inr (.inr (9, some 0))), some (.inl x1)]) [] M)) := (zi_blk 3 d zm_X9_tally 0 _ _ M).trans rfl
set_option maxRecDepth 100000 in
set_option maxHeartbeats 4000000 in
theorem ze_X9_tally_48 (d : Nat)  (M : zi_M) : zi_run d zm_X9_tally 48 [some (.inr (.inr (9, some 0))), none] [] M = some (some (.inl (M.1 6 0 4)), M) := (zi_blk 4 d zm_X9_tally 48 _ _ M).trans rfl
set_option maxRecDepth 100000 in
set_option maxHeartbeats 4000000 in
theorem ze_X9_tally_56 (d : Nat)  (M : zi_M) : zi_run d zm_X9_tally 56 [some (.inr (.inr (9, some 0))), none] [] M = some (some (.inl (M.1 0 0 1)), M) := (zi_blk 4 d zm_X9_tally 56 _ _ M).trans rfl
set_option maxRecDepth 100000 in
set_option maxHeartbeats 4000000 in
theorem ze_X9_tally_64 (d : Nat)  (M : zi_M) : zi_run d zm_X9_tally 64 [some (.inr (.inr (9, some 0))), none] [] M = some (some (.inl (M.1 0 0 2)), M) := (zi_blk 4 d zm_X9_tally 64 _ _ M).trans rfl
set_option maxRecDepth 100000 in
set_option maxHeartbeats 4000000 in
theorem ze_X9_tally_72 (d : Nat)  (M : zi_M) : zi_run d zm_X9_tally 72 [some (.inr (.inr (9, some 0))), none] [] M = some (some (.inl (M.1 6 0 5)), M) := (zi_blk 4 d zm_X9_tally 72 _ _ M).trans rfl
set_option maxRecDepth 100000 in
set_option maxHeartbeats 4000000 in
theorem ze_X9_tally_80 (d : Nat)  (M : zi_M) : zi_run d zm_X9_tally 80 [some (.inr (.inr (9, some 0))), none] [] M = some (some (.inl (M.1 6 0 6)), M) := (zi_blk 4 d zm_X9_tally 80 _ _ M).trans rfl
set_option maxRecDepth 100000 in
set_option maxHeartbeats 4000000 in
theorem ze_X9_tally_88 (d : Nat)  (M : zi_M) : zi_run d zm_X9_tally 88 [some (.inr (.inr (9, some 0))), none] [] M = (zi_cI (zi_dn d (fun e => zi_run e zm_X6_oldOnes 0 [some (.inr (.inr (6, some 0))), none, none] [] M)) (fun x22 M21 => some (some (.inl x22), M21))) := (zi_blk 4 d zm_X9_tally 88 _ _ M).trans rfl
set_option maxRecDepth 100000 in
set_option maxHeartbeats 4000000 in
theorem ze_X9_tally_96 (d : Nat)  (M : zi_M) : zi_run d zm_X9_tally 96 [some (.inr (.inr (9, some 0))), none] [] M = (zi_cI (zi_dn d (fun e => zi_run e zm_X9_thereOf 0 [some (.inr (.inr (19, some 0))), none, none] [] M)) (fun x22 M21 => some (some (.inl x22), M21))) := (zi_blk 4 d zm_X9_tally 96 _ _ M).trans rfl
set_option maxRecDepth 100000 in
set_option maxHeartbeats 4000000 in
theorem ze_X9_tally_104 (d : Nat)  (M : zi_M) : zi_run d zm_X9_tally 104 [some (.inr (.inr (9, some 0))), none] [] M = (zi_cI (zi_dn d (fun e => zi_run e zm_X9_thereOf 0 [some (.inr (.inr (20, some 0))), none, none] [] M)) (fun x22 M21 => some (some (.inl x22), M21))) := (zi_blk 4 d zm_X9_tally 104 _ _ M).trans rfl
set_option maxRecDepth 100000 in
set_option maxHeartbeats 4000000 in
theorem ze_X9_tally_112 (d : Nat)  (M : zi_M) : zi_run d zm_X9_tally 112 [some (.inr (.inr (9, some 0))), none] [] M = (zi_cI (zi_dn d (fun e => zi_run e zm_X9_keptSkies 0 [some (.inr (.inr (9, some 0))), none, none] [] M)) (fun x22 M21 => some (some (.inl x22), M21))) := (zi_blk 3 d zm_X9_tally 112 _ _ M).trans rfl
set_option maxRecDepth 100000 in
set_option maxHeartbeats 4000000 in
theorem ze_X9_thereOf_0_19 (d : Nat) (k0 : Nat) (M : zi_M) : zi_run d zm_X9_thereOf 0 [some (.inr (.inr (19, some k0))), none, none] [] M = zi_run d zm_X9_thereOf 4 [some (.inr (.inr (19, some k0))), some (.inl 0), some (.inl 0)] [] M := (zi_blk 5 d zm_X9_thereOf 0 _ _ M).trans rfl
set_option maxRecDepth 100000 in
set_option maxHeartbeats 4000000 in
theorem ze_X9_thereOf_4_19 (d : Nat) (k0 : Nat) (x1 : Int32) (x2 : Int32) (M : zi_M) : zi_run d zm_X9_thereOf 4 [some (.inr (.inr (19, some k0))), some (.inl x1), some (.inl x2)] [] M = (if 6 ≤ x2 then some (some (.inl x1), M) else (zi_ix x2 6 (fun q21 => (zi_cI (zi_dn d (fun e => zi_run e zm_X5_isThere 0 [some (.inr (.inr (5, some q21)))] [] M)) (fun x23 M22 => (if x23 = 0 then zi_run d zm_X9_thereOf 22 [some (.inr (.inr (19, some k0))), some (.inl x1), some (.inl x2)] [] M22 else zi_run d zm_X9_thereOf 22 [some (.inr (.inr (19, some k0))), some (.inl (x1 + 1)), some (.inl x2)] [] M22)))))) := (zi_blk 11 d zm_X9_thereOf 4 _ _ M).trans rfl
set_option maxRecDepth 100000 in
set_option maxHeartbeats 4000000 in
theorem ze_X9_thereOf_22_19 (d : Nat) (k0 : Nat) (x1 : Int32) (x2 : Int32) (M : zi_M) : zi_run d zm_X9_thereOf 22 [some (.inr (.inr (19, some k0))), some (.inl x1), some (.inl x2)] [] M = zi_run d zm_X9_thereOf 4 [some (.inr (.inr (19, some k0))), some (.inl x1), some (.inl (x2 + 1))] [] M := (zi_blk 3 d zm_X9_thereOf 22 _ _ M).trans rfl
set_option maxRecDepth 100000 in
set_option maxHeartbeats 4000000 in
theorem ze_X9_thereOf_0_20 (d : Nat) (k0 : Nat) (M : zi_M) : zi_run d zm_X9_thereOf 0 [some (.inr (.inr (20, some k0))), none, none] [] M = zi_run d zm_X9_thereOf 4 [some (.inr (.inr (20, some k0))), some (.inl 0), some (.inl 0)] [] M := (zi_blk 5 d zm_X9_thereOf 0 _ _ M).trans rfl
set_option maxRecDepth 100000 in
set_option maxHeartbeats 4000000 in
theorem ze_X9_thereOf_4_20 (d : Nat) (k0 : Nat) (x1 : Int32) (x2 : Int32) (M : zi_M) : zi_run d zm_X9_thereOf 4 [some (.inr (.inr (20, some k0))), some (.inl x1), some (.inl x2)] [] M = (if 4 ≤ x2 then some (some (.inl x1), M) else (zi_ix x2 4 (fun q21 => (zi_cI (zi_dn d (fun e => zi_run e zm_X5_isThere 0 [some (.inr (.inr (5, some (6 + q21))))] [] M)) (fun x23 M22 => (if x23 = 0 then zi_run d zm_X9_thereOf 22 [some (.inr (.inr (20, some k0))), some (.inl x1), some (.inl x2)] [] M22 else zi_run d zm_X9_thereOf 22 [some (.inr (.inr (20, some k0))), some (.inl (x1 + 1)), some (.inl x2)] [] M22)))))) := (zi_blk 11 d zm_X9_thereOf 4 _ _ M).trans rfl
set_option maxRecDepth 100000 in
set_option maxHeartbeats 4000000 in
theorem ze_X9_thereOf_22_20 (d : Nat) (k0 : Nat) (x1 : Int32) (x2 : Int32) (M : zi_M) : zi_run d zm_X9_thereOf 22 [some (.inr (.inr (20, some k0))), some (.inl x1), some (.inl x2)] [] M = zi_run d zm_X9_thereOf 4 [some (.inr (.inr (20, some k0))), some (.inl x1), some (.inl (x2 + 1))] [] M := (zi_blk 3 d zm_X9_thereOf 22 _ _ M).trans rfl
set_option maxRecDepth 100000 in
set_option maxHeartbeats 4000000 in
theorem ze_X9_keptSkies_0 (d : Nat)  (M : zi_M) : zi_run d zm_X9_keptSkies 0 [some (.inr (.inr (9, some 0))), none, none] [] M = zi_run d zm_X9_keptSkies 4 [some (.inr (.inr (9, some 0))), some (.inl 0), some (.inl 0)] [] M := (zi_blk 5 d zm_X9_keptSkies 0 _ _ M).trans rfl
set_option maxRecDepth 100000 in
set_option maxHeartbeats 4000000 in
theorem ze_X9_keptSkies_4 (d : Nat) (x1 : Int32) (x2 : Int32) (M : zi_M) : zi_run d zm_X9_keptSkies 4 [some (.inr (.inr (9, some 0))), some (.inl x1), some (.inl x2)] [] M = (if 3 ≤ x2 then some (some (.inl x1), M) else (zi_ix x2 3 (fun q21 => (if (M.1 6 (1 + q21) 3) = 0 then zi_run d zm_X9_keptSkies 24 [some (.inr (.inr (9, some 0))), some (.inl x1), some (.inl x2)] [] M else zi_run d zm_X9_keptSkies 24 [some (.inr (.inr (9, some 0))), some (.inl (x1 + 1)), some (.inl x2)] [] M)))) := (zi_blk 11 d zm_X9_keptSkies 4 _ _ M).trans rfl
set_option maxRecDepth 100000 in
set_option maxHeartbeats 4000000 in
theorem ze_X9_keptSkies_24 (d : Nat) (x1 : Int32) (x2 : Int32) (M : zi_M) : zi_run d zm_X9_keptSkies 24 [some (.inr (.inr (9, some 0))), some (.inl x1), some (.inl x2)] [] M = zi_run d zm_X9_keptSkies 4 [some (.inr (.inr (9, some 0))), some (.inl x1), some (.inl (x2 + 1))] [] M := (zi_blk 3 d zm_X9_keptSkies 24 _ _ M).trans rfl
set_option maxRecDepth 100000 in
set_option maxHeartbeats 4000000 in
theorem ze_X10_in_0 (d : Nat) (y0 : Int64) (y2 : Int64) (y4 : Int64) (M : zi_M) : zi_run d zm_X10_in 0 [some (.inr (.inl y0)), none, some (.inr (.inl y2)), none, some (.inr (.inl y4)), none] [] M = (if (lg_cmp y0 y2) < 0 then some (some (.inl 0), M) else (if 0 < (lg_cmp y0 y4) then some (some (.inl 0), M) else some (some (.inl 1), M))) := (zi_blk 11 d zm_X10_in 0 _ _ M).trans rfl
set_option maxRecDepth 100000 in
set_option maxHeartbeats 4000000 in
theorem ze_X10_more_0 (d : Nat) (x0 : Int32) (x1 : Int32) (M : zi_M) : zi_run d zm_X10_more 0 [some (.inl x0), some (.inl x1)] [] M = (if x0 ≤ x1 then some (some (.inl x1), M) else some (some (.inl x0), M)) := (zi_blk 6 d zm_X10_more 0 _ _ M).trans rfl
set_option maxRecDepth 100000 in
set_option maxHeartbeats 4000000 in
theorem ze_X10_finds_0 (d : Nat) (x1 : Int32) (M : zi_M) : zi_run d zm_X10_finds 0 [some (.inr (.inr (10, some 0))), some (.inl x1)] [] M = (zi_ix x1 6 (fun q21 => (zi_ix x1 6 (fun q22 => some (some (.inl ((-3))), zi_sI (zi_sI M 10 0 8 x1) 31 0 q22 ((M.1 31 0 q21) + 1)))))) := (zi_blk 13 d zm_X10_finds 0 _ _ M).trans rfl
set_option maxRecDepth 100000 in
set_option maxHeartbeats 4000000 in
theorem ze_X10_tells_0 (d : Nat) (x1 : Int32) (M : zi_M) : zi_run d zm_X10_tells 0 [some (.inr (.inr (10, some 0))), some (.inl x1)] [] M = some (some (.inl 1), zi_sI M 10 0 9 x1) := (zi_blk 5 d zm_X10_tells 0 _ _ M).trans rfl
set_option maxRecDepth 100000 in
set_option maxHeartbeats 4000000 in
theorem ze_X10_isRow_0 (d : Nat) (x0 : Int32) (M : zi_M) : zi_run d zm_X10_isRow 0 [some (.inl x0)] [] M = (zi_cI (zi_dn d (fun e => zi_run e zm_X10_in 0 [some (.inr (.inl (Int32.toInt64 x0))), none, some (.inr (.inl 0)), none, some (.inr (.inl 5)), none] [] M)) (fun x22 M21 => (zi_bo x22 (some (some (.inl x22), M21))))) := (zi_blk 6 d zm_X10_isRow 0 _ _ M).trans rfl
set_option maxRecDepth 100000 in
set_option maxHeartbeats 4000000 in
theorem ze_X10_isText_0 (d : Nat) (x0 : Int32) (M : zi_M) : zi_run d zm_X10_isText 0 [some (.inl x0)] [] M = (zi_cI (zi_dn d (fun e => zi_run e zm_X10_in 0 [some (.inr (.inl (Int32.toInt64 x0))), none, some (.inr (.inl 0)), none, some (.inr (.inl 3)), none] [] M)) (fun x22 M21 => (zi_bo x22 (some (some (.inl x22), M21))))) := (zi_blk 6 d zm_X10_isText 0 _ _ M).trans rfl
set_option maxRecDepth 100000 in
set_option maxHeartbeats 4000000 in
theorem ze_X10_isFlyer_0 (d : Nat) (x1 : Int32) (M : zi_M) : zi_run d zm_X10_isFlyer 0 [some (.inr (.inr (10, some 0))), some (.inl x1)] [] M = (zi_ix 3 356 (fun q21 => (zi_cI (zi_dn d (fun e => zi_run e zm_X10_in 0 [some (.inr (.inl (Int32.toInt64 x1))), none, some (.inr (.inl 0)), none, some (.inr (.inl (Int32.toInt64 ((M.1 28 0 q21) - 1)))), none] [] M)) (fun x23 M22 => (zi_bo x23 (some (some (.inl x23), M22))))))) := (zi_blk 12 d zm_X10_isFlyer 0 _ _ M).trans rfl
set_option maxRecDepth 100000 in
set_option maxHeartbeats 4000000 in
theorem ze_X10_row_0 (d : Nat) (x1 : Int32) (x2 : Int32) (M : zi_M) : zi_run d zm_X10_row 0 [some (.inr (.inr (10, some 0))), some (.inl x1), some (.inl x2), none] [] M = (zi_cI (zi_dn d (fun e => zi_run e zm_X10_isRow 0 [some (.inl x1)] [] M)) (fun x22 M21 => (if x22 = 0 then some (some (.inl ((-1))), M21) else (if x2 ≤ 40 then (if 0 ≤ x2 then (zi_ix x1 6 (fun q23 => zi_run d zm_X10_row 34 [some (.inr (.inr (10, some 0))), some (.inl x1), some (.inl x2), some (.inl 0)] [] (zi_sI M21 24 0 q23 x2))) else (zi_cI (zi_dn d (fun e => zi_run e zm_X10_finds 0 [some (.inr (.inr (10, some 0))), some (.inl 5)] [] M21)) (fun x25 M24 => some (some (.inl x25), M24)))) else some (some (.inl ((-1))), M21))))) := (zi_blk 16 d zm_X10_row 0 _ _ M).trans rfl
set_option maxRecDepth 100000 in
set_option maxHeartbeats 4000000 in
theorem ze_X10_row_34 (d : Nat) (x1 : Int32) (x2 : Int32) (x3 : Int32) (M : zi_M) : zi_run d zm_X10_row 34 [some (.inr (.inr (10, some 0))), some (.inl x1), some (.inl x2), some (.inl x3)] [] M = (if x2 ≤ x3 then some (some (.inl x2), M) else (zi_ix ((40 * x1) + x3) 240 (fun q21 => zi_run d zm_X10_row 34 [some (.inr (.inr (10, some 0))), some (.inl x1), some (.inl x2), some (.inl (x3 + 1))] [] (zi_sI M 25 0 q21 0)))) := (zi_blk 15 d zm_X10_row 34 _ _ M).trans rfl
set_option maxRecDepth 100000 in
set_option maxHeartbeats 4000000 in
theorem ze_X10_lay_0 (d : Nat) (x1 : Int32) (x2 : Int32) (x3 : Int32) (M : zi_M) : zi_run d zm_X10_lay 0 [some (.inr (.inr (10, some 0))), some (.inl x1), some (.inl x2), some (.inl x3), none] [] M = (zi_cI (zi_dn d (fun e => zi_run e zm_X10_isRow 0 [some (.inl x1)] [] M)) (fun x22 M21 => (if x22 = 0 then some (some (.inl ((-1))), M21) else (zi_ix x1 6 (fun q23 => (if 0 ≤ (M21.1 24 0 q23) then (zi_ix x1 6 (fun q24 => (zi_cI (zi_dn d (fun e => zi_run e zm_X10_in 0 [some (.inr (.inl (Int32.toInt64 x2))), none, some (.inr (.inl 0)), none, some (.inr (.inl (Int32.toInt64 ((M21.1 24 0 q24) - 1)))), none] [] M21)) (fun x26 M25 => (if x26 = 0 then (zi_cI (zi_dn d (fun e => zi_run e zm_X10_finds 0 [some (.inr (.inr (10, some 0))), some (.inl 2)] [] M25)) (fun x32 M31 => some (some (.inl x32), M31))) else (zi_ix ((40 * x1) + x2) 240 (fun q27 => (zi_ix ((40 * x1) + x2) 240 (fun q28 => (zi_cI (zi_dn d (fun e => zi_run e zm_X10_tells 0 [some (.inr (.inr (10, some 0))), some (.inl (M25.1 25 0 q27))] [] (zi_sI M25 25 0 q28 x3))) (fun x30 M29 => some (some (.inl x30), M29)))))))))))) else (zi_cI (zi_dn d (fun e => zi_run e zm_X10_finds 0 [some (.inr (.inr (10, some 0))), some (.inl 1)] [] M21)) (fun x34 M33 => some (some (.inl x34), M33))))))))) := (zi_blk 42 d zm_X10_lay 0 _ _ M).trans rfl
set_option maxRecDepth 100000 in
set_option maxHeartbeats 4000000 in
theorem ze_X10_at_0 (d : Nat) (x1 : Int32) (x2 : Int32) (M : zi_M) : zi_run d zm_X10_at 0 [some (.inr (.inr (10, some 0))), some (.inl x1), some (.inl x2)] [] M = (zi_cI (zi_dn d (fun e => zi_run e zm_X10_isRow 0 [some (.inl x1)] [] M)) (fun x22 M21 => (if x22 = 0 then some (some (.inl ((-1))), M21) else (zi_ix x1 6 (fun q23 => (if 0 ≤ (M21.1 24 0 q23) then (zi_ix x1 6 (fun q24 => (zi_cI (zi_dn d (fun e => zi_run e zm_X10_in 0 [some (.inr (.inl (Int32.toInt64 x2))), none, some (.inr (.inl 0)), none, some (.inr (.inl (Int32.toInt64 ((M21.1 24 0 q24) - 1)))), none] [] M21)) (fun x26 M25 => (if x26 = 0 then (zi_cI (zi_dn d (fun e => zi_run e zm_X10_finds 0 [some (.inr (.inr (10, some 0))), some (.inl 2)] [] M25)) (fun x28 M27 => some (some (.inl x28), M27))) else (zi_ix ((40 * x1) + x2) 240 (fun q29 => (zi_cI (zi_dn d (fun e => zi_run e zm_X10_tells 0 [some (.inr (.inr (10, some 0))), some (.inl (M25.1 25 0 q29))] [] M25)) (fun x31 M30 => some (some (.inl x31), M30)))))))))) else (zi_cI (zi_dn d (fun e => zi_run e zm_X10_finds 0 [some (.inr (.inr (10, some 0))), some (.inl 1)] [] M21)) (fun x33 M32 => some (some (.inl x33), M32))))))))) := (zi_blk 32 d zm_X10_at 0 _ _ M).trans rfl
set_option maxRecDepth 100000 in
set_option maxHeartbeats 4000000 in
theorem ze_X10_tear_0 (d : Nat) (x1 : Int32) (M : zi_M) : zi_run d zm_X10_tear 0 [some (.inr (.inr (10, some 0))), some (.inl x1)] [] M = (zi_cI (zi_dn d (fun e => zi_run e zm_X10_isRow 0 [some (.inl x1)] [] M)) (fun x22 M21 => (if x22 = 0 then some (some (.inl ((-1))), M21) else (zi_ix x1 6 (fun q23 => (if 0 ≤ (M21.1 24 0 q23) then (zi_ix x1 6 (fun q24 => some (some (.inl 1), zi_sI M21 24 0 q24 ((-1))))) else (zi_cI (zi_dn d (fun e => zi_run e zm_X10_finds 0 [some (.inr (.inr (10, some 0))), some (.inl 1)] [] M21)) (fun x26 M25 => some (some (.inl x26), M25))))))))) := (zi_blk 15 d zm_X10_tear 0 _ _ M).trans rfl
set_option maxRecDepth 100000 in
set_option maxHeartbeats 4000000 in
theorem ze_X10_copy_0 (d : Nat) (x1 : Int32) (x2 : Int32) (x3 : Int32) (x4 : Int32) (x5 : Int32) (M : zi_M) : zi_run d zm_X10_copy 0 [some (.inr (.inr (10, some 0))), some (.inl x1), some (.inl x2), some (.inl x3), some (.inl x4), some (.inl x5), none] [] M = (zi_cI (zi_dn d (fun e => zi_run e zm_X10_isRow 0 [some (.inl x1)] [] M)) (fun x22 M21 => (if x22 = 0 then some (some (.inl ((-1))), M21) else (zi_cI (zi_dn d (fun e => zi_run e zm_X10_isRow 0 [some (.inl x3)] [] M21)) (fun x24 M23 => (if x24 = 0 then some (some (.inl ((-1))), M23) else (if 0 ≤ x5 then (zi_ix x1 6 (fun q25 => (if (M23.1 24 0 q25) < 0 then zi_run d zm_X10_copy 45 [some (.inr (.inr (10, some 0))), none, none, none, none, none, none] [] M23 else (zi_ix x3 6 (fun q26 => (if 0 ≤ (M23.1 24 0 q26) then (if x2 < 0 then zi_run d zm_X10_copy 95 [some (.inr (.inr (10, some 0))), none, none, none, none, none, none] [] M23 else (if x4 < 0 then zi_run d zm_X10_copy 95 [some (.inr (.inr (10, some 0))), none, none, none, none, none, none] [] M23 else (zi_ix x1 6 (fun q27 => (if 0 < (lg_cmp ((Int32.toInt64 x2) + (Int32.toInt64 x5)) (Int32.toInt64 (M23.1 24 0 q27))) then zi_run d zm_X10_copy 95 [some (.inr (.inr (10, some 0))), none, none, none, none, none, none] [] M23 else (zi_ix x3 6 (fun q28 => (if (lg_cmp ((Int32.toInt64 x4) + (Int32.toInt64 x5)) (Int32.toInt64 (M23.1 24 0 q28))) ≤ 0 then zi_run d zm_X10_copy 104 [some (.inr (.inr (10, some 0))), some (.inl x1), some (.inl x2), some (.inl x3), some (.inl x4), some (.inl x5), some (.inl 0)] [] M23 else zi_run d zm_X10_copy 95 [some (.inr (.inr (10, some 0))), none, none, none, none, none, none] [] M23)))))))) else zi_run d zm_X10_copy 45 [some (.inr (.inr (10, some 0))), none, none, none, none, none, none] [] M23)))))) else (zi_cI (zi_dn d (fun e => zi_run e zm_X10_finds 0 [some (.inr (.inr (10, some 0))), some (.inl 5)] [] M23)) (fun x30 M29 => some (some (.inl x30), M29)))))))))) := (zi_blk 49 d zm_X10_copy 0 _ _ M).trans rfl
set_option maxRecDepth 100000 in
set_option maxHeartbeats 4000000 in
theorem ze_X10_copy_45 (d : Nat)  (M : zi_M) : zi_run d zm_X10_copy 45 [some (.inr (.inr (10, some 0))), none, none, none, none, none, none] [] M = (zi_cI (zi_dn d (fun e => zi_run e zm_X10_finds 0 [some (.inr (.inr (10, some 0))), some (.inl 1)] [] M)) (fun x22 M21 => some (some (.inl x22), M21))) := (zi_blk 4 d zm_X10_copy 45 _ _ M).trans rfl
set_option maxRecDepth 100000 in
set_option maxHeartbeats 4000000 in
theorem ze_X10_copy_95 (d : Nat)  (M : zi_M) : zi_run d zm_X10_copy 95 [some (.inr (.inr (10, some 0))), none, none, none, none, none, none] [] M = (zi_cI (zi_dn d (fun e => zi_run e zm_X10_finds 0 [some (.inr (.inr (10, some 0))), some (.inl 2)] [] M)) (fun x22 M21 => some (some (.inl x22), M21))) := (zi_blk 4 d zm_X10_copy 95 _ _ M).trans rfl
set_option maxRecDepth 100000 in
set_option maxHeartbeats 4000000 in
theorem ze_X10_copy_104 (d : Nat) (x1 : Int32) (x2 : Int32) (x3 : Int32) (x4 : Int32) (x5 : Int32) (x6 : Int32) (M : zi_M) : zi_run d zm_X10_copy 104 [some (.inr (.inr (10, some 0))), some (.inl x1), some (.inl x2), some (.inl x3), some (.inl x4), some (.inl x5), some (.inl x6)] [] M = (if x5 ≤ x6 then zi_run d zm_X10_copy 141 [some (.inr (.inr (10, some 0))), none, none, some (.inl x3), some (.inl x4), some (.inl x5), some (.inl 0)] [] M else (zi_ix (((40 * x1) + x2) + x6) 240 (fun q21 => (zi_ix x6 40 (fun q22 => zi_run d zm_X10_copy 104 [some (.inr (.inr (10, some 0))), some (.inl x1), some (.inl x2), some (.inl x3), some (.inl x4), some (.inl x5), some (.inl (x6 + 1))] [] (zi_sI M 32 0 q22 (M.1 25 0 q21))))))) := (zi_blk 20 d zm_X10_copy 104 _ _ M).trans rfl
set_option maxRecDepth 100000 in
set_option maxHeartbeats 4000000 in
theorem ze_X10_copy_141 (d : Nat) (x3 : Int32) (x4 : Int32) (x5 : Int32) (x6 : Int32) (M : zi_M) : zi_run d zm_X10_copy 141 [some (.inr (.inr (10, some 0))), none, none, some (.inl x3), some (.inl x4), some (.inl x5), some (.inl x6)] [] M = (if x5 ≤ x6 then some (some (.inl 1), M) else (zi_ix x6 40 (fun q21 => (zi_ix (((40 * x3) + x4) + x6) 240 (fun q22 => zi_run d zm_X10_copy 141 [some (.inr (.inr (10, some 0))), none, none, some (.inl x3), some (.inl x4), some (.inl x5), some (.inl (x6 + 1))] [] (zi_sI M 25 0 q22 (M.1 32 0 q21))))))) := (zi_blk 20 d zm_X10_copy 141 _ _ M).trans rfl
set_option maxRecDepth 100000 in
set_option maxHeartbeats 4000000 in
theorem ze_X10_mean_0 (d : Nat) (x1 : Int32) (M : zi_M) : zi_run d zm_X10_mean 0 [some (.inr (.inr (10, some 0))), some (.inl x1), none, none, none] [] M = (zi_cI (zi_dn d (fun e => zi_run e zm_X10_isRow 0 [some (.inl x1)] [] M)) (fun x22 M21 => (if x22 = 0 then some (some (.inl ((-1))), M21) else (zi_ix x1 6 (fun q23 => (if 0 ≤ (M21.1 24 0 q23) then (zi_ix x1 6 (fun q24 => (if (M21.1 24 0 q24) = 0 then (zi_cI (zi_dn d (fun e => zi_run e zm_X10_finds 0 [some (.inr (.inr (10, some 0))), some (.inl 4)] [] M21)) (fun x26 M25 => some (some (.inl x26), M25))) else zi_run d zm_X10_mean 44 [some (.inr (.inr (10, some 0))), some (.inl x1), some (.inr (.inl 0)), none, some (.inl 0)] [] M21))) else (zi_cI (zi_dn d (fun e => zi_run e zm_X10_finds 0 [some (.inr (.inr (10, some 0))), some (.inl 1)] [] M21)) (fun x28 M27 => some (some (.inl x28), M27))))))))) := (zi_blk 18 d zm_X10_mean 0 _ _ M).trans rfl
set_option maxRecDepth 100000 in
set_option maxHeartbeats 4000000 in
theorem ze_X10_mean_44 (d : Nat) (x1 : Int32) (y2 : Int64) (x4 : Int32) (M : zi_M) : zi_run d zm_X10_mean 44 [some (.inr (.inr (10, some 0))), some (.inl x1), some (.inr (.inl y2)), none, some (.inl x4)] [] M = (zi_ix x1 6 (fun q21 => (if (M.1 24 0 q21) ≤ x4 then (zi_ix x1 6 (fun q22 => (if Int32.toInt64 (M.1 24 0 q22) = 0 then none else (zi_cI (zi_dn d (fun e => zi_run e zm_X10_tells 0 [some (.inr (.inr (10, some 0))), some (.inl (Int64.toInt32 (y2 / (Int32.toInt64 (M.1 24 0 q22)))))] [] M)) (fun x24 M23 => some (some (.inl x24), M23)))))) else (zi_ix ((40 * x1) + x4) 240 (fun q25 => zi_run d zm_X10_mean 44 [some (.inr (.inr (10, some 0))), some (.inl x1), some (.inr (.inl (y2 + (Int32.toInt64 (M.1 25 0 q25))))), none, some (.inl (x4 + 1))] [] M))))) := (zi_blk 21 d zm_X10_mean 44 _ _ M).trans rfl
set_option maxRecDepth 100000 in
set_option maxHeartbeats 4000000 in
theorem ze_X10_text_0 (d : Nat) (x1 : Int32) (x2 : Int32) (M : zi_M) : zi_run d zm_X10_text 0 [some (.inr (.inr (10, some 0))), some (.inl x1), some (.inl x2), none] [] M = (zi_cI (zi_dn d (fun e => zi_run e zm_X10_isText 0 [some (.inl x1)] [] M)) (fun x22 M21 => (if x22 = 0 then some (some (.inl ((-1))), M21) else (if x2 ≤ 80 then (if 0 ≤ x2 then (zi_ix x1 4 (fun q23 => zi_run d zm_X10_text 34 [some (.inr (.inr (10, some 0))), some (.inl x1), some (.inl x2), some (.inl 0)] [] (zi_sI M21 26 0 q23 x2))) else (zi_cI (zi_dn d (fun e => zi_run e zm_X10_finds 0 [some (.inr (.inr (10, some 0))), some (.inl 5)] [] M21)) (fun x25 M24 => some (some (.inl x25), M24)))) else some (some (.inl ((-1))), M21))))) := (zi_blk 16 d zm_X10_text 0 _ _ M).trans rfl
set_option maxRecDepth 100000 in
set_option maxHeartbeats 4000000 in
theorem ze_X10_text_34 (d : Nat) (x1 : Int32) (x2 : Int32) (x3 : Int32) (M : zi_M) : zi_run d zm_X10_text 34 [some (.inr (.inr (10, some 0))), some (.inl x1), some (.inl x2), some (.inl x3)] [] M = (if x2 ≤ x3 then some (some (.inl x2), M) else (zi_ix ((80 * x1) + x3) 320 (fun q21 => zi_run d zm_X10_text 34 [some (.inr (.inr (10, some 0))), some (.inl x1), some (.inl x2), some (.inl (x3 + 1))] [] (zi_sI M 27 0 q21 32)))) := (zi_blk 15 d zm_X10_text 34 _ _ M).trans rfl
set_option maxRecDepth 100000 in
set_option maxHeartbeats 4000000 in
theorem ze_X10_put_0 (d : Nat) (x1 : Int32) (x2 : Int32) (x3 : Int32) (M : zi_M) : zi_run d zm_X10_put 0 [some (.inr (.inr (10, some 0))), some (.inl x1), some (.inl x2), some (.inl x3), none] [] M = (zi_cI (zi_dn d (fun e => zi_run e zm_X10_isText 0 [some (.inl x1)] [] M)) (fun x22 M21 => (if x22 = 0 then some (some (.inl ((-1))), M21) else (zi_ix x1 4 (fun q23 => (if 0 ≤ (M21.1 26 0 q23) then (zi_ix x1 4 (fun q24 => (zi_cI (zi_dn d (fun e => zi_run e zm_X10_in 0 [some (.inr (.inl (Int32.toInt64 x2))), none, some (.inr (.inl 0)), none, some (.inr (.inl (Int32.toInt64 ((M21.1 26 0 q24) - 1)))), none] [] M21)) (fun x26 M25 => (if x26 = 0 then (zi_cI (zi_dn d (fun e => zi_run e zm_X10_finds 0 [some (.inr (.inr (10, some 0))), some (.inl 2)] [] M25)) (fun x30 M29 => some (some (.inl x30), M29))) else (zi_ix ((80 * x1) + x2) 320 (fun q27 => (zi_ix ((80 * x1) + x2) 320 (fun q28 => some (some (.inl ((M25.1 27 0 q27) + 1000)), zi_sI M25 27 0 q28 (x3.toInt8.toInt32))))))))))) else (zi_cI (zi_dn d (fun e => zi_run e zm_X10_finds 0 [some (.inr (.inr (10, some 0))), some (.inl 1)] [] M21)) (fun x32 M31 => some (some (.inl x32), M31))))))))) := (zi_blk 43 d zm_X10_put 0 _ _ M).trans rfl
set_option maxRecDepth 100000 in
set_option maxHeartbeats 4000000 in
theorem ze_X10_sign_0 (d : Nat)  (M : zi_M) : zi_run d zm_X10_sign 0 [some (.inr (.inr (10, some 0)))] [] M = (if (M.1 10 0 14) ≤ (M.1 10 0 15) then some (some (.inl ((-1))), M) else (zi_ix ((M.1 10 0 13) + (M.1 10 0 15)) 320 (fun q21 => some (some (.inl (M.1 27 0 q21)), M)))) := (zi_blk 15 d zm_X10_sign 0 _ _ M).trans rfl
set_option maxRecDepth 100000 in
set_option maxHeartbeats 4000000 in
theorem ze_X10_isRest_0 (d : Nat)  (M : zi_M) : zi_run d zm_X10_isRest 0 [some (.inr (.inr (10, some 0))), none, none] [] M = zi_run d zm_X10_isRest 7 [some (.inr (.inr (10, some 0))), some (.inl 1), some (.inl (M.1 10 0 15))] [] M := (zi_blk 6 d zm_X10_isRest 0 _ _ M).trans rfl
set_option maxRecDepth 100000 in
set_option maxHeartbeats 4000000 in
theorem ze_X10_isRest_7 (d : Nat) (x1 : Int32) (x2 : Int32) (M : zi_M) : zi_run d zm_X10_isRest 7 [some (.inr (.inr (10, some 0))), some (.inl x1), some (.inl x2)] [] M = (if (M.1 10 0 14) ≤ x2 then (zi_bo x1 (some (some (.inl x1), M))) else (if x1 = 0 then zi_run d zm_X10_isRest 39 [some (.inr (.inr (10, some 0))), none, some (.inl x2)] [] M else (zi_ix ((M.1 10 0 13) + x2) 320 (fun q21 => (if (M.1 27 0 q21) = 32 then zi_run d zm_X10_isRest 40 [some (.inr (.inr (10, some 0))), none, some (.inl x2)] [.inl 1] M else zi_run d zm_X10_isRest 39 [some (.inr (.inr (10, some 0))), none, some (.inl x2)] [] M))))) := (zi_blk 18 d zm_X10_isRest 7 _ _ M).trans rfl
