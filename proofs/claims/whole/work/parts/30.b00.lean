/-! THE BLOCKS: a method from its entry, and from each cut, to the next cuts -/
set_option maxRecDepth 100000 in
set_option maxHeartbeats 4000000 in
theorem ze_X0_look_0 (d : Nat) (k0 : Nat) (x1 : Int32) (x2 : Int32) (M : zi_M) : zi_run d zm_X0_look 0 [some (.inr (.inr (0, some k0))), some (.inl x1), some (.inl x2), none] [] M = (if x1 < 0 then some (some (.inl 5), M) else (if (M.1 0 k0 1) ≤ x1 then some (some (.inl 5), M) else (if x2 < 0 then some (some (.inl 5), M) else (if x2 < (M.1 0 k0 2) then (if 35 ≤ ((x2 * 7) + x1) then some (some (.inl 5), M) else (zi_ix ((x2 * 7) + x1) 35 (fun q21 => some (some (.inl (M.1 11 k0 q21)), M)))) else some (some (.inl 5), M))))) := (zi_blk 29 d zm_X0_look 0 _ _ M).trans rfl
set_option maxRecDepth 100000 in
set_option maxHeartbeats 4000000 in
theorem ze_X0_fill_0 (d : Nat) (k0 : Nat) (x1 : Int32) (x2 : Int32) (x3 : Int32) (M : zi_M) : zi_run d zm_X0_fill 0 [some (.inr (.inr (0, some k0))), some (.inl x1), some (.inl x2), some (.inl x3), none] [] M = (if ((x2 * 7) + x1) < 0 then some (none, M) else (if 35 ≤ ((x2 * 7) + x1) then some (none, M) else (zi_ix ((x2 * 7) + x1) 35 (fun q21 => some (none, zi_sI M 11 k0 q21 x3))))) := (zi_blk 19 d zm_X0_fill 0 _ _ M).trans rfl
set_option maxRecDepth 100000 in
set_option maxHeartbeats 4000000 in
theorem ze_X0_take_0 (d : Nat) (k0 : Nat) (k1 : Nat) (M : zi_M) : zi_run d zm_X0_take 0 [some (.inr (.inr (0, some k0))), some (.inr (.inr (0, some k1))), none] [] M = zi_run d zm_X0_take 18 [some (.inr (.inr (0, some k0))), some (.inr (.inr (0, some k1))), some (.inl 0)] [] (zi_sI (zi_sI M 0 k0 1 (M.1 0 k1 1)) 0 k0 2 (M.1 0 k1 2)) := (zi_blk 11 d zm_X0_take 0 _ _ M).trans rfl
set_option maxRecDepth 100000 in
set_option maxHeartbeats 4000000 in
theorem ze_X0_take_18 (d : Nat) (k0 : Nat) (k1 : Nat) (x2 : Int32) (M : zi_M) : zi_run d zm_X0_take 18 [some (.inr (.inr (0, some k0))), some (.inr (.inr (0, some k1))), some (.inl x2)] [] M = (if 35 ≤ x2 then some (none, M) else (zi_ix x2 35 (fun q21 => (zi_ix x2 35 (fun q22 => zi_run d zm_X0_take 18 [some (.inr (.inr (0, some k0))), some (.inr (.inr (0, some k1))), some (.inl (x2 + 1))] [] (zi_sI M 11 k0 q22 (M.1 11 k1 q21))))))) := (zi_blk 16 d zm_X0_take 18 _ _ M).trans rfl
set_option maxRecDepth 100000 in
set_option maxHeartbeats 4000000 in
theorem ze_X1_take_0 (d : Nat) (k0 : Nat) (k1 : Nat) (M : zi_M) : zi_run d zm_X1_take 0 [some (.inr (.inr (1, some k0))), some (.inr (.inr (1, some k1)))] [] M = (zi_cV (zi_dn d (fun e => zi_run e zm_X7_take 0 [some (.inr (.inr (7, some k0))), some (.inr (.inr (7, some k1)))] [] M)) (fun M21 => some (none, zi_sI (zi_sI (zi_sI M21 1 k0 1 (M21.1 1 k1 1)) 1 k0 2 (M21.1 1 k1 2)) 1 k0 3 (M21.1 1 k1 3)))) := (zi_blk 18 d zm_X1_take 0 _ _ M).trans rfl
set_option maxRecDepth 100000 in
set_option maxHeartbeats 4000000 in
theorem ze_X1_begin_0 (d : Nat) (k0 : Nat) (x1 : Int32) (x2 : Int32) (x3 : Int32) (x4 : Int32) (M : zi_M) : zi_run d zm_X1_begin 0 [some (.inr (.inr (1, some k0))), some (.inl x1), some (.inl x2), some (.inl x3), some (.inl x4)] [] M = some (none, zi_sI (zi_sI (zi_sI (zi_sI (zi_sI (zi_sI (zi_sI (zi_sI (zi_sI M 1 k0 1 x1) 1 k0 2 x2) 1 k0 3 0) 7 k0 0 0) 7 k0 1 x4) 7 k0 2 x3) 7 k0 3 0) 7 k0 4 0) 7 k0 5 0) := (zi_blk 34 d zm_X1_begin 0 _ _ M).trans rfl
set_option maxRecDepth 100000 in
set_option maxHeartbeats 4000000 in
theorem ze_X1_tell_0 (d : Nat) (k0 : Nat) (x1 : Int32) (M : zi_M) : zi_run d zm_X1_tell 0 [some (.inr (.inr (1, some k0))), some (.inl x1)] [] M = zi_sw x1 93 0 6 #[43, 48, 56, 64, 72, 80, 88] (fun off => zi_to 1 off (fun t => zi_run d zm_X1_tell t (zi_kc zm_X1_tell t [some (.inr (.inr (1, some k0))), some (.inl x1)]) [] M)) := (zi_blk 3 d zm_X1_tell 0 _ _ M).trans rfl
set_option maxRecDepth 100000 in
set_option maxHeartbeats 4000000 in
theorem ze_X1_tell_44 (d : Nat) (k0 : Nat) (M : zi_M) : zi_run d zm_X1_tell 44 [some (.inr (.inr (1, some k0))), none] [] M = some (some (.inl (M.1 1 k0 1)), M) := (zi_blk 3 d zm_X1_tell 44 _ _ M).trans rfl
set_option maxRecDepth 100000 in
set_option maxHeartbeats 4000000 in
theorem ze_X1_tell_49 (d : Nat) (k0 : Nat) (M : zi_M) : zi_run d zm_X1_tell 49 [some (.inr (.inr (1, some k0))), none] [] M = some (some (.inl (M.1 7 k0 0)), M) := (zi_blk 4 d zm_X1_tell 49 _ _ M).trans rfl
set_option maxRecDepth 100000 in
set_option maxHeartbeats 4000000 in
theorem ze_X1_tell_57 (d : Nat) (k0 : Nat) (M : zi_M) : zi_run d zm_X1_tell 57 [some (.inr (.inr (1, some k0))), none] [] M = some (some (.inl (M.1 7 k0 1)), M) := (zi_blk 4 d zm_X1_tell 57 _ _ M).trans rfl
set_option maxRecDepth 100000 in
set_option maxHeartbeats 4000000 in
theorem ze_X1_tell_65 (d : Nat) (k0 : Nat) (M : zi_M) : zi_run d zm_X1_tell 65 [some (.inr (.inr (1, some k0))), none] [] M = some (some (.inl (M.1 7 k0 2)), M) := (zi_blk 4 d zm_X1_tell 65 _ _ M).trans rfl
set_option maxRecDepth 100000 in
set_option maxHeartbeats 4000000 in
theorem ze_X1_tell_73 (d : Nat) (k0 : Nat) (M : zi_M) : zi_run d zm_X1_tell 73 [some (.inr (.inr (1, some k0))), none] [] M = some (some (.inl (M.1 7 k0 3)), M) := (zi_blk 4 d zm_X1_tell 73 _ _ M).trans rfl
set_option maxRecDepth 100000 in
set_option maxHeartbeats 4000000 in
theorem ze_X1_tell_81 (d : Nat) (k0 : Nat) (M : zi_M) : zi_run d zm_X1_tell 81 [some (.inr (.inr (1, some k0))), none] [] M = some (some (.inl (M.1 7 k0 4)), M) := (zi_blk 4 d zm_X1_tell 81 _ _ M).trans rfl
set_option maxRecDepth 100000 in
set_option maxHeartbeats 4000000 in
theorem ze_X1_tell_89 (d : Nat) (k0 : Nat) (M : zi_M) : zi_run d zm_X1_tell 89 [some (.inr (.inr (1, some k0))), none] [] M = some (some (.inl (M.1 1 k0 3)), M) := (zi_blk 3 d zm_X1_tell 89 _ _ M).trans rfl
set_option maxRecDepth 100000 in
set_option maxHeartbeats 4000000 in
theorem ze_X1_tell_94 (d : Nat) (k0 : Nat) (M : zi_M) : zi_run d zm_X1_tell 94 [some (.inr (.inr (1, some k0))), none] [] M = some (some (.inl (M.1 7 k0 5)), M) := (zi_blk 4 d zm_X1_tell 94 _ _ M).trans rfl
set_option maxRecDepth 100000 in
set_option maxHeartbeats 4000000 in
theorem ze_X2_board_0 (d : Nat) (k1 : Nat) (x2 : Int32) (M : zi_M) : zi_run d zm_X2_board 0 [some (.inr (.inr (2, some 0))), some (.inr (.inr (1, some k1))), some (.inl x2)] [] M = some (none, zi_sI (zi_sI (zi_sI (zi_sI M 2 0 1 (M.1 1 k1 1)) 2 0 2 (M.1 1 k1 2)) 2 0 3 (M.1 1 k1 3)) 2 0 4 x2) := (zi_blk 16 d zm_X2_board 0 _ _ M).trans rfl
set_option maxRecDepth 100000 in
set_option maxHeartbeats 4000000 in
theorem ze_X2_isOver_0 (d : Nat) (k1 : Nat) (M : zi_M) : zi_run d zm_X2_isOver 0 [some (.inr (.inr (2, some 0))), some (.inr (.inr (7, some k1)))] [] M = (if (M.1 7 k1 0) < ((M.1 0 0 1) - 1) then some (some (.inl 0), M) else some (some (.inl 1), M)) := (zi_blk 11 d zm_X2_isOver 0 _ _ M).trans rfl
set_option maxRecDepth 100000 in
set_option maxHeartbeats 4000000 in
theorem ze_X2_drips_0 (d : Nat) (k1 : Nat) (M : zi_M) : zi_run d zm_X2_drips 0 [some (.inr (.inr (2, some 0))), some (.inr (.inr (7, some k1)))] [] M = (if (M.1 7 k1 3) ≤ ((M.1 2 0 2) / 2) then some (some (.inl 0), M) else some (some (.inl 1), M)) := (zi_blk 10 d zm_X2_drips 0 _ _ M).trans rfl
set_option maxRecDepth 100000 in
set_option maxHeartbeats 4000000 in
theorem ze_X2_cost_0 (d : Nat) (x1 : Int32) (M : zi_M) : zi_run d zm_X2_cost 0 [some (.inr (.inr (2, some 0))), some (.inl x1), none] [] M = (if x1 = 2 then zi_run d zm_X2_cost 24 [some (.inr (.inr (2, some 0))), some (.inl x1), none] [.inl (2 + (M.1 2 0 3))] M else (if x1 = 1 then zi_run d zm_X2_cost 24 [some (.inr (.inr (2, some 0))), some (.inl x1), none] [.inl 1] M else zi_run d zm_X2_cost 24 [some (.inr (.inr (2, some 0))), some (.inl x1), none] [.inl 0] M)) := (zi_blk 9 d zm_X2_cost 0 _ _ M).trans rfl
set_option maxRecDepth 100000 in
set_option maxHeartbeats 4000000 in
theorem ze_X2_cost_24 (d : Nat) (x1 : Int32) (xs0 : Int32) (M : zi_M) : zi_run d zm_X2_cost 24 [some (.inr (.inr (2, some 0))), some (.inl x1), none] [.inl xs0] M = (if (M.1 2 0 1) = 1 then zi_run d zm_X2_cost 41 [some (.inr (.inr (2, some 0))), some (.inl x1), some (.inl xs0)] [] M else (if (M.1 2 0 1) = 4 then zi_run d zm_X2_cost 41 [some (.inr (.inr (2, some 0))), some (.inl x1), some (.inl xs0)] [] M else zi_run d zm_X2_cost 54 [some (.inr (.inr (2, some 0))), some (.inl x1), some (.inl xs0)] [] M)) := (zi_blk 10 d zm_X2_cost 24 _ _ M).trans rfl
set_option maxRecDepth 100000 in
set_option maxHeartbeats 4000000 in
theorem ze_X2_cost_41 (d : Nat) (x1 : Int32) (x2 : Int32) (M : zi_M) : zi_run d zm_X2_cost 41 [some (.inr (.inr (2, some 0))), some (.inl x1), some (.inl x2)] [] M = (if x1 = 2 then zi_run d zm_X2_cost 53 [some (.inr (.inr (2, some 0))), some (.inl x1), none] [.inl (x2 + 1)] M else zi_run d zm_X2_cost 53 [some (.inr (.inr (2, some 0))), some (.inl x1), none] [.inl 0] M) := (zi_blk 8 d zm_X2_cost 41 _ _ M).trans rfl
set_option maxRecDepth 100000 in
set_option maxHeartbeats 4000000 in
theorem ze_X2_cost_53 (d : Nat) (x1 : Int32) (xs0 : Int32) (M : zi_M) : zi_run d zm_X2_cost 53 [some (.inr (.inr (2, some 0))), some (.inl x1), none] [.inl xs0] M = zi_run d zm_X2_cost 54 [some (.inr (.inr (2, some 0))), some (.inl x1), some (.inl xs0)] [] M := (zi_blk 2 d zm_X2_cost 53 _ _ M).trans rfl
set_option maxRecDepth 100000 in
set_option maxHeartbeats 4000000 in
theorem ze_X2_cost_54 (d : Nat) (x1 : Int32) (x2 : Int32) (M : zi_M) : zi_run d zm_X2_cost 54 [some (.inr (.inr (2, some 0))), some (.inl x1), some (.inl x2)] [] M = (if (M.1 2 0 1) = 3 then zi_run d zm_X2_cost 70 [some (.inr (.inr (2, some 0))), some (.inl x1), some (.inl x2)] [] M else (if (M.1 2 0 1) = 5 then zi_run d zm_X2_cost 70 [some (.inr (.inr (2, some 0))), some (.inl x1), some (.inl x2)] [] M else zi_run d zm_X2_cost 82 [some (.inr (.inr (2, some 0))), none, some (.inl x2)] [] M)) := (zi_blk 9 d zm_X2_cost 54 _ _ M).trans rfl
set_option maxRecDepth 100000 in
set_option maxHeartbeats 4000000 in
theorem ze_X2_cost_70 (d : Nat) (x1 : Int32) (x2 : Int32) (M : zi_M) : zi_run d zm_X2_cost 70 [some (.inr (.inr (2, some 0))), some (.inl x1), some (.inl x2)] [] M = (if x1 = 1 then zi_run d zm_X2_cost 82 [some (.inr (.inr (2, some 0))), none, some (.inl (x2 + (M.1 2 0 3)))] [] M else zi_run d zm_X2_cost 82 [some (.inr (.inr (2, some 0))), none, some (.inl x2)] [] M) := (zi_blk 9 d zm_X2_cost 70 _ _ M).trans rfl
set_option maxRecDepth 100000 in
set_option maxHeartbeats 4000000 in
theorem ze_X2_cost_82 (d : Nat) (x2 : Int32) (M : zi_M) : zi_run d zm_X2_cost 82 [some (.inr (.inr (2, some 0))), none, some (.inl x2)] [] M = (if (M.1 2 0 1) = 5 then some (some (.inl (zi_max 0 (x2 - 1))), M) else some (some (.inl x2), M)) := (zi_blk 11 d zm_X2_cost 82 _ _ M).trans rfl
set_option maxRecDepth 100000 in
set_option maxHeartbeats 4000000 in
theorem ze_X2_warmth_0 (d : Nat) (x1 : Int32) (M : zi_M) : zi_run d zm_X2_warmth 0 [some (.inr (.inr (2, some 0))), some (.inl x1), none] [] M = (if (M.1 2 0 1) = 4 then some (some (.inl 0), M) else (if (M.1 2 0 1) = 2 then some (some (.inl (2 * (zi_max 0 ((x1 + (M.1 2 0 4)) - 4)))), M) else some (some (.inl (zi_max 0 ((x1 + (M.1 2 0 4)) - 4))), M))) := (zi_blk 22 d zm_X2_warmth 0 _ _ M).trans rfl
set_option maxRecDepth 100000 in
set_option maxHeartbeats 4000000 in
theorem ze_X2_move_0 (d : Nat) (k1 : Nat) (x2 : Int32) (k3 : Nat) (M : zi_M) : zi_run d zm_X2_move 0 [some (.inr (.inr (2, some 0))), some (.inr (.inr (7, some k1))), some (.inl x2), some (.inr (.inr (7, some k3))), none, none, none] [] M = (if (M.1 7 k1 5) = 0 then (zi_cI (zi_dn d (fun e => zi_run e zm_X2_isOver 0 [some (.inr (.inr (2, some 0))), some (.inr (.inr (7, some k1)))] [] M)) (fun x22 M21 => (if x22 = 0 then (zi_cI (zi_dn d (fun e => zi_run e zm_X0_look 0 [some (.inr (.inr (0, some 0))), some (.inl (M21.1 7 k1 0)), some (.inl (M21.1 7 k1 1)), none] [] M21)) (fun x24 M23 => (if x24 = 4 then zi_run d zm_X2_move 59 [some (.inr (.inr (2, some 0))), some (.inr (.inr (7, some k1))), some (.inl x2), some (.inr (.inr (7, some k3))), some (.inl x24), some (.inl (((M23.1 7 k1 1) + x2) - 1)), none] [.inl 2, .inl (M23.1 7 k1 0)] M23 else zi_run d zm_X2_move 59 [some (.inr (.inr (2, some 0))), some (.inr (.inr (7, some k1))), some (.inl x2), some (.inr (.inr (7, some k3))), some (.inl x24), some (.inl (((M23.1 7 k1 1) + x2) - 1)), none] [.inl 1, .inl (M23.1 7 k1 0)] M23))) else some (some (.inl 0), M21)))) else some (some (.inl 0), M)) := (zi_blk 30 d zm_X2_move 0 _ _ M).trans rfl
set_option maxRecDepth 100000 in
set_option maxHeartbeats 4000000 in
theorem ze_X2_move_59 (d : Nat) (k1 : Nat) (x2 : Int32) (k3 : Nat) (x4 : Int32) (x5 : Int32) (xs0 : Int32) (xs1 : Int32) (M : zi_M) : zi_run d zm_X2_move 59 [some (.inr (.inr (2, some 0))), some (.inr (.inr (7, some k1))), some (.inl x2), some (.inr (.inr (7, some k3))), some (.inl x4), some (.inl x5), none] [.inl xs1, .inl xs0] M = (zi_cI (zi_dn d (fun e => zi_run e zm_X0_look 0 [some (.inr (.inr (0, some 0))), some (.inl (zi_min (xs0 + xs1) ((M.1 0 0 1) - 1))), some (.inl x5), none] [] M)) (fun x22 M21 => (if x22 = 5 then some (some (.inl 0), M21) else (zi_cV (zi_dn d (fun e => zi_run e zm_X7_take 0 [some (.inr (.inr (7, some k3))), some (.inr (.inr (7, some k1)))] [] M21)) (fun M23 => (if x4 = 3 then some (some (.inl 1), zi_sI (zi_sI M23 7 k3 0 (zi_min (xs0 + xs1) ((M.1 0 0 1) - 1))) 7 k3 1 x5) else (zi_cI (zi_dn d (fun e => zi_run e zm_X2_cost 0 [some (.inr (.inr (2, some 0))), some (.inl x2), none] [] (zi_sI (zi_sI M23 7 k3 0 (zi_min (xs0 + xs1) ((M.1 0 0 1) - 1))) 7 k3 1 x5))) (fun x25 M24 => some (some (.inl 1), zi_sI M24 7 k3 2 ((M23.1 7 k3 2) - x25)))))))))) := (zi_blk 37 d zm_X2_move 59 _ _ M).trans rfl
set_option maxRecDepth 100000 in
set_option maxHeartbeats 4000000 in
theorem ze_X2_canSink_0 (d : Nat) (k1 : Nat) (M : zi_M) : zi_run d zm_X2_canSink 0 [some (.inr (.inr (2, some 0))), some (.inr (.inr (7, some k1)))] [] M = (zi_cI (zi_dn d (fun e => zi_run e zm_X0_look 0 [some (.inr (.inr (0, some 0))), some (.inl (M.1 7 k1 0)), some (.inl ((M.1 7 k1 1) - 1)), none] [] M)) (fun x22 M21 => (if x22 = 5 then some (some (.inl 0), M21) else some (some (.inl 1), M21)))) := (zi_blk 14 d zm_X2_canSink 0 _ _ M).trans rfl
set_option maxRecDepth 100000 in
set_option maxHeartbeats 4000000 in
theorem ze_X2_settle_0 (d : Nat) (k1 : Nat) (M : zi_M) : zi_run d zm_X2_settle 0 [some (.inr (.inr (2, some 0))), some (.inr (.inr (7, some k1))), none, none] [] M = (zi_cI (zi_dn d (fun e => zi_run e zm_X0_look 0 [some (.inr (.inr (0, some 0))), some (.inl (M.1 7 k1 0)), some (.inl (M.1 7 k1 1)), none] [] M)) (fun x22 M21 => (if x22 = 1 then zi_run d zm_X2_settle 48 [some (.inr (.inr (2, some 0))), some (.inr (.inr (7, some k1))), some (.inl x22), none] [.inl (zi_max 0 ((M21.1 7 k1 3) - 1)), .inr (.inr (7, some k1))] M21 else (zi_cI (zi_dn d (fun e => zi_run e zm_X2_warmth 0 [some (.inr (.inr (2, some 0))), some (.inl (M21.1 7 k1 1)), none] [] M21)) (fun x24 M23 => zi_run d zm_X2_settle 48 [some (.inr (.inr (2, some 0))), some (.inr (.inr (7, some k1))), some (.inl x22), none] [.inl ((M21.1 7 k1 3) + x24), .inr (.inr (7, some k1))] M23))))) := (zi_blk 20 d zm_X2_settle 0 _ _ M).trans rfl
set_option maxRecDepth 100000 in
set_option maxHeartbeats 4000000 in
theorem ze_X2_settle_48 (d : Nat) (k1 : Nat) (x2 : Int32) (ks0 : Nat) (xs1 : Int32) (M : zi_M) : zi_run d zm_X2_settle 48 [some (.inr (.inr (2, some 0))), some (.inr (.inr (7, some k1))), some (.inl x2), none] [.inl xs1, .inr (.inr (7, some ks0))] M = (if (M.1 7 k1 1) = 0 then zi_run d zm_X2_settle 63 [some (.inr (.inr (2, some 0))), some (.inr (.inr (7, some k1))), none, none] [] (zi_sI M 7 ks0 3 xs1) else (if x2 = 2 then zi_run d zm_X2_settle 63 [some (.inr (.inr (2, some 0))), some (.inr (.inr (7, some k1))), none, none] [] (zi_sI M 7 ks0 3 xs1) else zi_run d zm_X2_settle 68 [some (.inr (.inr (2, some 0))), some (.inr (.inr (7, some k1))), none, none] [.inl 0] (zi_sI M 7 ks0 3 xs1))) := (zi_blk 9 d zm_X2_settle 48 _ _ M).trans rfl
set_option maxRecDepth 100000 in
set_option maxHeartbeats 4000000 in
theorem ze_X2_settle_63 (d : Nat) (k1 : Nat) (M : zi_M) : zi_run d zm_X2_settle 63 [some (.inr (.inr (2, some 0))), some (.inr (.inr (7, some k1))), none, none] [] M = zi_run d zm_X2_settle 68 [some (.inr (.inr (2, some 0))), some (.inr (.inr (7, some k1))), none, none] [.inl 1] M := (zi_blk 3 d zm_X2_settle 63 _ _ M).trans rfl
set_option maxRecDepth 100000 in
set_option maxHeartbeats 4000000 in
theorem ze_X2_settle_68 (d : Nat) (k1 : Nat) (xs0 : Int32) (M : zi_M) : zi_run d zm_X2_settle 68 [some (.inr (.inr (2, some 0))), some (.inr (.inr (7, some k1))), none, none] [.inl xs0] M = (if xs0 = 0 then zi_run d zm_X2_settle 93 [some (.inr (.inr (2, some 0))), some (.inr (.inr (7, some k1))), none, none] [.inl (zi_max 0 ((M.1 7 k1 4) - 1)), .inr (.inr (7, some k1))] M else zi_run d zm_X2_settle 93 [some (.inr (.inr (2, some 0))), some (.inr (.inr (7, some k1))), none, none] [.inl ((M.1 7 k1 4) + 1), .inr (.inr (7, some k1))] M) := (zi_blk 11 d zm_X2_settle 68 _ _ M).trans rfl
set_option maxRecDepth 100000 in
set_option maxHeartbeats 4000000 in
theorem ze_X2_settle_93 (d : Nat) (k1 : Nat) (ks0 : Nat) (xs1 : Int32) (M : zi_M) : zi_run d zm_X2_settle 93 [some (.inr (.inr (2, some 0))), some (.inr (.inr (7, some k1))), none, none] [.inl xs1, .inr (.inr (7, some ks0))] M = (if 0 ≤ (M.1 7 k1 2) then (if (M.1 7 k1 3) ≤ (M.1 2 0 2) then (if ((zi_sI M 7 ks0 4 xs1).1 7 k1 4) ≤ 2 then zi_run d zm_X2_settle 136 [none, none, none, none] [.inl 0, .inr (.inr (7, some k1))] (zi_sI M 7 ks0 4 xs1) else zi_run d zm_X2_settle 136 [none, none, none, none] [.inl 3, .inr (.inr (7, some k1))] (zi_sI M 7 ks0 4 xs1)) else zi_run d zm_X2_settle 136 [none, none, none, none] [.inl 2, .inr (.inr (7, some k1))] (zi_sI M 7 ks0 4 xs1)) else zi_run d zm_X2_settle 136 [none, none, none, none] [.inl 1, .inr (.inr (7, some k1))] (zi_sI M 7 ks0 4 xs1)) := (zi_blk 17 d zm_X2_settle 93 _ _ M).trans rfl
set_option maxRecDepth 100000 in
set_option maxHeartbeats 4000000 in
theorem ze_X2_settle_136 (d : Nat) (ks0 : Nat) (xs1 : Int32) (M : zi_M) : zi_run d zm_X2_settle 136 [none, none, none, none] [.inl xs1, .inr (.inr (7, some ks0))] M = some (none, zi_sI M 7 ks0 5 xs1) := (zi_blk 2 d zm_X2_settle 136 _ _ M).trans rfl
set_option maxRecDepth 100000 in
set_option maxHeartbeats 4000000 in
theorem ze_X2_fly_0 (d : Nat) (k1 : Nat) (x2 : Int32) (k3 : Nat) (M : zi_M) : zi_run d zm_X2_fly 0 [some (.inr (.inr (2, some 0))), some (.inr (.inr (7, some k1))), some (.inl x2), some (.inr (.inr (7, some k3)))] [] M = (zi_cI (zi_dn d (fun e => zi_run e zm_X2_move 0 [some (.inr (.inr (2, some 0))), some (.inr (.inr (7, some k1))), some (.inl x2), some (.inr (.inr (7, some k3))), none, none, none] [] M)) (fun x22 M21 => (if x22 = 0 then some (some (.inl ((-1))), M21) else (zi_cV (zi_dn d (fun e => zi_run e zm_X2_settle 0 [some (.inr (.inr (2, some 0))), some (.inr (.inr (7, some k3))), none, none] [] M21)) (fun M23 => some (some (.inl (M23.1 7 k3 5)), M23)))))) := (zi_blk 12 d zm_X2_fly 0 _ _ M).trans rfl
set_option maxRecDepth 100000 in
set_option maxHeartbeats 4000000 in
theorem ze_X3_chanceOf_0 (d : Nat) (k1 : Nat) (x2 : Int32) (c3 : Nat) (o3 : Option Nat) (M : zi_M) : zi_run d zm_X3_chanceOf 0 [some (.inr (.inr (3, some 0))), some (.inr (.inr (7, some k1))), some (.inl x2), some (.inr (.inr (c3, o3)))] [] M = (zi_cV (zi_dn d (fun e => zi_run e zm_X3_begin 0 [some (.inr (.inr (3, some 0))), some (.inr (.inr (7, some k1))), some (.inl x2), some (.inr (.inr (c3, o3)))] [] M)) (fun M21 => (zi_cI (zi_dn d (fun e => zi_run e zm_X3_chance 0 [some (.inr (.inr (3, some 0))), some (.inl 0), none, none] [] M21)) (fun x23 M22 => some (some (.inl x23), M22))))) := (zi_blk 9 d zm_X3_chanceOf 0 _ _ M).trans rfl
set_option maxRecDepth 100000 in
set_option maxHeartbeats 4000000 in
theorem ze_X3_bestBeat_0 (d : Nat) (k1 : Nat) (x2 : Int32) (M : zi_M) : zi_run d zm_X3_bestBeat 0 [some (.inr (.inr (3, some 0))), some (.inr (.inr (7, some k1))), some (.inl x2), none, none, none, none] [] M = (zi_cV (zi_dn d (fun e => zi_run e zm_X3_begin 0 [some (.inr (.inr (3, some 0))), some (.inr (.inr (7, some k1))), some (.inl x2), some (.inr (.inr (0, none)))] [] M)) (fun M21 => (zi_cI (zi_dn d (fun e => zi_run e zm_X2_isOver 0 [some (.inr (.inr (2, some 0))), some (.inr (.inr (7, some k1)))] [] M21)) (fun x23 M22 => (if x23 = 0 then zi_run d zm_X3_bestBeat 30 [some (.inr (.inr (3, some 0))), none, none, some (.inl 0), some (.inl ((-9))), some (.inl 0), none] [] M22 else some (some (.inl ((-9))), M22)))))) := (zi_blk 17 d zm_X3_bestBeat 0 _ _ M).trans rfl
set_option maxRecDepth 100000 in
set_option maxHeartbeats 4000000 in
theorem ze_X3_bestBeat_30 (d : Nat) (x3 : Int32) (x4 : Int32) (x5 : Int32) (M : zi_M) : zi_run d zm_X3_bestBeat 30 [some (.inr (.inr (3, some 0))), none, none, some (.inl x3), some (.inl x4), some (.inl x5), none] [] M = (if 2 < x5 then some (some (.inl x4), M) else (zi_cI (zi_dn d (fun e => zi_run e zm_X3_chanceBy 0 [some (.inr (.inr (3, some 0))), some (.inl 0), some (.inl x5), none, none, none] [] M)) (fun x22 M21 => (if x3 < x22 then zi_run d zm_X3_bestBeat 61 [some (.inr (.inr (3, some 0))), none, none, some (.inl x22), some (.inl x5), some (.inl x5), none] [] M21 else zi_run d zm_X3_bestBeat 61 [some (.inr (.inr (3, some 0))), none, none, some (.inl x3), some (.inl x4), some (.inl x5), none] [] M21)))) := (zi_blk 16 d zm_X3_bestBeat 30 _ _ M).trans rfl
set_option maxRecDepth 100000 in
set_option maxHeartbeats 4000000 in
theorem ze_X3_bestBeat_61 (d : Nat) (x3 : Int32) (x4 : Int32) (x5 : Int32) (M : zi_M) : zi_run d zm_X3_bestBeat 61 [some (.inr (.inr (3, some 0))), none, none, some (.inl x3), some (.inl x4), some (.inl x5), none] [] M = zi_run d zm_X3_bestBeat 30 [some (.inr (.inr (3, some 0))), none, none, some (.inl x3), some (.inl x4), some (.inl (x5 + 1)), none] [] M := (zi_blk 3 d zm_X3_bestBeat 61 _ _ M).trans rfl
set_option maxRecDepth 100000 in
set_option maxHeartbeats 4000000 in
theorem ze_X3_begin_0 (d : Nat) (k1 : Nat) (x2 : Int32) (c3 : Nat) (o3 : Option Nat) (M : zi_M) : zi_run d zm_X3_begin 0 [some (.inr (.inr (3, some 0))), some (.inr (.inr (7, some k1))), some (.inl x2), some (.inr (.inr (c3, o3)))] [] M = (zi_ix 0 7 (fun q21 => (zi_cV (zi_dn d (fun e => zi_run e zm_X7_take 0 [some (.inr (.inr (7, some (30 + q21)))), some (.inr (.inr (7, some k1)))] [] M)) (fun M22 => (zi_nn o3 (some (none, zi_sR (zi_sI M22 3 0 2 x2) 3 0 3 (none))) (fun q23 => (if c3 = 5 then some (none, zi_sR (zi_sI M22 3 0 2 x2) 3 0 3 (some q23)) else none))))))) := (zi_blk 13 d zm_X3_begin 0 _ _ M).trans rfl
set_option maxRecDepth 100000 in
set_option maxHeartbeats 4000000 in
theorem ze_X3_chance_0 (d : Nat) (x1 : Int32) (M : zi_M) : zi_run d zm_X3_chance 0 [some (.inr (.inr (3, some 0))), some (.inl x1), none, none] [] M = (if x1 < 0 then some (some (.inl 0), M) else (if 6 < x1 then some (some (.inl 0), M) else (zi_ix x1 7 (fun q21 => (if (M.1 7 (30 + q21) 5) = 0 then (zi_ix x1 7 (fun q22 => (zi_cI (zi_dn d (fun e => zi_run e zm_X2_isOver 0 [some (.inr (.inr (2, some 0))), some (.inr (.inr (7, some (30 + q22))))] [] M)) (fun x24 M23 => (if x24 = 0 then (zi_nl (M23.2.2 3 0 3) (zi_run d zm_X3_chance 83 [some (.inr (.inr (3, some 0))), some (.inl x1), some (.inl 0), some (.inl 0)] [] M23) ((zi_sm (M23.2.2 3 0 3) (fun k25 => (zi_cI (zi_dn d (fun e => zi_run e zm_X5_has 0 [some (.inr (.inr (5, some k25))), some (.inl x1)] [] M23)) (fun x27 M26 => (if x27 = 0 then some (some (.inl 0), M26) else (zi_sm (M26.2.2 3 0 3) (fun k28 => (zi_cI (zi_dn d (fun e => zi_run e zm_X5_get 0 [some (.inr (.inr (5, some k28))), some (.inl x1)] [] M26)) (fun x30 M29 => (zi_cI (zi_dn d (fun e => zi_run e zm_X3_chanceBy 0 [some (.inr (.inr (3, some 0))), some (.inl x1), some (.inl x30), none, none, none] [] M29)) (fun x32 M31 => some (some (.inl x32), M31)))))))))))))) else some (some (.inl 2985984), M23)))))) else some (some (.inl 0), M)))))) := (zi_blk 36 d zm_X3_chance 0 _ _ M).trans rfl
set_option maxRecDepth 100000 in
set_option maxHeartbeats 4000000 in
theorem ze_X3_chance_83 (d : Nat) (x1 : Int32) (x2 : Int32) (x3 : Int32) (M : zi_M) : zi_run d zm_X3_chance 83 [some (.inr (.inr (3, some 0))), some (.inl x1), some (.inl x2), some (.inl x3)] [] M = (if 2 < x3 then some (some (.inl x2), M) else (if 2985984 ≤ x2 then some (some (.inl x2), M) else (zi_cI (zi_dn d (fun e => zi_run e zm_X3_chanceBy 0 [some (.inr (.inr (3, some 0))), some (.inl x1), some (.inl x3), none, none, none] [] M)) (fun x22 M21 => zi_run d zm_X3_chance 83 [some (.inr (.inr (3, some 0))), some (.inl x1), some (.inl (zi_max x2 x22)), some (.inl (x3 + 1))] [] M21)))) := (zi_blk 16 d zm_X3_chance 83 _ _ M).trans rfl
set_option maxRecDepth 100000 in
set_option maxHeartbeats 4000000 in
theorem ze_X3_chanceBy_0 (d : Nat) (x1 : Int32) (x2 : Int32) (M : zi_M) : zi_run d zm_X3_chanceBy 0 [some (.inr (.inr (3, some 0))), some (.inl x1), some (.inl x2), none, none, none] [] M = (if x1 < 0 then some (some (.inl 0), M) else (if 6 ≤ x1 then some (some (.inl 0), M) else (zi_ix x1 7 (fun q21 => (zi_ix (x1 + 1) 7 (fun q22 => (zi_cI (zi_dn d (fun e => zi_run e zm_X2_move 0 [some (.inr (.inr (2, some 0))), some (.inr (.inr (7, some (30 + q21)))), some (.inl x2), some (.inr (.inr (7, some (30 + q22)))), none, none, none] [] M)) (fun x24 M23 => (if x24 = 0 then some (some (.inl 0), M23) else (zi_ix (x1 + 1) 7 (fun q25 => (if (M23.1 3 0 2) = 0 then zi_run d zm_X3_chanceBy 75 [some (.inr (.inr (3, some 0))), some (.inl x1), none, none, none, none] [] M23 else (zi_cI (zi_dn d (fun e => zi_run e zm_X2_isOver 0 [some (.inr (.inr (2, some 0))), some (.inr (.inr (7, some (30 + q25))))] [] M23)) (fun x27 M26 => (if x27 = 0 then (zi_cI (zi_dn d (fun e => zi_run e zm_X2_canSink 0 [some (.inr (.inr (2, some 0))), some (.inr (.inr (7, some (30 + q25))))] [] M26)) (fun x29 M28 => (if x29 = 0 then zi_run d zm_X3_chanceBy 75 [some (.inr (.inr (3, some 0))), some (.inl x1), none, none, none, none] [] M28 else (zi_cI (zi_dn d (fun e => zi_run e zm_X3_settledChance 0 [some (.inr (.inr (3, some 0))), some (.inl (x1 + 1))] [] (zi_sI M28 7 (30 + q25) 1 ((M28.1 7 (30 + q25) 1) - 1)))) (fun x31 M30 => (if (M30.1 3 0 2) = 12 then some (some (.inl x31), M30) else (zi_ix x1 7 (fun q32 => (zi_cI (zi_dn d (fun e => zi_run e zm_X2_move 0 [some (.inr (.inr (2, some 0))), some (.inr (.inr (7, some (30 + q32)))), some (.inl x2), some (.inr (.inr (7, some (30 + q25)))), none, none, none] [] M30)) (fun x34 M33 => (zi_cI (zi_dn d (fun e => zi_run e zm_X3_settledChance 0 [some (.inr (.inr (3, some 0))), some (.inl (x1 + 1))] [] M33)) (fun x36 M35 => some (some (.inl ((((M35.1 3 0 2) * x31) + ((12 - (M35.1 3 0 2)) * x36)) / 12)), M35))))))))))))) else zi_run d zm_X3_chanceBy 75 [some (.inr (.inr (3, some 0))), some (.inl x1), none, none, none, none] [] M26))))))))))))))) := (zi_blk 86 d zm_X3_chanceBy 0 _ _ M).trans rfl
set_option maxRecDepth 100000 in
set_option maxHeartbeats 4000000 in
theorem ze_X3_chanceBy_75 (d : Nat) (x1 : Int32) (M : zi_M) : zi_run d zm_X3_chanceBy 75 [some (.inr (.inr (3, some 0))), some (.inl x1), none, none, none, none] [] M = (zi_cI (zi_dn d (fun e => zi_run e zm_X3_settledChance 0 [some (.inr (.inr (3, some 0))), some (.inl (x1 + 1))] [] M)) (fun x22 M21 => some (some (.inl x22), M21))) := (zi_blk 6 d zm_X3_chanceBy 75 _ _ M).trans rfl
set_option maxRecDepth 100000 in
set_option maxHeartbeats 4000000 in
theorem ze_X3_settledChance_0 (d : Nat) (x1 : Int32) (M : zi_M) : zi_run d zm_X3_settledChance 0 [some (.inr (.inr (3, some 0))), some (.inl x1)] [] M = (if x1 < 0 then some (some (.inl 0), M) else (if x1 ≤ 6 then (zi_ix x1 7 (fun q21 => (zi_cV (zi_dn d (fun e => zi_run e zm_X2_settle 0 [some (.inr (.inr (2, some 0))), some (.inr (.inr (7, some (30 + q21)))), none, none] [] M)) (fun M22 => (zi_cI (zi_dn d (fun e => zi_run e zm_X3_chance 0 [some (.inr (.inr (3, some 0))), some (.inl x1), none, none] [] M22)) (fun x24 M23 => some (some (.inl x24), M23))))))) else some (some (.inl 0), M))) := (zi_blk 16 d zm_X3_settledChance 0 _ _ M).trans rfl
set_option maxRecDepth 100000 in
set_option maxHeartbeats 4000000 in
theorem ze_X4_place_0 (d : Nat)  (M : zi_M) : zi_run d zm_X4_place 0 [some (.inr (.inr (4, some 0)))] [] M = some (some (.inl (M.1 4 0 3)), M) := (zi_blk 3 d zm_X4_place 0 _ _ M).trans rfl
set_option maxRecDepth 100000 in
set_option maxHeartbeats 4000000 in
theorem ze_X4_read_0 (d : Nat) (k1 : Nat) (M : zi_M) : zi_run d zm_X4_read 0 [some (.inr (.inr (4, some 0))), some (.inr (.inr (5, some k1)))] [] M = (zi_cV (zi_dn d (fun e => zi_run e zm_X4_skipBlanks 0 [some (.inr (.inr (4, some 0)))] [] (zi_sI (zi_sR M 4 0 2 (some k1)) 4 0 3 0))) (fun M21 => (zi_cI (zi_dn d (fun e => zi_run e zm_X4_readLines 0 [some (.inr (.inr (4, some 0))), none, none, none] [] M21)) (fun x23 M22 => (if x23 = 0 then some (some (.inl 0), M22) else (zi_cI (zi_dn d (fun e => zi_run e zm_X4_readSun 0 [some (.inr (.inr (4, some 0))), none] [] M22)) (fun x25 M24 => (if x25 = 0 then some (some (.inl 0), M24) else (zi_cI (zi_dn d (fun e => zi_run e zm_X4_readFlyers 0 [some (.inr (.inr (4, some 0))), none, none] [] M24)) (fun x27 M26 => (if x27 = 0 then some (some (.inl 0), M26) else (zi_cI (zi_dn d (fun e => zi_run e zm_X4_readEnd 0 [some (.inr (.inr (4, some 0)))] [] M26)) (fun x29 M28 => (if x29 = 0 then some (some (.inl 0), M28) else some (some (.inl 1), M28))))))))))))))) := (zi_blk 23 d zm_X4_read 0 _ _ M).trans rfl
set_option maxRecDepth 100000 in
set_option maxHeartbeats 4000000 in
theorem ze_X4_hand_0 (d : Nat) (k1 : Nat) (k2 : Nat) (M : zi_M) : zi_run d zm_X4_hand 0 [some (.inr (.inr (4, some 0))), some (.inr (.inr (0, some k1))), some (.inr (.inr (6, some k2)))] [] M = (zi_cV (zi_dn d (fun e => zi_run e zm_X0_take 0 [some (.inr (.inr (0, some k1))), some (.inr (.inr (0, some 1))), none] [] M)) (fun M21 => (zi_cV (zi_dn d (fun e => zi_run e zm_X6_take 0 [some (.inr (.inr (6, some k2))), some (.inr (.inr (6, some 4))), none] [] M21)) (fun M22 => some (none, M22))))) := (zi_blk 9 d zm_X4_hand 0 _ _ M).trans rfl
set_option maxRecDepth 100000 in
set_option maxHeartbeats 4000000 in
theorem ze_X4_here_0 (d : Nat)  (M : zi_M) : zi_run d zm_X4_here 0 [some (.inr (.inr (4, some 0)))] [] M = (zi_nl (M.2.2 4 0 2) (some (some (.inl 1000), M)) ((zi_sm (M.2.2 4 0 2) (fun k21 => (zi_cI (zi_dn d (fun e => zi_run e zm_X5_has 0 [some (.inr (.inr (5, some k21))), some (.inl (M.1 4 0 3))] [] M)) (fun x23 M22 => (if x23 = 0 then some (some (.inl 1000), M22) else (zi_sm (M22.2.2 4 0 2) (fun k24 => (zi_cI (zi_dn d (fun e => zi_run e zm_X5_get 0 [some (.inr (.inr (5, some k24))), some (.inl (M22.1 4 0 3))] [] M22)) (fun x26 M25 => some (some (.inl x26), M25)))))))))))) := (zi_blk 16 d zm_X4_here 0 _ _ M).trans rfl
set_option maxRecDepth 100000 in
set_option maxHeartbeats 4000000 in
theorem ze_X4_skipBlanks_0 (d : Nat)  (M : zi_M) : zi_run d zm_X4_skipBlanks 0 [some (.inr (.inr (4, some 0)))] [] M = (if 80 ≤ (M.1 4 0 3) then some (none, M) else (zi_cI (zi_dn d (fun e => zi_run e zm_X4_here 0 [some (.inr (.inr (4, some 0)))] [] M)) (fun x22 M21 => (if x22 = 32 then zi_run d zm_X4_skipBlanks 0 [some (.inr (.inr (4, some 0)))] [] (zi_sI M21 4 0 3 ((M21.1 4 0 3) + 1)) else some (none, M21))))) := (zi_blk 16 d zm_X4_skipBlanks 0 _ _ M).trans rfl
set_option maxRecDepth 100000 in
set_option maxHeartbeats 4000000 in
theorem ze_X4_readLines_0 (d : Nat)  (M : zi_M) : zi_run d zm_X4_readLines 0 [some (.inr (.inr (4, some 0))), none, none, none] [] M = zi_run d zm_X4_readLines 18 [some (.inr (.inr (4, some 0))), some (.inl 0), none, none] [] (zi_sI (zi_sI M 0 1 1 0) 0 1 2 0) := (zi_blk 11 d zm_X4_readLines 0 _ _ M).trans rfl
set_option maxRecDepth 100000 in
set_option maxHeartbeats 4000000 in
theorem ze_X4_readLines_18 (d : Nat) (x1 : Int32) (M : zi_M) : zi_run d zm_X4_readLines 18 [some (.inr (.inr (4, some 0))), some (.inl x1), none, none] [] M = (if 5 ≤ x1 then some (some (.inl 0), M) else (zi_cI (zi_dn d (fun e => zi_run e zm_X4_readLine 0 [some (.inr (.inr (4, some 0))), some (.inl x1), none, none, none] [] M)) (fun x22 M21 => (if x22 = 0 then some (some (.inl 0), M21) else (zi_cI (zi_dn d (fun e => zi_run e zm_X4_here 0 [some (.inr (.inr (4, some 0)))] [] M21)) (fun x24 M23 => (if x24 = 61 then zi_run d zm_X4_readLines 49 [some (.inr (.inr (4, some 0))), some (.inl x1), some (.inl x24), none] [.inl 1] M23 else zi_run d zm_X4_readLines 49 [some (.inr (.inr (4, some 0))), some (.inl x1), some (.inl x24), none] [.inl 0] M23))))))) := (zi_blk 16 d zm_X4_readLines 18 _ _ M).trans rfl
set_option maxRecDepth 100000 in
set_option maxHeartbeats 4000000 in
theorem ze_X4_readLines_49 (d : Nat) (x1 : Int32) (x2 : Int32) (xs0 : Int32) (M : zi_M) : zi_run d zm_X4_readLines 49 [some (.inr (.inr (4, some 0))), some (.inl x1), some (.inl x2), none] [.inl xs0] M = (if xs0 = 0 then (if x2 = 47 then (if x1 = 4 then some (some (.inl 0), M) else zi_run d zm_X4_readLines 67 [some (.inr (.inr (4, some 0))), some (.inl x1), none, some (.inl xs0)] [] M) else some (some (.inl 0), M)) else zi_run d zm_X4_readLines 67 [some (.inr (.inr (4, some 0))), some (.inl x1), none, some (.inl xs0)] [] M) := (zi_blk 11 d zm_X4_readLines 49 _ _ M).trans rfl
set_option maxRecDepth 100000 in
set_option maxHeartbeats 4000000 in
theorem ze_X4_readLines_67 (d : Nat) (x1 : Int32) (x3 : Int32) (M : zi_M) : zi_run d zm_X4_readLines 67 [some (.inr (.inr (4, some 0))), some (.inl x1), none, some (.inl x3)] [] M = (if x3 = 0 then zi_run d zm_X4_readLines 18 [some (.inr (.inr (4, some 0))), some (.inl (x1 + 1)), none, none] [] (zi_sI M 4 0 3 ((M.1 4 0 3) + 1)) else some (some (.inl 1), zi_sI M 4 0 3 ((M.1 4 0 3) + 1))) := (zi_blk 11 d zm_X4_readLines 67 _ _ M).trans rfl
set_option maxRecDepth 100000 in
set_option maxHeartbeats 4000000 in
theorem ze_X4_readLine_0 (d : Nat) (x1 : Int32) (M : zi_M) : zi_run d zm_X4_readLine 0 [some (.inr (.inr (4, some 0))), some (.inl x1), none, none, none] [] M = (if x1 = 0 then zi_run d zm_X4_readLine 16 [some (.inr (.inr (4, some 0))), some (.inl x1), none, none, none] [.inl 7] M else zi_run d zm_X4_readLine 16 [some (.inr (.inr (4, some 0))), some (.inl x1), none, none, none] [.inl (M.1 0 1 1)] M) := (zi_blk 6 d zm_X4_readLine 0 _ _ M).trans rfl
set_option maxRecDepth 100000 in
set_option maxHeartbeats 4000000 in
theorem ze_X4_readLine_16 (d : Nat) (x1 : Int32) (xs0 : Int32) (M : zi_M) : zi_run d zm_X4_readLine 16 [some (.inr (.inr (4, some 0))), some (.inl x1), none, none, none] [.inl xs0] M = zi_run d zm_X4_readLine 19 [some (.inr (.inr (4, some 0))), some (.inl x1), some (.inl xs0), some (.inl 0), none] [] M := (zi_blk 4 d zm_X4_readLine 16 _ _ M).trans rfl
set_option maxRecDepth 100000 in
set_option maxHeartbeats 4000000 in
theorem ze_X4_readLine_19 (d : Nat) (x1 : Int32) (x2 : Int32) (x3 : Int32) (M : zi_M) : zi_run d zm_X4_readLine 19 [some (.inr (.inr (4, some 0))), some (.inl x1), some (.inl x2), some (.inl x3), none] [] M = (if x2 ≤ x3 then zi_run d zm_X4_readLine 71 [some (.inr (.inr (4, some 0))), some (.inl x1), none, some (.inl x3), none] [] M else (zi_cI (zi_dn d (fun e => zi_run e zm_X4_here 0 [some (.inr (.inr (4, some 0)))] [] M)) (fun x22 M21 => (zi_cI (zi_dn d (fun e => zi_run e zm_X4_placeOf 0 [some (.inl x22), some (.inr (.inr (91, some 0))), none] [] M21)) (fun x24 M23 => (if 0 ≤ x24 then (zi_cV (zi_dn d (fun e => zi_run e zm_X0_fill 0 [some (.inr (.inr (0, some 1))), some (.inl x3), some (.inl x1), some (.inl x24), none] [] M23)) (fun M25 => zi_run d zm_X4_readLine 19 [some (.inr (.inr (4, some 0))), some (.inl x1), some (.inl x2), some (.inl (x3 + 1)), none] [] (zi_sI M25 4 0 3 ((M25.1 4 0 3) + 1)))) else zi_run d zm_X4_readLine 71 [some (.inr (.inr (4, some 0))), some (.inl x1), none, some (.inl x3), none] [] M23)))))) := (zi_blk 25 d zm_X4_readLine 19 _ _ M).trans rfl
set_option maxRecDepth 100000 in
set_option maxHeartbeats 4000000 in
theorem ze_X4_readLine_71 (d : Nat) (x1 : Int32) (x3 : Int32) (M : zi_M) : zi_run d zm_X4_readLine 71 [some (.inr (.inr (4, some 0))), some (.inl x1), none, some (.inl x3), none] [] M = (if x1 = 0 then zi_run d zm_X4_readLine 83 [some (.inr (.inr (4, some 0))), some (.inl x1), none, some (.inl x3), none] [] (zi_sI M 0 1 1 x3) else zi_run d zm_X4_readLine 83 [some (.inr (.inr (4, some 0))), some (.inl x1), none, some (.inl x3), none] [] M) := (zi_blk 7 d zm_X4_readLine 71 _ _ M).trans rfl
set_option maxRecDepth 100000 in
set_option maxHeartbeats 4000000 in
theorem ze_X4_readLine_83 (d : Nat) (x1 : Int32) (x3 : Int32) (M : zi_M) : zi_run d zm_X4_readLine 83 [some (.inr (.inr (4, some 0))), some (.inl x1), none, some (.inl x3), none] [] M = (if x3 < 2 then some (some (.inl 0), zi_sI M 0 1 2 (x1 + 1)) else (if x3 = (M.1 0 1 1) then some (some (.inl 1), zi_sI M 0 1 2 (x1 + 1)) else some (some (.inl 0), zi_sI M 0 1 2 (x1 + 1)))) := (zi_blk 17 d zm_X4_readLine 83 _ _ M).trans rfl
set_option maxRecDepth 100000 in
set_option maxHeartbeats 4000000 in
theorem ze_X4_readSun_0 (d : Nat)  (M : zi_M) : zi_run d zm_X4_readSun 0 [some (.inr (.inr (4, some 0))), none] [] M = (zi_cI (zi_dn d (fun e => zi_run e zm_X4_figureBelow 0 [some (.inr (.inr (4, some 0))), some (.inl 10), none] [] M)) (fun x22 M21 => (if 0 ≤ x22 then some (some (.inl 1), zi_sI (zi_sI M21 6 4 5 x22) 4 0 3 ((M21.1 4 0 3) + 1)) else some (some (.inl 0), M21)))) := (zi_blk 18 d zm_X4_readSun 0 _ _ M).trans rfl
set_option maxRecDepth 100000 in
set_option maxHeartbeats 4000000 in
theorem ze_X4_readFlyers_0 (d : Nat)  (M : zi_M) : zi_run d zm_X4_readFlyers 0 [some (.inr (.inr (4, some 0))), none, none] [] M = zi_run d zm_X4_readFlyers 10 [some (.inr (.inr (4, some 0))), some (.inl 0), none] [] (zi_sI M 6 4 4 0) := (zi_blk 7 d zm_X4_readFlyers 0 _ _ M).trans rfl
set_option maxRecDepth 100000 in
set_option maxHeartbeats 4000000 in
theorem ze_X4_readFlyers_10 (d : Nat) (x1 : Int32) (M : zi_M) : zi_run d zm_X4_readFlyers 10 [some (.inr (.inr (4, some 0))), some (.inl x1), none] [] M = (if 4 ≤ x1 then some (some (.inl 1), M) else (zi_cI (zi_dn d (fun e => zi_run e zm_X4_here 0 [some (.inr (.inr (4, some 0)))] [] M)) (fun x22 M21 => (zi_cI (zi_dn d (fun e => zi_run e zm_X4_placeOf 0 [some (.inl x22), some (.inr (.inr (92, some 0))), none] [] M21)) (fun x24 M23 => (if 0 ≤ x24 then (zi_cI (zi_dn d (fun e => zi_run e zm_X4_readFlyer 0 [some (.inr (.inr (4, some 0))), some (.inl x1), some (.inl x24), none, none, none] [] (zi_sI M23 4 0 3 ((M23.1 4 0 3) + 1)))) (fun x26 M25 => (if x26 = 0 then some (some (.inl 0), M25) else zi_run d zm_X4_readFlyers 10 [some (.inr (.inr (4, some 0))), some (.inl (x1 + 1)), none] [] (zi_sI M25 6 4 4 (x1 + 1))))) else some (some (.inl 1), M23))))))) := (zi_blk 30 d zm_X4_readFlyers 10 _ _ M).trans rfl
set_option maxRecDepth 100000 in
set_option maxHeartbeats 4000000 in
theorem ze_X4_readFlyer_0 (d : Nat) (x1 : Int32) (x2 : Int32) (M : zi_M) : zi_run d zm_X4_readFlyer 0 [some (.inr (.inr (4, some 0))), some (.inl x1), some (.inl x2), none, none, none] [] M = (zi_cI (zi_dn d (fun e => zi_run e zm_X4_figureBelow 0 [some (.inr (.inr (4, some 0))), some (.inl 10), none] [] M)) (fun x22 M21 => (if 0 ≤ x22 then (zi_cI (zi_dn d (fun e => zi_run e zm_X4_figureBelow 0 [some (.inr (.inr (4, some 0))), some (.inl 10), none] [] (zi_sI M21 4 0 3 ((M21.1 4 0 3) + 1)))) (fun x24 M23 => (if 0 ≤ x24 then (zi_cI (zi_dn d (fun e => zi_run e zm_X4_figureBelow 0 [some (.inr (.inr (4, some 0))), some (.inl (M23.1 0 1 2)), none] [] (zi_sI M23 4 0 3 ((M23.1 4 0 3) + 1)))) (fun x26 M25 => (if x26 < 0 then some (some (.inl 0), M25) else (zi_cI (zi_dn d (fun e => zi_run e zm_X0_look 0 [some (.inr (.inr (0, some 1))), some (.inl 0), some (.inl x26), none] [] M25)) (fun x28 M27 => (if x28 = 5 then some (some (.inl 0), M27) else (if x1 < 0 then some (some (.inl 1), zi_sI M27 4 0 3 ((M27.1 4 0 3) + 1)) else (if 4 ≤ x1 then some (some (.inl 1), zi_sI M27 4 0 3 ((M27.1 4 0 3) + 1)) else (zi_ix x1 4 (fun q29 => (zi_cV (zi_dn d (fun e => zi_run e zm_X1_begin 0 [some (.inr (.inr (1, some (16 + q29)))), some (.inl x2), some (.inl x22), some (.inl x24), some (.inl x26)] [] (zi_sI M27 4 0 3 ((M27.1 4 0 3) + 1)))) (fun M30 => some (some (.inl 1), M30))))))))))))) else some (some (.inl 0), M23)))) else some (some (.inl 0), M21)))) := (zi_blk 62 d zm_X4_readFlyer 0 _ _ M).trans rfl
set_option maxRecDepth 100000 in
set_option maxHeartbeats 4000000 in
theorem ze_X4_readEnd_0 (d : Nat)  (M : zi_M) : zi_run d zm_X4_readEnd 0 [some (.inr (.inr (4, some 0)))] [] M = (zi_cV (zi_dn d (fun e => zi_run e zm_X4_skipBlanks 0 [some (.inr (.inr (4, some 0)))] [] M)) (fun M21 => (zi_cI (zi_dn d (fun e => zi_run e zm_X4_here 0 [some (.inr (.inr (4, some 0)))] [] M21)) (fun x23 M22 => (if x23 = 1000 then some (some (.inl 1), M22) else some (some (.inl 0), M22)))))) := (zi_blk 9 d zm_X4_readEnd 0 _ _ M).trans rfl
set_option maxRecDepth 100000 in
set_option maxHeartbeats 4000000 in
theorem ze_X4_figureBelow_0 (d : Nat) (x1 : Int32) (M : zi_M) : zi_run d zm_X4_figureBelow 0 [some (.inr (.inr (4, some 0))), some (.inl x1), none] [] M = (zi_cI (zi_dn d (fun e => zi_run e zm_X4_here 0 [some (.inr (.inr (4, some 0)))] [] M)) (fun x22 M21 => (if (x22 - 48) < 0 then some (some (.inl ((-1))), M21) else (if 9 < (x22 - 48) then some (some (.inl ((-1))), M21) else (if x1 ≤ (x22 - 48) then some (some (.inl ((-1))), M21) else some (some (.inl (x22 - 48)), M21)))))) := (zi_blk 16 d zm_X4_figureBelow 0 _ _ M).trans rfl
set_option maxRecDepth 100000 in
set_option maxHeartbeats 4000000 in
theorem ze_X4_placeOf_0_91 (d : Nat) (x0 : Int32) (k1 : Nat) (M : zi_M) : zi_run d zm_X4_placeOf 0 [some (.inl x0), some (.inr (.inr (91, some k1))), none] [] M = zi_run d zm_X4_placeOf 2 [some (.inl x0), some (.inr (.inr (91, some k1))), some (.inl 0)] [] M := (zi_blk 3 d zm_X4_placeOf 0 _ _ M).trans rfl
set_option maxRecDepth 100000 in
set_option maxHeartbeats 4000000 in
theorem ze_X4_placeOf_2_91 (d : Nat) (x0 : Int32) (k1 : Nat) (x2 : Int32) (M : zi_M) : zi_run d zm_X4_placeOf 2 [some (.inl x0), some (.inr (.inr (91, some k1))), some (.inl x2)] [] M = (if 6 ≤ x2 then some (some (.inl ((-1))), M) else (zi_ix x2 6 (fun q21 => (if (M.1 91 k1 q21) = x0 then some (some (.inl x2), M) else zi_run d zm_X4_placeOf 2 [some (.inl x0), some (.inr (.inr (91, some k1))), some (.inl (x2 + 1))] [] M)))) := (zi_blk 12 d zm_X4_placeOf 2 _ _ M).trans rfl
set_option maxRecDepth 100000 in
set_option maxHeartbeats 4000000 in
theorem ze_X4_placeOf_0_92 (d : Nat) (x0 : Int32) (k1 : Nat) (M : zi_M) : zi_run d zm_X4_placeOf 0 [some (.inl x0), some (.inr (.inr (92, some k1))), none] [] M = zi_run d zm_X4_placeOf 2 [some (.inl x0), some (.inr (.inr (92, some k1))), some (.inl 0)] [] M := (zi_blk 3 d zm_X4_placeOf 0 _ _ M).trans rfl
set_option maxRecDepth 100000 in
set_option maxHeartbeats 4000000 in
theorem ze_X4_placeOf_2_92 (d : Nat) (x0 : Int32) (k1 : Nat) (x2 : Int32) (M : zi_M) : zi_run d zm_X4_placeOf 2 [some (.inl x0), some (.inr (.inr (92, some k1))), some (.inl x2)] [] M = (if 6 ≤ x2 then some (some (.inl ((-1))), M) else (zi_ix x2 6 (fun q21 => (if (M.1 92 k1 q21) = x0 then some (some (.inl x2), M) else zi_run d zm_X4_placeOf 2 [some (.inl x0), some (.inr (.inr (92, some k1))), some (.inl (x2 + 1))] [] M)))) := (zi_blk 12 d zm_X4_placeOf 2 _ _ M).trans rfl
set_option maxRecDepth 100000 in
set_option maxHeartbeats 4000000 in
theorem ze_X5_room_0 (d : Nat) (k0 : Nat) (M : zi_M) : zi_run d zm_X5_room 0 [some (.inr (.inr (5, some k0)))] [] M = some (some (.inl (Int32.ofNat (zi_ln 12 k0))), M) := (zi_blk 4 d zm_X5_room 0 _ _ M).trans rfl
set_option maxRecDepth 100000 in
set_option maxHeartbeats 4000000 in
theorem ze_X5_size_0 (d : Nat) (k0 : Nat) (M : zi_M) : zi_run d zm_X5_size 0 [some (.inr (.inr (5, some k0)))] [] M = some (some (.inl (M.1 5 k0 1)), M) := (zi_blk 3 d zm_X5_size 0 _ _ M).trans rfl
set_option maxRecDepth 100000 in
set_option maxHeartbeats 4000000 in
theorem ze_X5_isThere_0 (d : Nat) (k0 : Nat) (M : zi_M) : zi_run d zm_X5_isThere 0 [some (.inr (.inr (5, some k0)))] [] M = (if (M.1 5 k0 1) < 0 then some (some (.inl 0), M) else some (some (.inl 1), M)) := (zi_blk 6 d zm_X5_isThere 0 _ _ M).trans rfl
set_option maxRecDepth 100000 in
set_option maxHeartbeats 4000000 in
theorem ze_X5_has_0 (d : Nat) (k0 : Nat) (x1 : Int32) (M : zi_M) : zi_run d zm_X5_has 0 [some (.inr (.inr (5, some k0))), some (.inl x1)] [] M = (if x1 < 0 then some (some (.inl 0), M) else (if (M.1 5 k0 1) ≤ x1 then some (some (.inl 0), M) else (if (Int32.ofNat (zi_ln 12 k0)) ≤ x1 then some (some (.inl 0), M) else some (some (.inl 1), M)))) := (zi_blk 14 d zm_X5_has 0 _ _ M).trans rfl
set_option maxRecDepth 100000 in
set_option maxHeartbeats 4000000 in
theorem ze_X5_hasRun_0 (d : Nat) (k0 : Nat) (x1 : Int32) (x2 : Int32) (M : zi_M) : zi_run d zm_X5_hasRun 0 [some (.inr (.inr (5, some k0))), some (.inl x1), some (.inl x2)] [] M = (if x1 < 0 then some (some (.inl 0), M) else (if x2 < 0 then some (some (.inl 0), M) else (if (M.1 5 k0 1) < x2 then some (some (.inl 0), M) else (if ((M.1 5 k0 1) - x2) < x1 then some (some (.inl 0), M) else some (some (.inl 1), M))))) := (zi_blk 17 d zm_X5_hasRun 0 _ _ M).trans rfl
set_option maxRecDepth 100000 in
set_option maxHeartbeats 4000000 in
theorem ze_X5_get_0 (d : Nat) (k0 : Nat) (x1 : Int32) (M : zi_M) : zi_run d zm_X5_get 0 [some (.inr (.inr (5, some k0))), some (.inl x1)] [] M = (if x1 < 0 then some (some (.inl 0), M) else (if (M.1 5 k0 1) ≤ x1 then some (some (.inl 0), M) else (if (Int32.ofNat (zi_ln 12 k0)) ≤ x1 then some (some (.inl 0), M) else (zi_ix x1 (zi_ln 12 k0) (fun q21 => some (some (.inl (M.1 12 k0 q21)), M)))))) := (zi_blk 17 d zm_X5_get 0 _ _ M).trans rfl
set_option maxRecDepth 100000 in
set_option maxHeartbeats 4000000 in
theorem ze_X5_set_0 (d : Nat) (k0 : Nat) (x1 : Int32) (x2 : Int32) (M : zi_M) : zi_run d zm_X5_set 0 [some (.inr (.inr (5, some k0))), some (.inl x1), some (.inl x2)] [] M = (zi_cI (zi_dn d (fun e => zi_run e zm_X5_has 0 [some (.inr (.inr (5, some k0))), some (.inl x1)] [] M)) (fun x22 M21 => (if x22 = 0 then some (none, M21) else (zi_ix x1 (zi_ln 12 k0) (fun q23 => some (none, zi_sI M21 12 k0 q23 x2)))))) := (zi_blk 10 d zm_X5_set 0 _ _ M).trans rfl
set_option maxRecDepth 100000 in
set_option maxHeartbeats 4000000 in
theorem ze_X5_drop_0 (d : Nat) (k0 : Nat) (M : zi_M) : zi_run d zm_X5_drop 0 [some (.inr (.inr (5, some k0)))] [] M = some (none, zi_sI M 5 k0 1 ((-1))) := (zi_blk 4 d zm_X5_drop 0 _ _ M).trans rfl
set_option maxRecDepth 100000 in
set_option maxHeartbeats 4000000 in
theorem ze_X5_make_0 (d : Nat) (k0 : Nat) (x1 : Int32) (x2 : Int32) (M : zi_M) : zi_run d zm_X5_make 0 [some (.inr (.inr (5, some k0))), some (.inl x1), some (.inl x2), none] [] M = zi_run d zm_X5_make 19 [some (.inr (.inr (5, some k0))), none, some (.inl x2), some (.inl 0)] [] (zi_sI M 5 k0 1 (zi_max 0 (zi_min x1 (Int32.ofNat (zi_ln 12 k0))))) := (zi_blk 12 d zm_X5_make 0 _ _ M).trans rfl
set_option maxRecDepth 100000 in
set_option maxHeartbeats 4000000 in
theorem ze_X5_make_19 (d : Nat) (k0 : Nat) (x2 : Int32) (x3 : Int32) (M : zi_M) : zi_run d zm_X5_make 19 [some (.inr (.inr (5, some k0))), none, some (.inl x2), some (.inl x3)] [] M = (if (M.1 5 k0 1) ≤ x3 then some (none, M) else (zi_ix x3 (zi_ln 12 k0) (fun q21 => zi_run d zm_X5_make 19 [some (.inr (.inr (5, some k0))), none, some (.inl x2), some (.inl (x3 + 1))] [] (zi_sI M 12 k0 q21 x2)))) := (zi_blk 12 d zm_X5_make 19 _ _ M).trans rfl
set_option maxRecDepth 100000 in
set_option maxHeartbeats 4000000 in
theorem ze_X5_takeRun_0 (d : Nat) (k0 : Nat) (x1 : Int32) (k2 : Nat) (x3 : Int32) (x4 : Int32) (M : zi_M) : zi_run d zm_X5_takeRun 0 [some (.inr (.inr (5, some k0))), some (.inl x1), some (.inr (.inr (5, some k2))), some (.inl x3), some (.inl x4)] [] M = (zi_cI (zi_dn d (fun e => zi_run e zm_X5_hasRun 0 [some (.inr (.inr (5, some k0))), some (.inl x1), some (.inl x4)] [] M)) (fun x22 M21 => (if x22 = 0 then some (none, M21) else (zi_cI (zi_dn d (fun e => zi_run e zm_X5_hasRun 0 [some (.inr (.inr (5, some k2))), some (.inl x3), some (.inl x4)] [] M21)) (fun x24 M23 => (if x24 = 0 then some (none, M23) else (if x3 < 0 then none else if x1 < 0 then none else if x4 < 0 then none else if x3.toNatClampNeg + x4.toNatClampNeg ≤ zi_ln 12 k2 then (if x1.toNatClampNeg + x4.toNatClampNeg ≤ zi_ln 12 k0 then some (none, zi_cp M23 12 k2 12 k0 (x3.toNatClampNeg) (x1.toNatClampNeg) (x4.toNatClampNeg)) else none) else none))))))) := (zi_blk 19 d zm_X5_takeRun 0 _ _ M).trans rfl
set_option maxRecDepth 100000 in
set_option maxHeartbeats 4000000 in
theorem ze_X5_digestOn_0 (d : Nat) (k0 : Nat) (y1 : Int64) (M : zi_M) : zi_run d zm_X5_digestOn 0 [some (.inr (.inr (5, some k0))), some (.inr (.inl y1)), none, none, none, none] [] M = zi_run d zm_X5_digestOn 15 [some (.inr (.inr (5, some k0))), none, none, some (.inr (.inl ((31 * y1) + (Int32.toInt64 (M.1 5 k0 1))))), none, some (.inl 0)] [] M := (zi_blk 11 d zm_X5_digestOn 0 _ _ M).trans rfl
set_option maxRecDepth 100000 in
set_option maxHeartbeats 4000000 in
theorem ze_X5_digestOn_15 (d : Nat) (k0 : Nat) (y3 : Int64) (x5 : Int32) (M : zi_M) : zi_run d zm_X5_digestOn 15 [some (.inr (.inr (5, some k0))), none, none, some (.inr (.inl y3)), none, some (.inl x5)] [] M = (if (M.1 5 k0 1) ≤ x5 then some (some (.inr (.inl y3)), M) else (zi_cI (zi_dn d (fun e => zi_run e zm_X5_get 0 [some (.inr (.inr (5, some k0))), some (.inl x5)] [] M)) (fun x22 M21 => zi_run d zm_X5_digestOn 15 [some (.inr (.inr (5, some k0))), none, none, some (.inr (.inl ((31 * y3) + (Int32.toInt64 x22)))), none, some (.inl (x5 + 1))] [] M21))) := (zi_blk 16 d zm_X5_digestOn 15 _ _ M).trans rfl
set_option maxRecDepth 100000 in
set_option maxHeartbeats 4000000 in
theorem ze_X6_birdAt_0 (d : Nat) (k0 : Nat) (x1 : Int32) (M : zi_M) : zi_run d zm_X6_birdAt 0 [some (.inr (.inr (6, some k0))), some (.inl x1)] [] M = (if x1 < 0 then some (some (.inr (.inr (1, none))), M) else (if (M.1 6 k0 4) ≤ x1 then some (some (.inr (.inr (1, none))), M) else (if 4 ≤ x1 then some (some (.inr (.inr (1, none))), M) else (zi_ix x1 4 (fun q21 => some (some (.inr (.inr (1, some (4 * k0 + q21)))), M)))))) := (zi_blk 15 d zm_X6_birdAt 0 _ _ M).trans rfl
set_option maxRecDepth 100000 in
set_option maxHeartbeats 4000000 in
theorem ze_X6_oldOnes_0 (d : Nat) (k0 : Nat) (M : zi_M) : zi_run d zm_X6_oldOnes 0 [some (.inr (.inr (6, some k0))), none, none] [] M = zi_run d zm_X6_oldOnes 4 [some (.inr (.inr (6, some k0))), some (.inl 0), some (.inl 0)] [] M := (zi_blk 5 d zm_X6_oldOnes 0 _ _ M).trans rfl
set_option maxRecDepth 100000 in
set_option maxHeartbeats 4000000 in
theorem ze_X6_oldOnes_4 (d : Nat) (k0 : Nat) (x1 : Int32) (x2 : Int32) (M : zi_M) : zi_run d zm_X6_oldOnes 4 [some (.inr (.inr (6, some k0))), some (.inl x1), some (.inl x2)] [] M = (if (M.1 6 k0 4) ≤ x2 then some (some (.inl x1), M) else (if 4 ≤ x2 then some (some (.inl x1), M) else (zi_ix x2 4 (fun q21 => (zi_cI (zi_dn d (fun e => zi_run e zm_X9_isOfKind 0 [some (.inl (M.1 1 (4 * k0 + q21) 1)), some (.inl 1)] [] M)) (fun x23 M22 => (if x23 = 0 then zi_run d zm_X6_oldOnes 36 [some (.inr (.inr (6, some k0))), some (.inl x1), some (.inl x2)] [] M22 else zi_run d zm_X6_oldOnes 36 [some (.inr (.inr (6, some k0))), some (.inl (x1 + 1)), some (.inl x2)] [] M22))))))) := (zi_blk 17 d zm_X6_oldOnes 4 _ _ M).trans rfl
