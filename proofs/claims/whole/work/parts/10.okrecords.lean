/-! THE TABLES ARE RIGHT: methods -/
def zi_dk (b : ByteArray) (q : Nat × Instr) : Bool := match decode b q.1 with
  | .ok (i, n) => decide (i = q.2) && (Nat.beq (zi_n q.2) 0 || Nat.beq n (zi_n q.2))
  | .error _ => false
def zi_okR (r : zi_R) : Prop := plainName (zi_y r).cls = true ∧ Cond.code (zi_y r) (zi_by r) (zi_ml r) (zi_rt r) ∈ zi_gw ∧ Cond.initialized (zi_y r).cls ∈ zi_gw ∧ ((zi_y r).cls ≠ "java/lang/invoke/MethodHandle" ∧ (zi_y r).cls ≠ "java/lang/invoke/VarHandle") ∧ (parseMethodDescriptor (zi_y r).desc).map (fun d => d.parameters.length) = some (zi_na r) ∧
  (zi_sc r = true → Cond.static (zi_y r) ∈ zi_gw) ∧ (zi_sc r = false → Cond.instanceMethod (zi_y r) ∈ zi_gw ∧ Cond.selects (zi_y r).cls (zi_y r) (zi_y r) ∈ zi_gw ∧ vwCl[zi_w r]?.map (·.1) = some (zi_y r).cls) ∧
  (zi_ak r = 0 ∧ zi_rt r = none ∨ zi_ak r = 1 ∧ zi_rt r = some .int ∨ zi_ak r = 2 ∧ zi_rt r = some .long ∨ (zi_ak r = 3 ∧ ∃ C, zi_rt r = some (.object C)) ∨ zi_ak r = 4 ∧ zi_rt r = some .boolean) ∧ zi_cn (zi_w r) = (zi_y r).cls ∧ zi_ml r ≤ 30
set_option maxRecDepth 100000 in
theorem zr_X0_look : zi_okR zm_X0_look := ⟨by decide +kernel, zi_gwI 537 rfl rfl, zi_gwI 66 (by decide +kernel) rfl, by decide +kernel, by decide +kernel, (fun h => by cases h), fun _ => ⟨zi_gwI 535 (by decide +kernel) rfl, zi_gwI 536 (by decide +kernel) rfl, by decide +kernel⟩, Or.inr (Or.inl ⟨rfl, rfl⟩), by decide +kernel, by decide⟩
set_option maxRecDepth 100000 in
theorem zr_X0_fill : zi_okR zm_X0_fill := ⟨by decide +kernel, zi_gwI 515 rfl rfl, zi_gwI 66 (by decide +kernel) rfl, by decide +kernel, by decide +kernel, (fun h => by cases h), fun _ => ⟨zi_gwI 513 (by decide +kernel) rfl, zi_gwI 514 (by decide +kernel) rfl, by decide +kernel⟩, Or.inl ⟨rfl, rfl⟩, by decide +kernel, by decide⟩
set_option maxRecDepth 100000 in
theorem zr_X0_take : zi_okR zm_X0_take := ⟨by decide +kernel, zi_gwI 561 rfl rfl, zi_gwI 66 (by decide +kernel) rfl, by decide +kernel, by decide +kernel, (fun h => by cases h), fun _ => ⟨zi_gwI 559 (by decide +kernel) rfl, zi_gwI 560 (by decide +kernel) rfl, by decide +kernel⟩, Or.inl ⟨rfl, rfl⟩, by decide +kernel, by decide⟩
set_option maxRecDepth 100000 in
theorem zr_X1_take : zi_okR zm_X1_take := ⟨by decide +kernel, zi_gwI 569 rfl rfl, zi_gwI 68 (by decide +kernel) rfl, by decide +kernel, by decide +kernel, (fun h => by cases h), fun _ => ⟨zi_gwI 567 (by decide +kernel) rfl, zi_gwI 568 (by decide +kernel) rfl, by decide +kernel⟩, Or.inl ⟨rfl, rfl⟩, by decide +kernel, by decide⟩
set_option maxRecDepth 100000 in
theorem zr_X1_begin : zi_okR zm_X1_begin := ⟨by decide +kernel, zi_gwI 541 rfl rfl, zi_gwI 68 (by decide +kernel) rfl, by decide +kernel, by decide +kernel, (fun h => by cases h), fun _ => ⟨zi_gwI 539 (by decide +kernel) rfl, zi_gwI 540 (by decide +kernel) rfl, by decide +kernel⟩, Or.inl ⟨rfl, rfl⟩, by decide +kernel, by decide⟩
set_option maxRecDepth 100000 in
theorem zr_X1_tell : zi_okR zm_X1_tell := ⟨by decide +kernel, zi_gwI 590 rfl rfl, zi_gwI 68 (by decide +kernel) rfl, by decide +kernel, by decide +kernel, (fun h => by cases h), fun _ => ⟨zi_gwI 588 (by decide +kernel) rfl, zi_gwI 589 (by decide +kernel) rfl, by decide +kernel⟩, Or.inr (Or.inl ⟨rfl, rfl⟩), by decide +kernel, by decide⟩
set_option maxRecDepth 100000 in
theorem zr_X2_board : zi_okR zm_X2_board := ⟨by decide +kernel, zi_gwI 601 rfl rfl, zi_gwI 70 (by decide +kernel) rfl, by decide +kernel, by decide +kernel, (fun h => by cases h), fun _ => ⟨zi_gwI 599 (by decide +kernel) rfl, zi_gwI 600 (by decide +kernel) rfl, by decide +kernel⟩, Or.inl ⟨rfl, rfl⟩, by decide +kernel, by decide⟩
set_option maxRecDepth 100000 in
theorem zr_X2_isOver : zi_okR zm_X2_isOver := ⟨by decide +kernel, zi_gwI 650 rfl rfl, zi_gwI 70 (by decide +kernel) rfl, by decide +kernel, by decide +kernel, (fun h => by cases h), fun _ => ⟨zi_gwI 648 (by decide +kernel) rfl, zi_gwI 649 (by decide +kernel) rfl, by decide +kernel⟩, Or.inr (Or.inr (Or.inr (Or.inr ⟨rfl, rfl⟩))), by decide +kernel, by decide⟩
set_option maxRecDepth 100000 in
theorem zr_X2_drips : zi_okR zm_X2_drips := ⟨by decide +kernel, zi_gwI 891 rfl rfl, zi_gwI 70 (by decide +kernel) rfl, by decide +kernel, by decide +kernel, (fun h => by cases h), fun _ => ⟨zi_gwI 889 (by decide +kernel) rfl, zi_gwI 890 (by decide +kernel) rfl, by decide +kernel⟩, Or.inr (Or.inr (Or.inr (Or.inr ⟨rfl, rfl⟩))), by decide +kernel, by decide⟩
set_option maxRecDepth 100000 in
theorem zr_X2_cost : zi_okR zm_X2_cost := ⟨by decide +kernel, zi_gwI 605 rfl rfl, zi_gwI 70 (by decide +kernel) rfl, by decide +kernel, by decide +kernel, (fun h => by cases h), fun _ => ⟨zi_gwI 603 (by decide +kernel) rfl, zi_gwI 604 (by decide +kernel) rfl, by decide +kernel⟩, Or.inr (Or.inl ⟨rfl, rfl⟩), by decide +kernel, by decide⟩
set_option maxRecDepth 100000 in
theorem zr_X2_warmth : zi_okR zm_X2_warmth := ⟨by decide +kernel, zi_gwI 610 rfl rfl, zi_gwI 70 (by decide +kernel) rfl, by decide +kernel, by decide +kernel, (fun h => by cases h), fun _ => ⟨zi_gwI 608 (by decide +kernel) rfl, zi_gwI 609 (by decide +kernel) rfl, by decide +kernel⟩, Or.inr (Or.inl ⟨rfl, rfl⟩), by decide +kernel, by decide⟩
set_option maxRecDepth 100000 in
theorem zr_X2_move : zi_okR zm_X2_move := ⟨by decide +kernel, zi_gwI 646 rfl rfl, zi_gwI 70 (by decide +kernel) rfl, by decide +kernel, by decide +kernel, (fun h => by cases h), fun _ => ⟨zi_gwI 644 (by decide +kernel) rfl, zi_gwI 645 (by decide +kernel) rfl, by decide +kernel⟩, Or.inr (Or.inr (Or.inr (Or.inr ⟨rfl, rfl⟩))), by decide +kernel, by decide⟩
set_option maxRecDepth 100000 in
theorem zr_X2_canSink : zi_okR zm_X2_canSink := ⟨by decide +kernel, zi_gwI 842 rfl rfl, zi_gwI 70 (by decide +kernel) rfl, by decide +kernel, by decide +kernel, (fun h => by cases h), fun _ => ⟨zi_gwI 840 (by decide +kernel) rfl, zi_gwI 841 (by decide +kernel) rfl, by decide +kernel⟩, Or.inr (Or.inr (Or.inr (Or.inr ⟨rfl, rfl⟩))), by decide +kernel, by decide⟩
set_option maxRecDepth 100000 in
theorem zr_X2_settle : zi_okR zm_X2_settle := ⟨by decide +kernel, zi_gwI 658 rfl rfl, zi_gwI 70 (by decide +kernel) rfl, by decide +kernel, by decide +kernel, (fun h => by cases h), fun _ => ⟨zi_gwI 656 (by decide +kernel) rfl, zi_gwI 657 (by decide +kernel) rfl, by decide +kernel⟩, Or.inl ⟨rfl, rfl⟩, by decide +kernel, by decide⟩
set_option maxRecDepth 100000 in
theorem zr_X2_fly : zi_okR zm_X2_fly := ⟨by decide +kernel, zi_gwI 642 rfl rfl, zi_gwI 70 (by decide +kernel) rfl, by decide +kernel, by decide +kernel, (fun h => by cases h), fun _ => ⟨zi_gwI 640 (by decide +kernel) rfl, zi_gwI 641 (by decide +kernel) rfl, by decide +kernel⟩, Or.inr (Or.inl ⟨rfl, rfl⟩), by decide +kernel, by decide⟩
set_option maxRecDepth 100000 in
theorem zr_X3_chanceOf : zi_okR zm_X3_chanceOf := ⟨by decide +kernel, zi_gwI 820 rfl rfl, zi_gwI 72 (by decide +kernel) rfl, by decide +kernel, by decide +kernel, (fun h => by cases h), fun _ => ⟨zi_gwI 818 (by decide +kernel) rfl, zi_gwI 819 (by decide +kernel) rfl, by decide +kernel⟩, Or.inr (Or.inl ⟨rfl, rfl⟩), by decide +kernel, by decide⟩
set_option maxRecDepth 100000 in
theorem zr_X3_bestBeat : zi_okR zm_X3_bestBeat := ⟨by decide +kernel, zi_gwI 861 rfl rfl, zi_gwI 72 (by decide +kernel) rfl, by decide +kernel, by decide +kernel, (fun h => by cases h), fun _ => ⟨zi_gwI 859 (by decide +kernel) rfl, zi_gwI 860 (by decide +kernel) rfl, by decide +kernel⟩, Or.inr (Or.inl ⟨rfl, rfl⟩), by decide +kernel, by decide⟩
set_option maxRecDepth 100000 in
theorem zr_X3_begin : zi_okR zm_X3_begin := ⟨by decide +kernel, zi_gwI 824 rfl rfl, zi_gwI 72 (by decide +kernel) rfl, by decide +kernel, by decide +kernel, (fun h => by cases h), fun _ => ⟨zi_gwI 823 (by decide +kernel) rfl, zi_gwI 21 (by decide +kernel) rfl, by decide +kernel⟩, Or.inl ⟨rfl, rfl⟩, by decide +kernel, by decide⟩
set_option maxRecDepth 100000 in
theorem zr_X3_chance : zi_okR zm_X3_chance := ⟨by decide +kernel, zi_gwI 829 rfl rfl, zi_gwI 72 (by decide +kernel) rfl, by decide +kernel, by decide +kernel, (fun h => by cases h), fun _ => ⟨zi_gwI 828 (by decide +kernel) rfl, zi_gwI 22 (by decide +kernel) rfl, by decide +kernel⟩, Or.inr (Or.inl ⟨rfl, rfl⟩), by decide +kernel, by decide⟩
set_option maxRecDepth 100000 in
theorem zr_X3_chanceBy : zi_okR zm_X3_chanceBy := ⟨by decide +kernel, zi_gwI 837 rfl rfl, zi_gwI 72 (by decide +kernel) rfl, by decide +kernel, by decide +kernel, (fun h => by cases h), fun _ => ⟨zi_gwI 836 (by decide +kernel) rfl, zi_gwI 23 (by decide +kernel) rfl, by decide +kernel⟩, Or.inr (Or.inl ⟨rfl, rfl⟩), by decide +kernel, by decide⟩
set_option maxRecDepth 100000 in
theorem zr_X3_settledChance : zi_okR zm_X3_settledChance := ⟨by decide +kernel, zi_gwI 846 rfl rfl, zi_gwI 72 (by decide +kernel) rfl, by decide +kernel, by decide +kernel, (fun h => by cases h), fun _ => ⟨zi_gwI 845 (by decide +kernel) rfl, zi_gwI 24 (by decide +kernel) rfl, by decide +kernel⟩, Or.inr (Or.inl ⟨rfl, rfl⟩), by decide +kernel, by decide⟩
set_option maxRecDepth 100000 in
theorem zr_X4_place : zi_okR zm_X4_place := ⟨by decide +kernel, zi_gwI 549 rfl rfl, zi_gwI 73 (by decide +kernel) rfl, by decide +kernel, by decide +kernel, (fun h => by cases h), fun _ => ⟨zi_gwI 547 (by decide +kernel) rfl, zi_gwI 548 (by decide +kernel) rfl, by decide +kernel⟩, Or.inr (Or.inl ⟨rfl, rfl⟩), by decide +kernel, by decide⟩
set_option maxRecDepth 100000 in
theorem zr_X4_read : zi_okR zm_X4_read := ⟨by decide +kernel, zi_gwI 488 rfl rfl, zi_gwI 73 (by decide +kernel) rfl, by decide +kernel, by decide +kernel, (fun h => by cases h), fun _ => ⟨zi_gwI 486 (by decide +kernel) rfl, zi_gwI 487 (by decide +kernel) rfl, by decide +kernel⟩, Or.inr (Or.inr (Or.inr (Or.inr ⟨rfl, rfl⟩))), by decide +kernel, by decide⟩
set_option maxRecDepth 100000 in
theorem zr_X4_hand : zi_okR zm_X4_hand := ⟨by decide +kernel, zi_gwI 557 rfl rfl, zi_gwI 73 (by decide +kernel) rfl, by decide +kernel, by decide +kernel, (fun h => by cases h), fun _ => ⟨zi_gwI 555 (by decide +kernel) rfl, zi_gwI 556 (by decide +kernel) rfl, by decide +kernel⟩, Or.inl ⟨rfl, rfl⟩, by decide +kernel, by decide⟩
set_option maxRecDepth 100000 in
theorem zr_X4_here : zi_okR zm_X4_here := ⟨by decide +kernel, zi_gwI 496 rfl rfl, zi_gwI 73 (by decide +kernel) rfl, by decide +kernel, by decide +kernel, (fun h => by cases h), fun _ => ⟨zi_gwI 495 (by decide +kernel) rfl, zi_gwI 5 (by decide +kernel) rfl, by decide +kernel⟩, Or.inr (Or.inl ⟨rfl, rfl⟩), by decide +kernel, by decide⟩
set_option maxRecDepth 100000 in
theorem zr_X4_skipBlanks : zi_okR zm_X4_skipBlanks := ⟨by decide +kernel, zi_gwI 492 rfl rfl, zi_gwI 73 (by decide +kernel) rfl, by decide +kernel, by decide +kernel, (fun h => by cases h), fun _ => ⟨zi_gwI 491 (by decide +kernel) rfl, zi_gwI 4 (by decide +kernel) rfl, by decide +kernel⟩, Or.inl ⟨rfl, rfl⟩, by decide +kernel, by decide⟩
set_option maxRecDepth 100000 in
theorem zr_X4_readLines : zi_okR zm_X4_readLines := ⟨by decide +kernel, zi_gwI 502 rfl rfl, zi_gwI 73 (by decide +kernel) rfl, by decide +kernel, by decide +kernel, (fun h => by cases h), fun _ => ⟨zi_gwI 501 (by decide +kernel) rfl, zi_gwI 6 (by decide +kernel) rfl, by decide +kernel⟩, Or.inr (Or.inr (Or.inr (Or.inr ⟨rfl, rfl⟩))), by decide +kernel, by decide⟩
set_option maxRecDepth 100000 in
theorem zr_X4_readLine : zi_okR zm_X4_readLine := ⟨by decide +kernel, zi_gwI 506 rfl rfl, zi_gwI 73 (by decide +kernel) rfl, by decide +kernel, by decide +kernel, (fun h => by cases h), fun _ => ⟨zi_gwI 505 (by decide +kernel) rfl, zi_gwI 7 (by decide +kernel) rfl, by decide +kernel⟩, Or.inr (Or.inr (Or.inr (Or.inr ⟨rfl, rfl⟩))), by decide +kernel, by decide⟩
set_option maxRecDepth 100000 in
theorem zr_X4_readSun : zi_okR zm_X4_readSun := ⟨by decide +kernel, zi_gwI 519 rfl rfl, zi_gwI 73 (by decide +kernel) rfl, by decide +kernel, by decide +kernel, (fun h => by cases h), fun _ => ⟨zi_gwI 518 (by decide +kernel) rfl, zi_gwI 8 (by decide +kernel) rfl, by decide +kernel⟩, Or.inr (Or.inr (Or.inr (Or.inr ⟨rfl, rfl⟩))), by decide +kernel, by decide⟩
set_option maxRecDepth 100000 in
theorem zr_X4_readFlyers : zi_okR zm_X4_readFlyers := ⟨by decide +kernel, zi_gwI 527 rfl rfl, zi_gwI 73 (by decide +kernel) rfl, by decide +kernel, by decide +kernel, (fun h => by cases h), fun _ => ⟨zi_gwI 526 (by decide +kernel) rfl, zi_gwI 10 (by decide +kernel) rfl, by decide +kernel⟩, Or.inr (Or.inr (Or.inr (Or.inr ⟨rfl, rfl⟩))), by decide +kernel, by decide⟩
set_option maxRecDepth 100000 in
theorem zr_X4_readFlyer : zi_okR zm_X4_readFlyer := ⟨by decide +kernel, zi_gwI 533 rfl rfl, zi_gwI 73 (by decide +kernel) rfl, by decide +kernel, by decide +kernel, (fun h => by cases h), fun _ => ⟨zi_gwI 532 (by decide +kernel) rfl, zi_gwI 11 (by decide +kernel) rfl, by decide +kernel⟩, Or.inr (Or.inr (Or.inr (Or.inr ⟨rfl, rfl⟩))), by decide +kernel, by decide⟩
set_option maxRecDepth 100000 in
theorem zr_X4_readEnd : zi_okR zm_X4_readEnd := ⟨by decide +kernel, zi_gwI 545 rfl rfl, zi_gwI 73 (by decide +kernel) rfl, by decide +kernel, by decide +kernel, (fun h => by cases h), fun _ => ⟨zi_gwI 544 (by decide +kernel) rfl, zi_gwI 12 (by decide +kernel) rfl, by decide +kernel⟩, Or.inr (Or.inr (Or.inr (Or.inr ⟨rfl, rfl⟩))), by decide +kernel, by decide⟩
set_option maxRecDepth 100000 in
theorem zr_X4_figureBelow : zi_okR zm_X4_figureBelow := ⟨by decide +kernel, zi_gwI 523 rfl rfl, zi_gwI 73 (by decide +kernel) rfl, by decide +kernel, by decide +kernel, (fun h => by cases h), fun _ => ⟨zi_gwI 522 (by decide +kernel) rfl, zi_gwI 9 (by decide +kernel) rfl, by decide +kernel⟩, Or.inr (Or.inl ⟨rfl, rfl⟩), by decide +kernel, by decide⟩
set_option maxRecDepth 100000 in
theorem zr_X4_placeOf : zi_okR zm_X4_placeOf := ⟨by decide +kernel, zi_gwI 511 rfl rfl, zi_gwI 73 (by decide +kernel) rfl, by decide +kernel, by decide +kernel, fun _ => zi_gwI 510 (by decide +kernel) rfl, (fun h => by cases h), Or.inr (Or.inl ⟨rfl, rfl⟩), by decide +kernel, by decide⟩
set_option maxRecDepth 100000 in
theorem zr_X5_room : zi_okR zm_X5_room := ⟨by decide +kernel, zi_gwI 400 rfl rfl, zi_gwI 74 (by decide +kernel) rfl, by decide +kernel, by decide +kernel, (fun h => by cases h), fun _ => ⟨zi_gwI 398 (by decide +kernel) rfl, zi_gwI 399 (by decide +kernel) rfl, by decide +kernel⟩, Or.inr (Or.inl ⟨rfl, rfl⟩), by decide +kernel, by decide⟩
set_option maxRecDepth 100000 in
theorem zr_X5_size : zi_okR zm_X5_size := ⟨by decide +kernel, zi_gwI 468 rfl rfl, zi_gwI 74 (by decide +kernel) rfl, by decide +kernel, by decide +kernel, (fun h => by cases h), fun _ => ⟨zi_gwI 466 (by decide +kernel) rfl, zi_gwI 467 (by decide +kernel) rfl, by decide +kernel⟩, Or.inr (Or.inl ⟨rfl, rfl⟩), by decide +kernel, by decide⟩
set_option maxRecDepth 100000 in
theorem zr_X5_isThere : zi_okR zm_X5_isThere := ⟨by decide +kernel, zi_gwI 419 rfl rfl, zi_gwI 74 (by decide +kernel) rfl, by decide +kernel, by decide +kernel, (fun h => by cases h), fun _ => ⟨zi_gwI 417 (by decide +kernel) rfl, zi_gwI 418 (by decide +kernel) rfl, by decide +kernel⟩, Or.inr (Or.inr (Or.inr (Or.inr ⟨rfl, rfl⟩))), by decide +kernel, by decide⟩
set_option maxRecDepth 100000 in
theorem zr_X5_has : zi_okR zm_X5_has := ⟨by decide +kernel, zi_gwI 423 rfl rfl, zi_gwI 74 (by decide +kernel) rfl, by decide +kernel, by decide +kernel, (fun h => by cases h), fun _ => ⟨zi_gwI 421 (by decide +kernel) rfl, zi_gwI 422 (by decide +kernel) rfl, by decide +kernel⟩, Or.inr (Or.inr (Or.inr (Or.inr ⟨rfl, rfl⟩))), by decide +kernel, by decide⟩
set_option maxRecDepth 100000 in
theorem zr_X5_hasRun : zi_okR zm_X5_hasRun := ⟨by decide +kernel, zi_gwI 452 rfl rfl, zi_gwI 74 (by decide +kernel) rfl, by decide +kernel, by decide +kernel, (fun h => by cases h), fun _ => ⟨zi_gwI 450 (by decide +kernel) rfl, zi_gwI 451 (by decide +kernel) rfl, by decide +kernel⟩, Or.inr (Or.inr (Or.inr (Or.inr ⟨rfl, rfl⟩))), by decide +kernel, by decide⟩
set_option maxRecDepth 100000 in
theorem zr_X5_get : zi_okR zm_X5_get := ⟨by decide +kernel, zi_gwI 427 rfl rfl, zi_gwI 74 (by decide +kernel) rfl, by decide +kernel, by decide +kernel, (fun h => by cases h), fun _ => ⟨zi_gwI 425 (by decide +kernel) rfl, zi_gwI 426 (by decide +kernel) rfl, by decide +kernel⟩, Or.inr (Or.inl ⟨rfl, rfl⟩), by decide +kernel, by decide⟩
set_option maxRecDepth 100000 in
theorem zr_X5_set : zi_okR zm_X5_set := ⟨by decide +kernel, zi_gwI 431 rfl rfl, zi_gwI 74 (by decide +kernel) rfl, by decide +kernel, by decide +kernel, (fun h => by cases h), fun _ => ⟨zi_gwI 429 (by decide +kernel) rfl, zi_gwI 430 (by decide +kernel) rfl, by decide +kernel⟩, Or.inl ⟨rfl, rfl⟩, by decide +kernel, by decide⟩
set_option maxRecDepth 100000 in
theorem zr_X5_drop : zi_okR zm_X5_drop := ⟨by decide +kernel, zi_gwI 444 rfl rfl, zi_gwI 74 (by decide +kernel) rfl, by decide +kernel, by decide +kernel, (fun h => by cases h), fun _ => ⟨zi_gwI 442 (by decide +kernel) rfl, zi_gwI 443 (by decide +kernel) rfl, by decide +kernel⟩, Or.inl ⟨rfl, rfl⟩, by decide +kernel, by decide⟩
set_option maxRecDepth 100000 in
theorem zr_X5_make : zi_okR zm_X5_make := ⟨by decide +kernel, zi_gwI 408 rfl rfl, zi_gwI 74 (by decide +kernel) rfl, by decide +kernel, by decide +kernel, (fun h => by cases h), fun _ => ⟨zi_gwI 406 (by decide +kernel) rfl, zi_gwI 407 (by decide +kernel) rfl, by decide +kernel⟩, Or.inl ⟨rfl, rfl⟩, by decide +kernel, by decide⟩
set_option maxRecDepth 100000 in
theorem zr_X5_takeRun : zi_okR zm_X5_takeRun := ⟨by decide +kernel, zi_gwI 456 rfl rfl, zi_gwI 74 (by decide +kernel) rfl, by decide +kernel, by decide +kernel, (fun h => by cases h), fun _ => ⟨zi_gwI 454 (by decide +kernel) rfl, zi_gwI 455 (by decide +kernel) rfl, by decide +kernel⟩, Or.inl ⟨rfl, rfl⟩, by decide +kernel, by decide⟩
set_option maxRecDepth 100000 in
theorem zr_X5_digestOn : zi_okR zm_X5_digestOn := ⟨by decide +kernel, zi_gwI 959 rfl rfl, zi_gwI 74 (by decide +kernel) rfl, by decide +kernel, by decide +kernel, (fun h => by cases h), fun _ => ⟨zi_gwI 957 (by decide +kernel) rfl, zi_gwI 958 (by decide +kernel) rfl, by decide +kernel⟩, Or.inr (Or.inr (Or.inl ⟨rfl, rfl⟩)), by decide +kernel, by decide⟩
set_option maxRecDepth 100000 in
theorem zr_X6_birdAt : zi_okR zm_X6_birdAt := ⟨by decide +kernel, zi_gwI 586 rfl rfl, zi_gwI 67 (by decide +kernel) rfl, by decide +kernel, by decide +kernel, (fun h => by cases h), fun _ => ⟨zi_gwI 584 (by decide +kernel) rfl, zi_gwI 585 (by decide +kernel) rfl, by decide +kernel⟩, Or.inr (Or.inr (Or.inr (Or.inl ⟨rfl, _, rfl⟩))), by decide +kernel, by decide⟩
set_option maxRecDepth 100000 in
theorem zr_X6_oldOnes : zi_okR zm_X6_oldOnes := ⟨by decide +kernel, zi_gwI 933 rfl rfl, zi_gwI 67 (by decide +kernel) rfl, by decide +kernel, by decide +kernel, (fun h => by cases h), fun _ => ⟨zi_gwI 931 (by decide +kernel) rfl, zi_gwI 932 (by decide +kernel) rfl, by decide +kernel⟩, Or.inr (Or.inl ⟨rfl, rfl⟩), by decide +kernel, by decide⟩
set_option maxRecDepth 100000 in
theorem zr_X6_othersIn : zi_okR zm_X6_othersIn := ⟨by decide +kernel, zi_gwI 614 rfl rfl, zi_gwI 67 (by decide +kernel) rfl, by decide +kernel, by decide +kernel, (fun h => by cases h), fun _ => ⟨zi_gwI 612 (by decide +kernel) rfl, zi_gwI 613 (by decide +kernel) rfl, by decide +kernel⟩, Or.inr (Or.inl ⟨rfl, rfl⟩), by decide +kernel, by decide⟩
set_option maxRecDepth 100000 in
theorem zr_X6_note : zi_okR zm_X6_note := ⟨by decide +kernel, zi_gwI 663 rfl rfl, zi_gwI 67 (by decide +kernel) rfl, by decide +kernel, by decide +kernel, (fun h => by cases h), fun _ => ⟨zi_gwI 661 (by decide +kernel) rfl, zi_gwI 662 (by decide +kernel) rfl, by decide +kernel⟩, Or.inr (Or.inr (Or.inr (Or.inr ⟨rfl, rfl⟩))), by decide +kernel, by decide⟩
set_option maxRecDepth 100000 in
theorem zr_X6_goBack : zi_okR zm_X6_goBack := ⟨by decide +kernel, zi_gwI 672 rfl rfl, zi_gwI 67 (by decide +kernel) rfl, by decide +kernel, by decide +kernel, (fun h => by cases h), fun _ => ⟨zi_gwI 670 (by decide +kernel) rfl, zi_gwI 671 (by decide +kernel) rfl, by decide +kernel⟩, Or.inr (Or.inl ⟨rfl, rfl⟩), by decide +kernel, by decide⟩
set_option maxRecDepth 100000 in
theorem zr_X6_drop : zi_okR zm_X6_drop := ⟨by decide +kernel, zi_gwI 578 rfl rfl, zi_gwI 67 (by decide +kernel) rfl, by decide +kernel, by decide +kernel, (fun h => by cases h), fun _ => ⟨zi_gwI 576 (by decide +kernel) rfl, zi_gwI 577 (by decide +kernel) rfl, by decide +kernel⟩, Or.inl ⟨rfl, rfl⟩, by decide +kernel, by decide⟩
set_option maxRecDepth 100000 in
theorem zr_X6_take : zi_okR zm_X6_take := ⟨by decide +kernel, zi_gwI 565 rfl rfl, zi_gwI 67 (by decide +kernel) rfl, by decide +kernel, by decide +kernel, (fun h => by cases h), fun _ => ⟨zi_gwI 563 (by decide +kernel) rfl, zi_gwI 564 (by decide +kernel) rfl, by decide +kernel⟩, Or.inl ⟨rfl, rfl⟩, by decide +kernel, by decide⟩
set_option maxRecDepth 100000 in
theorem zr_X7_take : zi_okR zm_X7_take := ⟨by decide +kernel, zi_gwI 573 rfl rfl, zi_gwI 69 (by decide +kernel) rfl, by decide +kernel, by decide +kernel, (fun h => by cases h), fun _ => ⟨zi_gwI 571 (by decide +kernel) rfl, zi_gwI 572 (by decide +kernel) rfl, by decide +kernel⟩, Or.inl ⟨rfl, rfl⟩, by decide +kernel, by decide⟩
set_option maxRecDepth 100000 in
theorem zr_X8_start : zi_okR zm_X8_start := ⟨by decide +kernel, zi_gwI 715 rfl rfl, zi_gwI 71 (by decide +kernel) rfl, by decide +kernel, by decide +kernel, (fun h => by cases h), fun _ => ⟨zi_gwI 713 (by decide +kernel) rfl, zi_gwI 714 (by decide +kernel) rfl, by decide +kernel⟩, Or.inl ⟨rfl, rfl⟩, by decide +kernel, by decide⟩
set_option maxRecDepth 100000 in
theorem zr_X8_strengthen : zi_okR zm_X8_strengthen := ⟨by decide +kernel, zi_gwI 780 rfl rfl, zi_gwI 71 (by decide +kernel) rfl, by decide +kernel, by decide +kernel, (fun h => by cases h), fun _ => ⟨zi_gwI 778 (by decide +kernel) rfl, zi_gwI 779 (by decide +kernel) rfl, by decide +kernel⟩, Or.inl ⟨rfl, rfl⟩, by decide +kernel, by decide⟩
set_option maxRecDepth 100000 in
theorem zr_X8_findNext : zi_okR zm_X8_findNext := ⟨by decide +kernel, zi_gwI 720 rfl rfl, zi_gwI 71 (by decide +kernel) rfl, by decide +kernel, by decide +kernel, (fun h => by cases h), fun _ => ⟨zi_gwI 718 (by decide +kernel) rfl, zi_gwI 719 (by decide +kernel) rfl, by decide +kernel⟩, Or.inr (Or.inr (Or.inr (Or.inr ⟨rfl, rfl⟩))), by decide +kernel, by decide⟩
set_option maxRecDepth 100000 in
theorem zr_X8_size : zi_okR zm_X8_size := ⟨by decide +kernel, zi_gwI 727 rfl rfl, zi_gwI 71 (by decide +kernel) rfl, by decide +kernel, by decide +kernel, (fun h => by cases h), fun _ => ⟨zi_gwI 725 (by decide +kernel) rfl, zi_gwI 726 (by decide +kernel) rfl, by decide +kernel⟩, Or.inr (Or.inl ⟨rfl, rfl⟩), by decide +kernel, by decide⟩
set_option maxRecDepth 100000 in
theorem zr_X8_end : zi_okR zm_X8_end := ⟨by decide +kernel, zi_gwI 744 rfl rfl, zi_gwI 71 (by decide +kernel) rfl, by decide +kernel, by decide +kernel, (fun h => by cases h), fun _ => ⟨zi_gwI 742 (by decide +kernel) rfl, zi_gwI 743 (by decide +kernel) rfl, by decide +kernel⟩, Or.inr (Or.inr (Or.inr (Or.inl ⟨rfl, _, rfl⟩))), by decide +kernel, by decide⟩
set_option maxRecDepth 100000 in
theorem zr_X8_write : zi_okR zm_X8_write := ⟨by decide +kernel, zi_gwI 733 rfl rfl, zi_gwI 71 (by decide +kernel) rfl, by decide +kernel, by decide +kernel, (fun h => by cases h), fun _ => ⟨zi_gwI 731 (by decide +kernel) rfl, zi_gwI 732 (by decide +kernel) rfl, by decide +kernel⟩, Or.inl ⟨rfl, rfl⟩, by decide +kernel, by decide⟩
set_option maxRecDepth 100000 in
theorem zr_X8_heightsIn : zi_okR zm_X8_heightsIn := ⟨by decide +kernel, zi_gwI 760 rfl rfl, zi_gwI 71 (by decide +kernel) rfl, by decide +kernel, by decide +kernel, (fun h => by cases h), fun _ => ⟨zi_gwI 758 (by decide +kernel) rfl, zi_gwI 759 (by decide +kernel) rfl, by decide +kernel⟩, Or.inr (Or.inl ⟨rfl, rfl⟩), by decide +kernel, by decide⟩
set_option maxRecDepth 100000 in
theorem zr_X8_dripColumns : zi_okR zm_X8_dripColumns := ⟨by decide +kernel, zi_gwI 899 rfl rfl, zi_gwI 71 (by decide +kernel) rfl, by decide +kernel, by decide +kernel, (fun h => by cases h), fun _ => ⟨zi_gwI 897 (by decide +kernel) rfl, zi_gwI 898 (by decide +kernel) rfl, by decide +kernel⟩, Or.inr (Or.inl ⟨rfl, rfl⟩), by decide +kernel, by decide⟩
set_option maxRecDepth 100000 in
theorem zr_X9_row : zi_okR zm_X9_row := ⟨by decide +kernel, zi_gwI 388 rfl rfl, zi_gwI 65 (by decide +kernel) rfl, by decide +kernel, by decide +kernel, (fun h => by cases h), fun _ => ⟨zi_gwI 386 (by decide +kernel) rfl, zi_gwI 387 (by decide +kernel) rfl, by decide +kernel⟩, Or.inr (Or.inl ⟨rfl, rfl⟩), by decide +kernel, by decide⟩
set_option maxRecDepth 100000 in
theorem zr_X9_lay : zi_okR zm_X9_lay := ⟨by decide +kernel, zi_gwI 415 rfl rfl, zi_gwI 65 (by decide +kernel) rfl, by decide +kernel, by decide +kernel, (fun h => by cases h), fun _ => ⟨zi_gwI 413 (by decide +kernel) rfl, zi_gwI 414 (by decide +kernel) rfl, by decide +kernel⟩, Or.inr (Or.inl ⟨rfl, rfl⟩), by decide +kernel, by decide⟩
set_option maxRecDepth 100000 in
theorem zr_X9_at : zi_okR zm_X9_at := ⟨by decide +kernel, zi_gwI 436 rfl rfl, zi_gwI 65 (by decide +kernel) rfl, by decide +kernel, by decide +kernel, (fun h => by cases h), fun _ => ⟨zi_gwI 434 (by decide +kernel) rfl, zi_gwI 435 (by decide +kernel) rfl, by decide +kernel⟩, Or.inr (Or.inl ⟨rfl, rfl⟩), by decide +kernel, by decide⟩
set_option maxRecDepth 100000 in
theorem zr_X9_tear : zi_okR zm_X9_tear := ⟨by decide +kernel, zi_gwI 440 rfl rfl, zi_gwI 65 (by decide +kernel) rfl, by decide +kernel, by decide +kernel, (fun h => by cases h), fun _ => ⟨zi_gwI 438 (by decide +kernel) rfl, zi_gwI 439 (by decide +kernel) rfl, by decide +kernel⟩, Or.inr (Or.inl ⟨rfl, rfl⟩), by decide +kernel, by decide⟩
set_option maxRecDepth 100000 in
theorem zr_X9_copy : zi_okR zm_X9_copy := ⟨by decide +kernel, zi_gwI 448 rfl rfl, zi_gwI 65 (by decide +kernel) rfl, by decide +kernel, by decide +kernel, (fun h => by cases h), fun _ => ⟨zi_gwI 446 (by decide +kernel) rfl, zi_gwI 447 (by decide +kernel) rfl, by decide +kernel⟩, Or.inr (Or.inl ⟨rfl, rfl⟩), by decide +kernel, by decide⟩
set_option maxRecDepth 100000 in
theorem zr_X9_mean : zi_okR zm_X9_mean := ⟨by decide +kernel, zi_gwI 464 rfl rfl, zi_gwI 65 (by decide +kernel) rfl, by decide +kernel, by decide +kernel, (fun h => by cases h), fun _ => ⟨zi_gwI 462 (by decide +kernel) rfl, zi_gwI 463 (by decide +kernel) rfl, by decide +kernel⟩, Or.inr (Or.inl ⟨rfl, rfl⟩), by decide +kernel, by decide⟩
set_option maxRecDepth 100000 in
theorem zr_X9_text : zi_okR zm_X9_text := ⟨by decide +kernel, zi_gwI 472 rfl rfl, zi_gwI 65 (by decide +kernel) rfl, by decide +kernel, by decide +kernel, (fun h => by cases h), fun _ => ⟨zi_gwI 470 (by decide +kernel) rfl, zi_gwI 471 (by decide +kernel) rfl, by decide +kernel⟩, Or.inr (Or.inl ⟨rfl, rfl⟩), by decide +kernel, by decide⟩
set_option maxRecDepth 100000 in
theorem zr_X9_put : zi_okR zm_X9_put := ⟨by decide +kernel, zi_gwI 480 rfl rfl, zi_gwI 65 (by decide +kernel) rfl, by decide +kernel, by decide +kernel, (fun h => by cases h), fun _ => ⟨zi_gwI 478 (by decide +kernel) rfl, zi_gwI 479 (by decide +kernel) rfl, by decide +kernel⟩, Or.inr (Or.inl ⟨rfl, rfl⟩), by decide +kernel, by decide⟩
set_option maxRecDepth 100000 in
theorem zr_X9_fault : zi_okR zm_X9_fault := ⟨by decide +kernel, zi_gwI 484 rfl rfl, zi_gwI 65 (by decide +kernel) rfl, by decide +kernel, by decide +kernel, (fun h => by cases h), fun _ => ⟨zi_gwI 482 (by decide +kernel) rfl, zi_gwI 483 (by decide +kernel) rfl, by decide +kernel⟩, Or.inr (Or.inl ⟨rfl, rfl⟩), by decide +kernel, by decide⟩
set_option maxRecDepth 100000 in
theorem zr_X9_sky : zi_okR zm_X9_sky := ⟨by decide +kernel, zi_gwI 553 rfl rfl, zi_gwI 65 (by decide +kernel) rfl, by decide +kernel, by decide +kernel, (fun h => by cases h), fun _ => ⟨zi_gwI 551 (by decide +kernel) rfl, zi_gwI 552 (by decide +kernel) rfl, by decide +kernel⟩, Or.inr (Or.inl ⟨rfl, rfl⟩), by decide +kernel, by decide⟩
set_option maxRecDepth 100000 in
theorem zr_X9_flyer : zi_okR zm_X9_flyer := ⟨by decide +kernel, zi_gwI 582 rfl rfl, zi_gwI 65 (by decide +kernel) rfl, by decide +kernel, by decide +kernel, (fun h => by cases h), fun _ => ⟨zi_gwI 580 (by decide +kernel) rfl, zi_gwI 581 (by decide +kernel) rfl, by decide +kernel⟩, Or.inr (Or.inl ⟨rfl, rfl⟩), by decide +kernel, by decide⟩
set_option maxRecDepth 100000 in
theorem zr_X9_mark : zi_okR zm_X9_mark := ⟨by decide +kernel, zi_gwI 594 rfl rfl, zi_gwI 65 (by decide +kernel) rfl, by decide +kernel, by decide +kernel, (fun h => by cases h), fun _ => ⟨zi_gwI 592 (by decide +kernel) rfl, zi_gwI 593 (by decide +kernel) rfl, by decide +kernel⟩, Or.inr (Or.inl ⟨rfl, rfl⟩), by decide +kernel, by decide⟩
set_option maxRecDepth 100000 in
theorem zr_X9_air : zi_okR zm_X9_air := ⟨by decide +kernel, zi_gwI 618 rfl rfl, zi_gwI 65 (by decide +kernel) rfl, by decide +kernel, by decide +kernel, (fun h => by cases h), fun _ => ⟨zi_gwI 616 (by decide +kernel) rfl, zi_gwI 617 (by decide +kernel) rfl, by decide +kernel⟩, Or.inr (Or.inl ⟨rfl, rfl⟩), by decide +kernel, by decide⟩
set_option maxRecDepth 100000 in
theorem zr_X9_sun : zi_okR zm_X9_sun := ⟨by decide +kernel, zi_gwI 623 rfl rfl, zi_gwI 65 (by decide +kernel) rfl, by decide +kernel, by decide +kernel, (fun h => by cases h), fun _ => ⟨zi_gwI 621 (by decide +kernel) rfl, zi_gwI 622 (by decide +kernel) rfl, by decide +kernel⟩, Or.inr (Or.inl ⟨rfl, rfl⟩), by decide +kernel, by decide⟩
set_option maxRecDepth 100000 in
theorem zr_X9_letters : zi_okR zm_X9_letters := ⟨by decide +kernel, zi_gwI 627 rfl rfl, zi_gwI 65 (by decide +kernel) rfl, by decide +kernel, by decide +kernel, (fun h => by cases h), fun _ => ⟨zi_gwI 625 (by decide +kernel) rfl, zi_gwI 626 (by decide +kernel) rfl, by decide +kernel⟩, Or.inr (Or.inl ⟨rfl, rfl⟩), by decide +kernel, by decide⟩
set_option maxRecDepth 100000 in
theorem zr_X9_beat : zi_okR zm_X9_beat := ⟨by decide +kernel, zi_gwI 631 rfl rfl, zi_gwI 65 (by decide +kernel) rfl, by decide +kernel, by decide +kernel, (fun h => by cases h), fun _ => ⟨zi_gwI 629 (by decide +kernel) rfl, zi_gwI 630 (by decide +kernel) rfl, by decide +kernel⟩, Or.inr (Or.inl ⟨rfl, rfl⟩), by decide +kernel, by decide⟩
set_option maxRecDepth 100000 in
theorem zr_X9_undo : zi_okR zm_X9_undo := ⟨by decide +kernel, zi_gwI 668 rfl rfl, zi_gwI 65 (by decide +kernel) rfl, by decide +kernel, by decide +kernel, (fun h => by cases h), fun _ => ⟨zi_gwI 666 (by decide +kernel) rfl, zi_gwI 667 (by decide +kernel) rfl, by decide +kernel⟩, Or.inr (Or.inl ⟨rfl, rfl⟩), by decide +kernel, by decide⟩
set_option maxRecDepth 100000 in
theorem zr_X9_over : zi_okR zm_X9_over := ⟨by decide +kernel, zi_gwI 678 rfl rfl, zi_gwI 65 (by decide +kernel) rfl, by decide +kernel, by decide +kernel, (fun h => by cases h), fun _ => ⟨zi_gwI 676 (by decide +kernel) rfl, zi_gwI 677 (by decide +kernel) rfl, by decide +kernel⟩, Or.inr (Or.inl ⟨rfl, rfl⟩), by decide +kernel, by decide⟩
set_option maxRecDepth 100000 in
theorem zr_X9_can : zi_okR zm_X9_can := ⟨by decide +kernel, zi_gwI 683 rfl rfl, zi_gwI 65 (by decide +kernel) rfl, by decide +kernel, by decide +kernel, (fun h => by cases h), fun _ => ⟨zi_gwI 681 (by decide +kernel) rfl, zi_gwI 682 (by decide +kernel) rfl, by decide +kernel⟩, Or.inr (Or.inl ⟨rfl, rfl⟩), by decide +kernel, by decide⟩
set_option maxRecDepth 100000 in
theorem zr_X9_keep : zi_okR zm_X9_keep := ⟨by decide +kernel, zi_gwI 691 rfl rfl, zi_gwI 65 (by decide +kernel) rfl, by decide +kernel, by decide +kernel, (fun h => by cases h), fun _ => ⟨zi_gwI 689 (by decide +kernel) rfl, zi_gwI 690 (by decide +kernel) rfl, by decide +kernel⟩, Or.inr (Or.inl ⟨rfl, rfl⟩), by decide +kernel, by decide⟩
set_option maxRecDepth 100000 in
theorem zr_X9_on : zi_okR zm_X9_on := ⟨by decide +kernel, zi_gwI 696 rfl rfl, zi_gwI 65 (by decide +kernel) rfl, by decide +kernel, by decide +kernel, (fun h => by cases h), fun _ => ⟨zi_gwI 694 (by decide +kernel) rfl, zi_gwI 695 (by decide +kernel) rfl, by decide +kernel⟩, Or.inr (Or.inl ⟨rfl, rfl⟩), by decide +kernel, by decide⟩
set_option maxRecDepth 100000 in
theorem zr_X9_judge : zi_okR zm_X9_judge := ⟨by decide +kernel, zi_gwI 700 rfl rfl, zi_gwI 65 (by decide +kernel) rfl, by decide +kernel, by decide +kernel, (fun h => by cases h), fun _ => ⟨zi_gwI 698 (by decide +kernel) rfl, zi_gwI 699 (by decide +kernel) rfl, by decide +kernel⟩, Or.inr (Or.inl ⟨rfl, rfl⟩), by decide +kernel, by decide⟩
set_option maxRecDepth 100000 in
theorem zr_X9_soonest : zi_okR zm_X9_soonest := ⟨by decide +kernel, zi_gwI 707 rfl rfl, zi_gwI 65 (by decide +kernel) rfl, by decide +kernel, by decide +kernel, (fun h => by cases h), fun _ => ⟨zi_gwI 705 (by decide +kernel) rfl, zi_gwI 706 (by decide +kernel) rfl, by decide +kernel⟩, Or.inr (Or.inl ⟨rfl, rfl⟩), by decide +kernel, by decide⟩
set_option maxRecDepth 100000 in
theorem zr_X9_lightest : zi_okR zm_X9_lightest := ⟨by decide +kernel, zi_gwI 740 rfl rfl, zi_gwI 65 (by decide +kernel) rfl, by decide +kernel, by decide +kernel, (fun h => by cases h), fun _ => ⟨zi_gwI 738 (by decide +kernel) rfl, zi_gwI 739 (by decide +kernel) rfl, by decide +kernel⟩, Or.inr (Or.inl ⟨rfl, rfl⟩), by decide +kernel, by decide⟩
set_option maxRecDepth 100000 in
theorem zr_X9_ways : zi_okR zm_X9_ways := ⟨by decide +kernel, zi_gwI 748 rfl rfl, zi_gwI 65 (by decide +kernel) rfl, by decide +kernel, by decide +kernel, (fun h => by cases h), fun _ => ⟨zi_gwI 746 (by decide +kernel) rfl, zi_gwI 747 (by decide +kernel) rfl, by decide +kernel⟩, Or.inr (Or.inl ⟨rfl, rfl⟩), by decide +kernel, by decide⟩
set_option maxRecDepth 100000 in
theorem zr_X9_heights : zi_okR zm_X9_heights := ⟨by decide +kernel, zi_gwI 756 rfl rfl, zi_gwI 65 (by decide +kernel) rfl, by decide +kernel, by decide +kernel, (fun h => by cases h), fun _ => ⟨zi_gwI 754 (by decide +kernel) rfl, zi_gwI 755 (by decide +kernel) rfl, by decide +kernel⟩, Or.inr (Or.inl ⟨rfl, rfl⟩), by decide +kernel, by decide⟩
set_option maxRecDepth 100000 in
theorem zr_X9_nth : zi_okR zm_X9_nth := ⟨by decide +kernel, zi_gwI 764 rfl rfl, zi_gwI 65 (by decide +kernel) rfl, by decide +kernel, by decide +kernel, (fun h => by cases h), fun _ => ⟨zi_gwI 762 (by decide +kernel) rfl, zi_gwI 763 (by decide +kernel) rfl, by decide +kernel⟩, Or.inr (Or.inl ⟨rfl, rfl⟩), by decide +kernel, by decide⟩
set_option maxRecDepth 100000 in
theorem zr_X9_wax : zi_okR zm_X9_wax := ⟨by decide +kernel, zi_gwI 768 rfl rfl, zi_gwI 65 (by decide +kernel) rfl, by decide +kernel, by decide +kernel, (fun h => by cases h), fun _ => ⟨zi_gwI 766 (by decide +kernel) rfl, zi_gwI 767 (by decide +kernel) rfl, by decide +kernel⟩, Or.inr (Or.inl ⟨rfl, rfl⟩), by decide +kernel, by decide⟩
set_option maxRecDepth 100000 in
theorem zr_X9_strength : zi_okR zm_X9_strength := ⟨by decide +kernel, zi_gwI 776 rfl rfl, zi_gwI 65 (by decide +kernel) rfl, by decide +kernel, by decide +kernel, (fun h => by cases h), fun _ => ⟨zi_gwI 774 (by decide +kernel) rfl, zi_gwI 775 (by decide +kernel) rfl, by decide +kernel⟩, Or.inr (Or.inl ⟨rfl, rfl⟩), by decide +kernel, by decide⟩
set_option maxRecDepth 100000 in
theorem zr_X9_most : zi_okR zm_X9_most := ⟨by decide +kernel, zi_gwI 785 rfl rfl, zi_gwI 65 (by decide +kernel) rfl, by decide +kernel, by decide +kernel, (fun h => by cases h), fun _ => ⟨zi_gwI 783 (by decide +kernel) rfl, zi_gwI 784 (by decide +kernel) rfl, by decide +kernel⟩, Or.inr (Or.inl ⟨rfl, rfl⟩), by decide +kernel, by decide⟩
set_option maxRecDepth 100000 in
theorem zr_X9_hottest : zi_okR zm_X9_hottest := ⟨by decide +kernel, zi_gwI 789 rfl rfl, zi_gwI 65 (by decide +kernel) rfl, by decide +kernel, by decide +kernel, (fun h => by cases h), fun _ => ⟨zi_gwI 787 (by decide +kernel) rfl, zi_gwI 788 (by decide +kernel) rfl, by decide +kernel⟩, Or.inr (Or.inl ⟨rfl, rfl⟩), by decide +kernel, by decide⟩
set_option maxRecDepth 100000 in
theorem zr_X9_kinds : zi_okR zm_X9_kinds := ⟨by decide +kernel, zi_gwI 793 rfl rfl, zi_gwI 65 (by decide +kernel) rfl, by decide +kernel, by decide +kernel, (fun h => by cases h), fun _ => ⟨zi_gwI 791 (by decide +kernel) rfl, zi_gwI 792 (by decide +kernel) rfl, by decide +kernel⟩, Or.inr (Or.inl ⟨rfl, rfl⟩), by decide +kernel, by decide⟩
set_option maxRecDepth 100000 in
theorem zr_X9_post : zi_okR zm_X9_post := ⟨by decide +kernel, zi_gwI 797 rfl rfl, zi_gwI 65 (by decide +kernel) rfl, by decide +kernel, by decide +kernel, (fun h => by cases h), fun _ => ⟨zi_gwI 795 (by decide +kernel) rfl, zi_gwI 796 (by decide +kernel) rfl, by decide +kernel⟩, Or.inr (Or.inl ⟨rfl, rfl⟩), by decide +kernel, by decide⟩
set_option maxRecDepth 100000 in
theorem zr_X9_plan : zi_okR zm_X9_plan := ⟨by decide +kernel, zi_gwI 816 rfl rfl, zi_gwI 65 (by decide +kernel) rfl, by decide +kernel, by decide +kernel, (fun h => by cases h), fun _ => ⟨zi_gwI 814 (by decide +kernel) rfl, zi_gwI 815 (by decide +kernel) rfl, by decide +kernel⟩, Or.inr (Or.inl ⟨rfl, rfl⟩), by decide +kernel, by decide⟩
set_option maxRecDepth 100000 in
theorem zr_X9_odds : zi_okR zm_X9_odds := ⟨by decide +kernel, zi_gwI 853 rfl rfl, zi_gwI 65 (by decide +kernel) rfl, by decide +kernel, by decide +kernel, (fun h => by cases h), fun _ => ⟨zi_gwI 851 (by decide +kernel) rfl, zi_gwI 852 (by decide +kernel) rfl, by decide +kernel⟩, Or.inr (Or.inl ⟨rfl, rfl⟩), by decide +kernel, by decide⟩
set_option maxRecDepth 100000 in
theorem zr_X9_choice : zi_okR zm_X9_choice := ⟨by decide +kernel, zi_gwI 857 rfl rfl, zi_gwI 65 (by decide +kernel) rfl, by decide +kernel, by decide +kernel, (fun h => by cases h), fun _ => ⟨zi_gwI 855 (by decide +kernel) rfl, zi_gwI 856 (by decide +kernel) rfl, by decide +kernel⟩, Or.inr (Or.inl ⟨rfl, rfl⟩), by decide +kernel, by decide⟩
set_option maxRecDepth 100000 in
theorem zr_X9_boats : zi_okR zm_X9_boats := ⟨by decide +kernel, zi_gwI 865 rfl rfl, zi_gwI 65 (by decide +kernel) rfl, by decide +kernel, by decide +kernel, (fun h => by cases h), fun _ => ⟨zi_gwI 863 (by decide +kernel) rfl, zi_gwI 864 (by decide +kernel) rfl, by decide +kernel⟩, Or.inr (Or.inl ⟨rfl, rfl⟩), by decide +kernel, by decide⟩
set_option maxRecDepth 100000 in
theorem zr_X9_drip : zi_okR zm_X9_drip := ⟨by decide +kernel, zi_gwI 887 rfl rfl, zi_gwI 65 (by decide +kernel) rfl, by decide +kernel, by decide +kernel, (fun h => by cases h), fun _ => ⟨zi_gwI 885 (by decide +kernel) rfl, zi_gwI 886 (by decide +kernel) rfl, by decide +kernel⟩, Or.inr (Or.inl ⟨rfl, rfl⟩), by decide +kernel, by decide⟩
set_option maxRecDepth 100000 in
theorem zr_X9_feathers : zi_okR zm_X9_feathers := ⟨by decide +kernel, zi_gwI 895 rfl rfl, zi_gwI 65 (by decide +kernel) rfl, by decide +kernel, by decide +kernel, (fun h => by cases h), fun _ => ⟨zi_gwI 893 (by decide +kernel) rfl, zi_gwI 894 (by decide +kernel) rfl, by decide +kernel⟩, Or.inr (Or.inl ⟨rfl, rfl⟩), by decide +kernel, by decide⟩
set_option maxRecDepth 100000 in
theorem zr_X9_lots : zi_okR zm_X9_lots := ⟨by decide +kernel, zi_gwI 904 rfl rfl, zi_gwI 65 (by decide +kernel) rfl, by decide +kernel, by decide +kernel, (fun h => by cases h), fun _ => ⟨zi_gwI 902 (by decide +kernel) rfl, zi_gwI 903 (by decide +kernel) rfl, by decide +kernel⟩, Or.inr (Or.inl ⟨rfl, rfl⟩), by decide +kernel, by decide⟩
set_option maxRecDepth 100000 in
theorem zr_X9_asked : zi_okR zm_X9_asked := ⟨by decide +kernel, zi_gwI 913 rfl rfl, zi_gwI 65 (by decide +kernel) rfl, by decide +kernel, by decide +kernel, (fun h => by cases h), fun _ => ⟨zi_gwI 911 (by decide +kernel) rfl, zi_gwI 912 (by decide +kernel) rfl, by decide +kernel⟩, Or.inr (Or.inl ⟨rfl, rfl⟩), by decide +kernel, by decide⟩
set_option maxRecDepth 100000 in
theorem zr_X9_upper : zi_okR zm_X9_upper := ⟨by decide +kernel, zi_gwI 917 rfl rfl, zi_gwI 65 (by decide +kernel) rfl, by decide +kernel, by decide +kernel, (fun h => by cases h), fun _ => ⟨zi_gwI 915 (by decide +kernel) rfl, zi_gwI 916 (by decide +kernel) rfl, by decide +kernel⟩, Or.inr (Or.inr (Or.inl ⟨rfl, rfl⟩)), by decide +kernel, by decide⟩
set_option maxRecDepth 100000 in
theorem zr_X9_lower : zi_okR zm_X9_lower := ⟨by decide +kernel, zi_gwI 921 rfl rfl, zi_gwI 65 (by decide +kernel) rfl, by decide +kernel, by decide +kernel, (fun h => by cases h), fun _ => ⟨zi_gwI 919 (by decide +kernel) rfl, zi_gwI 920 (by decide +kernel) rfl, by decide +kernel⟩, Or.inr (Or.inr (Or.inl ⟨rfl, rfl⟩)), by decide +kernel, by decide⟩
set_option maxRecDepth 100000 in
theorem zr_X9_count : zi_okR zm_X9_count := ⟨by decide +kernel, zi_gwI 925 rfl rfl, zi_gwI 65 (by decide +kernel) rfl, by decide +kernel, by decide +kernel, (fun h => by cases h), fun _ => ⟨zi_gwI 923 (by decide +kernel) rfl, zi_gwI 924 (by decide +kernel) rfl, by decide +kernel⟩, Or.inr (Or.inl ⟨rfl, rfl⟩), by decide +kernel, by decide⟩
set_option maxRecDepth 100000 in
theorem zr_X9_finding : zi_okR zm_X9_finding := ⟨by decide +kernel, zi_gwI 945 rfl rfl, zi_gwI 65 (by decide +kernel) rfl, by decide +kernel, by decide +kernel, (fun h => by cases h), fun _ => ⟨zi_gwI 943 (by decide +kernel) rfl, zi_gwI 944 (by decide +kernel) rfl, by decide +kernel⟩, Or.inr (Or.inl ⟨rfl, rfl⟩), by decide +kernel, by decide⟩
set_option maxRecDepth 100000 in
theorem zr_X9_findings : zi_okR zm_X9_findings := ⟨by decide +kernel, zi_gwI 949 rfl rfl, zi_gwI 65 (by decide +kernel) rfl, by decide +kernel, by decide +kernel, (fun h => by cases h), fun _ => ⟨zi_gwI 947 (by decide +kernel) rfl, zi_gwI 948 (by decide +kernel) rfl, by decide +kernel⟩, Or.inr (Or.inl ⟨rfl, rfl⟩), by decide +kernel, by decide⟩
set_option maxRecDepth 100000 in
theorem zr_X9_digest : zi_okR zm_X9_digest := ⟨by decide +kernel, zi_gwI 953 rfl rfl, zi_gwI 65 (by decide +kernel) rfl, by decide +kernel, by decide +kernel, (fun h => by cases h), fun _ => ⟨zi_gwI 951 (by decide +kernel) rfl, zi_gwI 952 (by decide +kernel) rfl, by decide +kernel⟩, Or.inr (Or.inr (Or.inl ⟨rfl, rfl⟩)), by decide +kernel, by decide⟩
set_option maxRecDepth 100000 in
theorem zr_X9_rowAt : zi_okR zm_X9_rowAt := ⟨by decide +kernel, zi_gwI 392 rfl rfl, zi_gwI 65 (by decide +kernel) rfl, by decide +kernel, by decide +kernel, (fun h => by cases h), fun _ => ⟨zi_gwI 391 (by decide +kernel) rfl, zi_gwI 0 (by decide +kernel) rfl, by decide +kernel⟩, Or.inr (Or.inr (Or.inr (Or.inl ⟨rfl, _, rfl⟩))), by decide +kernel, by decide⟩
set_option maxRecDepth 100000 in
theorem zr_X9_textAt : zi_okR zm_X9_textAt := ⟨by decide +kernel, zi_gwI 476 rfl rfl, zi_gwI 65 (by decide +kernel) rfl, by decide +kernel, by decide +kernel, (fun h => by cases h), fun _ => ⟨zi_gwI 475 (by decide +kernel) rfl, zi_gwI 3 (by decide +kernel) rfl, by decide +kernel⟩, Or.inr (Or.inr (Or.inr (Or.inl ⟨rfl, _, rfl⟩))), by decide +kernel, by decide⟩
set_option maxRecDepth 100000 in
theorem zr_X9_madeAnew : zi_okR zm_X9_madeAnew := ⟨by decide +kernel, zi_gwI 396 rfl rfl, zi_gwI 65 (by decide +kernel) rfl, by decide +kernel, by decide +kernel, (fun h => by cases h), fun _ => ⟨zi_gwI 395 (by decide +kernel) rfl, zi_gwI 1 (by decide +kernel) rfl, by decide +kernel⟩, Or.inr (Or.inl ⟨rfl, rfl⟩), by decide +kernel, by decide⟩
set_option maxRecDepth 100000 in
theorem zr_X9_refuse : zi_okR zm_X9_refuse := ⟨by decide +kernel, zi_gwI 404 rfl rfl, zi_gwI 65 (by decide +kernel) rfl, by decide +kernel, by decide +kernel, (fun h => by cases h), fun _ => ⟨zi_gwI 403 (by decide +kernel) rfl, zi_gwI 2 (by decide +kernel) rfl, by decide +kernel⟩, Or.inr (Or.inl ⟨rfl, rfl⟩), by decide +kernel, by decide⟩
set_option maxRecDepth 100000 in
theorem zr_X9_tell : zi_okR zm_X9_tell := ⟨by decide +kernel, zi_gwI 752 rfl rfl, zi_gwI 65 (by decide +kernel) rfl, by decide +kernel, by decide +kernel, (fun h => by cases h), fun _ => ⟨zi_gwI 751 (by decide +kernel) rfl, zi_gwI 16 (by decide +kernel) rfl, by decide +kernel⟩, Or.inl ⟨rfl, rfl⟩, by decide +kernel, by decide⟩
set_option maxRecDepth 100000 in
theorem zr_X9_isBeat : zi_okR zm_X9_isBeat := ⟨by decide +kernel, zi_gwI 634 rfl rfl, zi_gwI 65 (by decide +kernel) rfl, by decide +kernel, by decide +kernel, fun _ => zi_gwI 633 (by decide +kernel) rfl, (fun h => by cases h), Or.inr (Or.inr (Or.inr (Or.inr ⟨rfl, rfl⟩))), by decide +kernel, by decide⟩
set_option maxRecDepth 100000 in
theorem zr_X9_isOfKind : zi_okR zm_X9_isOfKind := ⟨by decide +kernel, zi_gwI 597 rfl rfl, zi_gwI 65 (by decide +kernel) rfl, by decide +kernel, by decide +kernel, fun _ => zi_gwI 596 (by decide +kernel) rfl, (fun h => by cases h), Or.inr (Or.inr (Or.inr (Or.inr ⟨rfl, rfl⟩))), by decide +kernel, by decide⟩
set_option maxRecDepth 100000 in
theorem zr_X9_holdsBeatsAlone : zi_okR zm_X9_holdsBeatsAlone := ⟨by decide +kernel, zi_gwI 703 rfl rfl, zi_gwI 65 (by decide +kernel) rfl, by decide +kernel, by decide +kernel, fun _ => zi_gwI 702 (by decide +kernel) rfl, (fun h => by cases h), Or.inr (Or.inr (Or.inr (Or.inr ⟨rfl, rfl⟩))), by decide +kernel, by decide⟩
set_option maxRecDepth 100000 in
theorem zr_X9_perform : zi_okR zm_X9_perform := ⟨by decide +kernel, zi_gwI 638 rfl rfl, zi_gwI 65 (by decide +kernel) rfl, by decide +kernel, by decide +kernel, (fun h => by cases h), fun _ => ⟨zi_gwI 637 (by decide +kernel) rfl, zi_gwI 13 (by decide +kernel) rfl, by decide +kernel⟩, Or.inr (Or.inl ⟨rfl, rfl⟩), by decide +kernel, by decide⟩
set_option maxRecDepth 100000 in
theorem zr_X9_openBeats : zi_okR zm_X9_openBeats := ⟨by decide +kernel, zi_gwI 687 rfl rfl, zi_gwI 65 (by decide +kernel) rfl, by decide +kernel, by decide +kernel, (fun h => by cases h), fun _ => ⟨zi_gwI 686 (by decide +kernel) rfl, zi_gwI 14 (by decide +kernel) rfl, by decide +kernel⟩, Or.inr (Or.inl ⟨rfl, rfl⟩), by decide +kernel, by decide⟩
set_option maxRecDepth 100000 in
theorem zr_X9_bitAt : zi_okR zm_X9_bitAt := ⟨by decide +kernel, zi_gwI 909 rfl rfl, zi_gwI 65 (by decide +kernel) rfl, by decide +kernel, by decide +kernel, fun _ => zi_gwI 908 (by decide +kernel) rfl, (fun h => by cases h), Or.inr (Or.inl ⟨rfl, rfl⟩), by decide +kernel, by decide⟩
set_option maxRecDepth 100000 in
theorem zr_X9_setOut : zi_okR zm_X9_setOut := ⟨by decide +kernel, zi_gwI 711 rfl rfl, zi_gwI 65 (by decide +kernel) rfl, by decide +kernel, by decide +kernel, (fun h => by cases h), fun _ => ⟨zi_gwI 710 (by decide +kernel) rfl, zi_gwI 15 (by decide +kernel) rfl, by decide +kernel⟩, Or.inl ⟨rfl, rfl⟩, by decide +kernel, by decide⟩
set_option maxRecDepth 100000 in
theorem zr_X9_hasWay : zi_okR zm_X9_hasWay := ⟨by decide +kernel, zi_gwI 772 rfl rfl, zi_gwI 65 (by decide +kernel) rfl, by decide +kernel, by decide +kernel, (fun h => by cases h), fun _ => ⟨zi_gwI 771 (by decide +kernel) rfl, zi_gwI 17 (by decide +kernel) rfl, by decide +kernel⟩, Or.inr (Or.inr (Or.inr (Or.inr ⟨rfl, rfl⟩))), by decide +kernel, by decide⟩
set_option maxRecDepth 100000 in
theorem zr_X9_loadsOf : zi_okR zm_X9_loadsOf := ⟨by decide +kernel, zi_gwI 801 rfl rfl, zi_gwI 65 (by decide +kernel) rfl, by decide +kernel, by decide +kernel, (fun h => by cases h), fun _ => ⟨zi_gwI 800 (by decide +kernel) rfl, zi_gwI 18 (by decide +kernel) rfl, by decide +kernel⟩, Or.inr (Or.inl ⟨rfl, rfl⟩), by decide +kernel, by decide⟩
set_option maxRecDepth 100000 in
theorem zr_X9_shareOf : zi_okR zm_X9_shareOf := ⟨by decide +kernel, zi_gwI 808 rfl rfl, zi_gwI 65 (by decide +kernel) rfl, by decide +kernel, by decide +kernel, fun _ => zi_gwI 807 (by decide +kernel) rfl, (fun h => by cases h), Or.inr (Or.inl ⟨rfl, rfl⟩), by decide +kernel, by decide⟩
set_option maxRecDepth 100000 in
theorem zr_X9_carriersOf : zi_okR zm_X9_carriersOf := ⟨by decide +kernel, zi_gwI 805 rfl rfl, zi_gwI 65 (by decide +kernel) rfl, by decide +kernel, by decide +kernel, (fun h => by cases h), fun _ => ⟨zi_gwI 804 (by decide +kernel) rfl, zi_gwI 19 (by decide +kernel) rfl, by decide +kernel⟩, Or.inr (Or.inl ⟨rfl, rfl⟩), by decide +kernel, by decide⟩
set_option maxRecDepth 100000 in
theorem zr_X9_writeShares : zi_okR zm_X9_writeShares := ⟨by decide +kernel, zi_gwI 812 rfl rfl, zi_gwI 65 (by decide +kernel) rfl, by decide +kernel, by decide +kernel, (fun h => by cases h), fun _ => ⟨zi_gwI 811 (by decide +kernel) rfl, zi_gwI 20 (by decide +kernel) rfl, by decide +kernel⟩, Or.inl ⟨rfl, rfl⟩, by decide +kernel, by decide⟩
set_option maxRecDepth 100000 in
theorem zr_X9_hasBoat : zi_okR zm_X9_hasBoat := ⟨by decide +kernel, zi_gwI 879 rfl rfl, zi_gwI 65 (by decide +kernel) rfl, by decide +kernel, by decide +kernel, (fun h => by cases h), fun _ => ⟨zi_gwI 878 (by decide +kernel) rfl, zi_gwI 26 (by decide +kernel) rfl, by decide +kernel⟩, Or.inr (Or.inr (Or.inr (Or.inr ⟨rfl, rfl⟩))), by decide +kernel, by decide⟩
set_option maxRecDepth 100000 in
theorem zr_X9_farthestFrom : zi_okR zm_X9_farthestFrom := ⟨by decide +kernel, zi_gwI 875 rfl rfl, zi_gwI 65 (by decide +kernel) rfl, by decide +kernel, by decide +kernel, (fun h => by cases h), fun _ => ⟨zi_gwI 874 (by decide +kernel) rfl, zi_gwI 25 (by decide +kernel) rfl, by decide +kernel⟩, Or.inr (Or.inl ⟨rfl, rfl⟩), by decide +kernel, by decide⟩
set_option maxRecDepth 100000 in
theorem zr_X9_tally : zi_okR zm_X9_tally := ⟨by decide +kernel, zi_gwI 929 rfl rfl, zi_gwI 65 (by decide +kernel) rfl, by decide +kernel, by decide +kernel, (fun h => by cases h), fun _ => ⟨zi_gwI 928 (by decide +kernel) rfl, zi_gwI 27 (by decide +kernel) rfl, by decide +kernel⟩, Or.inr (Or.inl ⟨rfl, rfl⟩), by decide +kernel, by decide⟩
set_option maxRecDepth 100000 in
theorem zr_X9_thereOf : zi_okR zm_X9_thereOf := ⟨by decide +kernel, zi_gwI 937 rfl rfl, zi_gwI 65 (by decide +kernel) rfl, by decide +kernel, by decide +kernel, fun _ => zi_gwI 936 (by decide +kernel) rfl, (fun h => by cases h), Or.inr (Or.inl ⟨rfl, rfl⟩), by decide +kernel, by decide⟩
set_option maxRecDepth 100000 in
theorem zr_X9_keptSkies : zi_okR zm_X9_keptSkies := ⟨by decide +kernel, zi_gwI 941 rfl rfl, zi_gwI 65 (by decide +kernel) rfl, by decide +kernel, by decide +kernel, (fun h => by cases h), fun _ => ⟨zi_gwI 940 (by decide +kernel) rfl, zi_gwI 28 (by decide +kernel) rfl, by decide +kernel⟩, Or.inr (Or.inl ⟨rfl, rfl⟩), by decide +kernel, by decide⟩
set_option maxRecDepth 100000 in
theorem zr_X10_in : zi_okR zm_X10_in := ⟨by decide +kernel, zi_gwI 1098 rfl rfl, zi_gwI 76 (by decide +kernel) rfl, by decide +kernel, by decide +kernel, fun _ => zi_gwI 1097 (by decide +kernel) rfl, (fun h => by cases h), Or.inr (Or.inr (Or.inr (Or.inr ⟨rfl, rfl⟩))), by decide +kernel, by decide⟩
set_option maxRecDepth 100000 in
theorem zr_X10_more : zi_okR zm_X10_more := ⟨by decide +kernel, zi_gwI 1210 rfl rfl, zi_gwI 76 (by decide +kernel) rfl, by decide +kernel, by decide +kernel, fun _ => zi_gwI 1209 (by decide +kernel) rfl, (fun h => by cases h), Or.inr (Or.inl ⟨rfl, rfl⟩), by decide +kernel, by decide⟩
set_option maxRecDepth 100000 in
theorem zr_X10_finds : zi_okR zm_X10_finds := ⟨by decide +kernel, zi_gwI 1102 rfl rfl, zi_gwI 76 (by decide +kernel) rfl, by decide +kernel, by decide +kernel, (fun h => by cases h), fun _ => ⟨zi_gwI 1101 (by decide +kernel) rfl, zi_gwI 29 (by decide +kernel) rfl, by decide +kernel⟩, Or.inr (Or.inl ⟨rfl, rfl⟩), by decide +kernel, by decide⟩
set_option maxRecDepth 100000 in
theorem zr_X10_tells : zi_okR zm_X10_tells := ⟨by decide +kernel, zi_gwI 1110 rfl rfl, zi_gwI 76 (by decide +kernel) rfl, by decide +kernel, by decide +kernel, (fun h => by cases h), fun _ => ⟨zi_gwI 1109 (by decide +kernel) rfl, zi_gwI 30 (by decide +kernel) rfl, by decide +kernel⟩, Or.inr (Or.inl ⟨rfl, rfl⟩), by decide +kernel, by decide⟩
set_option maxRecDepth 100000 in
theorem zr_X10_isRow : zi_okR zm_X10_isRow := ⟨by decide +kernel, zi_gwI 1094 rfl rfl, zi_gwI 76 (by decide +kernel) rfl, by decide +kernel, by decide +kernel, fun _ => zi_gwI 1093 (by decide +kernel) rfl, (fun h => by cases h), Or.inr (Or.inr (Or.inr (Or.inr ⟨rfl, rfl⟩))), by decide +kernel, by decide⟩
set_option maxRecDepth 100000 in
theorem zr_X10_isText : zi_okR zm_X10_isText := ⟨by decide +kernel, zi_gwI 1133 rfl rfl, zi_gwI 76 (by decide +kernel) rfl, by decide +kernel, by decide +kernel, fun _ => zi_gwI 1132 (by decide +kernel) rfl, (fun h => by cases h), Or.inr (Or.inr (Or.inr (Or.inr ⟨rfl, rfl⟩))), by decide +kernel, by decide⟩
set_option maxRecDepth 100000 in
theorem zr_X10_isFlyer : zi_okR zm_X10_isFlyer := ⟨by decide +kernel, zi_gwI 1190 rfl rfl, zi_gwI 76 (by decide +kernel) rfl, by decide +kernel, by decide +kernel, (fun h => by cases h), fun _ => ⟨zi_gwI 1189 (by decide +kernel) rfl, zi_gwI 38 (by decide +kernel) rfl, by decide +kernel⟩, Or.inr (Or.inr (Or.inr (Or.inr ⟨rfl, rfl⟩))), by decide +kernel, by decide⟩
set_option maxRecDepth 100000 in
theorem zr_X10_row : zi_okR zm_X10_row := ⟨by decide +kernel, zi_gwI 1091 rfl rfl, zi_gwI 76 (by decide +kernel) rfl, by decide +kernel, by decide +kernel, (fun h => by cases h), fun _ => ⟨zi_gwI 1089 (by decide +kernel) rfl, zi_gwI 1090 (by decide +kernel) rfl, by decide +kernel⟩, Or.inr (Or.inl ⟨rfl, rfl⟩), by decide +kernel, by decide⟩
set_option maxRecDepth 100000 in
theorem zr_X10_lay : zi_okR zm_X10_lay := ⟨by decide +kernel, zi_gwI 1106 rfl rfl, zi_gwI 76 (by decide +kernel) rfl, by decide +kernel, by decide +kernel, (fun h => by cases h), fun _ => ⟨zi_gwI 1104 (by decide +kernel) rfl, zi_gwI 1105 (by decide +kernel) rfl, by decide +kernel⟩, Or.inr (Or.inl ⟨rfl, rfl⟩), by decide +kernel, by decide⟩
set_option maxRecDepth 100000 in
theorem zr_X10_at : zi_okR zm_X10_at := ⟨by decide +kernel, zi_gwI 1114 rfl rfl, zi_gwI 76 (by decide +kernel) rfl, by decide +kernel, by decide +kernel, (fun h => by cases h), fun _ => ⟨zi_gwI 1112 (by decide +kernel) rfl, zi_gwI 1113 (by decide +kernel) rfl, by decide +kernel⟩, Or.inr (Or.inl ⟨rfl, rfl⟩), by decide +kernel, by decide⟩
set_option maxRecDepth 100000 in
theorem zr_X10_tear : zi_okR zm_X10_tear := ⟨by decide +kernel, zi_gwI 1118 rfl rfl, zi_gwI 76 (by decide +kernel) rfl, by decide +kernel, by decide +kernel, (fun h => by cases h), fun _ => ⟨zi_gwI 1116 (by decide +kernel) rfl, zi_gwI 1117 (by decide +kernel) rfl, by decide +kernel⟩, Or.inr (Or.inl ⟨rfl, rfl⟩), by decide +kernel, by decide⟩
set_option maxRecDepth 100000 in
theorem zr_X10_copy : zi_okR zm_X10_copy := ⟨by decide +kernel, zi_gwI 1122 rfl rfl, zi_gwI 76 (by decide +kernel) rfl, by decide +kernel, by decide +kernel, (fun h => by cases h), fun _ => ⟨zi_gwI 1120 (by decide +kernel) rfl, zi_gwI 1121 (by decide +kernel) rfl, by decide +kernel⟩, Or.inr (Or.inl ⟨rfl, rfl⟩), by decide +kernel, by decide⟩
set_option maxRecDepth 100000 in
theorem zr_X10_mean : zi_okR zm_X10_mean := ⟨by decide +kernel, zi_gwI 1126 rfl rfl, zi_gwI 76 (by decide +kernel) rfl, by decide +kernel, by decide +kernel, (fun h => by cases h), fun _ => ⟨zi_gwI 1124 (by decide +kernel) rfl, zi_gwI 1125 (by decide +kernel) rfl, by decide +kernel⟩, Or.inr (Or.inl ⟨rfl, rfl⟩), by decide +kernel, by decide⟩
set_option maxRecDepth 100000 in
theorem zr_X10_text : zi_okR zm_X10_text := ⟨by decide +kernel, zi_gwI 1130 rfl rfl, zi_gwI 76 (by decide +kernel) rfl, by decide +kernel, by decide +kernel, (fun h => by cases h), fun _ => ⟨zi_gwI 1128 (by decide +kernel) rfl, zi_gwI 1129 (by decide +kernel) rfl, by decide +kernel⟩, Or.inr (Or.inl ⟨rfl, rfl⟩), by decide +kernel, by decide⟩
set_option maxRecDepth 100000 in
theorem zr_X10_put : zi_okR zm_X10_put := ⟨by decide +kernel, zi_gwI 1138 rfl rfl, zi_gwI 76 (by decide +kernel) rfl, by decide +kernel, by decide +kernel, (fun h => by cases h), fun _ => ⟨zi_gwI 1136 (by decide +kernel) rfl, zi_gwI 1137 (by decide +kernel) rfl, by decide +kernel⟩, Or.inr (Or.inl ⟨rfl, rfl⟩), by decide +kernel, by decide⟩
set_option maxRecDepth 100000 in
theorem zr_X10_sign : zi_okR zm_X10_sign := ⟨by decide +kernel, zi_gwI 1158 rfl rfl, zi_gwI 76 (by decide +kernel) rfl, by decide +kernel, by decide +kernel, (fun h => by cases h), fun _ => ⟨zi_gwI 1157 (by decide +kernel) rfl, zi_gwI 34 (by decide +kernel) rfl, by decide +kernel⟩, Or.inr (Or.inl ⟨rfl, rfl⟩), by decide +kernel, by decide⟩
set_option maxRecDepth 100000 in
theorem zr_X10_isRest : zi_okR zm_X10_isRest := ⟨by decide +kernel, zi_gwI 1171 rfl rfl, zi_gwI 76 (by decide +kernel) rfl, by decide +kernel, by decide +kernel, (fun h => by cases h), fun _ => ⟨zi_gwI 1170 (by decide +kernel) rfl, zi_gwI 36 (by decide +kernel) rfl, by decide +kernel⟩, Or.inr (Or.inr (Or.inr (Or.inr ⟨rfl, rfl⟩))), by decide +kernel, by decide⟩
set_option maxRecDepth 100000 in
theorem zr_X10_airOf : zi_okR zm_X10_airOf := ⟨by decide +kernel, zi_gwI 1161 rfl rfl, zi_gwI 76 (by decide +kernel) rfl, by decide +kernel, by decide +kernel, fun _ => zi_gwI 1160 (by decide +kernel) rfl, (fun h => by cases h), Or.inr (Or.inl ⟨rfl, rfl⟩), by decide +kernel, by decide⟩
set_option maxRecDepth 100000 in
theorem zr_X10_kindOf : zi_okR zm_X10_kindOf := ⟨by decide +kernel, zi_gwI 1178 rfl rfl, zi_gwI 76 (by decide +kernel) rfl, by decide +kernel, by decide +kernel, fun _ => zi_gwI 1177 (by decide +kernel) rfl, (fun h => by cases h), Or.inr (Or.inl ⟨rfl, rfl⟩), by decide +kernel, by decide⟩
set_option maxRecDepth 100000 in
theorem zr_X10_isFigure : zi_okR zm_X10_isFigure := ⟨by decide +kernel, zi_gwI 1165 rfl rfl, zi_gwI 76 (by decide +kernel) rfl, by decide +kernel, by decide +kernel, (fun h => by cases h), fun _ => ⟨zi_gwI 1164 (by decide +kernel) rfl, zi_gwI 35 (by decide +kernel) rfl, by decide +kernel⟩, Or.inr (Or.inr (Or.inr (Or.inr ⟨rfl, rfl⟩))), by decide +kernel, by decide⟩
set_option maxRecDepth 100000 in
theorem zr_X10_readsAir : zi_okR zm_X10_readsAir := ⟨by decide +kernel, zi_gwI 1154 rfl rfl, zi_gwI 76 (by decide +kernel) rfl, by decide +kernel, by decide +kernel, (fun h => by cases h), fun _ => ⟨zi_gwI 1153 (by decide +kernel) rfl, zi_gwI 33 (by decide +kernel) rfl, by decide +kernel⟩, Or.inr (Or.inr (Or.inr (Or.inr ⟨rfl, rfl⟩))), by decide +kernel, by decide⟩
set_option maxRecDepth 100000 in
theorem zr_X10_readsFlyer : zi_okR zm_X10_readsFlyer := ⟨by decide +kernel, zi_gwI 1175 rfl rfl, zi_gwI 76 (by decide +kernel) rfl, by decide +kernel, by decide +kernel, (fun h => by cases h), fun _ => ⟨zi_gwI 1174 (by decide +kernel) rfl, zi_gwI 37 (by decide +kernel) rfl, by decide +kernel⟩, Or.inr (Or.inr (Or.inr (Or.inr ⟨rfl, rfl⟩))), by decide +kernel, by decide⟩
set_option maxRecDepth 100000 in
theorem zr_X10_reads : zi_okR zm_X10_reads := ⟨by decide +kernel, zi_gwI 1150 rfl rfl, zi_gwI 76 (by decide +kernel) rfl, by decide +kernel, by decide +kernel, (fun h => by cases h), fun _ => ⟨zi_gwI 1149 (by decide +kernel) rfl, zi_gwI 32 (by decide +kernel) rfl, by decide +kernel⟩, Or.inr (Or.inr (Or.inr (Or.inr ⟨rfl, rfl⟩))), by decide +kernel, by decide⟩
set_option maxRecDepth 100000 in
theorem zr_X10_faultOf : zi_okR zm_X10_faultOf := ⟨by decide +kernel, zi_gwI 1146 rfl rfl, zi_gwI 76 (by decide +kernel) rfl, by decide +kernel, by decide +kernel, (fun h => by cases h), fun _ => ⟨zi_gwI 1145 (by decide +kernel) rfl, zi_gwI 31 (by decide +kernel) rfl, by decide +kernel⟩, Or.inr (Or.inl ⟨rfl, rfl⟩), by decide +kernel, by decide⟩
set_option maxRecDepth 100000 in
theorem zr_X10_fault : zi_okR zm_X10_fault := ⟨by decide +kernel, zi_gwI 1142 rfl rfl, zi_gwI 76 (by decide +kernel) rfl, by decide +kernel, by decide +kernel, (fun h => by cases h), fun _ => ⟨zi_gwI 1140 (by decide +kernel) rfl, zi_gwI 1141 (by decide +kernel) rfl, by decide +kernel⟩, Or.inr (Or.inl ⟨rfl, rfl⟩), by decide +kernel, by decide⟩
set_option maxRecDepth 100000 in
theorem zr_X10_sky : zi_okR zm_X10_sky := ⟨by decide +kernel, zi_gwI 1182 rfl rfl, zi_gwI 76 (by decide +kernel) rfl, by decide +kernel, by decide +kernel, (fun h => by cases h), fun _ => ⟨zi_gwI 1180 (by decide +kernel) rfl, zi_gwI 1181 (by decide +kernel) rfl, by decide +kernel⟩, Or.inr (Or.inl ⟨rfl, rfl⟩), by decide +kernel, by decide⟩
set_option maxRecDepth 100000 in
theorem zr_X10_flyer : zi_okR zm_X10_flyer := ⟨by decide +kernel, zi_gwI 1186 rfl rfl, zi_gwI 76 (by decide +kernel) rfl, by decide +kernel, by decide +kernel, (fun h => by cases h), fun _ => ⟨zi_gwI 1184 (by decide +kernel) rfl, zi_gwI 1185 (by decide +kernel) rfl, by decide +kernel⟩, Or.inr (Or.inl ⟨rfl, rfl⟩), by decide +kernel, by decide⟩
set_option maxRecDepth 100000 in
theorem zr_X10_takes : zi_okR zm_X10_takes := ⟨by decide +kernel, zi_gwI 1199 rfl rfl, zi_gwI 76 (by decide +kernel) rfl, by decide +kernel, by decide +kernel, (fun h => by cases h), fun _ => ⟨zi_gwI 1198 (by decide +kernel) rfl, zi_gwI 39 (by decide +kernel) rfl, by decide +kernel⟩, Or.inl ⟨rfl, rfl⟩, by decide +kernel, by decide⟩
set_option maxRecDepth 100000 in
theorem zr_X10_airAt : zi_okR zm_X10_airAt := ⟨by decide +kernel, zi_gwI 1218 rfl rfl, zi_gwI 76 (by decide +kernel) rfl, by decide +kernel, by decide +kernel, (fun h => by cases h), fun _ => ⟨zi_gwI 1217 (by decide +kernel) rfl, zi_gwI 42 (by decide +kernel) rfl, by decide +kernel⟩, Or.inr (Or.inl ⟨rfl, rfl⟩), by decide +kernel, by decide⟩
set_option maxRecDepth 100000 in
theorem zr_X10_last : zi_okR zm_X10_last := ⟨by decide +kernel, zi_gwI 1203 rfl rfl, zi_gwI 76 (by decide +kernel) rfl, by decide +kernel, by decide +kernel, (fun h => by cases h), fun _ => ⟨zi_gwI 1202 (by decide +kernel) rfl, zi_gwI 40 (by decide +kernel) rfl, by decide +kernel⟩, Or.inr (Or.inl ⟨rfl, rfl⟩), by decide +kernel, by decide⟩
set_option maxRecDepth 100000 in
theorem zr_X10_isOver : zi_okR zm_X10_isOver := ⟨by decide +kernel, zi_gwI 1240 rfl rfl, zi_gwI 76 (by decide +kernel) rfl, by decide +kernel, by decide +kernel, (fun h => by cases h), fun _ => ⟨zi_gwI 1239 (by decide +kernel) rfl, zi_gwI 44 (by decide +kernel) rfl, by decide +kernel⟩, Or.inr (Or.inr (Or.inr (Or.inr ⟨rfl, rfl⟩))), by decide +kernel, by decide⟩
set_option maxRecDepth 100000 in
theorem zr_X10_columnBehind : zi_okR zm_X10_columnBehind := ⟨by decide +kernel, zi_gwI 1244 rfl rfl, zi_gwI 76 (by decide +kernel) rfl, by decide +kernel, by decide +kernel, (fun h => by cases h), fun _ => ⟨zi_gwI 1243 (by decide +kernel) rfl, zi_gwI 45 (by decide +kernel) rfl, by decide +kernel⟩, Or.inr (Or.inl ⟨rfl, rfl⟩), by decide +kernel, by decide⟩
set_option maxRecDepth 100000 in
theorem zr_X10_canBeat : zi_okR zm_X10_canBeat := ⟨by decide +kernel, zi_gwI 1236 rfl rfl, zi_gwI 76 (by decide +kernel) rfl, by decide +kernel, by decide +kernel, (fun h => by cases h), fun _ => ⟨zi_gwI 1235 (by decide +kernel) rfl, zi_gwI 43 (by decide +kernel) rfl, by decide +kernel⟩, Or.inr (Or.inr (Or.inr (Or.inr ⟨rfl, rfl⟩))), by decide +kernel, by decide⟩
set_option maxRecDepth 100000 in
theorem zr_X10_costs : zi_okR zm_X10_costs := ⟨by decide +kernel, zi_gwI 1207 rfl rfl, zi_gwI 76 (by decide +kernel) rfl, by decide +kernel, by decide +kernel, (fun h => by cases h), fun _ => ⟨zi_gwI 1206 (by decide +kernel) rfl, zi_gwI 41 (by decide +kernel) rfl, by decide +kernel⟩, Or.inr (Or.inl ⟨rfl, rfl⟩), by decide +kernel, by decide⟩
set_option maxRecDepth 100000 in
theorem zr_X10_moves : zi_okR zm_X10_moves := ⟨by decide +kernel, zi_gwI 1256 rfl rfl, zi_gwI 76 (by decide +kernel) rfl, by decide +kernel, by decide +kernel, (fun h => by cases h), fun _ => ⟨zi_gwI 1255 (by decide +kernel) rfl, zi_gwI 48 (by decide +kernel) rfl, by decide +kernel⟩, Or.inl ⟨rfl, rfl⟩, by decide +kernel, by decide⟩
set_option maxRecDepth 100000 in
theorem zr_X10_settles : zi_okR zm_X10_settles := ⟨by decide +kernel, zi_gwI 1260 rfl rfl, zi_gwI 76 (by decide +kernel) rfl, by decide +kernel, by decide +kernel, (fun h => by cases h), fun _ => ⟨zi_gwI 1259 (by decide +kernel) rfl, zi_gwI 49 (by decide +kernel) rfl, by decide +kernel⟩, Or.inl ⟨rfl, rfl⟩, by decide +kernel, by decide⟩
set_option maxRecDepth 100000 in
theorem zr_X10_beats : zi_okR zm_X10_beats := ⟨by decide +kernel, zi_gwI 1252 rfl rfl, zi_gwI 76 (by decide +kernel) rfl, by decide +kernel, by decide +kernel, (fun h => by cases h), fun _ => ⟨zi_gwI 1251 (by decide +kernel) rfl, zi_gwI 47 (by decide +kernel) rfl, by decide +kernel⟩, Or.inl ⟨rfl, rfl⟩, by decide +kernel, by decide⟩
set_option maxRecDepth 100000 in
theorem zr_X10_mark : zi_okR zm_X10_mark := ⟨by decide +kernel, zi_gwI 1195 rfl rfl, zi_gwI 76 (by decide +kernel) rfl, by decide +kernel, by decide +kernel, (fun h => by cases h), fun _ => ⟨zi_gwI 1193 (by decide +kernel) rfl, zi_gwI 1194 (by decide +kernel) rfl, by decide +kernel⟩, Or.inr (Or.inl ⟨rfl, rfl⟩), by decide +kernel, by decide⟩
set_option maxRecDepth 100000 in
theorem zr_X10_air : zi_okR zm_X10_air := ⟨by decide +kernel, zi_gwI 1214 rfl rfl, zi_gwI 76 (by decide +kernel) rfl, by decide +kernel, by decide +kernel, (fun h => by cases h), fun _ => ⟨zi_gwI 1212 (by decide +kernel) rfl, zi_gwI 1213 (by decide +kernel) rfl, by decide +kernel⟩, Or.inr (Or.inl ⟨rfl, rfl⟩), by decide +kernel, by decide⟩
set_option maxRecDepth 100000 in
theorem zr_X10_sun : zi_okR zm_X10_sun := ⟨by decide +kernel, zi_gwI 1222 rfl rfl, zi_gwI 76 (by decide +kernel) rfl, by decide +kernel, by decide +kernel, (fun h => by cases h), fun _ => ⟨zi_gwI 1220 (by decide +kernel) rfl, zi_gwI 1221 (by decide +kernel) rfl, by decide +kernel⟩, Or.inr (Or.inl ⟨rfl, rfl⟩), by decide +kernel, by decide⟩
set_option maxRecDepth 100000 in
theorem zr_X10_letters : zi_okR zm_X10_letters := ⟨by decide +kernel, zi_gwI 1227 rfl rfl, zi_gwI 76 (by decide +kernel) rfl, by decide +kernel, by decide +kernel, (fun h => by cases h), fun _ => ⟨zi_gwI 1225 (by decide +kernel) rfl, zi_gwI 1226 (by decide +kernel) rfl, by decide +kernel⟩, Or.inr (Or.inl ⟨rfl, rfl⟩), by decide +kernel, by decide⟩
set_option maxRecDepth 100000 in
theorem zr_X10_keeps : zi_okR zm_X10_keeps := ⟨by decide +kernel, zi_gwI 1264 rfl rfl, zi_gwI 76 (by decide +kernel) rfl, by decide +kernel, by decide +kernel, (fun h => by cases h), fun _ => ⟨zi_gwI 1263 (by decide +kernel) rfl, zi_gwI 50 (by decide +kernel) rfl, by decide +kernel⟩, Or.inl ⟨rfl, rfl⟩, by decide +kernel, by decide⟩
set_option maxRecDepth 100000 in
theorem zr_X10_does : zi_okR zm_X10_does := ⟨by decide +kernel, zi_gwI 1248 rfl rfl, zi_gwI 76 (by decide +kernel) rfl, by decide +kernel, by decide +kernel, (fun h => by cases h), fun _ => ⟨zi_gwI 1247 (by decide +kernel) rfl, zi_gwI 46 (by decide +kernel) rfl, by decide +kernel⟩, Or.inl ⟨rfl, rfl⟩, by decide +kernel, by decide⟩
set_option maxRecDepth 100000 in
theorem zr_X10_beat : zi_okR zm_X10_beat := ⟨by decide +kernel, zi_gwI 1231 rfl rfl, zi_gwI 76 (by decide +kernel) rfl, by decide +kernel, by decide +kernel, (fun h => by cases h), fun _ => ⟨zi_gwI 1229 (by decide +kernel) rfl, zi_gwI 1230 (by decide +kernel) rfl, by decide +kernel⟩, Or.inr (Or.inl ⟨rfl, rfl⟩), by decide +kernel, by decide⟩
set_option maxRecDepth 100000 in
theorem zr_X10_undo : zi_okR zm_X10_undo := ⟨by decide +kernel, zi_gwI 1268 rfl rfl, zi_gwI 76 (by decide +kernel) rfl, by decide +kernel, by decide +kernel, (fun h => by cases h), fun _ => ⟨zi_gwI 1266 (by decide +kernel) rfl, zi_gwI 1267 (by decide +kernel) rfl, by decide +kernel⟩, Or.inr (Or.inl ⟨rfl, rfl⟩), by decide +kernel, by decide⟩
set_option maxRecDepth 100000 in
theorem zr_X10_over : zi_okR zm_X10_over := ⟨by decide +kernel, zi_gwI 1272 rfl rfl, zi_gwI 76 (by decide +kernel) rfl, by decide +kernel, by decide +kernel, (fun h => by cases h), fun _ => ⟨zi_gwI 1270 (by decide +kernel) rfl, zi_gwI 1271 (by decide +kernel) rfl, by decide +kernel⟩, Or.inr (Or.inl ⟨rfl, rfl⟩), by decide +kernel, by decide⟩
set_option maxRecDepth 100000 in
theorem zr_X10_can : zi_okR zm_X10_can := ⟨by decide +kernel, zi_gwI 1276 rfl rfl, zi_gwI 76 (by decide +kernel) rfl, by decide +kernel, by decide +kernel, (fun h => by cases h), fun _ => ⟨zi_gwI 1274 (by decide +kernel) rfl, zi_gwI 1275 (by decide +kernel) rfl, by decide +kernel⟩, Or.inr (Or.inl ⟨rfl, rfl⟩), by decide +kernel, by decide⟩
set_option maxRecDepth 100000 in
theorem zr_X10_keep : zi_okR zm_X10_keep := ⟨by decide +kernel, zi_gwI 1280 rfl rfl, zi_gwI 76 (by decide +kernel) rfl, by decide +kernel, by decide +kernel, (fun h => by cases h), fun _ => ⟨zi_gwI 1278 (by decide +kernel) rfl, zi_gwI 1279 (by decide +kernel) rfl, by decide +kernel⟩, Or.inr (Or.inl ⟨rfl, rfl⟩), by decide +kernel, by decide⟩
set_option maxRecDepth 100000 in
theorem zr_X10_on : zi_okR zm_X10_on := ⟨by decide +kernel, zi_gwI 1284 rfl rfl, zi_gwI 76 (by decide +kernel) rfl, by decide +kernel, by decide +kernel, (fun h => by cases h), fun _ => ⟨zi_gwI 1282 (by decide +kernel) rfl, zi_gwI 1283 (by decide +kernel) rfl, by decide +kernel⟩, Or.inr (Or.inl ⟨rfl, rfl⟩), by decide +kernel, by decide⟩
set_option maxRecDepth 100000 in
theorem zr_X10_hasFallen : zi_okR zm_X10_hasFallen := ⟨by decide +kernel, zi_gwI 1292 rfl rfl, zi_gwI 76 (by decide +kernel) rfl, by decide +kernel, by decide +kernel, (fun h => by cases h), fun _ => ⟨zi_gwI 1291 (by decide +kernel) rfl, zi_gwI 51 (by decide +kernel) rfl, by decide +kernel⟩, Or.inr (Or.inr (Or.inr (Or.inr ⟨rfl, rfl⟩))), by decide +kernel, by decide⟩
set_option maxRecDepth 100000 in
theorem zr_X10_areBeats : zi_okR zm_X10_areBeats := ⟨by decide +kernel, zi_gwI 1296 rfl rfl, zi_gwI 76 (by decide +kernel) rfl, by decide +kernel, by decide +kernel, (fun h => by cases h), fun _ => ⟨zi_gwI 1295 (by decide +kernel) rfl, zi_gwI 52 (by decide +kernel) rfl, by decide +kernel⟩, Or.inr (Or.inr (Or.inr (Or.inr ⟨rfl, rfl⟩))), by decide +kernel, by decide⟩
set_option maxRecDepth 100000 in
theorem zr_X10_judge : zi_okR zm_X10_judge := ⟨by decide +kernel, zi_gwI 1288 rfl rfl, zi_gwI 76 (by decide +kernel) rfl, by decide +kernel, by decide +kernel, (fun h => by cases h), fun _ => ⟨zi_gwI 1286 (by decide +kernel) rfl, zi_gwI 1287 (by decide +kernel) rfl, by decide +kernel⟩, Or.inr (Or.inl ⟨rfl, rfl⟩), by decide +kernel, by decide⟩
set_option maxRecDepth 100000 in
theorem zr_X10_goes : zi_okR zm_X10_goes := ⟨by decide +kernel, zi_gwI 1304 rfl rfl, zi_gwI 76 (by decide +kernel) rfl, by decide +kernel, by decide +kernel, (fun h => by cases h), fun _ => ⟨zi_gwI 1303 (by decide +kernel) rfl, zi_gwI 53 (by decide +kernel) rfl, by decide +kernel⟩, Or.inr (Or.inr (Or.inr (Or.inr ⟨rfl, rfl⟩))), by decide +kernel, by decide⟩
set_option maxRecDepth 100000 in
theorem zr_X10_lays : zi_okR zm_X10_lays := ⟨by decide +kernel, zi_gwI 1308 rfl rfl, zi_gwI 76 (by decide +kernel) rfl, by decide +kernel, by decide +kernel, (fun h => by cases h), fun _ => ⟨zi_gwI 1307 (by decide +kernel) rfl, zi_gwI 54 (by decide +kernel) rfl, by decide +kernel⟩, Or.inl ⟨rfl, rfl⟩, by decide +kernel, by decide⟩
set_option maxRecDepth 100000 in
theorem zr_X10_soonest : zi_okR zm_X10_soonest := ⟨by decide +kernel, zi_gwI 1300 rfl rfl, zi_gwI 76 (by decide +kernel) rfl, by decide +kernel, by decide +kernel, (fun h => by cases h), fun _ => ⟨zi_gwI 1298 (by decide +kernel) rfl, zi_gwI 1299 (by decide +kernel) rfl, by decide +kernel⟩, Or.inr (Or.inl ⟨rfl, rfl⟩), by decide +kernel, by decide⟩
set_option maxRecDepth 100000 in
theorem zr_X10_lightest : zi_okR zm_X10_lightest := ⟨by decide +kernel, zi_gwI 1312 rfl rfl, zi_gwI 76 (by decide +kernel) rfl, by decide +kernel, by decide +kernel, (fun h => by cases h), fun _ => ⟨zi_gwI 1310 (by decide +kernel) rfl, zi_gwI 1311 (by decide +kernel) rfl, by decide +kernel⟩, Or.inr (Or.inl ⟨rfl, rfl⟩), by decide +kernel, by decide⟩
set_option maxRecDepth 100000 in
theorem zr_X10_ways : zi_okR zm_X10_ways := ⟨by decide +kernel, zi_gwI 1316 rfl rfl, zi_gwI 76 (by decide +kernel) rfl, by decide +kernel, by decide +kernel, (fun h => by cases h), fun _ => ⟨zi_gwI 1314 (by decide +kernel) rfl, zi_gwI 1315 (by decide +kernel) rfl, by decide +kernel⟩, Or.inr (Or.inl ⟨rfl, rfl⟩), by decide +kernel, by decide⟩
set_option maxRecDepth 100000 in
theorem zr_X10_heights : zi_okR zm_X10_heights := ⟨by decide +kernel, zi_gwI 1320 rfl rfl, zi_gwI 76 (by decide +kernel) rfl, by decide +kernel, by decide +kernel, (fun h => by cases h), fun _ => ⟨zi_gwI 1318 (by decide +kernel) rfl, zi_gwI 1319 (by decide +kernel) rfl, by decide +kernel⟩, Or.inr (Or.inl ⟨rfl, rfl⟩), by decide +kernel, by decide⟩
set_option maxRecDepth 100000 in
theorem zr_X10_nth : zi_okR zm_X10_nth := ⟨by decide +kernel, zi_gwI 1324 rfl rfl, zi_gwI 76 (by decide +kernel) rfl, by decide +kernel, by decide +kernel, (fun h => by cases h), fun _ => ⟨zi_gwI 1322 (by decide +kernel) rfl, zi_gwI 1323 (by decide +kernel) rfl, by decide +kernel⟩, Or.inr (Or.inl ⟨rfl, rfl⟩), by decide +kernel, by decide⟩
set_option maxRecDepth 100000 in
theorem zr_X10_mayGo : zi_okR zm_X10_mayGo := ⟨by decide +kernel, zi_gwI 1336 rfl rfl, zi_gwI 76 (by decide +kernel) rfl, by decide +kernel, by decide +kernel, (fun h => by cases h), fun _ => ⟨zi_gwI 1335 (by decide +kernel) rfl, zi_gwI 56 (by decide +kernel) rfl, by decide +kernel⟩, Or.inr (Or.inr (Or.inr (Or.inr ⟨rfl, rfl⟩))), by decide +kernel, by decide⟩
set_option maxRecDepth 100000 in
theorem zr_X10_least : zi_okR zm_X10_least := ⟨by decide +kernel, zi_gwI 1332 rfl rfl, zi_gwI 76 (by decide +kernel) rfl, by decide +kernel, by decide +kernel, (fun h => by cases h), fun _ => ⟨zi_gwI 1331 (by decide +kernel) rfl, zi_gwI 55 (by decide +kernel) rfl, by decide +kernel⟩, Or.inr (Or.inl ⟨rfl, rfl⟩), by decide +kernel, by decide⟩
set_option maxRecDepth 100000 in
theorem zr_X10_greatest : zi_okR zm_X10_greatest := ⟨by decide +kernel, zi_gwI 1348 rfl rfl, zi_gwI 76 (by decide +kernel) rfl, by decide +kernel, by decide +kernel, (fun h => by cases h), fun _ => ⟨zi_gwI 1347 (by decide +kernel) rfl, zi_gwI 57 (by decide +kernel) rfl, by decide +kernel⟩, Or.inr (Or.inl ⟨rfl, rfl⟩), by decide +kernel, by decide⟩
set_option maxRecDepth 100000 in
theorem zr_X10_wax : zi_okR zm_X10_wax := ⟨by decide +kernel, zi_gwI 1328 rfl rfl, zi_gwI 76 (by decide +kernel) rfl, by decide +kernel, by decide +kernel, (fun h => by cases h), fun _ => ⟨zi_gwI 1326 (by decide +kernel) rfl, zi_gwI 1327 (by decide +kernel) rfl, by decide +kernel⟩, Or.inr (Or.inl ⟨rfl, rfl⟩), by decide +kernel, by decide⟩
set_option maxRecDepth 100000 in
theorem zr_X10_strength : zi_okR zm_X10_strength := ⟨by decide +kernel, zi_gwI 1340 rfl rfl, zi_gwI 76 (by decide +kernel) rfl, by decide +kernel, by decide +kernel, (fun h => by cases h), fun _ => ⟨zi_gwI 1338 (by decide +kernel) rfl, zi_gwI 1339 (by decide +kernel) rfl, by decide +kernel⟩, Or.inr (Or.inl ⟨rfl, rfl⟩), by decide +kernel, by decide⟩
set_option maxRecDepth 100000 in
theorem zr_X10_most : zi_okR zm_X10_most := ⟨by decide +kernel, zi_gwI 1344 rfl rfl, zi_gwI 76 (by decide +kernel) rfl, by decide +kernel, by decide +kernel, (fun h => by cases h), fun _ => ⟨zi_gwI 1342 (by decide +kernel) rfl, zi_gwI 1343 (by decide +kernel) rfl, by decide +kernel⟩, Or.inr (Or.inl ⟨rfl, rfl⟩), by decide +kernel, by decide⟩
set_option maxRecDepth 100000 in
theorem zr_X10_hottest : zi_okR zm_X10_hottest := ⟨by decide +kernel, zi_gwI 1352 rfl rfl, zi_gwI 76 (by decide +kernel) rfl, by decide +kernel, by decide +kernel, (fun h => by cases h), fun _ => ⟨zi_gwI 1350 (by decide +kernel) rfl, zi_gwI 1351 (by decide +kernel) rfl, by decide +kernel⟩, Or.inr (Or.inl ⟨rfl, rfl⟩), by decide +kernel, by decide⟩
set_option maxRecDepth 100000 in
theorem zr_X10_kinds : zi_okR zm_X10_kinds := ⟨by decide +kernel, zi_gwI 1356 rfl rfl, zi_gwI 76 (by decide +kernel) rfl, by decide +kernel, by decide +kernel, (fun h => by cases h), fun _ => ⟨zi_gwI 1354 (by decide +kernel) rfl, zi_gwI 1355 (by decide +kernel) rfl, by decide +kernel⟩, Or.inr (Or.inl ⟨rfl, rfl⟩), by decide +kernel, by decide⟩
set_option maxRecDepth 100000 in
theorem zr_X10_post : zi_okR zm_X10_post := ⟨by decide +kernel, zi_gwI 1360 rfl rfl, zi_gwI 76 (by decide +kernel) rfl, by decide +kernel, by decide +kernel, (fun h => by cases h), fun _ => ⟨zi_gwI 1358 (by decide +kernel) rfl, zi_gwI 1359 (by decide +kernel) rfl, by decide +kernel⟩, Or.inr (Or.inl ⟨rfl, rfl⟩), by decide +kernel, by decide⟩
set_option maxRecDepth 100000 in
theorem zr_X10_lies : zi_okR zm_X10_lies := ⟨by decide +kernel, zi_gwI 1373 rfl rfl, zi_gwI 76 (by decide +kernel) rfl, by decide +kernel, by decide +kernel, (fun h => by cases h), fun _ => ⟨zi_gwI 1372 (by decide +kernel) rfl, zi_gwI 59 (by decide +kernel) rfl, by decide +kernel⟩, Or.inl ⟨rfl, rfl⟩, by decide +kernel, by decide⟩
set_option maxRecDepth 100000 in
theorem zr_X10_stands : zi_okR zm_X10_stands := ⟨by decide +kernel, zi_gwI 1377 rfl rfl, zi_gwI 76 (by decide +kernel) rfl, by decide +kernel, by decide +kernel, (fun h => by cases h), fun _ => ⟨zi_gwI 1376 (by decide +kernel) rfl, zi_gwI 60 (by decide +kernel) rfl, by decide +kernel⟩, Or.inl ⟨rfl, rfl⟩, by decide +kernel, by decide⟩
set_option maxRecDepth 100000 in
theorem zr_X10_twelves : zi_okR zm_X10_twelves := ⟨by decide +kernel, zi_gwI 1380 rfl rfl, zi_gwI 76 (by decide +kernel) rfl, by decide +kernel, by decide +kernel, fun _ => zi_gwI 1379 (by decide +kernel) rfl, (fun h => by cases h), Or.inr (Or.inr (Or.inl ⟨rfl, rfl⟩)), by decide +kernel, by decide⟩
set_option maxRecDepth 100000 in
theorem zr_X10_mayGust : zi_okR zm_X10_mayGust := ⟨by decide +kernel, zi_gwI 1384 rfl rfl, zi_gwI 76 (by decide +kernel) rfl, by decide +kernel, by decide +kernel, (fun h => by cases h), fun _ => ⟨zi_gwI 1383 (by decide +kernel) rfl, zi_gwI 61 (by decide +kernel) rfl, by decide +kernel⟩, Or.inr (Or.inr (Or.inr (Or.inr ⟨rfl, rfl⟩))), by decide +kernel, by decide⟩
set_option maxRecDepth 100000 in
theorem zr_X10_chances : zi_okR zm_X10_chances := ⟨by decide +kernel, zi_gwI 1369 rfl rfl, zi_gwI 76 (by decide +kernel) rfl, by decide +kernel, by decide +kernel, (fun h => by cases h), fun _ => ⟨zi_gwI 1368 (by decide +kernel) rfl, zi_gwI 58 (by decide +kernel) rfl, by decide +kernel⟩, Or.inr (Or.inr (Or.inl ⟨rfl, rfl⟩)), by decide +kernel, by decide⟩
set_option maxRecDepth 100000 in
theorem zr_X10_divisor : zi_okR zm_X10_divisor := ⟨by decide +kernel, zi_gwI 1391 rfl rfl, zi_gwI 76 (by decide +kernel) rfl, by decide +kernel, by decide +kernel, fun _ => zi_gwI 1390 (by decide +kernel) rfl, (fun h => by cases h), Or.inr (Or.inr (Or.inl ⟨rfl, rfl⟩)), by decide +kernel, by decide⟩
set_option maxRecDepth 100000 in
theorem zr_X10_chanceIs : zi_okR zm_X10_chanceIs := ⟨by decide +kernel, zi_gwI 1388 rfl rfl, zi_gwI 76 (by decide +kernel) rfl, by decide +kernel, by decide +kernel, (fun h => by cases h), fun _ => ⟨zi_gwI 1387 (by decide +kernel) rfl, zi_gwI 62 (by decide +kernel) rfl, by decide +kernel⟩, Or.inr (Or.inl ⟨rfl, rfl⟩), by decide +kernel, by decide⟩
set_option maxRecDepth 100000 in
theorem zr_X10_plan : zi_okR zm_X10_plan := ⟨by decide +kernel, zi_gwI 1365 rfl rfl, zi_gwI 76 (by decide +kernel) rfl, by decide +kernel, by decide +kernel, (fun h => by cases h), fun _ => ⟨zi_gwI 1363 (by decide +kernel) rfl, zi_gwI 1364 (by decide +kernel) rfl, by decide +kernel⟩, Or.inr (Or.inl ⟨rfl, rfl⟩), by decide +kernel, by decide⟩
set_option maxRecDepth 100000 in
theorem zr_X10_odds : zi_okR zm_X10_odds := ⟨by decide +kernel, zi_gwI 1395 rfl rfl, zi_gwI 76 (by decide +kernel) rfl, by decide +kernel, by decide +kernel, (fun h => by cases h), fun _ => ⟨zi_gwI 1393 (by decide +kernel) rfl, zi_gwI 1394 (by decide +kernel) rfl, by decide +kernel⟩, Or.inr (Or.inl ⟨rfl, rfl⟩), by decide +kernel, by decide⟩
set_option maxRecDepth 100000 in
theorem zr_X10_choice : zi_okR zm_X10_choice := ⟨by decide +kernel, zi_gwI 1399 rfl rfl, zi_gwI 76 (by decide +kernel) rfl, by decide +kernel, by decide +kernel, (fun h => by cases h), fun _ => ⟨zi_gwI 1397 (by decide +kernel) rfl, zi_gwI 1398 (by decide +kernel) rfl, by decide +kernel⟩, Or.inr (Or.inl ⟨rfl, rfl⟩), by decide +kernel, by decide⟩
set_option maxRecDepth 100000 in
theorem zr_X10_boats : zi_okR zm_X10_boats := ⟨by decide +kernel, zi_gwI 1403 rfl rfl, zi_gwI 76 (by decide +kernel) rfl, by decide +kernel, by decide +kernel, (fun h => by cases h), fun _ => ⟨zi_gwI 1401 (by decide +kernel) rfl, zi_gwI 1402 (by decide +kernel) rfl, by decide +kernel⟩, Or.inr (Or.inl ⟨rfl, rfl⟩), by decide +kernel, by decide⟩
set_option maxRecDepth 100000 in
theorem zr_X10_drip : zi_okR zm_X10_drip := ⟨by decide +kernel, zi_gwI 1408 rfl rfl, zi_gwI 76 (by decide +kernel) rfl, by decide +kernel, by decide +kernel, (fun h => by cases h), fun _ => ⟨zi_gwI 1406 (by decide +kernel) rfl, zi_gwI 1407 (by decide +kernel) rfl, by decide +kernel⟩, Or.inr (Or.inl ⟨rfl, rfl⟩), by decide +kernel, by decide⟩
set_option maxRecDepth 100000 in
theorem zr_X10_feathers : zi_okR zm_X10_feathers := ⟨by decide +kernel, zi_gwI 1412 rfl rfl, zi_gwI 76 (by decide +kernel) rfl, by decide +kernel, by decide +kernel, (fun h => by cases h), fun _ => ⟨zi_gwI 1410 (by decide +kernel) rfl, zi_gwI 1411 (by decide +kernel) rfl, by decide +kernel⟩, Or.inr (Or.inl ⟨rfl, rfl⟩), by decide +kernel, by decide⟩
set_option maxRecDepth 100000 in
theorem zr_X10_lots : zi_okR zm_X10_lots := ⟨by decide +kernel, zi_gwI 1416 rfl rfl, zi_gwI 76 (by decide +kernel) rfl, by decide +kernel, by decide +kernel, (fun h => by cases h), fun _ => ⟨zi_gwI 1414 (by decide +kernel) rfl, zi_gwI 1415 (by decide +kernel) rfl, by decide +kernel⟩, Or.inr (Or.inl ⟨rfl, rfl⟩), by decide +kernel, by decide⟩
set_option maxRecDepth 100000 in
theorem zr_X10_asked : zi_okR zm_X10_asked := ⟨by decide +kernel, zi_gwI 1423 rfl rfl, zi_gwI 76 (by decide +kernel) rfl, by decide +kernel, by decide +kernel, (fun h => by cases h), fun _ => ⟨zi_gwI 1421 (by decide +kernel) rfl, zi_gwI 1422 (by decide +kernel) rfl, by decide +kernel⟩, Or.inr (Or.inl ⟨rfl, rfl⟩), by decide +kernel, by decide⟩
set_option maxRecDepth 100000 in
theorem zr_X10_upper : zi_okR zm_X10_upper := ⟨by decide +kernel, zi_gwI 1427 rfl rfl, zi_gwI 76 (by decide +kernel) rfl, by decide +kernel, by decide +kernel, (fun h => by cases h), fun _ => ⟨zi_gwI 1425 (by decide +kernel) rfl, zi_gwI 1426 (by decide +kernel) rfl, by decide +kernel⟩, Or.inr (Or.inr (Or.inl ⟨rfl, rfl⟩)), by decide +kernel, by decide⟩
set_option maxRecDepth 100000 in
theorem zr_X10_lower : zi_okR zm_X10_lower := ⟨by decide +kernel, zi_gwI 1431 rfl rfl, zi_gwI 76 (by decide +kernel) rfl, by decide +kernel, by decide +kernel, (fun h => by cases h), fun _ => ⟨zi_gwI 1429 (by decide +kernel) rfl, zi_gwI 1430 (by decide +kernel) rfl, by decide +kernel⟩, Or.inr (Or.inr (Or.inl ⟨rfl, rfl⟩)), by decide +kernel, by decide⟩
set_option maxRecDepth 100000 in
theorem zr_X10_countOf : zi_okR zm_X10_countOf := ⟨by decide +kernel, zi_gwI 1440 rfl rfl, zi_gwI 76 (by decide +kernel) rfl, by decide +kernel, by decide +kernel, (fun h => by cases h), fun _ => ⟨zi_gwI 1439 (by decide +kernel) rfl, zi_gwI 63 (by decide +kernel) rfl, by decide +kernel⟩, Or.inr (Or.inl ⟨rfl, rfl⟩), by decide +kernel, by decide⟩
set_option maxRecDepth 100000 in
theorem zr_X10_count : zi_okR zm_X10_count := ⟨by decide +kernel, zi_gwI 1435 rfl rfl, zi_gwI 76 (by decide +kernel) rfl, by decide +kernel, by decide +kernel, (fun h => by cases h), fun _ => ⟨zi_gwI 1433 (by decide +kernel) rfl, zi_gwI 1434 (by decide +kernel) rfl, by decide +kernel⟩, Or.inr (Or.inl ⟨rfl, rfl⟩), by decide +kernel, by decide⟩
set_option maxRecDepth 100000 in
theorem zr_X10_finding : zi_okR zm_X10_finding := ⟨by decide +kernel, zi_gwI 1444 rfl rfl, zi_gwI 76 (by decide +kernel) rfl, by decide +kernel, by decide +kernel, (fun h => by cases h), fun _ => ⟨zi_gwI 1442 (by decide +kernel) rfl, zi_gwI 1443 (by decide +kernel) rfl, by decide +kernel⟩, Or.inr (Or.inl ⟨rfl, rfl⟩), by decide +kernel, by decide⟩
set_option maxRecDepth 100000 in
theorem zr_X10_findings : zi_okR zm_X10_findings := ⟨by decide +kernel, zi_gwI 1448 rfl rfl, zi_gwI 76 (by decide +kernel) rfl, by decide +kernel, by decide +kernel, (fun h => by cases h), fun _ => ⟨zi_gwI 1446 (by decide +kernel) rfl, zi_gwI 1447 (by decide +kernel) rfl, by decide +kernel⟩, Or.inr (Or.inl ⟨rfl, rfl⟩), by decide +kernel, by decide⟩
set_option maxRecDepth 100000 in
theorem zr_X10_digest : zi_okR zm_X10_digest := ⟨by decide +kernel, zi_gwI 1452 rfl rfl, zi_gwI 76 (by decide +kernel) rfl, by decide +kernel, by decide +kernel, (fun h => by cases h), fun _ => ⟨zi_gwI 1450 (by decide +kernel) rfl, zi_gwI 1451 (by decide +kernel) rfl, by decide +kernel⟩, Or.inr (Or.inr (Or.inl ⟨rfl, rfl⟩)), by decide +kernel, by decide⟩
set_option maxRecDepth 100000 in
theorem zr_J6_bitCount_0f7a4 : zi_okR zm_J6_bitCount_0f7a4 := ⟨by decide +kernel, zi_gwI 868 rfl rfl, zi_gwI 78 (by decide +kernel) rfl, by decide +kernel, by decide +kernel, fun _ => zi_gwI 867 (by decide +kernel) rfl, (fun h => by cases h), Or.inr (Or.inl ⟨rfl, rfl⟩), by decide +kernel, by decide⟩
