/-! ONE STEP, THE RUN WITH FUEL, THE RUN ITSELF -/
def zi_op {α : Type} (o : Option α) (K : α → zi_O) : zi_O := match o with
  | some a => K a
  | none => none
def zi_bl (b : Bool) (A B : zi_O) : zi_O := match b with
  | true => A
  | false => B
def zi_nn (o : Option Nat) (A : zi_O) (B : Nat → zi_O) : zi_O := match o with
  | none => A
  | some k => B k
def zi_du (S : zi_S) (K : zi_S → zi_O) : zi_O := match S with
  | .inl x :: S' => K (.inl x :: .inl x :: S')
  | .inr (.inr q) :: S' => K (.inr (.inr q) :: .inr (.inr q) :: S')
  | _ => none
def zi_d2 (S : zi_S) (K : zi_S → zi_O) : zi_O := match S with
  | .inl x :: .inr (.inr q) :: S' => K (.inl x :: .inr (.inr q) :: .inl x :: .inr (.inr q) :: S')
  | _ => none
def zi_po (S : zi_S) (K : zi_S → zi_O) : zi_O := match S with
  | .inl _ :: S' => K S'
  | .inr (.inr _) :: S' => K S'
  | _ => none
def zi_abs (x : Int32) : Int32 := if 0 ≤ x then x else 0 - x
def zi_max (x y : Int32) : Int32 := if x < y then y else x
def zi_min (x y : Int32) : Int32 := if y < x then y else x
/-- Math.abs, max, min -/
def zi_ma (t : Nat) (S : zi_S) (K : zi_S → zi_O) : zi_O := if t = 0 then zi_1i S (fun x S' => zi_rs S' (K (.inl (zi_abs x) :: S'))) else if t = 1 then zi_2i S (fun x y S' => zi_rs S' (K (.inl (zi_max x y) :: S'))) else if t = 2 then zi_2i S (fun x y S' => zi_rs S' (K (.inl (zi_min x y) :: S'))) else none
/-- the returns -/
def zi_ri (r : zi_R) (S : zi_S) (M : zi_M) : zi_O := match S with
  | [.inl x] => if zi_ak r = 4 then zi_bo x (some (some (.inl x), M)) else if zi_ak r = 1 then some (some (.inl x), M) else none
  | _ => none
def zi_rl (r : zi_R) (S : zi_S) (M : zi_M) : zi_O := match S with
  | [.inr (.inl x)] => if zi_ak r = 2 then some (some (.inr (.inl x)), M) else none
  | _ => none
def zi_ra (r : zi_R) (S : zi_S) (M : zi_M) : zi_O := match S with
  | [.inr (.inr (c, o))] => if zi_ak r = 3 then zi_nn o (some (some (.inr (.inr (zi_rr r, none))), M)) (fun k => if c = zi_rr r then some (some (.inr (.inr (c, some k))), M) else none) else none
  | _ => none
def zi_rv (r : zi_R) (S : zi_S) (M : zi_M) : zi_O := match S with
  | [] => if zi_ak r = 0 then some (none, M) else none
  | _ => none
def zi_st (r : zi_R) (f sw : Nat → zi_L → zi_S → zi_M → zi_O) (call : zi_R → List zi_V → zi_M → zi_O) (i : Instr) (pc : Nat) (L : zi_L) (S : zi_S) (M : zi_M) : zi_O :=
  match i with
  | .iconst v => f (pc + 1) L (.inl (Int32.ofInt v) :: S) M
  | .bipush v => f (pc + 2) L (.inl (Int8.ofInt v).toInt32 :: S) M
  | .sipush v => f (pc + 3) L (.inl (Int16.ofInt v).toInt32 :: S) M
  | .lconst v => f (pc + 1) L (.inr (.inl (Int64.ofNat v.val)) :: S) M
  | .ldc idx => zi_op (zi_kI (zi_w r) idx) (fun q => f (pc + 2) L (.inl q.1 :: S) M)
  | .ldc_w idx => zi_op (zi_kI (zi_w r) idx) (fun q => f (pc + 3) L (.inl q.1 :: S) M)
  | .ldc2_w idx => zi_op (zi_kL (zi_w r) idx) (fun q => f (pc + 3) L (.inr (.inl q.1) :: S) M)
  | .iload_n k => zi_li L k.val (fun x => f (pc + 1) L (.inl x :: S) M)
  | .iload k => zi_li L k (fun x => f (pc + 2) L (.inl x :: S) M)
  | .lload_n k => zi_ll L k.val (fun x => f (pc + 1) L (.inr (.inl x) :: S) M)
  | .lload k => zi_ll L k (fun x => f (pc + 2) L (.inr (.inl x) :: S) M)
  | .aload_n k => zi_la L k.val (fun c o => f (pc + 1) L (.inr (.inr (c, o)) :: S) M)
  | .aload k => zi_la L k (fun c o => f (pc + 2) L (.inr (.inr (c, o)) :: S) M)
  | .istore_n k => zi_1i S (fun x S' => zi_p1 L k.val (.inl x) (fun L' => f (pc + 1) L' S' M))
  | .istore k => zi_1i S (fun x S' => zi_p1 L k (.inl x) (fun L' => f (pc + 2) L' S' M))
  | .lstore_n k => zi_1l S (fun x S' => zi_p2 L k.val (.inr (.inl x)) (fun L' => f (pc + 1) L' S' M))
  | .lstore k => zi_1l S (fun x S' => zi_p2 L k (.inr (.inl x)) (fun L' => f (pc + 2) L' S' M))
  | .astore_n k => zi_1r S (fun c o S' => zi_p1 L k.val (.inr (.inr (c, o))) (fun L' => f (pc + 1) L' S' M))
  | .astore k => zi_1r S (fun c o S' => zi_p1 L k (.inr (.inr (c, o))) (fun L' => f (pc + 2) L' S' M))
  | .iinc k n => zi_li L k (fun x => zi_p1 L k (.inl (x + Int32.ofInt n)) (fun L' => f (pc + 3) L' S M))
  | .iadd => zi_2i S (fun x y S' => f (pc + 1) L (.inl (x + y) :: S') M)
  | .isub => zi_2i S (fun x y S' => f (pc + 1) L (.inl (x - y) :: S') M)
  | .imul => zi_2i S (fun x y S' => f (pc + 1) L (.inl (x * y) :: S') M)
  | .idiv => zi_2i S (fun x y S' => if y = 0 then none else f (pc + 1) L (.inl (x / y) :: S') M)
  | .irem => zi_2i S (fun x y S' => if y = 0 then none else f (pc + 1) L (.inl (x - x / y * y) :: S') M)
  | .iand => zi_2i S (fun x y S' => f (pc + 1) L (.inl (x &&& y) :: S') M)
  | .ior => zi_2i S (fun x y S' => f (pc + 1) L (.inl (x ||| y) :: S') M)
  | .ishl => zi_2i S (fun x y S' => f (pc + 1) L (.inl (x <<< (y &&& 31)) :: S') M)
  | .ishr => zi_2i S (fun x y S' => f (pc + 1) L (.inl (x >>> (y &&& 31)) :: S') M)
  | .iushr => zi_2i S (fun x y S' => f (pc + 1) L (.inl (x.toUInt32 >>> (y.toUInt32 &&& Int32.toUInt32 31)).toInt32 :: S') M)
  | .ineg => zi_1i S (fun x S' => f (pc + 1) L (.inl (-x) :: S') M)
  | .ladd => zi_2l S (fun x y S' => f (pc + 1) L (.inr (.inl (x + y)) :: S') M)
  | .lsub => zi_2l S (fun x y S' => f (pc + 1) L (.inr (.inl (x - y)) :: S') M)
  | .lmul => zi_2l S (fun x y S' => f (pc + 1) L (.inr (.inl (x * y)) :: S') M)
  | .ldiv => zi_2l S (fun x y S' => if y = 0 then none else f (pc + 1) L (.inr (.inl (x / y)) :: S') M)
  | .lrem => zi_2l S (fun x y S' => if y = 0 then none else f (pc + 1) L (.inr (.inl (x - x / y * y)) :: S') M)
  | .lcmp => zi_2l S (fun x y S' => f (pc + 1) L (.inl (lg_cmp x y) :: S') M)
  | .i2l => zi_1i S (fun x S' => f (pc + 1) L (.inr (.inl x.toInt64) :: S') M)
  | .l2i => zi_1l S (fun x S' => f (pc + 1) L (.inl x.toInt32 :: S') M)
  | .i2b => zi_1i S (fun x S' => f (pc + 1) L (.inl x.toInt8.toInt32 :: S') M)
  | .dup => zi_du S (fun S' => f (pc + 1) L S' M)
  | .dup2 => zi_d2 S (fun S' => f (pc + 1) L S' M)
  | .pop => zi_po S (fun S' => f (pc + 1) L S' M)
  | .aconst_null => f (pc + 1) L (.inr (.inr (0, none)) :: S) M
  | .goto off => zi_to pc off (fun t => f t L S M)
  | .ifCond c off => zi_1i S (fun x S' => zi_to pc off (fun t => zi_if c x 0 (f t L S' M) (f (pc + 3) L S' M)))
  | .if_icmp c off => zi_2i S (fun x y S' => zi_to pc off (fun t => zi_if c x y (f t L S' M) (f (pc + 3) L S' M)))
  | .ifnull off => zi_1r S (fun _ o S' => zi_to pc off (fun t => zi_nl o (f t L S' M) (f (pc + 3) L S' M)))
  | .ifnonnull off => zi_1r S (fun _ o S' => zi_to pc off (fun t => zi_nl o (f (pc + 3) L S' M) (f t L S' M)))
  | .tableswitch dflt lo hi offs => zi_1i S (fun x S' => zi_sw x dflt lo hi offs (fun off => zi_to pc off (fun t => sw t L S' M)))
  | .getfield idx => zi_op (zi_fl (zi_w r) idx) (fun q => zi_1r S (fun c o S' => if c = q.1 then zi_sm o (fun k => f (pc + 3) L (zi_rd M q.1 k q.2.1 q.2.2.1 :: S') M) else none))
  | .putfield idx => zi_op (zi_fl (zi_w r) idx) (fun q => if q.2.2.1 = 0 then zi_1i S (fun x S1 => zi_1r S1 (fun c o S' => if c = q.1 then zi_sm o (fun k => f (pc + 3) L S' (zi_sI M q.1 k q.2.1 x)) else none))
      else if q.2.2.1 = 1 then zi_1l S (fun x S1 => zi_1r S1 (fun c o S' => if c = q.1 then zi_sm o (fun k => f (pc + 3) L S' (zi_sL M q.1 k q.2.1 x)) else none))
      else if q.2.2.1 = 3 then zi_1i S (fun x S1 => zi_bo x (zi_1r S1 (fun c o S' => if c = q.1 then zi_sm o (fun k => f (pc + 3) L S' (zi_sI M q.1 k q.2.1 x)) else none)))
      else zi_bl (zi_mu q.1 q.2.1) (zi_1r S (fun c1 o1 S1 => zi_1r S1 (fun c o S' => if c = q.1 then zi_sm o (fun k => zi_nn o1 (f (pc + 3) L S' (zi_sR M q.1 k q.2.1 none)) (fun k1 => if c1 = zi_fk q.1 q.2.1 then f (pc + 3) L S' (zi_sR M q.1 k q.2.1 (some k1)) else none)) else none))) none)
  | .getstatic idx => zi_op (zi_sl (zi_w r) idx) (fun q => f (pc + 3) L (.inr (.inr (q.1, some 0)) :: S) M)
  | .arraylength => zi_1r S (fun c o S' => if c < 11 then none else zi_sm o (fun k => f (pc + 1) L (.inl (Int32.ofNat (zi_len M c k)) :: S') M))
  | .iaload => zi_1i S (fun x S1 => zi_1r S1 (fun c o S' => if zi_aty c = 0 then zi_sm o (fun k => zi_ix x (zi_len M c k) (fun q => f (pc + 1) L (.inl (M.1 c k q) :: S') M)) else none))
  | .baload => zi_1i S (fun x S1 => zi_1r S1 (fun c o S' => if zi_aty c = 3 then zi_sm o (fun k => zi_ix x (zi_len M c k) (fun q => f (pc + 1) L (.inl (M.1 c k q) :: S') M)) else none))
  | .laload => zi_1i S (fun x S1 => zi_1r S1 (fun c o S' => if zi_aty c = 1 then zi_sm o (fun k => zi_ix x (zi_len M c k) (fun q => f (pc + 1) L (.inr (.inl (M.2.1 c k q)) :: S') M)) else none))
  | .aaload => zi_1i S (fun x S1 => zi_1r S1 (fun c o S' => if zi_aty c = 2 then zi_sm o (fun k => zi_ix x (zi_len M c k) (fun q => f (pc + 1) L (.inr (.inr (zi_ek c, some (zi_rf c k q))) :: S') M)) else none))
  | .iastore => zi_1i S (fun v S0 => zi_1i S0 (fun x S1 => zi_1r S1 (fun c o S' => if zi_aty c = 0 then (if c < 90 then zi_sm o (fun k => zi_ix x (zi_len M c k) (fun q => f (pc + 1) L S' (zi_sI M c k q v))) else none) else none)))
  | .bastore => zi_1i S (fun v S0 => zi_bo v (zi_1i S0 (fun x S1 => zi_1r S1 (fun c o S' => if zi_aty c = 3 then zi_sm o (fun k => zi_ix x (zi_len M c k) (fun q => f (pc + 1) L S' (zi_sI M c k q v))) else none))))
  | .lastore => zi_1l S (fun v S0 => zi_1i S0 (fun x S1 => zi_1r S1 (fun c o S' => if zi_aty c = 1 then zi_sm o (fun k => zi_ix x (zi_len M c k) (fun q => f (pc + 1) L S' (zi_sL M c k q v))) else none)))
  | .invokevirtual idx => zi_op (zi_lk (zi_w r) idx) (fun q => zi_bl (zi_sc q.1) none (zi_pp (zi_na q.1) S [] (fun as S1 => zi_1r S1 (fun c o S' => if c = zi_w q.1 then zi_sm o (fun k => zi_rs S' (zi_ca q.1 (call q.1 (.inr (.inr (c, some k)) :: as) M) S' (fun S2 M2 => f (pc + 3) L S2 M2))) else none))))
  | .invokestatic idx => zi_bl (zi_acw (zi_w r) idx) (zi_ac M S (fun S' M' => f (pc + 3) L S' M')) (zi_nn (zi_mx (zi_w r) idx) (zi_op (zi_lk (zi_w r) idx) (fun q => zi_bl (zi_sc q.1) (zi_pp (zi_na q.1) S [] (fun as S' => zi_rs S' (zi_ca q.1 (call q.1 as M) S' (fun S2 M2 => f (pc + 3) L S2 M2)))) none)) (fun t => zi_ma t S (fun S' => f (pc + 3) L S' M)))
  | .ireturn => zi_ri r S M
  | .lreturn => zi_rl r S M
  | .areturn => zi_ra r S M
  | .return_ => zi_rv r S M
  | _ => none
abbrev zi_G : Type := Nat → zi_R → Nat → zi_L → zi_S → zi_M → zi_O
def zi_kc (r : zi_R) (t : Nat) (L : zi_L) : zi_L := match zi_at (zi_cu r) t with
  | some ks => zi_kl ks 0 L
  | none => L
def zi_k (g f : zi_G) (d : Nat) (r : zi_R) (t : Nat) (L : zi_L) (S : zi_S) (M : zi_M) : zi_O := match zi_at (zi_cu r) t with
  | some ks => g d r t (zi_kl ks 0 L) S M
  | none => f d r t L S M
def zi_F (g f : zi_G) : zi_G := fun d r pc L S M => match zi_at (zi_cd r) pc with
  | none => none
  | some i => zi_st r (zi_k g f d r) (fun t L S M => g d r t (zi_kc r t L) S M) (fun r' as M' => zi_bl (Nat.ble (zi_e0 as).length (zi_ml r')) (zi_dn d (fun e => g e r' 0 (zi_en (zi_ml r') as) [] M')) none) i pc L S M
def zi_go : Nat → zi_G
  | 0 => fun _ _ _ _ _ _ => none
  | n + 1 => zi_F (zi_go n) (zi_go n)
noncomputable def zi_run : zi_G := fun d r pc L S M => @dite _ (∃ n, (zi_go n d r pc L S M).isSome = true) (Classical.propDecidable _) (fun h => zi_go (Classical.choose h) d r pc L S M) (fun _ => none)
def zi_bk (g : zi_G) : Nat → zi_G
  | 0 => g
  | n + 1 => zi_F g (zi_bk g n)
