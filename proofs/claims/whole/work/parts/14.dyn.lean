/-! THE CONSTRUCTORS: an interpreter that makes cells; its memory: how many cells, and what each is. Values as before; a reference's kind is 0, its place the cell's number -/
/-- an object (class, fields), or an array (type, length, ints written, references written) -/
abbrev zd_C : Type := (Nat × List zi_V) ⊕ (Nat × Nat × List (Nat × Int32) × List (Nat × Nat))
abbrev zd_M : Type := Nat × (Nat → zd_C)
/-- none: returned; some pc: no instruction at pc -/
abbrev zd_O : Type := Option (Option Nat × zi_L × zd_M)
/-- types of arrays: 0 int, 1 long, 3 boolean, 4 Bird, 5 Spot, 6 Row, 7 Sky -/
def zd_ft (t : Nat) : FieldType := match t with
  | 0 => .int
  | 1 => .long
  | 3 => .boolean
  | 4 => .object "WaxWings$Bird"
  | 5 => .object "WaxWings$Spot"
  | 6 => .object "WaxWings$Row"
  | _ => .object "WaxWings$Sky"
def zd_up (M : zd_M) (i : Nat) (c : zd_C) : zd_M := (M.1, fun j => match Nat.beq j i with
  | true => c
  | false => M.2 j)
def zd_ad (M : zd_M) (c : zd_C) : zd_M := (M.1 + 1, fun j => match Nat.beq j M.1 with
  | true => c
  | false => M.2 j)
/-- what an object of a class begins with -/
def zd_bl (c : Nat) : List zi_V := (zi_ftl c).map (fun t => if t = 1 then .inr (.inl 0) else if t = 2 then .inr (.inr (0, none)) else .inl 0)
def zd_op {α : Type} (o : Option α) (K : α → zd_O) : zd_O := match o with
  | some a => K a
  | none => none
def zd_if (b : Bool) (K : zd_O) : zd_O := match b with
  | true => K
  | false => none
/-- may a value of this kind stand in a field of this type -/
def zd_fi (t : Nat) (v : zi_V) : Bool := match v with
  | .inl _ => Nat.beq t 0
  | .inr (.inl _) => Nat.beq t 1
  | .inr (.inr _) => Nat.beq t 2
def zd_ob (c : zd_C) : Option (Nat × List zi_V) := match c with
  | .inl q => some q
  | .inr _ => none
def zd_ar (c : zd_C) : Option (Nat × Nat × List (Nat × Int32) × List (Nat × Nat)) := match c with
  | .inl _ => none
  | .inr q => some q
def zd_pi (S : zi_S) : Option (Int32 × zi_S) := match S with
  | .inl x :: T => some (x, T)
  | _ => none
def zd_pr (S : zi_S) : Option (Nat × zi_S) := match S with
  | .inr (.inr (0, some k)) :: T => some (k, T)
  | _ => none
def zd_pv (S : zi_S) : Option (zi_V × zi_S) := match S with
  | v :: T => some (v, T)
  | _ => none
def zd_pp : Nat → zi_S → List zi_V → Option (List zi_V × zi_S)
  | 0, S, acc => some (acc, S)
  | n + 1, v :: S, acc => zd_pp n S (v :: acc)
  | _ + 1, [], _ => none
def zd_gi (L : zi_L) (i : Nat) : Option Int32 := match L[i]? with
  | some (some (.inl x)) => some x
  | _ => none
def zd_ga (L : zi_L) (i : Nat) : Option Nat := match L[i]? with
  | some (some (.inr (.inr (0, some x)))) => some x
  | _ => none
def zd_to (pc : Nat) (off : Int) : Option Nat := match (pc : Int) + off with
  | .ofNat t => some t
  | .negSucc _ => none
def zd_rv (v : zi_V) : Option Nat := match v with
  | .inr (.inr (0, some x)) => some x
  | _ => none
def zd_n : Instr → Nat
  | .new _ | .anewarray _ | .invokespecial _ => 3
  | .newarray _ => 2
  | i => zi_n i
def zd_at (t : ArrayType) : Option Nat := match t with
  | .int => some 0
  | .long => some 1
  | .boolean => some 3
  | _ => none
/-- of a class: the type of the arrays over it -/
def zd_ao (c : Nat) : Option Nat := zi_at [(1, 4), (7, 5), (5, 6), (6, 7)] c
def zd_st (r : zi_R) (f : Nat → zi_L → zi_S → zd_M → zd_O) (call : zi_R → List zi_V → zd_M → zd_O) (i : Instr) (pc : Nat) (L : zi_L) (S : zi_S) (M : zd_M) : zd_O :=
  match i with
  | .iconst v => f (pc + 1) L (.inl (Int32.ofInt v) :: S) M
  | .bipush v => f (pc + 2) L (.inl (Int8.ofInt v).toInt32 :: S) M
  | .sipush v => f (pc + 3) L (.inl (Int16.ofInt v).toInt32 :: S) M
  | .lconst v => f (pc + 1) L (.inr (.inl (Int64.ofNat v.val)) :: S) M
  | .iload_n k => zd_op (zd_gi L k.val) (fun x => f (pc + 1) L (.inl x :: S) M)
  | .aload_n k => zd_op (zd_ga L k.val) (fun x => f (pc + 1) L (.inr (.inr (0, some x)) :: S) M)
  | .istore_n k => zd_op (zd_pi S) (fun q => zd_if (Nat.blt k.val L.length) (f (pc + 1) ((zi_dl L k.val).set k.val (some (.inl q.1))) q.2 M))
  | .astore_n k => zd_op (zd_pr S) (fun q => zd_if (Nat.blt k.val L.length) (f (pc + 1) ((zi_dl L k.val).set k.val (some (.inr (.inr (0, some q.1))))) q.2 M))
  | .iinc k n => zd_op (zd_gi L k) (fun x => zd_if (Nat.blt k L.length) (f (pc + 3) ((zi_dl L k).set k (some (.inl (x + Int32.ofInt n)))) S M))
  | .dup => zd_op (zd_pr S) (fun q => f (pc + 1) L (.inr (.inr (0, some q.1)) :: .inr (.inr (0, some q.1)) :: q.2) M)
  | .goto off => zd_op (zd_to pc off) (fun t => f t L S M)
  | .if_icmp .ge off => zd_op (zd_pi S) (fun y => zd_op (zd_pi y.2) (fun x => zd_op (zd_to pc off) (fun t => if y.1 ≤ x.1 then f t L x.2 M else f (pc + 3) L x.2 M)))
  | .if_icmp .gt off => zd_op (zd_pi S) (fun y => zd_op (zd_pi y.2) (fun x => zd_op (zd_to pc off) (fun t => if y.1 < x.1 then f t L x.2 M else f (pc + 3) L x.2 M)))
  | .new idx => zd_op (zd_cl (zi_w r) idx) (fun q => f (pc + 3) L (.inr (.inr (0, some M.1)) :: S) (zd_ad M (.inl (q.1, zd_bl q.1))))
  | .newarray t => zd_op (zd_at t) (fun ty => zd_op (zd_pi S) (fun q => zd_if (decide (¬ q.1 < 0) && Nat.ble q.1.toNatClampNeg 2000) (f (pc + 2) L (.inr (.inr (0, some M.1)) :: q.2) (zd_ad M (.inr (ty, q.1.toNatClampNeg, [], []))))))
  | .anewarray idx => zd_op (zd_cl (zi_w r) idx) (fun c => zd_op (zd_ao c.1) (fun ty => zd_op (zd_pi S) (fun q => zd_if (decide (¬ q.1 < 0) && Nat.ble q.1.toNatClampNeg 2000) (f (pc + 3) L (.inr (.inr (0, some M.1)) :: q.2) (zd_ad M (.inr (ty, q.1.toNatClampNeg, [], [])))))))
  | .getfield idx => zd_op (zi_fl (zi_w r) idx) (fun q => zd_op (zd_pr S) (fun k => zd_if (Nat.blt k.1 M.1) (zd_op (zd_ob (M.2 k.1)) (fun o => zd_if (Nat.beq o.1 q.1) (zd_op ((o.2[q.2.1]?).bind zd_rv) (fun x => f (pc + 3) L (.inr (.inr (0, some x)) :: k.2) M))))))
  | .putfield idx => zd_op (zi_fl (zi_w r) idx) (fun q => zd_op (zd_pv S) (fun v => zd_if (zd_fi q.2.2.1 v.1) (zd_op (zd_pr v.2) (fun k => zd_if (Nat.blt k.1 M.1) (zd_op (zd_ob (M.2 k.1)) (fun o => zd_if (Nat.beq o.1 q.1 && (Nat.beq (zi_w r) q.1 && (Nat.blt q.2.1 o.2.length && !(zi_sc r)))) (f (pc + 3) L k.2 (zd_up M k.1 (.inl (o.1, o.2.set q.2.1 v.1))))))))))
  | .aastore => zd_op (zd_pr S) (fun v => zd_op (zd_pi v.2) (fun x => zd_op (zd_pr x.2) (fun k => zd_if (Nat.blt k.1 M.1 && Nat.blt v.1 M.1) (zd_op (zd_ar (M.2 k.1)) (fun a => zd_op (zd_ob (M.2 v.1)) (fun o => zd_if (decide (¬ x.1 < 0) && (Nat.blt x.1.toNatClampNeg a.2.1 && (zd_ao o.1 == some a.1))) (f (pc + 1) L k.2 (zd_up M k.1 (.inr (a.1, a.2.1, a.2.2.1, (x.1.toNatClampNeg, v.1) :: a.2.2.2))))))))))
  | .iastore => zd_op (zd_pi S) (fun v => zd_op (zd_pi v.2) (fun x => zd_op (zd_pr x.2) (fun k => zd_if (Nat.blt k.1 M.1) (zd_op (zd_ar (M.2 k.1)) (fun a => zd_if (decide (¬ x.1 < 0) && (Nat.blt x.1.toNatClampNeg a.2.1 && Nat.beq a.1 0)) (f (pc + 1) L k.2 (zd_up M k.1 (.inr (a.1, a.2.1, (x.1.toNatClampNeg, v.1) :: a.2.2.1, a.2.2.2)))))))))
  | .invokestatic idx => zd_if (zi_mx (zi_w r) idx == some 1) (zd_op (zd_pi S) (fun y => zd_op (zd_pi y.2) (fun x => zd_if (Nat.ble (x.2.map zi_ct).sum 8) (f (pc + 3) L (.inl (zi_max x.1 y.1) :: x.2) M))))
  | .invokespecial idx => match zd_oi (zi_w r) idx with
    | some _ => zd_op (zd_pr S) (fun q => zd_if (Nat.ble (q.2.map zi_ct).sum 8) (f (pc + 3) L q.2 M))
    | none => zd_op (zd_il (zi_w r) idx) (fun q => zd_op (zd_pp (zi_na q.1) S []) (fun a => zd_op (zd_pr a.2) (fun k => zd_if (Nat.blt k.1 M.1 && Nat.ble (k.2.map zi_ct).sum 8) (match call q.1 (.inr (.inr (0, some k.1)) :: a.1) M with
      | some (none, _, M2) => f (pc + 3) L k.2 M2
      | _ => none))))
  | .return_ => match S with
    | [] => some (none, [], M)
    | _ => none
  | _ => none
abbrev zd_G : Type := Nat → zi_R → Nat → zi_L → zi_S → zd_M → zd_O
def zd_F (g : zd_G) : zd_G := fun d r pc L S M => match zi_at (zi_cd r) pc with
  | none => match S with
    | [] => some (some pc, L, M)
    | _ => none
  | some i => zd_st r (g d r) (fun r' as M' => match d with
    | 0 => none
    | e + 1 => zd_if (Nat.ble (zi_e0 as).length (zi_ml r')) (g e r' 0 (zi_en (zi_ml r') as) [] M')) i pc L S M
def zd_go : Nat → zd_G
  | 0 => fun _ _ _ _ _ _ => none
  | n + 1 => zd_F (zd_go n)
def zd_M0 : zd_M := (0, fun _ => .inl (0, []))
