/-! THE INTERPRETER: the class's and the reference's methods over ONE abstract memory of a fixed shape (nothing is made behind the constructors).
A value: an int, a long, or a reference (the kind of its cell, its place among the cells of this kind; none: null).
Kinds 0 .. 10: objects of the classes of vwCl; 11 .. 43: arrays; 90: the law's script (its length in row 1), 91, 92: the class's two static arrays. -/
abbrev zi_V : Type := Int32 ⊕ Int64 ⊕ (Nat × Option Nat)
abbrev zi_M : Type := (Nat → Nat → Nat → Int32) × (Nat → Nat → Nat → Int64) × (Nat → Nat → Nat → Option Nat)
abbrev zi_L : Type := List (Option zi_V)
abbrev zi_S : Type := List zi_V
abbrev zi_O : Type := Option (Option zi_V × zi_M)
def zi_sI (M : zi_M) (c k s : Nat) (x : Int32) : zi_M := (fun c' k' s' => if c' = c then (if s' = s then (if k' = k then x else M.1 c' k' s') else M.1 c' k' s') else M.1 c' k' s', M.2)
def zi_sL (M : zi_M) (c k s : Nat) (x : Int64) : zi_M := (M.1, fun c' k' s' => if c' = c then (if s' = s then (if k' = k then x else M.2.1 c' k' s') else M.2.1 c' k' s') else M.2.1 c' k' s', M.2.2)
def zi_sR (M : zi_M) (c k s : Nat) (x : Option Nat) : zi_M := (M.1, M.2.1, fun c' k' s' => if c' = c then (if s' = s then (if k' = k then x else M.2.2 c' k' s') else M.2.2 c' k' s') else M.2.2 c' k' s')
def zi_cp (M : zi_M) (c0 k0 c1 k1 a b n : Nat) : zi_M := (fun c k => if c = c1 then (if k = k1 then va_cpy (M.1 c0 k0) (M.1 c1 k1) a b n else M.1 c k) else M.1 c k, M.2)
/-- a list by its keys -/
def zi_at {α : Type} : List (Nat × α) → Nat → Option α
  | [], _ => none
  | (p, a) :: t, q => match Nat.beq p q with
    | true => some a
    | false => zi_at t q
/-- the shape: types of fields (0 int, 1 long, 2 reference, 3 boolean), by class and slot -/
def zi_fts : List (Nat × List Nat) := [(0, [2, 0, 0]), (1, [2, 0, 0, 0]), (2, [2, 0, 0, 0, 0]), (3, [2, 2, 0, 2]), (4, [2, 2, 2, 0]), (5, [2, 0]), (6, [2, 2, 2, 3, 0, 0, 0]), (7, [0, 0, 0, 0, 0, 0]), (8, [2, 2, 2, 0, 3]), (9, [2, 2, 2, 2, 2, 2, 2, 2, 2, 2, 2, 2, 0, 0, 1, 1]), (10, [2, 2, 2, 2, 2, 2, 2, 2, 0, 0, 1, 1, 2, 0, 0, 0, 2, 0, 0, 0, 0, 0, 0, 0, 0, 0, 0, 2, 0, 0, 2, 2, 2, 2, 2, 2, 2, 2, 2])]
def zi_ftl (c : Nat) : List Nat := (zi_at zi_fts c).getD []
/-- the kind that a field of a class refers to -/
def zi_fks : List (Nat × List Nat) := [(0, [11, 0, 0]), (1, [7, 0, 0, 0]), (2, [0, 0, 0, 0, 0]), (3, [2, 18, 0, 5]), (4, [0, 6, 5, 0]), (5, [12, 0]), (6, [13, 14, 15, 0, 0, 0, 0]), (8, [2, 16, 17, 0, 0]), (9, [19, 20, 0, 6, 21, 2, 8, 3, 4, 7, 22, 23, 0, 0, 0, 0]), (10, [24, 25, 26, 27, 28, 29, 30, 31, 0, 0, 0, 0, 32, 0, 0, 0, 33, 0, 0, 0, 0, 0, 0, 0, 0, 0, 0, 34, 0, 0, 35, 36, 37, 38, 39, 40, 41, 42, 43])]
def zi_fk (c s : Nat) : Nat := (((zi_at zi_fks c).getD [])[s]?).getD 0
/-- references that change: Gusts.script, Reader.text -/
def zi_mu (c s : Nat) : Bool := (Nat.beq c 3 && Nat.beq s 3) || (Nat.beq c 4 && Nat.beq s 2)
/-- arrays: type of the elements (0 int, 1 long, 2 reference, 3 boolean), kind of the elements, length -/
def zi_ats : List (Nat × Nat × Nat × Nat) := [(11, 0, 0, 35), (12, 0, 0, 40), (13, 2, 1, 4), (14, 0, 0, 40), (15, 2, 7, 40), (16, 2, 7, 7), (17, 0, 0, 7), (18, 2, 7, 7), (19, 2, 5, 6), (20, 2, 5, 4), (21, 2, 6, 3), (22, 0, 0, 6), (23, 0, 0, 4), (24, 0, 0, 6), (25, 0, 0, 240), (26, 0, 0, 4), (27, 0, 0, 320), (28, 0, 0, 356), (29, 0, 0, 1068), (30, 3, 0, 3), (31, 0, 0, 6), (32, 0, 0, 40), (33, 0, 0, 356), (34, 0, 0, 6), (35, 0, 0, 7), (36, 0, 0, 4), (37, 0, 0, 4), (38, 0, 0, 72), (39, 0, 0, 10), (40, 0, 0, 10), (41, 1, 0, 10), (42, 1, 0, 10), (43, 0, 0, 10), (90, 0, 0, 0), (91, 0, 0, 6), (92, 0, 0, 6)]
def zi_ad (c : Nat) : Nat × Nat × Nat := (zi_at zi_ats c).getD (9, 0, 0)
def zi_aty (c : Nat) : Nat := (zi_ad c).1
def zi_ek (c : Nat) : Nat := (zi_ad c).2.1
def zi_ln (c k : Nat) : Nat := if c = 12 then (if k < 6 then 40 else 80) else (zi_ad c).2.2
def zi_len (M : zi_M) (c k : Nat) : Nat := if c = 90 then (M.1 90 1 0).toNatClampNeg else zi_ln c k
/-- which cells there are -/
def zi_cns : List (Nat × Nat) := [(0, 2), (1, 20), (2, 1), (3, 1), (4, 1), (5, 10), (6, 5), (8, 1), (9, 1), (10, 1), (11, 2), (12, 10), (13, 5), (14, 5), (15, 5), (16, 1), (17, 1), (18, 1), (19, 1), (20, 1), (21, 1), (22, 1), (23, 1), (24, 1), (25, 1), (26, 1), (27, 1), (28, 1), (29, 1), (30, 1), (31, 1), (32, 1), (33, 1), (34, 1), (35, 1), (36, 1), (37, 1), (38, 1), (39, 1), (40, 1), (41, 1), (42, 1), (43, 1), (90, 1), (91, 1), (92, 1)]
def zi_ex (c k : Nat) : Bool := if c = 7 then (Nat.blt k 27 || (Nat.ble 30 k && Nat.blt k 37) || Nat.beq k 40 || (Nat.ble 100 k && Nat.blt k 300)) else Nat.blt k ((zi_at zi_cns c).getD 0)
/-- where a reference that never changes leads: of an object's slot, of an array's place -/
def zi_rf (c k s : Nat) : Nat := if c = 13 then 4 * k + s else if c = 15 then 100 + 40 * k + s else if c = 16 then 20 + s else if c = 18 then 30 + s else if c = 19 then s else if c = 20 then 6 + s else if c = 21 then 1 + s else if c = 4 then (if s = 0 then 1 else 4) else if c = 9 then (if s = 9 then 40 else 0) else if c = 0 then k else if c = 1 then k else if c = 5 then k else if c = 6 then k else 0
def zi_gr (M : zi_M) (c k s : Nat) : Option Nat := match zi_mu c s with
  | true => M.2.2 c k s
  | false => some (zi_rf c k s)
/-- reading a field of type ty -/
def zi_rd (M : zi_M) (c k s ty : Nat) : zi_V := if ty = 0 then .inl (M.1 c k s) else if ty = 1 then .inr (.inl (M.2.1 c k s)) else if ty = 3 then .inl (M.1 c k s) else .inr (.inr (zi_fk c s, zi_gr M c k s))
/-- a method: own class's number, name, bytes, locals, what it returns, static, parameters, kind of its answer (0 none, 1 int, 2 long, 3 reference, 4 boolean), the kind of a reference that it answers, its instructions, its cuts (places with the locals that live there) -/
abbrev zi_R : Type := Nat × MethodName × ByteArray × Nat × Option FieldType × Bool × Nat × Nat × Nat × List (Nat × Instr) × List (Nat × List Nat)
abbrev zi_w (r : zi_R) : Nat := r.1
abbrev zi_y (r : zi_R) : MethodName := r.2.1
abbrev zi_by (r : zi_R) : ByteArray := r.2.2.1
abbrev zi_ml (r : zi_R) : Nat := r.2.2.2.1
abbrev zi_rt (r : zi_R) : Option FieldType := r.2.2.2.2.1
abbrev zi_sc (r : zi_R) : Bool := r.2.2.2.2.2.1
abbrev zi_na (r : zi_R) : Nat := r.2.2.2.2.2.2.1
abbrev zi_ak (r : zi_R) : Nat := r.2.2.2.2.2.2.2.1
abbrev zi_rr (r : zi_R) : Nat := r.2.2.2.2.2.2.2.2.1
abbrev zi_cd (r : zi_R) : List (Nat × Instr) := r.2.2.2.2.2.2.2.2.2.1
abbrev zi_cu (r : zi_R) : List (Nat × List Nat) := r.2.2.2.2.2.2.2.2.2.2
/-- an instruction's length (0: a switch) -/
def zi_n : Instr → Nat
  | .iload _ | .lload _ | .aload _ | .istore _ | .lstore _ | .astore _ | .bipush _ | .ldc _ => 2
  | .sipush _ | .ldc_w _ | .ldc2_w _ | .getfield _ | .putfield _ | .getstatic _ | .invokevirtual _ | .invokestatic _ | .ifCond _ _ | .if_icmp _ _ | .ifnull _ | .ifnonnull _ | .goto _ | .iinc _ _ => 3
  | .tableswitch _ _ _ _ => 0
  | _ => 1
/-- taking values off the stack, or out of the locals -/
def zi_1i (S : zi_S) (K : Int32 → zi_S → zi_O) : zi_O := match S with
  | .inl x :: S' => K x S'
  | _ => none
def zi_2i (S : zi_S) (K : Int32 → Int32 → zi_S → zi_O) : zi_O := match S with
  | .inl y :: .inl x :: S' => K x y S'
  | _ => none
def zi_1l (S : zi_S) (K : Int64 → zi_S → zi_O) : zi_O := match S with
  | .inr (.inl x) :: S' => K x S'
  | _ => none
def zi_2l (S : zi_S) (K : Int64 → Int64 → zi_S → zi_O) : zi_O := match S with
  | .inr (.inl y) :: .inr (.inl x) :: S' => K x y S'
  | _ => none
def zi_1r (S : zi_S) (K : Nat → Option Nat → zi_S → zi_O) : zi_O := match S with
  | .inr (.inr (c, o)) :: S' => K c o S'
  | _ => none
def zi_sm (o : Option Nat) (K : Nat → zi_O) : zi_O := match o with
  | some k => K k
  | none => none
def zi_nl (o : Option Nat) (A B : zi_O) : zi_O := match o with
  | some _ => B
  | none => A
def zi_ix (i : Int32) (n : Nat) (K : Nat → zi_O) : zi_O := if i < 0 then none else if n ≤ i.toNatClampNeg then none else K i.toNatClampNeg
def zi_li (L : zi_L) (i : Nat) (K : Int32 → zi_O) : zi_O := match L[i]? with
  | some (some (.inl x)) => K x
  | _ => none
def zi_ll (L : zi_L) (i : Nat) (K : Int64 → zi_O) : zi_O := match L[i]? with
  | some (some (.inr (.inl x))) => K x
  | _ => none
def zi_la (L : zi_L) (i : Nat) (K : Nat → Option Nat → zi_O) : zi_O := match L[i]? with
  | some (some (.inr (.inr (c, o)))) => K c o
  | _ => none
/-- a store: a long just before loses its second half -/
def zi_dl (L : zi_L) (i : Nat) : zi_L := match i with
  | 0 => L
  | k + 1 => match L[k]? with
    | some (some (.inr (.inl _))) => L.set k none
    | _ => L
def zi_p1 (L : zi_L) (i : Nat) (v : zi_V) (K : zi_L → zi_O) : zi_O := match Nat.blt i L.length with
  | true => K ((zi_dl L i).set i (some v))
  | false => none
def zi_p2 (L : zi_L) (i : Nat) (v : zi_V) (K : zi_L → zi_O) : zi_O := match Nat.blt (i + 1) L.length with
  | true => K (((zi_dl L i).set i (some v)).set (i + 1) none)
  | false => none
def zi_to (pc : Nat) (off : Int) (K : Nat → zi_O) : zi_O := match (pc : Int) + off with
  | .ofNat t => K t
  | .negSucc _ => none
def zi_if (c : ClassFile.Cond) (x y : Int32) (A B : zi_O) : zi_O := match c with
  | .eq => if x = y then A else B
  | .ne => if x = y then B else A
  | .lt => if x < y then A else B
  | .ge => if y ≤ x then A else B
  | .gt => if y < x then A else B
  | .le => if x ≤ y then A else B
def zi_bo (x : Int32) (K : zi_O) : zi_O := if x = 0 then K else if x = 1 then K else none
def zi_ct (v : zi_V) : Nat := match v with
  | .inr (.inl _) => 2
  | _ => 1
/-- is the rest of the stack small enough for a call -/
def zi_rs (S : zi_S) (K : zi_O) : zi_O := match Nat.ble (S.map zi_ct).sum 8 with
  | true => K
  | false => none
/-- the arguments off the stack (the last is on top) -/
def zi_pp : Nat → zi_S → List zi_V → (List zi_V → zi_S → zi_O) → zi_O
  | 0, S, acc, K => K acc S
  | n + 1, v :: S, acc, K => zi_pp n S (v :: acc) K
  | _ + 1, [], _, _ => none
/-- the locals with which a method begins -/
def zi_e0 : List zi_V → zi_L
  | [] => []
  | .inr (.inl x) :: t => some (.inr (.inl x)) :: none :: zi_e0 t
  | v :: t => some v :: zi_e0 t
def zi_en (n : Nat) (vs : List zi_V) : zi_L := zi_e0 vs ++ List.replicate (n - (zi_e0 vs).length) none
/-- behind a call -/
def zi_cV (o : zi_O) (K : zi_M → zi_O) : zi_O := match o with
  | some (none, M) => K M
  | _ => none
def zi_cI (o : zi_O) (K : Int32 → zi_M → zi_O) : zi_O := match o with
  | some (some (.inl x), M) => K x M
  | _ => none
def zi_cL (o : zi_O) (K : Int64 → zi_M → zi_O) : zi_O := match o with
  | some (some (.inr (.inl x)), M) => K x M
  | _ => none
def zi_cR (o : zi_O) (c : Nat) (K : Option Nat → zi_M → zi_O) : zi_O := match o with
  | some (some (.inr (.inr (c', k))), M) => if c' = c then K k M else none
  | _ => none
def zi_dn (d : Nat) (K : Nat → zi_O) : zi_O := if d = 0 then none else K (d - 1)
/-- an answer goes on the stack -/
def zi_ca (r : zi_R) (o : zi_O) (S : zi_S) (K : zi_S → zi_M → zi_O) : zi_O := match zi_ak r with
  | 0 => zi_cV o (fun M => K S M)
  | 2 => zi_cL o (fun x M => K (.inr (.inl x) :: S) M)
  | 3 => zi_cR o (zi_rr r) (fun k M => K (.inr (.inr (zi_rr r, k)) :: S) M)
  | _ => zi_cI o (fun x M => K (.inl x :: S) M)
def zi_kl (ks : List Nat) : Nat → zi_L → zi_L
  | _, [] => []
  | i, v :: t => (match ks.any (Nat.beq i) with
    | true => v
    | false => none) :: zi_kl ks (i + 1) t
/-- switch -/
def zi_sw (x : Int32) (dflt lo hi : Int) (offs : Array Int) (K : Int → zi_O) : zi_O := if x.toInt < lo then K dflt else if hi < x.toInt then K dflt else match offs[(x.toInt - lo).toNat]? with
  | some o => K o
  | none => none
/-- System.arraycopy of two int arrays -/
def zi_ac (M : zi_M) (S : zi_S) (K : zi_S → zi_M → zi_O) : zi_O := match S with
  | .inl n :: .inl dp :: .inr (.inr (c1, some k1)) :: .inl sp :: .inr (.inr (c0, some k0)) :: S' =>
    if c0 = 12 then (if c1 = 12 then (if sp < 0 then none else if dp < 0 then none else if n < 0 then none else if sp.toNatClampNeg + n.toNatClampNeg ≤ zi_len M c0 k0 then (if dp.toNatClampNeg + n.toNatClampNeg ≤ zi_len M c1 k1 then zi_rs S' (K S' (zi_cp M c0 k0 c1 k1 sp.toNatClampNeg dp.toNatClampNeg n.toNatClampNeg)) else none) else none) else none) else none
  | _ => none
