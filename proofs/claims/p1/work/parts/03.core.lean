/-! A small machine over cells told by places (a reading of the listing's own instructions). Values: those of the machine, but .ref i is the cell i of the list; .retAddr i for i < 10 an old cell (0 the script, 1 the lists' empty row, 2 the cached Integer 0, 3 the cache, 4 the class of rows of objects), for i ≥ 10 a number that isn't known (facts tell of it); a .double from c_M0 on is such a number as a long. -/
abbrev c_Cell : Type := Option ((Nat × List Value) ⊕ (Nat × List Value))
abbrev c_Hp : Type := List c_Cell
abbrev c_Ls : Type := List (Option Value)
abbrev c_I : Type := Instr × Nat × Nat × Nat
abbrev c_R : Type := Nat × c_Ls × List Value × c_Hp
/-- a fact: which kind of sum, of what, and what it comes to -/
abbrev c_F : Type := Nat × Value × Value × Value
/-- facts, and the script -/
abbrev c_E : Type := List c_F × List Value
def c_M0 : Nat := 18446462598732840960
def c_sz : c_Cell → Nat
  | none => 6
  | some (.inl q) => q.2.length
  | some (.inr q) => q.2.length
def c_msz (h : c_Hp) : Nat := (h.map c_sz).sum
def c_clr (L : c_Ls) (i : Nat) : c_Ls := match i with
  | 0 => L
  | j + 1 => match L[j]? with
    | some (some w) => if w.category = 2 then L.set j none else L
    | _ => L
def c_set (L : c_Ls) (i : Nat) (v : Value) : c_Ls := (c_clr L i).set i (some v)
/-- a value of two places -/
def c_set2 (L : c_Ls) (i : Nat) (v : Value) : c_Ls := ((c_clr L i).set (i + 1) none).set i (some v)
def c_tag : Nat → FieldType
  | 0 => .int
  | 1 => .long
  | 2 => .array .int
  | 3 => .object "java/lang/Object"
  | 4 => .boolean
  | _ => .double
/-- a number, known or not -/
def c_sy : Value → Bool
  | .int _ => true
  | .retAddr i => Nat.ble 10 i
  | _ => false
/-- a reference -/
def c_rf : Value → Bool
  | .ref _ => true
  | .retAddr i => Nat.blt i 10
  | _ => false
/-- a long -/
def c_lg : Value → Bool
  | .long _ => true
  | .double d => Nat.ble c_M0 d.toNat
  | _ => false
def c_db : Value → Bool
  | .double d => Nat.blt d.toNat c_M0
  | _ => false
def c_isR : FieldType → Bool
  | .object _ => true
  | .array _ => true
  | _ => false
def c_okv (t : FieldType) (v : Value) : Bool := match v with
  | .int _ => fits t v && decide (narrow t v = v)
  | .null => c_isR t
  | .ref _ => c_isR t
  | .retAddr i => if i < 10 then c_isR t else decide (t = .int)
  | _ => false
def c_cmp (cd : Jvm.ClassFile.Cond) (x y : Int32) : Bool := match cd with
  | .eq => decide (x = y)
  | .ne => decide (¬ x = y)
  | .lt => decide (x < y)
  | .ge => decide (y ≤ x)
  | .gt => decide (y < x)
  | .le => decide (x ≤ y)
def c_cdn : Jvm.ClassFile.Cond → Nat
  | .eq => 20
  | .ne => 21
  | .lt => 22
  | .ge => 23
  | .gt => 24
  | .le => 25
/-- what a sum of two numbers comes to -/
def c_sem (o : Nat) (x y : Int32) : Option Int32 := match o with
  | 0 => some (x + y)
  | 1 => some (x - y)
  | 2 => some (x * y)
  | 3 => some (x &&& y)
  | 4 => some (x ||| y)
  | 5 => some (x ^^^ y)
  | 6 => some (x <<< (y &&& 31))
  | 7 => some (x >>> (y &&& 31))
  | 8 => some (x.toUInt32 >>> (y.toUInt32 &&& Int32.toUInt32 31)).toInt32
  | 9 => if y = 0 then none else some (x - x / y * y)
  | 10 => if y = 0 then none else some (x / y)
  | 20 => some (if c_cmp .eq x y then 1 else 0)
  | 21 => some (if c_cmp .ne x y then 1 else 0)
  | 22 => some (if c_cmp .lt x y then 1 else 0)
  | 23 => some (if c_cmp .ge x y then 1 else 0)
  | 24 => some (if c_cmp .gt x y then 1 else 0)
  | 25 => some (if c_cmp .le x y then 1 else 0)
  | 30 => some (if x < y then y else x)
  | 31 => some (if y < x then y else x)
  | _ => none
def c_veq : Value → Value → Bool
  | .int x, .int y => decide (x = y)
  | .retAddr x, .retAddr y => Nat.beq x y
  | _, _ => false
def c_lk : List c_F → Nat → Value → Value → Option Value
  | [], _, _, _ => none
  | f :: r, o, x, y => if Nat.beq f.1 o && (c_veq f.2.1 x && c_veq f.2.2.1 y) then some f.2.2.2 else c_lk r o x y
/-- a sum -/
def c_op (E : c_E) (o : Nat) (x y : Value) : Option Value := match x, y with
  | .int a, .int b => match c_sem o a b with
    | some z => some (.int z)
    | none => none
  | _, _ => match c_lk E.1 o x y with
    | some v => if c_sy v then some v else none
    | none => none
def c_b2 (E : c_E) (o n : Nat) (pc : Nat) (L : c_Ls) (st : List Value) (h : c_Hp) : Option c_R := match st with
  | y :: x :: r => match c_op E o x y with
    | some v => some (pc + n, L, v :: r, h)
    | none => none
  | _ => none
def c_one (v : Value) : Bool := match v with
  | .int z => decide (z = 1)
  | _ => false
/-- a branch -/
def c_br (E : c_E) (o : Nat) (t : Nat) (x y : Value) (pc : Nat) (L : c_Ls) (st : List Value) (h : c_Hp) : Option c_R := match c_op E o x y with
  | some (.int z) => some (if z = 1 then t else pc + 3, L, st, h)
  | _ => none
def c_l2 (st : List Value) (f : Int64 → Int64 → Value) (pc : Nat) (L : c_Ls) (h : c_Hp) : Option c_R := match st with
  | .long y :: .long x :: r => some (pc + 1, L, f x y :: r, h)
  | _ => none
def c_ls (st : List Value) (f : Int64 → Int32 → Value) (pc : Nat) (L : c_Ls) (h : c_Hp) : Option c_R := match st with
  | .int y :: .long x :: r => some (pc + 1, L, f x y :: r, h)
  | _ => none
def c_f2 (st : List Value) (f : UInt32 → UInt32 → List Value → Option c_R) : Option c_R := match st with
  | .float y :: .float x :: r => f x y r
  | _ => none
def c_load (k : Value → Bool) (L : c_Ls) (i n pc : Nat) (st : List Value) (h : c_Hp) : Option c_R := match L[i]? with
  | some (some v) => if k v then some (pc + n, L, v :: st, h) else none
  | _ => none
def c_fl : Value → Bool
  | .float _ => true
  | _ => false
def c_store (k : Value → Bool) (L : c_Ls) (i n pc : Nat) (st : List Value) (h : c_Hp) : Option c_R := match st with
  | v :: r => if k v then if i < L.length then some (pc + n, c_set L i v, r, h) else none else none
  | _ => none
def c_store2 (k : Value → Bool) (L : c_Ls) (i n pc : Nat) (st : List Value) (h : c_Hp) : Option c_R := match st with
  | v :: r => if k v then if i + 1 < L.length then some (pc + n, c_set2 L i v, r, h) else none else none
  | _ => none
def c_nn (r : UInt32) : Bool := decide (r &&& 0x7fffffff ≤ 0x7f800000)
def c_fs (h : c_Hp) (a k : Nat) : Option (List Value) := match h[a]? with
  | some (some (.inl q)) => if Nat.beq q.1 k then some q.2 else none
  | _ => none
def c_vs (h : c_Hp) (a t : Nat) : Option (List Value) := match h[a]? with
  | some (some (.inr q)) => if Nat.beq q.1 t then some q.2 else none
  | _ => none
def c_ix (i : Int32) (n : Nat) : Option Nat := if i < 0 then none else if i.toNatClampNeg < n then some i.toNatClampNeg else none
def c_getf (q : c_I) (pc : Nat) (L : c_Ls) (st : List Value) (h : c_Hp) : Option c_R := match st with
  | .ref a :: r => match c_fs h a q.2.1 with
    | some fs => match fs[q.2.2.1]? with
      | some v => some (pc + 3, L, v :: r, h)
      | none => none
    | none => none
  | .retAddr 2 :: r => if q.2.2.2 = 5 then some (pc + 3, L, .int 0 :: r, h) else none
  | _ => none
def c_putf (q : c_I) (pc : Nat) (L : c_Ls) (st : List Value) (h : c_Hp) : Option c_R := match st with
  | v :: .ref a :: r => match c_fs h a q.2.1 with
    | some fs => if c_okv (c_ty q.2.1 q.2.2.1) v = true then if q.2.2.1 < fs.length then some (pc + 3, L, r, h.set a (some (.inl (q.2.1, fs.set q.2.2.1 v)))) else none else none
    | none => none
  | _ => none
/-- an element of a row with the tag t -/
def c_ald (t : Nat) (k : Value → Bool) (pc : Nat) (L : c_Ls) (st : List Value) (h : c_Hp) : Option c_R := match st with
  | .int i :: .ref a :: r => match c_vs h a t with
    | some vs => match c_ix i vs.length with
      | some j => match vs[j]? with
        | some v => if k v then some (pc + 1, L, v :: r, h) else none
        | none => none
      | none => none
    | none => none
  | _ => none
def c_iald (E : c_E) (pc : Nat) (L : c_Ls) (st : List Value) (h : c_Hp) : Option c_R := match st with
  | .int i :: .retAddr 0 :: r => match c_ix i E.2.length with
    | some j => match E.2[j]? with
      | some x => if c_sy x then some (pc + 1, L, x :: r, h) else none
      | none => none
    | none => none
  | _ => c_ald 0 c_sy pc L st h
def c_aald (q : c_I) (pc : Nat) (L : c_Ls) (st : List Value) (h : c_Hp) : Option c_R := match st with
  | .int i :: .retAddr 3 :: r => if i = 128 then some (pc + 1, L, .retAddr 2 :: r, h) else none
  | _ => if q.2.1 = 2 then c_ald 2 c_rf pc L st h else if q.2.1 = 3 then c_ald 3 (fun v => c_rf v || decide (v = .null)) pc L st h else none
def c_ast (t : Nat) (k : Value → Bool) (pc : Nat) (L : c_Ls) (st : List Value) (h : c_Hp) : Option c_R := match st with
  | x :: .int i :: .ref a :: r => match c_vs h a t with
    | some vs => match c_ix i vs.length with
      | some j => if k x then some (pc + 1, L, r, h.set a (some (.inr (t, vs.set j x)))) else none
      | none => none
    | none => none
  | _ => none
def c_b01 (v : Value) : Bool := match v with
  | .int z => decide (z = 0) || decide (z = 1)
  | _ => false
/-- what a row of objects takes: a row of ints, the Integer 0, null -/
def c_ok3 (h : c_Hp) (v : Value) : Bool := match v with
  | .ref x => (c_vs h x 0).isSome
  | .retAddr i => Nat.beq i 2
  | .null => true
  | _ => false
def c_aast (q : c_I) (pc : Nat) (L : c_Ls) (st : List Value) (h : c_Hp) : Option c_R :=
  if q.2.1 = 3 then c_ast 3 (c_ok3 h) pc L st h else none
def c_alen (E : c_E) (q : c_I) (pc : Nat) (L : c_Ls) (st : List Value) (h : c_Hp) : Option c_R := match st with
  | .ref a :: r => match h[a]? with
    | some (some (.inr vs)) => if vs.1 < 6 then some (pc + 1, L, .int (Int32.ofNat vs.2.length) :: r, h) else none
    | _ => none
  | .retAddr 0 :: r => some (pc + 1, L, .int (Int32.ofNat E.2.length) :: r, h)
  | .retAddr 1 :: r => some (pc + 1, L, .int 0 :: r, h)
  | _ => none
def c_dfl (k n : Nat) : List Value := (List.range n).map (fun j => defaultValue (c_ty k j))
def c_newa (q : c_I) (pc n9 : Nat) (L : c_Ls) (st : List Value) (h : c_Hp) : Option c_R := match st with
  | .int n :: r => if n < 0 then none else if n.toNatClampNeg ≤ 100000 then some (pc + n9, L, .ref h.length :: r, h ++ [some (.inr (q.2.1, List.replicate n.toNatClampNeg (defaultValue (c_tag q.2.1))))]) else none
  | _ => none
def c_mnew (pc : Nat) (L : c_Ls) (st : List Value) (h : c_Hp) : Option c_R := match st with
  | .int k :: .int n :: r => if n < 0 then none else if k < 0 then none else if n.toNatClampNeg ≤ 100000 then if k.toNatClampNeg ≤ 100000 then
      some (pc + 4, L, .ref h.length :: r, (h ++ [some (.inr (2, (List.range n.toNatClampNeg).map (fun j => Value.ref (h.length + 1 + j))))]) ++ List.replicate n.toNatClampNeg (some (.inr (0, List.replicate k.toNatClampNeg (Value.int 0)))))
      else none else none
  | _ => none
/-- p3 = 0: a row with the tag; p3 = 1: an Integer -/
def c_cast (q : c_I) (pc : Nat) (L : c_Ls) (st : List Value) (h : c_Hp) : Option c_R := match st with
  | .ref a :: r => if q.2.2.2 = 0 then match c_vs h a q.2.1 with
    | some _ => some (pc + 3, L, .ref a :: r, h)
    | none => none
    else none
  | .retAddr 2 :: r => if q.2.2.2 = 1 then some (pc + 3, L, .retAddr 2 :: r, h) else none
  | _ => none
def c_sum8 (r : List Value) : Bool := Nat.ble ((r.map fun v => v.category).sum) 8
/-- a row's n values from the place s on laid into another's from the place d on -/
def c_lay (vs ws : List Value) (s d n : Nat) : List Value := ws.take d ++ ((vs.drop s).take n ++ ws.drop (d + n))
def c_cpy (t : Nat) (k : Value → Bool) (sp dp n : Int32) (a a2 : Nat) (pc : Nat) (L : c_Ls) (r : List Value) (h : c_Hp) : Option c_R := match c_vs h a t, c_vs h a2 t with
  | some vs, some ws => if sp < 0 then none else if dp < 0 then none else if n < 0 then none else
      if sp.toNatClampNeg + n.toNatClampNeg ≤ vs.length then if dp.toNatClampNeg + n.toNatClampNeg ≤ ws.length then if ((vs.drop sp.toNatClampNeg).take n.toNatClampNeg).all k then if c_sum8 r then
        some (pc + 3, L, r, h.set a2 (some (.inr (t, c_lay vs ws sp.toNatClampNeg dp.toNatClampNeg n.toNatClampNeg)))) else none else none else none else none
  | _, _ => none
/-- calls that are one step here: 6 Object's own beginning, 7 Math.max, 8 Math.min, 9 clone of a row of numbers, 10 a float's bits, 11 the class of a row of objects, 12 a copy of numbers or of references -/
def c_call1 (E : c_E) (q : c_I) (pc : Nat) (L : c_Ls) (st : List Value) (h : c_Hp) : Option c_R := match q.2.2.2 with
  | 6 => match st with
    | .ref _ :: r => if c_sum8 r then some (pc + 3, L, r, h) else none
    | _ => none
  | 7 => match st with
    | y :: x :: r => if c_sum8 r then match c_op E 30 x y with
      | some v => some (pc + 3, L, v :: r, h)
      | none => none
      else none
    | _ => none
  | 8 => match st with
    | y :: x :: r => if c_sum8 r then match c_op E 31 x y with
      | some v => some (pc + 3, L, v :: r, h)
      | none => none
      else none
    | _ => none
  | 9 => match st with
    | .ref a :: r => match c_vs h a 0 with
      | some vs => if c_sum8 r then if vs.all c_sy then some (pc + 3, L, .ref h.length :: r, h ++ [some (.inr (0, vs))]) else none else none
      | none => none
    | _ => none
  | 10 => match st with
    | .float x :: r => if c_sum8 r then some (pc + 3, L, .int x.toInt32 :: r, h) else none
    | _ => none
  | 11 => match st with
    | .ref a :: r => match c_vs h a 3 with
      | some _ => if c_sum8 r then some (pc + 3, L, .retAddr 4 :: r, h) else none
      | none => none
    | _ => none
  | 12 => match st with
    | .int n :: .int dp :: .ref a2 :: .int sp :: .ref a :: r => match c_vs h a 0 with
      | some _ => c_cpy 0 c_sy sp dp n a a2 pc L r h
      | none => c_cpy 3 (c_ok3 h) sp dp n a a2 pc L r h
    | _ => none
  | _ => none
def c_acmp (x y : Value) : Option Bool := match x, y with
  | .retAddr i, .retAddr j => if Nat.blt i 10 && Nat.beq i j then some true else none
  | .ref _, .retAddr i => if Nat.blt i 4 then some false else none
  | _, _ => none
def c_sw (offs : List Int) (lo : Int) (x : Int32) : Option Int := if x.toInt < lo then none else offs[(x.toInt - lo).toNat]?
def c_stp (E : c_E) (q : c_I) (pc : Nat) (L : c_Ls) (st : List Value) (h : c_Hp) : Option c_R :=
  match q.1 with
  | .iconst n => some (pc + 1, L, .int (Int32.ofInt n) :: st, h)
  | .bipush n => some (pc + 2, L, .int (Int8.ofInt n).toInt32 :: st, h)
  | .sipush n => some (pc + 3, L, .int (Int16.ofInt n).toInt32 :: st, h)
  | .lconst n => some (pc + 1, L, .long (Int64.ofNat (n : Nat)) :: st, h)
  | .ldc _ => if q.2.2.2 = 0 then some (pc + 2, L, .int (Int32.ofNat q.2.1) :: st, h) else if q.2.2.2 = 2 then some (pc + 2, L, .retAddr 4 :: st, h) else none
  | .ldc_w _ => if q.2.2.2 = 0 then some (pc + 3, L, .int (Int32.ofNat q.2.1) :: st, h) else none
  | .ldc2_w _ => if q.2.2.2 = 0 then some (pc + 3, L, .long (Int64.ofNat q.2.1) :: st, h) else none
  | .fconst 0 => some (pc + 1, L, .float 0 :: st, h)
  | .dconst 0 => some (pc + 1, L, .double FP.dconst0 :: st, h)
  | .aconst_null => some (pc + 1, L, .null :: st, h)
  | .iload_n k => c_load c_sy L k.val 1 pc st h
  | .iload k => c_load c_sy L k 2 pc st h
  | .lload_n k => c_load c_lg L k.val 1 pc st h
  | .lload k => c_load c_lg L k 2 pc st h
  | .fload_n k => c_load c_fl L k.val 1 pc st h
  | .fload k => c_load c_fl L k 2 pc st h
  | .aload_n k => c_load c_rf L k.val 1 pc st h
  | .aload k => c_load c_rf L k 2 pc st h
  | .istore_n k => c_store c_sy L k.val 1 pc st h
  | .istore k => c_store c_sy L k 2 pc st h
  | .fstore_n k => c_store c_fl L k.val 1 pc st h
  | .fstore k => c_store c_fl L k 2 pc st h
  | .astore_n k => c_store c_rf L k.val 1 pc st h
  | .astore k => c_store c_rf L k 2 pc st h
  | .lstore_n k => c_store2 c_lg L k.val 1 pc st h
  | .lstore k => c_store2 c_lg L k 2 pc st h
  | .dstore k => c_store2 c_db L k 2 pc st h
  | .iinc i n => match L[i]? with
    | some (some (.int x)) => some (pc + 3, c_set L i (.int (x + Int32.ofInt n)), st, h)
    | _ => none
  | .iadd => c_b2 E 0 1 pc L st h
  | .isub => c_b2 E 1 1 pc L st h
  | .imul => c_b2 E 2 1 pc L st h
  | .iand => c_b2 E 3 1 pc L st h
  | .ior => c_b2 E 4 1 pc L st h
  | .ixor => c_b2 E 5 1 pc L st h
  | .ishl => c_b2 E 6 1 pc L st h
  | .ishr => c_b2 E 7 1 pc L st h
  | .iushr => c_b2 E 8 1 pc L st h
  | .irem => c_b2 E 9 1 pc L st h
  | .idiv => c_b2 E 10 1 pc L st h
  | .ladd => c_l2 st (fun x y => .long (x + y)) pc L h
  | .lsub => c_l2 st (fun x y => .long (x - y)) pc L h
  | .lmul => c_l2 st (fun x y => .long (x * y)) pc L h
  | .land => c_l2 st (fun x y => .long (x &&& y)) pc L h
  | .lor => c_l2 st (fun x y => .long (x ||| y)) pc L h
  | .lshl => c_ls st (fun x y => .long (x <<< (y.toInt64 &&& 63))) pc L h
  | .lushr => c_ls st (fun x y => .long (x.toUInt64 >>> (y.toInt64.toUInt64 &&& Int64.toUInt64 63)).toInt64) pc L h
  | .lcmp => match st with
    | .long y :: .long x :: r => some (pc + 1, L, .int (lg_cmp x y) :: r, h)
    | .double y :: .double x :: r => if Nat.ble c_M0 x.toNat && Nat.beq x.toNat y.toNat then some (pc + 1, L, .int 0 :: r, h) else none
    | _ => none
  | .i2l => match st with
    | .int x :: r => some (pc + 1, L, .long x.toInt64 :: r, h)
    | .retAddr i :: r => if Nat.ble 10 i && Nat.ble i 1000 then some (pc + 1, L, .double (UInt64.ofNat (c_M0 + i)) :: r, h) else none
    | _ => none
  | .l2i => match st with
    | .long x :: r => some (pc + 1, L, .int x.toInt32 :: r, h)
    | _ => none
  | .if_icmp cd _ => match st with
    | y :: x :: r => c_br E (c_cdn cd) q.2.1 x y pc L r h
    | _ => none
  | .ifCond cd _ => match st with
    | x :: r => c_br E (c_cdn cd) q.2.1 x (.int 0) pc L r h
    | _ => none
  | .if_acmp cd _ => match st with
    | y :: x :: r => match c_acmp x y with
      | some z => match cd with
        | .eq => some (if z then q.2.1 else pc + 3, L, r, h)
        | .ne => some (if z then pc + 3 else q.2.1, L, r, h)
      | none => none
    | _ => none
  | .ifnull _ => match st with
    | .ref _ :: r => some (pc + 3, L, r, h)
    | _ => none
  | .ifnonnull _ => match st with
    | .ref _ :: r => some (q.2.1, L, r, h)
    | _ => none
  | .goto _ => some (q.2.1, L, st, h)
  | .tableswitch d lo _ offs => match st with
    | .int x :: r => match c_sw offs.toList lo x with
      | some o => some (((pc : Int) + o).toNat, L, r, h)
      | none => some (((pc : Int) + d).toNat, L, r, h)
    | _ => none
  | .dup => match st with
    | v :: r => if v.category = 1 then some (pc + 1, L, v :: v :: r, h) else none
    | _ => none
  | .dup_x1 => match st with
    | v :: w :: r => if v.category = 1 then if w.category = 1 then some (pc + 1, L, v :: w :: v :: r, h) else none else none
    | _ => none
  | .dup2 => match st with
    | v :: w :: r => if v.category = 1 then if w.category = 1 then some (pc + 1, L, v :: w :: v :: w :: r, h) else none else none
    | _ => none
  | .pop => match st with
    | v :: r => if v.category = 1 then some (pc + 1, L, r, h) else none
    | _ => none
  | .i2f => match st with
    | .int x :: r => some (pc + 1, L, .float (FP.i2f x) :: r, h)
    | _ => none
  | .fdiv => c_f2 st (fun x y r => if c_nn (FP.fdiv x y) then some (pc + 1, L, .float (FP.fdiv x y) :: r, h) else none)
  | .fcmp op => c_f2 st (fun x y r => some (pc + 1, L, .int (Op.cmpValue (FP.fcmp x y) op) :: r, h))
  | .getfield _ => c_getf q pc L st h
  | .putfield _ => c_putf q pc L st h
  | .getstatic _ => match q.2.1 with
    | 0 => some (pc + 3, L, .int 127 :: st, h)
    | 1 => some (pc + 3, L, .retAddr 1 :: st, h)
    | 3 => some (pc + 3, L, .retAddr 3 :: st, h)
    | _ => none
  | .iaload => c_iald E pc L st h
  | .laload => c_ald 1 c_lg pc L st h
  | .baload => c_ald 4 c_b01 pc L st h
  | .aaload => c_aald q pc L st h
  | .iastore => c_ast 0 c_sy pc L st h
  | .lastore => c_ast 1 c_lg pc L st h
  | .bastore => c_ast 4 c_b01 pc L st h
  | .aastore => c_aast q pc L st h
  | .arraylength => c_alen E q pc L st h
  | .new _ => some (pc + 3, L, .ref h.length :: st, h ++ [some (.inl (q.2.1, c_dfl q.2.1 (c_nf q.2.1)))])
  | .newarray _ => c_newa q pc 2 L st h
  | .anewarray _ => c_newa q pc 3 L st h
  | .multianewarray _ _ => c_mnew pc L st h
  | .checkcast _ => c_cast q pc L st h
  | .invokespecial _ => c_call1 E q pc L st h
  | .invokestatic _ => c_call1 E q pc L st h
  | .invokevirtual _ => c_call1 E q pc L st h
  | _ => none
/-- y, code, locals, what it returns, its table, frames, room of locals, class place, catches (pc, exception, place in the table, local, length), instructions in pieces of 16 places -/
abbrev c_M : Type := MethodName × ByteArray × Nat × Option FieldType × List (Nat × Nat × Nat × Nat) × Nat × Nat × Nat × List (Nat × Nat × Nat × Nat × Nat) × List (List (Nat × c_I))
def c_my (q : c_M) : MethodName := q.1
def c_mc (q : c_M) : ByteArray := q.2.1
def c_mL (q : c_M) : Nat := q.2.2.1
def c_mr (q : c_M) : Option FieldType := q.2.2.2.1
def c_mh (q : c_M) : List (Nat × Nat × Nat × Nat) := q.2.2.2.2.1
def c_mF (q : c_M) : Nat := q.2.2.2.2.2.1
def c_mR (q : c_M) : Nat := q.2.2.2.2.2.2.1
def c_mk (q : c_M) : Nat := q.2.2.2.2.2.2.2.1
def c_mx (q : c_M) : List (Nat × Nat × Nat × Nat × Nat) := q.2.2.2.2.2.2.2.2.1
def c_mi (q : c_M) : List (List (Nat × c_I)) := q.2.2.2.2.2.2.2.2.2
def c_fd (pc : Nat) : List (Nat × c_I) → Option c_I
  | [] => none
  | q :: r => if Nat.beq q.1 pc = true then some q.2 else c_fd pc r
def c_at (pc : Nat) (l : List (List (Nat × c_I))) : Option c_I := match l[pc / 16]? with
  | some r => c_fd pc r
  | none => none
def c_cat (pc E : Nat) : List (Nat × Nat × Nat × Nat × Nat) → Option (Nat × Nat × Nat)
  | [] => none
  | q :: r => if Nat.beq q.1 pc && Nat.beq q.2.1 E then some q.2.2 else c_cat pc E r
/-- 0 a step, 1 2 3 6 7 a return, 4 a call, 5 a throw -/
def c_kd (q : c_I) : Nat := match q.1 with
  | .ireturn => 1
  | .return_ => 2
  | .areturn => 3
  | .lreturn => 6
  | .dreturn => 7
  | .invokestatic _ => if q.2.2.2 < 6 then 4 else 0
  | .invokevirtual _ => if q.2.2.2 < 6 then 4 else 0
  | .invokespecial _ => if q.2.2.2 < 6 then 4 else 0
  | .new _ => if q.2.2.2 = 1 then 5 else 0
  | _ => 0
def c_ent (args : List Value) (n : Nat) : c_Ls := let l := args.flatMap (fun v => if v.category = 2 then [some v, none] else [some v]); l ++ List.replicate (n - l.length) none
def c_isS (q : c_I) : Bool := match q.1 with
  | .invokestatic _ => true
  | _ => false
def c_isI (q : c_I) : Bool := match q.1 with
  | .invokespecial _ => true
  | _ => false
abbrev c_O : Type := Option Value ⊕ Nat
/-- the receiver: 100 for Integer's class -/
def c_rcv (h : c_Hp) (k : Nat) (q : c_I) (as : List Value) : Bool := if c_isS q then true else match as with
  | .ref a :: _ => if c_isI q then true else (c_fs h a k).isSome
  | .retAddr 2 :: _ => !c_isI q && Nat.beq k 100
  | _ => false
def c_cn (q : c_I) : Nat := if c_isS q then q.2.2.1 else q.2.2.1 + 1
/-- a call's parts: arguments (the receiver first), and what stays -/
def c_prt (md : c_M) (q : c_I) (st : List Value) (h : c_Hp) : Option (List Value × List Value) :=
  if st.length < c_cn q then none else
    let as := (st.take (c_cn q)).reverse
    let rest := st.drop (c_cn q)
    if c_sum8 rest then if c_rcv h (c_mk md) q as then if (c_ent as (c_mL md)).length = c_mL md then some (as, rest) else none else none else none
/-- what is handed back -/
def c_rtn (md : c_M) (k : Nat) (st : List Value) : Option (Option Value) := match st with
  | [] => match k, c_mr md with
    | 2, none => some none
    | _, _ => none
  | [v] => match k, c_mr md with
    | 1, some t => match v with
      | .int x => if narrow t (.int x) = .int x then some (some v) else none
      | .retAddr i => if Nat.ble 10 i && decide (t = .int) then some (some v) else none
      | _ => none
    | 3, some t => if c_isR t && c_rf v then some (some v) else none
    | 6, some t => if decide (t = .long) && c_lg v then some (some v) else none
    | 7, some t => if decide (t = .double) && c_db v then some (some v) else none
    | _, _ => none
  | _ => none
def c_go (P : List c_M) (E : c_E) : Nat → c_M → Nat → c_Ls → List Value → c_Hp → Option (c_O × c_Hp)
  | 0, _, _, _, _, _ => none
  | n + 1, md, pc, L, st, h => match c_at pc (c_mi md) with
    | none => none
    | some q => match c_kd q with
      | 0 => match c_stp E q pc L st h with
        | some r => c_go P E n md r.1 r.2.1 r.2.2.1 r.2.2.2
        | none => none
      | 4 => match P[q.2.1]? with
        | none => none
        | some mz => match c_prt mz q st h with
          | none => none
          | some ar => match c_go P E n mz 0 (c_ent ar.1 (c_mL mz)) [] h with
            | some (.inl v, h1) => c_go P E n md (pc + 3) L (v.toList ++ ar.2) h1
            | some (.inr X, h1) => match c_cat pc X (c_mx md) with
              | some w => c_go P E n md (((c_mh md).getD w.1 (0, 0, 0, 0)).2.2.1 + w.2.2) ((c_clr L w.2.1).set w.2.1 none) [] h1
              | none => if (c_mh md).isEmpty then some (.inr X, h1) else none
            | none => none
      | 5 => if (c_mh md).isEmpty && c_sum8 st then some (.inr q.2.1, h ++ [none]) else none
      | k => match c_rtn md k st with
        | some v => some (.inl v, h)
        | none => none
