/-! A small machine over cells told by places (a reading of the listing's own instructions), and that the machine does what it does. -/
abbrev c_Cell : Type := Option ((Nat × List Value) ⊕ (Nat × List Value))
abbrev c_Hp : Type := List c_Cell
abbrev c_Ls : Type := List (Option Value)
abbrev c_I : Type := Instr × Nat × Nat × Nat
abbrev c_R : Type := Nat × c_Ls × List Value × c_Hp
def c_sz : c_Cell → Nat
  | none => 6
  | some (.inl q) => q.2.length
  | some (.inr q) => q.2.length
def c_msz (h : c_Hp) : Nat := (h.map c_sz).sum
def c_clr (L : c_Ls) (i : Nat) : c_Ls := match i with
  | 0 => L
  | j + 1 => match L[j]? with
    | some (some w) => if w.category = 2 then L.set j none else L
    | _ => L
def c_set (L : c_Ls) (i : Nat) (v : Value) : c_Ls := (c_clr L i).set i (some v)
def c_tag : Nat → FieldType
  | 0 => .int
  | 1 => .long
  | 2 => .array .int
  | _ => .double
def c_okv (t : FieldType) (v : Value) : Bool := fits t v && decide (narrow t v = v)
def c_cmp (cd : Jvm.ClassFile.Cond) (x y : Int32) : Bool := match cd with
  | .eq => decide (x = y)
  | .ne => decide (¬ x = y)
  | .lt => decide (x < y)
  | .ge => decide (y ≤ x)
  | .gt => decide (y < x)
  | .le => decide (x ≤ y)
def c_s1 (st : List Value) (f : Int32 → List Value → Option c_R) : Option c_R := match st with
  | .int x :: r => f x r
  | _ => none
def c_s2 (st : List Value) (f : Int32 → Int32 → List Value → Option c_R) : Option c_R := match st with
  | .int y :: .int x :: r => f x y r
  | _ => none
def c_f1 (st : List Value) (f : UInt32 → List Value → Option c_R) : Option c_R := match st with
  | .float x :: r => f x r
  | _ => none
def c_f2 (st : List Value) (f : UInt32 → UInt32 → List Value → Option c_R) : Option c_R := match st with
  | .float y :: .float x :: r => f x y r
  | _ => none
def c_iload (L : c_Ls) (i n pc : Nat) (st : List Value) (h : c_Hp) : Option c_R := match L[i]? with
  | some (some (.int x)) => some (pc + n, L, .int x :: st, h)
  | _ => none
def c_fload (L : c_Ls) (i n pc : Nat) (st : List Value) (h : c_Hp) : Option c_R := match L[i]? with
  | some (some (.float x)) => some (pc + n, L, .float x :: st, h)
  | _ => none
def c_aload (L : c_Ls) (i n pc : Nat) (st : List Value) (h : c_Hp) : Option c_R := match L[i]? with
  | some (some (.ref x)) => some (pc + n, L, .ref x :: st, h)
  | some (some (.retAddr x)) => some (pc + n, L, .retAddr x :: st, h)
  | _ => none
def c_istore (L : c_Ls) (i n pc : Nat) (st : List Value) (h : c_Hp) : Option c_R := match st with
  | .int x :: r => if i < L.length then some (pc + n, c_set L i (.int x), r, h) else none
  | _ => none
def c_fstore (L : c_Ls) (i n pc : Nat) (st : List Value) (h : c_Hp) : Option c_R := match st with
  | .float x :: r => if i < L.length then some (pc + n, c_set L i (.float x), r, h) else none
  | _ => none
def c_astore (L : c_Ls) (i n pc : Nat) (st : List Value) (h : c_Hp) : Option c_R := match st with
  | .ref x :: r => if i < L.length then some (pc + n, c_set L i (.ref x), r, h) else none
  | _ => none
def c_nn (r : UInt32) : Bool := decide (r &&& 0x7fffffff ≤ 0x7f800000)
def c_fs (h : c_Hp) (a k : Nat) : Option (List Value) := match h[a]? with
  | some (some (.inl q)) => if q.1 = k then some q.2 else none
  | _ => none
def c_vs (h : c_Hp) (a t : Nat) : Option (List Value) := match h[a]? with
  | some (some (.inr q)) => if q.1 = t then some q.2 else none
  | _ => none
def c_ix (i : Int32) (n : Nat) : Option Nat := if i < 0 then none else if i.toNatClampNeg < n then some i.toNatClampNeg else none
def c_getf (q : c_I) (pc : Nat) (L : c_Ls) (st : List Value) (h : c_Hp) : Option c_R := match st with
  | .ref a :: r => match c_fs h a q.2.1 with
    | some fs => match fs[q.2.2.1]? with
      | some v => some (pc + 3, L, v :: r, h)
      | none => none
    | none => none
  | _ => none
def c_putf (ty : Nat → Nat → FieldType) (q : c_I) (pc : Nat) (L : c_Ls) (st : List Value) (h : c_Hp) : Option c_R := match st with
  | v :: .ref a :: r => match c_fs h a q.2.1 with
    | some fs => if c_okv (ty q.2.1 q.2.2.1) v = true then if q.2.2.1 < fs.length then some (pc + 3, L, r, h.set a (some (.inl (q.2.1, fs.set q.2.2.1 v)))) else none else none
    | none => none
  | _ => none
def c_iald (X : List Int32) (pc : Nat) (L : c_Ls) (st : List Value) (h : c_Hp) : Option c_R := match st with
  | .int i :: .ref a :: r => match c_vs h a 0 with
    | some vs => match c_ix i vs.length with
      | some j => match vs[j]? with
        | some (.int x) => some (pc + 1, L, .int x :: r, h)
        | _ => none
      | none => none
    | none => none
  | .int i :: .retAddr _ :: r => match c_ix i X.length with
    | some j => match X[j]? with
      | some x => some (pc + 1, L, .int x :: r, h)
      | none => none
    | none => none
  | _ => none
def c_aald (pc : Nat) (L : c_Ls) (st : List Value) (h : c_Hp) : Option c_R := match st with
  | .int i :: .ref a :: r => match c_vs h a 2 with
    | some vs => match c_ix i vs.length with
      | some j => match vs[j]? with
        | some (.ref x) => some (pc + 1, L, .ref x :: r, h)
        | _ => none
      | none => none
    | none => none
  | _ => none
def c_iast (pc : Nat) (L : c_Ls) (st : List Value) (h : c_Hp) : Option c_R := match st with
  | .int x :: .int i :: .ref a :: r => match c_vs h a 0 with
    | some vs => match c_ix i vs.length with
      | some j => some (pc + 1, L, r, h.set a (some (.inr (0, vs.set j (.int x)))))
      | none => none
    | none => none
  | _ => none
def c_aast (pc : Nat) (L : c_Ls) (st : List Value) (h : c_Hp) : Option c_R := match st with
  | .ref x :: .int i :: .ref a :: r => match c_vs h a 2 with
    | some vs => match c_vs h x 0 with
      | some _ => match c_ix i vs.length with
        | some j => some (pc + 1, L, r, h.set a (some (.inr (2, vs.set j (.ref x)))))
        | none => none
      | none => none
    | none => none
  | _ => none
def c_alen (X : List Int32) (q : c_I) (pc : Nat) (L : c_Ls) (st : List Value) (h : c_Hp) : Option c_R := match st with
  | .ref a :: r => match c_vs h a q.2.1 with
    | some vs => some (pc + 1, L, .int (Int32.ofNat vs.length) :: r, h)
    | none => none
  | .retAddr _ :: r => some (pc + 1, L, .int (Int32.ofNat X.length) :: r, h)
  | _ => none
def c_dfl (ty : Nat → Nat → FieldType) (k n : Nat) : List Value := (List.range n).map (fun j => defaultValue (ty k j))
def c_newa (q : c_I) (pc : Nat) (L : c_Ls) (st : List Value) (h : c_Hp) : Option c_R := match st with
  | .int n :: r => if n < 0 then none else if n.toNatClampNeg ≤ 100000 then some (pc + 2, L, .ref h.length :: r, h ++ [some (.inr (q.2.1, List.replicate n.toNatClampNeg (defaultValue (c_tag q.2.1))))]) else none
  | _ => none
def c_mnew (pc : Nat) (L : c_Ls) (st : List Value) (h : c_Hp) : Option c_R := match st with
  | .int k :: .int n :: r => if n < 0 then none else if k < 0 then none else if n.toNatClampNeg ≤ 100000 then if k.toNatClampNeg ≤ 100000 then
      some (pc + 4, L, .ref h.length :: r, (h ++ [some (.inr (2, (List.range n.toNatClampNeg).map (fun j => Value.ref (h.length + 1 + j))))]) ++ List.replicate n.toNatClampNeg (some (.inr (0, List.replicate k.toNatClampNeg (Value.int 0)))))
      else none else none
  | _ => none
def c_cast (q : c_I) (pc : Nat) (L : c_Ls) (st : List Value) (h : c_Hp) : Option c_R := match st with
  | .ref a :: r => match c_vs h a q.2.1 with
    | some _ => some (pc + 3, L, .ref a :: r, h)
    | none => none
  | _ => none
def c_isi : Value → Bool
  | .int _ => true
  | _ => false
/-- calls that are one step here: 6 Object's own beginning, 7 Math.max, 8 Math.min, 9 clone of a row of numbers, 10 a float's bits -/
def c_call1 (q : c_I) (pc : Nat) (L : c_Ls) (st : List Value) (h : c_Hp) : Option c_R := match q.2.2.2 with
  | 6 => match st with
    | .ref _ :: r => if (r.map fun v => v.category).sum ≤ 8 then some (pc + 3, L, r, h) else none
    | _ => none
  | 7 => match st with
    | .int y :: .int x :: r => if (r.map fun v => v.category).sum ≤ 8 then some (pc + 3, L, .int (if x < y then y else x) :: r, h) else none
    | _ => none
  | 8 => match st with
    | .int y :: .int x :: r => if (r.map fun v => v.category).sum ≤ 8 then some (pc + 3, L, .int (if y < x then y else x) :: r, h) else none
    | _ => none
  | 9 => match st with
    | .ref a :: r => match c_vs h a 0 with
      | some vs => if (r.map fun v => v.category).sum ≤ 8 then if vs.all c_isi then some (pc + 3, L, .ref h.length :: r, h ++ [some (.inr (0, vs))]) else none else none
      | none => none
    | _ => none
  | 10 => match st with
    | .float x :: r => if (r.map fun v => v.category).sum ≤ 8 then some (pc + 3, L, .int x.toInt32 :: r, h) else none
    | _ => none
  | _ => none
def c_stp (ty : Nat → Nat → FieldType) (nf : Nat → Nat) (X : List Int32) (q : c_I) (pc : Nat) (L : c_Ls) (st : List Value) (h : c_Hp) : Option c_R :=
  match q.1 with
  | .iconst n => some (pc + 1, L, .int (Int32.ofInt n) :: st, h)
  | .bipush n => some (pc + 2, L, .int (Int8.ofInt n).toInt32 :: st, h)
  | .sipush n => some (pc + 3, L, .int (Int16.ofInt n).toInt32 :: st, h)
  | .ldc _ => if q.2.2.2 = 0 then some (pc + 2, L, .int (Int32.ofNat q.2.1) :: st, h) else some (pc + 2, L, .float (UInt32.ofNat q.2.1) :: st, h)
  | .ldc_w _ => if q.2.2.2 = 0 then some (pc + 3, L, .int (Int32.ofNat q.2.1) :: st, h) else some (pc + 3, L, .float (UInt32.ofNat q.2.1) :: st, h)
  | .fconst 0 => some (pc + 1, L, .float 0 :: st, h)
  | .fconst 1 => some (pc + 1, L, .float 0x3f800000 :: st, h)
  | .fconst 2 => some (pc + 1, L, .float 0x40000000 :: st, h)
  | .iload_n k => c_iload L k.val 1 pc st h
  | .iload k => c_iload L k 2 pc st h
  | .fload_n k => c_fload L k.val 1 pc st h
  | .fload k => c_fload L k 2 pc st h
  | .aload_n k => c_aload L k.val 1 pc st h
  | .aload k => c_aload L k 2 pc st h
  | .istore_n k => c_istore L k.val 1 pc st h
  | .istore k => c_istore L k 2 pc st h
  | .fstore_n k => c_fstore L k.val 1 pc st h
  | .fstore k => c_fstore L k 2 pc st h
  | .astore_n k => c_astore L k.val 1 pc st h
  | .astore k => c_astore L k 2 pc st h
  | .iinc i n => match L[i]? with
    | some (some (.int x)) => some (pc + 3, c_set L i (.int (x + Int32.ofInt n)), st, h)
    | _ => none
  | .iadd => c_s2 st (fun x y r => some (pc + 1, L, .int (x + y) :: r, h))
  | .isub => c_s2 st (fun x y r => some (pc + 1, L, .int (x - y) :: r, h))
  | .imul => c_s2 st (fun x y r => some (pc + 1, L, .int (x * y) :: r, h))
  | .iand => c_s2 st (fun x y r => some (pc + 1, L, .int (x &&& y) :: r, h))
  | .ior => c_s2 st (fun x y r => some (pc + 1, L, .int (x ||| y) :: r, h))
  | .ixor => c_s2 st (fun x y r => some (pc + 1, L, .int (x ^^^ y) :: r, h))
  | .ishl => c_s2 st (fun x y r => some (pc + 1, L, .int (x <<< (y &&& 31)) :: r, h))
  | .ishr => c_s2 st (fun x y r => some (pc + 1, L, .int (x >>> (y &&& 31)) :: r, h))
  | .iushr => c_s2 st (fun x y r => some (pc + 1, L, .int (x.toUInt32 >>> (y.toUInt32 &&& Int32.toUInt32 31)).toInt32 :: r, h))
  | .irem => c_s2 st (fun x y r => if y = 0 then none else some (pc + 1, L, .int (x - x / y * y) :: r, h))
  | .idiv => c_s2 st (fun x y r => if y = 0 then none else some (pc + 1, L, .int (x / y) :: r, h))
  | .if_icmp cd _ => c_s2 st (fun x y r => some (if c_cmp cd x y then q.2.1 else pc + 3, L, r, h))
  | .ifCond cd _ => c_s1 st (fun x r => some (if c_cmp cd x 0 then q.2.1 else pc + 3, L, r, h))
  | .goto _ => some (q.2.1, L, st, h)
  | .dup => match st with
    | v :: r => if v.category = 1 then some (pc + 1, L, v :: v :: r, h) else none
    | _ => none
  | .pop => match st with
    | v :: r => if v.category = 1 then some (pc + 1, L, r, h) else none
    | _ => none
  | .i2f => c_s1 st (fun x r => some (pc + 1, L, .float (FP.i2f x) :: r, h))
  | .f2i => c_f1 st (fun x r => some (pc + 1, L, .int (FP.f2i x) :: r, h))
  | .fmul => c_f2 st (fun x y r => if c_nn (FP.fmul x y) then some (pc + 1, L, .float (FP.fmul x y) :: r, h) else none)
  | .fdiv => c_f2 st (fun x y r => if c_nn (FP.fdiv x y) then some (pc + 1, L, .float (FP.fdiv x y) :: r, h) else none)
  | .fsub => c_f2 st (fun x y r => if c_nn (FP.fsub x y) then some (pc + 1, L, .float (FP.fsub x y) :: r, h) else none)
  | .fcmp op => c_f2 st (fun x y r => some (pc + 1, L, .int (Op.cmpValue (FP.fcmp x y) op) :: r, h))
  | .getfield _ => c_getf q pc L st h
  | .putfield _ => c_putf ty q pc L st h
  | .iaload => c_iald X pc L st h
  | .iastore => c_iast pc L st h
  | .aaload => c_aald pc L st h
  | .aastore => c_aast pc L st h
  | .arraylength => c_alen X q pc L st h
  | .new _ => some (pc + 3, L, .ref h.length :: st, h ++ [some (.inl (q.2.1, c_dfl ty q.2.1 (nf q.2.1)))])
  | .newarray _ => c_newa q pc L st h
  | .multianewarray _ _ => c_mnew pc L st h
  | .checkcast _ => c_cast q pc L st h
  | .invokespecial _ => c_call1 q pc L st h
  | .invokestatic _ => c_call1 q pc L st h
  | .invokevirtual _ => c_call1 q pc L st h
  | _ => none
/-- y, code, locals, what it returns, its table, frames, room of locals, class place, catches (pc, exception, place in the table, local, length), instructions -/
abbrev c_M : Type := MethodName × ByteArray × Nat × Option FieldType × List (Nat × Nat × Nat × Nat) × Nat × Nat × Nat × List (Nat × Nat × Nat × Nat × Nat) × List (Nat × c_I)
def c_my (q : c_M) : MethodName := q.1
def c_mc (q : c_M) : ByteArray := q.2.1
def c_mL (q : c_M) : Nat := q.2.2.1
def c_mr (q : c_M) : Option FieldType := q.2.2.2.1
def c_mh (q : c_M) : List (Nat × Nat × Nat × Nat) := q.2.2.2.2.1
def c_mF (q : c_M) : Nat := q.2.2.2.2.2.1
def c_mR (q : c_M) : Nat := q.2.2.2.2.2.2.1
def c_mk (q : c_M) : Nat := q.2.2.2.2.2.2.2.1
def c_mx (q : c_M) : List (Nat × Nat × Nat × Nat × Nat) := q.2.2.2.2.2.2.2.2.1
def c_mi (q : c_M) : List (Nat × c_I) := q.2.2.2.2.2.2.2.2.2
def c_at (pc : Nat) : List (Nat × c_I) → Option c_I
  | [] => none
  | q :: r => if Nat.beq q.1 pc = true then some q.2 else c_at pc r
def c_cat (pc E : Nat) : List (Nat × Nat × Nat × Nat × Nat) → Option (Nat × Nat × Nat)
  | [] => none
  | q :: r => if Nat.beq q.1 pc && Nat.beq q.2.1 E then some q.2.2 else c_cat pc E r
/-- 0 a step, 1 to 3 a return, 4 a call, 5 a throw -/
def c_kd (q : c_I) : Nat := match q.1 with
  | .ireturn => 1
  | .return_ => 2
  | .areturn => 3
  | .invokestatic _ => if q.2.2.2 < 6 then 4 else 0
  | .invokevirtual _ => if q.2.2.2 < 6 then 4 else 0
  | .invokespecial _ => if q.2.2.2 < 6 then 4 else 0
  | .new _ => if q.2.2.2 = 1 then 5 else 0
  | _ => 0
def c_ent (args : List Value) (n : Nat) : c_Ls := let l := args.flatMap (fun v => if v.category = 2 then [some v, none] else [some v]); l ++ List.replicate (n - l.length) none
def c_isS (q : c_I) : Bool := match q.1 with
  | .invokestatic _ => true
  | _ => false
abbrev c_O : Type := Option Value ⊕ Nat
def c_rcv (h : c_Hp) (k : Nat) (s : Bool) (as : List Value) : Bool := if s then true else match as with
  | .ref a :: _ => (c_fs h a k).isSome
  | _ => false
def c_cn (q : c_I) : Nat := if c_isS q then q.2.2.1 else q.2.2.1 + 1
/-- a call's parts: arguments (the receiver first), and what stays -/
def c_prt (md : c_M) (q : c_I) (st : List Value) (h : c_Hp) : Option (List Value × List Value) :=
  if st.length < c_cn q then none else
    let as := (st.take (c_cn q)).reverse
    let rest := st.drop (c_cn q)
    if (rest.map fun v => v.category).sum ≤ 8 then if c_rcv h (c_mk md) (c_isS q) as then if (c_ent as (c_mL md)).length = c_mL md then some (as, rest) else none else none else none
def c_go (P : List c_M) (ty : Nat → Nat → FieldType) (nf : Nat → Nat) (X : List Int32) : Nat → Nat → Nat → c_Ls → List Value → c_Hp → Option (c_O × c_Hp)
  | 0, _, _, _, _, _ => none
  | n + 1, k, pc, L, st, h => match P[k]? with
    | none => none
    | some md => match c_at pc (c_mi md) with
      | none => none
      | some q => match c_kd q with
        | 0 => match c_stp ty nf X q pc L st h with
          | some r => c_go P ty nf X n k r.1 r.2.1 r.2.2.1 r.2.2.2
          | none => none
        | 1 => match st, c_mr md with
          | [.int x], some t => if narrow t (.int x) = .int x then some (.inl (some (.int x)), h) else none
          | _, _ => none
        | 2 => match st, c_mr md with
          | [], none => some (.inl none, h)
          | _, _ => none
        | 4 => match P[q.2.1]? with
          | none => none
          | some mz => match c_prt mz q st h with
            | none => none
            | some ar => match c_go P ty nf X n q.2.1 0 (c_ent ar.1 (c_mL mz)) [] h with
              | some (.inl v, h1) => c_go P ty nf X n k (pc + 3) L (v.toList ++ ar.2) h1
              | some (.inr E, h1) => match c_cat pc E (c_mx md) with
                | some w => c_go P ty nf X n k (((c_mh md).getD w.1 (0, 0, 0, 0)).2.2.1 + w.2.2) ((c_clr L w.2.1).set w.2.1 none) [] h1
                | none => if (c_mh md).isEmpty then some (.inr E, h1) else none
              | none => none
        | 5 => if (c_mh md).isEmpty && decide ((st.map fun v => v.category).sum ≤ 8) then some (.inr q.2.1, h ++ [none]) else none
        | _ => none
