/-! A small machine over cells told by places (a reading of the listing's own instructions). Values: those of the machine, but .ref i is the cell i of the list; .retAddr i for i < 10 an old cell (0 the script, 1 the lists' empty row, 2 the cached Integer 0, 3 the cache, 4 the class of rows of objects), for i ≥ 10 a number that isn't known (facts tell of it); a .double from c_M0 on is such a number as a long. -/
abbrev c_Cell : Type := Option ((Nat × List Value) ⊕ (Nat × List Value))
abbrev c_Hp : Type := List c_Cell
abbrev c_Ls : Type := List (Option Value)
abbrev c_I : Type := Instr × Nat × Nat × Nat
abbrev c_R : Type := Nat × c_Ls × List Value × c_Hp
/-- a fact: which kind of sum, of what, and what it comes to -/
abbrev c_F : Type := Nat × Value × Value × Value
/-- facts, and the script -/
abbrev c_E : Type := List c_F × List Value
/-- the i-th of a list, and a list with another i-th: as plain recursions -/
noncomputable def c_nth {α : Type} (l : List α) (i : Nat) : Option α := Nat.rec (motive := fun _ => List α → Option α) (fun l => List.rec (motive := fun _ => Option α) none (fun x _ _ => some x) l) (fun _ f l => List.rec (motive := fun _ => Option α) none (fun _ t _ => f t) l) i l
noncomputable def c_upd {α : Type} (l : List α) (i : Nat) (v : α) : List α := Nat.rec (motive := fun _ => List α → List α) (fun l => List.rec (motive := fun _ => List α) [] (fun _ t _ => v :: t) l) (fun _ f l => List.rec (motive := fun _ => List α) [] (fun x t _ => x :: f t) l) i l
theorem c_nth_eq {α : Type} : ∀ (i : Nat) (l : List α), c_nth l i = l[i]?
  | 0, [] => rfl
  | 0, _ :: _ => rfl
  | i + 1, [] => rfl
  | i + 1, _ :: t => c_nth_eq i t
theorem c_upd_eq {α : Type} (v : α) : ∀ (i : Nat) (l : List α), c_upd l i v = l.set i v
  | 0, [] => rfl
  | 0, _ :: _ => rfl
  | i + 1, [] => rfl
  | i + 1, x :: t => congrArg (x :: ·) (c_upd_eq v i t)
def c_M0 : Nat := 18446462598732840960
def c_sz : c_Cell → Nat
  | none => 6
  | some (.inl q) => q.2.length
  | some (.inr q) => q.2.length
def c_msz (h : c_Hp) : Nat := (h.map c_sz).sum
noncomputable def c_clr (L : c_Ls) (i : Nat) : c_Ls := match i with
  | 0 => L
  | j + 1 => match c_nth L (j) with
    | some (some w) => if w.category = 2 then c_upd L j none else L
    | _ => L
noncomputable def c_set (L : c_Ls) (i : Nat) (v : Value) : c_Ls := c_upd (c_clr L i) i (some v)
/-- a value of two places -/
noncomputable def c_set2 (L : c_Ls) (i : Nat) (v : Value) : c_Ls := c_upd (c_upd (c_clr L i) (i + 1) none) i (some v)
noncomputable def c_tag : Nat → FieldType
  | 0 => .int
  | 1 => .long
  | 2 => .array .int
  | 3 => .object "java/lang/Object"
  | 4 => .boolean
  | _ => .double
/-- a number, known or not -/
noncomputable def c_sy : Value → Bool
  | .int _ => true
  | .retAddr i => Nat.ble 10 i
  | _ => false
/-- a reference -/
noncomputable def c_rf : Value → Bool
  | .ref _ => true
  | .retAddr i => Nat.blt i 10
  | _ => false
/-- a long -/
noncomputable def c_lg : Value → Bool
  | .long _ => true
  | .double d => Nat.ble c_M0 d.toNat
  | _ => false
noncomputable def c_db : Value → Bool
  | .double d => Nat.blt d.toNat c_M0
  | _ => false
noncomputable def c_isR : FieldType → Bool
  | .object _ => true
  | .array _ => true
  | _ => false
noncomputable def c_okv (t : FieldType) (v : Value) : Bool := match v with
  | .int _ => fits t v && decide (narrow t v = v)
  | .null => c_isR t
  | .ref _ => c_isR t
  | .retAddr i => if i < 10 then c_isR t else decide (t = .int)
  | _ => false
noncomputable def c_cmp (cd : Jvm.ClassFile.Cond) (x y : Int32) : Bool := match cd with
  | .eq => decide (x = y)
  | .ne => decide (¬ x = y)
  | .lt => decide (x < y)
  | .ge => decide (y ≤ x)
  | .gt => decide (y < x)
  | .le => decide (x ≤ y)
noncomputable def c_cdn : Jvm.ClassFile.Cond → Nat
  | .eq => 20
  | .ne => 21
  | .lt => 22
  | .ge => 23
  | .gt => 24
  | .le => 25
/-- the same, its number worked out (an evaluation would else carry sums along) -/
noncomputable def c_nrm {α : Type} (x : Int32) (k : Int32 → α) : α := Nat.rec (k (Int32.ofBitVec (BitVec.ofNat 32 0))) (fun n _ => k (Int32.ofBitVec (BitVec.ofNat 32 (n + 1)))) x.toBitVec.toNat
theorem c_nrm_eq {α : Type} (x : Int32) (k : Int32 → α) : c_nrm x k = k x := by
  have h : ∀ n : Nat, (Nat.rec (k (Int32.ofBitVec (BitVec.ofNat 32 0))) (fun n _ => k (Int32.ofBitVec (BitVec.ofNat 32 (n + 1)))) n : α) = k (Int32.ofBitVec (BitVec.ofNat 32 n)) := fun n => by cases n <;> rfl
  unfold c_nrm
  rw [h, BitVec.ofNat_toNat, BitVec.setWidth_eq]
  rfl
noncomputable def m_add (x y : Int32) : Option Int32 := some (x + y)
noncomputable def m_sub (x y : Int32) : Option Int32 := some (x - y)
noncomputable def m_mul (x y : Int32) : Option Int32 := some (x * y)
noncomputable def m_and (x y : Int32) : Option Int32 := some (x &&& y)
noncomputable def m_or (x y : Int32) : Option Int32 := some (x ||| y)
noncomputable def m_xor (x y : Int32) : Option Int32 := some (x ^^^ y)
noncomputable def m_shl (x y : Int32) : Option Int32 := some (x <<< (y &&& 31))
noncomputable def m_shr (x y : Int32) : Option Int32 := some (x >>> (y &&& 31))
noncomputable def m_ushr (x y : Int32) : Option Int32 := some (x.toUInt32 >>> (y.toUInt32 &&& Int32.toUInt32 31)).toInt32
noncomputable def m_rem (x y : Int32) : Option Int32 := if y = 0 then none else some (x - x / y * y)
noncomputable def m_div (x y : Int32) : Option Int32 := if y = 0 then none else some (x / y)
noncomputable def m_cmp (cd : Jvm.ClassFile.Cond) (x y : Int32) : Option Int32 := some (if c_cmp cd x y then 1 else 0)
noncomputable def m_max (x y : Int32) : Option Int32 := some (if x < y then y else x)
noncomputable def m_min (x y : Int32) : Option Int32 := some (if y < x then y else x)
noncomputable def m_no (_ _ : Int32) : Option Int32 := none
/-- what a sum of two numbers comes to -/
noncomputable def c_sem (o : Nat) : Int32 → Int32 → Option Int32 := match o with
  | 0 => m_add
  | 1 => m_sub
  | 2 => m_mul
  | 3 => m_and
  | 4 => m_or
  | 5 => m_xor
  | 6 => m_shl
  | 7 => m_shr
  | 8 => m_ushr
  | 9 => m_rem
  | 10 => m_div
  | 20 => m_cmp .eq
  | 21 => m_cmp .ne
  | 22 => m_cmp .lt
  | 23 => m_cmp .ge
  | 24 => m_cmp .gt
  | 25 => m_cmp .le
  | 30 => m_max
  | 31 => m_min
  | _ => m_no
noncomputable def c_veq : Value → Value → Bool
  | .int x, .int y => decide (x = y)
  | .retAddr x, .retAddr y => Nat.beq x y
  | _, _ => false
noncomputable def c_lk : List c_F → Nat → Value → Value → Option Value
  | [], _, _, _ => none
  | f :: r, o, x, y => if Nat.beq f.1 o && (c_veq f.2.1 x && c_veq f.2.2.1 y) then some f.2.2.2 else c_lk r o x y
/-- a sum told by a fact -/
noncomputable def c_opf (E : c_E) (o : Nat) (x y : Value) : Option Value := match c_lk E.1 o x y with
  | some v => if c_sy v then some v else none
  | none => none
noncomputable def c_opn : Option Int32 → Option Value := fun z => match z with
  | some z => c_nrm z (fun w => some (.int w))
  | none => none
/-- a sum -/
noncomputable def c_op (E : c_E) (o : Nat) (f : Int32 → Int32 → Option Int32) (x y : Value) : Option Value := match x with
  | .int a => match y with
    | .int b => c_opn (f a b)
    | _ => c_opf E o x y
  | _ => c_opf E o x y
noncomputable def c_b2 (E : c_E) (o : Nat) (f : Int32 → Int32 → Option Int32) (n : Nat) (pc : Nat) (L : c_Ls) (st : List Value) (h : c_Hp) : Option c_R := match st with
  | y :: x :: r => match c_op E o f x y with
    | some v => some (pc + n, L, v :: r, h)
    | none => none
  | _ => none
noncomputable def c_one (v : Option Value) : Option Bool := match v with
  | some (.int z) => some (decide (z = 1))
  | _ => none
/-- whether a branch is taken -/
noncomputable def c_brb (E : c_E) (cd : Jvm.ClassFile.Cond) (x y : Value) : Option Bool := match x with
  | .int a => match y with
    | .int b => some (c_cmp cd a b)
    | _ => c_one (c_opf E (c_cdn cd) x y)
  | _ => c_one (c_opf E (c_cdn cd) x y)
/-- a branch -/
noncomputable def c_br (E : c_E) (cd : Jvm.ClassFile.Cond) (t : Nat) (x y : Value) (pc : Nat) (L : c_Ls) (st : List Value) (h : c_Hp) : Option c_R := match c_brb E cd x y with
  | some z => match z with
    | true => some (t, L, st, h)
    | false => some (pc + 3, L, st, h)
  | none => none
noncomputable def c_l2 (st : List Value) (f : Int64 → Int64 → Value) (pc : Nat) (L : c_Ls) (h : c_Hp) : Option c_R := match st with
  | .long y :: .long x :: r => some (pc + 1, L, f x y :: r, h)
  | _ => none
noncomputable def c_ls (st : List Value) (f : Int64 → Int32 → Value) (pc : Nat) (L : c_Ls) (h : c_Hp) : Option c_R := match st with
  | .int y :: .long x :: r => some (pc + 1, L, f x y :: r, h)
  | _ => none
noncomputable def c_f2 (st : List Value) (f : UInt32 → UInt32 → List Value → Option c_R) : Option c_R := match st with
  | .float y :: .float x :: r => f x y r
  | _ => none
noncomputable def c_load (k : Value → Bool) (L : c_Ls) (i n pc : Nat) (st : List Value) (h : c_Hp) : Option c_R := match c_nth L (i) with
  | some (some v) => match k v with
    | true => some (pc + n, L, v :: st, h)
    | false => none
  | _ => none
noncomputable def c_fl : Value → Bool
  | .float _ => true
  | _ => false
noncomputable def c_store (k : Value → Bool) (L : c_Ls) (i n pc : Nat) (st : List Value) (h : c_Hp) : Option c_R := match st with
  | v :: r => match k v with
    | true => match Nat.blt i L.length with
      | true => some (pc + n, c_set L i v, r, h)
      | false => none
    | false => none
  | _ => none
noncomputable def c_store2 (k : Value → Bool) (L : c_Ls) (i n pc : Nat) (st : List Value) (h : c_Hp) : Option c_R := match st with
  | v :: r => if k v then if i + 1 < L.length then some (pc + n, c_set2 L i v, r, h) else none else none
  | _ => none
noncomputable def c_nn (r : UInt32) : Bool := decide (r &&& 0x7fffffff ≤ 0x7f800000)
noncomputable def c_fs (h : c_Hp) (a k : Nat) : Option (List Value) := match c_nth h (a) with
  | some (some (.inl q)) => match Nat.beq q.1 k with
    | true => some q.2
    | false => none
  | _ => none
noncomputable def c_vs (h : c_Hp) (a t : Nat) : Option (List Value) := match c_nth h (a) with
  | some (some (.inr q)) => match Nat.beq q.1 t with
    | true => some q.2
    | false => none
  | _ => none
/-- a place in a row of n -/
noncomputable def c_ix (i : Int32) (n : Nat) : Option Nat := match Nat.blt i.toBitVec.toNat 2147483648 with
  | true => match Nat.blt i.toBitVec.toNat n with
    | true => some i.toBitVec.toNat
    | false => none
  | false => none
noncomputable def c_getf (q : c_I) (pc : Nat) (L : c_Ls) (st : List Value) (h : c_Hp) : Option c_R := match st with
  | .ref a :: r => match Nat.beq q.2.2.2 5 with
    | true => none
    | false => match c_fs h a q.2.1 with
      | some fs => match c_nth fs (q.2.2.1) with
        | some v => some (pc + 3, L, v :: r, h)
        | none => none
      | none => none
  | .retAddr 2 :: r => if q.2.2.2 = 5 then some (pc + 3, L, .int 0 :: r, h) else none
  | _ => none
noncomputable def c_putf (q : c_I) (pc : Nat) (L : c_Ls) (st : List Value) (h : c_Hp) : Option c_R := match st with
  | v :: .ref a :: r => match c_fs h a q.2.1 with
    | some fs => if c_okv (c_ty q.2.1 q.2.2.1) v = true then if q.2.2.1 < fs.length then some (pc + 3, L, r, c_upd h a (some (.inl (q.2.1, c_upd fs q.2.2.1 v)))) else none else none
    | none => none
  | _ => none
/-- an element of a row with the tag t -/
noncomputable def c_ald (t : Nat) (k : Value → Bool) (pc : Nat) (L : c_Ls) (st : List Value) (h : c_Hp) : Option c_R := match st with
  | .int i :: .ref a :: r => match c_vs h a t with
    | some vs => match c_ix i vs.length with
      | some j => match c_nth vs (j) with
        | some v => match k v with
          | true => some (pc + 1, L, v :: r, h)
          | false => none
        | none => none
      | none => none
    | none => none
  | _ => none
noncomputable def c_iald (E : c_E) (pc : Nat) (L : c_Ls) (st : List Value) (h : c_Hp) : Option c_R := match st with
  | .int i :: .retAddr 0 :: r => match c_ix i E.2.length with
    | some j => match c_nth E.2 j with
      | some x => if c_sy x then some (pc + 1, L, x :: r, h) else none
      | none => none
    | none => none
  | _ => c_ald 0 c_sy pc L st h
/-- what a row of objects hands out -/
noncomputable def c_rn (v : Value) : Bool := match v with
  | .null => true
  | _ => c_rf v
noncomputable def c_aald (q : c_I) (pc : Nat) (L : c_Ls) (st : List Value) (h : c_Hp) : Option c_R := match st with
  | .int i :: .retAddr 3 :: r => if i = 128 then some (pc + 1, L, .retAddr 2 :: r, h) else none
  | _ => if q.2.1 = 2 then c_ald 2 c_rf pc L st h else if q.2.1 = 3 then c_ald 3 c_rn pc L st h else none
noncomputable def c_ast (t : Nat) (k : Value → Bool) (pc : Nat) (L : c_Ls) (st : List Value) (h : c_Hp) : Option c_R := match st with
  | x :: .int i :: .ref a :: r => match c_vs h a t with
    | some vs => match c_ix i vs.length with
      | some j => if k x then some (pc + 1, L, r, c_upd h a (some (.inr (t, c_upd vs j x)))) else none
      | none => none
    | none => none
  | _ => none
noncomputable def c_b01 (v : Value) : Bool := match v with
  | .int z => decide (z = 0) || decide (z = 1)
  | _ => false
/-- what a row of objects takes: a row of ints, the Integer 0, null -/
noncomputable def c_ok3 (h : c_Hp) (v : Value) : Bool := match v with
  | .ref x => (c_vs h x 0).isSome
  | .retAddr i => Nat.beq i 2
  | .null => true
  | _ => false
noncomputable def c_aast (q : c_I) (pc : Nat) (L : c_Ls) (st : List Value) (h : c_Hp) : Option c_R :=
  if q.2.1 = 3 then c_ast 3 (c_ok3 h) pc L st h else none
noncomputable def c_alen (E : c_E) (q : c_I) (pc : Nat) (L : c_Ls) (st : List Value) (h : c_Hp) : Option c_R := match st with
  | .ref a :: r => match c_nth h (a) with
    | some (some (.inr vs)) => if Nat.blt vs.1 6 then c_nrm (Int32.ofNat vs.2.length) (fun w => some (pc + 1, L, .int w :: r, h)) else none
    | _ => none
  | .retAddr 0 :: r => some (pc + 1, L, .int (Int32.ofNat E.2.length) :: r, h)
  | .retAddr 1 :: r => some (pc + 1, L, .int 0 :: r, h)
  | _ => none
noncomputable def c_dfl (k n : Nat) : List Value := (List.range n).map (fun j => defaultValue (c_ty k j))
noncomputable def c_newa (q : c_I) (pc n9 : Nat) (L : c_Ls) (st : List Value) (h : c_Hp) : Option c_R := match st with
  | .int n :: r => if n < 0 then none else if n.toNatClampNeg ≤ 100000 then some (pc + n9, L, .ref h.length :: r, h ++ [some (.inr (q.2.1, List.replicate n.toNatClampNeg (defaultValue (c_tag q.2.1))))]) else none
  | _ => none
noncomputable def c_mnew (pc : Nat) (L : c_Ls) (st : List Value) (h : c_Hp) : Option c_R := match st with
  | .int k :: .int n :: r => if n < 0 then none else if k < 0 then none else if n.toNatClampNeg ≤ 100000 then if k.toNatClampNeg ≤ 100000 then
      some (pc + 4, L, .ref h.length :: r, (h ++ [some (.inr (2, (List.range n.toNatClampNeg).map (fun j => Value.ref (h.length + 1 + j))))]) ++ List.replicate n.toNatClampNeg (some (.inr (0, List.replicate k.toNatClampNeg (Value.int 0)))))
      else none else none
  | _ => none
/-- p3 = 0: a row with the tag; p3 = 1: an Integer -/
noncomputable def c_cast (q : c_I) (pc : Nat) (L : c_Ls) (st : List Value) (h : c_Hp) : Option c_R := match st with
  | .ref a :: r => if q.2.2.2 = 0 then match c_vs h a q.2.1 with
    | some _ => some (pc + 3, L, .ref a :: r, h)
    | none => none
    else none
  | .retAddr 2 :: r => if q.2.2.2 = 1 then some (pc + 3, L, .retAddr 2 :: r, h) else none
  | _ => none
noncomputable def c_sum8 (r : List Value) : Bool := Nat.ble ((r.map fun v => v.category).sum) 8
/-- a row's n values from the place s on laid into another's from the place d on -/
noncomputable def c_lay (vs ws : List Value) (s d n : Nat) : List Value := ws.take d ++ ((vs.drop s).take n ++ ws.drop (d + n))
noncomputable def c_cpy (t : Nat) (k : Value → Bool) (sp dp n : Int32) (a a2 : Nat) (pc : Nat) (L : c_Ls) (r : List Value) (h : c_Hp) : Option c_R := match c_vs h a t, c_vs h a2 t with
  | some vs, some ws => if sp < 0 then none else if dp < 0 then none else if n < 0 then none else
      if sp.toNatClampNeg + n.toNatClampNeg ≤ vs.length then if dp.toNatClampNeg + n.toNatClampNeg ≤ ws.length then if ((vs.drop sp.toNatClampNeg).take n.toNatClampNeg).all k then if c_sum8 r then
        some (pc + 3, L, r, c_upd h a2 (some (.inr (t, c_lay vs ws sp.toNatClampNeg dp.toNatClampNeg n.toNatClampNeg)))) else none else none else none else none
  | _, _ => none
/-- calls that are one step here: 6 Object's own beginning, 7 Math.max, 8 Math.min, 9 clone of a row of numbers, 10 a float's bits, 11 the class of a row of objects, 12 a copy of numbers or of references -/
noncomputable def c_call1 (E : c_E) (q : c_I) (pc : Nat) (L : c_Ls) (st : List Value) (h : c_Hp) : Option c_R := match q.2.2.2 with
  | 6 => match st with
    | .ref _ :: r => if c_sum8 r then some (pc + 3, L, r, h) else none
    | _ => none
  | 7 => match st with
    | y :: x :: r => if c_sum8 r then match c_op E 30 m_max x y with
      | some v => some (pc + 3, L, v :: r, h)
      | none => none
      else none
    | _ => none
  | 8 => match st with
    | y :: x :: r => if c_sum8 r then match c_op E 31 m_min x y with
      | some v => some (pc + 3, L, v :: r, h)
      | none => none
      else none
    | _ => none
  | 9 => match st with
    | .ref a :: r => match c_vs h a 0 with
      | some vs => if c_sum8 r then if vs.all c_sy then some (pc + 3, L, .ref h.length :: r, h ++ [some (.inr (0, vs))]) else none else none
      | none => none
    | _ => none
  | 10 => match st with
    | .float x :: r => if c_sum8 r then some (pc + 3, L, .int x.toInt32 :: r, h) else none
    | _ => none
  | 11 => match st with
    | .ref a :: r => match c_vs h a 3 with
      | some _ => if c_sum8 r then some (pc + 3, L, .retAddr 4 :: r, h) else none
      | none => none
    | _ => none
  | 12 => match st with
    | .int n :: .int dp :: .ref a2 :: .int sp :: .ref a :: r => match c_vs h a 0 with
      | some _ => c_cpy 0 c_sy sp dp n a a2 pc L r h
      | none => c_cpy 3 (c_ok3 h) sp dp n a a2 pc L r h
    | _ => none
  | _ => none
noncomputable def c_acmp (x y : Value) : Option Bool := match x, y with
  | .retAddr i, .retAddr j => if Nat.blt i 10 && Nat.beq i j then some true else none
  | .ref _, .retAddr i => if Nat.blt i 4 then some false else none
  | _, _ => none
noncomputable def c_sw (offs : List Int) (lo : Int) (x : Int32) : Option Int := if x.toInt < lo then none else c_nth offs (x.toInt - lo).toNat
abbrev c_X : Type := c_E → c_I → Nat → c_Ls → List Value → c_Hp → Option c_R
noncomputable def x_push (n : Nat) (v : Value) : c_X := fun _ _ pc L st h => some (pc + n, L, v :: st, h)
noncomputable def x_ldc (n : Nat) : c_X := fun _ q pc L st h => if q.2.2.2 = 0 then some (pc + n, L, .int (Int32.ofNat q.2.1) :: st, h) else if q.2.2.2 = 2 then if n = 2 then some (pc + 2, L, .retAddr 4 :: st, h) else none else none
noncomputable def x_ldc2 : c_X := fun _ q pc L st h => if q.2.2.2 = 0 then some (pc + 3, L, .long (Int64.ofNat q.2.1) :: st, h) else none
noncomputable def x_load (k : Value → Bool) (i n : Nat) : c_X := fun _ _ pc L st h => c_load k L i n pc st h
noncomputable def x_store (k : Value → Bool) (i n : Nat) : c_X := fun _ _ pc L st h => c_store k L i n pc st h
noncomputable def x_store2 (k : Value → Bool) (i n : Nat) : c_X := fun _ _ pc L st h => c_store2 k L i n pc st h
noncomputable def x_iinc (i : Nat) (n : Int) : c_X := fun E _ pc L st h => match c_nth L (i) with
    | some (some v) => match c_op E 0 m_add v (.int (Int32.ofInt n)) with
      | some w => some (pc + 3, c_set L i w, st, h)
      | none => none
    | _ => none
noncomputable def x_b2 (o : Nat) (f : Int32 → Int32 → Option Int32) : c_X := fun E _ pc L st h => c_b2 E o f 1 pc L st h
noncomputable def x_l2 (f : Int64 → Int64 → Value) : c_X := fun _ _ pc L st h => c_l2 st f pc L h
noncomputable def x_ls (f : Int64 → Int32 → Value) : c_X := fun _ _ pc L st h => c_ls st f pc L h
noncomputable def x_lcmp : c_X := fun _ _ pc L st h => match st with
    | .long y :: .long x :: r => some (pc + 1, L, .int (lg_cmp x y) :: r, h)
    | .double y :: .double x :: r => if Nat.ble c_M0 x.toNat && Nat.beq x.toNat y.toNat then some (pc + 1, L, .int 0 :: r, h) else none
    | _ => none
noncomputable def x_i2l : c_X := fun _ _ pc L st h => match st with
    | .int x :: r => some (pc + 1, L, .long x.toInt64 :: r, h)
    | .retAddr i :: r => if Nat.ble 10 i && Nat.ble i 1000 then some (pc + 1, L, .double (UInt64.ofNat (c_M0 + i)) :: r, h) else none
    | _ => none
noncomputable def x_l2i : c_X := fun _ _ pc L st h => match st with
    | .long x :: r => some (pc + 1, L, .int x.toInt32 :: r, h)
    | _ => none
noncomputable def x_icmp (o : Jvm.ClassFile.Cond) : c_X := fun E q pc L st h => match st with
    | y :: x :: r => c_br E o q.2.1 x y pc L r h
    | _ => none
noncomputable def x_if (o : Jvm.ClassFile.Cond) : c_X := fun E q pc L st h => match st with
    | x :: r => c_br E o q.2.1 x (.int 0) pc L r h
    | _ => none
noncomputable def x_acmp (e : Bool) : c_X := fun _ q pc L st h => match st with
    | y :: x :: r => match c_acmp x y with
      | some z => some (if z = e then q.2.1 else pc + 3, L, r, h)
      | none => none
    | _ => none
noncomputable def x_ifn (e : Bool) : c_X := fun _ q pc L st h => match st with
    | .ref _ :: r => some (if e then q.2.1 else pc + 3, L, r, h)
    | _ => none
noncomputable def x_goto : c_X := fun _ q _ L st h => some (q.2.1, L, st, h)
noncomputable def x_tab (d lo : Int) (offs : List Int) : c_X := fun _ _ pc L st h => match st with
    | .int x :: r => match c_sw offs lo x with
      | some o => some (((pc : Int) + o).toNat, L, r, h)
      | none => some (((pc : Int) + d).toNat, L, r, h)
    | _ => none
noncomputable def x_dup : c_X := fun _ _ pc L st h => match st with
    | v :: r => if v.category = 1 then some (pc + 1, L, v :: v :: r, h) else none
    | _ => none
noncomputable def x_dupx1 : c_X := fun _ _ pc L st h => match st with
    | v :: w :: r => if v.category = 1 then if w.category = 1 then some (pc + 1, L, v :: w :: v :: r, h) else none else none
    | _ => none
noncomputable def x_dup2 : c_X := fun _ _ pc L st h => match st with
    | v :: w :: r => if v.category = 1 then if w.category = 1 then some (pc + 1, L, v :: w :: v :: w :: r, h) else none else none
    | _ => none
noncomputable def x_pop : c_X := fun _ _ pc L st h => match st with
    | v :: r => if v.category = 1 then some (pc + 1, L, r, h) else none
    | _ => none
noncomputable def x_i2f : c_X := fun _ _ pc L st h => match st with
    | .int x :: r => some (pc + 1, L, .float (FP.i2f x) :: r, h)
    | _ => none
noncomputable def x_fdiv : c_X := fun _ _ pc L st h => c_f2 st (fun x y r => if c_nn (FP.fdiv x y) then some (pc + 1, L, .float (FP.fdiv x y) :: r, h) else none)
noncomputable def x_fcmp (op : CmpOp) : c_X := fun _ _ pc L st h => c_f2 st (fun x y r => some (pc + 1, L, .int (Op.cmpValue (FP.fcmp x y) op) :: r, h))
noncomputable def x_getf : c_X := fun _ q pc L st h => c_getf q pc L st h
noncomputable def x_putf : c_X := fun _ q pc L st h => c_putf q pc L st h
noncomputable def x_gets : c_X := fun _ q pc L st h => match q.2.1 with
    | 0 => some (pc + 3, L, .int 127 :: st, h)
    | 1 => some (pc + 3, L, .retAddr 1 :: st, h)
    | 3 => some (pc + 3, L, .retAddr 3 :: st, h)
    | _ => none
noncomputable def x_iald : c_X := fun E _ pc L st h => c_iald E pc L st h
noncomputable def x_ald (t : Nat) (k : Value → Bool) : c_X := fun _ _ pc L st h => c_ald t k pc L st h
noncomputable def x_aald : c_X := fun _ q pc L st h => c_aald q pc L st h
noncomputable def x_ast (t : Nat) (k : Value → Bool) : c_X := fun _ _ pc L st h => c_ast t k pc L st h
noncomputable def x_aast : c_X := fun _ q pc L st h => c_aast q pc L st h
noncomputable def x_alen : c_X := fun E q pc L st h => c_alen E q pc L st h
noncomputable def x_new : c_X := fun _ q pc L st h => some (pc + 3, L, .ref h.length :: st, h ++ [some (.inl (q.2.1, c_dfl q.2.1 (c_nf q.2.1)))])
noncomputable def x_newa (n : Nat) : c_X := fun _ q pc L st h => c_newa q pc n L st h
noncomputable def x_mnew : c_X := fun _ _ pc L st h => c_mnew pc L st h
noncomputable def x_cast : c_X := fun _ q pc L st h => c_cast q pc L st h
noncomputable def x_call : c_X := fun E q pc L st h => c_call1 E q pc L st h
noncomputable def x_no : c_X := fun _ _ _ _ _ _ => none
noncomputable def x_la (x y : Int64) : Value := .long (x + y)
noncomputable def x_lsb (x y : Int64) : Value := .long (x - y)
noncomputable def x_lm (x y : Int64) : Value := .long (x * y)
noncomputable def x_lan (x y : Int64) : Value := .long (x &&& y)
noncomputable def x_lo (x y : Int64) : Value := .long (x ||| y)
noncomputable def x_lsh (x : Int64) (y : Int32) : Value := .long (x <<< (y.toInt64 &&& 63))
noncomputable def x_lus (x : Int64) (y : Int32) : Value := .long (x.toUInt64 >>> (y.toInt64.toUInt64 &&& Int64.toUInt64 63)).toInt64
/-- which step an instruction is: each piece stands by itself, so that an evaluation copies no more than it needs -/
noncomputable def c_dsp (i : Instr) : c_X := match i with
  | .iconst n => x_push 1 (.int (Int32.ofInt n))
  | .bipush n => x_push 2 (.int (Int8.ofInt n).toInt32)
  | .sipush n => x_push 3 (.int (Int16.ofInt n).toInt32)
  | .lconst n => x_push 1 (.long (Int64.ofNat (n : Nat)))
  | .ldc _ => x_ldc 2
  | .ldc_w _ => x_ldc 3
  | .ldc2_w _ => x_ldc2
  | .fconst n => if n = 0 then x_push 1 (.float 0) else x_no
  | .dconst n => if n = 0 then x_push 1 (.double FP.dconst0) else x_no
  | .aconst_null => x_push 1 .null
  | .iload_n k => x_load c_sy k.val 1
  | .iload k => x_load c_sy k 2
  | .lload_n k => x_load c_lg k.val 1
  | .lload k => x_load c_lg k 2
  | .fload_n k => x_load c_fl k.val 1
  | .fload k => x_load c_fl k 2
  | .aload_n k => x_load c_rf k.val 1
  | .aload k => x_load c_rf k 2
  | .istore_n k => x_store c_sy k.val 1
  | .istore k => x_store c_sy k 2
  | .fstore_n k => x_store c_fl k.val 1
  | .fstore k => x_store c_fl k 2
  | .astore_n k => x_store c_rf k.val 1
  | .astore k => x_store c_rf k 2
  | .lstore_n k => x_store2 c_lg k.val 1
  | .lstore k => x_store2 c_lg k 2
  | .dstore k => x_store2 c_db k 2
  | .iinc i n => x_iinc i n
  | .iadd => x_b2 0 m_add
  | .isub => x_b2 1 m_sub
  | .imul => x_b2 2 m_mul
  | .iand => x_b2 3 m_and
  | .ior => x_b2 4 m_or
  | .ixor => x_b2 5 m_xor
  | .ishl => x_b2 6 m_shl
  | .ishr => x_b2 7 m_shr
  | .iushr => x_b2 8 m_ushr
  | .irem => x_b2 9 m_rem
  | .idiv => x_b2 10 m_div
  | .ladd => x_l2 x_la
  | .lsub => x_l2 x_lsb
  | .lmul => x_l2 x_lm
  | .land => x_l2 x_lan
  | .lor => x_l2 x_lo
  | .lshl => x_ls x_lsh
  | .lushr => x_ls x_lus
  | .lcmp => x_lcmp
  | .i2l => x_i2l
  | .l2i => x_l2i
  | .if_icmp cd _ => x_icmp cd
  | .ifCond cd _ => x_if cd
  | .if_acmp cd _ => x_acmp (decide (cd = .eq))
  | .ifnull _ => x_ifn false
  | .ifnonnull _ => x_ifn true
  | .goto _ => x_goto
  | .tableswitch d lo _ offs => x_tab d lo offs.toList
  | .dup => x_dup
  | .dup_x1 => x_dupx1
  | .dup2 => x_dup2
  | .pop => x_pop
  | .i2f => x_i2f
  | .fdiv => x_fdiv
  | .fcmp op => x_fcmp op
  | .getfield _ => x_getf
  | .putfield _ => x_putf
  | .getstatic _ => x_gets
  | .iaload => x_iald
  | .laload => x_ald 1 c_lg
  | .baload => x_ald 4 c_b01
  | .aaload => x_aald
  | .iastore => x_ast 0 c_sy
  | .lastore => x_ast 1 c_lg
  | .bastore => x_ast 4 c_b01
  | .aastore => x_aast
  | .arraylength => x_alen
  | .new _ => x_new
  | .newarray _ => x_newa 2
  | .anewarray _ => x_newa 3
  | .multianewarray _ _ => x_mnew
  | .checkcast _ => x_cast
  | .invokespecial _ => x_call
  | .invokestatic _ => x_call
  | .invokevirtual _ => x_call
  | _ => x_no
noncomputable def c_stp (E : c_E) (q : c_I) (pc : Nat) (L : c_Ls) (st : List Value) (h : c_Hp) : Option c_R := c_dsp q.1 E q pc L st h
/-- y, code, locals, what it returns, its table, frames, room of locals, class place, catches (pc, exception, place in the table, local, length), instructions in pieces of 16 places -/
abbrev c_M : Type := MethodName × ByteArray × Nat × Option FieldType × List (Nat × Nat × Nat × Nat) × Nat × Nat × Nat × List (Nat × Nat × Nat × Nat × Nat) × List (List (Nat × c_I))
noncomputable def c_my (q : c_M) : MethodName := q.1
noncomputable def c_mc (q : c_M) : ByteArray := q.2.1
noncomputable def c_mL (q : c_M) : Nat := q.2.2.1
noncomputable def c_mr (q : c_M) : Option FieldType := q.2.2.2.1
noncomputable def c_mh (q : c_M) : List (Nat × Nat × Nat × Nat) := q.2.2.2.2.1
noncomputable def c_mF (q : c_M) : Nat := q.2.2.2.2.2.1
noncomputable def c_mR (q : c_M) : Nat := q.2.2.2.2.2.2.1
noncomputable def c_mk (q : c_M) : Nat := q.2.2.2.2.2.2.2.1
noncomputable def c_mx (q : c_M) : List (Nat × Nat × Nat × Nat × Nat) := q.2.2.2.2.2.2.2.2.1
noncomputable def c_mi (q : c_M) : List (List (Nat × c_I)) := q.2.2.2.2.2.2.2.2.2
noncomputable def c_fd (pc : Nat) : List (Nat × c_I) → Option c_I
  | [] => none
  | q :: r => match Nat.beq q.1 pc with
    | true => some q.2
    | false => c_fd pc r
noncomputable def c_at (pc : Nat) (l : List (List (Nat × c_I))) : Option c_I := match c_nth l (pc / 16) with
  | some r => c_fd pc r
  | none => none
noncomputable def c_cat (pc E : Nat) : List (Nat × Nat × Nat × Nat × Nat) → Option (Nat × Nat × Nat)
  | [] => none
  | q :: r => if Nat.beq q.1 pc && Nat.beq q.2.1 E then some q.2.2 else c_cat pc E r
noncomputable def c_kd0 (i : Instr) : Nat := match i with
  | .ireturn => 1
  | .return_ => 2
  | .areturn => 3
  | .lreturn => 6
  | .dreturn => 7
  | .invokestatic _ => 8
  | .invokevirtual _ => 8
  | .invokespecial _ => 8
  | .new _ => 9
  | _ => 0
noncomputable def c_kd9 (k p : Nat) : Nat := match k with
  | 8 => if Nat.blt p 6 then 4 else 0
  | 9 => if Nat.beq p 1 then 5 else 0
  | k => k
/-- 0 a step, 1 2 3 6 7 a return, 4 a call, 5 a throw -/
noncomputable def c_kd (q : c_I) : Nat := c_kd9 (c_kd0 q.1) q.2.2.2
noncomputable def c_ent (args : List Value) (n : Nat) : c_Ls := let l := args.flatMap (fun v => if v.category = 2 then [some v, none] else [some v]); l ++ List.replicate (n - l.length) none
noncomputable def c_isS (q : c_I) : Bool := match q.1 with
  | .invokestatic _ => true
  | _ => false
noncomputable def c_isI (q : c_I) : Bool := match q.1 with
  | .invokespecial _ => true
  | _ => false
abbrev c_O : Type := Option Value ⊕ Nat
/-- the receiver: 100 for Integer's class -/
noncomputable def c_rcv (h : c_Hp) (k : Nat) (q : c_I) (as : List Value) : Bool := if c_isS q then true else match as with
  | .ref a :: _ => if c_isI q then true else (c_fs h a k).isSome
  | .retAddr 2 :: _ => !c_isI q && Nat.beq k 100
  | _ => false
noncomputable def c_cn (q : c_I) : Nat := if c_isS q then q.2.2.1 else q.2.2.1 + 1
/-- a call's parts: arguments (the receiver first), and what stays -/
noncomputable def c_prt (md : c_M) (q : c_I) (st : List Value) (h : c_Hp) : Option (List Value × List Value) :=
  if st.length < c_cn q then none else
    let as := (st.take (c_cn q)).reverse
    let rest := st.drop (c_cn q)
    if c_sum8 rest then if c_rcv h (c_mk md) q as then if (c_ent as (c_mL md)).length = c_mL md then some (as, rest) else none else none else none
/-- what is handed back -/
noncomputable def c_rtn (md : c_M) (k : Nat) (st : List Value) : Option (Option Value) := match st with
  | [] => match k, c_mr md with
    | 2, none => some none
    | _, _ => none
  | [v] => match k, c_mr md with
    | 1, some t => match v with
      | .int x => if narrow t (.int x) = .int x then some (some v) else none
      | .retAddr i => if Nat.ble 10 i && decide (t = .int) then some (some v) else none
      | _ => none
    | 3, some t => if c_isR t && c_rf v then some (some v) else none
    | 6, some t => if decide (t = .long) && c_lg v then some (some v) else none
    | 7, some t => if decide (t = .double) && c_db v then some (some v) else none
    | _, _ => none
  | _ => none
abbrev c_Go : Type := c_M → Nat → c_Ls → List Value → c_Hp → Option (c_O × c_Hp)
noncomputable def c_pm (P : List (List c_M)) (k : Nat) : Option c_M := match c_nth P (k / 16) with
  | some l => c_nth l (k % 16)
  | none => none
noncomputable def c_catch (go : c_Go) (md : c_M) (L : c_Ls) (X : Nat) (h1 : c_Hp) : Option (Nat × Nat × Nat) → Option (c_O × c_Hp) := fun w => match w with
  | some w => go md (((c_mh md).getD w.1 (0, 0, 0, 0)).2.2.1 + w.2.2) (c_upd (c_clr L w.2.1) w.2.1 none) [] h1
  | none => if (c_mh md).isEmpty then some (.inr X, h1) else none
noncomputable def c_aft (go : c_Go) (md : c_M) (pc : Nat) (L : c_Ls) (rest : List Value) : Option (c_O × c_Hp) → Option (c_O × c_Hp) := fun r => match r with
  | some (.inl v, h1) => go md (pc + 3) L (v.toList ++ rest) h1
  | some (.inr X, h1) => c_catch go md L X h1 (c_cat pc X (c_mx md))
  | none => none
noncomputable def c_cll (go : c_Go) (mz md : c_M) (pc : Nat) (L : c_Ls) (h : c_Hp) : Option (List Value × List Value) → Option (c_O × c_Hp) := fun a => match a with
  | some ar => c_aft go md pc L ar.2 (go mz 0 (c_ent ar.1 (c_mL mz)) [] h)
  | none => none
noncomputable def c_nxt (go : c_Go) (md : c_M) : Option c_R → Option (c_O × c_Hp) := fun r => match r with
  | some r => go md r.1 r.2.1 r.2.2.1 r.2.2.2
  | none => none
noncomputable def c_inv (go : c_Go) (q : c_I) (md : c_M) (pc : Nat) (L : c_Ls) (st : List Value) (h : c_Hp) : Option c_M → Option (c_O × c_Hp) := fun z => match z with
  | some mz => c_cll go mz md pc L h (c_prt mz q st h)
  | none => none
noncomputable def c_thr (q : c_I) (md : c_M) (st : List Value) (h : c_Hp) : Option (c_O × c_Hp) := if (c_mh md).isEmpty && c_sum8 st then some (.inr q.2.1, h ++ [none]) else none
noncomputable def c_ret (k : Nat) (md : c_M) (st : List Value) (h : c_Hp) : Option (c_O × c_Hp) := match c_rtn md k st with
  | some v => some (.inl v, h)
  | none => none
noncomputable def c_trn (P : List (List c_M)) (E : c_E) (go : c_Go) (k : Nat) (q : c_I) (md : c_M) (pc : Nat) (L : c_Ls) (st : List Value) (h : c_Hp) : Option (c_O × c_Hp) := match k with
  | 0 => c_nxt go md (c_stp E q pc L st h)
  | 4 => c_inv go q md pc L st h (c_pm P q.2.1)
  | 5 => c_thr q md st h
  | k => c_ret k md st h
noncomputable def c_trq (P : List (List c_M)) (E : c_E) (go : c_Go) (md : c_M) (pc : Nat) (L : c_Ls) (st : List Value) (h : c_Hp) : Option c_I → Option (c_O × c_Hp) := fun q => match q with
  | some q => c_trn P E go (c_kd q) q md pc L st h
  | none => none
noncomputable def c_go (P : List (List c_M)) (E : c_E) (n : Nat) : c_Go := Nat.rec (fun _ _ _ _ _ => none) (fun _ go md pc L st h => c_trq P E go md pc L st h (c_at pc (c_mi md))) n
