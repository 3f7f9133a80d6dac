/-! ### what a run of the small machine comes to: rules, one an instruction -/
abbrev n_v (a : Int) : Value := .int (Int32.ofInt a)
def c_q (k pc : Nat) : Option c_I := match c_P[k]? with
  | some md => c_at pc (c_mi md)
  | none => none
/-- the run comes to an end that has Q -/
def c_Ev (X : List Int32) (k pc : Nat) (L : c_Ls) (st : List Value) (h : c_Hp) (Q : c_O × c_Hp → Prop) : Prop := ∃ n r, c_go c_P c_ty c_nf X n k pc L st h = some r ∧ Q r
theorem c_go_more {X : List Int32} : ∀ (n : Nat) (k pc : Nat) (L : c_Ls) (st : List Value) (h : c_Hp) (r : c_O × c_Hp), c_go c_P c_ty c_nf X n k pc L st h = some r → c_go c_P c_ty c_nf X (n + 1) k pc L st h = some r
  | 0, _, _, _, _, _, _, e => by simp [c_go] at e
  | n + 1, k, pc, L, st, h, r, e => by
    rw [c_go] at e ⊢
    cases h1 : c_P[k]? with
    | none => rw [h1] at e; cases e
    | some md =>
      rw [h1] at e
      simp only at e ⊢
      cases h2 : c_at pc (c_mi md) with
      | none => rw [h2] at e; cases e
      | some q =>
        rw [h2] at e
        simp only at e ⊢
        split at e
        · rename_i h3
          cases h4 : c_stp c_ty c_nf X q pc L st h with
          | none => rw [h4] at e; cases e
          | some r1 =>
            rw [h4] at e
            exact c_go_more n _ _ _ _ _ _ e
        · exact e
        · exact e
        · cases h4 : c_P[q.2.1]? with
          | none => rw [h4] at e; cases e
          | some mz =>
            rw [h4] at e
            simp only at e ⊢
            cases h5 : c_prt mz q st h with
            | none => rw [h5] at e; cases e
            | some ar =>
              rw [h5] at e
              simp only at e ⊢
              cases h6 : c_go c_P c_ty c_nf X n q.2.1 0 (c_ent ar.1 (c_mL mz)) [] h with
              | none => rw [h6] at e; cases e
              | some r1 =>
                rw [h6] at e
                rw [c_go_more n _ _ _ _ _ _ h6]
                obtain ⟨o, h1⟩ := r1
                cases o with
                | inl v => exact c_go_more n _ _ _ _ _ _ e
                | inr E =>
                  simp only at e ⊢
                  cases h7 : c_cat pc E (c_mx md) with
                  | none => rw [h7] at e; exact e
                  | some w =>
                    rw [h7] at e
                    exact c_go_more n _ _ _ _ _ _ e
        · exact e
        · exact e
theorem c_go_up {X : List Int32} {k pc : Nat} {L : c_Ls} {st : List Value} {h : c_Hp} {r : c_O × c_Hp} {n m : Nat} (hm : n ≤ m) (e : c_go c_P c_ty c_nf X n k pc L st h = some r) : c_go c_P c_ty c_nf X m k pc L st h = some r := by
  induction m with
  | zero =>
    have : n = 0 := by omega
    rw [← this]
    exact e
  | succ m ih =>
    by_cases h1 : n = m + 1
    · rw [← h1]
      exact e
    · exact c_go_more m _ _ _ _ _ _ (ih (by omega))
section Rules
variable {X : List Int32} {k pc : Nat} {L : c_Ls} {st : List Value} {h : c_Hp} {Q : c_O × c_Hp → Prop}
theorem c_q_ok {q : c_I} (hq : c_q k pc = some q) : ∃ md, c_P[k]? = some md ∧ c_at pc (c_mi md) = some q := by
  unfold c_q at hq
  split at hq
  · rename_i md h1
    exact ⟨md, h1, hq⟩
  · cases hq
/-- a step, as the machine makes it -/
theorem e_st {q : c_I} {pc2 : Nat} {L2 : c_Ls} {st2 : List Value} {h2 : c_Hp} (hq : c_q k pc = some q) (hd : c_kd q = 0) (hs : c_stp c_ty c_nf X q pc L st h = some (pc2, L2, st2, h2)) (K : c_Ev X k pc2 L2 st2 h2 Q) : c_Ev X k pc L st h Q := by
  obtain ⟨md, h1, h2⟩ := c_q_ok hq
  obtain ⟨n, r, hn, hr⟩ := K
  refine ⟨n + 1, r, ?_, hr⟩
  rw [c_go, h1]
  simp only [h2, hd, hs]
  exact hn
/-- a call: what it comes to, then the rest -/
def c_after (X : List Int32) (k pc : Nat) (L : c_Ls) (rest : List Value) (Q : c_O × c_Hp → Prop) : c_O × c_Hp → Prop
  | (.inl v, h1) => c_Ev X k (pc + 3) L (v.toList ++ rest) h1 Q
  | (.inr E, h1) => match c_P[k]? with
    | some md => match c_cat pc E (c_mx md) with
      | some w => c_Ev X k (((c_mh md).getD w.1 (0, 0, 0, 0)).2.2.1 + w.2.2) ((c_clr L w.2.1).set w.2.1 none) [] h1 Q
      | none => (c_mh md).isEmpty = true ∧ Q (.inr E, h1)
    | none => False
theorem e_call {q : c_I} {mz : c_M} {as rest : List Value} {L0 : c_Ls} (hq : c_q k pc = some q) (hd : c_kd q = 4) (hz : c_P[q.2.1]? = some mz) (hp : c_prt mz q st h = some (as, rest)) (hL : c_ent as (c_mL mz) = L0)
    (K : c_Ev X q.2.1 0 L0 [] h (c_after X k pc L rest Q)) : c_Ev X k pc L st h Q := by
  subst hL
  obtain ⟨md, h1, h2⟩ := c_q_ok hq
  obtain ⟨n, ⟨o, hh⟩, hn, hr⟩ := K
  cases o with
  | inl v =>
    obtain ⟨n2, r2, hn2, hr2⟩ := hr
    refine ⟨max n n2 + 1, r2, ?_, hr2⟩
    rw [c_go, h1]
    simp only [h2, hd, hz, hp]
    rw [c_go_up (Nat.le_max_left n n2) hn]
    exact c_go_up (Nat.le_max_right n n2) hn2
  | inr E =>
    unfold c_after at hr
    simp only [h1] at hr
    cases h7 : c_cat pc E (c_mx md) with
    | some w =>
      rw [h7] at hr
      obtain ⟨n2, r2, hn2, hr2⟩ := hr
      refine ⟨max n n2 + 1, r2, ?_, hr2⟩
      rw [c_go, h1]
      simp only [h2, hd, hz, hp]
      rw [c_go_up (Nat.le_max_left n n2) hn]
      simp only [h7]
      exact c_go_up (Nat.le_max_right n n2) hn2
    | none =>
      rw [h7] at hr
      obtain ⟨he, hr⟩ := hr
      refine ⟨n + 1, _, ?_, hr⟩
      rw [c_go, h1]
      simp only [h2, hd, hz, hp, hn, h7, he, if_true]
theorem e_iret {q : c_I} {md : c_M} {t : FieldType} {x : Int32} (hq : c_q k pc = some q) (hd : c_kd q = 1) (hz : c_P[k]? = some md) (ht : c_mr md = some t) (hx : narrow t (.int x) = .int x) (K : Q (.inl (some (.int x)), h)) : c_Ev X k pc L [.int x] h Q := by
  obtain ⟨md2, h1, h2⟩ := c_q_ok hq
  cases hz.symm.trans h1
  refine ⟨1, _, ?_, K⟩
  rw [c_go, h1]
  simp only [h2, hd, ht, hx, if_true]
theorem e_ret {q : c_I} {md : c_M} (hq : c_q k pc = some q) (hd : c_kd q = 2) (hz : c_P[k]? = some md) (ht : c_mr md = none) (K : Q (.inl none, h)) : c_Ev X k pc L [] h Q := by
  obtain ⟨md2, h1, h2⟩ := c_q_ok hq
  cases hz.symm.trans h1
  refine ⟨1, _, ?_, K⟩
  rw [c_go, h1]
  simp only [h2, hd, ht]
theorem e_thr {q : c_I} {md : c_M} (hq : c_q k pc = some q) (hd : c_kd q = 5) (hz : c_P[k]? = some md) (he : (c_mh md).isEmpty = true) (hs : (st.map fun v => v.category).sum ≤ 8) (K : Q (.inr q.2.1, h ++ [none])) : c_Ev X k pc L st h Q := by
  obtain ⟨md2, h1, h2⟩ := c_q_ok hq
  cases hz.symm.trans h1
  refine ⟨1, _, ?_, K⟩
  rw [c_go, h1]
  simp only [h2, hd, he, hs, decide_true, Bool.and_self, if_true]
/-! whole numbers -/
theorem n_add (a b : Int) : Int32.ofInt a + Int32.ofInt b = Int32.ofInt (a + b) := (Int32.ofInt_add a b).symm
theorem n_sub (a b : Int) : Int32.ofInt a - Int32.ofInt b = Int32.ofInt (a - b) := (Int32.ofInt_sub a b).symm
theorem n_mul (a b : Int) : Int32.ofInt a * Int32.ofInt b = Int32.ofInt (a * b) := (Int32.ofInt_mul a b).symm
def n_r (a : Int) : Prop := -2147483648 ≤ a ∧ a < 2147483648
theorem n_toInt {a : Int} (h : n_r a) : (Int32.ofInt a).toInt = a := Int32.toInt_ofInt_of_le h.1 h.2
theorem n_lt {a b : Int} (ha : n_r a) (hb : n_r b) : Int32.ofInt a < Int32.ofInt b ↔ a < b := by
  rw [Int32.lt_iff_toInt_lt, n_toInt ha, n_toInt hb]
theorem n_le {a b : Int} (ha : n_r a) (hb : n_r b) : Int32.ofInt a ≤ Int32.ofInt b ↔ a ≤ b := by
  rw [Int32.le_iff_toInt_le, n_toInt ha, n_toInt hb]
theorem n_eq {a b : Int} (ha : n_r a) (hb : n_r b) : Int32.ofInt a = Int32.ofInt b ↔ a = b := by
  rw [← Int32.toInt_inj, n_toInt ha, n_toInt hb]
def n_cmp (cd : Jvm.ClassFile.Cond) (a b : Int) : Bool := match cd with
  | .eq => decide (a = b)
  | .ne => decide (¬ a = b)
  | .lt => decide (a < b)
  | .ge => decide (b ≤ a)
  | .gt => decide (b < a)
  | .le => decide (a ≤ b)
theorem n_cmp_ok {cd : Jvm.ClassFile.Cond} {a b : Int} (ha : n_r a) (hb : n_r b) : c_cmp cd (Int32.ofInt a) (Int32.ofInt b) = n_cmp cd a b := by
  cases cd <;> simp only [c_cmp, n_cmp, n_lt ha hb, n_lt hb ha, n_le ha hb, n_le hb ha, n_eq ha hb]
theorem e_add {a b : Int} {x y z} (hq : c_q k pc = some (.iadd, x, y, z)) (K : c_Ev X k (pc + 1) L (n_v (a + b) :: st) h Q) : c_Ev X k pc L (n_v b :: n_v a :: st) h Q := e_st hq rfl (by show some (pc + 1, L, Value.int (Int32.ofInt a + Int32.ofInt b) :: st, h) = _; rw [n_add]) K
theorem e_sub {a b : Int} {x y z} (hq : c_q k pc = some (.isub, x, y, z)) (K : c_Ev X k (pc + 1) L (n_v (a - b) :: st) h Q) : c_Ev X k pc L (n_v b :: n_v a :: st) h Q := e_st hq rfl (by show some (pc + 1, L, Value.int (Int32.ofInt a - Int32.ofInt b) :: st, h) = _; rw [n_sub]) K
theorem e_inc {a : Int} {i : Nat} {n : Int} {L2 : c_Ls} {x y z} (hq : c_q k pc = some (.iinc i n, x, y, z)) (hL : L[i]? = some (some (n_v a))) (hS : c_set L i (n_v (a + n)) = L2) (K : c_Ev X k (pc + 3) L2 st h Q) : c_Ev X k pc L st h Q := by
  refine e_st hq rfl ?_ K
  show (match L[i]? with
    | some (some (.int x)) => some (pc + 3, c_set L i (.int (x + Int32.ofInt n)), st, h)
    | _ => none) = _
  rw [hL]
  simp only
  rw [n_add, hS]
theorem e_cmp {a b : Int} {cd : Jvm.ClassFile.Cond} {o : Int} {x y z} (c : Bool) (hq : c_q k pc = some (.if_icmp cd o, x, y, z)) (ha : n_r a) (hb : n_r b) (hc : n_cmp cd a b = c) (K : c_Ev X k (if c then x else pc + 3) L st h Q) : c_Ev X k pc L (n_v b :: n_v a :: st) h Q := by
  refine e_st hq rfl ?_ K
  show some (if c_cmp cd (Int32.ofInt a) (Int32.ofInt b) then x else pc + 3, L, st, h) = _
  rw [n_cmp_ok ha hb, hc]
theorem e_if {a : Int} {cd : Jvm.ClassFile.Cond} {o : Int} {x y z} (c : Bool) (hq : c_q k pc = some (.ifCond cd o, x, y, z)) (ha : n_r a) (hc : n_cmp cd a 0 = c) (K : c_Ev X k (if c then x else pc + 3) L st h Q) : c_Ev X k pc L (n_v a :: st) h Q := by
  refine e_st hq rfl ?_ K
  show some (if c_cmp cd (Int32.ofInt a) (Int32.ofInt 0) then x else pc + 3, L, st, h) = _
  rw [n_cmp_ok ha ⟨by omega, by omega⟩, hc]
theorem e_max {a b : Int} {i : Nat} {x y} (hq : c_q k pc = some (.invokestatic i, x, y, 7)) (ha : n_r a) (hb : n_r b) (hs : (st.map fun v => v.category).sum ≤ 8) (K : c_Ev X k (pc + 3) L (n_v (max a b) :: st) h Q) : c_Ev X k pc L (n_v b :: n_v a :: st) h Q := by
  refine e_st hq rfl ?_ K
  show (if (st.map fun v => v.category).sum ≤ 8 then some (pc + 3, L, Value.int (if Int32.ofInt a < Int32.ofInt b then Int32.ofInt b else Int32.ofInt a) :: st, h) else none) = _
  rw [if_pos hs]
  simp only [n_lt ha hb]
  by_cases e : a < b
  · rw [if_pos e, show max a b = b by omega]
  · rw [if_neg e, show max a b = a by omega]
theorem e_min {a b : Int} {i : Nat} {x y} (hq : c_q k pc = some (.invokestatic i, x, y, 8)) (ha : n_r a) (hb : n_r b) (hs : (st.map fun v => v.category).sum ≤ 8) (K : c_Ev X k (pc + 3) L (n_v (min a b) :: st) h Q) : c_Ev X k pc L (n_v b :: n_v a :: st) h Q := by
  refine e_st hq rfl ?_ K
  show (if (st.map fun v => v.category).sum ≤ 8 then some (pc + 3, L, Value.int (if Int32.ofInt b < Int32.ofInt a then Int32.ofInt b else Int32.ofInt a) :: st, h) else none) = _
  rw [if_pos hs]
  simp only [n_lt hb ha]
  by_cases e : b < a
  · rw [if_pos e, show min a b = b by omega]
  · rw [if_neg e, show min a b = a by omega]
/-! the heap -/
def n_arr (n : Nat) (f : Nat → Int) : c_Cell := some (.inr (0, (List.range n).map (fun t => n_v (f t))))
/-- at b lies a row of n numbers f -/
def c_ar (h : c_Hp) (b n : Nat) (f : Nat → Int) : Prop := h[b]? = some (n_arr n f)
/-- at a lies an object of the class k with the fields fs -/
def c_ob (h : c_Hp) (a k : Nat) (fs : List Value) : Prop := h[a]? = some (some (.inl (k, fs)))
/-- h2 is h but for the cell at a, which is c -/
def c_up (h h2 : c_Hp) (a : Nat) (c : c_Cell) : Prop := h2.length = h.length ∧ h2[a]? = some c ∧ (∀ q, q ≠ a → h2[q]? = h[q]?) ∧ c_msz h2 = c_msz h
theorem c_ob.fs {a k : Nat} {fs : List Value} (o : c_ob h a k fs) : c_fs h a k = some fs := by
  unfold c_fs
  rw [show h[a]? = _ from o]
  simp
theorem c_ar.vs {b n : Nat} {f : Nat → Int} (o : c_ar h b n f) : c_vs h b 0 = some ((List.range n).map (fun t => n_v (f t))) := by
  unfold c_vs
  rw [show h[b]? = _ from o]
  rfl
theorem c_ar.up {b n a : Nat} {f : Nat → Int} {c : c_Cell} {h2 : c_Hp} (o : c_ar h b n f) (u : c_up h h2 a c) (hne : b ≠ a) : c_ar h2 b n f := by
  unfold c_ar
  rw [u.2.2.1 b hne]
  exact o
theorem c_ob.up {b k a : Nat} {fs : List Value} {c : c_Cell} {h2 : c_Hp} (o : c_ob h b k fs) (u : c_up h h2 a c) (hne : b ≠ a) : c_ob h2 b k fs := by
  unfold c_ob
  rw [u.2.2.1 b hne]
  exact o
theorem c_up.tr {h2 h3 : c_Hp} {a : Nat} {c c2 : c_Cell} (u : c_up h h2 a c) (v : c_up h2 h3 a c2) : c_up h h3 a c2 := ⟨v.1.trans u.1, v.2.1, fun q hq => (v.2.2.1 q hq).trans (u.2.2.1 q hq), v.2.2.2.trans u.2.2.2⟩
theorem c_up.mk {a : Nat} {c c0 : c_Cell} (h0 : h[a]? = some c0) (hc : c_sz c0 = c_sz c) : c_up h (h.set a c) a c := by
  have hl : a < h.length := (List.getElem?_eq_some_iff.mp h0).1
  refine ⟨List.length_set, ?_, fun q hq => ?_, c_msz_set h0 hc⟩
  · rw [List.getElem?_set]; simp [hl]
  · rw [List.getElem?_set_ne (fun e => hq e.symm)]
theorem c_up.rf {a : Nat} {c : c_Cell} (h0 : h[a]? = some c) : c_up h h a c := ⟨rfl, h0, fun _ _ => rfl, rfl⟩
theorem n_arr_sz (n : Nat) (f : Nat → Int) : c_sz (n_arr n f) = n := by simp [n_arr, c_sz]
theorem n_arr_set (n j : Nat) (f : Nat → Int) (x : Int) : ((List.range n).map (fun t => n_v (f t))).set j (n_v x) = (List.range n).map (fun t => n_v (if t = j then x else f t)) := by
  refine List.ext_getElem? fun i => ?_
  rw [List.getElem?_set]
  by_cases e : j = i
  · subst e
    by_cases h1 : j < n
    · rw [if_pos rfl, if_pos (by simpa using h1), List.getElem?_map, List.getElem?_range h1]
      simp
    · rw [if_pos rfl, if_neg (by simpa using h1), List.getElem?_eq_none (by simpa using h1)]
  · rw [if_neg e, List.getElem?_map, List.getElem?_map]
    by_cases h1 : i < n
    · have e2 : ¬ i = j := fun z => e z.symm
      rw [List.getElem?_range h1]
      simp [e2]
    · rw [List.getElem?_eq_none (by simpa using h1)]
      rfl
theorem n_ix {j n : Nat} (hj : j < n) (hn : n ≤ 100000) : c_ix (Int32.ofInt (j : Int)) n = some j := by
  have hr : n_r (j : Int) := ⟨by omega, by omega⟩
  have h0 : ¬ Int32.ofInt (j : Int) < 0 := by
    rw [show (0 : Int32) = Int32.ofInt 0 from rfl, n_lt hr ⟨by omega, by omega⟩]
    omega
  have h1 : (Int32.ofInt (j : Int)).toNatClampNeg = j := by
    show (Int32.ofInt (j : Int)).toInt.toNat = j
    rw [n_toInt hr]
    rfl
  unfold c_ix
  rw [if_neg h0, h1, if_pos hj]
theorem e_getf {i a kc j : Nat} {z : Nat} {fs : List Value} {v : Value} (hq : c_q k pc = some (.getfield i, kc, j, z)) (o : c_ob h a kc fs) (hv : fs[j]? = some v) (K : c_Ev X k (pc + 3) L (v :: st) h Q) : c_Ev X k pc L (.ref a :: st) h Q := by
  refine e_st hq rfl ?_ K
  show c_getf (.getfield i, kc, j, z) pc L (.ref a :: st) h = _
  unfold c_getf
  simp only [o.fs, hv]
theorem e_putf {i a kc j : Nat} {z : Nat} {fs fs2 : List Value} {v : Value} (hq : c_q k pc = some (.putfield i, kc, j, z)) (o : c_ob h a kc fs) (hv : c_okv (c_ty kc j) v = true) (hj : j < fs.length) (hf : fs.set j v = fs2) (K : ∀ h2, c_up h h2 a (some (.inl (kc, fs2))) → c_Ev X k (pc + 3) L st h2 Q) : c_Ev X k pc L (v :: .ref a :: st) h Q := by
  subst hf
  refine e_st hq rfl ?_ (K _ (c_up.mk o (by simp [c_sz])))
  show c_putf c_ty (.putfield i, kc, j, z) pc L (v :: .ref a :: st) h = _
  unfold c_putf
  simp only [o.fs, hv, hj, if_true]
theorem e_ald {b n j : Nat} {e : Int} {f : Nat → Int} {x y z} (hq : c_q k pc = some (.iaload, x, y, z)) (o : c_ar h b n f) (he : e = (j : Int)) (hj : j < n) (hn : n ≤ 100000) (K : c_Ev X k (pc + 1) L (n_v (f j) :: st) h Q) : c_Ev X k pc L (n_v e :: .ref b :: st) h Q := by
  subst he
  refine e_st hq rfl ?_ K
  show c_iald X pc L (n_v (j : Int) :: .ref b :: st) h = _
  unfold c_iald
  simp only [o.vs, List.length_map, List.length_range, n_ix hj hn, List.getElem?_map, List.getElem?_range hj, Option.map_some]
theorem e_ast {b n j : Nat} {e v : Int} {f : Nat → Int} {x y z} (hq : c_q k pc = some (.iastore, x, y, z)) (o : c_ar h b n f) (he : e = (j : Int)) (hj : j < n) (hn : n ≤ 100000) (K : ∀ h2, c_up h h2 b (n_arr n (fun t => if t = j then v else f t)) → c_Ev X k (pc + 1) L st h2 Q) : c_Ev X k pc L (n_v v :: n_v e :: .ref b :: st) h Q := by
  subst he
  refine e_st hq rfl ?_ (K (h.set b (n_arr n (fun t => if t = j then v else f t))) (c_up.mk o (by rw [n_arr_sz, n_arr_sz])))
  show c_iast pc L (n_v v :: n_v (j : Int) :: .ref b :: st) h = _
  unfold c_iast
  simp only [o.vs, List.length_map, List.length_range, n_ix hj hn]
  rw [n_arr_set]
  rfl
theorem e_len {b n : Nat} {f : Nat → Int} {i : Nat} (hq : c_q k pc = some (.arraylength, 0, i, 0)) (o : c_ar h b n f) (K : c_Ev X k (pc + 1) L (n_v (n : Int) :: st) h Q) : c_Ev X k pc L (.ref b :: st) h Q := by
  refine e_st hq rfl ?_ K
  show c_alen X (.arraylength, 0, i, 0) pc L (.ref b :: st) h = _
  unfold c_alen
  simp only [o.vs, List.length_map, List.length_range]
  rfl
end Rules
