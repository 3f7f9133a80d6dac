/-! The law's numbers; the share's bits. -/
section Ms
variable {X : List Int32} {h : c_Hp} {Q : c_O × c_Hp → Prop}
theorem e_aldX {k pc : Nat} {L : c_Ls} {st : List Value} {j b : Nat} {e : Int} {x y z} {v : Int32} (hq : c_q k pc = some (.iaload, x, y, z)) (he : e = (j : Int)) (hv : X[j]? = some v) (hn : X.length ≤ 100000) (K : c_Ev X k (pc + 1) L (.int v :: st) h Q) : c_Ev X k pc L (n_v e :: .retAddr b :: st) h Q := by
  subst he
  have hj : j < X.length := (List.getElem?_eq_some_iff.mp hv).1
  refine e_st hq rfl ?_ K
  show c_iald X pc L (n_v (j : Int) :: .retAddr b :: st) h = _
  unfold c_iald
  simp only [n_ix hj hn, hv]
theorem n_and (x : Int32) : ∃ a : Int, 0 ≤ a ∧ a < 2147483648 ∧ x &&& Int32.ofInt 2147483647 = Int32.ofInt a := by
  refine ⟨(x &&& Int32.ofInt 2147483647).toInt, ?_, ?_, (Int32.ofInt_toInt _).symm⟩
  · have h1 : (x &&& Int32.ofInt 2147483647).toBitVec.msb = false := by
      show (x.toBitVec &&& (Int32.ofInt 2147483647).toBitVec).msb = false
      rw [BitVec.msb_and, show (Int32.ofInt 2147483647).toBitVec.msb = false by decide +kernel, Bool.and_false]
    rw [BitVec.msb_eq_toInt] at h1
    have h2 := of_decide_eq_false h1
    show 0 ≤ (x &&& Int32.ofInt 2147483647).toBitVec.toInt
    omega
  · exact Int32.toInt_lt _
/-- a number stirred out of the script -/
theorem s68 {i : Nat} (hX : X.length ≤ 260) (hi : i ≤ 1000) (K : ∀ x : Int32, Q (.inl (some (.int x)), h)) : c_Ev X 68 0 [some (.retAddr 0), some (n_v ↑i), none] [] h Q := by
  refine e_cst (v := 69069) (len := 2) (pc := 0) q68_0 rfl rfl (by decide +kernel) ?_
  refine e_st (pc := 2) q68_2 rfl rfl ?_
  refine e_st (pc := 3) q68_3 rfl rfl ?_
  refine e_st (pc := 4) (st2 := [n_v (X.length : Int), n_v ↑i, n_v 69069]) q68_4 rfl rfl ?_
  have KK : ∀ v : Int32, c_Ev X 68 15 [some (.retAddr 0), some (n_v ↑i), none] [.int v, n_v 69069] h Q := by
    intro v
    refine e_cst (v := 1009) (len := 3) (pc := 15) q68_15 rfl rfl (by decide +kernel) ?_
    refine e_st (pc := 18) q68_18 rfl rfl ?_
    refine e_mul (pc := 19) q68_19 ?_
    refine e_st (pc := 20) q68_20 rfl rfl ?_
    refine e_st (pc := 21) q68_21 rfl rfl ?_
    refine e_cst (v := 12345) (len := 3) (pc := 22) q68_22 rfl rfl (by decide +kernel) ?_
    refine e_st (pc := 25) q68_25 rfl rfl ?_
    generalize (Int32.ofInt 69069 * (v + Int32.ofInt (1009 * (i : Int))) + Int32.ofInt 12345 : Int32) = y1
    refine e_st (pc := 26) (L2 := [some (.retAddr 0), some (n_v ↑i), some (.int y1)]) q68_26 rfl rfl ?_
    refine e_st (pc := 27) q68_27 rfl rfl ?_
    refine e_st (pc := 28) q68_28 rfl rfl ?_
    refine e_cst (v := 13) (len := 2) (pc := 29) q68_29 rfl rfl (by decide +kernel) ?_
    refine e_st (pc := 31) q68_31 rfl rfl ?_
    refine e_st (pc := 32) q68_32 rfl rfl ?_
    refine e_cst (v := 1103515245) (len := 2) (pc := 33) q68_33 rfl rfl (by decide +kernel) ?_
    refine e_st (pc := 35) (st2 := [.int ((y1 ^^^ (y1.toUInt32 >>> ((Int32.ofInt 13).toUInt32 &&& Int32.toUInt32 31)).toInt32) * Int32.ofInt 1103515245)]) q68_35 rfl rfl ?_
    generalize ((y1 ^^^ (y1.toUInt32 >>> ((Int32.ofInt 13).toUInt32 &&& Int32.toUInt32 31)).toInt32) * Int32.ofInt 1103515245 : Int32) = y2
    refine e_st (pc := 36) (L2 := [some (.retAddr 0), some (n_v ↑i), some (.int y2)]) q68_36 rfl rfl ?_
    refine e_st (pc := 37) q68_37 rfl rfl ?_
    refine e_st (pc := 38) q68_38 rfl rfl ?_
    refine e_cst (v := 16) (len := 2) (pc := 39) q68_39 rfl rfl (by decide +kernel) ?_
    refine e_st (pc := 41) q68_41 rfl rfl ?_
    refine e_st (pc := 42) q68_42 rfl rfl ?_
    exact e_iret (pc := 43) q68_43 rfl rfl rfl rfl (K _)
  by_cases hc : i < X.length
  · refine e_cmp false (pc := 5) q68_5 ⟨by omega, by omega⟩ ⟨by omega, by omega⟩ (n_f_ge (by omega)) ?_
    refine e_st (pc := 8) q68_8 rfl rfl ?_
    refine e_st (pc := 9) q68_9 rfl rfl ?_
    refine e_aldX (pc := 10) (j := i) q68_10 rfl (List.getElem?_eq_getElem hc) (by omega) ?_
    refine e_st (pc := 11) q68_11 rfl rfl ?_
    exact KK _
  · refine e_cmp true (pc := 5) q68_5 ⟨by omega, by omega⟩ ⟨by omega, by omega⟩ (n_t_ge (by omega)) ?_
    refine e_cst (v := 0) (len := 1) (pc := 14) q68_14 rfl rfl rfl ?_
    exact KK _
theorem s78 {i n : Nat} (hX : X.length ≤ 260) (hi : i ≤ 1000) (hn : 1 ≤ n ∧ n ≤ 1000) (K : ∀ v : Nat, v < n → Q (.inl (some (n_v ↑v)), h)) : c_Ev X 78 0 [some (.retAddr 0), some (n_v ↑i), some (n_v ↑n)] [] h Q := by
  refine e_st (pc := 0) q78_0 rfl rfl ?_
  refine e_st (pc := 1) q78_1 rfl rfl ?_
  refine e_callS (pc := 2) (mz := c_m68) (L0 := [some (.retAddr 0), some (n_v ↑i), none]) (rest := []) q78_2 rfl rfl rfl rfl rfl rfl rfl rfl rfl ?_
  refine s68 hX hi (fun x => ?_)
  refine e_k (pc := 2) ?_
  refine e_cst (v := 2147483647) (len := 2) (pc := 5) q78_5 rfl rfl (by decide +kernel) ?_
  obtain ⟨a, a1, a2, a3⟩ := n_and x
  refine e_st (pc := 7) (st2 := [n_v a]) q78_7 rfl (by show some (_, _, [Value.int (x &&& Int32.ofInt 2147483647)], _) = _; rw [a3]) ?_
  refine e_st (pc := 8) q78_8 rfl rfl ?_
  refine e_rem (pc := 9) q78_9 ⟨by omega, by omega⟩ (by omega) (by omega) ⟨by omega, by omega⟩ ?_
  have h1 := Int.tmod_eq_emod_of_nonneg (b := (n : Int)) a1
  have h2 := Int.emod_nonneg a (by omega : (n : Int) ≠ 0)
  have h3 := Int.emod_lt_of_pos a (by omega : (0 : Int) < n)
  rw [h1, show a % (n : Int) = (((a % (n : Int)).toNat : Nat) : Int) by omega]
  exact e_iret (pc := 10) q78_10 rfl rfl rfl rfl (K _ (by omega))
/-- the loop that looks for the exponent, as its numbers go -/
def m_bl : Nat → Nat → UInt32 → Option (Nat × UInt32)
  | 0, _, _ => none
  | f + 1, e, y => if 0 ≤ Op.cmpValue (FP.fcmp y 0x3f800000) CmpOp.g then some (e, y) else if e ≤ 1 then some (e, y) else if c_nn (FP.fmul y 0x40000000) then m_bl f (e - 1) (FP.fmul y 0x40000000) else none
def m_bs (x : UInt32) : Option Int32 :=
  if Op.cmpValue (FP.fcmp x 0) CmpOp.g ≤ 0 then some 0 else match m_bl 60 127 x with
    | some r => if c_nn (FP.fsub r.2 0x3f800000) && c_nn (FP.fmul (FP.fsub r.2 0x3f800000) (UInt32.ofNat 1258291200)) then some ((Int32.ofInt r.1 <<< (Int32.ofInt 23 &&& 31)) ||| FP.f2i (FP.fmul (FP.fsub r.2 0x3f800000) (UInt32.ofNat 1258291200))) else none
    | none => none
def m_sh (f n : Nat) : UInt32 := FP.fdiv (FP.i2f (Int32.ofInt f)) (FP.i2f (Int32.ofInt n))
set_option maxRecDepth 100000 in
theorem m_shares : ∀ n : Fin 24, ∀ f : Fin 25, f.val ≤ n.val + 1 → (c_nn (m_sh f.val (n.val + 1)) && decide (Op.cmpValue (FP.fcmp (m_sh f.val (n.val + 1)) (m_sh f.val (n.val + 1))) CmpOp.l = 0) && decide (m_bs (m_sh f.val (n.val + 1)) = some (m_sh f.val (n.val + 1)).toInt32)) = true := by decide +kernel
end Ms
