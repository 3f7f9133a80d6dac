/-! The share's bits, as the calls give them. -/
section Ms
variable {X : List Int32} {h : c_Hp} {Q : c_O × c_Hp → Prop}
theorem s23E {x y : UInt32} {e : Nat} {r : Int32} (h1 : (c_nn (FP.fsub y 0x3f800000) && c_nn (FP.fmul (FP.fsub y 0x3f800000) (UInt32.ofNat 1258291200))) = true) (hr : (Int32.ofInt e <<< (Int32.ofInt 23 &&& 31)) ||| FP.f2i (FP.fmul (FP.fsub y 0x3f800000) (UInt32.ofNat 1258291200)) = r) (K : Q (.inl (some (.int r)), h)) : c_Ev X 23 34 [some (.float x), some (n_v ↑e), some (.float y)] [] h Q := by
  rw [Bool.and_eq_true] at h1
  refine e_st (pc := 34) q23_34 rfl rfl ?_
  refine e_cst (v := 23) (len := 2) (pc := 35) q23_35 rfl rfl (by decide +kernel) ?_
  refine e_st (pc := 37) q23_37 rfl rfl ?_
  refine e_st (pc := 38) q23_38 rfl rfl ?_
  refine e_st (pc := 39) q23_39 rfl rfl ?_
  refine e_st (pc := 40) (pc2 := 41) (L2 := [some (.float x), some (n_v ↑e), some (.float y)]) (h2 := h) (st2 := [.float (FP.fsub y 0x3f800000), .int (Int32.ofInt e <<< (Int32.ofInt 23 &&& 31))]) q23_40 rfl (by show (if c_nn (FP.fsub y 0x3f800000) then _ else none) = _; rw [if_pos h1.1]) ?_
  refine e_st (pc := 41) q23_41 rfl rfl ?_
  refine e_st (pc := 44) (pc2 := 45) (L2 := [some (.float x), some (n_v ↑e), some (.float y)]) (h2 := h) (st2 := [.float (FP.fmul (FP.fsub y 0x3f800000) (UInt32.ofNat 1258291200)), .int (Int32.ofInt e <<< (Int32.ofInt 23 &&& 31))]) q23_44 rfl (by show (if c_nn (FP.fmul (FP.fsub y 0x3f800000) (UInt32.ofNat 1258291200)) then _ else none) = _; rw [if_pos h1.2]) ?_
  refine e_st (pc := 45) q23_45 rfl rfl ?_
  refine e_st (pc := 46) (st2 := [.int r]) q23_46 rfl (by show some (_, _, [Value.int ((Int32.ofInt e <<< (Int32.ofInt 23 &&& 31)) ||| FP.f2i (FP.fmul (FP.fsub y 0x3f800000) (UInt32.ofNat 1258291200)))], _) = _; rw [hr]) ?_
  exact e_iret (pc := 47) q23_47 rfl rfl rfl rfl K
theorem s23L {x : UInt32} {e2 : Nat} {y2 : UInt32} {r : Int32} (h1 : (c_nn (FP.fsub y2 0x3f800000) && c_nn (FP.fmul (FP.fsub y2 0x3f800000) (UInt32.ofNat 1258291200))) = true) (hr : (Int32.ofInt e2 <<< (Int32.ofInt 23 &&& 31)) ||| FP.f2i (FP.fmul (FP.fsub y2 0x3f800000) (UInt32.ofNat 1258291200)) = r) (K : Q (.inl (some (.int r)), h)) :
  ∀ (f e : Nat) (y : UInt32), e ≤ 1000 → m_bl f e y = some (e2, y2) → c_Ev X 23 13 [some (.float x), some (n_v ↑e), some (.float y)] [] h Q
  | 0, e, y, _, hb => by cases hb
  | f + 1, e, y, he, hb => by
    refine e_st (pc := 13) q23_13 rfl rfl ?_
    refine e_st (pc := 14) q23_14 rfl rfl ?_
    refine e_st (pc := 15) (st2 := [.int (Op.cmpValue (FP.fcmp y 0x3f800000) CmpOp.g)]) q23_15 rfl rfl ?_
    rw [m_bl] at hb
    by_cases c1 : 0 ≤ Op.cmpValue (FP.fcmp y 0x3f800000) CmpOp.g
    · rw [if_pos c1] at hb
      refine e_st (pc := 16) (pc2 := 34) (L2 := [some (.float x), some (n_v ↑e), some (.float y)]) (st2 := []) (h2 := h) q23_16 rfl (by show some (if decide (0 ≤ Op.cmpValue (FP.fcmp y 0x3f800000) CmpOp.g) then 34 else 16 + 3, _, _, _) = _; rw [decide_eq_true c1]; rfl) ?_
      cases hb
      exact s23E h1 hr K
    · rw [if_neg c1] at hb
      refine e_st (pc := 16) (pc2 := 19) (L2 := [some (.float x), some (n_v ↑e), some (.float y)]) (st2 := []) (h2 := h) q23_16 rfl (by show some (if decide (0 ≤ Op.cmpValue (FP.fcmp y 0x3f800000) CmpOp.g) then 34 else 16 + 3, _, _, _) = _; rw [decide_eq_false c1]; rfl) ?_
      refine e_st (pc := 19) q23_19 rfl rfl ?_
      refine e_cst (v := 1) (len := 1) (pc := 20) q23_20 rfl rfl rfl ?_
      by_cases c2 : e ≤ 1
      · rw [if_pos c2] at hb
        cases hb
        refine e_cmp true (pc := 21) q23_21 ⟨by omega, by omega⟩ ⟨by omega, by omega⟩ (n_t_le (by omega)) ?_
        exact s23E h1 hr K
      · rw [if_neg c2] at hb
        refine e_cmp false (pc := 21) q23_21 ⟨by omega, by omega⟩ ⟨by omega, by omega⟩ (n_f_le (by omega)) ?_
        refine e_st (pc := 24) q23_24 rfl rfl ?_
        refine e_st (pc := 25) q23_25 rfl rfl ?_
        by_cases c3 : c_nn (FP.fmul y 0x40000000) = true
        · rw [if_pos c3] at hb
          refine e_st (pc := 26) (pc2 := 27) (L2 := [some (.float x), some (n_v ↑e), some (.float y)]) (st2 := [.float (FP.fmul y 0x40000000)]) (h2 := h) q23_26 rfl (by show (if c_nn (FP.fmul y 0x40000000) then _ else none) = _; rw [if_pos c3]) ?_
          refine e_st (pc := 27) (L2 := [some (.float x), some (n_v ↑e), some (.float (FP.fmul y 0x40000000))]) q23_27 rfl rfl ?_
          refine e_inc (pc := 28) (L2 := [some (.float x), some (n_v (↑e + -1)), some (.float (FP.fmul y 0x40000000))]) q23_28 rfl rfl ?_
          rw [show (e : Int) + -1 = ((e - 1 : Nat) : Int) by omega]
          refine e_st (pc := 31) q23_31 rfl rfl ?_
          exact s23L h1 hr K f (e - 1) _ (by omega) hb
        · rw [if_neg c3] at hb
          cases hb
theorem s23 {x : UInt32} {r : Int32} (hb : m_bs x = some r) (K : Q (.inl (some (.int r)), h)) : c_Ev X 23 0 [some (.float x), none, none] [] h Q := by
  refine e_st (pc := 0) q23_0 rfl rfl ?_
  refine e_st (pc := 1) q23_1 rfl rfl ?_
  refine e_st (pc := 2) (st2 := [.int (Op.cmpValue (FP.fcmp x 0) CmpOp.g)]) q23_2 rfl rfl ?_
  unfold m_bs at hb
  by_cases c1 : Op.cmpValue (FP.fcmp x 0) CmpOp.g ≤ 0
  · rw [if_pos c1] at hb
    cases hb
    refine e_st (pc := 3) (pc2 := 6) (L2 := [some (.float x), none, none]) (st2 := []) (h2 := h) q23_3 rfl (by
      show some (if decide (0 < Op.cmpValue (FP.fcmp x 0) CmpOp.g) then 8 else 3 + 3, _, _, _) = _
      rw [decide_eq_false (Int32.not_lt.mpr c1)]; rfl) ?_
    refine e_cst (v := 0) (len := 1) (pc := 6) q23_6 rfl rfl rfl ?_
    exact e_iret (pc := 7) q23_7 rfl rfl rfl rfl K
  · rw [if_neg c1] at hb
    refine e_st (pc := 3) (pc2 := 8) (L2 := [some (.float x), none, none]) (st2 := []) (h2 := h) q23_3 rfl (by
      show some (if decide (0 < Op.cmpValue (FP.fcmp x 0) CmpOp.g) then 8 else 3 + 3, _, _, _) = _
      rw [decide_eq_true (Int32.not_le.mp c1)]; rfl) ?_
    refine e_cst (v := 127) (len := 2) (pc := 8) q23_8 rfl rfl (by decide +kernel) ?_
    refine e_st (pc := 10) (L2 := [some (.float x), some (n_v 127), none]) q23_10 rfl rfl ?_
    refine e_st (pc := 11) q23_11 rfl rfl ?_
    refine e_st (pc := 12) (L2 := [some (.float x), some (n_v ((127 : Nat) : Int)), some (.float x)]) q23_12 rfl rfl ?_
    cases hm : m_bl 60 127 x with
    | none => rw [hm] at hb; cases hb
    | some z =>
      rw [hm] at hb
      simp only at hb
      split at hb
      · rename_i h1
        cases hb
        exact s23L h1 rfl K 60 127 x (by omega) hm
      · cases hb
theorem s80 {x : UInt32} (hx : Op.cmpValue (FP.fcmp x x) CmpOp.l = 0) (K : Q (.inl (some (n_v 0)), h)) : c_Ev X 80 0 [some (.float x)] [] h Q := by
  refine e_st (pc := 0) q80_0 rfl rfl ?_
  refine e_st (pc := 1) q80_1 rfl rfl ?_
  refine e_st (pc := 2) (st2 := [n_v 0]) q80_2 rfl (by show some (_, _, [Value.int (Op.cmpValue (FP.fcmp x x) CmpOp.l)], _) = _; rw [hx]; rfl) ?_
  refine e_if true (pc := 3) q80_3 ⟨by omega, by omega⟩ (n_t_eq rfl) ?_
  refine e_cst (v := 0) (len := 1) (pc := 10) q80_10 rfl rfl rfl ?_
  exact e_iret (pc := 11) q80_11 rfl rfl rfl (by decide +kernel) K
theorem s79 {x : UInt32} (hx : Op.cmpValue (FP.fcmp x x) CmpOp.l = 0) (K : Q (.inl (some (.int x.toInt32)), h)) : c_Ev X 79 0 [some (.float x)] [] h Q := by
  refine e_st (pc := 0) q79_0 rfl rfl ?_
  refine e_callS (pc := 1) (mz := c_m80) (L0 := [some (.float x)]) (rest := []) q79_1 rfl rfl rfl rfl rfl rfl rfl rfl rfl ?_
  refine s80 hx ?_
  refine e_k (pc := 1) ?_
  refine e_if false (pc := 4) q79_4 ⟨by omega, by omega⟩ (n_f_ne (by omega)) ?_
  refine e_st (pc := 7) q79_7 rfl rfl ?_
  refine e_st (pc := 8) (st2 := [.int x.toInt32]) q79_8 rfl rfl ?_
  exact e_iret (pc := 11) q79_11 rfl rfl rfl rfl K
theorem m_share {f n : Nat} (hn : 1 ≤ n ∧ n ≤ 24) (hf : f ≤ n) : c_nn (m_sh f n) = true ∧ Op.cmpValue (FP.fcmp (m_sh f n) (m_sh f n)) CmpOp.l = 0 ∧ m_bs (m_sh f n) = some (m_sh f n).toInt32 := by
  have h1 := m_shares ⟨n - 1, by omega⟩ ⟨f, by omega⟩ (by show f ≤ n - 1 + 1; omega)
  simp only [Bool.and_eq_true, decide_eq_true_eq, show n - 1 + 1 = n by omega] at h1
  exact ⟨h1.1.1, h1.1.2, h1.2⟩
theorem s12 {n kp : Nat} {rg : Int} {cf bf : Nat → Int} {H : Nat → Nat → Int} (hW : m_St h n rg cf bf kp H) {F : Nat} (hF : m_cnt n (fun t => decide (0 < bf t)) = (F : Int)) (K : Q (.inl (some (.int (m_sh F n).toInt32)), h)) : c_Ev X 12 0 [some (.ref 0), none] [] h Q := by
  obtain ⟨⟨hn, hrg, hk, hbf, hH⟩, ho, hr, hc, hb, ⟨nx, hnx, hp, P, C, hP, hC, hPC⟩, h5, h14, hS, hZ, wy, hy⟩ := id hW
  have hle := m_cnt_le n (fun t => decide (0 < bf t))
  obtain ⟨f1, f2, f3⟩ := m_share hn (f := F) (by omega)
  refine e_st (pc := 0) q12_0 rfl rfl ?_
  refine e_getf (pc := 1) q12_1 ho rfl ?_
  refine e_callV (pc := 4) (mz := c_m57) (a := 1) (L0 := [some (.ref 1), none, none]) (rest := []) q12_4 rfl rfl rfl rfl rfl rfl rfl hr rfl rfl ?_
  refine s57 hr hb (by omega) (fun t ht => by have := hbf t ht; omega) ?_
  rw [hF]
  refine e_k (pc := 4) ?_
  refine e_st (pc := 7) q12_7 rfl rfl ?_
  refine e_st (pc := 8) q12_8 rfl rfl ?_
  refine e_getf (pc := 9) q12_9 ho rfl ?_
  refine e_getf (pc := 12) q12_12 hr rfl ?_
  refine e_st (pc := 15) q12_15 rfl rfl ?_
  refine e_st (pc := 16) (pc2 := 17) (L2 := [some (.ref 0), none]) (h2 := h) (st2 := [.float (m_sh F n)]) q12_16 rfl (by show (if c_nn (m_sh F n) then _ else none) = _; rw [if_pos f1]; rfl) ?_
  refine e_st (pc := 17) (L2 := [some (.ref 0), some (.float (m_sh F n))]) q12_17 rfl rfl ?_
  refine e_st (pc := 18) q12_18 rfl rfl ?_
  refine e_callS (pc := 19) (mz := c_m23) (L0 := [some (.float (m_sh F n)), none, none]) (rest := []) q12_19 rfl rfl rfl rfl rfl rfl rfl rfl rfl ?_
  refine s23 f3 ?_
  refine e_k (pc := 19) ?_
  exact e_iret (pc := 22) q12_22 rfl rfl rfl rfl K
end Ms
