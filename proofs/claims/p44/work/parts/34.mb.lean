/-! Queues of no time; isSound. -/
section Ms
variable {X : List Int32} {h : c_Hp} {Q : c_O × c_Hp → Prop}
/-- the queues' times, all 0 -/
def m_Z (h : c_Hp) : Prop := c_ob h 41 5 [.ref 42, .ref 51] ∧ c_aa h 42 8 (fun t => 43 + t) ∧ ∀ i, i < 8 → c_ar h (43 + i) 6 (fun _ => 0)
theorem m_Z.ch {h h2 : c_Hp} {W : List Nat} (z : m_Z h) (r : c_ch h h2 W) (hw : ∀ q ∈ W, q < 41 ∨ 50 < q) : m_Z h2 :=
  ⟨z.1.ch r (fun e => by have := hw _ e; omega), z.2.1.ch r (fun e => by have := hw _ e; omega), fun i hi => (z.2.2 i hi).ch r (fun e => by have := hw _ e; omega)⟩
theorem s46I {cu sv c : Nat} (hz0 : m_Z h) (hc : c < 8) (hsv : sv < 6) (K : ∀ (h2 : c_Hp) (w2 : Nat → Int) (x4 x5 : Option Value), c_ch h h2 [51] → c_ar h2 51 6 w2 → (∀ t, w2 t = 0) → c_Ev X 46 98 [some (.ref 41), some (n_v ↑cu), some (n_v ↑sv), some (n_v ↑c), x4, x5] [] h2 Q) :
  ∀ (m s : Nat) (h1 : c_Hp) (wy : Nat → Int) (x5 : Option Value), s + m = sv + 1 → c_ch h h1 [51] → c_ar h1 51 6 wy → (∀ t, wy t = 0) → c_Ev X 46 24 [some (.ref 41), some (n_v ↑cu), some (n_v ↑sv), some (n_v ↑c), some (n_v ↑s), x5] [] h1 Q
  | 0, s, h1, wy, x5, e, hch, hy, hw => by
    obtain ⟨ho, ha, ht⟩ := hz0.ch hch (by simp)
    have ht := ht c hc
    refine e_st (pc := 24) q46_24 rfl rfl ?_
    refine e_st (pc := 26) q46_26 rfl rfl ?_
    refine e_cmp true (pc := 27) q46_27 ⟨by omega, by omega⟩ ⟨by omega, by omega⟩ (n_t_gt (by omega)) ?_
    exact K h1 wy _ _ hch hy hw
  | m + 1, s, h0, wy, x5, e, hch, hy, hw => by
    obtain ⟨ho, ha, ht⟩ := hz0.ch hch (by simp)
    have ht := ht c hc
    by_cases hs : 0 < s
    · refine e_st (pc := 24) q46_24 rfl rfl ?_
      refine e_st (pc := 26) q46_26 rfl rfl ?_
      refine e_cmp false (pc := 27) q46_27 ⟨by omega, by omega⟩ ⟨by omega, by omega⟩ (n_f_gt (by omega)) ?_
      refine e_st (pc := 30) q46_30 rfl rfl ?_
      refine e_cst (v := 6) (len := 2) (pc := 32) q46_32 rfl rfl (by decide +kernel) ?_
      refine e_cmp false (pc := 34) q46_34 ⟨by omega, by omega⟩ ⟨by omega, by omega⟩ (n_f_ge (by omega)) ?_
      refine e_st (pc := 37) q46_37 rfl rfl ?_
      refine e_if false (pc := 39) q46_39 ⟨by omega, by omega⟩ (n_f_le (by omega)) ?_
      refine e_st (pc := 42) q46_42 rfl rfl ?_
      refine e_getf (pc := 43) q46_43 ho rfl ?_
      refine e_st (pc := 46) q46_46 rfl rfl ?_
      refine e_aldv (pc := 48) (j := s) (v := 0) q46_48 hy (by omega) (by omega) (by omega) (hw _) ?_
      refine e_st (pc := 49) q46_49 rfl rfl ?_
      refine e_getf (pc := 50) q46_50 ho rfl ?_
      refine e_st (pc := 53) q46_53 rfl rfl ?_
      refine e_cst (v := 1) (len := 1) (pc := 55) q46_55 rfl rfl rfl ?_
      refine e_sub (pc := 56) q46_56 ?_
      refine e_aldv (pc := 57) (j := s - 1) (v := 0) q46_57 hy (by omega) (by omega) (by omega) (hw _) ?_
      refine e_max (pc := 58) q46_58 ⟨by omega, by omega⟩ ⟨by omega, by omega⟩ (Nat.le_of_ble_eq_true rfl) ?_
      refine e_st (pc := 61) q46_61 rfl rfl ?_
      refine e_st (pc := 71) (L2 := [some (.ref 41), some (n_v ↑cu), some (n_v ↑sv), some (n_v ↑c), some (n_v ↑s), some (n_v (max 0 0))]) q46_71 rfl rfl ?_
      refine e_st (pc := 73) q46_73 rfl rfl ?_
      refine e_getf (pc := 74) q46_74 ho rfl ?_
      refine e_st (pc := 77) q46_77 rfl rfl ?_
      refine e_st (pc := 79) q46_79 rfl rfl ?_
      refine e_st (pc := 81) q46_81 rfl rfl ?_
      refine e_getf (pc := 82) q46_82 ho rfl ?_
      refine e_st (pc := 85) q46_85 rfl rfl ?_
      refine e_aald (pc := 86) (j := c) q46_86 ha (by omega) (by omega) (by omega) ?_
      refine e_st (pc := 87) q46_87 rfl rfl ?_
      refine e_aldv (pc := 89) (j := s) (v := 0) q46_89 ht (by omega) (by omega) (by omega) rfl ?_
      refine e_add (pc := 90) q46_90 ?_
      refine e_ast (pc := 91) (j := s) q46_91 hy (by omega) (by omega) (by omega) (fun h1 u1 => ?_)
      have ho := ho.up u1 (by omega)
      have ht := ht.up u1 (by omega)
      have ha := ha.up u1 (by omega)
      have hy : c_ar h1 51 6 (fun t => if t = s then ((max 0 0) + 0) else wy t) := u1.2.1
      refine e_inc (pc := 92) (L2 := [some (.ref 41), some (n_v ↑cu), some (n_v ↑sv), some (n_v ↑c), some (n_v (↑s + 1)), some (n_v (max 0 0))]) q46_92 rfl rfl ?_
      refine e_st (pc := 95) q46_95 rfl rfl ?_
      exact s46I hz0 hc hsv K m (s + 1) h1 _ _ (by omega) (hch.up u1 (by simp)) hy (fun t => by
        by_cases e2 : t = s
        · rw [if_pos e2]; rfl
        · rw [if_neg e2]; exact hw t)
    · refine e_st (pc := 24) q46_24 rfl rfl ?_
      refine e_st (pc := 26) q46_26 rfl rfl ?_
      refine e_cmp false (pc := 27) q46_27 ⟨by omega, by omega⟩ ⟨by omega, by omega⟩ (n_f_gt (by omega)) ?_
      refine e_st (pc := 30) q46_30 rfl rfl ?_
      refine e_cst (v := 6) (len := 2) (pc := 32) q46_32 rfl rfl (by decide +kernel) ?_
      refine e_cmp false (pc := 34) q46_34 ⟨by omega, by omega⟩ ⟨by omega, by omega⟩ (n_f_ge (by omega)) ?_
      refine e_st (pc := 37) q46_37 rfl rfl ?_
      refine e_if true (pc := 39) q46_39 ⟨by omega, by omega⟩ (n_t_le (by omega)) ?_
      refine e_st (pc := 64) q46_64 rfl rfl ?_
      refine e_getf (pc := 65) q46_65 ho rfl ?_
      refine e_st (pc := 68) q46_68 rfl rfl ?_
      refine e_aldv (pc := 70) (j := s) (v := 0) q46_70 hy (by omega) (by omega) (by omega) (hw _) ?_
      refine e_st (pc := 71) (L2 := [some (.ref 41), some (n_v ↑cu), some (n_v ↑sv), some (n_v ↑c), some (n_v ↑s), some (n_v 0)]) q46_71 rfl rfl ?_
      refine e_st (pc := 73) q46_73 rfl rfl ?_
      refine e_getf (pc := 74) q46_74 ho rfl ?_
      refine e_st (pc := 77) q46_77 rfl rfl ?_
      refine e_st (pc := 79) q46_79 rfl rfl ?_
      refine e_st (pc := 81) q46_81 rfl rfl ?_
      refine e_getf (pc := 82) q46_82 ho rfl ?_
      refine e_st (pc := 85) q46_85 rfl rfl ?_
      refine e_aald (pc := 86) (j := c) q46_86 ha (by omega) (by omega) (by omega) ?_
      refine e_st (pc := 87) q46_87 rfl rfl ?_
      refine e_aldv (pc := 89) (j := s) (v := 0) q46_89 ht (by omega) (by omega) (by omega) rfl ?_
      refine e_add (pc := 90) q46_90 ?_
      refine e_ast (pc := 91) (j := s) q46_91 hy (by omega) (by omega) (by omega) (fun h1 u1 => ?_)
      have ho := ho.up u1 (by omega)
      have ht := ht.up u1 (by omega)
      have ha := ha.up u1 (by omega)
      have hy : c_ar h1 51 6 (fun t => if t = s then (0 + 0) else wy t) := u1.2.1
      refine e_inc (pc := 92) (L2 := [some (.ref 41), some (n_v ↑cu), some (n_v ↑sv), some (n_v ↑c), some (n_v (↑s + 1)), some (n_v 0)]) q46_92 rfl rfl ?_
      refine e_st (pc := 95) q46_95 rfl rfl ?_
      exact s46I hz0 hc hsv K m (s + 1) h1 _ _ (by omega) (hch.up u1 (by simp)) hy (fun t => by
        by_cases e2 : t = s
        · rw [if_pos e2]; rfl
        · rw [if_neg e2]; exact hw t)
theorem s46O {cu sv : Nat} (hz0 : m_Z h) (hcu : cu < 8) (hsv : sv < 6) (K : ∀ (h2 : c_Hp) (w2 : Nat → Int), c_ch h h2 [51] → c_ar h2 51 6 w2 → (∀ t, w2 t = 0) → Q (.inl (some (n_v 0)), h2)) :
  ∀ (m c : Nat) (h1 : c_Hp) (wy : Nat → Int) (x4 x5 : Option Value), c + m = cu + 1 → c_ch h h1 [51] → c_ar h1 51 6 wy → (∀ t, wy t = 0) → c_Ev X 46 10 [some (.ref 41), some (n_v ↑cu), some (n_v ↑sv), some (n_v ↑c), x4, x5] [] h1 Q
  | 0, c, h1, wy, x4, x5, e, hch, hy, hw => by
    obtain ⟨ho, ha, ht⟩ := hz0.ch hch (by simp)
    refine e_st (pc := 10) q46_10 rfl rfl ?_
    refine e_st (pc := 11) q46_11 rfl rfl ?_
    refine e_cmp true (pc := 12) q46_12 ⟨by omega, by omega⟩ ⟨by omega, by omega⟩ (n_t_gt (by omega)) ?_
    refine e_st (pc := 104) q46_104 rfl rfl ?_
    refine e_getf (pc := 105) q46_105 ho rfl ?_
    refine e_st (pc := 108) q46_108 rfl rfl ?_
    refine e_aldv (pc := 109) (j := sv) (v := 0) q46_109 hy (by omega) (by omega) (by omega) (hw _) ?_
    refine e_iret (pc := 110) q46_110 rfl rfl rfl rfl ?_
    exact K h1 wy hch hy hw
  | m + 1, c, h0, wy, x4, x5, e, hch, hy, hw => by
    obtain ⟨ho, ha, ht⟩ := hz0.ch hch (by simp)
    refine e_st (pc := 10) q46_10 rfl rfl ?_
    refine e_st (pc := 11) q46_11 rfl rfl ?_
    refine e_cmp false (pc := 12) q46_12 ⟨by omega, by omega⟩ ⟨by omega, by omega⟩ (n_f_gt (by omega)) ?_
    refine e_st (pc := 15) q46_15 rfl rfl ?_
    refine e_cst (v := 8) (len := 2) (pc := 16) q46_16 rfl rfl (by decide +kernel) ?_
    refine e_cmp false (pc := 18) q46_18 ⟨by omega, by omega⟩ ⟨by omega, by omega⟩ (n_f_ge (by omega)) ?_
    refine e_cst (v := 0) (len := 1) (pc := 21) q46_21 rfl rfl rfl ?_
    refine e_st (pc := 22) (L2 := [some (.ref 41), some (n_v ↑cu), some (n_v ↑sv), some (n_v ↑c), some (n_v 0), x5]) q46_22 rfl rfl ?_
    refine s46I (h := h0) (hz0.ch hch (by simp)) (by omega) hsv (fun h2 w2 x6 x7 c2 hy2 hw2 => ?_) (sv + 1) 0 h0 wy _ (by omega) (c_ch.rf _ _) hy hw
    refine e_inc (pc := 98) (L2 := [some (.ref 41), some (n_v ↑cu), some (n_v ↑sv), some (n_v (↑c + 1)), x6, x7]) q46_98 rfl rfl ?_
    refine e_st (pc := 101) q46_101 rfl rfl ?_
    exact s46O hz0 hcu hsv K m (c + 1) h2 w2 _ _ (by omega) (hch.tr c2) hy2 hw2
theorem s46 {cu sv : Nat} {wy : Nat → Int} (hz0 : m_Z h) (hcu : cu < 8) (hsv : sv < 6) (hy : c_ar h 51 6 wy) (K : ∀ (h2 : c_Hp) (w2 : Nat → Int), c_ch h h2 [51] → c_ar h2 51 6 w2 → (∀ t, w2 t = 0) → Q (.inl (some (n_v 0)), h2)) : c_Ev X 46 0 [some (.ref 41), some (n_v ↑cu), some (n_v ↑sv), none, none, none] [] h Q := by
  obtain ⟨ho, ha, ht⟩ := id hz0
  refine e_st (pc := 0) q46_0 rfl rfl ?_
  refine e_getf (pc := 1) q46_1 ho rfl ?_
  refine e_cst (v := 0) (len := 1) (pc := 4) q46_4 rfl rfl rfl ?_
  refine e_callS (pc := 5) (mz := c_m82) (L0 := [some (.ref 51), some (n_v 0), none, none]) (rest := []) q46_5 rfl rfl rfl rfl rfl rfl rfl rfl rfl ?_
  refine s82 hy (by omega) (fun h1 u1 => ?_)
  refine e_k0 (pc := 5) ?_
  refine e_cst (v := 0) (len := 1) (pc := 8) q46_8 rfl rfl rfl ?_
  refine e_st (pc := 9) (L2 := [some (.ref 41), some (n_v ↑cu), some (n_v ↑sv), some (n_v 0), none, none]) q46_9 rfl rfl ?_
  exact s46O hz0 hcu hsv K (cu + 1) 0 h1 _ _ _ (by omega) ((c_ch.rf h _).up u1 (by simp)) u1.2.1 (fun _ => rfl)
theorem s48I {cu sv c : Nat} (hz0 : m_Z h) (hc : c < 8) (hsv : sv < 6) (K : ∀ (h2 : c_Hp) (w2 : Nat → Int) (x4 x5 : Option Value), c_ch h h2 [51] → c_ar h2 51 6 w2 → (∀ t, w2 t = 0) → c_Ev X 48 84 [some (.ref 41), some (n_v ↑cu), some (n_v ↑sv), some (n_v ↑c), x4, x5] [] h2 Q) :
  ∀ (m : Nat) (h1 : c_Hp) (wy : Nat → Int) (x5 : Option Value), m ≤ sv + 1 → c_ch h h1 [51] → c_ar h1 51 6 wy → (∀ t, wy t = 0) → c_Ev X 48 17 [some (.ref 41), some (n_v ↑cu), some (n_v ↑sv), some (n_v ↑c), some (n_v ((m : Int) - 1)), x5] [] h1 Q
  | 0, h1, wy, x5, e, hch, hy, hw => by
    obtain ⟨ho, ha, ht⟩ := hz0.ch hch (by simp)
    have ht := ht c hc
    refine e_st (pc := 17) q48_17 rfl rfl ?_
    refine e_if true (pc := 19) q48_19 ⟨by omega, by omega⟩ (n_t_lt (by omega)) ?_
    exact K h1 wy _ _ hch hy hw
  | m + 1, h0, wy, x5, e, hch, hy, hw => by
    obtain ⟨ho, ha, ht⟩ := hz0.ch hch (by simp)
    have ht := ht c hc
    by_cases hs : m < sv
    · refine e_st (pc := 17) q48_17 rfl rfl ?_
      refine e_if false (pc := 19) q48_19 ⟨by omega, by omega⟩ (n_f_lt (by omega)) ?_
      refine e_st (pc := 22) q48_22 rfl rfl ?_
      refine e_st (pc := 24) q48_24 rfl rfl ?_
      refine e_cmp false (pc := 25) q48_25 ⟨by omega, by omega⟩ ⟨by omega, by omega⟩ (n_f_ge (by omega)) ?_
      refine e_st (pc := 28) q48_28 rfl rfl ?_
      refine e_getf (pc := 29) q48_29 ho rfl ?_
      refine e_st (pc := 32) q48_32 rfl rfl ?_
      refine e_aldv (pc := 34) (j := m) (v := 0) q48_34 hy (by omega) (by omega) (by omega) (hw _) ?_
      refine e_st (pc := 35) q48_35 rfl rfl ?_
      refine e_getf (pc := 36) q48_36 ho rfl ?_
      refine e_st (pc := 39) q48_39 rfl rfl ?_
      refine e_cst (v := 1) (len := 1) (pc := 41) q48_41 rfl rfl rfl ?_
      refine e_add (pc := 42) q48_42 ?_
      refine e_aldv (pc := 43) (j := m + 1) (v := 0) q48_43 hy (by omega) (by omega) (by omega) (hw _) ?_
      refine e_max (pc := 44) q48_44 ⟨by omega, by omega⟩ ⟨by omega, by omega⟩ (Nat.le_of_ble_eq_true rfl) ?_
      refine e_st (pc := 47) q48_47 rfl rfl ?_
      refine e_st (pc := 57) (L2 := [some (.ref 41), some (n_v ↑cu), some (n_v ↑sv), some (n_v ↑c), some (n_v (((m + 1 : Nat) : Int) - 1)), some (n_v (max 0 0))]) q48_57 rfl rfl ?_
      refine e_st (pc := 59) q48_59 rfl rfl ?_
      refine e_getf (pc := 60) q48_60 ho rfl ?_
      refine e_st (pc := 63) q48_63 rfl rfl ?_
      refine e_st (pc := 65) q48_65 rfl rfl ?_
      refine e_st (pc := 67) q48_67 rfl rfl ?_
      refine e_getf (pc := 68) q48_68 ho rfl ?_
      refine e_st (pc := 71) q48_71 rfl rfl ?_
      refine e_aald (pc := 72) (j := c) q48_72 ha (by omega) (by omega) (by omega) ?_
      refine e_st (pc := 73) q48_73 rfl rfl ?_
      refine e_aldv (pc := 75) (j := m) (v := 0) q48_75 ht (by omega) (by omega) (by omega) rfl ?_
      refine e_add (pc := 76) q48_76 ?_
      refine e_ast (pc := 77) (j := m) q48_77 hy (by omega) (by omega) (by omega) (fun h1 u1 => ?_)
      have ho := ho.up u1 (by omega)
      have ht := ht.up u1 (by omega)
      have ha := ha.up u1 (by omega)
      have hy : c_ar h1 51 6 (fun t => if t = m then ((max 0 0) + 0) else wy t) := u1.2.1
      refine e_inc (pc := 78) (L2 := [some (.ref 41), some (n_v ↑cu), some (n_v ↑sv), some (n_v ↑c), some (n_v ((((m + 1 : Nat) : Int) - 1) + -1)), some (n_v (max 0 0))]) q48_78 rfl rfl ?_
      refine e_st (pc := 81) q48_81 rfl rfl ?_
      rw [show ((m + 1 : Nat) : Int) - 1 + -1 = (m : Int) - 1 by omega]
      exact s48I hz0 hc hsv K m h1 _ _ (by omega) (hch.up u1 (by simp)) hy (fun t => by
        by_cases e2 : t = m
        · rw [if_pos e2]; rfl
        · rw [if_neg e2]; exact hw t)
    · refine e_st (pc := 17) q48_17 rfl rfl ?_
      refine e_if false (pc := 19) q48_19 ⟨by omega, by omega⟩ (n_f_lt (by omega)) ?_
      refine e_st (pc := 22) q48_22 rfl rfl ?_
      refine e_st (pc := 24) q48_24 rfl rfl ?_
      refine e_cmp true (pc := 25) q48_25 ⟨by omega, by omega⟩ ⟨by omega, by omega⟩ (n_t_ge (by omega)) ?_
      refine e_st (pc := 50) q48_50 rfl rfl ?_
      refine e_getf (pc := 51) q48_51 ho rfl ?_
      refine e_st (pc := 54) q48_54 rfl rfl ?_
      refine e_aldv (pc := 56) (j := m) (v := 0) q48_56 hy (by omega) (by omega) (by omega) (hw _) ?_
      refine e_st (pc := 57) (L2 := [some (.ref 41), some (n_v ↑cu), some (n_v ↑sv), some (n_v ↑c), some (n_v (((m + 1 : Nat) : Int) - 1)), some (n_v 0)]) q48_57 rfl rfl ?_
      refine e_st (pc := 59) q48_59 rfl rfl ?_
      refine e_getf (pc := 60) q48_60 ho rfl ?_
      refine e_st (pc := 63) q48_63 rfl rfl ?_
      refine e_st (pc := 65) q48_65 rfl rfl ?_
      refine e_st (pc := 67) q48_67 rfl rfl ?_
      refine e_getf (pc := 68) q48_68 ho rfl ?_
      refine e_st (pc := 71) q48_71 rfl rfl ?_
      refine e_aald (pc := 72) (j := c) q48_72 ha (by omega) (by omega) (by omega) ?_
      refine e_st (pc := 73) q48_73 rfl rfl ?_
      refine e_aldv (pc := 75) (j := m) (v := 0) q48_75 ht (by omega) (by omega) (by omega) rfl ?_
      refine e_add (pc := 76) q48_76 ?_
      refine e_ast (pc := 77) (j := m) q48_77 hy (by omega) (by omega) (by omega) (fun h1 u1 => ?_)
      have ho := ho.up u1 (by omega)
      have ht := ht.up u1 (by omega)
      have ha := ha.up u1 (by omega)
      have hy : c_ar h1 51 6 (fun t => if t = m then (0 + 0) else wy t) := u1.2.1
      refine e_inc (pc := 78) (L2 := [some (.ref 41), some (n_v ↑cu), some (n_v ↑sv), some (n_v ↑c), some (n_v ((((m + 1 : Nat) : Int) - 1) + -1)), some (n_v 0)]) q48_78 rfl rfl ?_
      refine e_st (pc := 81) q48_81 rfl rfl ?_
      rw [show ((m + 1 : Nat) : Int) - 1 + -1 = (m : Int) - 1 by omega]
      exact s48I hz0 hc hsv K m h1 _ _ (by omega) (hch.up u1 (by simp)) hy (fun t => by
        by_cases e2 : t = m
        · rw [if_pos e2]; rfl
        · rw [if_neg e2]; exact hw t)
theorem s48O {cu sv : Nat} (hz0 : m_Z h) (hcu : cu < 8) (hsv : sv < 6) (K : ∀ (h2 : c_Hp) (w2 : Nat → Int), c_ch h h2 [51] → c_ar h2 51 6 w2 → (∀ t, w2 t = 0) → Q (.inl (some (n_v 0)), h2)) :
  ∀ (m : Nat) (h1 : c_Hp) (wy : Nat → Int) (x4 x5 : Option Value), m ≤ cu + 1 → c_ch h h1 [51] → c_ar h1 51 6 wy → (∀ t, wy t = 0) → c_Ev X 48 10 [some (.ref 41), some (n_v ↑cu), some (n_v ↑sv), some (n_v ((m : Int) - 1)), x4, x5] [] h1 Q
  | 0, h1, wy, x4, x5, e, hch, hy, hw => by
    obtain ⟨ho, ha, ht⟩ := hz0.ch hch (by simp)
    refine e_st (pc := 10) q48_10 rfl rfl ?_
    refine e_if true (pc := 11) q48_11 ⟨by omega, by omega⟩ (n_t_lt (by omega)) ?_
    refine e_st (pc := 90) q48_90 rfl rfl ?_
    refine e_getf (pc := 91) q48_91 ho rfl ?_
    refine e_cst (v := 0) (len := 1) (pc := 94) q48_94 rfl rfl rfl ?_
    refine e_aldv (pc := 95) (j := 0) (v := 0) q48_95 hy (by omega) (by omega) (by omega) (hw _) ?_
    refine e_iret (pc := 96) q48_96 rfl rfl rfl rfl ?_
    exact K h1 wy hch hy hw
  | m + 1, h0, wy, x4, x5, e, hch, hy, hw => by
    obtain ⟨ho, ha, ht⟩ := hz0.ch hch (by simp)
    rw [show ((m + 1 : Nat) : Int) - 1 = (m : Int) by omega]
    refine e_st (pc := 10) q48_10 rfl rfl ?_
    refine e_if false (pc := 11) q48_11 ⟨by omega, by omega⟩ (n_f_lt (by omega)) ?_
    refine e_st (pc := 14) q48_14 rfl rfl ?_
    refine e_st (pc := 15) (L2 := [some (.ref 41), some (n_v ↑cu), some (n_v ↑sv), some (n_v ↑m), some (n_v ↑sv), x5]) q48_15 rfl rfl ?_
    have e9 : (sv : Int) = ((sv + 1 : Nat) : Int) - 1 := by omega
    suffices K9 : c_Ev X 48 17 [some (.ref 41), some (n_v ↑cu), some (n_v ↑sv), some (n_v ↑m), some (n_v (((sv + 1 : Nat) : Int) - 1)), x5] [] h0 Q from by rw [← e9] at K9; exact K9
    refine s48I (h := h0) (hz0.ch hch (by simp)) (by omega) hsv (fun h2 w2 x6 x7 c2 hy2 hw2 => ?_) (sv + 1) h0 wy _ (by omega) (c_ch.rf _ _) hy hw
    refine e_inc (pc := 84) (L2 := [some (.ref 41), some (n_v ↑cu), some (n_v ↑sv), some (n_v (↑m + -1)), x6, x7]) q48_84 rfl rfl ?_
    refine e_st (pc := 87) q48_87 rfl rfl ?_
    exact s48O hz0 hcu hsv K m h2 w2 _ _ (by omega) (hch.tr c2) hy2 hw2
theorem s48 {cu sv : Nat} {wy : Nat → Int} (hz0 : m_Z h) (hcu : cu < 8) (hsv : sv < 6) (hy : c_ar h 51 6 wy) (K : ∀ (h2 : c_Hp) (w2 : Nat → Int), c_ch h h2 [51] → c_ar h2 51 6 w2 → (∀ t, w2 t = 0) → Q (.inl (some (n_v 0)), h2)) : c_Ev X 48 0 [some (.ref 41), some (n_v ↑cu), some (n_v ↑sv), none, none, none] [] h Q := by
  obtain ⟨ho, ha, ht⟩ := id hz0
  refine e_st (pc := 0) q48_0 rfl rfl ?_
  refine e_getf (pc := 1) q48_1 ho rfl ?_
  refine e_cst (v := 0) (len := 1) (pc := 4) q48_4 rfl rfl rfl ?_
  refine e_callS (pc := 5) (mz := c_m82) (L0 := [some (.ref 51), some (n_v 0), none, none]) (rest := []) q48_5 rfl rfl rfl rfl rfl rfl rfl rfl rfl ?_
  refine s82 hy (by omega) (fun h1 u1 => ?_)
  refine e_k0 (pc := 5) ?_
  refine e_st (pc := 8) q48_8 rfl rfl ?_
  refine e_st (pc := 9) (L2 := [some (.ref 41), some (n_v ↑cu), some (n_v ↑sv), some (n_v ↑cu), none, none]) q48_9 rfl rfl ?_
  have e9 : (cu : Int) = ((cu + 1 : Nat) : Int) - 1 := by omega
  suffices K9 : c_Ev X 48 10 [some (.ref 41), some (n_v ↑cu), some (n_v ↑sv), some (n_v (((cu + 1 : Nat) : Int) - 1)), none, none] [] h1 Q from by rw [← e9] at K9; exact K9
  exact s48O hz0 hcu hsv K (cu + 1) h1 _ _ _ (by omega) ((c_ch.rf h _).up u1 (by simp)) u1.2.1 (fun _ => rfl)
theorem s47I {cu : Nat} (hz0 : m_Z h) (hcu : cu < 8) (K : ∀ (h2 : c_Hp) (w2 : Nat → Int) (x2 : Option Value), c_ch h h2 [51] → c_ar h2 51 6 w2 → c_Ev X 47 39 [some (.ref 41), some (n_v ↑cu), x2] [] h2 Q) :
  ∀ (m s : Nat) (h1 : c_Hp) (wy : Nat → Int), s + m = 6 → c_ch h h1 [51] → c_ar h1 51 6 wy → c_Ev X 47 10 [some (.ref 41), some (n_v ↑cu), some (n_v ↑s)] [] h1 Q
  | 0, s, h1, wy, e, hch, hy => by
    refine e_st (pc := 10) q47_10 rfl rfl ?_
    refine e_cst (v := 6) (len := 2) (pc := 11) q47_11 rfl rfl (by decide +kernel) ?_
    refine e_cmp true (pc := 13) q47_13 ⟨by omega, by omega⟩ ⟨by omega, by omega⟩ (n_t_ge (by omega)) ?_
    exact K h1 wy _ hch hy
  | m + 1, s, h1, wy, e, hch, hy => by
    have hz := hz0.ch hch (by simp)
    obtain ⟨ho, ha, ht⟩ := id hz
    refine e_st (pc := 10) q47_10 rfl rfl ?_
    refine e_cst (v := 6) (len := 2) (pc := 11) q47_11 rfl rfl (by decide +kernel) ?_
    refine e_cmp false (pc := 13) q47_13 ⟨by omega, by omega⟩ ⟨by omega, by omega⟩ (n_f_ge (by omega)) ?_
    refine e_st (pc := 16) q47_16 rfl rfl ?_
    refine e_st (pc := 17) q47_17 rfl rfl ?_
    refine e_st (pc := 18) q47_18 rfl rfl ?_
    refine e_callV (pc := 19) (mz := c_m46) (a := 41) (L0 := [some (.ref 41), some (n_v ↑cu), some (n_v ↑s), none, none, none]) (rest := []) q47_19 rfl rfl rfl rfl rfl rfl rfl ho rfl rfl ?_
    refine s46 hz hcu (by omega) hy (fun h2 w2 c2 hy _ => ?_)
    have hz := hz.ch c2 (by simp)
    obtain ⟨ho, ha, ht⟩ := id hz
    refine e_k (pc := 19) ?_
    refine e_st (pc := 22) q47_22 rfl rfl ?_
    refine e_st (pc := 23) q47_23 rfl rfl ?_
    refine e_st (pc := 24) q47_24 rfl rfl ?_
    refine e_callV (pc := 25) (mz := c_m48) (a := 41) (L0 := [some (.ref 41), some (n_v ↑cu), some (n_v ↑s), none, none, none]) (rest := [n_v 0]) q47_25 rfl rfl rfl rfl rfl rfl rfl ho rfl rfl ?_
    refine s48 hz hcu (by omega) hy (fun h3 w3 c3 hy _ => ?_)
    refine e_k (pc := 25) ?_
    refine e_cmp true (pc := 28) q47_28 ⟨by omega, by omega⟩ ⟨by omega, by omega⟩ (n_t_eq (by omega)) ?_
    refine e_inc (pc := 33) (L2 := [some (.ref 41), some (n_v ↑cu), some (n_v (↑s + 1))]) q47_33 rfl rfl ?_
    refine e_st (pc := 36) q47_36 rfl rfl ?_
    exact s47I hz0 hcu K m (s + 1) h3 w3 (by omega) ((hch.tr c2).tr c3) hy
theorem s47O (hz0 : m_Z h) (K : ∀ (h2 : c_Hp) (w2 : Nat → Int), c_ch h h2 [51] → c_ar h2 51 6 w2 → Q (.inl (some (n_v 1)), h2)) :
  ∀ (m c : Nat) (h1 : c_Hp) (wy : Nat → Int) (x2 : Option Value), c + m = 8 → c_ch h h1 [51] → c_ar h1 51 6 wy → c_Ev X 47 2 [some (.ref 41), some (n_v ↑c), x2] [] h1 Q
  | 0, c, h1, wy, x2, e, hch, hy => by
    refine e_st (pc := 2) q47_2 rfl rfl ?_
    refine e_cst (v := 8) (len := 2) (pc := 3) q47_3 rfl rfl (by decide +kernel) ?_
    refine e_cmp true (pc := 5) q47_5 ⟨by omega, by omega⟩ ⟨by omega, by omega⟩ (n_t_ge (by omega)) ?_
    refine e_cst (v := 1) (len := 1) (pc := 45) q47_45 rfl rfl rfl ?_
    refine e_iret (pc := 46) q47_46 rfl rfl rfl (by decide +kernel) ?_
    exact K h1 wy hch hy
  | m + 1, c, h1, wy, x2, e, hch, hy => by
    refine e_st (pc := 2) q47_2 rfl rfl ?_
    refine e_cst (v := 8) (len := 2) (pc := 3) q47_3 rfl rfl (by decide +kernel) ?_
    refine e_cmp false (pc := 5) q47_5 ⟨by omega, by omega⟩ ⟨by omega, by omega⟩ (n_f_ge (by omega)) ?_
    refine e_cst (v := 0) (len := 1) (pc := 8) q47_8 rfl rfl rfl ?_
    refine e_st (pc := 9) (L2 := [some (.ref 41), some (n_v ↑c), some (n_v 0)]) q47_9 rfl rfl ?_
    refine s47I (h := h1) (hz0.ch hch (by simp)) (by omega) (fun h2 w2 x3 c2 hy2 => ?_) 6 0 h1 wy (by omega) (c_ch.rf _ _) hy
    refine e_inc (pc := 39) (L2 := [some (.ref 41), some (n_v (↑c + 1)), x3]) q47_39 rfl rfl ?_
    refine e_st (pc := 42) q47_42 rfl rfl ?_
    exact s47O hz0 K m (c + 1) h2 w2 _ (by omega) (hch.tr c2) hy2
theorem s47 {wy : Nat → Int} (hz0 : m_Z h) (hy : c_ar h 51 6 wy) (K : ∀ (h2 : c_Hp) (w2 : Nat → Int), c_ch h h2 [51] → c_ar h2 51 6 w2 → Q (.inl (some (n_v 1)), h2)) : c_Ev X 47 0 [some (.ref 41), none, none] [] h Q := by
  refine e_cst (v := 0) (len := 1) (pc := 0) q47_0 rfl rfl rfl ?_
  refine e_st (pc := 1) (L2 := [some (.ref 41), some (n_v 0), none]) q47_1 rfl rfl ?_
  exact s47O hz0 K 8 0 h wy _ (by omega) (c_ch.rf _ _) hy
theorem s19 {n : Nat} {rg : Int} {cf bf : Nat → Int} (ho : c_ob h 0 10 m_O) (hr : c_ob h 1 6 [.ref 2, .ref 3, n_v ↑n, n_v rg]) (hc : c_ar h 2 60 cf) (hb : c_ar h 3 60 bf) (hn : n ≤ 40) (hrg : rg = 0 ∨ rg = 1) (hbf : ∀ t, t < n → 0 ≤ bf t ∧ bf t ≤ cf t ∧ 1 ≤ cf t ∧ cf t ≤ 4) (hS : m_SC h)
    (K : ∀ (h2 : c_Hp), c_ch h h2 m_W → m_SC h2 → Q (.inl (some (n_v 1)), h2)) : c_Ev X 19 0 [some (.ref 0)] [] h Q := by
  obtain ⟨⟨mo, s1⟩, ⟨lf, s2⟩, ⟨k3, s3⟩, ⟨sf, s4⟩, ⟨rf, s5⟩, ⟨bl, la, s6⟩, ⟨pf, s7⟩, ⟨nf, s8⟩, s9, s10, s11⟩ := id hS
  rcases hrg with hrg | hrg
  · subst hrg
    refine e_st (pc := 0) q19_0 rfl rfl ?_
    refine e_getf (pc := 1) q19_1 ho rfl ?_
    refine e_getf (pc := 4) q19_4 hr rfl ?_
    refine e_if false (pc := 7) q19_7 ⟨by omega, by omega⟩ (n_f_ne (by omega)) ?_
    refine e_st (pc := 10) q19_10 rfl rfl ?_
    refine e_getf (pc := 11) q19_11 ho rfl ?_
    refine e_callV (pc := 14) (mz := c_m55) (a := 1) (L0 := [some (.ref 1), none]) (rest := []) q19_14 rfl rfl rfl rfl rfl rfl rfl hr rfl rfl ?_
    refine s55 hr hc (by omega) (fun t ht => by have := hbf t ht; omega) (fun h1 => ?_) ?_
    · refine e_k (pc := 14) ?_
      have hb1 : ∀ t, t < n → bf t = 0 ∨ bf t = 1 := fun t ht => by have := hbf t ht; have := h1 t ht; omega
      refine e_if true (pc := 17) q19_17 ⟨by omega, by omega⟩ (n_t_ne (by omega)) ?_
      refine e_st (pc := 22) q19_22 rfl rfl ?_
      refine e_getf (pc := 23) q19_23 ho rfl ?_
      refine e_st (pc := 26) q19_26 rfl rfl ?_
      refine e_getf (pc := 27) q19_27 ho rfl ?_
      refine e_callV (pc := 30) (mz := c_m31) (a := 25) (L0 := [some (.ref 25), some (.ref 1), none, none]) (rest := []) q19_30 rfl rfl rfl rfl rfl rfl rfl s3 rfl rfl ?_
      refine s31 s3 hr hb s4 s5 (by omega) hb1 (by decide) (by decide) (fun h2 sf2 rf2 c2 s3 s4 s5 hli => ?_)
      have ho := ho.ch c2 (by simp)
      have hr := hr.ch c2 (by simp)
      have hc := hc.ch c2 (by simp)
      have hb := hb.ch c2 (by simp)
      have s1 := s1.ch c2 (by simp)
      have s2 := s2.ch c2 (by simp)
      have s6 := s6.ch c2 (by simp)
      have s7 := s7.ch c2 (by simp)
      have s8 := s8.ch c2 (by simp)
      refine e_k0 (pc := 30) ?_
      refine e_st (pc := 33) q19_33 rfl rfl ?_
      refine e_callV (pc := 34) (mz := c_m20) (a := 0) (L0 := [some (.ref 0), none]) (rest := []) q19_34 rfl rfl rfl rfl rfl rfl rfl ho rfl rfl ?_
      refine s20 ho hr hc hb s3 s5 hli (by omega) (fun t ht => ⟨h1 t ht, hb1 t ht⟩) (fun h3 lf3 mo3 c3 s2 s1 => ?_) s2 s1
      have ho := ho.ch c3 (by simp)
      have hr := hr.ch c3 (by simp)
      have hb := hb.ch c3 (by simp)
      have s3 := s3.ch c3 (by simp)
      have s4 := s4.ch c3 (by simp)
      have s5 := s5.ch c3 (by simp)
      have s6 := s6.ch c3 (by simp)
      have s7 := s7.ch c3 (by simp)
      have s8 := s8.ch c3 (by simp)
      refine e_k (pc := 34) ?_
      refine e_if false (pc := 37) q19_37 ⟨by omega, by omega⟩ (n_f_eq (by omega)) ?_
      refine e_st (pc := 40) q19_40 rfl rfl ?_
      refine e_callV (pc := 41) (mz := c_m21) (a := 0) (L0 := [some (.ref 0), none, none]) (rest := []) q19_41 rfl rfl rfl rfl rfl rfl rfl ho rfl rfl ?_
      refine s21 (rg := n_v 0) hn hb1 ho hr hb s3 s5 hli s6 s7 s8 (fun h4 f4 nf4 bl4 la4 c4 s6 s7 s8 => ?_)
      have s1 := s1.ch c4 (by simp)
      have s2 := s2.ch c4 (by simp)
      have s3 := s3.ch c4 (by simp)
      have s4 := s4.ch c4 (by simp)
      have s5 := s5.ch c4 (by simp)
      refine e_k (pc := 41) ?_
      refine e_if false (pc := 44) q19_44 ⟨by omega, by omega⟩ (n_f_eq (by omega)) ?_
      refine e_cst (v := 1) (len := 1) (pc := 47) q19_47 rfl rfl rfl ?_
      refine e_st (pc := 48) q19_48 rfl rfl ?_
      refine e_iret (pc := 52) q19_52 rfl rfl rfl (by decide +kernel) ?_
      have hx : ∀ q, q = 52 ∨ q = 53 ∨ q = 54 → h4[q]? = h[q]? := fun q hq => by
        rw [c4.2.2 q (by simp; omega), c3.2.2 q (by simp; omega), c2.2.2 q (by simp; omega)]
      refine K h4 (((c2.sub (by simp [m_W])).tr (c3.sub (by simp [m_W]))).tr (c4.sub (by simp [m_W]))) ⟨⟨_, s1⟩, ⟨_, s2⟩, ⟨_, s3⟩, ⟨_, s4⟩, ⟨_, s5⟩, ⟨_, _, s6⟩, ⟨_, s7⟩, ⟨_, s8⟩, ?_, ?_, ?_⟩
      · unfold c_ob; rw [hx 52 (by omega)]; exact s9
      · unfold c_ar; rw [hx 53 (by omega)]; exact s10
      · unfold c_ar; rw [hx 54 (by omega)]; exact s11
    · refine e_k (pc := 14) ?_
      refine e_if false (pc := 17) q19_17 ⟨by omega, by omega⟩ (n_f_ne (by omega)) ?_
      refine e_cst (v := 1) (len := 1) (pc := 20) q19_20 rfl rfl rfl ?_
      refine e_iret (pc := 21) q19_21 rfl rfl rfl (by decide +kernel) ?_
      exact K h (c_ch.rf h _) hS
  · subst hrg
    refine e_st (pc := 0) q19_0 rfl rfl ?_
    refine e_getf (pc := 1) q19_1 ho rfl ?_
    refine e_getf (pc := 4) q19_4 hr rfl ?_
    refine e_if true (pc := 7) q19_7 ⟨by omega, by omega⟩ (n_t_ne (by omega)) ?_
    refine e_cst (v := 1) (len := 1) (pc := 20) q19_20 rfl rfl rfl ?_
    refine e_iret (pc := 21) q19_21 rfl rfl rfl (by decide +kernel) ?_
    exact K h (c_ch.rf h _) hS
theorem s13 {n : Nat} {rg : Int} {cf bf wy : Nat → Int} (ho : c_ob h 0 10 m_O) (hr : c_ob h 1 6 [.ref 2, .ref 3, n_v ↑n, n_v rg]) (hc : c_ar h 2 60 cf) (hb : c_ar h 3 60 bf) (hn : n ≤ 40) (hrg : rg = 0 ∨ rg = 1) (hbf : ∀ t, t < n → 0 ≤ bf t ∧ bf t ≤ cf t ∧ 1 ≤ cf t ∧ cf t ≤ 4) (hS : m_SC h) (hz : m_Z h) (hy : c_ar h 51 6 wy)
    (K : ∀ (h2 : c_Hp), c_ch h h2 (51 :: m_W) → Q (.inl (some (n_v 1)), h2)) : c_Ev X 13 0 [some (.ref 0)] [] h Q := by
  refine e_st (pc := 0) q13_0 rfl rfl ?_
  refine e_callV (pc := 1) (mz := c_m18) (a := 0) (L0 := [some (.ref 0)]) (rest := []) q13_1 rfl rfl rfl rfl rfl rfl rfl ho rfl rfl ?_
  refine s18 ho hr hc hb (by omega) hrg (fun t ht => by have := hbf t ht; omega) hS (fun h2 c2 hS => ?_)
  have ho := ho.ch c2 (by simp [m_W])
  have hr := hr.ch c2 (by simp [m_W])
  have hc := hc.ch c2 (by simp [m_W])
  have hb := hb.ch c2 (by simp [m_W])
  refine e_k (pc := 1) ?_
  refine e_if false (pc := 4) q13_4 ⟨by omega, by omega⟩ (n_f_eq (by omega)) ?_
  refine e_st (pc := 7) q13_7 rfl rfl ?_
  refine e_callV (pc := 8) (mz := c_m19) (a := 0) (L0 := [some (.ref 0)]) (rest := []) q13_8 rfl rfl rfl rfl rfl rfl rfl ho rfl rfl ?_
  refine s19 ho hr hc hb hn hrg hbf hS (fun h3 c3 hS => ?_)
  have ho := ho.ch c3 (by simp [m_W])
  refine e_k (pc := 8) ?_
  refine e_if false (pc := 11) q13_11 ⟨by omega, by omega⟩ (n_f_eq (by omega)) ?_
  have hz3 := (hz.ch c2 (by simp [m_W])).ch c3 (by simp [m_W])
  have hy3 := (hy.ch c2 (by simp [m_W])).ch c3 (by simp [m_W])
  obtain ⟨hq, -, -⟩ := id hz3
  refine e_st (pc := 14) q13_14 rfl rfl ?_
  refine e_getf (pc := 15) q13_15 ho rfl ?_
  refine e_callV (pc := 18) (mz := c_m47) (a := 41) (L0 := [some (.ref 41), none, none]) (rest := []) q13_18 rfl rfl rfl rfl rfl rfl rfl hq rfl rfl ?_
  refine s47 hz3 hy3 (fun h4 w4 c4 hy4 => ?_)
  refine e_k (pc := 18) ?_
  refine e_if false (pc := 21) q13_21 ⟨by omega, by omega⟩ (n_f_eq (by omega)) ?_
  refine e_cst (v := 1) (len := 1) (pc := 24) q13_24 rfl rfl rfl ?_
  refine e_st (pc := 25) q13_25 rfl rfl ?_
  refine e_iret (pc := 29) q13_29 rfl rfl rfl (by decide +kernel) ?_
  exact K h4 (((c2.sub (by simp [m_W])).tr (c3.sub (by simp [m_W]))).tr (c4.sub (by simp)))
end Ms
