/-! What the methods of Row and of the carrier come to. -/
def m_sum : Nat → (Nat → Int) → Int
  | 0, _ => 0
  | n + 1, f => m_sum n f + f n
def m_cnt : Nat → (Nat → Bool) → Int
  | 0, _ => 0
  | n + 1, f => m_cnt n f + if f n then 1 else 0
theorem m_cnt_le : ∀ (n : Nat) (f : Nat → Bool), 0 ≤ m_cnt n f ∧ m_cnt n f ≤ n
  | 0, _ => by simp [m_cnt]
  | n + 1, f => by
    have := m_cnt_le n f
    unfold m_cnt
    split <;> omega
theorem m_cnt_t {i : Nat} {f : Nat → Bool} (h : f i = true) : m_cnt (i + 1) f = m_cnt i f + 1 := by rw [m_cnt, if_pos h]
theorem m_cnt_f {i : Nat} {f : Nat → Bool} (h : f i = false) : m_cnt (i + 1) f = m_cnt i f := by
  have : ¬ f i = true := by rw [h]; decide
  rw [m_cnt, if_neg this, Int.add_zero]
section Ms
variable {X : List Int32} {h : c_Hp} {Q : c_O × c_Hp → Prop}
theorem s22 {li lo ca ba : Int} (h1 : 0 ≤ li ∧ li ≤ 200) (h2 : 0 ≤ lo ∧ lo ≤ 200) (h3 : 0 ≤ ca ∧ ca ≤ 200) (h4 : 0 ≤ ba ∧ ba ≤ 200) (K : Q (.inl (some (n_v (min lo (ca - ba) + max 0 (lo + ba - li)))), h)) : c_Ev X 22 0 [some (n_v li), some (n_v lo), some (n_v ca), some (n_v ba)] [] h Q := by
  refine e_st (pc := 0) q22_0 rfl rfl ?_
  refine e_st (pc := 1) q22_1 rfl rfl ?_
  refine e_st (pc := 2) q22_2 rfl rfl ?_
  refine e_sub (pc := 3) q22_3 ?_
  refine e_min (pc := 4) q22_4 ⟨by omega, by omega⟩ ⟨by omega, by omega⟩ (Nat.le_of_ble_eq_true rfl) ?_
  refine e_cst (v := 0) (len := 1) (pc := 7) q22_7 rfl rfl rfl ?_
  refine e_st (pc := 8) q22_8 rfl rfl ?_
  refine e_st (pc := 9) q22_9 rfl rfl ?_
  refine e_add (pc := 10) q22_10 ?_
  refine e_st (pc := 11) q22_11 rfl rfl ?_
  refine e_sub (pc := 12) q22_12 ?_
  refine e_max (pc := 13) q22_13 ⟨by omega, by omega⟩ ⟨by omega, by omega⟩ (Nat.le_of_ble_eq_true rfl) ?_
  refine e_add (pc := 16) q22_16 ?_
  refine e_iret (pc := 17) q22_17 rfl rfl rfl rfl ?_
  exact K
theorem s56L {a c b n : Nat} {rg : Value} {f : Nat → Int} (hr : c_ob h a 6 [.ref c, .ref b, n_v ↑n, rg]) (hb : c_ar h b 60 f) (hn : n ≤ 60) (K : Q (.inl (some (n_v (m_sum n f))), h)) : ∀ (m i : Nat), i + m = n → c_Ev X 56 4 [some (.ref a), some (n_v (m_sum i f)), some (n_v ↑i)] [] h Q
  | 0, i, e => by
    refine e_st (pc := 4) q56_4 rfl rfl ?_
    refine e_st (pc := 5) q56_5 rfl rfl ?_
    refine e_getf (pc := 6) q56_6 hr rfl ?_
    refine e_cmp true (pc := 9) q56_9 ⟨by omega, by omega⟩ ⟨by omega, by omega⟩ (n_t_ge (by omega)) ?_
    refine e_st (pc := 27) q56_27 rfl rfl ?_
    refine e_iret (pc := 28) q56_28 rfl rfl rfl rfl ?_
    rw [show i = n by omega]
    exact K
  | m + 1, i, e => by
    refine e_st (pc := 4) q56_4 rfl rfl ?_
    refine e_st (pc := 5) q56_5 rfl rfl ?_
    refine e_getf (pc := 6) q56_6 hr rfl ?_
    refine e_cmp false (pc := 9) q56_9 ⟨by omega, by omega⟩ ⟨by omega, by omega⟩ (n_f_ge (by omega)) ?_
    refine e_st (pc := 12) q56_12 rfl rfl ?_
    refine e_st (pc := 13) q56_13 rfl rfl ?_
    refine e_getf (pc := 14) q56_14 hr rfl ?_
    refine e_st (pc := 17) q56_17 rfl rfl ?_
    refine e_ald (pc := 18) (j := i) q56_18 hb (by omega) (by omega) (by omega) ?_
    refine e_add (pc := 19) q56_19 ?_
    refine e_st (pc := 20) (L2 := [some (.ref a), some (n_v ((m_sum i f) + (f i))), some (n_v ↑i)]) q56_20 rfl rfl ?_
    refine e_inc (pc := 21) (L2 := [some (.ref a), some (n_v ((m_sum i f) + (f i))), some (n_v (↑i + 1))]) q56_21 rfl rfl ?_
    refine e_st (pc := 24) q56_24 rfl rfl ?_
    exact s56L hr hb hn K m (i + 1) (by omega)
theorem s56 {a c b n : Nat} {rg : Value} {f : Nat → Int} (hr : c_ob h a 6 [.ref c, .ref b, n_v ↑n, rg]) (hb : c_ar h b 60 f) (hn : n ≤ 60) (K : Q (.inl (some (n_v (m_sum n f))), h)) : c_Ev X 56 0 [some (.ref a), none, none] [] h Q := by
  refine e_cst (v := 0) (len := 1) (pc := 0) q56_0 rfl rfl rfl ?_
  refine e_st (pc := 1) (L2 := [some (.ref a), some (n_v 0), none]) q56_1 rfl rfl ?_
  refine e_cst (v := 0) (len := 1) (pc := 2) q56_2 rfl rfl rfl ?_
  refine e_st (pc := 3) (L2 := [some (.ref a), some (n_v 0), some (n_v 0)]) q56_3 rfl rfl ?_
  exact s56L hr hb hn K n 0 (by omega)
theorem s57L {a c b n : Nat} {rg : Value} {f : Nat → Int} (hr : c_ob h a 6 [.ref c, .ref b, n_v ↑n, rg]) (hb : c_ar h b 60 f) (hn : n ≤ 60) (hf : ∀ t, t < n → 0 ≤ f t ∧ f t ≤ 200) (K : Q (.inl (some (n_v (m_cnt n (fun t => decide (0 < f t))))), h)) : ∀ (m i : Nat), i + m = n → c_Ev X 57 4 [some (.ref a), some (n_v (m_cnt i (fun t => decide (0 < f t)))), some (n_v ↑i)] [] h Q
  | 0, i, e => by
    refine e_st (pc := 4) q57_4 rfl rfl ?_
    refine e_st (pc := 5) q57_5 rfl rfl ?_
    refine e_getf (pc := 6) q57_6 hr rfl ?_
    refine e_cmp true (pc := 9) q57_9 ⟨by omega, by omega⟩ ⟨by omega, by omega⟩ (n_t_ge (by omega)) ?_
    refine e_st (pc := 30) q57_30 rfl rfl ?_
    refine e_iret (pc := 31) q57_31 rfl rfl rfl rfl ?_
    rw [show i = n by omega]
    exact K
  | m + 1, i, e => by
    have hfi := hf i (by omega)
    have ih := s57L hr hb hn hf K m (i + 1) (by omega)
    by_cases hc : 0 < f i
    · refine e_st (pc := 4) q57_4 rfl rfl ?_
      refine e_st (pc := 5) q57_5 rfl rfl ?_
      refine e_getf (pc := 6) q57_6 hr rfl ?_
      refine e_cmp false (pc := 9) q57_9 ⟨by omega, by omega⟩ ⟨by omega, by omega⟩ (n_f_ge (by omega)) ?_
      refine e_st (pc := 12) q57_12 rfl rfl ?_
      refine e_getf (pc := 13) q57_13 hr rfl ?_
      refine e_st (pc := 16) q57_16 rfl rfl ?_
      refine e_ald (pc := 17) (j := i) q57_17 hb (by omega) (by omega) (by omega) ?_
      refine e_if false (pc := 18) q57_18 ⟨by omega, by omega⟩ (n_f_le (by omega)) ?_
      refine e_inc (pc := 21) (L2 := [some (.ref a), some (n_v ((m_cnt i (fun t => decide (0 < f t))) + 1)), some (n_v ↑i)]) q57_21 rfl rfl ?_
      refine e_inc (pc := 24) (L2 := [some (.ref a), some (n_v ((m_cnt i (fun t => decide (0 < f t))) + 1)), some (n_v (↑i + 1))]) q57_24 rfl rfl ?_
      refine e_st (pc := 27) q57_27 rfl rfl ?_
      rw [m_cnt_t (f := fun t => decide (0 < f t)) (decide_eq_true hc)] at ih
      exact ih
    · refine e_st (pc := 4) q57_4 rfl rfl ?_
      refine e_st (pc := 5) q57_5 rfl rfl ?_
      refine e_getf (pc := 6) q57_6 hr rfl ?_
      refine e_cmp false (pc := 9) q57_9 ⟨by omega, by omega⟩ ⟨by omega, by omega⟩ (n_f_ge (by omega)) ?_
      refine e_st (pc := 12) q57_12 rfl rfl ?_
      refine e_getf (pc := 13) q57_13 hr rfl ?_
      refine e_st (pc := 16) q57_16 rfl rfl ?_
      refine e_ald (pc := 17) (j := i) q57_17 hb (by omega) (by omega) (by omega) ?_
      refine e_if true (pc := 18) q57_18 ⟨by omega, by omega⟩ (n_t_le (by omega)) ?_
      refine e_inc (pc := 24) (L2 := [some (.ref a), some (n_v (m_cnt i (fun t => decide (0 < f t)))), some (n_v (↑i + 1))]) q57_24 rfl rfl ?_
      refine e_st (pc := 27) q57_27 rfl rfl ?_
      rw [m_cnt_f (f := fun t => decide (0 < f t)) (decide_eq_false hc)] at ih
      exact ih
theorem s57 {a c b n : Nat} {rg : Value} {f : Nat → Int} (hr : c_ob h a 6 [.ref c, .ref b, n_v ↑n, rg]) (hb : c_ar h b 60 f) (hn : n ≤ 60) (hf : ∀ t, t < n → 0 ≤ f t ∧ f t ≤ 200) (K : Q (.inl (some (n_v (m_cnt n (fun t => decide (0 < f t))))), h)) : c_Ev X 57 0 [some (.ref a), none, none] [] h Q := by
  refine e_cst (v := 0) (len := 1) (pc := 0) q57_0 rfl rfl rfl ?_
  refine e_st (pc := 1) (L2 := [some (.ref a), some (n_v 0), none]) q57_1 rfl rfl ?_
  refine e_cst (v := 0) (len := 1) (pc := 2) q57_2 rfl rfl rfl ?_
  refine e_st (pc := 3) (L2 := [some (.ref a), some (n_v 0), some (n_v 0)]) q57_3 rfl rfl ?_
  exact s57L hr hb hn hf K n 0 (by omega)
theorem s82L {b n : Nat} {v : Int} (hn : n ≤ 1000) (K : ∀ h2, c_up h h2 b (n_arr n (fun _ => v)) → Q (.inl none, h2)) : ∀ (m i : Nat) (h1 : c_Hp) (f : Nat → Int), i + m = n → (∀ t, t < i → f t = v) → c_up h h1 b (n_arr n f) → c_Ev X 82 5 [some (.ref b), some (n_v v), some (n_v ↑i), some (n_v ↑n)] [] h1 Q
  | 0, i, h1, f, e, hf, hu => by
    refine e_st (pc := 5) q82_5 rfl rfl ?_
    refine e_st (pc := 6) q82_6 rfl rfl ?_
    refine e_cmp true (pc := 7) q82_7 ⟨by omega, by omega⟩ ⟨by omega, by omega⟩ (n_t_ge (by omega)) ?_
    refine e_ret (pc := 20) q82_20 rfl rfl rfl ?_
    refine K _ ?_
    have e2 : n_arr n (fun _ => v) = n_arr n f := by
      unfold n_arr
      congr 3
      exact List.map_congr_left (fun t ht => by rw [hf t (by have := List.mem_range.mp ht; omega)])
    rw [e2]
    exact hu
  | m + 1, i, h1, f, e, hf, hu => by
    have hb : c_ar h1 b n f := hu.2.1
    refine e_st (pc := 5) q82_5 rfl rfl ?_
    refine e_st (pc := 6) q82_6 rfl rfl ?_
    refine e_cmp false (pc := 7) q82_7 ⟨by omega, by omega⟩ ⟨by omega, by omega⟩ (n_f_ge (by omega)) ?_
    refine e_st (pc := 10) q82_10 rfl rfl ?_
    refine e_st (pc := 11) q82_11 rfl rfl ?_
    refine e_st (pc := 12) q82_12 rfl rfl ?_
    refine e_ast (pc := 13) (j := i) q82_13 hb (by omega) (by omega) (by omega) (fun h1 u1 => ?_)
    have hb : c_ar h1 b n (fun t => if t = i then v else f t) := u1.2.1
    refine e_inc (pc := 14) (L2 := [some (.ref b), some (n_v v), some (n_v (↑i + 1)), some (n_v ↑n)]) q82_14 rfl rfl ?_
    refine e_st (pc := 17) q82_17 rfl rfl ?_
    exact s82L hn K m (i + 1) _ _ (by omega) (fun t ht => by
      by_cases e2 : t = i
      · rw [if_pos e2]
      · rw [if_neg e2]; exact hf t (by omega)) (hu.tr u1)
theorem s82 {b n : Nat} {v : Int} {f : Nat → Int} (hb : c_ar h b n f) (hn : n ≤ 1000) (K : ∀ h2, c_up h h2 b (n_arr n (fun _ => v)) → Q (.inl none, h2)) : c_Ev X 82 0 [some (.ref b), some (n_v v), none, none] [] h Q := by
  refine e_cst (v := 0) (len := 1) (pc := 0) q82_0 rfl rfl rfl ?_
  refine e_st (pc := 1) (L2 := [some (.ref b), some (n_v v), some (n_v 0), none]) q82_1 rfl rfl ?_
  refine e_st (pc := 2) q82_2 rfl rfl ?_
  refine e_len (pc := 3) q82_3 hb ?_
  refine e_st (pc := 4) (L2 := [some (.ref b), some (n_v v), some (n_v 0), some (n_v (↑n))]) q82_4 rfl rfl ?_
  exact s82L hn K n 0 h f (by omega) (fun t ht => by omega) (c_up.rf hb)
end Ms
