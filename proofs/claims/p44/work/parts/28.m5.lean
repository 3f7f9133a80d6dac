/-! All rounds, the waves' sizes and their sums. -/
/-- f has the list R from its beginning -/
def m_li (f : Nat → Int) (R : List Nat) : Prop := ∀ (j x : Nat), R[j]? = some x → f j = (x : Int)
theorem b_rem_nil (f : Nat) {u : List Bool} (h : b_cnt u = 0) : b_rem f u = [] := by
  cases f with
  | zero => rfl
  | succ f => rw [b_rem, if_pos h]
theorem b_rem_len : ∀ (f : Nat) (u : List Bool), 2 * (b_rem f u).length ≤ u.length
  | 0, u => by simp [b_rem]
  | f + 1, u => by
    unfold b_rem
    split
    · simp
    · have := b_rem_len f (b_red u)
      have := b_red_len u
      simp only [List.length_cons]
      omega
section Ms
variable {X : List Int32} {h : c_Hp} {Q : c_O × c_Hp → Prop}
theorem s31L {d a s r : Nat} (hne : d ≠ s ∧ d ≠ r ∧ s ≠ r) {R : List Nat} (K : ∀ (h2 : c_Hp) (sf rf : Nat → Int), c_ch h h2 [d, s, r] → c_ob h2 d 3 [.ref s, .ref r, n_v (R.length : Int)] → c_ar h2 s 120 sf → c_ar h2 r 60 rf → m_li rf R → Q (.inl none, h2)) :
  ∀ (m k F : Nat) (u : List Bool) (D : List Nat) (h1 : c_Hp) (sf rf : Nat → Int) (x3 : Option Value), k + m = 60 → u.length + 2 * k ≤ 120 → u.length ≤ F → D.length = k → R = D ++ b_rem F u → c_ch h h1 [d, s, r] → c_ob h1 d 3 [.ref s, .ref r, n_v ↑k] → c_ar h1 s 120 sf → c_ar h1 r 60 rf → m_li rf D → m_at sf 0 u →
  c_Ev X 31 11 [some (.ref d), some (.ref a), some (n_v (u.length : Int)), x3] [] h1 Q
  | 0, k, F, u, D, h1, sf, rf, x3, hk, hu, hF, hD, hR, hch, hd, hs, hr, hl, hw => by
    refine e_st (pc := 11) q31_11 rfl rfl ?_
    refine e_getf (pc := 12) q31_12 hd rfl ?_
    refine e_cst (v := 60) (len := 2) (pc := 15) q31_15 rfl rfl (by decide +kernel) ?_
    refine e_cmp true (pc := 17) q31_17 ⟨by omega, by omega⟩ ⟨by omega, by omega⟩ (n_t_ge (by omega)) ?_
    refine e_ret (pc := 60) q31_60 rfl rfl rfl ?_
    have e0 : u = [] := List.length_eq_zero_iff.mp (by omega)
    subst e0
    rw [b_rem_nil F (by rfl), List.append_nil] at hR
    subst hR
    rw [← hD] at hd
    exact K h1 sf rf hch hd hs hr hl
  | m + 1, k, F, u, D, h1, sf, rf, x3, hk, hu, hF, hD, hR, hch, hd, hs, hr, hl, hw => by
    have hrl := b_red_len u
    refine e_st (pc := 11) q31_11 rfl rfl ?_
    refine e_getf (pc := 12) q31_12 hd rfl ?_
    refine e_cst (v := 60) (len := 2) (pc := 15) q31_15 rfl rfl (by decide +kernel) ?_
    refine e_cmp false (pc := 17) q31_17 ⟨by omega, by omega⟩ ⟨by omega, by omega⟩ (n_f_ge (by omega)) ?_
    refine e_st (pc := 20) q31_20 rfl rfl ?_
    refine e_st (pc := 21) q31_21 rfl rfl ?_
    refine e_callV (pc := 22) (mz := c_m33) (a := d) (L0 := [some (.ref d), some (n_v (u.length : Int)), none, none, none, none]) q31_22 rfl rfl rfl rfl rfl rfl rfl hd rfl rfl ?_
    refine s33 hd (by omega) hne.1 hw rfl hs (fun h2 f2 c2 hs hw => ?_)
    have hd := hd.ch c2 (by simp; omega)
    have hr := hr.ch c2 (by simp; omega)
    refine e_k (pc := 22) ?_
    refine e_st (pc := 25) (L2 := [some (.ref d), some (.ref a), some (n_v (u.length : Int)), some (n_v (b_cnt u : Int))]) q31_25 rfl rfl ?_
    refine e_st (pc := 26) q31_26 rfl rfl ?_
    by_cases h0 : b_cnt u = 0
    · refine e_if false (pc := 27) q31_27 ⟨by omega, by omega⟩ (n_f_ne (by omega)) ?_
      refine e_ret (pc := 30) q31_30 rfl rfl rfl ?_
      rw [b_rem_nil F h0, List.append_nil] at hR
      subst hR
      rw [← hD] at hd
      exact K h2 f2 rf (hch.tr (c2.sub (by simp <;> omega))) hd hs hr hl
    · refine e_if true (pc := 27) q31_27 ⟨by omega, by omega⟩ (n_t_ne (by omega)) ?_
      refine e_st (pc := 31) q31_31 rfl rfl ?_
      refine e_getf (pc := 32) q31_32 hd rfl ?_
      refine e_st (pc := 35) q31_35 rfl rfl ?_
      refine e_getf (pc := 36) q31_36 hd rfl ?_
      refine e_st (pc := 39) q31_39 rfl rfl ?_
      refine e_ast (pc := 40) (j := k) q31_40 hr (by omega) (by omega) (by omega) (fun h3 u3 => ?_)
      have hd := hd.up u3 (by omega)
      have hs := hs.up u3 (by omega)
      have hr : c_ar h3 r 60 (fun t => if t = k then (b_cnt u : Int) else rf t) := u3.2.1
      refine e_st (pc := 41) q31_41 rfl rfl ?_
      refine e_st (pc := 42) q31_42 rfl rfl ?_
      refine e_getf (pc := 43) q31_43 hd rfl ?_
      refine e_cst (v := 1) (len := 1) (pc := 46) q31_46 rfl rfl rfl ?_
      refine e_add (pc := 47) q31_47 ?_
      refine e_putf (pc := 48) (fs2 := [.ref s, .ref r, n_v (↑k + 1)]) q31_48 hd (c_okv_i _) (Nat.le_of_ble_eq_true rfl) rfl (fun h4 u4 => ?_)
      have hs := hs.up u4 (by omega)
      have hr := hr.up u4 (by omega)
      have hd : c_ob h4 d 3 [.ref s, .ref r, n_v (↑k + 1)] := u4.2.1
      refine e_st (pc := 51) q31_51 rfl rfl ?_
      refine e_cst (v := 2) (len := 1) (pc := 52) q31_52 rfl rfl rfl ?_
      refine e_st (pc := 53) q31_53 rfl rfl ?_
      refine e_mul (pc := 54) q31_54 ?_
      refine e_sub (pc := 55) q31_55 ?_
      refine e_st (pc := 56) (L2 := [some (.ref d), some (.ref a), some (n_v ((u.length : Int) - (2 * (b_cnt u : Int)))), some (n_v (b_cnt u : Int))]) q31_56 rfl rfl ?_
      refine e_st (pc := 57) q31_57 rfl rfl ?_
      obtain ⟨F2, rfl⟩ : ∃ F2, F = F2 + 1 := ⟨F - 1, by omega⟩
      have e9 : (u.length : Int) - 2 * (b_cnt u : Int) = ((b_red u).length : Int) := by omega
      rw [e9]
      refine s31L hne K m (k + 1) F2 (b_red u) (D ++ [b_cnt u]) h4 f2 _ _ (by omega) (by omega) (by omega) (by simp [hD]) ?_ (((hch.tr (c2.sub (by simp <;> omega))).up u3 (by simp)).up u4 (by simp)) hd hs hr ?_ hw
      · rw [hR, b_rem, if_neg h0, List.append_assoc]
        rfl
      · intro j x hx
        by_cases h1 : j < k
        · rw [List.getElem?_append_left (by omega)] at hx
          show (if j = k then _ else rf j) = _
          rw [if_neg (by omega)]
          exact hl j x hx
        · rw [List.getElem?_append_right (by omega)] at hx
          by_cases h2 : j = k
          · rw [h2, hD, Nat.sub_self] at hx
            cases hx
            show (if j = k then _ else rf j) = _
            rw [if_pos h2]
          · rw [List.getElem?_eq_none (by simp; omega)] at hx
            cases hx
theorem s31 {d a s r c b n : Nat} {k0 rg : Value} {sf rf bf : Nat → Int} (hd : c_ob h d 3 [.ref s, .ref r, k0]) (ha : c_ob h a 6 [.ref c, .ref b, n_v ↑n, rg]) (hb : c_ar h b 60 bf) (hs : c_ar h s 120 sf) (hr : c_ar h r 60 rf) (hn : n ≤ 60) (hbf : ∀ t, t < n → bf t = 0 ∨ bf t = 1) (hne : d ≠ s ∧ d ≠ r ∧ s ≠ r) (hne2 : a ≠ s ∧ b ≠ s)
    (K : ∀ (h2 : c_Hp) (sf rf : Nat → Int), c_ch h h2 [d, s, r] → c_ob h2 d 3 [.ref s, .ref r, n_v ((b_rem 120 (m_u n bf)).length : Int)] → c_ar h2 s 120 sf → c_ar h2 r 60 rf → m_li rf (b_rem 120 (m_u n bf)) → Q (.inl none, h2)) : c_Ev X 31 0 [some (.ref d), some (.ref a), none, none] [] h Q := by
  refine e_st (pc := 0) q31_0 rfl rfl ?_
  refine e_st (pc := 1) q31_1 rfl rfl ?_
  refine e_callV (pc := 2) (mz := c_m32) (a := d) (L0 := [some (.ref d), some (.ref a), none]) q31_2 rfl rfl rfl rfl rfl rfl rfl hd rfl rfl ?_
  refine s32 hd ha hb hs hn ⟨hne.1, hne2.1, hne2.2⟩ hbf (fun h1 sf1 c1 hs hw => ?_)
  have hd := hd.ch c1 (by simp; omega)
  have hr := hr.ch c1 (by simp; omega)
  refine e_k (pc := 2) ?_
  refine e_st (pc := 5) (L2 := [some (.ref d), some (.ref a), some (n_v ((m_u n bf).length : Int)), none]) q31_5 rfl rfl ?_
  refine e_st (pc := 6) q31_6 rfl rfl ?_
  refine e_cst (v := 0) (len := 1) (pc := 7) q31_7 rfl rfl rfl ?_
  refine e_putf (pc := 8) (fs2 := [.ref s, .ref r, n_v 0]) q31_8 hd (c_okv_i _) (Nat.le_of_ble_eq_true rfl) rfl (fun h2 u2 => ?_)
  have hr := hr.up u2 (by omega)
  have hs := hs.up u2 (by omega)
  have hd : c_ob h2 d 3 [.ref s, .ref r, n_v 0] := u2.2.1
  have hl := m_u_len n bf
  exact s31L hne K 60 0 120 (m_u n bf) [] h2 sf1 rf none (by omega) (by omega) (by omega) rfl rfl ((c1.sub (by simp <;> omega)).up u2 (by simp)) hd hs hr (fun j x hx => by simp at hx) hw
def m_hd (R : List Nat) : Nat := R.headD 0
theorem s35 {d s r : Nat} {R : List Nat} {rf : Nat → Int} (hd : c_ob h d 3 [.ref s, .ref r, n_v (R.length : Int)]) (hr : c_ar h r 60 rf) (hl : m_li rf R) (hR : R.length ≤ 60) (K : Q (.inl (some (n_v (m_hd R : Int))), h)) : c_Ev X 35 0 [some (.ref d)] [] h Q := by
  refine e_st (pc := 0) q35_0 rfl rfl ?_
  refine e_cst (v := 1) (len := 1) (pc := 1) q35_1 rfl rfl rfl ?_
  refine e_callV (pc := 2) (mz := c_m34) (a := d) (L0 := [some (.ref d), some (n_v 1)]) q35_2 rfl rfl rfl rfl rfl rfl rfl hd rfl rfl ?_
  refine (?_ : c_Ev X 34 0 [some (.ref d), some (n_v 1)] [] h (c_after X 35 2 [some (.ref d)] [] Q))
  suffices K9 : c_after X 35 2 [some (.ref d)] [] Q (.inl (some (n_v (m_hd R : Int))), h) by
    cases R with
    | nil =>
      have e0 : ([] : List Nat).length = 0 := rfl
      refine e_st (pc := 0) q34_0 rfl rfl ?_
      refine e_cst (v := 1) (len := 1) (pc := 1) q34_1 rfl rfl rfl ?_
      refine e_cmp false (pc := 2) q34_2 ⟨by omega, by omega⟩ ⟨by omega, by omega⟩ (n_f_lt (by omega)) ?_
      refine e_st (pc := 5) q34_5 rfl rfl ?_
      refine e_st (pc := 6) q34_6 rfl rfl ?_
      refine e_getf (pc := 7) q34_7 hd rfl ?_
      refine e_cmp true (pc := 10) q34_10 ⟨by omega, by omega⟩ ⟨by omega, by omega⟩ (n_t_gt (by omega)) ?_
      refine e_cst (v := 0) (len := 1) (pc := 24) q34_24 rfl rfl rfl ?_
      refine e_iret (pc := 25) q34_25 rfl rfl rfl rfl ?_
      exact K9
    | cons x R =>
      refine e_st (pc := 0) q34_0 rfl rfl ?_
      refine e_cst (v := 1) (len := 1) (pc := 1) q34_1 rfl rfl rfl ?_
      refine e_cmp false (pc := 2) q34_2 ⟨by omega, by omega⟩ ⟨by omega, by omega⟩ (n_f_lt (by omega)) ?_
      refine e_st (pc := 5) q34_5 rfl rfl ?_
      refine e_st (pc := 6) q34_6 rfl rfl ?_
      have e1 : ((x :: R).length : Int) = (R.length : Int) + 1 := by simp
      refine e_getf (pc := 7) q34_7 hd rfl ?_
      refine e_cmp false (pc := 10) q34_10 ⟨by omega, by omega⟩ ⟨by omega, by omega⟩ (n_f_gt (by omega)) ?_
      refine e_st (pc := 13) q34_13 rfl rfl ?_
      refine e_getf (pc := 14) q34_14 hd rfl ?_
      refine e_st (pc := 17) q34_17 rfl rfl ?_
      refine e_cst (v := 1) (len := 1) (pc := 18) q34_18 rfl rfl rfl ?_
      refine e_sub (pc := 19) q34_19 ?_
      refine e_aldv (pc := 20) (j := 0) (v := (x : Int)) q34_20 hr (by omega) (by omega) (by omega) (hl 0 x rfl) ?_
      refine e_st (pc := 21) q34_21 rfl rfl ?_
      refine e_iret (pc := 25) q34_25 rfl rfl rfl rfl ?_
      exact K9
  refine e_k (pc := 2) ?_
  refine e_iret (pc := 5) q35_5 rfl rfl rfl rfl ?_
  exact K
theorem b_sz_take (R : List Nat) (w i : Nat) (x : Nat) (h : R[i]? = some x) : b_sz (R.take (i + 1)) w = b_sz (R.take i) w + if w < x then 1 else 0 := by
  unfold b_sz
  rw [List.take_succ, h, List.filter_append, List.length_append]
  by_cases e : w < x <;> simp [e]
theorem s36L {d s r wv : Nat} {R : List Nat} {rf : Nat → Int} (hd : c_ob h d 3 [.ref s, .ref r, n_v (R.length : Int)]) (hr : c_ar h r 60 rf) (hl : m_li rf R) (hR : R.length ≤ 60) (hv : ∀ x ∈ R, x ≤ 200) (hw : wv ≤ 200) (K : Q (.inl (some (n_v (b_sz R wv : Int))), h)) : ∀ (m i : Nat), i + m = R.length → c_Ev X 36 4 [some (.ref d), some (n_v ↑wv), some (n_v (b_sz (R.take i) wv : Int)), some (n_v ↑i)] [] h Q
  | 0, i, e => by
    refine e_st (pc := 4) q36_4 rfl rfl ?_
    refine e_st (pc := 5) q36_5 rfl rfl ?_
    refine e_getf (pc := 6) q36_6 hd rfl ?_
    refine e_cmp true (pc := 9) q36_9 ⟨by omega, by omega⟩ ⟨by omega, by omega⟩ (n_t_ge (by omega)) ?_
    refine e_st (pc := 31) q36_31 rfl rfl ?_
    refine e_iret (pc := 32) q36_32 rfl rfl rfl rfl ?_
    rw [show i = R.length by omega, List.take_length]
    exact K
  | m + 1, i, e => by
    obtain ⟨x, hx⟩ : ∃ x, R[i]? = some x := ⟨R[i]'(by omega), List.getElem?_eq_getElem (by omega)⟩
    have hx2 := hv x (List.mem_of_getElem? hx)
    have hx3 := hl i x hx
    have ih := s36L hd hr hl hR hv hw K m (i + 1) (by omega)
    rw [b_sz_take R wv i x hx] at ih
    by_cases hc : wv < x
    · refine e_st (pc := 4) q36_4 rfl rfl ?_
      refine e_st (pc := 5) q36_5 rfl rfl ?_
      refine e_getf (pc := 6) q36_6 hd rfl ?_
      refine e_cmp false (pc := 9) q36_9 ⟨by omega, by omega⟩ ⟨by omega, by omega⟩ (n_f_ge (by omega)) ?_
      refine e_st (pc := 12) q36_12 rfl rfl ?_
      refine e_getf (pc := 13) q36_13 hd rfl ?_
      refine e_st (pc := 16) q36_16 rfl rfl ?_
      refine e_aldv (pc := 17) (j := i) (v := (x : Int)) q36_17 hr (by omega) (by omega) (by omega) hx3 ?_
      refine e_st (pc := 18) q36_18 rfl rfl ?_
      refine e_cmp false (pc := 19) q36_19 ⟨by omega, by omega⟩ ⟨by omega, by omega⟩ (n_f_le (by omega)) ?_
      refine e_inc (pc := 22) (L2 := [some (.ref d), some (n_v ↑wv), some (n_v ((b_sz (R.take i) wv : Int) + 1)), some (n_v ↑i)]) q36_22 rfl rfl ?_
      refine e_inc (pc := 25) (L2 := [some (.ref d), some (n_v ↑wv), some (n_v ((b_sz (R.take i) wv : Int) + 1)), some (n_v (↑i + 1))]) q36_25 rfl rfl ?_
      refine e_st (pc := 28) q36_28 rfl rfl ?_
      rw [if_pos hc] at ih
      exact ih
    · refine e_st (pc := 4) q36_4 rfl rfl ?_
      refine e_st (pc := 5) q36_5 rfl rfl ?_
      refine e_getf (pc := 6) q36_6 hd rfl ?_
      refine e_cmp false (pc := 9) q36_9 ⟨by omega, by omega⟩ ⟨by omega, by omega⟩ (n_f_ge (by omega)) ?_
      refine e_st (pc := 12) q36_12 rfl rfl ?_
      refine e_getf (pc := 13) q36_13 hd rfl ?_
      refine e_st (pc := 16) q36_16 rfl rfl ?_
      refine e_aldv (pc := 17) (j := i) (v := (x : Int)) q36_17 hr (by omega) (by omega) (by omega) hx3 ?_
      refine e_st (pc := 18) q36_18 rfl rfl ?_
      refine e_cmp true (pc := 19) q36_19 ⟨by omega, by omega⟩ ⟨by omega, by omega⟩ (n_t_le (by omega)) ?_
      refine e_inc (pc := 25) (L2 := [some (.ref d), some (n_v ↑wv), some (n_v (b_sz (R.take i) wv : Int)), some (n_v (↑i + 1))]) q36_25 rfl rfl ?_
      refine e_st (pc := 28) q36_28 rfl rfl ?_
      rw [if_neg hc] at ih
      exact ih
theorem s36 {d s r wv : Nat} {R : List Nat} {rf : Nat → Int} (hd : c_ob h d 3 [.ref s, .ref r, n_v (R.length : Int)]) (hr : c_ar h r 60 rf) (hl : m_li rf R) (hR : R.length ≤ 60) (hv : ∀ x ∈ R, x ≤ 200) (hw : wv ≤ 200) (K : Q (.inl (some (n_v (b_sz R wv : Int))), h)) : c_Ev X 36 0 [some (.ref d), some (n_v ↑wv), none, none] [] h Q := by
  refine e_cst (v := 0) (len := 1) (pc := 0) q36_0 rfl rfl rfl ?_
  refine e_st (pc := 1) (L2 := [some (.ref d), some (n_v ↑wv), some (n_v 0), none]) q36_1 rfl rfl ?_
  refine e_cst (v := 0) (len := 1) (pc := 2) q36_2 rfl rfl rfl ?_
  refine e_st (pc := 3) (L2 := [some (.ref d), some (n_v ↑wv), some (n_v 0), some (n_v 0)]) q36_3 rfl rfl ?_
  exact s36L hd hr hl hR hv hw K R.length 0 (by omega)
theorem s37L {d s r k : Nat} {R : List Nat} {rf : Nat → Int} (hd : c_ob h d 3 [.ref s, .ref r, n_v (R.length : Int)]) (hr : c_ar h r 60 rf) (hl : m_li rf R) (hR : R.length ≤ 60) (hv : ∀ x ∈ R, x ≤ m_hd R) (hh : m_hd R ≤ 200) (hk : k ≤ 200) (K : Q (.inl (some (n_v ((((List.range (m_hd R)).map (fun t => min (b_sz R t) k)).sum : Nat) : Int))), h)) : ∀ (m i : Nat), i + m = m_hd R → c_Ev X 37 4 [some (.ref d), some (n_v ↑k), some (n_v ((((List.range i).map (fun t => min (b_sz R t) k)).sum : Nat) : Int)), some (n_v ↑i)] [] h Q
  | 0, i, e => by
    refine e_st (pc := 4) q37_4 rfl rfl ?_
    refine e_st (pc := 5) q37_5 rfl rfl ?_
    refine e_callV (pc := 6) (mz := c_m35) (a := d) (L0 := [some (.ref d)]) q37_6 rfl rfl rfl rfl rfl rfl rfl hd rfl rfl ?_
    refine s35 hd hr hl hR ?_
    refine e_k (pc := 6) ?_
    refine e_cmp true (pc := 9) q37_9 ⟨by omega, by omega⟩ ⟨by omega, by omega⟩ (n_t_ge (by omega)) ?_
    refine e_st (pc := 30) q37_30 rfl rfl ?_
    refine e_iret (pc := 31) q37_31 rfl rfl rfl rfl ?_
    rw [show i = m_hd R by omega]
    exact K
  | m + 1, i, e => by
    have hb0 : b_sz R i ≤ R.length := List.length_filter_le _ _
    refine e_st (pc := 4) q37_4 rfl rfl ?_
    refine e_st (pc := 5) q37_5 rfl rfl ?_
    refine e_callV (pc := 6) (mz := c_m35) (a := d) (L0 := [some (.ref d)]) q37_6 rfl rfl rfl rfl rfl rfl rfl hd rfl rfl ?_
    refine s35 hd hr hl hR ?_
    refine e_k (pc := 6) ?_
    refine e_cmp false (pc := 9) q37_9 ⟨by omega, by omega⟩ ⟨by omega, by omega⟩ (n_f_ge (by omega)) ?_
    refine e_st (pc := 12) q37_12 rfl rfl ?_
    refine e_st (pc := 13) q37_13 rfl rfl ?_
    refine e_st (pc := 14) q37_14 rfl rfl ?_
    refine e_callV (pc := 15) (mz := c_m36) (a := d) (L0 := [some (.ref d), some (n_v ↑i), none, none]) q37_15 rfl rfl rfl rfl rfl rfl rfl hd rfl rfl ?_
    refine s36 hd hr hl hR (fun x hx => Nat.le_trans (hv x hx) hh) (by omega) ?_
    refine e_k (pc := 15) ?_
    refine e_st (pc := 18) q37_18 rfl rfl ?_
    refine e_min (pc := 19) q37_19 ⟨by omega, by omega⟩ ⟨by omega, by omega⟩ (Nat.le_of_ble_eq_true rfl) ?_
    refine e_add (pc := 22) q37_22 ?_
    have hb : b_sz R i ≤ R.length := List.length_filter_le _ _
    have e5 : ((((List.range i).map (fun t => min (b_sz R t) k)).sum : Nat) : Int) + min (b_sz R i : Int) (k : Int) = ((((List.range (i + 1)).map (fun t => min (b_sz R t) k)).sum : Nat) : Int) := by rw [List.range_succ, List.map_append, List.sum_append]; simp only [List.map_cons, List.map_nil, List.sum_cons, List.sum_nil]; omega
    rw [e5]
    refine e_st (pc := 23) (L2 := [some (.ref d), some (n_v ↑k), some (n_v ((((List.range (i + 1)).map (fun t => min (b_sz R t) k)).sum : Nat) : Int)), some (n_v ↑i)]) q37_23 rfl rfl ?_
    refine e_inc (pc := 24) (L2 := [some (.ref d), some (n_v ↑k), some (n_v ((((List.range (i + 1)).map (fun t => min (b_sz R t) k)).sum : Nat) : Int)), some (n_v (↑i + 1))]) q37_24 rfl rfl ?_
    refine e_st (pc := 27) q37_27 rfl rfl ?_
    exact s37L hd hr hl hR hv hh hk K m (i + 1) (by omega)
theorem s37 {d s r k : Nat} {R : List Nat} {rf : Nat → Int} (hd : c_ob h d 3 [.ref s, .ref r, n_v (R.length : Int)]) (hr : c_ar h r 60 rf) (hl : m_li rf R) (hR : R.length ≤ 60) (hv : ∀ x ∈ R, x ≤ m_hd R) (hh : m_hd R ≤ 200) (hk : k ≤ 200) (K : Q (.inl (some (n_v ((((List.range (m_hd R)).map (fun t => min (b_sz R t) k)).sum : Nat) : Int))), h)) : c_Ev X 37 0 [some (.ref d), some (n_v ↑k), none, none] [] h Q := by
  refine e_cst (v := 0) (len := 1) (pc := 0) q37_0 rfl rfl rfl ?_
  refine e_st (pc := 1) (L2 := [some (.ref d), some (n_v ↑k), some (n_v 0), none]) q37_1 rfl rfl ?_
  refine e_cst (v := 0) (len := 1) (pc := 2) q37_2 rfl rfl rfl ?_
  refine e_st (pc := 3) (L2 := [some (.ref d), some (n_v ↑k), some (n_v 0), some (n_v 0)]) q37_3 rfl rfl ?_
  exact s37L hd hr hl hR hv hh hk K (m_hd R) 0 (by omega)
end Ms
