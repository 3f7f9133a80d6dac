/-! walk, areRunsWaves, areWavesSound -/
section Ms
variable {X : List Int32} {h : c_Hp} {Q : c_O × c_Hp → Prop}
theorem s59S {n N : Nat} {bf : Nat → Int} (hn : n ≤ 60) (hN : N ≤ 90)
    (K : ∀ (h2 : c_Hp) (f2 nf2 : Nat → Int) (la2 : Value), c_ch h h2 [28, 29, 30] → c_ob h2 28 7 [.ref 29, .ref 30, n_v ((b_it b_G N (b_pos 0 (m_wd n bf))).length : Int), la2] → c_ar h2 29 60 f2 → c_ar h2 30 60 nf2 → m_li f2 (b_it b_G N (b_pos 0 (m_wd n bf))) → Q (.inl none, h2)) :
  ∀ (m t : Nat) (h1 : c_Hp) (f nf : Nat → Int) (la : Value), t + m = N → c_ch h h1 [28, 29, 30] → c_ob h1 28 7 [.ref 29, .ref 30, n_v ((b_it b_G t (b_pos 0 (m_wd n bf))).length : Int), la] → c_ar h1 29 60 f → c_ar h1 30 60 nf → m_li f (b_it b_G t (b_pos 0 (m_wd n bf))) → c_Ev X 59 52 [some (.ref 28), some (.ref 1), some (n_v ↑N), some (n_v ↑t)] [] h1 Q
  | 0, t, h1, f, nf, la, e, hch, hd, hf, hr, hl => by
    refine e_st (pc := 52) q59_52 rfl rfl ?_
    refine e_st (pc := 53) q59_53 rfl rfl ?_
    refine e_cmp true (pc := 54) q59_54 ⟨by omega, by omega⟩ ⟨by omega, by omega⟩ (n_t_ge (by omega)) ?_
    refine e_ret (pc := 67) q59_67 rfl rfl rfl ?_
    rw [show t = N by omega] at hd hl
    exact K h1 f nf la hch hd hf hr hl
  | m + 1, t, h0, f, nf, la, e, hch, hd, hf, hr, hl => by
    have hwl := m_wd_len n bf
    have hcn := List.length_filter_le id (m_wd n bf)
    have hT := b_Tit_cnt t (m_wd n bf)
    have hw : b_it b_G t (b_pos 0 (m_wd n bf)) = b_pos 0 (b_it (b_T 0) t (m_wd n bf)) := b_Git_T t _
    have hlen : (b_it b_G t (b_pos 0 (m_wd n bf))).length ≤ 60 := by rw [hw, b_pos_len]; omega
    have hbd : ∀ y ∈ b_it b_G t (b_pos 0 (m_wd n bf)), y ≤ 50000 := by
      intro y hy
      rw [hw] at hy
      have h1 := b_pos_lt _ _ _ hy
      have h2 : t * ((m_wd n bf).filter id).length ≤ 90 * 60 := Nat.mul_le_mul (by omega) (by omega)
      omega
    refine e_st (pc := 52) q59_52 rfl rfl ?_
    refine e_st (pc := 53) q59_53 rfl rfl ?_
    refine e_cmp false (pc := 54) q59_54 ⟨by omega, by omega⟩ ⟨by omega, by omega⟩ (n_f_ge (by omega)) ?_
    refine e_st (pc := 57) q59_57 rfl rfl ?_
    refine e_callV (pc := 58) (mz := c_m60) (a := 28) (L0 := [some (.ref 28), none, none, none, none]) (rest := []) q59_58 rfl rfl rfl rfl rfl rfl rfl hd rfl rfl ?_
    refine s60 hlen hbd hl hf ⟨_, hw⟩ hr hd (fun h1 f2 nf2 la2 c1 hd hf hr hl hle => ?_)
    refine e_k0 (pc := 58) ?_
    refine e_inc (pc := 61) (L2 := [some (.ref 28), some (.ref 1), some (n_v ↑N), some (n_v (↑t + 1))]) q59_61 rfl rfl ?_
    refine e_st (pc := 64) q59_64 rfl rfl ?_
    rw [← b_it_succ b_G] at hd hl
    exact s59S hn hN K m (t + 1) h1 f2 nf2 la2 (by omega) (hch.tr c1) hd hf hr hl
theorem s59L {n N : Nat} {rg : Value} {bf : Nat → Int} (hr0 : c_ob h 1 6 [.ref 2, .ref 3, n_v ↑n, rg]) (hb0 : c_ar h 3 60 bf) (hn : n ≤ 60) (hN : N ≤ 90) (hbf : ∀ t, t < n → bf t = 0 ∨ bf t = 1) {nf : Nat → Int} (hq0 : c_ar h 30 60 nf)
    (K : ∀ (h2 : c_Hp) (f2 nf2 : Nat → Int) (la2 : Value), c_ch h h2 [28, 29, 30] → c_ob h2 28 7 [.ref 29, .ref 30, n_v ((b_it b_G N (b_pos 0 (m_wd n bf))).length : Int), la2] → c_ar h2 29 60 f2 → c_ar h2 30 60 nf2 → m_li f2 (b_it b_G N (b_pos 0 (m_wd n bf))) → Q (.inl none, h2)) :
  ∀ (m i : Nat) (h1 : c_Hp) (f : Nat → Int) (la : Value), i + m = n → c_ch h h1 [28, 29] → c_ob h1 28 7 [.ref 29, .ref 30, n_v ((b_pos 0 (m_wd i bf)).length : Int), la] → c_ar h1 29 60 f → m_li f (b_pos 0 (m_wd i bf)) → c_Ev X 59 7 [some (.ref 28), some (.ref 1), some (n_v ↑N), some (n_v ↑i)] [] h1 Q
  | 0, i, h1, f, la, e, hch, hd, hf, hl => by
    have hr := hr0.ch hch (by simp)
    have hb := hb0.ch hch (by simp)
    refine e_st (pc := 7) q59_7 rfl rfl ?_
    refine e_st (pc := 8) q59_8 rfl rfl ?_
    refine e_getf (pc := 9) q59_9 hr rfl ?_
    refine e_cmp true (pc := 12) q59_12 ⟨by omega, by omega⟩ ⟨by omega, by omega⟩ (n_t_ge (by omega)) ?_
    refine e_cst (v := 0) (len := 1) (pc := 50) q59_50 rfl rfl rfl ?_
    refine e_st (pc := 51) (L2 := [some (.ref 28), some (.ref 1), some (n_v ↑N), some (n_v 0)]) q59_51 rfl rfl ?_
    have e2 : i = n := by omega
    subst e2
    exact s59S (h := h) hn hN K N 0 h1 f nf la (by omega) (hch.sub (by simp)) hd hf (hq0.ch hch (by simp)) hl
  | m + 1, i, h0, f, la, e, hch, hd, hf, hl => by
    have hr := hr0.ch hch (by simp)
    have hb := hb0.ch hch (by simp)
    have hpl : (b_pos 0 (m_wd i bf)).length ≤ i := by
      rw [b_pos_len]
      have := List.length_filter_le id (m_wd i bf)
      rw [m_wd_len] at this
      exact this
    have hs : b_pos 0 (m_wd (i + 1) bf) = b_pos 0 (m_wd i bf) ++ if decide (0 < bf i) then [i] else [] := by rw [m_wd_succ, b_pos_snoc, m_wd_len, Nat.zero_add]
    have hv := hbf i (by omega)
    by_cases hc : 0 < bf i
    · refine e_st (pc := 7) q59_7 rfl rfl ?_
      refine e_st (pc := 8) q59_8 rfl rfl ?_
      refine e_getf (pc := 9) q59_9 hr rfl ?_
      refine e_cmp false (pc := 12) q59_12 ⟨by omega, by omega⟩ ⟨by omega, by omega⟩ (n_f_ge (by omega)) ?_
      refine e_st (pc := 15) q59_15 rfl rfl ?_
      refine e_getf (pc := 16) q59_16 hr rfl ?_
      refine e_st (pc := 19) q59_19 rfl rfl ?_
      refine e_ald (pc := 20) (j := i) q59_20 hb (by omega) (by omega) (by omega) ?_
      refine e_if false (pc := 21) q59_21 ⟨by omega, by omega⟩ (n_f_le (by omega)) ?_
      refine e_st (pc := 24) q59_24 rfl rfl ?_
      refine e_getf (pc := 25) q59_25 hd rfl ?_
      refine e_st (pc := 28) q59_28 rfl rfl ?_
      refine e_getf (pc := 29) q59_29 hd rfl ?_
      refine e_st (pc := 32) q59_32 rfl rfl ?_
      refine e_ast (pc := 33) (j := (b_pos 0 (m_wd i bf)).length) q59_33 hf (by omega) (by omega) (by omega) (fun h1 u1 => ?_)
      have hd := hd.up u1 (by omega)
      have hr := hr.up u1 (by omega)
      have hb := hb.up u1 (by omega)
      have hf : c_ar h1 29 60 (fun t => if t = (b_pos 0 (m_wd i bf)).length then ↑i else f t) := u1.2.1
      refine e_st (pc := 34) q59_34 rfl rfl ?_
      refine e_st (pc := 35) q59_35 rfl rfl ?_
      refine e_getf (pc := 36) q59_36 hd rfl ?_
      refine e_cst (v := 1) (len := 1) (pc := 39) q59_39 rfl rfl rfl ?_
      refine e_add (pc := 40) q59_40 ?_
      refine e_putf (pc := 41) (fs2 := [.ref 29, .ref 30, n_v (((b_pos 0 (m_wd i bf)).length : Int) + 1), la]) q59_41 hd (c_okv_i _) (Nat.le_of_ble_eq_true rfl) rfl (fun h2 u2 => ?_)
      have hr := hr.up u2 (by omega)
      have hf := hf.up u2 (by omega)
      have hb := hb.up u2 (by omega)
      have hd : c_ob h2 28 7 [.ref 29, .ref 30, n_v (((b_pos 0 (m_wd i bf)).length : Int) + 1), la] := u2.2.1
      refine e_inc (pc := 44) (L2 := [some (.ref 28), some (.ref 1), some (n_v ↑N), some (n_v (↑i + 1))]) q59_44 rfl rfl ?_
      refine e_st (pc := 47) q59_47 rfl rfl ?_
      rw [decide_eq_true hc] at hs
      refine s59L hr0 hb0 hn hN hbf hq0 K m (i + 1) h2 _ la (by omega) ((hch.up u1 (by simp)).up u2 (by simp)) ?_ hf ?_
      · rw [hs, List.length_append]
        exact hd
      · rw [hs]
        intro j x hx
        by_cases h1 : j < (b_pos 0 (m_wd i bf)).length
        · rw [List.getElem?_append_left h1] at hx
          show (if j = _ then _ else f j) = _
          rw [if_neg (by omega)]
          exact hl j x hx
        · rw [List.getElem?_append_right (by omega)] at hx
          by_cases h2 : j = (b_pos 0 (m_wd i bf)).length
          · rw [h2, Nat.sub_self] at hx
            cases hx
            exact if_pos h2
          · rw [List.getElem?_eq_none (by simp; omega)] at hx
            cases hx
    · refine e_st (pc := 7) q59_7 rfl rfl ?_
      refine e_st (pc := 8) q59_8 rfl rfl ?_
      refine e_getf (pc := 9) q59_9 hr rfl ?_
      refine e_cmp false (pc := 12) q59_12 ⟨by omega, by omega⟩ ⟨by omega, by omega⟩ (n_f_ge (by omega)) ?_
      refine e_st (pc := 15) q59_15 rfl rfl ?_
      refine e_getf (pc := 16) q59_16 hr rfl ?_
      refine e_st (pc := 19) q59_19 rfl rfl ?_
      refine e_ald (pc := 20) (j := i) q59_20 hb (by omega) (by omega) (by omega) ?_
      refine e_if true (pc := 21) q59_21 ⟨by omega, by omega⟩ (n_t_le (by omega)) ?_
      refine e_inc (pc := 44) (L2 := [some (.ref 28), some (.ref 1), some (n_v ↑N), some (n_v (↑i + 1))]) q59_44 rfl rfl ?_
      refine e_st (pc := 47) q59_47 rfl rfl ?_
      rw [decide_eq_false hc] at hs
      simp only [Bool.false_eq_true, if_false, List.append_nil] at hs
      refine s59L hr0 hb0 hn hN hbf hq0 K m (i + 1) h0 _ la (by omega) hch ?_ hf ?_
      · rw [hs]; exact hd
      · rw [hs]; exact hl
theorem s59 {n N : Nat} {rg bl la : Value} {bf f nf : Nat → Int} (hr : c_ob h 1 6 [.ref 2, .ref 3, n_v ↑n, rg]) (hb : c_ar h 3 60 bf) (hn : n ≤ 60) (hN : N ≤ 90) (hbf : ∀ t, t < n → bf t = 0 ∨ bf t = 1) (hd : c_ob h 28 7 [.ref 29, .ref 30, bl, la]) (hf : c_ar h 29 60 f) (hq : c_ar h 30 60 nf)
    (K : ∀ (h2 : c_Hp) (f2 nf2 : Nat → Int) (la2 : Value), c_ch h h2 [28, 29, 30] → c_ob h2 28 7 [.ref 29, .ref 30, n_v ((b_it b_G N (b_pos 0 (m_wd n bf))).length : Int), la2] → c_ar h2 29 60 f2 → c_ar h2 30 60 nf2 → m_li f2 (b_it b_G N (b_pos 0 (m_wd n bf))) → Q (.inl none, h2)) : c_Ev X 59 0 [some (.ref 28), some (.ref 1), some (n_v ↑N), none] [] h Q := by
  refine e_st (pc := 0) q59_0 rfl rfl ?_
  refine e_cst (v := 0) (len := 1) (pc := 1) q59_1 rfl rfl rfl ?_
  refine e_putf (pc := 2) (fs2 := [.ref 29, .ref 30, n_v 0, la]) q59_2 hd (c_okv_i _) (Nat.le_of_ble_eq_true rfl) rfl (fun h1 u1 => ?_)
  have hr := hr.up u1 (by omega)
  have hf := hf.up u1 (by omega)
  have hb := hb.up u1 (by omega)
  have hq := hq.up u1 (by omega)
  have hd : c_ob h1 28 7 [.ref 29, .ref 30, n_v 0, la] := u1.2.1
  refine e_cst (v := 0) (len := 1) (pc := 5) q59_5 rfl rfl rfl ?_
  refine e_st (pc := 6) (L2 := [some (.ref 28), some (.ref 1), some (n_v ↑N), some (n_v 0)]) q59_6 rfl rfl ?_
  exact s59L (h := h1) hr hb hn hN hbf hq (fun h2 f2 nf2 la2 c2 => K h2 f2 nf2 la2 (((c_ch.rf h _).up u1 (by simp)).tr c2)) n 0 h1 f la (by omega) (c_ch.rf _ _) hd hf (fun j x hx => by simp [m_wd, b_pos] at hx)
theorem m_runs {n : Nat} {bf : Nat → Int} (hn : n ≤ 40) : b_rs (b_fl (b_it b_G 90 (b_pos 0 (m_wd n bf)))) = (List.range (m_hd (b_rem 120 (m_u n bf)))).map (fun i => b_sz (b_rem 120 (m_u n bf)) (m_hd (b_rem 120 (m_u n bf)) - 1 - i)) := by
  have hl := m_u_len n bf
  have e : b_pos 0 (m_wd n bf) = b_pos 0 (m_u n bf) := (b_pos_apps _ _ _).symm
  rw [← b_rl_rs, m_hd_rem, e, b_runs 120 (m_u n bf) 90 (m_u_bal n bf) (by omega) (by omega)]
theorem s21L {n : Nat} {bf rf : Nat → Int} (hn : n ≤ 40) {f : Nat → Int} {la : Value} (ho : c_ob h 0 10 m_O) (hp : c_ob h 25 3 [.ref 26, .ref 27, n_v ((b_rem 120 (m_u n bf)).length : Int)]) (hm : c_ar h 27 60 rf) (hli : m_li rf (b_rem 120 (m_u n bf))) (hd : c_ob h 28 7 [.ref 29, .ref 30, n_v ((b_it b_G 90 (b_pos 0 (m_wd n bf))).length : Int), la]) (hf : c_ar h 29 60 f) (hl : m_li f (b_it b_G 90 (b_pos 0 (m_wd n bf)))) (K : Q (.inl (some (n_v 1)), h)) : ∀ (m i : Nat), i + m = m_hd (b_rem 120 (m_u n bf)) → c_Ev X 21 36 [some (.ref 0), some (n_v (m_hd (b_rem 120 (m_u n bf)) : Int)), some (n_v ↑i)] [] h Q
  | 0, i, e => by
    have hu := m_u_len n bf
    have hrl := b_rem_len 120 (m_u n bf)
    have hrl2 := b_red_len (m_u n bf)
    have hhd : m_hd (b_rem 120 (m_u n bf)) = b_cnt (m_u n bf) := m_hd_rem
    have hwl := m_wd_len n bf
    have hcn := List.length_filter_le id (m_wd n bf)
    have hT := b_Tit_cnt 90 (m_wd n bf)
    have hw : (b_it b_G 90 (b_pos 0 (m_wd n bf))) = b_pos 0 (b_it (b_T 0) 90 (m_wd n bf)) := b_Git_T 90 _
    have hlen : (b_it b_G 90 (b_pos 0 (m_wd n bf))).length ≤ 60 := by rw [hw, b_pos_len]; omega
    have hbd : ∀ y ∈ (b_it b_G 90 (b_pos 0 (m_wd n bf))), y ≤ 100000 := by
      intro y hy
      rw [hw] at hy
      have h1 := b_pos_lt _ _ _ hy
      omega
    have hrs := m_runs (bf := bf) hn
    have hrl3 := b_rs_len (b_fl (b_it b_G 90 (b_pos 0 (m_wd n bf))))
    rw [hrs, List.length_map, List.length_range] at hrl3
    refine e_st (pc := 36) q21_36 rfl rfl ?_
    refine e_st (pc := 37) q21_37 rfl rfl ?_
    refine e_cmp true (pc := 38) q21_38 ⟨by omega, by omega⟩ ⟨by omega, by omega⟩ (n_t_ge (by omega)) ?_
    refine e_cst (v := 1) (len := 1) (pc := 79) q21_79 rfl rfl rfl ?_
    refine e_iret (pc := 80) q21_80 rfl rfl rfl (by decide +kernel) ?_
    exact K
  | m + 1, i, e => by
    have hu := m_u_len n bf
    have hrl := b_rem_len 120 (m_u n bf)
    have hrl2 := b_red_len (m_u n bf)
    have hhd : m_hd (b_rem 120 (m_u n bf)) = b_cnt (m_u n bf) := m_hd_rem
    have hwl := m_wd_len n bf
    have hcn := List.length_filter_le id (m_wd n bf)
    have hT := b_Tit_cnt 90 (m_wd n bf)
    have hw : (b_it b_G 90 (b_pos 0 (m_wd n bf))) = b_pos 0 (b_it (b_T 0) 90 (m_wd n bf)) := b_Git_T 90 _
    have hlen : (b_it b_G 90 (b_pos 0 (m_wd n bf))).length ≤ 60 := by rw [hw, b_pos_len]; omega
    have hbd : ∀ y ∈ (b_it b_G 90 (b_pos 0 (m_wd n bf))), y ≤ 100000 := by
      intro y hy
      rw [hw] at hy
      have h1 := b_pos_lt _ _ _ hy
      omega
    have hrs := m_runs (bf := bf) hn
    have hrl3 := b_rs_len (b_fl (b_it b_G 90 (b_pos 0 (m_wd n bf))))
    rw [hrs, List.length_map, List.length_range] at hrl3
    refine e_st (pc := 36) q21_36 rfl rfl ?_
    refine e_st (pc := 37) q21_37 rfl rfl ?_
    refine e_cmp false (pc := 38) q21_38 ⟨by omega, by omega⟩ ⟨by omega, by omega⟩ (n_f_ge (by omega)) ?_
    refine e_st (pc := 41) q21_41 rfl rfl ?_
    refine e_getf (pc := 42) q21_42 ho rfl ?_
    refine e_st (pc := 45) q21_45 rfl rfl ?_
    refine e_getf (pc := 46) q21_46 ho rfl ?_
    refine e_st (pc := 49) q21_49 rfl rfl ?_
    refine e_callV (pc := 50) (mz := c_m64) (a := 28) (L0 := [some (.ref 28), some (n_v ↑i), none, none]) (rest := [.ref 28]) q21_50 rfl rfl rfl rfl rfl rfl rfl hd rfl rfl ?_
    refine s64 hd hf hl hbd hlen (by omega) (fun j hj1 hj2 hj3 => ?_)
    refine e_k (pc := 50) ?_
    refine e_callV (pc := 53) (mz := c_m65) (a := 28) (L0 := [some (.ref 28), some (n_v ↑j), none]) (rest := []) q21_53 rfl rfl rfl rfl rfl rfl rfl hd rfl rfl ?_
    refine s65 hd hf hl hbd hlen hj1 ?_
    refine e_k (pc := 53) ?_
    refine e_st (pc := 56) q21_56 rfl rfl ?_
    refine e_getf (pc := 57) q21_57 ho rfl ?_
    refine e_st (pc := 60) q21_60 rfl rfl ?_
    refine e_cst (v := 1) (len := 1) (pc := 61) q21_61 rfl rfl rfl ?_
    refine e_sub (pc := 62) q21_62 ?_
    refine e_st (pc := 63) q21_63 rfl rfl ?_
    refine e_sub (pc := 64) q21_64 ?_
    have e3 : (m_hd (b_rem 120 (m_u n bf)) : Int) - 1 - (i : Int) = ((m_hd (b_rem 120 (m_u n bf)) - 1 - i : Nat) : Int) := by omega
    rw [e3]
    refine e_callV (pc := 65) (mz := c_m36) (a := 25) (L0 := [some (.ref 25), some (n_v ((m_hd (b_rem 120 (m_u n bf)) - 1 - i : Nat) : Int)), none, none]) (rest := [n_v ((1 + b_nx ((b_fl (b_it b_G 90 (b_pos 0 (m_wd n bf)))).drop (j + 1)) : Nat) : Int)]) q21_65 rfl rfl rfl rfl rfl rfl rfl hp rfl rfl ?_
    refine s36 hp hm hli (by omega) (fun x hx => by have := b_rem_le 120 _ (m_u_bal n bf) x hx; omega) (by omega) ?_
    refine e_k (pc := 65) ?_
    have e4 : 1 + b_nx ((b_fl (b_it b_G 90 (b_pos 0 (m_wd n bf)))).drop (j + 1)) = b_sz (b_rem 120 (m_u n bf)) (m_hd (b_rem 120 (m_u n bf)) - 1 - i) := by
      have h5 := b_rs_at _ _ hj2
      rw [hj3, hrs, List.getElem?_map, List.getElem?_range (by omega)] at h5
      exact (Option.some.inj h5).symm
    have hsz : b_sz (b_rem 120 (m_u n bf)) (m_hd (b_rem 120 (m_u n bf)) - 1 - i) ≤ (b_rem 120 (m_u n bf)).length := List.length_filter_le _ _
    refine e_cmp true (pc := 68) q21_68 ⟨by omega, by omega⟩ ⟨by omega, by omega⟩ (n_t_eq (by omega)) ?_
    refine e_inc (pc := 73) (L2 := [some (.ref 0), some (n_v (m_hd (b_rem 120 (m_u n bf)) : Int)), some (n_v (↑i + 1))]) q21_73 rfl rfl ?_
    refine e_st (pc := 76) q21_76 rfl rfl ?_
    exact s21L hn ho hp hm hli hd hf hl K m (i + 1) (by omega)
theorem s21 {n : Nat} {rg bl la : Value} {bf rf f nf : Nat → Int} (hn : n ≤ 40) (hbf : ∀ t, t < n → bf t = 0 ∨ bf t = 1) (ho : c_ob h 0 10 m_O) (hr : c_ob h 1 6 [.ref 2, .ref 3, n_v ↑n, rg]) (hb : c_ar h 3 60 bf) (hp : c_ob h 25 3 [.ref 26, .ref 27, n_v ((b_rem 120 (m_u n bf)).length : Int)]) (hm : c_ar h 27 60 rf) (hli : m_li rf (b_rem 120 (m_u n bf))) (hd : c_ob h 28 7 [.ref 29, .ref 30, bl, la]) (hf : c_ar h 29 60 f) (hq : c_ar h 30 60 nf)
    (K : ∀ (h2 : c_Hp) (f2 nf2 : Nat → Int) (bl2 la2 : Value), c_ch h h2 [28, 29, 30] → c_ob h2 28 7 [.ref 29, .ref 30, bl2, la2] → c_ar h2 29 60 f2 → c_ar h2 30 60 nf2 → Q (.inl (some (n_v 1)), h2)) : c_Ev X 21 0 [some (.ref 0), none, none] [] h Q := by
  have hu := m_u_len n bf
  have hrl := b_rem_len 120 (m_u n bf)
  have hrl2 := b_red_len (m_u n bf)
  have hhd : m_hd (b_rem 120 (m_u n bf)) = b_cnt (m_u n bf) := m_hd_rem
  have hwl := m_wd_len n bf
  have hcn := List.length_filter_le id (m_wd n bf)
  have hT := b_Tit_cnt 90 (m_wd n bf)
  have hw : (b_it b_G 90 (b_pos 0 (m_wd n bf))) = b_pos 0 (b_it (b_T 0) 90 (m_wd n bf)) := b_Git_T 90 _
  have hlen : (b_it b_G 90 (b_pos 0 (m_wd n bf))).length ≤ 60 := by rw [hw, b_pos_len]; omega
  have hbd : ∀ y ∈ (b_it b_G 90 (b_pos 0 (m_wd n bf))), y ≤ 100000 := by
    intro y hy
    rw [hw] at hy
    have h1 := b_pos_lt _ _ _ hy
    omega
  have hrs := m_runs (bf := bf) hn
  have hrl3 := b_rs_len (b_fl (b_it b_G 90 (b_pos 0 (m_wd n bf))))
  rw [hrs, List.length_map, List.length_range] at hrl3
  refine e_st (pc := 0) q21_0 rfl rfl ?_
  refine e_getf (pc := 1) q21_1 ho rfl ?_
  refine e_st (pc := 4) q21_4 rfl rfl ?_
  refine e_getf (pc := 5) q21_5 ho rfl ?_
  refine e_cst (v := 90) (len := 2) (pc := 8) q21_8 rfl rfl (by decide +kernel) ?_
  rw [show (n_v 90 : Value) = n_v ((90 : Nat) : Int) from rfl]
  refine e_callV (pc := 10) (mz := c_m59) (a := 28) (L0 := [some (.ref 28), some (.ref 1), some (n_v ((90 : Nat) : Int)), none]) (rest := []) q21_10 rfl rfl rfl rfl rfl rfl rfl hd rfl rfl ?_
  refine s59 hr hb (by omega) (Nat.le_refl 90) hbf hd hf hq (fun h1 f1 nf1 la1 c1 hd hf hq hl => ?_)
  have ho := ho.ch c1 (by simp)
  have hp := hp.ch c1 (by simp)
  have hm := hm.ch c1 (by simp)
  refine e_k0 (pc := 10) ?_
  refine e_st (pc := 13) q21_13 rfl rfl ?_
  refine e_getf (pc := 14) q21_14 ho rfl ?_
  refine e_callV (pc := 17) (mz := c_m35) (a := 25) (L0 := [some (.ref 25)]) (rest := []) q21_17 rfl rfl rfl rfl rfl rfl rfl hp rfl rfl ?_
  refine s35 hp hm hli (by omega) ?_
  refine e_k (pc := 17) ?_
  refine e_st (pc := 20) (L2 := [some (.ref 0), some (n_v (m_hd (b_rem 120 (m_u n bf)) : Int)), none]) q21_20 rfl rfl ?_
  refine e_st (pc := 21) q21_21 rfl rfl ?_
  refine e_getf (pc := 22) q21_22 ho rfl ?_
  refine e_callV (pc := 25) (mz := c_m63) (a := 28) (L0 := [some (.ref 28), none, none]) (rest := []) q21_25 rfl rfl rfl rfl rfl rfl rfl hd rfl rfl ?_
  refine s63 hd hf hl hbd hlen ?_
  refine e_k (pc := 25) ?_
  rw [← hrl3]
  refine e_st (pc := 28) q21_28 rfl rfl ?_
  refine e_cmp true (pc := 29) q21_29 ⟨by omega, by omega⟩ ⟨by omega, by omega⟩ (n_t_eq (by omega)) ?_
  refine e_cst (v := 0) (len := 1) (pc := 34) q21_34 rfl rfl rfl ?_
  refine e_st (pc := 35) (L2 := [some (.ref 0), some (n_v (m_hd (b_rem 120 (m_u n bf)) : Int)), some (n_v 0)]) q21_35 rfl rfl ?_
  exact s21L hn ho hp hm hli hd hf hl (K h1 f1 nf1 _ la1 c1 hd hf hq) (m_hd (b_rem 120 (m_u n bf))) 0 (by omega)
theorem s55L {a c b n : Nat} {rg : Value} {f : Nat → Int} (hr : c_ob h a 6 [.ref c, .ref b, n_v ↑n, rg]) (hc : c_ar h c 60 f) (hn : n ≤ 60) (hf : ∀ t, t < n → 0 ≤ f t ∧ f t ≤ 200) (K1 : (∀ t, t < n → f t = 1) → Q (.inl (some (n_v 1)), h)) (K0 : Q (.inl (some (n_v 0)), h)) : ∀ (m i : Nat), i + m = n → (∀ t, t < i → f t = 1) → c_Ev X 55 2 [some (.ref a), some (n_v ↑i)] [] h Q
  | 0, i, e, hi => by
    refine e_st (pc := 2) q55_2 rfl rfl ?_
    refine e_st (pc := 3) q55_3 rfl rfl ?_
    refine e_getf (pc := 4) q55_4 hr rfl ?_
    refine e_cmp true (pc := 7) q55_7 ⟨by omega, by omega⟩ ⟨by omega, by omega⟩ (n_t_ge (by omega)) ?_
    refine e_cst (v := 1) (len := 1) (pc := 28) q55_28 rfl rfl rfl ?_
    refine e_iret (pc := 29) q55_29 rfl rfl rfl (by decide +kernel) ?_
    exact K1 (fun t ht => hi t (by omega))
  | m + 1, i, e, hi => by
    have hfi := hf i (by omega)
    by_cases h1 : f i = 1
    · refine e_st (pc := 2) q55_2 rfl rfl ?_
      refine e_st (pc := 3) q55_3 rfl rfl ?_
      refine e_getf (pc := 4) q55_4 hr rfl ?_
      refine e_cmp false (pc := 7) q55_7 ⟨by omega, by omega⟩ ⟨by omega, by omega⟩ (n_f_ge (by omega)) ?_
      refine e_st (pc := 10) q55_10 rfl rfl ?_
      refine e_getf (pc := 11) q55_11 hr rfl ?_
      refine e_st (pc := 14) q55_14 rfl rfl ?_
      refine e_ald (pc := 15) (j := i) q55_15 hc (by omega) (by omega) (by omega) ?_
      refine e_cst (v := 1) (len := 1) (pc := 16) q55_16 rfl rfl rfl ?_
      refine e_cmp true (pc := 17) q55_17 ⟨by omega, by omega⟩ ⟨by omega, by omega⟩ (n_t_eq (by omega)) ?_
      refine e_inc (pc := 22) (L2 := [some (.ref a), some (n_v (↑i + 1))]) q55_22 rfl rfl ?_
      refine e_st (pc := 25) q55_25 rfl rfl ?_
      exact s55L hr hc hn hf K1 K0 m (i + 1) (by omega) (fun t ht => by
        by_cases e2 : t = i
        · rw [e2]; exact h1
        · exact hi t (by omega))
    · refine e_st (pc := 2) q55_2 rfl rfl ?_
      refine e_st (pc := 3) q55_3 rfl rfl ?_
      refine e_getf (pc := 4) q55_4 hr rfl ?_
      refine e_cmp false (pc := 7) q55_7 ⟨by omega, by omega⟩ ⟨by omega, by omega⟩ (n_f_ge (by omega)) ?_
      refine e_st (pc := 10) q55_10 rfl rfl ?_
      refine e_getf (pc := 11) q55_11 hr rfl ?_
      refine e_st (pc := 14) q55_14 rfl rfl ?_
      refine e_ald (pc := 15) (j := i) q55_15 hc (by omega) (by omega) (by omega) ?_
      refine e_cst (v := 1) (len := 1) (pc := 16) q55_16 rfl rfl rfl ?_
      refine e_cmp false (pc := 17) q55_17 ⟨by omega, by omega⟩ ⟨by omega, by omega⟩ (n_f_eq (by omega)) ?_
      refine e_cst (v := 0) (len := 1) (pc := 20) q55_20 rfl rfl rfl ?_
      refine e_iret (pc := 21) q55_21 rfl rfl rfl (by decide +kernel) ?_
      exact K0
theorem s55 {a c b n : Nat} {rg : Value} {f : Nat → Int} (hr : c_ob h a 6 [.ref c, .ref b, n_v ↑n, rg]) (hc : c_ar h c 60 f) (hn : n ≤ 60) (hf : ∀ t, t < n → 0 ≤ f t ∧ f t ≤ 200) (K1 : (∀ t, t < n → f t = 1) → Q (.inl (some (n_v 1)), h)) (K0 : Q (.inl (some (n_v 0)), h)) : c_Ev X 55 0 [some (.ref a), none] [] h Q := by
  refine e_cst (v := 0) (len := 1) (pc := 0) q55_0 rfl rfl rfl ?_
  refine e_st (pc := 1) (L2 := [some (.ref a), some (n_v 0)]) q55_1 rfl rfl ?_
  exact s55L hr hc hn hf K1 K0 n 0 (by omega) (fun t ht => by omega)
end Ms
