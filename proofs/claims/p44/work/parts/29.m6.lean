/-! The carriers' counts are the sizes' sums. -/
def b_C (k : Nat) : Nat → List Bool → Nat
  | c, [] => c
  | c, true :: w => if c < k then b_C k (c + 1) w else b_C k c w
  | c, false :: w => b_C k (c - 1) w
theorem b_C_snoc (k : Nat) : ∀ (w : List Bool) (c : Nat) (x : Bool), b_C k c (w ++ [x]) = if x then (if b_C k c w < k then b_C k c w + 1 else b_C k c w) else b_C k c w - 1
  | [], c, false => rfl
  | [], c, true => rfl
  | true :: w, c, x => by
    rw [List.cons_append, b_C, b_C]
    by_cases h : c < k
    · rw [if_pos h, if_pos h, b_C_snoc k w]
    · rw [if_neg h, if_neg h, b_C_snoc k w]
  | false :: w, c, x => by rw [List.cons_append, b_C, b_C, b_C_snoc k w]
theorem b_E_snoc (k : Nat) : ∀ (w : List Bool) (c : Nat) (x : Bool), b_E k c (w ++ [x]) = b_E k c w + if x = true ∧ b_C k c w < k then 1 else 0
  | [], c, x => by cases x <;> simp [b_E, b_C]
  | true :: w, c, x => by
    rw [List.cons_append, b_E, b_E, b_C]
    by_cases h : c < k
    · rw [if_pos h, if_pos h, if_pos h, b_E_snoc k w]
      omega
    · rw [if_neg h, if_neg h, if_neg h, b_E_snoc k w]
  | false :: w, c, x => by rw [List.cons_append, b_E, b_E, b_C, b_E_snoc k w]
theorem m_wd_succ (n : Nat) (bf : Nat → Int) : m_wd (n + 1) bf = m_wd n bf ++ [decide (0 < bf n)] := by unfold m_wd; rw [List.range_succ, List.map_append]; rfl
theorem b_C_le (k : Nat) : ∀ (w : List Bool) (c : Nat), c ≤ k → b_C k c w ≤ k
  | [], c, h => h
  | true :: w, c, h => by
    rw [b_C]
    split
    · exact b_C_le k w _ (by omega)
    · exact b_C_le k w _ h
  | false :: w, c, h => by rw [b_C]; exact b_C_le k w _ (by omega)
theorem m_pk {k : Nat} {cf bf : Nat → Int} : ∀ (n : Nat), (∀ t, t < n → cf t = 1 ∧ (bf t = 0 ∨ bf t = 1)) →
    m_ld k 0 cf bf (fun t => t) n = (b_C k 0 (m_wd n bf) : Int) ∧ m_cnt n (fun t => decide (0 < bf t) && decide (m_lb k (m_ld k 0 cf bf (fun t => t) t) (cf t) (bf t) = 0)) = (b_E k 0 (m_wd n bf) : Int)
  | 0, _ => ⟨rfl, rfl⟩
  | n + 1, h => by
    obtain ⟨i1, i2⟩ := m_pk n (fun t ht => h t (by omega))
    obtain ⟨h1, h2⟩ := h n (by omega)
    have h3 := b_C_le k (m_wd n bf) 0 (by omega)
    rw [m_ld, m_cnt, i2, m_wd_succ, b_C_snoc, b_E_snoc, i1]
    generalize b_C k 0 (m_wd n bf) = c at h3 ⊢
    simp only [h1]
    rcases h2 with h2 | h2
    · simp only [h2, m_lb]
      refine ⟨?_, ?_⟩
      · simp
        omega
      · simp
    · simp only [h2, m_lb]
      by_cases e : c < k
      · refine ⟨?_, ?_⟩
        · simp [e]
          omega
        · have e2 : min (c : Int) (1 - 1) + max 0 ((c : Int) + 1 - k) = 0 := by omega
          simp [e]
          omega
      · refine ⟨?_, ?_⟩
        · simp [e]
          omega
        · have e2 : ¬ (min (c : Int) (1 - 1) + max 0 ((c : Int) + 1 - k) = 0) := by omega
          simp [e]
          omega
theorem m_hd_rem {u : List Bool} : m_hd (b_rem 120 u) = b_cnt u := by
  show m_hd (if b_cnt u = 0 then [] else b_cnt u :: b_rem 119 (b_red u)) = _
  split
  · rename_i h
    rw [h]
    rfl
  · rfl
/-- the balls picked up by a carrier of capacity k: the sizes' sum, each counted up to k -/
theorem m_energy {k n : Nat} {cf bf : Nat → Int} (hn : n ≤ 60) (h : ∀ t, t < n → cf t = 1 ∧ (bf t = 0 ∨ bf t = 1)) :
    m_cnt n (fun t => decide (0 < bf t) && decide (m_lb k (m_ld k 0 cf bf (fun t => t) t) (cf t) (bf t) = 0)) = ((((List.range (m_hd (b_rem 120 (m_u n bf)))).map (fun t => min (b_sz (b_rem 120 (m_u n bf)) t) k)).sum : Nat) : Int) := by
  have hl := m_u_len n bf
  rw [(m_pk n h).2, m_hd_rem, b_szsum 120 k (m_u n bf) (m_u_bal n bf) _ (Nat.le_refl _), ← b_E_sum 120 k (m_u n bf) (m_u_bal n bf) (by omega)]
  unfold m_u
  rw [b_E_app]
section Ms
variable {X : List Int32} {h : c_Hp} {Q : c_O × c_Hp → Prop}
def m_O : List Value := [.ref 1, .ref 4, .ref 23, .ref 25, .ref 28, .ref 31, .ref 34, .ref 37, .ref 39, .ref 41, .ref 52, .ref 55]
theorem s20L {n : Nat} {rg : Value} {cf bf rf : Nat → Int} (ho0 : c_ob h 0 10 m_O) (hr0 : c_ob h 1 6 [.ref 2, .ref 3, n_v ↑n, rg]) (hc0 : c_ar h 2 60 cf) (hb0 : c_ar h 3 60 bf) (hp0 : c_ob h 25 3 [.ref 26, .ref 27, n_v ((b_rem 120 (m_u n bf)).length : Int)]) (hm0 : c_ar h 27 60 rf) (hli : m_li rf (b_rem 120 (m_u n bf))) (hn : n ≤ 60) (hbf : ∀ t, t < n → cf t = 1 ∧ (bf t = 0 ∨ bf t = 1)) (K : ∀ (h2 : c_Hp) (lf2 : Nat → Int) (mo2 : Value), c_ch h h2 [23, 24] → c_ar h2 24 60 lf2 → c_ob h2 23 0 [.ref 24, mo2] → Q (.inl (some (n_v 1)), h2)) : ∀ (m i : Nat) (h1 : c_Hp) (lf : Nat → Int) (mo : Value), i + m = 100 → 1 ≤ i → c_ch h h1 [23, 24] → c_ar h1 24 60 lf → c_ob h1 23 0 [.ref 24, mo] → c_Ev X 20 2 [some (.ref 0), some (n_v ↑i)] [] h1 Q
  | 0, i, h1, lf, mo, e, e1, hch, hl, hd => by
    have ho := ho0.ch hch (by simp)
    have hr := hr0.ch hch (by simp)
    have hc := hc0.ch hch (by simp)
    have hb := hb0.ch hch (by simp)
    have hp := hp0.ch hch (by simp)
    have hm := hm0.ch hch (by simp)
    refine e_st (pc := 2) q20_2 rfl rfl ?_
    refine e_cst (v := 99) (len := 2) (pc := 3) q20_3 rfl rfl (by decide +kernel) ?_
    refine e_cmp true (pc := 5) q20_5 ⟨by omega, by omega⟩ ⟨by omega, by omega⟩ (n_t_gt (by omega)) ?_
    refine e_cst (v := 1) (len := 1) (pc := 39) q20_39 rfl rfl rfl ?_
    refine e_iret (pc := 40) q20_40 rfl rfl rfl (by decide +kernel) ?_
    exact K h1 lf mo hch hl hd
  | m + 1, i, h1, lf, mo, e, e1, hch, hl, hd => by
    have ho := ho0.ch hch (by simp)
    have hr := hr0.ch hch (by simp)
    have hc := hc0.ch hch (by simp)
    have hb := hb0.ch hch (by simp)
    have hp := hp0.ch hch (by simp)
    have hm := hm0.ch hch (by simp)
    have hu := m_u_len n bf
    have hrl := b_rem_len 120 (m_u n bf)
    have hrl2 := b_red_len (m_u n bf)
    have hhd : m_hd (b_rem 120 (m_u n bf)) = b_cnt (m_u n bf) := m_hd_rem
    refine e_st (pc := 2) q20_2 rfl rfl ?_
    refine e_cst (v := 99) (len := 2) (pc := 3) q20_3 rfl rfl (by decide +kernel) ?_
    refine e_cmp false (pc := 5) q20_5 ⟨by omega, by omega⟩ ⟨by omega, by omega⟩ (n_f_gt (by omega)) ?_
    refine e_st (pc := 8) q20_8 rfl rfl ?_
    refine e_getf (pc := 9) q20_9 ho rfl ?_
    refine e_st (pc := 12) q20_12 rfl rfl ?_
    refine e_getf (pc := 13) q20_13 ho rfl ?_
    refine e_st (pc := 16) q20_16 rfl rfl ?_
    refine e_callV (pc := 17) (mz := c_m27) (a := 23) (L0 := [some (.ref 23), some (.ref 1), some (n_v ↑i), none, none]) q20_17 rfl rfl rfl rfl rfl rfl rfl hd rfl rfl ?_
    refine s27 (li := (i : Int)) hr hc hb hl hd hn (fun t ht => by have := hbf t ht; omega) (by omega) (by decide) (fun h2 lf2 mo2 c2 hl hd => ?_)
    rw [m_energy hn hbf]
    have ho := ho.ch c2 (by simp)
    have hp := hp.ch c2 (by simp)
    have hm := hm.ch c2 (by simp)
    refine e_k (pc := 17) ?_
    refine e_st (pc := 20) q20_20 rfl rfl ?_
    refine e_getf (pc := 21) q20_21 ho rfl ?_
    refine e_st (pc := 24) q20_24 rfl rfl ?_
    refine e_callV (pc := 25) (mz := c_m37) (a := 25) (L0 := [some (.ref 25), some (n_v ↑i), none, none]) q20_25 rfl rfl rfl rfl rfl rfl rfl hp rfl rfl ?_
    refine s37 hp hm hli (by omega) (fun x hx => by rw [m_hd_rem]; exact b_rem_le 120 _ (m_u_bal n bf) x hx) (by omega) (by omega) ?_
    refine e_k (pc := 25) ?_
    refine e_st (pc := 28) (pc2 := 33) q20_28 rfl (by show some (if c_cmp _ _ _ then _ else _, _, _, _) = _; rw [show c_cmp .eq (Int32.ofInt ((((List.range (m_hd (b_rem 120 (m_u n bf)))).map (fun t => min (b_sz (b_rem 120 (m_u n bf)) t) i)).sum : Nat) : Int)) (Int32.ofInt ((((List.range (m_hd (b_rem 120 (m_u n bf)))).map (fun t => min (b_sz (b_rem 120 (m_u n bf)) t) i)).sum : Nat) : Int)) = true from decide_eq_true rfl]; rfl) ?_
    refine e_inc (pc := 33) (L2 := [some (.ref 0), some (n_v (↑i + 1))]) q20_33 rfl rfl ?_
    refine e_st (pc := 36) q20_36 rfl rfl ?_
    exact s20L ho0 hr0 hc0 hb0 hp0 hm0 hli hn hbf K m (i + 1) h2 lf2 _ (by omega) (by omega) (hch.tr c2) hl hd
theorem s20 {n : Nat} {rg : Value} {cf bf rf : Nat → Int} (ho0 : c_ob h 0 10 m_O) (hr0 : c_ob h 1 6 [.ref 2, .ref 3, n_v ↑n, rg]) (hc0 : c_ar h 2 60 cf) (hb0 : c_ar h 3 60 bf) (hp0 : c_ob h 25 3 [.ref 26, .ref 27, n_v ((b_rem 120 (m_u n bf)).length : Int)]) (hm0 : c_ar h 27 60 rf) (hli : m_li rf (b_rem 120 (m_u n bf))) (hn : n ≤ 60) (hbf : ∀ t, t < n → cf t = 1 ∧ (bf t = 0 ∨ bf t = 1)) (K : ∀ (h2 : c_Hp) (lf2 : Nat → Int) (mo2 : Value), c_ch h h2 [23, 24] → c_ar h2 24 60 lf2 → c_ob h2 23 0 [.ref 24, mo2] → Q (.inl (some (n_v 1)), h2)) {lf : Nat → Int} {mo : Value} (hl : c_ar h 24 60 lf) (hd : c_ob h 23 0 [.ref 24, mo]) : c_Ev X 20 0 [some (.ref 0), none] [] h Q := by
  refine e_cst (v := 1) (len := 1) (pc := 0) q20_0 rfl rfl rfl ?_
  refine e_st (pc := 1) (L2 := [some (.ref 0), some (n_v 1)]) q20_1 rfl rfl ?_
  exact s20L ho0 hr0 hc0 hb0 hp0 hm0 hli hn hbf K 99 1 h lf mo (by omega) (by omega) (c_ch.rf h _) hl hd
end Ms
