/-! Whether a carrier passes, and what it picks up. -/
section Ms
variable {X : List Int32} {h : c_Hp} {Q : c_O × c_Hp → Prop}
theorem s25f0 {a b c d l n : Nat} {li : Int} {mo : Value} {lf cf bf : Nat → Int} (hr : c_ob h a 6 [.ref c, .ref b, n_v ↑n, n_v 0]) (hc : c_ar h c 60 cf) (hb : c_ar h b 60 bf) (hl : c_ar h l 60 lf) (hd : c_ob h d 0 [.ref l, mo]) (hn : n ≤ 60) (hbf : ∀ t, t < n → 0 ≤ bf t ∧ bf t ≤ cf t ∧ cf t ≤ 4) (hli : 0 ≤ li ∧ li ≤ 100) (hne : a ≠ d ∧ a ≠ l ∧ c ≠ d ∧ c ≠ l ∧ b ≠ d ∧ b ≠ l ∧ d ≠ l) (K : ∀ (h2 : c_Hp) (lf2 : Nat → Int), c_ch h h2 [d, l] → c_ar h2 l 60 lf2 → c_ob h2 d 0 [.ref l, n_v (m_mx li 0 cf bf (fun t => t) n)] → (∀ g, g < n → lf2 (g) = m_lb li (m_ld li 0 cf bf (fun t => t) g) (cf (g)) (bf (g))) → Q (.inl (some (n_v (if m_ld li 0 cf bf (fun t => t) n = 0 then 1 else 0))), h2)) : c_Ev X 25 0 [some (.ref d), some (.ref a), some (n_v li), some (n_v 1), none] [] h Q := by
  have hr0 := hr
  have hc0 := hc
  have hb0 := hb
  have hs : (0 : Int) ≤ 0 ∧ 0 ≤ li := ⟨by omega, by omega⟩
  have hst := m_ld_b (n := n) (o := (fun t => t)) hs (fun t ht => ⟨(hbf (t) (by omega)).1, (hbf (t) (by omega)).2.1⟩) n (by omega)
  refine e_st (pc := 0) q25_0 rfl rfl ?_
  refine e_getf (pc := 1) q25_1 hr rfl ?_
  refine e_if true (pc := 4) q25_4 ⟨by omega, by omega⟩ (n_t_eq (by omega)) ?_
  refine e_cst (v := 0) (len := 1) (pc := 18) q25_18 rfl rfl rfl ?_
  refine e_st (pc := 19) (L2 := [some (.ref d), some (.ref a), some (n_v li), some (n_v 1), some (n_v 0)]) q25_19 rfl rfl ?_
  refine e_st (pc := 21) q25_21 rfl rfl ?_
  refine e_st (pc := 22) q25_22 rfl rfl ?_
  refine e_st (pc := 23) q25_23 rfl rfl ?_
  refine e_st (pc := 24) q25_24 rfl rfl ?_
  refine e_st (pc := 26) q25_26 rfl rfl ?_
  refine e_callV (pc := 27) (mz := c_m26) (a := d) (L0 := [some (.ref d), some (.ref a), some (n_v li), some (n_v 0), some (n_v 1), none, none, none]) q25_27 rfl rfl rfl rfl rfl rfl rfl hd rfl rfl ?_
  refine s26f hr hc hb hn hbf hs (by omega) hne hl hd (fun h1 lf1 h1c hl hd hlf => ?_)
  refine e_k (pc := 27) ?_
  have hr := hr.ch h1c (by simp; omega)
  have hc := hc.ch h1c (by simp; omega)
  have hb := hb.ch h1c (by simp; omega)
  refine e_st (pc := 30) q25_30 rfl rfl ?_
  by_cases hcc : m_ld li 0 cf bf (fun t => t) n = 0
  · refine e_cmp false (pc := 32) q25_32 ⟨by omega, by omega⟩ ⟨by omega, by omega⟩ (n_f_ne (by omega)) ?_
    refine e_cst (v := 1) (len := 1) (pc := 35) q25_35 rfl rfl rfl ?_
    refine e_st (pc := 36) q25_36 rfl rfl ?_
    refine e_iret (pc := 40) q25_40 rfl rfl rfl (by decide +kernel) ?_
    have K2 := K h1 lf1 h1c hl hd hlf
    rw [if_pos hcc] at K2
    exact K2
  · refine e_cmp true (pc := 32) q25_32 ⟨by omega, by omega⟩ ⟨by omega, by omega⟩ (n_t_ne (by omega)) ?_
    refine e_cst (v := 0) (len := 1) (pc := 39) q25_39 rfl rfl rfl ?_
    refine e_iret (pc := 40) q25_40 rfl rfl rfl (by decide +kernel) ?_
    have K2 := K h1 lf1 h1c hl hd hlf
    rw [if_neg hcc] at K2
    exact K2
theorem s25f1 {a b c d l n : Nat} {li : Int} {mo : Value} {lf cf bf : Nat → Int} (hr : c_ob h a 6 [.ref c, .ref b, n_v ↑n, n_v 1]) (hc : c_ar h c 60 cf) (hb : c_ar h b 60 bf) (hl : c_ar h l 60 lf) (hd : c_ob h d 0 [.ref l, mo]) (hn : n ≤ 60) (hbf : ∀ t, t < n → 0 ≤ bf t ∧ bf t ≤ cf t ∧ cf t ≤ 4) (hli : 0 ≤ li ∧ li ≤ 100) (hne : a ≠ d ∧ a ≠ l ∧ c ≠ d ∧ c ≠ l ∧ b ≠ d ∧ b ≠ l ∧ d ≠ l) (K : ∀ (h2 : c_Hp) (lf2 : Nat → Int), c_ch h h2 [d, l] → c_ar h2 l 60 lf2 → c_ob h2 d 0 [.ref l, n_v (m_mx li (m_ld li 0 cf bf (fun t => t) n) cf bf (fun t => t) n)] → (∀ g, g < n → lf2 (g) = m_lb li (m_ld li (m_ld li 0 cf bf (fun t => t) n) cf bf (fun t => t) g) (cf (g)) (bf (g))) → Q (.inl (some (n_v (if m_ld li (m_ld li 0 cf bf (fun t => t) n) cf bf (fun t => t) n = m_ld li 0 cf bf (fun t => t) n then 1 else 0))), h2)) : c_Ev X 25 0 [some (.ref d), some (.ref a), some (n_v li), some (n_v 1), none] [] h Q := by
  have hr0 := hr
  have hc0 := hc
  have hb0 := hb
  have hs : (0 : Int) ≤ 0 ∧ 0 ≤ li := ⟨by omega, by omega⟩
  have hst := m_ld_b (n := n) (o := (fun t => t)) hs (fun t ht => ⟨(hbf (t) (by omega)).1, (hbf (t) (by omega)).2.1⟩) n (by omega)
  refine e_st (pc := 0) q25_0 rfl rfl ?_
  refine e_getf (pc := 1) q25_1 hr rfl ?_
  refine e_if false (pc := 4) q25_4 ⟨by omega, by omega⟩ (n_f_eq (by omega)) ?_
  refine e_st (pc := 7) q25_7 rfl rfl ?_
  refine e_st (pc := 8) q25_8 rfl rfl ?_
  refine e_st (pc := 9) q25_9 rfl rfl ?_
  refine e_cst (v := 0) (len := 1) (pc := 10) q25_10 rfl rfl rfl ?_
  refine e_st (pc := 11) q25_11 rfl rfl ?_
  refine e_callV (pc := 12) (mz := c_m26) (a := d) (L0 := [some (.ref d), some (.ref a), some (n_v li), some (n_v 0), some (n_v 1), none, none, none]) q25_12 rfl rfl rfl rfl rfl rfl rfl hd rfl rfl ?_
  refine s26f hr hc hb hn hbf hs (by omega) hne hl hd (fun h1 lf1 h1c hl hd hlf1 => ?_)
  refine e_k (pc := 12) ?_
  have hr := hr.ch h1c (by simp; omega)
  have hc := hc.ch h1c (by simp; omega)
  have hb := hb.ch h1c (by simp; omega)
  refine e_st (pc := 15) q25_15 rfl rfl ?_
  refine e_st (pc := 19) (L2 := [some (.ref d), some (.ref a), some (n_v li), some (n_v 1), some (n_v (m_ld li 0 cf bf (fun t => t) n))]) q25_19 rfl rfl ?_
  refine e_st (pc := 21) q25_21 rfl rfl ?_
  refine e_st (pc := 22) q25_22 rfl rfl ?_
  refine e_st (pc := 23) q25_23 rfl rfl ?_
  refine e_st (pc := 24) q25_24 rfl rfl ?_
  refine e_st (pc := 26) q25_26 rfl rfl ?_
  have hst2 := m_ld_b (n := n) (o := (fun t => t)) hst (fun t ht => ⟨(hbf (t) (by omega)).1, (hbf (t) (by omega)).2.1⟩) n (by omega)
  refine e_callV (pc := 27) (mz := c_m26) (a := d) (L0 := [some (.ref d), some (.ref a), some (n_v li), some (n_v (m_ld li 0 cf bf (fun t => t) n)), some (n_v 1), none, none, none]) q25_27 rfl rfl rfl rfl rfl rfl rfl hd rfl rfl ?_
  refine s26f hr hc hb hn hbf hst (by omega) hne hl hd (fun h2 lf2 h2c hl hd hlf => ?_)
  refine e_k (pc := 27) ?_
  have hr := hr.ch h2c (by simp; omega)
  have hc := hc.ch h2c (by simp; omega)
  have hb := hb.ch h2c (by simp; omega)
  refine e_st (pc := 30) q25_30 rfl rfl ?_
  by_cases hcc : m_ld li (m_ld li 0 cf bf (fun t => t) n) cf bf (fun t => t) n = m_ld li 0 cf bf (fun t => t) n
  · refine e_cmp false (pc := 32) q25_32 ⟨by omega, by omega⟩ ⟨by omega, by omega⟩ (n_f_ne (by omega)) ?_
    refine e_cst (v := 1) (len := 1) (pc := 35) q25_35 rfl rfl rfl ?_
    refine e_st (pc := 36) q25_36 rfl rfl ?_
    refine e_iret (pc := 40) q25_40 rfl rfl rfl (by decide +kernel) ?_
    have K2 := K h2 lf2 (h1c.tr h2c) hl hd hlf
    rw [if_pos hcc] at K2
    exact K2
  · refine e_cmp true (pc := 32) q25_32 ⟨by omega, by omega⟩ ⟨by omega, by omega⟩ (n_t_ne (by omega)) ?_
    refine e_cst (v := 0) (len := 1) (pc := 39) q25_39 rfl rfl rfl ?_
    refine e_iret (pc := 40) q25_40 rfl rfl rfl (by decide +kernel) ?_
    have K2 := K h2 lf2 (h1c.tr h2c) hl hd hlf
    rw [if_neg hcc] at K2
    exact K2
theorem s25b0 {a b c d l n : Nat} {li : Int} {mo : Value} {lf cf bf : Nat → Int} (hr : c_ob h a 6 [.ref c, .ref b, n_v ↑n, n_v 0]) (hc : c_ar h c 60 cf) (hb : c_ar h b 60 bf) (hl : c_ar h l 60 lf) (hd : c_ob h d 0 [.ref l, mo]) (hn : n ≤ 60) (hbf : ∀ t, t < n → 0 ≤ bf t ∧ bf t ≤ cf t ∧ cf t ≤ 4) (hli : 0 ≤ li ∧ li ≤ 100) (hne : a ≠ d ∧ a ≠ l ∧ c ≠ d ∧ c ≠ l ∧ b ≠ d ∧ b ≠ l ∧ d ≠ l) (K : ∀ (h2 : c_Hp) (lf2 : Nat → Int), c_ch h h2 [d, l] → c_ar h2 l 60 lf2 → c_ob h2 d 0 [.ref l, n_v (m_mx li 0 cf bf (fun t => n - 1 - t) n)] → (∀ g, g < n → lf2 (n - 1 - g) = m_lb li (m_ld li 0 cf bf (fun t => n - 1 - t) g) (cf (n - 1 - g)) (bf (n - 1 - g))) → Q (.inl (some (n_v (if m_ld li 0 cf bf (fun t => n - 1 - t) n = 0 then 1 else 0))), h2)) : c_Ev X 25 0 [some (.ref d), some (.ref a), some (n_v li), some (n_v 0), none] [] h Q := by
  have hr0 := hr
  have hc0 := hc
  have hb0 := hb
  have hs : (0 : Int) ≤ 0 ∧ 0 ≤ li := ⟨by omega, by omega⟩
  have hst := m_ld_b (n := n) (o := (fun t => n - 1 - t)) hs (fun t ht => ⟨(hbf (n - 1 - t) (by omega)).1, (hbf (n - 1 - t) (by omega)).2.1⟩) n (by omega)
  refine e_st (pc := 0) q25_0 rfl rfl ?_
  refine e_getf (pc := 1) q25_1 hr rfl ?_
  refine e_if true (pc := 4) q25_4 ⟨by omega, by omega⟩ (n_t_eq (by omega)) ?_
  refine e_cst (v := 0) (len := 1) (pc := 18) q25_18 rfl rfl rfl ?_
  refine e_st (pc := 19) (L2 := [some (.ref d), some (.ref a), some (n_v li), some (n_v 0), some (n_v 0)]) q25_19 rfl rfl ?_
  refine e_st (pc := 21) q25_21 rfl rfl ?_
  refine e_st (pc := 22) q25_22 rfl rfl ?_
  refine e_st (pc := 23) q25_23 rfl rfl ?_
  refine e_st (pc := 24) q25_24 rfl rfl ?_
  refine e_st (pc := 26) q25_26 rfl rfl ?_
  refine e_callV (pc := 27) (mz := c_m26) (a := d) (L0 := [some (.ref d), some (.ref a), some (n_v li), some (n_v 0), some (n_v 0), none, none, none]) q25_27 rfl rfl rfl rfl rfl rfl rfl hd rfl rfl ?_
  refine s26b hr hc hb hn hbf hs (by omega) hne hl hd (fun h1 lf1 h1c hl hd hlf => ?_)
  refine e_k (pc := 27) ?_
  have hr := hr.ch h1c (by simp; omega)
  have hc := hc.ch h1c (by simp; omega)
  have hb := hb.ch h1c (by simp; omega)
  refine e_st (pc := 30) q25_30 rfl rfl ?_
  by_cases hcc : m_ld li 0 cf bf (fun t => n - 1 - t) n = 0
  · refine e_cmp false (pc := 32) q25_32 ⟨by omega, by omega⟩ ⟨by omega, by omega⟩ (n_f_ne (by omega)) ?_
    refine e_cst (v := 1) (len := 1) (pc := 35) q25_35 rfl rfl rfl ?_
    refine e_st (pc := 36) q25_36 rfl rfl ?_
    refine e_iret (pc := 40) q25_40 rfl rfl rfl (by decide +kernel) ?_
    have K2 := K h1 lf1 h1c hl hd hlf
    rw [if_pos hcc] at K2
    exact K2
  · refine e_cmp true (pc := 32) q25_32 ⟨by omega, by omega⟩ ⟨by omega, by omega⟩ (n_t_ne (by omega)) ?_
    refine e_cst (v := 0) (len := 1) (pc := 39) q25_39 rfl rfl rfl ?_
    refine e_iret (pc := 40) q25_40 rfl rfl rfl (by decide +kernel) ?_
    have K2 := K h1 lf1 h1c hl hd hlf
    rw [if_neg hcc] at K2
    exact K2
theorem s25b1 {a b c d l n : Nat} {li : Int} {mo : Value} {lf cf bf : Nat → Int} (hr : c_ob h a 6 [.ref c, .ref b, n_v ↑n, n_v 1]) (hc : c_ar h c 60 cf) (hb : c_ar h b 60 bf) (hl : c_ar h l 60 lf) (hd : c_ob h d 0 [.ref l, mo]) (hn : n ≤ 60) (hbf : ∀ t, t < n → 0 ≤ bf t ∧ bf t ≤ cf t ∧ cf t ≤ 4) (hli : 0 ≤ li ∧ li ≤ 100) (hne : a ≠ d ∧ a ≠ l ∧ c ≠ d ∧ c ≠ l ∧ b ≠ d ∧ b ≠ l ∧ d ≠ l) (K : ∀ (h2 : c_Hp) (lf2 : Nat → Int), c_ch h h2 [d, l] → c_ar h2 l 60 lf2 → c_ob h2 d 0 [.ref l, n_v (m_mx li (m_ld li 0 cf bf (fun t => n - 1 - t) n) cf bf (fun t => n - 1 - t) n)] → (∀ g, g < n → lf2 (n - 1 - g) = m_lb li (m_ld li (m_ld li 0 cf bf (fun t => n - 1 - t) n) cf bf (fun t => n - 1 - t) g) (cf (n - 1 - g)) (bf (n - 1 - g))) → Q (.inl (some (n_v (if m_ld li (m_ld li 0 cf bf (fun t => n - 1 - t) n) cf bf (fun t => n - 1 - t) n = m_ld li 0 cf bf (fun t => n - 1 - t) n then 1 else 0))), h2)) : c_Ev X 25 0 [some (.ref d), some (.ref a), some (n_v li), some (n_v 0), none] [] h Q := by
  have hr0 := hr
  have hc0 := hc
  have hb0 := hb
  have hs : (0 : Int) ≤ 0 ∧ 0 ≤ li := ⟨by omega, by omega⟩
  have hst := m_ld_b (n := n) (o := (fun t => n - 1 - t)) hs (fun t ht => ⟨(hbf (n - 1 - t) (by omega)).1, (hbf (n - 1 - t) (by omega)).2.1⟩) n (by omega)
  refine e_st (pc := 0) q25_0 rfl rfl ?_
  refine e_getf (pc := 1) q25_1 hr rfl ?_
  refine e_if false (pc := 4) q25_4 ⟨by omega, by omega⟩ (n_f_eq (by omega)) ?_
  refine e_st (pc := 7) q25_7 rfl rfl ?_
  refine e_st (pc := 8) q25_8 rfl rfl ?_
  refine e_st (pc := 9) q25_9 rfl rfl ?_
  refine e_cst (v := 0) (len := 1) (pc := 10) q25_10 rfl rfl rfl ?_
  refine e_st (pc := 11) q25_11 rfl rfl ?_
  refine e_callV (pc := 12) (mz := c_m26) (a := d) (L0 := [some (.ref d), some (.ref a), some (n_v li), some (n_v 0), some (n_v 0), none, none, none]) q25_12 rfl rfl rfl rfl rfl rfl rfl hd rfl rfl ?_
  refine s26b hr hc hb hn hbf hs (by omega) hne hl hd (fun h1 lf1 h1c hl hd hlf1 => ?_)
  refine e_k (pc := 12) ?_
  have hr := hr.ch h1c (by simp; omega)
  have hc := hc.ch h1c (by simp; omega)
  have hb := hb.ch h1c (by simp; omega)
  refine e_st (pc := 15) q25_15 rfl rfl ?_
  refine e_st (pc := 19) (L2 := [some (.ref d), some (.ref a), some (n_v li), some (n_v 0), some (n_v (m_ld li 0 cf bf (fun t => n - 1 - t) n))]) q25_19 rfl rfl ?_
  refine e_st (pc := 21) q25_21 rfl rfl ?_
  refine e_st (pc := 22) q25_22 rfl rfl ?_
  refine e_st (pc := 23) q25_23 rfl rfl ?_
  refine e_st (pc := 24) q25_24 rfl rfl ?_
  refine e_st (pc := 26) q25_26 rfl rfl ?_
  have hst2 := m_ld_b (n := n) (o := (fun t => n - 1 - t)) hst (fun t ht => ⟨(hbf (n - 1 - t) (by omega)).1, (hbf (n - 1 - t) (by omega)).2.1⟩) n (by omega)
  refine e_callV (pc := 27) (mz := c_m26) (a := d) (L0 := [some (.ref d), some (.ref a), some (n_v li), some (n_v (m_ld li 0 cf bf (fun t => n - 1 - t) n)), some (n_v 0), none, none, none]) q25_27 rfl rfl rfl rfl rfl rfl rfl hd rfl rfl ?_
  refine s26b hr hc hb hn hbf hst (by omega) hne hl hd (fun h2 lf2 h2c hl hd hlf => ?_)
  refine e_k (pc := 27) ?_
  have hr := hr.ch h2c (by simp; omega)
  have hc := hc.ch h2c (by simp; omega)
  have hb := hb.ch h2c (by simp; omega)
  refine e_st (pc := 30) q25_30 rfl rfl ?_
  by_cases hcc : m_ld li (m_ld li 0 cf bf (fun t => n - 1 - t) n) cf bf (fun t => n - 1 - t) n = m_ld li 0 cf bf (fun t => n - 1 - t) n
  · refine e_cmp false (pc := 32) q25_32 ⟨by omega, by omega⟩ ⟨by omega, by omega⟩ (n_f_ne (by omega)) ?_
    refine e_cst (v := 1) (len := 1) (pc := 35) q25_35 rfl rfl rfl ?_
    refine e_st (pc := 36) q25_36 rfl rfl ?_
    refine e_iret (pc := 40) q25_40 rfl rfl rfl (by decide +kernel) ?_
    have K2 := K h2 lf2 (h1c.tr h2c) hl hd hlf
    rw [if_pos hcc] at K2
    exact K2
  · refine e_cmp true (pc := 32) q25_32 ⟨by omega, by omega⟩ ⟨by omega, by omega⟩ (n_t_ne (by omega)) ?_
    refine e_cst (v := 0) (len := 1) (pc := 39) q25_39 rfl rfl rfl ?_
    refine e_iret (pc := 40) q25_40 rfl rfl rfl (by decide +kernel) ?_
    have K2 := K h2 lf2 (h1c.tr h2c) hl hd hlf
    rw [if_neg hcc] at K2
    exact K2
theorem s27L {a b c d l n : Nat} {rg : Value} {li : Int} {cf bf : Nat → Int} {mo : Value} {lf : Nat → Int} (hr : c_ob h a 6 [.ref c, .ref b, n_v ↑n, rg]) (hb : c_ar h b 60 bf) (hl : c_ar h l 60 lf) (hd : c_ob h d 0 [.ref l, mo]) (hn : n ≤ 60) (hbf : ∀ t, t < n → 0 ≤ bf t ∧ bf t ≤ cf t ∧ cf t ≤ 4) (hlf : ∀ t, t < n → lf t = m_lb li (m_ld li 0 cf bf (fun t => t) t) (cf t) (bf t) ∧ 0 ≤ lf t ∧ lf t ≤ 200) (K : Q (.inl (some (n_v (m_cnt n (fun t => decide (0 < bf t) && decide (m_lb li (m_ld li 0 cf bf (fun t => t) t) (cf t) (bf t) = 0))))), h)) : ∀ (m i : Nat), i + m = n → c_Ev X 27 14 [some (.ref d), some (.ref a), some (n_v li), some (n_v (m_cnt i (fun t => decide (0 < bf t) && decide (m_lb li (m_ld li 0 cf bf (fun t => t) t) (cf t) (bf t) = 0)))), some (n_v ↑i)] [] h Q
  | 0, i, e => by
    refine e_st (pc := 14) q27_14 rfl rfl ?_
    refine e_st (pc := 16) q27_16 rfl rfl ?_
    refine e_getf (pc := 17) q27_17 hr rfl ?_
    refine e_cmp true (pc := 20) q27_20 ⟨by omega, by omega⟩ ⟨by omega, by omega⟩ (n_t_ge (by omega)) ?_
    refine e_st (pc := 52) q27_52 rfl rfl ?_
    refine e_iret (pc := 53) q27_53 rfl rfl rfl rfl ?_
    rw [show i = n by omega]
    exact K
  | m + 1, i, e => by
    have b1 := hbf i (by omega)
    have b2 := hlf i (by omega)
    have ih := s27L hr hb hl hd hn hbf hlf K m (i + 1) (by omega)
    by_cases hc1 : 0 < bf i
    · refine e_st (pc := 14) q27_14 rfl rfl ?_
      refine e_st (pc := 16) q27_16 rfl rfl ?_
      refine e_getf (pc := 17) q27_17 hr rfl ?_
      refine e_cmp false (pc := 20) q27_20 ⟨by omega, by omega⟩ ⟨by omega, by omega⟩ (n_f_ge (by omega)) ?_
      refine e_st (pc := 23) q27_23 rfl rfl ?_
      refine e_getf (pc := 24) q27_24 hr rfl ?_
      refine e_st (pc := 27) q27_27 rfl rfl ?_
      refine e_ald (pc := 29) (j := i) q27_29 hb (by omega) (by omega) (by omega) ?_
      refine e_if false (pc := 30) q27_30 ⟨by omega, by omega⟩ (n_f_le (by omega)) ?_
      refine e_st (pc := 33) q27_33 rfl rfl ?_
      refine e_getf (pc := 34) q27_34 hd rfl ?_
      refine e_st (pc := 37) q27_37 rfl rfl ?_
      refine e_ald (pc := 39) (j := i) q27_39 hl (by omega) (by omega) (by omega) ?_
      by_cases hc2 : lf i = 0
      · refine e_if false (pc := 40) q27_40 ⟨by omega, by omega⟩ (n_f_ne (by omega)) ?_
        refine e_inc (pc := 43) (L2 := [some (.ref d), some (.ref a), some (n_v li), some (n_v ((m_cnt i (fun t => decide (0 < bf t) && decide (m_lb li (m_ld li 0 cf bf (fun t => t) t) (cf t) (bf t) = 0))) + 1)), some (n_v ↑i)]) q27_43 rfl rfl ?_
        refine e_inc (pc := 46) (L2 := [some (.ref d), some (.ref a), some (n_v li), some (n_v ((m_cnt i (fun t => decide (0 < bf t) && decide (m_lb li (m_ld li 0 cf bf (fun t => t) t) (cf t) (bf t) = 0))) + 1)), some (n_v (↑i + 1))]) q27_46 rfl rfl ?_
        refine e_st (pc := 49) q27_49 rfl rfl ?_
        rw [m_cnt_t (f := (fun t => decide (0 < bf t) && decide (m_lb li (m_ld li 0 cf bf (fun t => t) t) (cf t) (bf t) = 0))) (by rw [Bool.and_eq_true]; exact ⟨decide_eq_true hc1, decide_eq_true (by rw [← b2.1]; exact hc2)⟩)] at ih
        exact ih
      · refine e_if true (pc := 40) q27_40 ⟨by omega, by omega⟩ (n_t_ne (by omega)) ?_
        refine e_inc (pc := 46) (L2 := [some (.ref d), some (.ref a), some (n_v li), some (n_v (m_cnt i (fun t => decide (0 < bf t) && decide (m_lb li (m_ld li 0 cf bf (fun t => t) t) (cf t) (bf t) = 0)))), some (n_v (↑i + 1))]) q27_46 rfl rfl ?_
        refine e_st (pc := 49) q27_49 rfl rfl ?_
        rw [m_cnt_f (f := (fun t => decide (0 < bf t) && decide (m_lb li (m_ld li 0 cf bf (fun t => t) t) (cf t) (bf t) = 0))) (by rw [Bool.and_eq_false_iff]; exact Or.inr (decide_eq_false (by rw [← b2.1]; exact hc2)))] at ih
        exact ih
    · refine e_st (pc := 14) q27_14 rfl rfl ?_
      refine e_st (pc := 16) q27_16 rfl rfl ?_
      refine e_getf (pc := 17) q27_17 hr rfl ?_
      refine e_cmp false (pc := 20) q27_20 ⟨by omega, by omega⟩ ⟨by omega, by omega⟩ (n_f_ge (by omega)) ?_
      refine e_st (pc := 23) q27_23 rfl rfl ?_
      refine e_getf (pc := 24) q27_24 hr rfl ?_
      refine e_st (pc := 27) q27_27 rfl rfl ?_
      refine e_ald (pc := 29) (j := i) q27_29 hb (by omega) (by omega) (by omega) ?_
      refine e_if true (pc := 30) q27_30 ⟨by omega, by omega⟩ (n_t_le (by omega)) ?_
      refine e_inc (pc := 46) (L2 := [some (.ref d), some (.ref a), some (n_v li), some (n_v (m_cnt i (fun t => decide (0 < bf t) && decide (m_lb li (m_ld li 0 cf bf (fun t => t) t) (cf t) (bf t) = 0)))), some (n_v (↑i + 1))]) q27_46 rfl rfl ?_
      refine e_st (pc := 49) q27_49 rfl rfl ?_
      rw [m_cnt_f (f := (fun t => decide (0 < bf t) && decide (m_lb li (m_ld li 0 cf bf (fun t => t) t) (cf t) (bf t) = 0))) (by rw [Bool.and_eq_false_iff]; exact Or.inl (decide_eq_false hc1))] at ih
      exact ih
theorem s27 {a b c d l n : Nat} {rg : Value} {li : Int} {cf bf : Nat → Int} {mo : Value} {lf : Nat → Int} (hr : c_ob h a 6 [.ref c, .ref b, n_v ↑n, rg]) (hc : c_ar h c 60 cf) (hb : c_ar h b 60 bf) (hl : c_ar h l 60 lf) (hd : c_ob h d 0 [.ref l, mo]) (hn : n ≤ 60) (hbf : ∀ t, t < n → 0 ≤ bf t ∧ bf t ≤ cf t ∧ cf t ≤ 4) (hli : 0 ≤ li ∧ li ≤ 100) (hne : a ≠ d ∧ a ≠ l ∧ c ≠ d ∧ c ≠ l ∧ b ≠ d ∧ b ≠ l ∧ d ≠ l) (K : ∀ (h2 : c_Hp) (lf2 : Nat → Int) (mo2 : Int), c_ch h h2 [d, l] → c_ar h2 l 60 lf2 → c_ob h2 d 0 [.ref l, n_v mo2] → Q (.inl (some (n_v (m_cnt n (fun t => decide (0 < bf t) && decide (m_lb li (m_ld li 0 cf bf (fun t => t) t) (cf t) (bf t) = 0))))), h2)) : c_Ev X 27 0 [some (.ref d), some (.ref a), some (n_v li), none, none] [] h Q := by
  have hs : (0 : Int) ≤ 0 ∧ 0 ≤ li := ⟨by omega, by omega⟩
  refine e_st (pc := 0) q27_0 rfl rfl ?_
  refine e_st (pc := 1) q27_1 rfl rfl ?_
  refine e_st (pc := 2) q27_2 rfl rfl ?_
  refine e_cst (v := 0) (len := 1) (pc := 3) q27_3 rfl rfl rfl ?_
  refine e_cst (v := 1) (len := 1) (pc := 4) q27_4 rfl rfl rfl ?_
  refine e_callV (pc := 5) (mz := c_m26) (a := d) (L0 := [some (.ref d), some (.ref a), some (n_v li), some (n_v 0), some (n_v 1), none, none, none]) q27_5 rfl rfl rfl rfl rfl rfl rfl hd rfl rfl ?_
  refine s26f hr hc hb hn hbf hs (by omega) hne hl hd (fun h1 lf1 h1c hl hd hlf => ?_)
  refine e_k (pc := 5) ?_
  have hr := hr.ch h1c (by simp; omega)
  have hb := hb.ch h1c (by simp; omega)
  refine e_st (pc := 8) q27_8 rfl rfl ?_
  refine e_cst (v := 0) (len := 1) (pc := 9) q27_9 rfl rfl rfl ?_
  refine e_st (pc := 10) (L2 := [some (.ref d), some (.ref a), some (n_v li), some (n_v 0), none]) q27_10 rfl rfl ?_
  refine e_cst (v := 0) (len := 1) (pc := 11) q27_11 rfl rfl rfl ?_
  refine e_st (pc := 12) (L2 := [some (.ref d), some (.ref a), some (n_v li), some (n_v 0), some (n_v 0)]) q27_12 rfl rfl ?_
  refine s27L hr hb hl hd hn hbf (fun t ht => ⟨hlf t ht, ?_⟩) (K h1 lf1 _ h1c hl hd) n 0 (by omega)
  have b1 := hbf t ht
  have b2 := m_ld_b (n := n) (o := fun t => t) hs (fun t ht => ⟨(hbf t ht).1, (hbf t ht).2.1⟩) t (by omega)
  have b3 := hlf t ht
  unfold m_lb at b3
  omega
end Ms
