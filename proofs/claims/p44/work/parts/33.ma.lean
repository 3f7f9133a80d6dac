/-! Rows taken over, turned back, queues. -/
/-- at a lies a row of n rows, at the places g -/
def c_aa (h : c_Hp) (a n : Nat) (g : Nat → Nat) : Prop := h[a]? = some (some (.inr (2, (List.range n).map (fun t => Value.ref (g t)))))
theorem c_aa.up {h h2 : c_Hp} {b n a : Nat} {g : Nat → Nat} {c : c_Cell} (o : c_aa h b n g) (u : c_up h h2 a c) (hne : b ≠ a) : c_aa h2 b n g := by
  unfold c_aa
  rw [u.2.2.1 b hne]
  exact o
theorem c_aa.ch {h h2 : c_Hp} {W : List Nat} {b n : Nat} {g : Nat → Nat} (o : c_aa h b n g) (r : c_ch h h2 W) (hb : b ∉ W) : c_aa h2 b n g := by
  unfold c_aa
  rw [r.2.2 b hb]
  exact o
theorem e_aald {X : List Int32} {k pc : Nat} {L : c_Ls} {st : List Value} {h : c_Hp} {Q : c_O × c_Hp → Prop} {b n j : Nat} {e : Int} {g : Nat → Nat} {x y z} (hq : c_q k pc = some (.aaload, x, y, z)) (o : c_aa h b n g) (he : e = (j : Int)) (hj : j < n) (hn : n ≤ 100000) (K : c_Ev X k (pc + 1) L (.ref (g j) :: st) h Q) : c_Ev X k pc L (n_v e :: .ref b :: st) h Q := by
  subst he
  refine e_st hq rfl ?_ K
  show c_aald pc L (n_v (j : Int) :: .ref b :: st) h = _
  have hv : c_vs h b 2 = some ((List.range n).map (fun t => Value.ref (g t))) := by
    unfold c_vs
    rw [show h[b]? = _ from o]
    rfl
  unfold c_aald
  simp only [hv, List.length_map, List.length_range, n_ix hj hn, List.getElem?_map, List.getElem?_range hj, Option.map_some]
theorem c_okv_z {a : Int} (h : a = 0 ∨ a = 1) : c_okv .boolean (n_v a) = true := by
  rcases h with rfl | rfl <;> decide +kernel
section Ms
variable {X : List Int32} {h : c_Hp} {Q : c_O × c_Hp → Prop}
theorem s52L {a b c e n : Nat} {rg : Value} {f g : Nat → Int} (hr0 : c_ob h a 6 [.ref c, .ref b, n_v ↑n, rg]) (hg0 : c_ar h e 60 g) (hn : n ≤ 60) (hne : a ≠ c ∧ e ≠ c) (K : ∀ (h2 : c_Hp), c_ch h h2 [c] → c_ar h2 c 60 (fun t => if t < n then g t else f t) → Q (.inl none, h2)) : ∀ (m i : Nat) (h1 : c_Hp) (f1 : Nat → Int), i + m = n → c_ch h h1 [c] → c_ar h1 c 60 f1 → (∀ t, f1 t = if t < i then g t else f t) → c_Ev X 52 2 [some (.ref a), some (.ref e), some (n_v ↑i)] [] h1 Q
  | 0, i, h1, f1, e1, hch, hf, hx => by
    have hr := hr0.ch hch (by simp; omega)
    have hg := hg0.ch hch (by simp; omega)
    refine e_st (pc := 2) q52_2 rfl rfl ?_
    refine e_st (pc := 3) q52_3 rfl rfl ?_
    refine e_getf (pc := 4) q52_4 hr rfl ?_
    refine e_cmp true (pc := 7) q52_7 ⟨by omega, by omega⟩ ⟨by omega, by omega⟩ (n_t_ge (by omega)) ?_
    refine e_ret (pc := 31) q52_31 rfl rfl rfl ?_
    have e2 : i = n := by omega
    subst e2
    have e3 : f1 = fun t => if t < i then g t else f t := funext hx
    rw [e3] at hf
    exact K h1 hch hf
  | m + 1, i, h0, f1, e1, hch, hf, hx => by
    have hr := hr0.ch hch (by simp; omega)
    have hg := hg0.ch hch (by simp; omega)
    refine e_st (pc := 2) q52_2 rfl rfl ?_
    refine e_st (pc := 3) q52_3 rfl rfl ?_
    refine e_getf (pc := 4) q52_4 hr rfl ?_
    refine e_cmp false (pc := 7) q52_7 ⟨by omega, by omega⟩ ⟨by omega, by omega⟩ (n_f_ge (by omega)) ?_
    refine e_st (pc := 10) q52_10 rfl rfl ?_
    refine e_st (pc := 11) q52_11 rfl rfl ?_
    refine e_len (pc := 12) q52_12 hg ?_
    refine e_cmp false (pc := 13) q52_13 ⟨by omega, by omega⟩ ⟨by omega, by omega⟩ (n_f_ge (by omega)) ?_
    refine e_st (pc := 16) q52_16 rfl rfl ?_
    refine e_getf (pc := 17) q52_17 hr rfl ?_
    refine e_st (pc := 20) q52_20 rfl rfl ?_
    refine e_st (pc := 21) q52_21 rfl rfl ?_
    refine e_st (pc := 22) q52_22 rfl rfl ?_
    refine e_ald (pc := 23) (j := i) q52_23 hg (by omega) (by omega) (by omega) ?_
    refine e_ast (pc := 24) (j := i) q52_24 hf (by omega) (by omega) (by omega) (fun h1 u1 => ?_)
    have hr := hr.up u1 (by omega)
    have hg := hg.up u1 (by omega)
    have hf : c_ar h1 c 60 (fun t => if t = i then (g i) else f1 t) := u1.2.1
    refine e_inc (pc := 25) (L2 := [some (.ref a), some (.ref e), some (n_v (↑i + 1))]) q52_25 rfl rfl ?_
    refine e_st (pc := 28) q52_28 rfl rfl ?_
    exact s52L hr0 hg0 hn hne K m (i + 1) h1 _ (by omega) (hch.up u1 (by simp)) hf (fun t => by
      by_cases e2 : t = i
      · rw [if_pos e2, if_pos (by omega), e2]
      · rw [if_neg e2, hx t]
        by_cases e3 : t < i
        · rw [if_pos e3, if_pos (by omega)]
        · rw [if_neg e3, if_neg (by omega)])
theorem s52 {a b c e n : Nat} {rg : Value} {f g : Nat → Int} (hr0 : c_ob h a 6 [.ref c, .ref b, n_v ↑n, rg]) (hg0 : c_ar h e 60 g) (hn : n ≤ 60) (hne : a ≠ c ∧ e ≠ c) (K : ∀ (h2 : c_Hp), c_ch h h2 [c] → c_ar h2 c 60 (fun t => if t < n then g t else f t) → Q (.inl none, h2)) (hf : c_ar h c 60 f) : c_Ev X 52 0 [some (.ref a), some (.ref e), none] [] h Q := by
  refine e_cst (v := 0) (len := 1) (pc := 0) q52_0 rfl rfl rfl ?_
  refine e_st (pc := 1) (L2 := [some (.ref a), some (.ref e), some (n_v 0)]) q52_1 rfl rfl ?_
  exact s52L hr0 hg0 hn hne K n 0 h f (by omega) (c_ch.rf h _) hf (fun t => by rw [if_neg (by omega)])
theorem s53L {a b c e n : Nat} {rg : Value} {f g : Nat → Int} (hr0 : c_ob h a 6 [.ref c, .ref b, n_v ↑n, rg]) (hg0 : c_ar h e 60 g) (hn : n ≤ 60) (hne : a ≠ b ∧ e ≠ b) (K : ∀ (h2 : c_Hp), c_ch h h2 [b] → c_ar h2 b 60 (fun t => if t < n then g t else f t) → Q (.inl none, h2)) : ∀ (m i : Nat) (h1 : c_Hp) (f1 : Nat → Int), i + m = n → c_ch h h1 [b] → c_ar h1 b 60 f1 → (∀ t, f1 t = if t < i then g t else f t) → c_Ev X 53 2 [some (.ref a), some (.ref e), some (n_v ↑i)] [] h1 Q
  | 0, i, h1, f1, e1, hch, hf, hx => by
    have hr := hr0.ch hch (by simp; omega)
    have hg := hg0.ch hch (by simp; omega)
    refine e_st (pc := 2) q53_2 rfl rfl ?_
    refine e_st (pc := 3) q53_3 rfl rfl ?_
    refine e_getf (pc := 4) q53_4 hr rfl ?_
    refine e_cmp true (pc := 7) q53_7 ⟨by omega, by omega⟩ ⟨by omega, by omega⟩ (n_t_ge (by omega)) ?_
    refine e_ret (pc := 31) q53_31 rfl rfl rfl ?_
    have e2 : i = n := by omega
    subst e2
    have e3 : f1 = fun t => if t < i then g t else f t := funext hx
    rw [e3] at hf
    exact K h1 hch hf
  | m + 1, i, h0, f1, e1, hch, hf, hx => by
    have hr := hr0.ch hch (by simp; omega)
    have hg := hg0.ch hch (by simp; omega)
    refine e_st (pc := 2) q53_2 rfl rfl ?_
    refine e_st (pc := 3) q53_3 rfl rfl ?_
    refine e_getf (pc := 4) q53_4 hr rfl ?_
    refine e_cmp false (pc := 7) q53_7 ⟨by omega, by omega⟩ ⟨by omega, by omega⟩ (n_f_ge (by omega)) ?_
    refine e_st (pc := 10) q53_10 rfl rfl ?_
    refine e_st (pc := 11) q53_11 rfl rfl ?_
    refine e_len (pc := 12) q53_12 hg ?_
    refine e_cmp false (pc := 13) q53_13 ⟨by omega, by omega⟩ ⟨by omega, by omega⟩ (n_f_ge (by omega)) ?_
    refine e_st (pc := 16) q53_16 rfl rfl ?_
    refine e_getf (pc := 17) q53_17 hr rfl ?_
    refine e_st (pc := 20) q53_20 rfl rfl ?_
    refine e_st (pc := 21) q53_21 rfl rfl ?_
    refine e_st (pc := 22) q53_22 rfl rfl ?_
    refine e_ald (pc := 23) (j := i) q53_23 hg (by omega) (by omega) (by omega) ?_
    refine e_ast (pc := 24) (j := i) q53_24 hf (by omega) (by omega) (by omega) (fun h1 u1 => ?_)
    have hr := hr.up u1 (by omega)
    have hg := hg.up u1 (by omega)
    have hf : c_ar h1 b 60 (fun t => if t = i then (g i) else f1 t) := u1.2.1
    refine e_inc (pc := 25) (L2 := [some (.ref a), some (.ref e), some (n_v (↑i + 1))]) q53_25 rfl rfl ?_
    refine e_st (pc := 28) q53_28 rfl rfl ?_
    exact s53L hr0 hg0 hn hne K m (i + 1) h1 _ (by omega) (hch.up u1 (by simp)) hf (fun t => by
      by_cases e2 : t = i
      · rw [if_pos e2, if_pos (by omega), e2]
      · rw [if_neg e2, hx t]
        by_cases e3 : t < i
        · rw [if_pos e3, if_pos (by omega)]
        · rw [if_neg e3, if_neg (by omega)])
theorem s53 {a b c e n : Nat} {rg : Value} {f g : Nat → Int} (hr0 : c_ob h a 6 [.ref c, .ref b, n_v ↑n, rg]) (hg0 : c_ar h e 60 g) (hn : n ≤ 60) (hne : a ≠ b ∧ e ≠ b) (K : ∀ (h2 : c_Hp), c_ch h h2 [b] → c_ar h2 b 60 (fun t => if t < n then g t else f t) → Q (.inl none, h2)) (hf : c_ar h b 60 f) : c_Ev X 53 0 [some (.ref a), some (.ref e), none] [] h Q := by
  refine e_cst (v := 0) (len := 1) (pc := 0) q53_0 rfl rfl rfl ?_
  refine e_st (pc := 1) (L2 := [some (.ref a), some (.ref e), some (n_v 0)]) q53_1 rfl rfl ?_
  exact s53L hr0 hg0 hn hne K n 0 h f (by omega) (c_ch.rf h _) hf (fun t => by rw [if_neg (by omega)])
theorem s51 {n : Nat} {rg : Int} {n2 rg2 : Value} {cf bf cf2 bf2 : Nat → Int} (hr : c_ob h 1 6 [.ref 2, .ref 3, n_v ↑n, n_v rg]) (hc : c_ar h 2 60 cf) (hb : c_ar h 3 60 bf) (ht : c_ob h 52 6 [.ref 53, .ref 54, n2, rg2]) (hc2 : c_ar h 53 60 cf2) (hb2 : c_ar h 54 60 bf2) (hn : n ≤ 60) (hrg : rg = 0 ∨ rg = 1)
    (K : ∀ (h2 : c_Hp), c_ch h h2 [52, 53, 54] → c_ob h2 52 6 [.ref 53, .ref 54, n_v ↑n, n_v rg] → c_ar h2 53 60 (fun t => if t < n then cf t else cf2 t) → c_ar h2 54 60 (fun t => if t < n then bf t else bf2 t) → Q (.inl none, h2)) : c_Ev X 51 0 [some (.ref 52), some (.ref 1)] [] h Q := by
  refine e_st (pc := 0) q51_0 rfl rfl ?_
  refine e_st (pc := 1) q51_1 rfl rfl ?_
  refine e_getf (pc := 2) q51_2 hr rfl ?_
  refine e_putf (pc := 5) (fs2 := [.ref 53, .ref 54, n_v ↑n, rg2]) q51_5 ht (c_okv_i _) (Nat.le_of_ble_eq_true rfl) rfl (fun h1 u1 => ?_)
  have hr := hr.up u1 (by omega)
  have hc := hc.up u1 (by omega)
  have hb := hb.up u1 (by omega)
  have hc2 := hc2.up u1 (by omega)
  have hb2 := hb2.up u1 (by omega)
  have ht : c_ob h1 52 6 [.ref 53, .ref 54, n_v ↑n, rg2] := u1.2.1
  refine e_st (pc := 8) q51_8 rfl rfl ?_
  refine e_st (pc := 9) q51_9 rfl rfl ?_
  refine e_getf (pc := 10) q51_10 hr rfl ?_
  refine e_putf (pc := 13) (fs2 := [.ref 53, .ref 54, n_v ↑n, n_v rg]) q51_13 ht (c_okv_z hrg) (Nat.le_of_ble_eq_true rfl) rfl (fun h2 u2 => ?_)
  have hr := hr.up u2 (by omega)
  have hc := hc.up u2 (by omega)
  have hb := hb.up u2 (by omega)
  have hc2 := hc2.up u2 (by omega)
  have hb2 := hb2.up u2 (by omega)
  have ht : c_ob h2 52 6 [.ref 53, .ref 54, n_v ↑n, n_v rg] := u2.2.1
  refine e_st (pc := 16) q51_16 rfl rfl ?_
  refine e_st (pc := 17) q51_17 rfl rfl ?_
  refine e_getf (pc := 18) q51_18 hr rfl ?_
  refine e_callV (pc := 21) (mz := c_m52) (a := 52) (L0 := [some (.ref 52), some (.ref 2), none]) (rest := []) q51_21 rfl rfl rfl rfl rfl rfl rfl ht rfl rfl ?_
  refine s52 ht hc hn (by decide) (fun h3 c3 hc2 => ?_) hc2
  have hr := hr.ch c3 (by simp)
  have hb := hb.ch c3 (by simp)
  have ht := ht.ch c3 (by simp)
  have hb2 := hb2.ch c3 (by simp)
  refine e_k0 (pc := 21) ?_
  refine e_st (pc := 24) q51_24 rfl rfl ?_
  refine e_st (pc := 25) q51_25 rfl rfl ?_
  refine e_getf (pc := 26) q51_26 hr rfl ?_
  refine e_callV (pc := 29) (mz := c_m53) (a := 52) (L0 := [some (.ref 52), some (.ref 3), none]) (rest := []) q51_29 rfl rfl rfl rfl rfl rfl rfl ht rfl rfl ?_
  refine s53 ht hb hn (by decide) (fun h4 c4 hb2 => ?_) hb2
  have ht := ht.ch c4 (by simp)
  have hc2 := hc2.ch c4 (by simp)
  refine e_k0 (pc := 29) ?_
  refine e_ret (pc := 32) q51_32 rfl rfl rfl ?_
  exact K h4 (((((c_ch.rf h _).up u1 (by simp)).up u2 (by simp)).tr (c3.sub (by simp))).tr (c4.sub (by simp))) ht hc2 hb2
theorem s54L {n : Nat} {rg n2 rg2 : Value} {f g : Nat → Int} (hr : c_ob h 52 6 [.ref 53, .ref 54, n_v ↑n, rg]) (ht : c_ob h 1 6 [.ref 2, .ref 3, n2, rg2]) (hf : c_ar h 54 60 f) (hg : c_ar h 3 60 g) (hn : n ≤ 60) (he : ∀ t, t < n → f t = g t ∧ 0 ≤ g t ∧ g t ≤ 200) (K : Q (.inl (some (n_v 1)), h)) : ∀ (m i : Nat), i + m = n → c_Ev X 54 2 [some (.ref 52), some (.ref 1), some (n_v ↑i)] [] h Q
  | 0, i, e => by
    refine e_st (pc := 2) q54_2 rfl rfl ?_
    refine e_st (pc := 3) q54_3 rfl rfl ?_
    refine e_getf (pc := 4) q54_4 hr rfl ?_
    refine e_cmp true (pc := 7) q54_7 ⟨by omega, by omega⟩ ⟨by omega, by omega⟩ (n_t_ge (by omega)) ?_
    refine e_cst (v := 1) (len := 1) (pc := 33) q54_33 rfl rfl rfl ?_
    refine e_iret (pc := 34) q54_34 rfl rfl rfl (by decide +kernel) ?_
    exact K
  | m + 1, i, e => by
    have hei := he i (by omega)
    refine e_st (pc := 2) q54_2 rfl rfl ?_
    refine e_st (pc := 3) q54_3 rfl rfl ?_
    refine e_getf (pc := 4) q54_4 hr rfl ?_
    refine e_cmp false (pc := 7) q54_7 ⟨by omega, by omega⟩ ⟨by omega, by omega⟩ (n_f_ge (by omega)) ?_
    refine e_st (pc := 10) q54_10 rfl rfl ?_
    refine e_getf (pc := 11) q54_11 hr rfl ?_
    refine e_st (pc := 14) q54_14 rfl rfl ?_
    refine e_ald (pc := 15) (j := i) q54_15 hf (by omega) (by omega) (by omega) ?_
    refine e_st (pc := 16) q54_16 rfl rfl ?_
    refine e_getf (pc := 17) q54_17 ht rfl ?_
    refine e_st (pc := 20) q54_20 rfl rfl ?_
    refine e_ald (pc := 21) (j := i) q54_21 hg (by omega) (by omega) (by omega) ?_
    refine e_cmp true (pc := 22) q54_22 ⟨by omega, by omega⟩ ⟨by omega, by omega⟩ (n_t_eq (by omega)) ?_
    refine e_inc (pc := 27) (L2 := [some (.ref 52), some (.ref 1), some (n_v (↑i + 1))]) q54_27 rfl rfl ?_
    refine e_st (pc := 30) q54_30 rfl rfl ?_
    exact s54L hr ht hf hg hn he K m (i + 1) (by omega)
theorem s54 {n : Nat} {rg n2 rg2 : Value} {f g : Nat → Int} (hr : c_ob h 52 6 [.ref 53, .ref 54, n_v ↑n, rg]) (ht : c_ob h 1 6 [.ref 2, .ref 3, n2, rg2]) (hf : c_ar h 54 60 f) (hg : c_ar h 3 60 g) (hn : n ≤ 60) (he : ∀ t, t < n → f t = g t ∧ 0 ≤ g t ∧ g t ≤ 200) (K : Q (.inl (some (n_v 1)), h)) : c_Ev X 54 0 [some (.ref 52), some (.ref 1), none] [] h Q := by
  refine e_cst (v := 0) (len := 1) (pc := 0) q54_0 rfl rfl rfl ?_
  refine e_st (pc := 1) (L2 := [some (.ref 52), some (.ref 1), some (n_v 0)]) q54_1 rfl rfl ?_
  exact s54L hr ht hf hg hn he K n 0 (by omega)
theorem m_lb_b {li lo ca ba : Int} (h1 : 0 ≤ lo ∧ lo ≤ li) (h2 : 0 ≤ ba ∧ ba ≤ ca) : 0 ≤ m_lb li lo ca ba ∧ m_lb li lo ca ba ≤ ca := by
  unfold m_lb
  omega
theorem m_lb_inv {li lo ca ba : Int} (h1 : 0 ≤ lo ∧ lo ≤ li) (h2 : 0 ≤ ba ∧ ba ≤ ca) : m_lb li (lo + (ba - m_lb li lo ca ba)) ca (m_lb li lo ca ba) = ba := by
  unfold m_lb
  omega
/-- the way back over what a carrier left -/
theorem m_back {li : Int} {n : Nat} {cf cf2 bf lf : Nat → Int} (hli : 0 ≤ li) (hbf : ∀ t, t < n → 0 ≤ bf t ∧ bf t ≤ cf t) (hcf : ∀ t, t < n → cf2 t = cf t) (hlf : ∀ t, t < n → lf t = m_lb li (m_ld li 0 cf bf (fun t => t) t) (cf t) (bf t)) (h0 : m_ld li 0 cf bf (fun t => t) n = 0) :
    ∀ g, g ≤ n → m_ld li 0 cf2 lf (fun t => n - 1 - t) g = m_ld li 0 cf bf (fun t => t) (n - g)
  | 0, _ => by rw [Nat.sub_zero, h0]; rfl
  | g + 1, hg => by
    have ih := m_back hli hbf hcf hlf h0 g (by omega)
    have hb := m_ld_b (li := li) (st := 0) (cf := cf) (bf := bf) (o := fun t => t) (n := n) ⟨by omega, hli⟩ hbf (n - (g + 1)) (by omega)
    have h1 := hbf (n - (g + 1)) (by omega)
    have e1 : n - g = (n - (g + 1)) + 1 := by omega
    have e2 : n - 1 - g = n - (g + 1) := by omega
    rw [m_ld, ih, e1, m_ld]
    simp only [e2]
    rw [hcf _ (by omega), hlf _ (by omega), m_lb_inv hb h1]
    omega
theorem m_back_l {li : Int} {n : Nat} {cf cf2 bf lf : Nat → Int} (hli : 0 ≤ li) (hbf : ∀ t, t < n → 0 ≤ bf t ∧ bf t ≤ cf t) (hcf : ∀ t, t < n → cf2 t = cf t) (hlf : ∀ t, t < n → lf t = m_lb li (m_ld li 0 cf bf (fun t => t) t) (cf t) (bf t)) (h0 : m_ld li 0 cf bf (fun t => t) n = 0) (g : Nat) (hg : g < n) :
    m_lb li (m_ld li 0 cf2 lf (fun t => n - 1 - t) g) (cf2 (n - 1 - g)) (lf (n - 1 - g)) = bf (n - 1 - g) := by
  have hb := m_ld_b (li := li) (st := 0) (cf := cf) (bf := bf) (o := fun t => t) (n := n) ⟨by omega, hli⟩ hbf (n - 1 - g) (by omega)
  have h1 := hbf (n - 1 - g) (by omega)
  rw [m_back hli hbf hcf hlf h0 g (by omega), show n - g = (n - 1 - g) + 1 by omega, m_ld, hcf _ (by omega), hlf _ (by omega), m_lb_inv hb h1]
/-- the objects that are worked with -/
def m_SC (h : c_Hp) : Prop := (∃ mo, c_ob h 23 0 [.ref 24, mo]) ∧ (∃ lf, c_ar h 24 60 lf) ∧ (∃ k, c_ob h 25 3 [.ref 26, .ref 27, k]) ∧ (∃ f, c_ar h 26 120 f) ∧ (∃ f, c_ar h 27 60 f) ∧ (∃ bl la, c_ob h 28 7 [.ref 29, .ref 30, bl, la]) ∧ (∃ f, c_ar h 29 60 f) ∧ (∃ f, c_ar h 30 60 f) ∧ (∃ n r, c_ob h 52 6 [.ref 53, .ref 54, n, r]) ∧ (∃ f, c_ar h 53 60 f) ∧ (∃ f, c_ar h 54 60 f)
def m_W : List Nat := [23, 24, 25, 26, 27, 28, 29, 30, 52, 53, 54]
theorem s18 {n : Nat} {rg : Int} {cf bf : Nat → Int} (ho : c_ob h 0 10 m_O) (hr : c_ob h 1 6 [.ref 2, .ref 3, n_v ↑n, n_v rg]) (hc : c_ar h 2 60 cf) (hb : c_ar h 3 60 bf) (hn : n ≤ 60) (hrg : rg = 0 ∨ rg = 1) (hbf : ∀ t, t < n → 0 ≤ bf t ∧ bf t ≤ cf t ∧ cf t ≤ 4) (hS : m_SC h)
    (K : ∀ (h2 : c_Hp), c_ch h h2 m_W → m_SC h2 → Q (.inl (some (n_v 1)), h2)) : c_Ev X 18 0 [some (.ref 0)] [] h Q := by
  obtain ⟨⟨mo, s1⟩, ⟨lf, s2⟩, s3, s4, s5, s6, s7, s8, ⟨n2, r2, s9⟩, ⟨cf2, s10⟩, ⟨bf2, s11⟩⟩ := id hS
  rcases hrg with hrg | hrg
  · subst hrg
    refine e_st (pc := 0) q18_0 rfl rfl ?_
    refine e_getf (pc := 1) q18_1 ho rfl ?_
    refine e_getf (pc := 4) q18_4 hr rfl ?_
    refine e_if false (pc := 7) q18_7 ⟨by omega, by omega⟩ (n_f_ne (by omega)) ?_
    refine e_st (pc := 10) q18_10 rfl rfl ?_
    refine e_getf (pc := 11) q18_11 ho rfl ?_
    refine e_st (pc := 14) q18_14 rfl rfl ?_
    refine e_getf (pc := 15) q18_15 ho rfl ?_
    refine e_cst (v := 3) (len := 1) (pc := 18) q18_18 rfl rfl rfl ?_
    refine e_cst (v := 1) (len := 1) (pc := 19) q18_19 rfl rfl rfl ?_
    refine e_callV (pc := 20) (mz := c_m25) (a := 23) (L0 := [some (.ref 23), some (.ref 1), some (n_v 3), some (n_v 1), none]) (rest := []) q18_20 rfl rfl rfl rfl rfl rfl rfl s1 rfl rfl ?_
    refine s25f0 hr hc hb s2 s1 hn hbf (by omega) (by decide) (fun h1 lf1 c1 s2 s1 hlf => ?_)
    have ho := ho.ch c1 (by simp)
    have hr := hr.ch c1 (by simp)
    have hc := hc.ch c1 (by simp)
    have hb := hb.ch c1 (by simp)
    have s9 := s9.ch c1 (by simp)
    have s10 := s10.ch c1 (by simp)
    have s11 := s11.ch c1 (by simp)
    refine e_k (pc := 20) ?_
    by_cases h0 : m_ld 3 0 cf bf (fun t => t) n = 0
    · rw [if_pos h0]
      refine e_if true (pc := 23) q18_23 ⟨by omega, by omega⟩ (n_t_ne (by omega)) ?_
      refine e_st (pc := 28) q18_28 rfl rfl ?_
      refine e_getf (pc := 29) q18_29 ho rfl ?_
      refine e_st (pc := 32) q18_32 rfl rfl ?_
      refine e_getf (pc := 33) q18_33 ho rfl ?_
      refine e_callV (pc := 36) (mz := c_m51) (a := 52) (L0 := [some (.ref 52), some (.ref 1)]) (rest := []) q18_36 rfl rfl rfl rfl rfl rfl rfl s9 rfl rfl ?_
      refine s51 hr hc hb s9 s10 s11 hn (Or.inl rfl) (fun h2 c2 s9 s10 s11 => ?_)
      have ho := ho.ch c2 (by simp)
      have hr := hr.ch c2 (by simp)
      have hc := hc.ch c2 (by simp)
      have hb := hb.ch c2 (by simp)
      have s1 := s1.ch c2 (by simp)
      have s2 := s2.ch c2 (by simp)
      refine e_k0 (pc := 36) ?_
      refine e_st (pc := 39) q18_39 rfl rfl ?_
      refine e_getf (pc := 40) q18_40 ho rfl ?_
      refine e_st (pc := 43) q18_43 rfl rfl ?_
      refine e_getf (pc := 44) q18_44 ho rfl ?_
      refine e_getf (pc := 47) q18_47 s1 rfl ?_
      refine e_callV (pc := 50) (mz := c_m53) (a := 52) (L0 := [some (.ref 52), some (.ref 24), none]) (rest := []) q18_50 rfl rfl rfl rfl rfl rfl rfl s9 rfl rfl ?_
      refine s53 s9 s2 hn (by decide) (fun h3 c3 s11 => ?_) s11
      have ho := ho.ch c3 (by simp)
      have hr := hr.ch c3 (by simp)
      have hc := hc.ch c3 (by simp)
      have hb := hb.ch c3 (by simp)
      have s1 := s1.ch c3 (by simp)
      have s2 := s2.ch c3 (by simp)
      have s9 := s9.ch c3 (by simp)
      have s10 := s10.ch c3 (by simp)
      refine e_k0 (pc := 50) ?_
      refine e_st (pc := 53) q18_53 rfl rfl ?_
      refine e_getf (pc := 54) q18_54 ho rfl ?_
      refine e_st (pc := 57) q18_57 rfl rfl ?_
      refine e_getf (pc := 58) q18_58 ho rfl ?_
      refine e_cst (v := 3) (len := 1) (pc := 61) q18_61 rfl rfl rfl ?_
      refine e_cst (v := 0) (len := 1) (pc := 62) q18_62 rfl rfl rfl ?_
      have hb1 : ∀ t, t < n → 0 ≤ bf t ∧ bf t ≤ cf t := fun t ht => ⟨(hbf t ht).1, (hbf t ht).2.1⟩
      have hcx : ∀ t, t < n → (fun t => if t < n then cf t else cf2 t) t = cf t := fun t ht => if_pos ht
      have hlx : ∀ t, t < n → (fun t => if t < n then lf1 t else (if t < n then bf t else bf2 t)) t = m_lb 3 (m_ld 3 0 cf bf (fun t => t) t) (cf t) (bf t) := fun t ht => (if_pos ht).trans (hlf t ht)
      have hbk : ∀ t, t < n → 0 ≤ (fun t => if t < n then lf1 t else (if t < n then bf t else bf2 t)) t ∧ (fun t => if t < n then lf1 t else (if t < n then bf t else bf2 t)) t ≤ (fun t => if t < n then cf t else cf2 t) t ∧ (fun t => if t < n then cf t else cf2 t) t ≤ 4 := by
        intro t ht
        have g1 := m_ld_b (li := 3) (st := 0) (cf := cf) (bf := bf) (o := fun t => t) (n := n) ⟨by omega, by omega⟩ hb1 t (by omega)
        have g2 := m_lb_b g1 (hb1 t ht)
        rw [hlx t ht, hcx t ht]
        exact ⟨g2.1, g2.2, (hbf t ht).2.2⟩
      have hB := m_back (by omega) hb1 hcx hlx h0 n (Nat.le_refl n)
      rw [Nat.sub_self] at hB
      have hB2 := m_back_l (by omega) hb1 hcx hlx h0
      refine e_callV (pc := 63) (mz := c_m25) (a := 23) (L0 := [some (.ref 23), some (.ref 52), some (n_v 3), some (n_v 0), none]) (rest := []) q18_63 rfl rfl rfl rfl rfl rfl rfl s1 rfl rfl ?_
      refine s25b0 s9 s10 s11 s2 s1 hn hbk (by omega) (by decide) (fun h4 lf4 c4 s2 s1 hlf4 => ?_)
      rw [if_pos (show _ = (0 : Int) from hB)]
      have ho := ho.ch c4 (by simp)
      have hr := hr.ch c4 (by simp)
      have hc := hc.ch c4 (by simp)
      have hb := hb.ch c4 (by simp)
      have s9 := s9.ch c4 (by simp)
      have s10 := s10.ch c4 (by simp)
      have s11 := s11.ch c4 (by simp)
      refine e_k (pc := 63) ?_
      refine e_if true (pc := 66) q18_66 ⟨by omega, by omega⟩ (n_t_ne (by omega)) ?_
      refine e_st (pc := 71) q18_71 rfl rfl ?_
      refine e_getf (pc := 72) q18_72 ho rfl ?_
      refine e_st (pc := 75) q18_75 rfl rfl ?_
      refine e_getf (pc := 76) q18_76 ho rfl ?_
      refine e_getf (pc := 79) q18_79 s1 rfl ?_
      refine e_callV (pc := 82) (mz := c_m53) (a := 52) (L0 := [some (.ref 52), some (.ref 24), none]) (rest := []) q18_82 rfl rfl rfl rfl rfl rfl rfl s9 rfl rfl ?_
      refine s53 s9 s2 hn (by decide) (fun h5 c5 s11 => ?_) s11
      have ho := ho.ch c5 (by simp)
      have hr := hr.ch c5 (by simp)
      have hb := hb.ch c5 (by simp)
      have s1 := s1.ch c5 (by simp)
      have s2 := s2.ch c5 (by simp)
      have s9 := s9.ch c5 (by simp)
      have s10 := s10.ch c5 (by simp)
      refine e_k0 (pc := 82) ?_
      refine e_st (pc := 85) q18_85 rfl rfl ?_
      refine e_getf (pc := 86) q18_86 ho rfl ?_
      refine e_st (pc := 89) q18_89 rfl rfl ?_
      refine e_getf (pc := 90) q18_90 ho rfl ?_
      refine e_callV (pc := 93) (mz := c_m54) (a := 52) (L0 := [some (.ref 52), some (.ref 1), none]) (rest := []) q18_93 rfl rfl rfl rfl rfl rfl rfl s9 rfl rfl ?_
      refine s54 s9 hr s11 hb hn (fun t ht => ?_) ?_
      · have e1 := hlf4 (n - 1 - t) (by omega)
        rw [hB2 (n - 1 - t) (by omega), show n - 1 - (n - 1 - t) = t by omega] at e1
        have e2 := hbf t ht
        exact ⟨(if_pos ht).trans e1, by omega, by omega⟩
      refine e_k (pc := 93) ?_
      refine e_iret (pc := 96) q18_96 rfl rfl rfl (by decide +kernel) ?_
      have hW : c_ch h h5 m_W := ((((c1.sub (by simp [m_W])).tr (c2.sub (by simp [m_W]))).tr (c3.sub (by simp [m_W]))).tr (c4.sub (by simp [m_W]))).tr (c5.sub (by simp [m_W]))
      have hx : ∀ q, q = 25 ∨ q = 26 ∨ q = 27 ∨ q = 28 ∨ q = 29 ∨ q = 30 → h5[q]? = h[q]? := fun q hq => by
        rw [c5.2.2 q (by simp; omega), c4.2.2 q (by simp; omega), c3.2.2 q (by simp; omega), c2.2.2 q (by simp; omega), c1.2.2 q (by simp; omega)]
      refine K h5 hW ⟨⟨_, s1⟩, ⟨_, s2⟩, ?_, ?_, ?_, ?_, ?_, ?_, ⟨_, _, s9⟩, ⟨_, s10⟩, ⟨_, s11⟩⟩
      · unfold c_ob; rw [hx 25 (by omega)]; exact s3
      · unfold c_ar; rw [hx 26 (by omega)]; exact s4
      · unfold c_ar; rw [hx 27 (by omega)]; exact s5
      · unfold c_ob; rw [hx 28 (by omega)]; exact s6
      · unfold c_ar; rw [hx 29 (by omega)]; exact s7
      · unfold c_ar; rw [hx 30 (by omega)]; exact s8
    · rw [if_neg h0]
      refine e_if false (pc := 23) q18_23 ⟨by omega, by omega⟩ (n_f_ne (by omega)) ?_
      refine e_cst (v := 1) (len := 1) (pc := 26) q18_26 rfl rfl rfl ?_
      refine e_iret (pc := 27) q18_27 rfl rfl rfl (by decide +kernel) ?_
      have hx : ∀ q, q = 25 ∨ q = 26 ∨ q = 27 ∨ q = 28 ∨ q = 29 ∨ q = 30 → h1[q]? = h[q]? := fun q hq => c1.2.2 q (by simp; omega)
      refine K h1 (c1.sub (by simp [m_W])) ⟨⟨_, s1⟩, ⟨_, s2⟩, ?_, ?_, ?_, ?_, ?_, ?_, ⟨_, _, s9⟩, ⟨_, s10⟩, ⟨_, s11⟩⟩
      · unfold c_ob; rw [hx 25 (by omega)]; exact s3
      · unfold c_ar; rw [hx 26 (by omega)]; exact s4
      · unfold c_ar; rw [hx 27 (by omega)]; exact s5
      · unfold c_ob; rw [hx 28 (by omega)]; exact s6
      · unfold c_ar; rw [hx 29 (by omega)]; exact s7
      · unfold c_ar; rw [hx 30 (by omega)]; exact s8
  · subst hrg
    refine e_st (pc := 0) q18_0 rfl rfl ?_
    refine e_getf (pc := 1) q18_1 ho rfl ?_
    refine e_getf (pc := 4) q18_4 hr rfl ?_
    refine e_if true (pc := 7) q18_7 ⟨by omega, by omega⟩ (n_t_ne (by omega)) ?_
    refine e_cst (v := 1) (len := 1) (pc := 26) q18_26 rfl rfl rfl ?_
    refine e_iret (pc := 27) q18_27 rfl rfl rfl (by decide +kernel) ?_
    exact K h (c_ch.rf h _) hS
end Ms
