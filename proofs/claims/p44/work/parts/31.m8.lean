/-! The walk of the runs. -/
section Ms
variable {X : List Int32} {h : c_Hp} {Q : c_O × c_Hp → Prop}
theorem s61L {bl : Value} {ld fp cn : Nat} {nf : Nat → Int} (hcn : ld + cn ≤ 60) (hfp : fp ≤ 100000) (K : ∀ (h2 : c_Hp), c_ch h h2 [28, 30] → c_ob h2 28 7 [.ref 29, .ref 30, bl, n_v ((ld + cn : Nat) : Int)] → c_ar h2 30 60 (fun t => if ld ≤ t ∧ t < ld + cn then ((fp + (t - ld) : Nat) : Int) else nf t) → Q (.inl none, h2)) :
  ∀ (m g : Nat) (h1 : c_Hp) (f : Nat → Int), g + m = cn → c_ch h h1 [28, 30] → c_ob h1 28 7 [.ref 29, .ref 30, bl, n_v ((ld + g : Nat) : Int)] → c_ar h1 30 60 f → (∀ t, f t = if ld ≤ t ∧ t < ld + g then ((fp + (t - ld) : Nat) : Int) else nf t) →
  c_Ev X 61 2 [some (.ref 28), some (n_v ↑fp), some (n_v ↑cn), some (n_v ↑g)] [] h1 Q
  | 0, g, h1, f, e, hch, hd, hr, hf => by
    have e2 : g = cn := by omega
    subst e2
    refine e_st (pc := 2) q61_2 rfl rfl ?_
    refine e_st (pc := 3) q61_3 rfl rfl ?_
    refine e_cmp true (pc := 4) q61_4 ⟨by omega, by omega⟩ ⟨by omega, by omega⟩ (n_t_ge (by omega)) ?_
    refine e_ret (pc := 44) q61_44 rfl rfl rfl ?_
    have e3 : f = fun t => if ld ≤ t ∧ t < ld + g then ((fp + (t - ld) : Nat) : Int) else nf t := funext hf
    rw [e3] at hr
    exact K h1 hch hd hr
  | m + 1, g, h0, f, e, hch, hd, hr, hf => by
    refine e_st (pc := 2) q61_2 rfl rfl ?_
    refine e_st (pc := 3) q61_3 rfl rfl ?_
    refine e_cmp false (pc := 4) q61_4 ⟨by omega, by omega⟩ ⟨by omega, by omega⟩ (n_f_ge (by omega)) ?_
    refine e_st (pc := 7) q61_7 rfl rfl ?_
    refine e_getf (pc := 8) q61_8 hd rfl ?_
    refine e_cst (v := 60) (len := 2) (pc := 11) q61_11 rfl rfl (by decide +kernel) ?_
    refine e_cmp false (pc := 13) q61_13 ⟨by omega, by omega⟩ ⟨by omega, by omega⟩ (n_f_ge (by omega)) ?_
    refine e_st (pc := 16) q61_16 rfl rfl ?_
    refine e_getf (pc := 17) q61_17 hd rfl ?_
    refine e_st (pc := 20) q61_20 rfl rfl ?_
    refine e_getf (pc := 21) q61_21 hd rfl ?_
    refine e_st (pc := 24) q61_24 rfl rfl ?_
    refine e_st (pc := 25) q61_25 rfl rfl ?_
    refine e_add (pc := 26) q61_26 ?_
    refine e_ast (pc := 27) (j := ld + g) q61_27 hr (by omega) (by omega) (by omega) (fun h1 u1 => ?_)
    have hd := hd.up u1 (by omega)
    have hr : c_ar h1 30 60 (fun t => if t = ld + g then (↑fp + ↑g) else f t) := u1.2.1
    refine e_st (pc := 28) q61_28 rfl rfl ?_
    refine e_st (pc := 29) q61_29 rfl rfl ?_
    refine e_getf (pc := 30) q61_30 hd rfl ?_
    refine e_cst (v := 1) (len := 1) (pc := 33) q61_33 rfl rfl rfl ?_
    refine e_add (pc := 34) q61_34 ?_
    refine e_putf (pc := 35) (fs2 := [.ref 29, .ref 30, bl, n_v (((ld + g : Nat) : Int) + 1)]) q61_35 hd (c_okv_i _) (Nat.le_of_ble_eq_true rfl) rfl (fun h2 u2 => ?_)
    have hr := hr.up u2 (by omega)
    have hd : c_ob h2 28 7 [.ref 29, .ref 30, bl, n_v (((ld + g : Nat) : Int) + 1)] := u2.2.1
    refine e_inc (pc := 38) (L2 := [some (.ref 28), some (n_v ↑fp), some (n_v ↑cn), some (n_v (↑g + 1))]) q61_38 rfl rfl ?_
    refine e_st (pc := 41) q61_41 rfl rfl ?_
    refine s61L hcn hfp K m (g + 1) h2 _ (by omega) ((hch.up u1 (by simp)).up u2 (by simp)) hd hr (fun t => ?_)
    by_cases e2 : t = ld + g
    · rw [if_pos e2, if_pos (by omega)]
      omega
    · rw [if_neg e2, hf t]
      by_cases e3 : ld ≤ t ∧ t < ld + g
      · rw [if_pos e3, if_pos (by omega)]
      · rw [if_neg e3, if_neg (by omega)]
theorem s61 {bl : Value} {ld fp cn : Nat} {nf : Nat → Int} (hcn : ld + cn ≤ 60) (hfp : fp ≤ 100000) (hd : c_ob h 28 7 [.ref 29, .ref 30, bl, n_v (ld : Int)]) (hr : c_ar h 30 60 nf) (K : ∀ (h2 : c_Hp), c_ch h h2 [28, 30] → c_ob h2 28 7 [.ref 29, .ref 30, bl, n_v ((ld + cn : Nat) : Int)] → c_ar h2 30 60 (fun t => if ld ≤ t ∧ t < ld + cn then ((fp + (t - ld) : Nat) : Int) else nf t) → Q (.inl none, h2)) :
  c_Ev X 61 0 [some (.ref 28), some (n_v ↑fp), some (n_v ↑cn), none] [] h Q := by
  refine e_cst (v := 0) (len := 1) (pc := 0) q61_0 rfl rfl rfl ?_
  refine e_st (pc := 1) (L2 := [some (.ref 28), some (n_v ↑fp), some (n_v ↑cn), some (n_v 0)]) q61_1 rfl rfl ?_
  exact s61L hcn hfp K cn 0 h nf (by omega) (c_ch.rf h _) hd hr (fun t => by rw [if_neg (by omega)])
def m_rst (c : Nat) : List Nat → List Nat
  | [] => []
  | p :: r => b_H (c + 1) (p + 1) r
theorem s60C {ps : List Nat} {f nf : Nat → Int} {la : Value} (hn : ps.length ≤ 60) (hnf : m_li nf (b_G ps)) (hgl : (b_G ps).length = ps.length) (hd0 : c_ob h 28 7 [.ref 29, .ref 30, n_v (ps.length : Int), la]) (hr0 : c_ar h 30 60 nf)
    (K : ∀ (h2 : c_Hp) (f2 : Nat → Int), c_ch h h2 [29] → c_ar h2 29 60 f2 → m_li f2 (b_G ps) → Q (.inl none, h2)) : ∀ (m i : Nat) (h1 : c_Hp) (f : Nat → Int) (x2 x3 x4 : Option Value), i + m = ps.length → c_ch h h1 [29] → c_ar h1 29 60 f → (∀ t, t < i → f t = nf t) → c_Ev X 60 94 [some (.ref 28), some (n_v ↑i), x2, x3, x4] [] h1 Q
  | 0, i, h1, f, x2, x3, x4, e, hch, hf, hcp => by
    have hd := hd0.ch hch (by simp)
    have hr := hr0.ch hch (by simp)
    refine e_st (pc := 94) q60_94 rfl rfl ?_
    refine e_st (pc := 95) q60_95 rfl rfl ?_
    refine e_getf (pc := 96) q60_96 hd rfl ?_
    refine e_cmp true (pc := 99) q60_99 ⟨by omega, by omega⟩ ⟨by omega, by omega⟩ (n_t_ge (by omega)) ?_
    refine e_ret (pc := 120) q60_120 rfl rfl rfl ?_
    refine K h1 f hch hf (fun j x hx => ?_)
    have hj : j < (b_G ps).length := (List.getElem?_eq_some_iff.mp hx).1
    rw [hcp j (by omega)]
    exact hnf j x hx
  | m + 1, i, h0, f, x2, x3, x4, e, hch, hf, hcp => by
    have hd := hd0.ch hch (by simp)
    have hr := hr0.ch hch (by simp)
    refine e_st (pc := 94) q60_94 rfl rfl ?_
    refine e_st (pc := 95) q60_95 rfl rfl ?_
    refine e_getf (pc := 96) q60_96 hd rfl ?_
    refine e_cmp false (pc := 99) q60_99 ⟨by omega, by omega⟩ ⟨by omega, by omega⟩ (n_f_ge (by omega)) ?_
    refine e_st (pc := 102) q60_102 rfl rfl ?_
    refine e_getf (pc := 103) q60_103 hd rfl ?_
    refine e_st (pc := 106) q60_106 rfl rfl ?_
    refine e_st (pc := 107) q60_107 rfl rfl ?_
    refine e_getf (pc := 108) q60_108 hd rfl ?_
    refine e_st (pc := 111) q60_111 rfl rfl ?_
    refine e_ald (pc := 112) (j := i) q60_112 hr (by omega) (by omega) (by omega) ?_
    refine e_ast (pc := 113) (j := i) q60_113 hf (by omega) (by omega) (by omega) (fun h1 u1 => ?_)
    have hd := hd.up u1 (by omega)
    have hr := hr.up u1 (by omega)
    have hf : c_ar h1 29 60 (fun t => if t = i then (nf i) else f t) := u1.2.1
    refine e_inc (pc := 114) (L2 := [some (.ref 28), some (n_v (↑i + 1)), x2, x3, x4]) q60_114 rfl rfl ?_
    refine e_st (pc := 117) q60_117 rfl rfl ?_
    refine s60C (f := f) hn hnf hgl hd0 hr0 K m (i + 1) h1 _ _ _ _ (by omega) (hch.up u1 (by simp)) hf (fun t ht => ?_)
    by_cases e2 : t = i
    · rw [if_pos e2, e2]
    · rw [if_neg e2]
      exact hcp t (by omega)
theorem s60L {ps : List Nat} {f : Nat → Int} (hn : ps.length ≤ 60) (hp : ∀ y ∈ ps, y ≤ 50000) (hl : m_li f ps) (hf0 : c_ar h 29 60 f)
    (K : ∀ (h2 : c_Hp) (nf : Nat → Int) (la : Value), c_ch h h2 [28, 30] → c_ob h2 28 7 [.ref 29, .ref 30, n_v (ps.length : Int), la] → c_ar h2 30 60 nf → m_li nf (b_G ps) → (b_G ps).length = ps.length → ∀ x2 x3 x4 : Option Value, c_Ev X 60 92 [some (.ref 28), some (n_v (ps.length : Int)), x2, x3, x4] [] h2 Q) :
  ∀ (q : List Nat) (i c : Nat) (E : List Nat) (h1 : c_Hp) (nf : Nat → Int) (x2 x3 x4 : Option Value), i + q.length = ps.length → (∀ j, q[j]? = ps[i + j]?) → (∃ o w, q = b_pos o w) → E.length + c = i → (q = [] → c = 0) → b_G ps = E ++ m_rst c q → c_ch h h1 [28, 30] → c_ob h1 28 7 [.ref 29, .ref 30, n_v (ps.length : Int), n_v (E.length : Int)] → c_ar h1 30 60 nf → m_li nf E →
  c_Ev X 60 7 [some (.ref 28), some (n_v ↑i), x2, x3, x4] [] h1 Q
  | [], i, c, E, h1, nf, x2, x3, x4, e, hq, hw, hE, hc, hG, hch, hd, hr, hE2 => by
    simp only [List.length_nil, Nat.add_zero] at e
    refine e_st (pc := 7) q60_7 rfl rfl ?_
    refine e_st (pc := 8) q60_8 rfl rfl ?_
    refine e_getf (pc := 9) q60_9 hd rfl ?_
    refine e_cmp true (pc := 12) q60_12 ⟨by omega, by omega⟩ ⟨by omega, by omega⟩ (n_t_ge (by omega)) ?_
    have e0 := hc rfl
    subst e0
    rw [m_rst, List.append_nil] at hG
    rw [← hG] at hE2 hE
    subst e
    exact K h1 nf _ hch hd hr hE2 (by omega) x2 x3 x4
  | p :: q, i, c, E, h0, nf, x2, x3, x4, e, hq, hw, hE, hc, hG, hch, hd, hr, hE2 => by
    simp only [List.length_cons] at e
    have hf := hf0.ch hch (by simp)
    have hp0 : ps[i]? = some p := by rw [← Nat.add_zero i, ← hq 0]; rfl
    have hp1 := hl i p hp0
    have hp2 := hp p (List.mem_of_getElem? hp0)
    obtain ⟨o, w, hw⟩ := hw
    obtain ⟨ho, w1, hw1⟩ := b_pos_cons w o p q hw.symm
    have hE3 : ∀ (M : Nat), E.length + M ≤ 60 → m_li (fun t => if E.length ≤ t ∧ t < E.length + M then ((p + 1 + (t - E.length) : Nat) : Int) else nf t) (E ++ List.range' (p + 1) M) := by
      intro M hM j x hx
      by_cases h1 : j < E.length
      · rw [List.getElem?_append_left h1] at hx
        show (if _ then _ else nf j) = _
        rw [if_neg (by omega)]
        exact hE2 j x hx
      · rw [List.getElem?_append_right (by omega)] at hx
        obtain ⟨h2, h3⟩ := List.getElem?_eq_some_iff.mp hx
        rw [List.length_range'] at h2
        rw [List.getElem_range'] at h3
        show (if _ then _ else nf j) = _
        rw [if_pos (by omega)]
        omega
    cases q with
    | nil =>
      simp only [List.length_nil, Nat.add_zero] at e
      refine e_st (pc := 7) q60_7 rfl rfl ?_
      refine e_st (pc := 8) q60_8 rfl rfl ?_
      refine e_getf (pc := 9) q60_9 hd rfl ?_
      refine e_cmp false (pc := 12) q60_12 ⟨by omega, by omega⟩ ⟨by omega, by omega⟩ (n_f_ge (by omega)) ?_
      refine e_st (pc := 15) q60_15 rfl rfl ?_
      refine e_st (pc := 16) q60_16 rfl rfl ?_
      refine e_getf (pc := 17) q60_17 hd rfl ?_
      refine e_cst (v := 1) (len := 1) (pc := 20) q60_20 rfl rfl rfl ?_
      refine e_sub (pc := 21) q60_21 ?_
      refine e_cmp false (pc := 22) q60_22 ⟨by omega, by omega⟩ ⟨by omega, by omega⟩ (n_f_ne (by omega)) ?_
      refine e_cst (v := 1) (len := 1) (pc := 25) q60_25 rfl rfl rfl ?_
      refine e_st (pc := 26) q60_26 rfl rfl ?_
      refine e_st (pc := 30) (L2 := [some (.ref 28), some (n_v ↑i), some (n_v 1), x3, x4]) q60_30 rfl rfl ?_
      refine e_st (pc := 31) q60_31 rfl rfl ?_
      refine e_if false (pc := 32) q60_32 ⟨by omega, by omega⟩ (n_f_eq (by omega)) ?_
      refine e_cst (v := 60) (len := 2) (pc := 35) q60_35 rfl rfl (by decide +kernel) ?_
      refine e_st (pc := 37) q60_37 rfl rfl ?_
      refine e_st (pc := 57) (L2 := [some (.ref 28), some (n_v ↑i), some (n_v 1), some (n_v 60), x4]) q60_57 rfl rfl ?_
      refine e_st (pc := 58) q60_58 rfl rfl ?_
      refine e_cst (v := 1) (len := 1) (pc := 59) q60_59 rfl rfl rfl ?_
      refine e_add (pc := 60) q60_60 ?_
      refine e_st (pc := 61) q60_61 rfl rfl ?_
      refine e_getf (pc := 62) q60_62 hd rfl ?_
      refine e_sub (pc := 65) q60_65 ?_
      refine e_st (pc := 66) (L2 := [some (.ref 28), some (n_v ↑i), some (n_v 1), some (n_v 60), some (n_v ((↑i + 1) - (E.length : Int)))]) q60_66 rfl rfl ?_
      refine e_st (pc := 68) q60_68 rfl rfl ?_
      refine e_st (pc := 69) q60_69 rfl rfl ?_
      refine e_getf (pc := 70) q60_70 hd rfl ?_
      refine e_st (pc := 73) q60_73 rfl rfl ?_
      refine e_aldv (pc := 74) (j := i) (v := (p : Int)) q60_74 hf (by omega) (by omega) (by omega) hp1 ?_
      refine e_cst (v := 1) (len := 1) (pc := 75) q60_75 rfl rfl rfl ?_
      refine e_add (pc := 76) q60_76 ?_
      refine e_st (pc := 77) q60_77 rfl rfl ?_
      refine e_st (pc := 79) q60_79 rfl rfl ?_
      refine e_min (pc := 80) q60_80 ⟨by omega, by omega⟩ ⟨by omega, by omega⟩ (Nat.le_of_ble_eq_true rfl) ?_
      have e1 : min ((i : Int) + 1 - (E.length : Int)) 60 = ((c + 1 : Nat) : Int) := by omega
      have e2 : (p : Int) + 1 = ((p + 1 : Nat) : Int) := by omega
      rw [e1, e2]
      refine e_callV (pc := 83) (mz := c_m61) (a := 28) (L0 := [some (.ref 28), some (n_v ((p + 1 : Nat) : Int)), some (n_v ((c + 1 : Nat) : Int)), none]) q60_83 rfl rfl rfl rfl rfl rfl rfl hd rfl rfl ?_
      refine s61 (ld := E.length) (fp := p + 1) (cn := c + 1) (by omega) (by omega) hd hr (fun h1 c1 hd hr => ?_)
      refine e_k0 (pc := 83) ?_
      refine e_inc (pc := 86) (L2 := [some (.ref 28), some (n_v (↑i + 1)), some (n_v 1), some (n_v 60), some (n_v ((↑i + 1) - (E.length : Int)))]) q60_86 rfl rfl ?_
      refine e_st (pc := 89) q60_89 rfl rfl ?_
      refine s60L hn hp hl hf0 K [] (i + 1) 0 (E ++ List.range' (p + 1) (c + 1)) h1 _ _ _ _ (by simp; omega) (fun j => ?_) ⟨0, [], rfl⟩ (by simp; omega) (fun _ => rfl) ?_ (hch.tr c1) ?_ hr (hE3 _ (by omega))
      · rw [show i + 1 + j = i + (j + 1) by omega, ← hq (j + 1)]
        rfl
      · rw [hG]
        simp [m_rst, b_H]
      · rw [List.length_append, List.length_range']
        exact hd
    | cons p2 r =>
      have hw2 := hw1.symm
      obtain ⟨ho2, w2, hw3⟩ := b_pos_cons w1 (p + 1) p2 r hw2
      have hq0 : ps[i + 1]? = some p2 := by rw [← hq 1]; rfl
      have hq1 := hl (i + 1) p2 hq0
      have hq2 := hp p2 (List.mem_of_getElem? hq0)
      simp only [List.length_cons] at e
      obtain ⟨M, hM⟩ : ∃ M, M = min (c + 1) (p2 - (p + 1)) := ⟨_, rfl⟩
      refine e_st (pc := 7) q60_7 rfl rfl ?_
      refine e_st (pc := 8) q60_8 rfl rfl ?_
      refine e_getf (pc := 9) q60_9 hd rfl ?_
      refine e_cmp false (pc := 12) q60_12 ⟨by omega, by omega⟩ ⟨by omega, by omega⟩ (n_f_ge (by omega)) ?_
      refine e_st (pc := 15) q60_15 rfl rfl ?_
      refine e_st (pc := 16) q60_16 rfl rfl ?_
      refine e_getf (pc := 17) q60_17 hd rfl ?_
      refine e_cst (v := 1) (len := 1) (pc := 20) q60_20 rfl rfl rfl ?_
      refine e_sub (pc := 21) q60_21 ?_
      refine e_cmp true (pc := 22) q60_22 ⟨by omega, by omega⟩ ⟨by omega, by omega⟩ (n_t_ne (by omega)) ?_
      refine e_cst (v := 0) (len := 1) (pc := 29) q60_29 rfl rfl rfl ?_
      refine e_st (pc := 30) (L2 := [some (.ref 28), some (n_v ↑i), some (n_v 0), x3, x4]) q60_30 rfl rfl ?_
      refine e_st (pc := 31) q60_31 rfl rfl ?_
      refine e_if true (pc := 32) q60_32 ⟨by omega, by omega⟩ (n_t_eq (by omega)) ?_
      refine e_st (pc := 40) q60_40 rfl rfl ?_
      refine e_getf (pc := 41) q60_41 hd rfl ?_
      refine e_st (pc := 44) q60_44 rfl rfl ?_
      refine e_cst (v := 1) (len := 1) (pc := 45) q60_45 rfl rfl rfl ?_
      refine e_add (pc := 46) q60_46 ?_
      refine e_aldv (pc := 47) (j := i + 1) (v := (p2 : Int)) q60_47 hf (by omega) (by omega) (by omega) hq1 ?_
      refine e_st (pc := 48) q60_48 rfl rfl ?_
      refine e_getf (pc := 49) q60_49 hd rfl ?_
      refine e_st (pc := 52) q60_52 rfl rfl ?_
      refine e_aldv (pc := 53) (j := i) (v := (p : Int)) q60_53 hf (by omega) (by omega) (by omega) hp1 ?_
      refine e_sub (pc := 54) q60_54 ?_
      refine e_cst (v := 1) (len := 1) (pc := 55) q60_55 rfl rfl rfl ?_
      refine e_sub (pc := 56) q60_56 ?_
      refine e_st (pc := 57) (L2 := [some (.ref 28), some (n_v ↑i), some (n_v 0), some (n_v (((p2 : Int) - (p : Int)) - 1)), x4]) q60_57 rfl rfl ?_
      refine e_st (pc := 58) q60_58 rfl rfl ?_
      refine e_cst (v := 1) (len := 1) (pc := 59) q60_59 rfl rfl rfl ?_
      refine e_add (pc := 60) q60_60 ?_
      refine e_st (pc := 61) q60_61 rfl rfl ?_
      refine e_getf (pc := 62) q60_62 hd rfl ?_
      refine e_sub (pc := 65) q60_65 ?_
      refine e_st (pc := 66) (L2 := [some (.ref 28), some (n_v ↑i), some (n_v 0), some (n_v (((p2 : Int) - (p : Int)) - 1)), some (n_v ((↑i + 1) - (E.length : Int)))]) q60_66 rfl rfl ?_
      refine e_st (pc := 68) q60_68 rfl rfl ?_
      refine e_st (pc := 69) q60_69 rfl rfl ?_
      refine e_getf (pc := 70) q60_70 hd rfl ?_
      refine e_st (pc := 73) q60_73 rfl rfl ?_
      refine e_aldv (pc := 74) (j := i) (v := (p : Int)) q60_74 hf (by omega) (by omega) (by omega) hp1 ?_
      refine e_cst (v := 1) (len := 1) (pc := 75) q60_75 rfl rfl rfl ?_
      refine e_add (pc := 76) q60_76 ?_
      refine e_st (pc := 77) q60_77 rfl rfl ?_
      refine e_st (pc := 79) q60_79 rfl rfl ?_
      refine e_min (pc := 80) q60_80 ⟨by omega, by omega⟩ ⟨by omega, by omega⟩ (Nat.le_of_ble_eq_true rfl) ?_
      have e1 : min ((i : Int) + 1 - (E.length : Int)) ((p2 : Int) - (p : Int) - 1) = (M : Int) := by omega
      have e2 : (p : Int) + 1 = ((p + 1 : Nat) : Int) := by omega
      rw [e1, e2]
      refine e_callV (pc := 83) (mz := c_m61) (a := 28) (L0 := [some (.ref 28), some (n_v ((p + 1 : Nat) : Int)), some (n_v (M : Int)), none]) q60_83 rfl rfl rfl rfl rfl rfl rfl hd rfl rfl ?_
      refine s61 (ld := E.length) (fp := p + 1) (cn := M) (by omega) (by omega) hd hr (fun h1 c1 hd hr => ?_)
      refine e_k0 (pc := 83) ?_
      refine e_inc (pc := 86) (L2 := [some (.ref 28), some (n_v (↑i + 1)), some (n_v 0), some (n_v (((p2 : Int) - (p : Int)) - 1)), some (n_v ((↑i + 1) - (E.length : Int)))]) q60_86 rfl rfl ?_
      refine e_st (pc := 89) q60_89 rfl rfl ?_
      refine s60L hn hp hl hf0 K (p2 :: r) (i + 1) (c + 1 - M) (E ++ List.range' (p + 1) M) h1 _ _ _ _ (by simp only [List.length_cons]; omega) (fun j => ?_) ⟨_, w1, hw1⟩ (by rw [List.length_append, List.length_range']; omega) (fun e => by cases e) ?_ (hch.tr c1) ?_ hr (hE3 _ (by omega))
      · rw [show i + 1 + j = i + (j + 1) by omega, ← hq (j + 1)]
        rfl
      · rw [hG, m_rst, b_H, ← hM, List.append_assoc]
        rfl
      · rw [List.length_append, List.length_range']
        exact hd
theorem s60 {ps : List Nat} {f nf : Nat → Int} {la : Value} (hn : ps.length ≤ 60) (hp : ∀ y ∈ ps, y ≤ 50000) (hl : m_li f ps) (hf : c_ar h 29 60 f) (hw : ∃ w, ps = b_pos 0 w) (hr : c_ar h 30 60 nf) (hd : c_ob h 28 7 [.ref 29, .ref 30, n_v (ps.length : Int), la])
    (K : ∀ (h2 : c_Hp) (f2 nf2 : Nat → Int) (la2 : Value), c_ch h h2 [28, 29, 30] → c_ob h2 28 7 [.ref 29, .ref 30, n_v ((b_G ps).length : Int), la2] → c_ar h2 29 60 f2 → c_ar h2 30 60 nf2 → m_li f2 (b_G ps) → (b_G ps).length = ps.length → Q (.inl none, h2)) : c_Ev X 60 0 [some (.ref 28), none, none, none, none] [] h Q := by
  refine e_st (pc := 0) q60_0 rfl rfl ?_
  refine e_cst (v := 0) (len := 1) (pc := 1) q60_1 rfl rfl rfl ?_
  refine e_putf (pc := 2) (fs2 := [.ref 29, .ref 30, n_v (ps.length : Int), n_v 0]) q60_2 hd (c_okv_i _) (Nat.le_of_ble_eq_true rfl) rfl (fun h1 u1 => ?_)
  have hf := hf.up u1 (by omega)
  have hr := hr.up u1 (by omega)
  have hd : c_ob h1 28 7 [.ref 29, .ref 30, n_v (ps.length : Int), n_v 0] := u1.2.1
  refine e_cst (v := 0) (len := 1) (pc := 5) q60_5 rfl rfl rfl ?_
  refine e_st (pc := 6) (L2 := [some (.ref 28), some (n_v 0), none, none, none]) q60_6 rfl rfl ?_
  obtain ⟨w, hw⟩ := hw
  refine s60L (h := h1) hn hp hl hf (fun h2 nf2 la2 c2 hd2 hr2 hnf hgl x2 x3 x4 => ?_) ps 0 0 [] h1 nf _ _ _ (by omega) (fun j => by rw [Nat.zero_add]) ⟨0, w, hw⟩ rfl (fun _ => rfl) ?_ (c_ch.rf _ _) hd hr (fun j x hx => by simp at hx)
  · refine e_cst (v := 0) (len := 1) (pc := 92) q60_92 rfl rfl rfl ?_
    refine e_st (pc := 93) (L2 := [some (.ref 28), some (n_v 0), x2, x3, x4]) q60_93 rfl rfl ?_
    have hf2 := hf.ch c2 (by simp)
    refine s60C (f := f) hn hnf hgl hd2 hr2 (fun h3 f3 c3 hf3 hl3 => ?_) ps.length 0 h2 f _ _ _ (by omega) (c_ch.rf _ _) hf2 (fun t ht => by omega)
    have hd3 := hd2.ch c3 (by simp)
    rw [← hgl] at hd3
    exact K h3 f3 nf2 la2 ((((c_ch.rf h _).up u1 (by simp)).tr (c2.sub (by simp))).tr (c3.sub (by simp))) hd3 hf3 (hr2.ch c3 (by simp)) hl3 hgl
  · cases ps with
    | nil => rfl
    | cons p r =>
      unfold b_G
      rw [b_H]
      simp [m_rst]
end Ms
