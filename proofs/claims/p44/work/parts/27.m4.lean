/-! The rounds of pairs. -/
theorem e_mul {X : List Int32} {k pc : Nat} {L : c_Ls} {st : List Value} {h : c_Hp} {Q : c_O × c_Hp → Prop} {a b : Int} {x y z} (hq : c_q k pc = some (.imul, x, y, z)) (K : c_Ev X k (pc + 1) L (n_v (a * b) :: st) h Q) : c_Ev X k pc L (n_v b :: n_v a :: st) h Q := e_st hq rfl (by show some (pc + 1, L, Value.int (Int32.ofInt a * Int32.ofInt b) :: st, h) = _; rw [n_mul]) K
def m_bt (x : Bool) : Int := if x then 1 else 0
/-- from i on f has the word w -/
def m_at (f : Nat → Int) (i : Nat) (w : List Bool) : Prop := ∀ (j : Nat) (x : Bool), w[j]? = some x → f (i + j) = m_bt x
theorem m_at.hd {f : Nat → Int} {i : Nat} {x : Bool} {w : List Bool} (h : m_at f i (x :: w)) : f i = m_bt x := h 0 x rfl
theorem m_at.tl {f : Nat → Int} {i : Nat} {x : Bool} {w : List Bool} (h : m_at f i (x :: w)) : m_at f (i + 1) w := fun j y hy => by
  have := h (j + 1) y hy
  rwa [show i + (j + 1) = i + 1 + j by omega] at this
theorem m_at.cons {f : Nat → Int} {i : Nat} {x : Bool} {w : List Bool} (h1 : f i = m_bt x) (h2 : m_at f (i + 1) w) : m_at f i (x :: w) := fun j y hy => by
  cases j with
  | zero =>
    cases hy
    exact h1
  | succ j =>
    have := h2 j y hy
    rwa [show i + 1 + j = i + (j + 1) by omega] at this
theorem m_at.eq {f f2 : Nat → Int} {i : Nat} {w : List Bool} (h : m_at f i w) (e : ∀ t, i ≤ t → f2 t = f t) : m_at f2 i w := fun j y hy => by rw [e (i + j) (by omega)]; exact h j y hy
def m_wd (n : Nat) (bf : Nat → Int) : List Bool := (List.range n).map (fun t => decide (0 < bf t))
def m_u (n : Nat) (bf : Nat → Int) : List Bool := m_wd n bf ++ List.replicate ((m_wd n bf).filter id).length false
theorem m_wd_len (n : Nat) (bf : Nat → Int) : (m_wd n bf).length = n := by simp [m_wd]
theorem m_wd_sum {bf : Nat → Int} : ∀ (n : Nat), (∀ t, t < n → bf t = 0 ∨ bf t = 1) → m_sum n bf = (((m_wd n bf).filter id).length : Int)
  | 0, _ => rfl
  | n + 1, h => by
    have ih := m_wd_sum n (fun t ht => h t (by omega))
    have e : m_wd (n + 1) bf = m_wd n bf ++ [decide (0 < bf n)] := by unfold m_wd; rw [List.range_succ, List.map_append]; rfl
    rw [m_sum, ih, e, List.filter_append, List.length_append]
    rcases h n (by omega) with h1 | h1 <;> simp [h1]
theorem m_u_len (n : Nat) (bf : Nat → Int) : (m_u n bf).length ≤ 2 * n ∧ (m_u n bf).length = n + ((m_wd n bf).filter id).length := by
  have := List.length_filter_le id (m_wd n bf)
  unfold m_u
  rw [List.length_append, List.length_replicate, m_wd_len] at *
  omega
theorem m_u_bal (n : Nat) (bf : Nat → Int) : b_L 0 (m_u n bf) = 0 := b_bal _ _ (Nat.le_refl _)
section Ms
variable {X : List Int32} {h : c_Hp} {Q : c_O × c_Hp → Prop}
theorem s33L {d s r len : Nat} {k : Value} (hd0 : c_ob h d 3 [.ref s, .ref r, k]) (hlen : len ≤ 120) (hne : d ≠ s) : ∀ (m : Nat) (w : List Bool) (i e : Nat) (p : Int) (h1 : c_Hp) (f : Nat → Int) (x5 : Option Value), w.length ≤ m → i + w.length = len → e ≤ i → m_at f i w → c_ch h h1 [s] → c_ar h1 s 120 f →
  (∀ (h2 : c_Hp) (f2 : Nat → Int), c_ch h h2 [s] → c_ar h2 s 120 f2 → (∀ t, t < e → f2 t = f t) → m_at f2 e (b_red w) → Q (.inl (some (n_v (p + (b_cnt w : Int)))), h2)) → c_Ev X 33 7 [some (.ref d), some (n_v ↑len), some (n_v p), some (n_v ↑e), some (n_v ↑i), x5] [] h1 Q
  | m, [], i, e, p, h1, f, x5, hm, hi, he, hw, hch, hs, K => by
    have hd := hd0.ch hch (by simp; omega)
    simp only [List.length_nil] at hi
    refine e_st (pc := 7) q33_7 rfl rfl ?_
    refine e_st (pc := 9) q33_9 rfl rfl ?_
    refine e_cmp true (pc := 10) q33_10 ⟨by omega, by omega⟩ ⟨by omega, by omega⟩ (n_t_ge (by omega)) ?_
    refine e_st (pc := 109) q33_109 rfl rfl ?_
    refine e_iret (pc := 110) q33_110 rfl rfl rfl rfl ?_
    have K2 := K h1 f hch hs (fun _ _ => rfl) (fun j y hy => by simp [b_red] at hy)
    simp only [b_cnt] at K2
    rw [show p + ((0 : Nat) : Int) = p by omega] at K2
    exact K2
  | m + 1, [x], i, e, p, h0, f, x5, hm, hi, he, hw, hch, hs, K => by
    have hd := hd0.ch hch (by simp; omega)
    simp only [List.length_cons, List.length_nil] at hi
    refine e_st (pc := 7) q33_7 rfl rfl ?_
    refine e_st (pc := 9) q33_9 rfl rfl ?_
    refine e_cmp false (pc := 10) q33_10 ⟨by omega, by omega⟩ ⟨by omega, by omega⟩ (n_f_ge (by omega)) ?_
    refine e_st (pc := 13) q33_13 rfl rfl ?_
    refine e_st (pc := 15) q33_15 rfl rfl ?_
    refine e_getf (pc := 16) q33_16 hd rfl ?_
    refine e_len (pc := 19) q33_19 hs ?_
    refine e_cmp false (pc := 20) q33_20 ⟨by omega, by omega⟩ ⟨by omega, by omega⟩ (n_f_ge (by omega)) ?_
    refine e_st (pc := 23) q33_23 rfl rfl ?_
    refine e_cst (v := 1) (len := 1) (pc := 25) q33_25 rfl rfl rfl ?_
    refine e_add (pc := 26) q33_26 ?_
    refine e_st (pc := 27) q33_27 rfl rfl ?_
    refine e_cmp true (pc := 28) q33_28 ⟨by omega, by omega⟩ ⟨by omega, by omega⟩ (n_t_ge (by omega)) ?_
    refine e_cst (v := 0) (len := 1) (pc := 47) q33_47 rfl rfl rfl ?_
    refine e_st (pc := 48) (L2 := [some (.ref d), some (n_v ↑len), some (n_v p), some (n_v ↑e), some (n_v ↑i), some (n_v 0)]) q33_48 rfl rfl ?_
    refine e_st (pc := 50) q33_50 rfl rfl ?_
    refine e_if true (pc := 52) q33_52 ⟨by omega, by omega⟩ (n_t_eq (by omega)) ?_
    refine e_st (pc := 87) q33_87 rfl rfl ?_
    refine e_getf (pc := 88) q33_88 hd rfl ?_
    refine e_st (pc := 91) q33_91 rfl rfl ?_
    refine e_st (pc := 92) q33_92 rfl rfl ?_
    refine e_getf (pc := 93) q33_93 hd rfl ?_
    refine e_st (pc := 96) q33_96 rfl rfl ?_
    refine e_aldv (pc := 98) (j := i) (v := m_bt x) q33_98 hs (by omega) (by omega) (by omega) hw.hd ?_
    refine e_ast (pc := 99) (j := e) q33_99 hs (by omega) (by omega) (by omega) (fun h1 u1 => ?_)
    have hd := hd.up u1 (by omega)
    have hs : c_ar h1 s 120 (fun t => if t = e then (m_bt x) else f t) := u1.2.1
    refine e_inc (pc := 100) (L2 := [some (.ref d), some (n_v ↑len), some (n_v p), some (n_v (↑e + 1)), some (n_v ↑i), some (n_v 0)]) q33_100 rfl rfl ?_
    refine e_inc (pc := 103) (L2 := [some (.ref d), some (n_v ↑len), some (n_v p), some (n_v (↑e + 1)), some (n_v (↑i + 1)), some (n_v 0)]) q33_103 rfl rfl ?_
    refine e_st (pc := 106) q33_106 rfl rfl ?_
    exact s33L hd0 hlen hne m [] (i + 1) (e + 1) p h1 (fun t => if t = e then m_bt x else f t) _ (by simp) (by simp only [List.length_nil]; omega) (by omega) (fun j y hy => by simp at hy) (hch.up u1 (by simp)) hs (fun h2 f2 c2 a2 e2 w2 => by
      have K2 := K h2 f2 c2 a2 (fun t ht => by rw [e2 t (by omega)]; exact if_neg (by omega)) (by
        rw [b_red]
        exact m_at.cons (by rw [e2 e (by omega)]; exact if_pos rfl) w2)
      simp only [b_cnt] at K2
      exact K2)
  | m + 1, true :: false :: t, i, e, p, h1, f, x5, hm, hi, he, hw, hch, hs, K => by
    have hd := hd0.ch hch (by simp; omega)
    have hi2 := hi
    simp only [List.length_cons] at hi2
    have hv0 := hw.hd
    have hv1 := hw.tl.hd
    refine e_st (pc := 7) q33_7 rfl rfl ?_
    refine e_st (pc := 9) q33_9 rfl rfl ?_
    refine e_cmp false (pc := 10) q33_10 ⟨by omega, by omega⟩ ⟨by omega, by omega⟩ (n_f_ge (by omega)) ?_
    refine e_st (pc := 13) q33_13 rfl rfl ?_
    refine e_st (pc := 15) q33_15 rfl rfl ?_
    refine e_getf (pc := 16) q33_16 hd rfl ?_
    refine e_len (pc := 19) q33_19 hs ?_
    refine e_cmp false (pc := 20) q33_20 ⟨by omega, by omega⟩ ⟨by omega, by omega⟩ (n_f_ge (by omega)) ?_
    refine e_st (pc := 23) q33_23 rfl rfl ?_
    refine e_cst (v := 1) (len := 1) (pc := 25) q33_25 rfl rfl rfl ?_
    refine e_add (pc := 26) q33_26 ?_
    refine e_st (pc := 27) q33_27 rfl rfl ?_
    refine e_cmp false (pc := 28) q33_28 ⟨by omega, by omega⟩ ⟨by omega, by omega⟩ (n_f_ge (by omega)) ?_
    refine e_st (pc := 31) q33_31 rfl rfl ?_
    refine e_cst (v := 1) (len := 1) (pc := 33) q33_33 rfl rfl rfl ?_
    refine e_add (pc := 34) q33_34 ?_
    refine e_st (pc := 35) q33_35 rfl rfl ?_
    refine e_getf (pc := 36) q33_36 hd rfl ?_
    refine e_len (pc := 39) q33_39 hs ?_
    refine e_cmp false (pc := 40) q33_40 ⟨by omega, by omega⟩ ⟨by omega, by omega⟩ (n_f_ge (by omega)) ?_
    refine e_cst (v := 1) (len := 1) (pc := 43) q33_43 rfl rfl rfl ?_
    refine e_st (pc := 44) q33_44 rfl rfl ?_
    refine e_st (pc := 48) (L2 := [some (.ref d), some (n_v ↑len), some (n_v p), some (n_v ↑e), some (n_v ↑i), some (n_v 1)]) q33_48 rfl rfl ?_
    refine e_st (pc := 50) q33_50 rfl rfl ?_
    refine e_if false (pc := 52) q33_52 ⟨by omega, by omega⟩ (n_f_eq (by omega)) ?_
    refine e_st (pc := 55) q33_55 rfl rfl ?_
    refine e_getf (pc := 56) q33_56 hd rfl ?_
    refine e_st (pc := 59) q33_59 rfl rfl ?_
    refine e_aldv (pc := 61) (j := i) (v := 1) q33_61 hs (by omega) (by omega) (by omega) hv0 ?_
    refine e_cst (v := 1) (len := 1) (pc := 62) q33_62 rfl rfl rfl ?_
    refine e_cmp false (pc := 63) q33_63 ⟨by omega, by omega⟩ ⟨by omega, by omega⟩ (n_f_ne (by omega)) ?_
    refine e_st (pc := 66) q33_66 rfl rfl ?_
    refine e_getf (pc := 67) q33_67 hd rfl ?_
    refine e_st (pc := 70) q33_70 rfl rfl ?_
    refine e_cst (v := 1) (len := 1) (pc := 72) q33_72 rfl rfl rfl ?_
    refine e_add (pc := 73) q33_73 ?_
    refine e_aldv (pc := 74) (j := i + 1) (v := 0) q33_74 hs (by omega) (by omega) (by omega) hv1 ?_
    refine e_if false (pc := 75) q33_75 ⟨by omega, by omega⟩ (n_f_ne (by omega)) ?_
    refine e_inc (pc := 78) (L2 := [some (.ref d), some (n_v ↑len), some (n_v (p + 1)), some (n_v ↑e), some (n_v ↑i), some (n_v 1)]) q33_78 rfl rfl ?_
    refine e_inc (pc := 81) (L2 := [some (.ref d), some (n_v ↑len), some (n_v (p + 1)), some (n_v ↑e), some (n_v (↑i + 2)), some (n_v 1)]) q33_81 rfl rfl ?_
    refine e_st (pc := 84) q33_84 rfl rfl ?_
    refine e_st (pc := 106) q33_106 rfl rfl ?_
    exact s33L hd0 hlen hne m t (i + 2) e (p + 1) h1 f _ (by simp only [List.length_cons] at hm; omega) (by omega) (by omega) hw.tl.tl hch hs (fun h2 f2 c2 a2 e2 w2 => by
      have K2 := K h2 f2 c2 a2 e2 (by rw [b_red]; exact w2)
      simp only [b_cnt] at K2
      rw [show p + 1 + (b_cnt t : Int) = p + ((b_cnt t + 1 : Nat) : Int) by omega]
      exact K2)
  | m + 1, false :: y :: t, i, e, p, h0, f, x5, hm, hi, he, hw, hch, hs, K => by
    have hd := hd0.ch hch (by simp; omega)
    have hi2 := hi
    simp only [List.length_cons] at hi2
    have hv0 := hw.hd
    have hv1 := hw.tl.hd
    refine e_st (pc := 7) q33_7 rfl rfl ?_
    refine e_st (pc := 9) q33_9 rfl rfl ?_
    refine e_cmp false (pc := 10) q33_10 ⟨by omega, by omega⟩ ⟨by omega, by omega⟩ (n_f_ge (by omega)) ?_
    refine e_st (pc := 13) q33_13 rfl rfl ?_
    refine e_st (pc := 15) q33_15 rfl rfl ?_
    refine e_getf (pc := 16) q33_16 hd rfl ?_
    refine e_len (pc := 19) q33_19 hs ?_
    refine e_cmp false (pc := 20) q33_20 ⟨by omega, by omega⟩ ⟨by omega, by omega⟩ (n_f_ge (by omega)) ?_
    refine e_st (pc := 23) q33_23 rfl rfl ?_
    refine e_cst (v := 1) (len := 1) (pc := 25) q33_25 rfl rfl rfl ?_
    refine e_add (pc := 26) q33_26 ?_
    refine e_st (pc := 27) q33_27 rfl rfl ?_
    refine e_cmp false (pc := 28) q33_28 ⟨by omega, by omega⟩ ⟨by omega, by omega⟩ (n_f_ge (by omega)) ?_
    refine e_st (pc := 31) q33_31 rfl rfl ?_
    refine e_cst (v := 1) (len := 1) (pc := 33) q33_33 rfl rfl rfl ?_
    refine e_add (pc := 34) q33_34 ?_
    refine e_st (pc := 35) q33_35 rfl rfl ?_
    refine e_getf (pc := 36) q33_36 hd rfl ?_
    refine e_len (pc := 39) q33_39 hs ?_
    refine e_cmp false (pc := 40) q33_40 ⟨by omega, by omega⟩ ⟨by omega, by omega⟩ (n_f_ge (by omega)) ?_
    refine e_cst (v := 1) (len := 1) (pc := 43) q33_43 rfl rfl rfl ?_
    refine e_st (pc := 44) q33_44 rfl rfl ?_
    refine e_st (pc := 48) (L2 := [some (.ref d), some (n_v ↑len), some (n_v p), some (n_v ↑e), some (n_v ↑i), some (n_v 1)]) q33_48 rfl rfl ?_
    refine e_st (pc := 50) q33_50 rfl rfl ?_
    refine e_if false (pc := 52) q33_52 ⟨by omega, by omega⟩ (n_f_eq (by omega)) ?_
    refine e_st (pc := 55) q33_55 rfl rfl ?_
    refine e_getf (pc := 56) q33_56 hd rfl ?_
    refine e_st (pc := 59) q33_59 rfl rfl ?_
    refine e_aldv (pc := 61) (j := i) (v := 0) q33_61 hs (by omega) (by omega) (by omega) hv0 ?_
    refine e_cst (v := 1) (len := 1) (pc := 62) q33_62 rfl rfl rfl ?_
    refine e_cmp true (pc := 63) q33_63 ⟨by omega, by omega⟩ ⟨by omega, by omega⟩ (n_t_ne (by omega)) ?_
    refine e_st (pc := 87) q33_87 rfl rfl ?_
    refine e_getf (pc := 88) q33_88 hd rfl ?_
    refine e_st (pc := 91) q33_91 rfl rfl ?_
    refine e_st (pc := 92) q33_92 rfl rfl ?_
    refine e_getf (pc := 93) q33_93 hd rfl ?_
    refine e_st (pc := 96) q33_96 rfl rfl ?_
    refine e_aldv (pc := 98) (j := i) (v := m_bt false) q33_98 hs (by omega) (by omega) (by omega) hw.hd ?_
    refine e_ast (pc := 99) (j := e) q33_99 hs (by omega) (by omega) (by omega) (fun h1 u1 => ?_)
    have hd := hd.up u1 (by omega)
    have hs : c_ar h1 s 120 (fun t => if t = e then (m_bt false) else f t) := u1.2.1
    refine e_inc (pc := 100) (L2 := [some (.ref d), some (n_v ↑len), some (n_v p), some (n_v (↑e + 1)), some (n_v ↑i), some (n_v 1)]) q33_100 rfl rfl ?_
    refine e_inc (pc := 103) (L2 := [some (.ref d), some (n_v ↑len), some (n_v p), some (n_v (↑e + 1)), some (n_v (↑i + 1)), some (n_v 1)]) q33_103 rfl rfl ?_
    refine e_st (pc := 106) q33_106 rfl rfl ?_
    exact s33L hd0 hlen hne m (y :: t) (i + 1) (e + 1) p h1 (fun t => if t = e then m_bt false else f t) _ (by simp only [List.length_cons] at hm ⊢; omega) (by simp only [List.length_cons] at hi ⊢; omega) (by omega) (hw.tl.eq (fun t ht => if_neg (by omega))) (hch.up u1 (by simp)) hs (fun h2 f2 c2 a2 e2 w2 => by
      have K2 := K h2 f2 c2 a2 (fun t ht => by rw [e2 t (by omega)]; exact if_neg (by omega)) (by
        rw [b_red]
        exact m_at.cons (by rw [e2 e (by omega)]; exact if_pos rfl) w2)
      simp only [b_cnt] at K2
      exact K2)
  | m + 1, true :: true :: t, i, e, p, h0, f, x5, hm, hi, he, hw, hch, hs, K => by
    have hd := hd0.ch hch (by simp; omega)
    have hi2 := hi
    simp only [List.length_cons] at hi2
    have hv0 := hw.hd
    have hv1 := hw.tl.hd
    refine e_st (pc := 7) q33_7 rfl rfl ?_
    refine e_st (pc := 9) q33_9 rfl rfl ?_
    refine e_cmp false (pc := 10) q33_10 ⟨by omega, by omega⟩ ⟨by omega, by omega⟩ (n_f_ge (by omega)) ?_
    refine e_st (pc := 13) q33_13 rfl rfl ?_
    refine e_st (pc := 15) q33_15 rfl rfl ?_
    refine e_getf (pc := 16) q33_16 hd rfl ?_
    refine e_len (pc := 19) q33_19 hs ?_
    refine e_cmp false (pc := 20) q33_20 ⟨by omega, by omega⟩ ⟨by omega, by omega⟩ (n_f_ge (by omega)) ?_
    refine e_st (pc := 23) q33_23 rfl rfl ?_
    refine e_cst (v := 1) (len := 1) (pc := 25) q33_25 rfl rfl rfl ?_
    refine e_add (pc := 26) q33_26 ?_
    refine e_st (pc := 27) q33_27 rfl rfl ?_
    refine e_cmp false (pc := 28) q33_28 ⟨by omega, by omega⟩ ⟨by omega, by omega⟩ (n_f_ge (by omega)) ?_
    refine e_st (pc := 31) q33_31 rfl rfl ?_
    refine e_cst (v := 1) (len := 1) (pc := 33) q33_33 rfl rfl rfl ?_
    refine e_add (pc := 34) q33_34 ?_
    refine e_st (pc := 35) q33_35 rfl rfl ?_
    refine e_getf (pc := 36) q33_36 hd rfl ?_
    refine e_len (pc := 39) q33_39 hs ?_
    refine e_cmp false (pc := 40) q33_40 ⟨by omega, by omega⟩ ⟨by omega, by omega⟩ (n_f_ge (by omega)) ?_
    refine e_cst (v := 1) (len := 1) (pc := 43) q33_43 rfl rfl rfl ?_
    refine e_st (pc := 44) q33_44 rfl rfl ?_
    refine e_st (pc := 48) (L2 := [some (.ref d), some (n_v ↑len), some (n_v p), some (n_v ↑e), some (n_v ↑i), some (n_v 1)]) q33_48 rfl rfl ?_
    refine e_st (pc := 50) q33_50 rfl rfl ?_
    refine e_if false (pc := 52) q33_52 ⟨by omega, by omega⟩ (n_f_eq (by omega)) ?_
    refine e_st (pc := 55) q33_55 rfl rfl ?_
    refine e_getf (pc := 56) q33_56 hd rfl ?_
    refine e_st (pc := 59) q33_59 rfl rfl ?_
    refine e_aldv (pc := 61) (j := i) (v := 1) q33_61 hs (by omega) (by omega) (by omega) hv0 ?_
    refine e_cst (v := 1) (len := 1) (pc := 62) q33_62 rfl rfl rfl ?_
    refine e_cmp false (pc := 63) q33_63 ⟨by omega, by omega⟩ ⟨by omega, by omega⟩ (n_f_ne (by omega)) ?_
    refine e_st (pc := 66) q33_66 rfl rfl ?_
    refine e_getf (pc := 67) q33_67 hd rfl ?_
    refine e_st (pc := 70) q33_70 rfl rfl ?_
    refine e_cst (v := 1) (len := 1) (pc := 72) q33_72 rfl rfl rfl ?_
    refine e_add (pc := 73) q33_73 ?_
    refine e_aldv (pc := 74) (j := i + 1) (v := 1) q33_74 hs (by omega) (by omega) (by omega) hv1 ?_
    refine e_if true (pc := 75) q33_75 ⟨by omega, by omega⟩ (n_t_ne (by omega)) ?_
    refine e_st (pc := 87) q33_87 rfl rfl ?_
    refine e_getf (pc := 88) q33_88 hd rfl ?_
    refine e_st (pc := 91) q33_91 rfl rfl ?_
    refine e_st (pc := 92) q33_92 rfl rfl ?_
    refine e_getf (pc := 93) q33_93 hd rfl ?_
    refine e_st (pc := 96) q33_96 rfl rfl ?_
    refine e_aldv (pc := 98) (j := i) (v := m_bt true) q33_98 hs (by omega) (by omega) (by omega) hw.hd ?_
    refine e_ast (pc := 99) (j := e) q33_99 hs (by omega) (by omega) (by omega) (fun h1 u1 => ?_)
    have hd := hd.up u1 (by omega)
    have hs : c_ar h1 s 120 (fun t => if t = e then (m_bt true) else f t) := u1.2.1
    refine e_inc (pc := 100) (L2 := [some (.ref d), some (n_v ↑len), some (n_v p), some (n_v (↑e + 1)), some (n_v ↑i), some (n_v 1)]) q33_100 rfl rfl ?_
    refine e_inc (pc := 103) (L2 := [some (.ref d), some (n_v ↑len), some (n_v p), some (n_v (↑e + 1)), some (n_v (↑i + 1)), some (n_v 1)]) q33_103 rfl rfl ?_
    refine e_st (pc := 106) q33_106 rfl rfl ?_
    exact s33L hd0 hlen hne m (true :: t) (i + 1) (e + 1) p h1 (fun t => if t = e then m_bt true else f t) _ (by simp only [List.length_cons] at hm ⊢; omega) (by simp only [List.length_cons] at hi ⊢; omega) (by omega) (hw.tl.eq (fun t ht => if_neg (by omega))) (hch.up u1 (by simp)) hs (fun h2 f2 c2 a2 e2 w2 => by
      have K2 := K h2 f2 c2 a2 (fun t ht => by rw [e2 t (by omega)]; exact if_neg (by omega)) (by
        rw [b_red]
        exact m_at.cons (by rw [e2 e (by omega)]; exact if_pos rfl) w2)
      simp only [b_cnt] at K2
      exact K2)
theorem s33 {d s r len : Nat} {k : Value} {f : Nat → Int} {w : List Bool} (hd0 : c_ob h d 3 [.ref s, .ref r, k]) (hlen : len ≤ 120) (hne : d ≠ s) (hw : m_at f 0 w) (hl : w.length = len) (hs : c_ar h s 120 f) (K : ∀ (h2 : c_Hp) (f2 : Nat → Int), c_ch h h2 [s] → c_ar h2 s 120 f2 → m_at f2 0 (b_red w) → Q (.inl (some (n_v (b_cnt w : Int))), h2)) : c_Ev X 33 0 [some (.ref d), some (n_v ↑len), none, none, none, none] [] h Q := by
  refine e_cst (v := 0) (len := 1) (pc := 0) q33_0 rfl rfl rfl ?_
  refine e_st (pc := 1) (L2 := [some (.ref d), some (n_v ↑len), some (n_v 0), none, none, none]) q33_1 rfl rfl ?_
  refine e_cst (v := 0) (len := 1) (pc := 2) q33_2 rfl rfl rfl ?_
  refine e_st (pc := 3) (L2 := [some (.ref d), some (n_v ↑len), some (n_v 0), some (n_v 0), none, none]) q33_3 rfl rfl ?_
  refine e_cst (v := 0) (len := 1) (pc := 4) q33_4 rfl rfl rfl ?_
  refine e_st (pc := 5) (L2 := [some (.ref d), some (n_v ↑len), some (n_v 0), some (n_v 0), some (n_v 0), none]) q33_5 rfl rfl ?_
  exact s33L hd0 hlen hne w.length w 0 0 0 h f none (Nat.le_refl _) (by omega) (by omega) hw (c_ch.rf h [s]) hs (fun h2 f2 c2 a2 e2 w2 => by
    have K2 := K h2 f2 c2 a2 w2
    rw [show (0 : Int) + (b_cnt w : Int) = (b_cnt w : Int) by omega]
    exact K2)
theorem s32L {a b c d s r n : Nat} {k rg : Value} {bf : Nat → Int} (hd0 : c_ob h d 3 [.ref s, .ref r, k]) (hr0 : c_ob h a 6 [.ref c, .ref b, n_v ↑n, rg]) (hb0 : c_ar h b 60 bf) (hn : n ≤ 60) (hne : d ≠ s ∧ a ≠ s ∧ b ≠ s) (K : ∀ (h2 : c_Hp) (f2 : Nat → Int), c_ch h h2 [s] → c_ar h2 s 120 f2 → (∀ t, f2 t = if t < n then bf t else 0) → Q (.inl (some (n_v (↑n + m_sum n bf))), h2)) :
  ∀ (m i : Nat) (h1 : c_Hp) (f : Nat → Int), i + m = n → c_ch h h1 [s] → c_ar h1 s 120 f → (∀ t, f t = if t < i then bf t else 0) → c_Ev X 32 10 [some (.ref d), some (.ref a), some (n_v ↑i)] [] h1 Q
  | 0, i, h1, f, e, hch, hs, hf => by
    have hd := hd0.ch hch (by simp; omega)
    have hr := hr0.ch hch (by simp; omega)
    have hb := hb0.ch hch (by simp; omega)
    refine e_st (pc := 10) q32_10 rfl rfl ?_
    refine e_st (pc := 11) q32_11 rfl rfl ?_
    refine e_getf (pc := 12) q32_12 hr rfl ?_
    refine e_cmp true (pc := 15) q32_15 ⟨by omega, by omega⟩ ⟨by omega, by omega⟩ (n_t_ge (by omega)) ?_
    refine e_st (pc := 36) q32_36 rfl rfl ?_
    refine e_getf (pc := 37) q32_37 hr rfl ?_
    refine e_st (pc := 40) q32_40 rfl rfl ?_
    refine e_callV (pc := 41) (mz := c_m56) (a := a) (L0 := [some (.ref a), none, none]) q32_41 rfl rfl rfl rfl rfl rfl rfl hr rfl rfl ?_
    refine s56 hr hb hn ?_
    refine e_k (pc := 41) ?_
    refine e_add (pc := 44) q32_44 ?_
    refine e_iret (pc := 45) q32_45 rfl rfl rfl rfl ?_
    have e2 : i = n := by omega
    subst e2
    exact K h1 f hch hs hf
  | m + 1, i, h0, f, e, hch, hs, hf => by
    have hd := hd0.ch hch (by simp; omega)
    have hr := hr0.ch hch (by simp; omega)
    have hb := hb0.ch hch (by simp; omega)
    refine e_st (pc := 10) q32_10 rfl rfl ?_
    refine e_st (pc := 11) q32_11 rfl rfl ?_
    refine e_getf (pc := 12) q32_12 hr rfl ?_
    refine e_cmp false (pc := 15) q32_15 ⟨by omega, by omega⟩ ⟨by omega, by omega⟩ (n_f_ge (by omega)) ?_
    refine e_st (pc := 18) q32_18 rfl rfl ?_
    refine e_getf (pc := 19) q32_19 hd rfl ?_
    refine e_st (pc := 22) q32_22 rfl rfl ?_
    refine e_st (pc := 23) q32_23 rfl rfl ?_
    refine e_getf (pc := 24) q32_24 hr rfl ?_
    refine e_st (pc := 27) q32_27 rfl rfl ?_
    refine e_ald (pc := 28) (j := i) q32_28 hb (by omega) (by omega) (by omega) ?_
    refine e_ast (pc := 29) (j := i) q32_29 hs (by omega) (by omega) (by omega) (fun h1 u1 => ?_)
    have hd := hd.up u1 (by omega)
    have hr := hr.up u1 (by omega)
    have hb := hb.up u1 (by omega)
    have hs : c_ar h1 s 120 (fun t => if t = i then (bf i) else f t) := u1.2.1
    refine e_inc (pc := 30) (L2 := [some (.ref d), some (.ref a), some (n_v (↑i + 1))]) q32_30 rfl rfl ?_
    refine e_st (pc := 33) q32_33 rfl rfl ?_
    exact s32L hd0 hr0 hb0 hn hne K m (i + 1) h1 _ (by omega) (hch.up u1 (by simp)) hs (fun t => by
      by_cases e2 : t = i
      · rw [if_pos e2, if_pos (by omega), e2]
      · rw [if_neg e2, hf t]
        by_cases e3 : t < i
        · rw [if_pos e3, if_pos (by omega)]
        · rw [if_neg e3, if_neg (by omega)])
theorem s32 {a b c d s r n : Nat} {k rg : Value} {bf f : Nat → Int} (hd : c_ob h d 3 [.ref s, .ref r, k]) (hr : c_ob h a 6 [.ref c, .ref b, n_v ↑n, rg]) (hb : c_ar h b 60 bf) (hs : c_ar h s 120 f) (hn : n ≤ 60) (hne : d ≠ s ∧ a ≠ s ∧ b ≠ s) (hbf : ∀ t, t < n → bf t = 0 ∨ bf t = 1) (K : ∀ (h2 : c_Hp) (f2 : Nat → Int), c_ch h h2 [s] → c_ar h2 s 120 f2 → m_at f2 0 (m_u n bf) → Q (.inl (some (n_v ((m_u n bf).length : Int))), h2)) : c_Ev X 32 0 [some (.ref d), some (.ref a), none] [] h Q := by
  refine e_st (pc := 0) q32_0 rfl rfl ?_
  refine e_getf (pc := 1) q32_1 hd rfl ?_
  refine e_cst (v := 0) (len := 1) (pc := 4) q32_4 rfl rfl rfl ?_
  have hd0 := hd
  have hr0 := hr
  have hb0 := hb
  refine e_callS (pc := 5) (mz := c_m82) (L0 := [some (.ref s), some (n_v 0), none, none]) q32_5 rfl rfl rfl rfl rfl rfl rfl rfl rfl ?_
  refine s82 hs (by omega) (fun h1 u1 => ?_)
  have hch : c_ch h h1 [s] := (c_ch.rf h [s]).up u1 (by simp)
  refine e_k0 (pc := 5) ?_
  refine e_cst (v := 0) (len := 1) (pc := 8) q32_8 rfl rfl rfl ?_
  refine e_st (pc := 9) (L2 := [some (.ref d), some (.ref a), some (n_v 0)]) q32_9 rfl rfl ?_
  refine s32L hd0 hr0 hb0 hn hne (fun h2 f2 c2 a2 e2 => ?_) n 0 h1 (fun _ => 0) (by omega) hch u1.2.1 (fun t => by rw [if_neg (by omega)])
  have hl := m_u_len n bf
  rw [m_wd_sum n hbf, show ((n : Int) + (((m_wd n bf).filter id).length : Int)) = ((m_u n bf).length : Int) by omega]
  refine K h2 f2 c2 a2 (fun j x hx => ?_)
  rw [Nat.zero_add, e2 j]
  unfold m_u at hx
  by_cases h1 : j < n
  · rw [if_pos h1]
    rw [List.getElem?_append_left (by rw [m_wd_len]; exact h1)] at hx
    unfold m_wd at hx
    rw [List.getElem?_map, List.getElem?_range h1] at hx
    cases hx
    rcases hbf j h1 with z | z <;> simp [z, m_bt]
  · rw [if_neg h1]
    rw [List.getElem?_append_right (by rw [m_wd_len]; omega), List.getElem?_replicate] at hx
    split at hx
    · cases hx; rfl
    · cases hx
end Ms
