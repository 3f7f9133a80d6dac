/-! Runs, by the flags of their first balls. -/
def b_fgo : Nat → List Nat → List Bool
  | _, [] => []
  | q, x :: r => decide (q + 1 < x) :: b_fgo x r
def b_fl : List Nat → List Bool
  | [] => []
  | p :: r => true :: b_fgo p r
def b_nx : List Bool → Nat
  | [] => 0
  | true :: _ => 0
  | false :: t => b_nx t + 1
def b_rs : List Bool → List Nat
  | [] => []
  | true :: t => (1 + b_nx t) :: b_rs t
  | false :: t => b_rs t
theorem b_rgo_rs : ∀ (r : List Nat) (q n : Nat), b_rgo q n r = (n + b_nx (b_fgo q r)) :: b_rs (b_fgo q r)
  | [], _, _ => rfl
  | x :: r, q, n => by
    rw [b_rgo, b_fgo]
    by_cases h : q + 1 < x
    · rw [if_pos h, b_rgo_rs r, decide_eq_true h]
      rfl
    · rw [if_neg h, b_rgo_rs r, decide_eq_false h, b_nx, b_rs]
      congr 1
      omega
theorem b_rl_rs (ps : List Nat) : b_rl ps = b_rs (b_fl ps) := by
  cases ps with
  | nil => rfl
  | cons p r => exact b_rgo_rs r p 1
theorem b_fgo_len : ∀ (r : List Nat) (q : Nat), (b_fgo q r).length = r.length
  | [], _ => rfl
  | x :: r, q => by rw [b_fgo, List.length_cons, List.length_cons, b_fgo_len r]
theorem b_fl_len (ps : List Nat) : (b_fl ps).length = ps.length := by
  cases ps with
  | nil => rfl
  | cons p r => rw [b_fl, List.length_cons, List.length_cons, b_fgo_len]
theorem b_fgo_s : ∀ (r : List Nat) (q i x y : Nat), (q :: r)[i]? = some x → r[i]? = some y → (b_fgo q r)[i]? = some (decide (x + 1 < y))
  | [], _, _, _, _, _, h => by simp at h
  | z :: r, q, 0, x, y, h1, h2 => by
    cases h1
    cases h2
    rfl
  | z :: r, q, i + 1, x, y, h1, h2 => by
    rw [b_fgo]
    exact b_fgo_s r z i x y h1 h2
theorem b_fl_s (ps : List Nat) (i x y : Nat) (h1 : ps[i]? = some x) (h2 : ps[i + 1]? = some y) : (b_fl ps)[i + 1]? = some (decide (x + 1 < y)) := by
  cases ps with
  | nil => simp at h1
  | cons p r => exact b_fgo_s r p i x y h1 h2
theorem b_rs_len : ∀ (F : List Bool), (b_rs F).length = (F.filter id).length
  | [] => rfl
  | true :: t => by rw [b_rs, List.length_cons, b_rs_len t]; simp
  | false :: t => by rw [b_rs, b_rs_len t]; simp
theorem b_rs_at : ∀ (F : List Bool) (i : Nat), F[i]? = some true → (b_rs F)[((F.take i).filter id).length]? = some (1 + b_nx (F.drop (i + 1)))
  | [], _, h => by simp at h
  | true :: t, 0, _ => by simp [b_rs]
  | false :: t, 0, h => by cases h
  | true :: t, i + 1, h => by
    have := b_rs_at t i h
    rw [b_rs, List.take_succ_cons, List.filter_cons_of_pos (by rfl), List.length_cons, List.getElem?_cons_succ, this]
    rfl
  | false :: t, i + 1, h => by
    have := b_rs_at t i h
    rw [b_rs, List.take_succ_cons, List.filter_cons_of_neg (by decide), this]
    rfl
theorem b_tk (F : List Bool) (i : Nat) (x : Bool) (h : F[i]? = some x) : ((F.take (i + 1)).filter id).length = ((F.take i).filter id).length + if x = true then 1 else 0 := by
  rw [List.take_succ, h, List.filter_append, List.length_append]
  cases x <;> simp
theorem b_nx_drop (F : List Bool) (i : Nat) (h : F[i]? = some false) : b_nx (F.drop i) = b_nx (F.drop (i + 1)) + 1 := by
  have hl : i < F.length := (List.getElem?_eq_some_iff.mp h).1
  rw [List.drop_eq_getElem_cons hl, (List.getElem?_eq_some_iff.mp h).2]
  rfl
theorem b_nx_true (F : List Bool) (i : Nat) (h : F[i]? = some true) : b_nx (F.drop i) = 0 := by
  have hl : i < F.length := (List.getElem?_eq_some_iff.mp h).1
  rw [List.drop_eq_getElem_cons hl, (List.getElem?_eq_some_iff.mp h).2]
  rfl
theorem b_pos_cons : ∀ (w : List Bool) (o p : Nat) (r : List Nat), b_pos o w = p :: r → o ≤ p ∧ ∃ w', r = b_pos (p + 1) w'
  | [], _, _, _, h => by cases h
  | true :: w, o, p, r, h => by
    rw [b_pos] at h
    cases h
    exact ⟨Nat.le_refl _, w, rfl⟩
  | false :: w, o, p, r, h => by
    rw [b_pos] at h
    have := b_pos_cons w (o + 1) p r h
    exact ⟨by omega, this.2⟩
theorem b_pos_snoc : ∀ (w : List Bool) (o : Nat) (x : Bool), b_pos o (w ++ [x]) = b_pos o w ++ if x then [o + w.length] else []
  | [], o, true => rfl
  | [], o, false => rfl
  | true :: w, o, x => by
    rw [List.cons_append, b_pos, b_pos, b_pos_snoc w, List.length_cons, show o + 1 + w.length = o + (w.length + 1) by omega]
    rfl
  | false :: w, o, x => by rw [List.cons_append, b_pos, b_pos, b_pos_snoc w, List.length_cons, show o + 1 + w.length = o + (w.length + 1) by omega]
theorem b_pos_lt : ∀ (w : List Bool) (o x : Nat), x ∈ b_pos o w → x < o + w.length
  | [], _, _, h => by cases h
  | true :: w, o, x, h => by
    rw [List.length_cons]
    rcases List.mem_cons.mp h with e | e
    · omega
    · have := b_pos_lt w (o + 1) x e
      omega
  | false :: w, o, x, h => by
    have := b_pos_lt w (o + 1) x h
    rw [List.length_cons]
    omega
theorem b_pos_len : ∀ (w : List Bool) (o : Nat), (b_pos o w).length = (w.filter id).length
  | [], _ => rfl
  | true :: w, o => by rw [b_pos, List.length_cons, b_pos_len w]; simp
  | false :: w, o => by rw [b_pos, b_pos_len w]; simp
theorem b_T_cnt : ∀ (w : List Bool) (c : Nat), ((b_T c w).filter id).length = c + (w.filter id).length ∧ (b_T c w).length ≤ w.length + c + (w.filter id).length
  | [], c => by
    have : (List.replicate c true).filter id = List.replicate c true := List.filter_eq_self.mpr (fun x hx => (List.mem_replicate.mp hx).2)
    rw [b_T, this]
    simp
  | true :: w, c => by
    have := b_T_cnt w (c + 1)
    simp [b_T] at this ⊢
    omega
  | false :: w, 0 => by
    have := b_T_cnt w 0
    simp [b_T] at this ⊢
    omega
  | false :: w, c + 1 => by
    have := b_T_cnt w c
    simp [b_T] at this ⊢
    omega
theorem b_it_succ {α : Type} (f : α → α) : ∀ (n : Nat) (x : α), b_it f (n + 1) x = f (b_it f n x)
  | 0, _ => rfl
  | n + 1, x => by
    show b_it f (n + 1) (f x) = f (b_it f n (f x))
    exact b_it_succ f n (f x)
theorem b_Tit_cnt : ∀ (t : Nat) (w : List Bool), ((b_it (b_T 0) t w).filter id).length = (w.filter id).length ∧ (b_it (b_T 0) t w).length ≤ w.length + t * (w.filter id).length
  | 0, w => by simp [b_it]
  | t + 1, w => by
    have h1 := b_Tit_cnt t w
    have h2 := b_T_cnt (b_it (b_T 0) t w) 0
    rw [b_it_succ]
    rw [Nat.succ_mul]
    omega
section Ms
variable {X : List Int32} {h : c_Hp} {Q : c_O × c_Hp → Prop}
theorem s62 {f : Nat → Int} {ps : List Nat} {bl la : Value} {i : Nat} {x : Bool} (hd : c_ob h 28 7 [.ref 29, .ref 30, bl, la]) (hf : c_ar h 29 60 f) (hl : m_li f ps) (hp : ∀ y ∈ ps, y ≤ 100000) (hi : i < 60) (hx : (b_fl ps)[i]? = some x) (K : Q (.inl (some (n_v (m_bt x))), h)) : c_Ev X 62 0 [some (.ref 28), some (n_v ↑i)] [] h Q := by
  have hlen : i < ps.length := by rw [← b_fl_len]; exact (List.getElem?_eq_some_iff.mp hx).1
  rcases i with _ | i
  · refine e_st (pc := 0) q62_0 rfl rfl ?_
    refine e_if true (pc := 1) q62_1 ⟨by omega, by omega⟩ (n_t_eq (by omega)) ?_
    refine e_cst (v := 1) (len := 1) (pc := 23) q62_23 rfl rfl rfl ?_
    refine e_st (pc := 24) q62_24 rfl rfl ?_
    refine e_iret (pc := 28) q62_28 rfl rfl rfl (by decide +kernel) ?_
    cases ps with
    | nil => simp at hlen
    | cons p r =>
      cases hx
      exact K
  · obtain ⟨a, ha⟩ : ∃ a, ps[i]? = some a := ⟨ps[i]'(by omega), List.getElem?_eq_getElem (by omega)⟩
    obtain ⟨b, hb⟩ : ∃ b, ps[i + 1]? = some b := ⟨ps[i + 1]'(by omega), List.getElem?_eq_getElem (by omega)⟩
    have ha2 := hp a (List.mem_of_getElem? ha)
    have hb2 := hp b (List.mem_of_getElem? hb)
    have e := (b_fl_s ps i a b ha hb).symm.trans hx
    cases e
    refine e_st (pc := 0) q62_0 rfl rfl ?_
    refine e_if false (pc := 1) q62_1 ⟨by omega, by omega⟩ (n_f_eq (by omega)) ?_
    refine e_st (pc := 4) q62_4 rfl rfl ?_
    refine e_getf (pc := 5) q62_5 hd rfl ?_
    refine e_st (pc := 8) q62_8 rfl rfl ?_
    refine e_aldv (pc := 9) (j := i + 1) (v := (b : Int)) q62_9 hf (by omega) (by omega) (by omega) (hl _ _ hb) ?_
    refine e_st (pc := 10) q62_10 rfl rfl ?_
    refine e_getf (pc := 11) q62_11 hd rfl ?_
    refine e_st (pc := 14) q62_14 rfl rfl ?_
    refine e_cst (v := 1) (len := 1) (pc := 15) q62_15 rfl rfl rfl ?_
    refine e_sub (pc := 16) q62_16 ?_
    refine e_aldv (pc := 17) (j := i) (v := (a : Int)) q62_17 hf (by omega) (by omega) (by omega) (hl _ _ ha) ?_
    refine e_cst (v := 1) (len := 1) (pc := 18) q62_18 rfl rfl rfl ?_
    refine e_add (pc := 19) q62_19 ?_
    by_cases hc : a + 1 < b
    · refine e_cmp false (pc := 20) q62_20 ⟨by omega, by omega⟩ ⟨by omega, by omega⟩ (n_f_le (by omega)) ?_
      refine e_cst (v := 1) (len := 1) (pc := 23) q62_23 rfl rfl rfl ?_
      refine e_st (pc := 24) q62_24 rfl rfl ?_
      refine e_iret (pc := 28) q62_28 rfl rfl rfl (by decide +kernel) ?_
      rw [decide_eq_true hc] at K
      exact K
    · refine e_cmp true (pc := 20) q62_20 ⟨by omega, by omega⟩ ⟨by omega, by omega⟩ (n_t_le (by omega)) ?_
      refine e_cst (v := 0) (len := 1) (pc := 27) q62_27 rfl rfl rfl ?_
      refine e_iret (pc := 28) q62_28 rfl rfl rfl (by decide +kernel) ?_
      rw [decide_eq_false hc] at K
      exact K
theorem s63L {f : Nat → Int} {ps : List Nat} {la : Value} (hd : c_ob h 28 7 [.ref 29, .ref 30, n_v (ps.length : Int), la]) (hf : c_ar h 29 60 f) (hl : m_li f ps) (hp : ∀ y ∈ ps, y ≤ 100000) (hn : ps.length ≤ 60) (K : Q (.inl (some (n_v (((b_fl ps).filter id).length : Int))), h)) : ∀ (m i : Nat), i + m = ps.length → c_Ev X 63 4 [some (.ref 28), some (n_v ((((b_fl ps).take i).filter id).length : Int)), some (n_v ↑i)] [] h Q
  | 0, i, e => by
    refine e_st (pc := 4) q63_4 rfl rfl ?_
    refine e_st (pc := 5) q63_5 rfl rfl ?_
    refine e_getf (pc := 6) q63_6 hd rfl ?_
    refine e_cmp true (pc := 9) q63_9 ⟨by omega, by omega⟩ ⟨by omega, by omega⟩ (n_t_ge (by omega)) ?_
    refine e_st (pc := 29) q63_29 rfl rfl ?_
    refine e_iret (pc := 30) q63_30 rfl rfl rfl rfl ?_
    rw [show i = (b_fl ps).length by rw [b_fl_len]; omega, List.take_length]
    exact K
  | m + 1, i, e => by
    obtain ⟨x, hx⟩ : ∃ x, (b_fl ps)[i]? = some x := ⟨(b_fl ps)[i]'(by rw [b_fl_len]; omega), List.getElem?_eq_getElem (by rw [b_fl_len]; omega)⟩
    have htk := b_tk (b_fl ps) i x hx
    have htl := List.length_filter_le id ((b_fl ps).take i)
    have htl2 : ((b_fl ps).take i).length ≤ i := List.length_take_le _ _
    have ih := s63L hd hf hl hp hn K m (i + 1) (by omega)
    refine e_st (pc := 4) q63_4 rfl rfl ?_
    refine e_st (pc := 5) q63_5 rfl rfl ?_
    refine e_getf (pc := 6) q63_6 hd rfl ?_
    refine e_cmp false (pc := 9) q63_9 ⟨by omega, by omega⟩ ⟨by omega, by omega⟩ (n_f_ge (by omega)) ?_
    refine e_st (pc := 12) q63_12 rfl rfl ?_
    refine e_st (pc := 13) q63_13 rfl rfl ?_
    refine e_callV (pc := 14) (mz := c_m62) (a := 28) (L0 := [some (.ref 28), some (n_v ↑i)]) q63_14 rfl rfl rfl rfl rfl rfl rfl hd rfl rfl ?_
    refine s62 hd hf hl hp (by omega) hx ?_
    refine e_k (pc := 14) ?_
    cases x
    · refine e_if true (pc := 17) q63_17 ⟨by decide, by decide⟩ (by decide) ?_
      refine e_inc (pc := 23) (L2 := [some (.ref 28), some (n_v ((((b_fl ps).take i).filter id).length : Int)), some (n_v (↑i + 1))]) q63_23 rfl rfl ?_
      refine e_st (pc := 26) q63_26 rfl rfl ?_
      have e3 : ((((b_fl ps).take (i + 1)).filter id).length : Int) = ((((b_fl ps).take i).filter id).length : Int) := by rw [htk]; simp
      rw [e3] at ih
      exact ih
    · refine e_if false (pc := 17) q63_17 ⟨by decide, by decide⟩ (by decide) ?_
      refine e_inc (pc := 20) (L2 := [some (.ref 28), some (n_v (((((b_fl ps).take i).filter id).length : Int) + 1)), some (n_v ↑i)]) q63_20 rfl rfl ?_
      refine e_inc (pc := 23) (L2 := [some (.ref 28), some (n_v (((((b_fl ps).take i).filter id).length : Int) + 1)), some (n_v (↑i + 1))]) q63_23 rfl rfl ?_
      refine e_st (pc := 26) q63_26 rfl rfl ?_
      have e3 : ((((b_fl ps).take (i + 1)).filter id).length : Int) = ((((b_fl ps).take i).filter id).length : Int) + 1 := by rw [htk]; simp
      rw [e3] at ih
      exact ih
theorem s63 {f : Nat → Int} {ps : List Nat} {la : Value} (hd : c_ob h 28 7 [.ref 29, .ref 30, n_v (ps.length : Int), la]) (hf : c_ar h 29 60 f) (hl : m_li f ps) (hp : ∀ y ∈ ps, y ≤ 100000) (hn : ps.length ≤ 60) (K : Q (.inl (some (n_v (((b_fl ps).filter id).length : Int))), h)) : c_Ev X 63 0 [some (.ref 28), none, none] [] h Q := by
  refine e_cst (v := 0) (len := 1) (pc := 0) q63_0 rfl rfl rfl ?_
  refine e_st (pc := 1) (L2 := [some (.ref 28), some (n_v 0), none]) q63_1 rfl rfl ?_
  refine e_cst (v := 0) (len := 1) (pc := 2) q63_2 rfl rfl rfl ?_
  refine e_st (pc := 3) (L2 := [some (.ref 28), some (n_v 0), some (n_v 0)]) q63_3 rfl rfl ?_
  exact s63L hd hf hl hp hn K ps.length 0 (by omega)
theorem s64L {f : Nat → Int} {ps : List Nat} {la : Value} (hd : c_ob h 28 7 [.ref 29, .ref 30, n_v (ps.length : Int), la]) (hf : c_ar h 29 60 f) (hl : m_li f ps) (hp : ∀ y ∈ ps, y ≤ 100000) (hn : ps.length ≤ 60) {run : Nat} (hrun : run < ((b_fl ps).filter id).length) (K : ∀ i : Nat, i < ps.length → (b_fl ps)[i]? = some true → (((b_fl ps).take i).filter id).length = run → Q (.inl (some (n_v ↑i)), h)) : ∀ (m i : Nat), i + m = ps.length → (((b_fl ps).take i).filter id).length ≤ run → c_Ev X 64 4 [some (.ref 28), some (n_v ↑run), some (n_v ((((b_fl ps).take i).filter id).length : Int)), some (n_v ↑i)] [] h Q
  | 0, i, e, hle => by
    rw [show i = (b_fl ps).length by rw [b_fl_len]; omega, List.take_length] at hle
    omega
  | m + 1, i, e, hle => by
    obtain ⟨x, hx⟩ : ∃ x, (b_fl ps)[i]? = some x := ⟨(b_fl ps)[i]'(by rw [b_fl_len]; omega), List.getElem?_eq_getElem (by rw [b_fl_len]; omega)⟩
    have htk := b_tk (b_fl ps) i x hx
    have htl := List.length_filter_le id ((b_fl ps).take i)
    have htl2 : ((b_fl ps).take i).length ≤ i := List.length_take_le _ _
    have hrl : ((b_fl ps).filter id).length ≤ (b_fl ps).length := List.length_filter_le _ _
    rw [b_fl_len] at hrl
    refine e_st (pc := 4) q64_4 rfl rfl ?_
    refine e_st (pc := 5) q64_5 rfl rfl ?_
    refine e_getf (pc := 6) q64_6 hd rfl ?_
    refine e_cmp false (pc := 9) q64_9 ⟨by omega, by omega⟩ ⟨by omega, by omega⟩ (n_f_ge (by omega)) ?_
    refine e_st (pc := 12) q64_12 rfl rfl ?_
    refine e_st (pc := 13) q64_13 rfl rfl ?_
    refine e_callV (pc := 14) (mz := c_m62) (a := 28) (L0 := [some (.ref 28), some (n_v ↑i)]) q64_14 rfl rfl rfl rfl rfl rfl rfl hd rfl rfl ?_
    refine s62 hd hf hl hp (by omega) hx ?_
    refine e_k (pc := 14) ?_
    cases x
    · refine e_if true (pc := 17) q64_17 ⟨by decide, by decide⟩ (by decide) ?_
      refine e_inc (pc := 30) (L2 := [some (.ref 28), some (n_v ↑run), some (n_v ((((b_fl ps).take i).filter id).length : Int)), some (n_v (↑i + 1))]) q64_30 rfl rfl ?_
      refine e_st (pc := 33) q64_33 rfl rfl ?_
      have e2 : (((b_fl ps).take (i + 1)).filter id).length = (((b_fl ps).take i).filter id).length := by rw [htk]; simp
      have ih := s64L hd hf hl hp hn hrun K m (i + 1) (by omega) (by omega)
      rw [e2] at ih
      exact ih
    · refine e_if false (pc := 17) q64_17 ⟨by decide, by decide⟩ (by decide) ?_
      refine e_st (pc := 20) q64_20 rfl rfl ?_
      refine e_st (pc := 21) q64_21 rfl rfl ?_
      by_cases hc : (((b_fl ps).take i).filter id).length = run
      · refine e_cmp false (pc := 22) q64_22 ⟨by omega, by omega⟩ ⟨by omega, by omega⟩ (n_f_ne (by omega)) ?_
        refine e_st (pc := 25) q64_25 rfl rfl ?_
        refine e_iret (pc := 26) q64_26 rfl rfl rfl rfl ?_
        exact K i (by omega) hx hc
      · refine e_cmp true (pc := 22) q64_22 ⟨by omega, by omega⟩ ⟨by omega, by omega⟩ (n_t_ne (by omega)) ?_
        refine e_inc (pc := 27) (L2 := [some (.ref 28), some (n_v ↑run), some (n_v (((((b_fl ps).take i).filter id).length : Int) + 1)), some (n_v ↑i)]) q64_27 rfl rfl ?_
        refine e_inc (pc := 30) (L2 := [some (.ref 28), some (n_v ↑run), some (n_v (((((b_fl ps).take i).filter id).length : Int) + 1)), some (n_v (↑i + 1))]) q64_30 rfl rfl ?_
        refine e_st (pc := 33) q64_33 rfl rfl ?_
        have e2 : (((b_fl ps).take (i + 1)).filter id).length = (((b_fl ps).take i).filter id).length + 1 := by rw [htk]; simp
        have ih := s64L hd hf hl hp hn hrun K m (i + 1) (by omega) (by omega)
        rw [e2] at ih
        exact ih
theorem s64 {f : Nat → Int} {ps : List Nat} {la : Value} (hd : c_ob h 28 7 [.ref 29, .ref 30, n_v (ps.length : Int), la]) (hf : c_ar h 29 60 f) (hl : m_li f ps) (hp : ∀ y ∈ ps, y ≤ 100000) (hn : ps.length ≤ 60) {run : Nat} (hrun : run < ((b_fl ps).filter id).length) (K : ∀ i : Nat, i < ps.length → (b_fl ps)[i]? = some true → (((b_fl ps).take i).filter id).length = run → Q (.inl (some (n_v ↑i)), h)) : c_Ev X 64 0 [some (.ref 28), some (n_v ↑run), none, none] [] h Q := by
  refine e_cst (v := 0) (len := 1) (pc := 0) q64_0 rfl rfl rfl ?_
  refine e_st (pc := 1) (L2 := [some (.ref 28), some (n_v ↑run), some (n_v 0), none]) q64_1 rfl rfl ?_
  refine e_cst (v := 0) (len := 1) (pc := 2) q64_2 rfl rfl rfl ?_
  refine e_st (pc := 3) (L2 := [some (.ref 28), some (n_v ↑run), some (n_v 0), some (n_v 0)]) q64_3 rfl rfl ?_
  exact s64L hd hf hl hp hn hrun K ps.length 0 (by omega) (by simp)
theorem s65L {f : Nat → Int} {ps : List Nat} {la : Value} (hd : c_ob h 28 7 [.ref 29, .ref 30, n_v (ps.length : Int), la]) (hf : c_ar h 29 60 f) (hl : m_li f ps) (hp : ∀ y ∈ ps, y ≤ 100000) (hn : ps.length ≤ 60) {i : Nat} (K : Q (.inl (some (n_v ((1 + b_nx ((b_fl ps).drop (i + 1)) : Nat) : Int))), h)) : ∀ (m e : Nat), e + m = ps.length → i + 1 ≤ e → b_nx ((b_fl ps).drop (i + 1)) = (e - (i + 1)) + b_nx ((b_fl ps).drop e) → c_Ev X 65 4 [some (.ref 28), some (n_v ↑i), some (n_v ↑e)] [] h Q
  | 0, e, hm, he, hx => by
    have e9 : b_nx ((b_fl ps).drop e) = 0 := by rw [List.drop_eq_nil_of_le (by rw [b_fl_len]; omega)]; rfl
    refine e_st (pc := 4) q65_4 rfl rfl ?_
    refine e_st (pc := 5) q65_5 rfl rfl ?_
    refine e_getf (pc := 6) q65_6 hd rfl ?_
    refine e_cmp true (pc := 9) q65_9 ⟨by omega, by omega⟩ ⟨by omega, by omega⟩ (n_t_ge (by omega)) ?_
    refine e_st (pc := 26) q65_26 rfl rfl ?_
    refine e_st (pc := 27) q65_27 rfl rfl ?_
    refine e_sub (pc := 28) q65_28 ?_
    refine e_iret (pc := 29) q65_29 rfl rfl rfl rfl ?_
    have e4 : (e : Int) - (i : Int) = ((1 + b_nx ((b_fl ps).drop (i + 1)) : Nat) : Int) := by omega
    rw [e4]
    exact K
  | m + 1, e, hm, he, hnx => by
    obtain ⟨x, hx⟩ : ∃ x, (b_fl ps)[e]? = some x := ⟨(b_fl ps)[e]'(by rw [b_fl_len]; omega), List.getElem?_eq_getElem (by rw [b_fl_len]; omega)⟩
    refine e_st (pc := 4) q65_4 rfl rfl ?_
    refine e_st (pc := 5) q65_5 rfl rfl ?_
    refine e_getf (pc := 6) q65_6 hd rfl ?_
    refine e_cmp false (pc := 9) q65_9 ⟨by omega, by omega⟩ ⟨by omega, by omega⟩ (n_f_ge (by omega)) ?_
    refine e_st (pc := 12) q65_12 rfl rfl ?_
    refine e_st (pc := 13) q65_13 rfl rfl ?_
    refine e_callV (pc := 14) (mz := c_m62) (a := 28) (L0 := [some (.ref 28), some (n_v ↑e)]) q65_14 rfl rfl rfl rfl rfl rfl rfl hd rfl rfl ?_
    refine s62 hd hf hl hp (by omega) hx ?_
    refine e_k (pc := 14) ?_
    cases x
    · refine e_if false (pc := 17) q65_17 ⟨by decide, by decide⟩ (by decide) ?_
      refine e_inc (pc := 20) (L2 := [some (.ref 28), some (n_v ↑i), some (n_v (↑e + 1))]) q65_20 rfl rfl ?_
      refine e_st (pc := 23) q65_23 rfl rfl ?_
      have h3 := b_nx_drop _ _ hx
      exact s65L hd hf hl hp hn K m (e + 1) (by omega) (by omega) (by omega)
    · have e9 := b_nx_true _ _ hx
      refine e_if true (pc := 17) q65_17 ⟨by decide, by decide⟩ (by decide) ?_
      refine e_st (pc := 26) q65_26 rfl rfl ?_
      refine e_st (pc := 27) q65_27 rfl rfl ?_
      refine e_sub (pc := 28) q65_28 ?_
      refine e_iret (pc := 29) q65_29 rfl rfl rfl rfl ?_
      have e4 : (e : Int) - (i : Int) = ((1 + b_nx ((b_fl ps).drop (i + 1)) : Nat) : Int) := by omega
      rw [e4]
      exact K
theorem s65 {f : Nat → Int} {ps : List Nat} {la : Value} (hd : c_ob h 28 7 [.ref 29, .ref 30, n_v (ps.length : Int), la]) (hf : c_ar h 29 60 f) (hl : m_li f ps) (hp : ∀ y ∈ ps, y ≤ 100000) (hn : ps.length ≤ 60) {i : Nat} (hi : i < ps.length) (K : Q (.inl (some (n_v ((1 + b_nx ((b_fl ps).drop (i + 1)) : Nat) : Int))), h)) : c_Ev X 65 0 [some (.ref 28), some (n_v ↑i), none] [] h Q := by
  refine e_st (pc := 0) q65_0 rfl rfl ?_
  refine e_cst (v := 1) (len := 1) (pc := 1) q65_1 rfl rfl rfl ?_
  refine e_add (pc := 2) q65_2 ?_
  refine e_st (pc := 3) (L2 := [some (.ref 28), some (n_v ↑i), some (n_v (↑i + 1))]) q65_3 rfl rfl ?_
  exact s65L hd hf hl hp hn K (ps.length - (i + 1)) (i + 1) (by omega) (by omega) (by omega)
end Ms
