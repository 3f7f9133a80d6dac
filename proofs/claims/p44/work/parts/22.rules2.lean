section Rules2
variable {X : List Int32} {k pc : Nat} {L : c_Ls} {st : List Value} {h : c_Hp} {Q : c_O × c_Hp → Prop}
theorem e_cst {q : c_I} {v : Int} {len : Nat} {x : Int32} (hq : c_q k pc = some q) (hd : c_kd q = 0) (hs : c_stp c_ty c_nf X q pc L st h = some (pc + len, L, .int x :: st, h)) (hx : x = Int32.ofInt v) (K : c_Ev X k (pc + len) L (n_v v :: st) h Q) : c_Ev X k pc L st h Q := by
  subst hx
  exact e_st hq hd hs K
theorem e_callS {q : c_I} {mz : c_M} {as rest : List Value} {L0 : c_Ls} (hq : c_q k pc = some q) (hd : c_kd q = 4) (hz : c_P[q.2.1]? = some mz) (hs : c_isS q = true) (hn : Nat.ble (c_cn q) st.length = true) (ht : (st.take (c_cn q)).reverse = as) (hr : st.drop (c_cn q) = rest) (h8 : Nat.ble (rest.map fun v => v.category).sum 8 = true) (hL : c_ent as (c_mL mz) = L0)
    (he : L0.length = c_mL mz) (K : c_Ev X q.2.1 0 L0 [] h (c_after X k pc L rest Q)) : c_Ev X k pc L st h Q := by
  subst ht hr hL
  refine e_call hq hd hz ?_ rfl K
  unfold c_prt
  rw [if_neg (Nat.not_lt.mpr (Nat.le_of_ble_eq_true hn))]
  simp only
  rw [if_pos (Nat.le_of_ble_eq_true h8), hs]
  simp only [c_rcv, if_true]
  rw [if_pos he]
theorem e_callV {q : c_I} {mz : c_M} {a : Nat} {as rest fs : List Value} {L0 : c_Ls} (hq : c_q k pc = some q) (hd : c_kd q = 4) (hz : c_P[q.2.1]? = some mz) (hs : c_isS q = false) (hn : Nat.ble (c_cn q) st.length = true) (ht : (st.take (c_cn q)).reverse = .ref a :: as) (hr : st.drop (c_cn q) = rest) (h8 : Nat.ble (rest.map fun v => v.category).sum 8 = true) (o : c_ob h a (c_mk mz) fs) (hL : c_ent (.ref a :: as) (c_mL mz) = L0)
    (he : L0.length = c_mL mz) (K : c_Ev X q.2.1 0 L0 [] h (c_after X k pc L rest Q)) : c_Ev X k pc L st h Q := by
  subst hr hL
  refine e_call hq hd hz ?_ rfl K
  unfold c_prt
  rw [if_neg (Nat.not_lt.mpr (Nat.le_of_ble_eq_true hn))]
  simp only
  rw [if_pos (Nat.le_of_ble_eq_true h8), hs, ht]
  simp only [c_rcv, o.fs, Option.isSome_some]
  rw [if_pos (show (if false = true then true else true) = true from rfl), if_pos he]
theorem e_k {v : Value} {rest : List Value} {h1 : c_Hp} (K : c_Ev X k (pc + 3) L (v :: rest) h1 Q) : c_after X k pc L rest Q (.inl (some v), h1) := K
theorem e_k0 {rest : List Value} {h1 : c_Hp} (K : c_Ev X k (pc + 3) L rest h1 Q) : c_after X k pc L rest Q (.inl none, h1) := K
end Rules2
theorem n_t_eq {a b : Int} (h : a = b) : n_cmp .eq a b = true := decide_eq_true h
theorem n_f_eq {a b : Int} (h : ¬ (a = b)) : n_cmp .eq a b = false := decide_eq_false h
theorem n_t_ne {a b : Int} (h : ¬ a = b) : n_cmp .ne a b = true := decide_eq_true h
theorem n_f_ne {a b : Int} (h : ¬ (¬ a = b)) : n_cmp .ne a b = false := decide_eq_false h
theorem n_t_lt {a b : Int} (h : a < b) : n_cmp .lt a b = true := decide_eq_true h
theorem n_f_lt {a b : Int} (h : ¬ (a < b)) : n_cmp .lt a b = false := decide_eq_false h
theorem n_t_ge {a b : Int} (h : b ≤ a) : n_cmp .ge a b = true := decide_eq_true h
theorem n_f_ge {a b : Int} (h : ¬ (b ≤ a)) : n_cmp .ge a b = false := decide_eq_false h
theorem n_t_gt {a b : Int} (h : b < a) : n_cmp .gt a b = true := decide_eq_true h
theorem n_f_gt {a b : Int} (h : ¬ (b < a)) : n_cmp .gt a b = false := decide_eq_false h
theorem n_t_le {a b : Int} (h : a ≤ b) : n_cmp .le a b = true := decide_eq_true h
theorem n_f_le {a b : Int} (h : ¬ (a ≤ b)) : n_cmp .le a b = false := decide_eq_false h
