/-! The law's great loop: what holds at its head; its end. -/
section Ms
variable {X : List Int32} {h : c_Hp} {Q : c_O × c_Hp → Prop}
/-- what holds at the head of the great loop: the object is as the law's own rows hd (capacities, at a5), rw (balls, at a6) and kept (at a7: the rows g i, holding kr i) say -/
def m_I (h : c_Hp) (n : Nat) (rg : Int) (many a5 a6 a7 : Nat) (hd rw : Nat → Int) (g : Nat → Nat) (kr : Nat → Nat → Int) : Prop :=
  ((1 ≤ n ∧ n ≤ 24) ∧ (rg = 0 ∨ rg = 1) ∧ many ≤ 8 ∧ (58 ≤ a5 ∧ 58 ≤ a6 ∧ 58 ≤ a7) ∧ (a5 ≠ a6 ∧ a5 ≠ a7 ∧ a6 ≠ a7) ∧ ∀ i, i < 8 → 58 ≤ g i ∧ g i ≠ a5 ∧ g i ≠ a6 ∧ g i ≠ a7) ∧
  c_ar h a5 n hd ∧ c_ar h a6 n rw ∧ c_aa h a7 8 g ∧ (∀ i, i < 8 → c_ar h (g i) n (kr i)) ∧
  ∃ (cf bf : Nat → Int) (H : Nat → Nat → Int), m_St h n rg cf bf many H ∧ (∀ t, t < n → cf t = hd t ∧ bf t = rw t) ∧ ∀ j, 1 ≤ j → j ≤ many → ∀ t, t < n → H j t = kr (many - j) t
theorem c_aa.new (h : c_Hp) (n m : Nat) : c_aa ((h ++ [some (.inr (2, (List.range n).map (fun j => Value.ref (h.length + 1 + j))))]) ++ List.replicate n (n_arr m (fun _ => 0))) h.length n (fun t => h.length + 1 + t) := by
  unfold c_aa
  rw [List.append_assoc, List.getElem?_append_right (Nat.le_refl _), Nat.sub_self]
  rfl
theorem c_ar.newi (h : c_Hp) (n m i : Nat) (hi : i < n) : c_ar ((h ++ [some (.inr (2, (List.range n).map (fun j => Value.ref (h.length + 1 + j))))]) ++ List.replicate n (n_arr m (fun _ => 0))) (h.length + 1 + i) m (fun _ => 0) := by
  unfold c_ar
  rw [List.getElem?_append_right (by simp <;> omega), List.getElem?_replicate, if_pos (by simp <;> omega)]
theorem m_bd.mnew {h : c_Hp} {N M n m : Nat} (b : m_bd h N M) : m_bd ((h ++ [some (.inr (2, (List.range n).map (fun j => Value.ref (h.length + 1 + j))))]) ++ List.replicate n (n_arr m (fun _ => 0))) (N + 1 + n) (M + n + n * m) := by
  obtain ⟨b1, b2, b3⟩ := b
  refine ⟨by simp; omega, by simp; omega, ?_⟩
  have e1 : ∀ n : Nat, c_msz (List.replicate n (n_arr m (fun _ => 0))) = n * m := by
    intro n
    induction n with
    | zero => simp [c_msz]
    | succ n ih =>
      rw [List.replicate_succ, show c_msz (n_arr m (fun _ => 0) :: List.replicate n (n_arr m (fun _ => 0))) = c_sz (n_arr m (fun _ => 0)) + c_msz (List.replicate n (n_arr m (fun _ => 0))) by simp [c_msz], ih, n_arr_sz, Nat.succ_mul]
      omega
  have e2 : c_msz [(some (.inr (2, (List.range n).map (fun j => Value.ref (h.length + 1 + j)))) : c_Cell)] = n := by simp [c_msz, c_sz]
  rw [c_msz_app2, c_msz_app2, e1, e2]
  omega
theorem s83c {n : Nat} {rg : Int} {a5 a6 : Nat} {cf bf hd rw : Nat → Int} {x8 : Option Value} (hn : 1 ≤ n ∧ n ≤ 24) (hrg : rg = 0 ∨ rg = 1) (h5 : 58 ≤ a5) (h6 : a5 < a6) (hW : m_St h n rg cf bf 0 (fun _ _ => 0)) (bd : m_bd h 124 4144) (ar5 : c_ar h a5 n hd) (ar6 : c_ar h a6 n rw) (hx : ∀ t, t < n → cf t = hd t ∧ bf t = rw t)
    (K : ∀ (h1 : c_Hp) (a7 : Nat) (g : Nat → Nat) (kr : Nat → Nat → Int), m_I h1 n rg 0 a5 a6 a7 hd rw g kr → m_bd h1 140 5000 → c_Ev X 83 296 [some (.retAddr 0), some (.ref 0), some (n_v ↑n), some (n_v rg), some (n_v 1), some (.ref a5), some (.ref a6), some (.ref a7), some (n_v ↑(0 : Nat)), some (n_v ↑(0 : Nat)), none, none, none, none, none, none, none, none, none, none, none, none, none] [] h1 Q) : c_Ev X 83 281 [some (.retAddr 0), some (.ref 0), some (n_v ↑n), some (n_v rg), some (n_v 1), some (.ref a5), some (.ref a6), some (n_v ↑n), x8, none, none, none, none, none, none, none, none, none, none, none, none, none, none] [] h Q := by
  refine e_cst (v := 8) (len := 2) (pc := 281) q83_281 rfl rfl (by decide +kernel) ?_
  refine e_st (pc := 283) q83_283 rfl rfl ?_
  have l5 := c_at_lt ar5
  have l6 := c_at_lt ar6
  refine e_mnew (n := 8) (m := n) (pc := 284) q83_284 (by omega) (by omega) ?_
  have gw := (c_gw.app h ([some (.inr (2, (List.range 8).map (fun j => Value.ref (h.length + 1 + j))))] ++ List.replicate 8 (n_arr n (fun _ => 0))))
  rw [← List.append_assoc] at gw
  have hW := hW.gw gw (by simp)
  have ar5 := ar5.gw gw (by simp)
  have ar6 := ar6.gw gw (by simp)
  have bd2 := bd.mnew (n := 8) (m := n)
  have aa := c_aa.new h 8 n
  have ark := fun i => c_ar.newi h 8 n i
  have hb1 := bd.1
  generalize (h ++ [some (.inr (2, (List.range 8).map (fun j => Value.ref (h.length + 1 + j))))]) ++ List.replicate 8 (n_arr n (fun _ => 0)) = h1 at hW ar5 ar6 bd2 aa ark ⊢
  refine e_st (pc := 288) (L2 := [some (.retAddr 0), some (.ref 0), some (n_v ↑n), some (n_v rg), some (n_v 1), some (.ref a5), some (.ref a6), some (.ref h.length), x8, none, none, none, none, none, none, none, none, none, none, none, none, none, none]) q83_288 rfl rfl ?_
  refine e_cst (v := 0) (len := 1) (pc := 290) q83_290 rfl rfl rfl ?_
  refine e_st (pc := 291) (L2 := [some (.retAddr 0), some (.ref 0), some (n_v ↑n), some (n_v rg), some (n_v 1), some (.ref a5), some (.ref a6), some (.ref h.length), some (n_v 0), none, none, none, none, none, none, none, none, none, none, none, none, none, none]) q83_291 rfl rfl ?_
  refine e_cst (v := 0) (len := 1) (pc := 293) q83_293 rfl rfl rfl ?_
  refine e_st (pc := 294) (L2 := [some (.retAddr 0), some (.ref 0), some (n_v ↑n), some (n_v rg), some (n_v 1), some (.ref a5), some (.ref a6), some (.ref h.length), some (n_v 0), some (n_v 0), none, none, none, none, none, none, none, none, none, none, none, none, none]) q83_294 rfl rfl ?_
  exact K h1 h.length _ (fun _ _ => 0) ⟨⟨hn, hrg, by omega, ⟨by omega, by omega, by omega⟩, ⟨by omega, by omega, by omega⟩, fun i hi => ⟨by omega, by omega, by omega, by omega⟩⟩, ar5, ar6, aa, ark, cf, bf, fun _ _ => 0, hW, hx, fun j j1 j2 => by omega⟩ (bd2.mono (by omega) (by omega))
theorem s83z {n : Nat} {rg : Int} {many a5 a6 a7 : Nat} {hd rw : Nat → Int} {g : Nat → Nat} {kr : Nat → Nat → Int} {x9 x10 x11 x12 x13 x14 x15 x16 x17 x18 x19 x20 x21 x22 : Option Value} {N M : Nat} (hI : m_I h n rg many a5 a6 a7 hd rw g kr) (bd : m_bd h N M) (K : ∀ h1, m_bd h1 (N + 3) (M + 18) → Q (.inl (some (n_v 1)), h1)) : c_Ev X 83 976 [some (.retAddr 0), some (.ref 0), some (n_v ↑n), some (n_v rg), some (n_v 1), some (.ref a5), some (.ref a6), some (.ref a7), some (n_v ↑many), x9, x10, x11, x12, x13, x14, x15, x16, x17, x18, x19, x20, x21, x22] [] h Q := by
  obtain ⟨-, -, -, -, -, cf, bf, H, hW, -, -⟩ := hI
  refine e_st (pc := 976) q83_976 rfl rfl ?_
  refine e_if false (pc := 978) q83_978 ⟨by omega, by omega⟩ (n_f_eq (by omega)) ?_
  refine e_st (pc := 981) q83_981 rfl rfl ?_
  refine e_cst (v := 0) (len := 1) (pc := 982) q83_982 rfl rfl rfl ?_
  refine e_callS (pc := 983) (mz := c_m73) (L0 := [some (.ref 0), some (n_v 0), none]) (rest := []) q83_983 rfl rfl rfl rfl rfl rfl rfl rfl rfl ?_
  refine s73 hW (by omega) (fun _ h1 x1 hW => ?_) (fun e1 => by omega) (fun e1 => by omega)
  refine e_k (pc := 983) ?_
  have bd := bd.xt x1
  refine e_cst (v := -900001) (len := 2) (pc := 986) q83_986 rfl rfl (by decide +kernel) ?_
  refine e_cmp false (pc := 988) q83_988 ⟨by omega, by omega⟩ ⟨by omega, by omega⟩ (n_f_ne (by omega)) ?_
  refine e_st (pc := 991) q83_991 rfl rfl ?_
  refine e_cst (v := 100) (len := 2) (pc := 992) q83_992 rfl rfl (by decide +kernel) ?_
  refine e_callS (pc := 994) (mz := c_m74) (L0 := [some (.ref 0), some (n_v 100), none]) (rest := []) q83_994 rfl rfl rfl rfl rfl rfl rfl rfl rfl ?_
  refine s74 hW (by omega) (fun _ h2 x2 hW => ?_) (fun _ e1 => by omega) (fun _ e1 => by omega)
  refine e_k (pc := 994) ?_
  have bd := bd.xt x2
  refine e_cst (v := -900001) (len := 2) (pc := 997) q83_997 rfl rfl (by decide +kernel) ?_
  refine e_cmp false (pc := 999) q83_999 ⟨by omega, by omega⟩ ⟨by omega, by omega⟩ (n_f_ne (by omega)) ?_
  refine e_st (pc := 1002) q83_1002 rfl rfl ?_
  refine e_cst (v := 0) (len := 1) (pc := 1003) q83_1003 rfl rfl rfl ?_
  refine e_cst (v := 1) (len := 1) (pc := 1004) q83_1004 rfl rfl rfl ?_
  refine e_callS (pc := 1005) (mz := c_m75) (L0 := [some (.ref 0), some (n_v 0), some (n_v 1), none]) (rest := []) q83_1005 rfl rfl rfl rfl rfl rfl rfl rfl rfl ?_
  refine s75 hW (fun h3 x3 hW => ?_)
  refine e_k (pc := 1005) ?_
  have bd := bd.xt x3
  refine e_cst (v := -900001) (len := 2) (pc := 1008) q83_1008 rfl rfl (by decide +kernel) ?_
  refine e_cmp false (pc := 1010) q83_1010 ⟨by omega, by omega⟩ ⟨by omega, by omega⟩ (n_f_ne (by omega)) ?_
  refine e_st (pc := 1013) q83_1013 rfl rfl ?_
  obtain ⟨⟨hn, hrg, hk, hbf, hH⟩, ho, hr, hc, hb, -, -, -, hS, hZ, wy, hy⟩ := id hW
  refine e_callV (pc := 1014) (mz := c_m13) (a := 0) (L0 := [some (.ref 0)]) (rest := []) q83_1014 rfl rfl rfl rfl rfl rfl rfl ho rfl rfl ?_
  refine s13 ho hr hc hb (by omega) hrg hbf hS hZ hy (fun h4 c4 => ?_)
  refine e_k (pc := 1014) ?_
  have bd := bd.xt (c_xt.ofch c4)
  refine e_if false (pc := 1017) q83_1017 ⟨by omega, by omega⟩ (n_f_eq (by omega)) ?_
  refine e_cst (v := 1) (len := 1) (pc := 1020) q83_1020 rfl rfl rfl ?_
  refine e_st (pc := 1021) q83_1021 rfl rfl ?_
  refine e_iret (pc := 1025) q83_1025 rfl rfl rfl (by decide +kernel) ?_
  exact K h4 (bd.mono (by omega) (by omega))
theorem s83k {n : Nat} {rg : Int} {mk a5 a6 a7 it ac ca : Nat} {g : Nat → Nat} {kg : Nat → Int} {x13 x14 x15 x16 x17 x18 x19 x20 x21 x22 : Option Value} (hn : n ≤ 24) (hm : mk < 8) (hne : a6 ≠ a7 ∧ g mk ≠ a6) (aa0 : c_aa h a7 8 g) (ak0 : c_ar h (g mk) n kg)
    (K : ∀ (h1 : c_Hp) (rw : Nat → Int), c_ch h h1 [a6] → c_ar h1 a6 n rw → (∀ t, t < n → rw t = kg t) → c_Ev X 83 421 [some (.retAddr 0), some (.ref 0), some (n_v ↑n), some (n_v rg), some (n_v 1), some (.ref a5), some (.ref a6), some (.ref a7), some (n_v ↑mk), some (n_v ↑it), some (n_v ↑ac), some (n_v ↑ca), some (n_v ↑n), x13, x14, x15, x16, x17, x18, x19, x20, x21, x22] [] h1 Q) :
  ∀ (m v : Nat) (h1 : c_Hp) (rw : Nat → Int), v + m = n → c_ch h h1 [a6] → c_ar h1 a6 n rw → (∀ q, q < v → rw q = kg q) → c_Ev X 83 396 [some (.retAddr 0), some (.ref 0), some (n_v ↑n), some (n_v rg), some (n_v 1), some (.ref a5), some (.ref a6), some (.ref a7), some (n_v ↑mk), some (n_v ↑it), some (n_v ↑ac), some (n_v ↑ca), some (n_v ↑v), x13, x14, x15, x16, x17, x18, x19, x20, x21, x22] [] h1 Q
  | 0, v, h1, rw, e, hch, ar, hx => by
    have aa := aa0.ch hch (by simp; omega)
    have ak := ak0.ch hch (by simp; omega)
    refine e_st (pc := 396) q83_396 rfl rfl ?_
    refine e_st (pc := 398) q83_398 rfl rfl ?_
    refine e_cmp true (pc := 399) q83_399 ⟨by omega, by omega⟩ ⟨by omega, by omega⟩ (n_t_ge (by omega)) ?_
    have e2 : v = n := by omega
    subst e2
    exact K h1 rw hch ar hx
  | m + 1, v, h0, rw, e, hch, ar, hx => by
    have aa := aa0.ch hch (by simp; omega)
    have ak := ak0.ch hch (by simp; omega)
    refine e_st (pc := 396) q83_396 rfl rfl ?_
    refine e_st (pc := 398) q83_398 rfl rfl ?_
    refine e_cmp false (pc := 399) q83_399 ⟨by omega, by omega⟩ ⟨by omega, by omega⟩ (n_f_ge (by omega)) ?_
    refine e_st (pc := 402) q83_402 rfl rfl ?_
    refine e_st (pc := 404) q83_404 rfl rfl ?_
    refine e_st (pc := 406) q83_406 rfl rfl ?_
    refine e_st (pc := 408) q83_408 rfl rfl ?_
    refine e_aald (pc := 410) (j := mk) q83_410 aa (by omega) (by omega) (by omega) ?_
    refine e_st (pc := 411) q83_411 rfl rfl ?_
    refine e_ald (pc := 413) (j := v) q83_413 ak (by omega) (by omega) (by omega) ?_
    refine e_ast (pc := 414) (j := v) q83_414 ar (by omega) (by omega) (by omega) (fun h1 u1 => ?_)
    have ak := ak.up u1 (by omega)
    have aa := aa.up u1 (by omega)
    have ar : c_ar h1 a6 n (fun t => if t = v then (kg v) else rw t) := u1.2.1
    refine e_inc (pc := 415) (L2 := [some (.retAddr 0), some (.ref 0), some (n_v ↑n), some (n_v rg), some (n_v 1), some (.ref a5), some (.ref a6), some (.ref a7), some (n_v ↑mk), some (n_v ↑it), some (n_v ↑ac), some (n_v ↑ca), some (n_v (↑v + 1)), x13, x14, x15, x16, x17, x18, x19, x20, x21, x22]) q83_415 rfl rfl ?_
    refine e_st (pc := 418) q83_418 rfl rfl ?_
    refine s83k hn hm hne aa0 ak0 K m (v + 1) h1 _ (by omega) (hch.up u1 (by simp)) ar (fun q hq => ?_)
    by_cases e2 : q = v
    · rw [if_pos e2, e2]
    · rw [if_neg e2]
      exact hx q (by omega)
end Ms
