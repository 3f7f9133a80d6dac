set_option maxRecDepth 100000
def k_slot (v : Value) : c_Cell := some (.inr (0, List.replicate 10 v ++ List.replicate 50 (.int 0)))
def k_7 (h : c_Hp) (q n r0 r1 r2 r3 r4 r5 r6 r7 : Value) : c_Hp := h.take 4 ++ ([some (.inl (4, [.ref 5, .ref 14, q, n])), some (.inr (2, [.ref 6, .ref 7, .ref 8, .ref 9, .ref 10, .ref 11, .ref 12, .ref 13])), k_slot r0, k_slot r1, k_slot r2, k_slot r3, k_slot r4, k_slot r5, k_slot r6, k_slot r7] ++ h.drop 14)
def k_rr (k i : Nat) : Value := .int (if k < i then 1 else 0)
def K_7 (h : c_Hp) (i : Nat) : c_Hp := k_7 h (.int (Int32.ofNat (min i 8))) (.int (Int32.ofNat (i % 8))) (k_rr 0 i) (k_rr 1 i) (k_rr 2 i) (k_rr 3 i) (k_rr 4 i) (k_rr 5 i) (k_rr 6 i) (k_rr 7 i)
theorem i7_c0 : c_pre ([(23, .retAddr 16, .retAddr 11, .int 0), (1, .int 0, .retAddr 12, .retAddr 18), (30, .int 0, .retAddr 18, .int 0), (0, .retAddr 19, .int 1, .retAddr 20), (31, .retAddr 20, .int 8, .retAddr 21), (0, .retAddr 16, .int 1, .retAddr 17)], x_xs) 2000 c_m8 15 16 [some (.ref 0), some (.retAddr 11), some (.retAddr 12), some (.retAddr 16)] [] (k_7 t_h0 (.retAddr 19) (.int 0) (.retAddr 22) (.retAddr 23) (.retAddr 24) (.retAddr 25) (.retAddr 26) (.retAddr 27) (.retAddr 28) (.retAddr 29)) = some (16, [some (.ref 0), some (.retAddr 11), some (.retAddr 12), some (.retAddr 17)], [], (k_7 t_h0 (.retAddr 21) (.int 1) (.int 1) (.retAddr 23) (.retAddr 24) (.retAddr 25) (.retAddr 26) (.retAddr 27) (.retAddr 28) (.retAddr 29))) := c_eqR_ok (by decide +kernel)
theorem i7_c1 : c_pre ([(23, .retAddr 16, .retAddr 11, .int 0), (1, .int 0, .retAddr 12, .retAddr 18), (30, .int 0, .retAddr 18, .int 0), (0, .retAddr 19, .int 1, .retAddr 20), (31, .retAddr 20, .int 8, .retAddr 21), (0, .retAddr 16, .int 1, .retAddr 17)], x_xs) 2000 c_m8 15 16 [some (.ref 0), some (.retAddr 11), some (.retAddr 12), some (.retAddr 16)] [] (k_7 t_h0 (.retAddr 19) (.int 1) (.retAddr 22) (.retAddr 23) (.retAddr 24) (.retAddr 25) (.retAddr 26) (.retAddr 27) (.retAddr 28) (.retAddr 29)) = some (16, [some (.ref 0), some (.retAddr 11), some (.retAddr 12), some (.retAddr 17)], [], (k_7 t_h0 (.retAddr 21) (.int 2) (.retAddr 22) (.int 1) (.retAddr 24) (.retAddr 25) (.retAddr 26) (.retAddr 27) (.retAddr 28) (.retAddr 29))) := c_eqR_ok (by decide +kernel)
theorem i7_c2 : c_pre ([(23, .retAddr 16, .retAddr 11, .int 0), (1, .int 0, .retAddr 12, .retAddr 18), (30, .int 0, .retAddr 18, .int 0), (0, .retAddr 19, .int 1, .retAddr 20), (31, .retAddr 20, .int 8, .retAddr 21), (0, .retAddr 16, .int 1, .retAddr 17)], x_xs) 2000 c_m8 15 16 [some (.ref 0), some (.retAddr 11), some (.retAddr 12), some (.retAddr 16)] [] (k_7 t_h0 (.retAddr 19) (.int 2) (.retAddr 22) (.retAddr 23) (.retAddr 24) (.retAddr 25) (.retAddr 26) (.retAddr 27) (.retAddr 28) (.retAddr 29)) = some (16, [some (.ref 0), some (.retAddr 11), some (.retAddr 12), some (.retAddr 17)], [], (k_7 t_h0 (.retAddr 21) (.int 3) (.retAddr 22) (.retAddr 23) (.int 1) (.retAddr 25) (.retAddr 26) (.retAddr 27) (.retAddr 28) (.retAddr 29))) := c_eqR_ok (by decide +kernel)
theorem i7_c3 : c_pre ([(23, .retAddr 16, .retAddr 11, .int 0), (1, .int 0, .retAddr 12, .retAddr 18), (30, .int 0, .retAddr 18, .int 0), (0, .retAddr 19, .int 1, .retAddr 20), (31, .retAddr 20, .int 8, .retAddr 21), (0, .retAddr 16, .int 1, .retAddr 17)], x_xs) 2000 c_m8 15 16 [some (.ref 0), some (.retAddr 11), some (.retAddr 12), some (.retAddr 16)] [] (k_7 t_h0 (.retAddr 19) (.int 3) (.retAddr 22) (.retAddr 23) (.retAddr 24) (.retAddr 25) (.retAddr 26) (.retAddr 27) (.retAddr 28) (.retAddr 29)) = some (16, [some (.ref 0), some (.retAddr 11), some (.retAddr 12), some (.retAddr 17)], [], (k_7 t_h0 (.retAddr 21) (.int 4) (.retAddr 22) (.retAddr 23) (.retAddr 24) (.int 1) (.retAddr 26) (.retAddr 27) (.retAddr 28) (.retAddr 29))) := c_eqR_ok (by decide +kernel)
theorem i7_c4 : c_pre ([(23, .retAddr 16, .retAddr 11, .int 0), (1, .int 0, .retAddr 12, .retAddr 18), (30, .int 0, .retAddr 18, .int 0), (0, .retAddr 19, .int 1, .retAddr 20), (31, .retAddr 20, .int 8, .retAddr 21), (0, .retAddr 16, .int 1, .retAddr 17)], x_xs) 2000 c_m8 15 16 [some (.ref 0), some (.retAddr 11), some (.retAddr 12), some (.retAddr 16)] [] (k_7 t_h0 (.retAddr 19) (.int 4) (.retAddr 22) (.retAddr 23) (.retAddr 24) (.retAddr 25) (.retAddr 26) (.retAddr 27) (.retAddr 28) (.retAddr 29)) = some (16, [some (.ref 0), some (.retAddr 11), some (.retAddr 12), some (.retAddr 17)], [], (k_7 t_h0 (.retAddr 21) (.int 5) (.retAddr 22) (.retAddr 23) (.retAddr 24) (.retAddr 25) (.int 1) (.retAddr 27) (.retAddr 28) (.retAddr 29))) := c_eqR_ok (by decide +kernel)
theorem i7_c5 : c_pre ([(23, .retAddr 16, .retAddr 11, .int 0), (1, .int 0, .retAddr 12, .retAddr 18), (30, .int 0, .retAddr 18, .int 0), (0, .retAddr 19, .int 1, .retAddr 20), (31, .retAddr 20, .int 8, .retAddr 21), (0, .retAddr 16, .int 1, .retAddr 17)], x_xs) 2000 c_m8 15 16 [some (.ref 0), some (.retAddr 11), some (.retAddr 12), some (.retAddr 16)] [] (k_7 t_h0 (.retAddr 19) (.int 5) (.retAddr 22) (.retAddr 23) (.retAddr 24) (.retAddr 25) (.retAddr 26) (.retAddr 27) (.retAddr 28) (.retAddr 29)) = some (16, [some (.ref 0), some (.retAddr 11), some (.retAddr 12), some (.retAddr 17)], [], (k_7 t_h0 (.retAddr 21) (.int 6) (.retAddr 22) (.retAddr 23) (.retAddr 24) (.retAddr 25) (.retAddr 26) (.int 1) (.retAddr 28) (.retAddr 29))) := c_eqR_ok (by decide +kernel)
theorem i7_c6 : c_pre ([(23, .retAddr 16, .retAddr 11, .int 0), (1, .int 0, .retAddr 12, .retAddr 18), (30, .int 0, .retAddr 18, .int 0), (0, .retAddr 19, .int 1, .retAddr 20), (31, .retAddr 20, .int 8, .retAddr 21), (0, .retAddr 16, .int 1, .retAddr 17)], x_xs) 2000 c_m8 15 16 [some (.ref 0), some (.retAddr 11), some (.retAddr 12), some (.retAddr 16)] [] (k_7 t_h0 (.retAddr 19) (.int 6) (.retAddr 22) (.retAddr 23) (.retAddr 24) (.retAddr 25) (.retAddr 26) (.retAddr 27) (.retAddr 28) (.retAddr 29)) = some (16, [some (.ref 0), some (.retAddr 11), some (.retAddr 12), some (.retAddr 17)], [], (k_7 t_h0 (.retAddr 21) (.int 7) (.retAddr 22) (.retAddr 23) (.retAddr 24) (.retAddr 25) (.retAddr 26) (.retAddr 27) (.int 1) (.retAddr 29))) := c_eqR_ok (by decide +kernel)
theorem i7_c7 : c_pre ([(23, .retAddr 16, .retAddr 11, .int 0), (1, .int 0, .retAddr 12, .retAddr 18), (30, .int 0, .retAddr 18, .int 0), (0, .retAddr 19, .int 1, .retAddr 20), (31, .retAddr 20, .int 8, .retAddr 21), (0, .retAddr 16, .int 1, .retAddr 17)], x_xs) 2000 c_m8 15 16 [some (.ref 0), some (.retAddr 11), some (.retAddr 12), some (.retAddr 16)] [] (k_7 t_h0 (.retAddr 19) (.int 7) (.retAddr 22) (.retAddr 23) (.retAddr 24) (.retAddr 25) (.retAddr 26) (.retAddr 27) (.retAddr 28) (.retAddr 29)) = some (16, [some (.ref 0), some (.retAddr 11), some (.retAddr 12), some (.retAddr 17)], [], (k_7 t_h0 (.retAddr 21) (.int 0) (.retAddr 22) (.retAddr 23) (.retAddr 24) (.retAddr 25) (.retAddr 26) (.retAddr 27) (.retAddr 28) (.int 1))) := c_eqR_ok (by decide +kernel)
theorem i7_cx : c_go c_P ([(23, .retAddr 16, .retAddr 11, .int 1)], x_xs) 100 c_m8 16 [some (.ref 0), some (.retAddr 11), some (.retAddr 12), some (.retAddr 16)] [] (k_7 t_h0 (.retAddr 19) (.retAddr 33) (.retAddr 22) (.retAddr 23) (.retAddr 24) (.retAddr 25) (.retAddr 26) (.retAddr 27) (.retAddr 28) (.retAddr 29)) = some (.inl (some (.retAddr 16)), (k_7 t_h0 (.retAddr 19) (.retAddr 33) (.retAddr 22) (.retAddr 23) (.retAddr 24) (.retAddr 25) (.retAddr 26) (.retAddr 27) (.retAddr 28) (.retAddr 29))) := c_eqO_ok (by decide +kernel)
theorem k_min9 : ∀ k, k < 9 → m_min (Int32.ofNat k + 1) 8 = some (Int32.ofNat (min (k + 1) 8)) := by decide +kernel
theorem k_min (i : Nat) : m_min (Int32.ofNat (min i 8) + 1) 8 = some (Int32.ofNat (min (i + 1) 8)) := by
  rw [k_min9 (min i 8) (by omega), show min (min i 8 + 1) 8 = min (i + 1) 8 from by omega]
theorem k_rr_s {k i : Nat} (h : k ≠ i) : k_rr k (i + 1) = k_rr k i := by
  unfold k_rr
  by_cases h1 : k < i
  · rw [if_pos h1, if_pos (by omega)]
  · rw [if_neg h1, if_neg (by omega)]
theorem k_rr_1 {k i : Nat} (h : k ≤ i) : k_rr k (i + 1) = .int 1 := by
  unfold k_rr
  rw [if_pos (by omega)]
theorem i7_class {a0 a2 a3 a4 a5 : Int32} {s : Nat} (hs : s < 100) (hc : 0 ≤ a2.toInt) : ∀ (j i : Nat), i + j = s → c_T [a0, Int32.ofNat s, a2, a3, a4, a5] c_m8 16 [some (.ref 0), some (.int (Int32.ofNat s)), some (.int a2), some (.int (Int32.ofNat (i)))] [] (K_7 t_h0 i) (.inl (some (.int (Int32.ofNat s))), K_7 t_h0 s)
  | 0, i, e => by
    have e0 : s = i := by omega
    subst e0
    have F : ∀ f ∈ ([(23, .retAddr 16, .retAddr 11, .int 1)] : List c_F), c_hold (c_BB [a0, Int32.ofNat s, a2, a3, a4, a5] [Int32.ofNat (s), Int32.ofNat (s + 1), 0 - a2, Int32.ofNat (min (s) 8), Int32.ofNat (min (s) 8) + 1, Int32.ofNat (min (s + 1) 8), (if 0 < s then 1 else 0), (if 1 < s then 1 else 0), (if 2 < s then 1 else 0), (if 3 < s then 1 else 0), (if 4 < s then 1 else 0), (if 5 < s then 1 else 0), (if 6 < s then 1 else 0), (if 7 < s then 1 else 0), 0, 0, 0, Int32.ofNat (s % 8)]) f := List.forall_mem_cons.mpr ⟨o_ge1 (i := s) (s := s) rfl rfl (by omega) (by omega) (by omega), fun _ h => nomatch h⟩
    exact (x_Run.fin F i7_cx).t rfl rfl rfl rfl
  | j + 1, i, e => by
    have F : ∀ f ∈ ([(23, .retAddr 16, .retAddr 11, .int 0), (1, .int 0, .retAddr 12, .retAddr 18), (30, .int 0, .retAddr 18, .int 0), (0, .retAddr 19, .int 1, .retAddr 20), (31, .retAddr 20, .int 8, .retAddr 21), (0, .retAddr 16, .int 1, .retAddr 17)] : List c_F), c_hold (c_BB [a0, Int32.ofNat s, a2, a3, a4, a5] [Int32.ofNat (i), Int32.ofNat (i + 1), 0 - a2, Int32.ofNat (min (i) 8), Int32.ofNat (min (i) 8) + 1, Int32.ofNat (min (i + 1) 8), (if 0 < i then 1 else 0), (if 1 < i then 1 else 0), (if 2 < i then 1 else 0), (if 3 < i then 1 else 0), (if 4 < i then 1 else 0), (if 5 < i then 1 else 0), (if 6 < i then 1 else 0), (if 7 < i then 1 else 0), 0, 0, 0, Int32.ofNat (i % 8)]) f := (List.forall_mem_cons.mpr ⟨o_ge (i := i) (s := s) rfl rfl (by omega) (by omega) (by omega), (List.forall_mem_cons.mpr ⟨⟨0, a2, 0 - a2, rfl, rfl, rfl, rfl⟩, (List.forall_mem_cons.mpr ⟨f_max0 (a := a2) rfl rfl hc, (List.forall_mem_cons.mpr ⟨⟨Int32.ofNat (min i 8), 1, Int32.ofNat (min i 8) + 1, rfl, rfl, rfl, rfl⟩, (List.forall_mem_cons.mpr ⟨⟨Int32.ofNat (min i 8) + 1, 8, Int32.ofNat (min (i + 1) 8), rfl, rfl, k_min i, rfl⟩, (List.forall_mem_cons.mpr ⟨o_inc (i := i) rfl rfl, (fun _ h => nomatch h)⟩)⟩)⟩)⟩)⟩)⟩)
    have ih := i7_class (a0 := a0) (a2 := a2) (a3 := a3) (a4 := a4) (a5 := a5) hs hc j (i + 1) (by omega)
    have h8 : i % 8 < 8 := Nat.mod_lt _ (by decide)
    match hq : i % 8, h8 with
    | 0, _ =>
      have e1 : K_7 t_h0 (i + 1) = k_7 t_h0 (.int (Int32.ofNat (min (i + 1) 8))) (.int (Int32.ofNat 1)) (.int 1) (k_rr 1 i) (k_rr 2 i) (k_rr 3 i) (k_rr 4 i) (k_rr 5 i) (k_rr 6 i) (k_rr 7 i) := by
        unfold K_7
        rw [show (i + 1) % 8 = 1 from by omega, k_rr_1 (k := 0) (i := i) (by omega), k_rr_s (k := 1) (i := i) (by omega), k_rr_s (k := 2) (i := i) (by omega), k_rr_s (k := 3) (i := i) (by omega), k_rr_s (k := 4) (i := i) (by omega), k_rr_s (k := 5) (i := i) (by omega), k_rr_s (k := 6) (i := i) (by omega), k_rr_s (k := 7) (i := i) (by omega)]
      have e2 : K_7 t_h0 i = k_7 t_h0 (.int (Int32.ofNat (min i 8))) (.int (Int32.ofNat 0)) (k_rr 0 i) (k_rr 1 i) (k_rr 2 i) (k_rr 3 i) (k_rr 4 i) (k_rr 5 i) (k_rr 6 i) (k_rr 7 i) := by
        unfold K_7
        rw [hq]
      rw [e1] at ih
      rw [e2]
      exact (x_Run.pre F i7_c0 (ih.x (x := [Int32.ofNat (i), Int32.ofNat (i + 1), 0 - a2, Int32.ofNat (min (i) 8), Int32.ofNat (min (i) 8) + 1, Int32.ofNat (min (i + 1) 8), (if 0 < i then 1 else 0), (if 1 < i then 1 else 0), (if 2 < i then 1 else 0), (if 3 < i then 1 else 0), (if 4 < i then 1 else 0), (if 5 < i then 1 else 0), (if 6 < i then 1 else 0), (if 7 < i then 1 else 0), 0, 0, 0, Int32.ofNat (i % 8)]) rfl rfl rfl)).t rfl rfl rfl rfl
    | 1, _ =>
      have e1 : K_7 t_h0 (i + 1) = k_7 t_h0 (.int (Int32.ofNat (min (i + 1) 8))) (.int (Int32.ofNat 2)) (k_rr 0 i) (.int 1) (k_rr 2 i) (k_rr 3 i) (k_rr 4 i) (k_rr 5 i) (k_rr 6 i) (k_rr 7 i) := by
        unfold K_7
        rw [show (i + 1) % 8 = 2 from by omega, k_rr_s (k := 0) (i := i) (by omega), k_rr_1 (k := 1) (i := i) (by omega), k_rr_s (k := 2) (i := i) (by omega), k_rr_s (k := 3) (i := i) (by omega), k_rr_s (k := 4) (i := i) (by omega), k_rr_s (k := 5) (i := i) (by omega), k_rr_s (k := 6) (i := i) (by omega), k_rr_s (k := 7) (i := i) (by omega)]
      have e2 : K_7 t_h0 i = k_7 t_h0 (.int (Int32.ofNat (min i 8))) (.int (Int32.ofNat 1)) (k_rr 0 i) (k_rr 1 i) (k_rr 2 i) (k_rr 3 i) (k_rr 4 i) (k_rr 5 i) (k_rr 6 i) (k_rr 7 i) := by
        unfold K_7
        rw [hq]
      rw [e1] at ih
      rw [e2]
      exact (x_Run.pre F i7_c1 (ih.x (x := [Int32.ofNat (i), Int32.ofNat (i + 1), 0 - a2, Int32.ofNat (min (i) 8), Int32.ofNat (min (i) 8) + 1, Int32.ofNat (min (i + 1) 8), (if 0 < i then 1 else 0), (if 1 < i then 1 else 0), (if 2 < i then 1 else 0), (if 3 < i then 1 else 0), (if 4 < i then 1 else 0), (if 5 < i then 1 else 0), (if 6 < i then 1 else 0), (if 7 < i then 1 else 0), 0, 0, 0, Int32.ofNat (i % 8)]) rfl rfl rfl)).t rfl rfl rfl rfl
    | 2, _ =>
      have e1 : K_7 t_h0 (i + 1) = k_7 t_h0 (.int (Int32.ofNat (min (i + 1) 8))) (.int (Int32.ofNat 3)) (k_rr 0 i) (k_rr 1 i) (.int 1) (k_rr 3 i) (k_rr 4 i) (k_rr 5 i) (k_rr 6 i) (k_rr 7 i) := by
        unfold K_7
        rw [show (i + 1) % 8 = 3 from by omega, k_rr_s (k := 0) (i := i) (by omega), k_rr_s (k := 1) (i := i) (by omega), k_rr_1 (k := 2) (i := i) (by omega), k_rr_s (k := 3) (i := i) (by omega), k_rr_s (k := 4) (i := i) (by omega), k_rr_s (k := 5) (i := i) (by omega), k_rr_s (k := 6) (i := i) (by omega), k_rr_s (k := 7) (i := i) (by omega)]
      have e2 : K_7 t_h0 i = k_7 t_h0 (.int (Int32.ofNat (min i 8))) (.int (Int32.ofNat 2)) (k_rr 0 i) (k_rr 1 i) (k_rr 2 i) (k_rr 3 i) (k_rr 4 i) (k_rr 5 i) (k_rr 6 i) (k_rr 7 i) := by
        unfold K_7
        rw [hq]
      rw [e1] at ih
      rw [e2]
      exact (x_Run.pre F i7_c2 (ih.x (x := [Int32.ofNat (i), Int32.ofNat (i + 1), 0 - a2, Int32.ofNat (min (i) 8), Int32.ofNat (min (i) 8) + 1, Int32.ofNat (min (i + 1) 8), (if 0 < i then 1 else 0), (if 1 < i then 1 else 0), (if 2 < i then 1 else 0), (if 3 < i then 1 else 0), (if 4 < i then 1 else 0), (if 5 < i then 1 else 0), (if 6 < i then 1 else 0), (if 7 < i then 1 else 0), 0, 0, 0, Int32.ofNat (i % 8)]) rfl rfl rfl)).t rfl rfl rfl rfl
    | 3, _ =>
      have e1 : K_7 t_h0 (i + 1) = k_7 t_h0 (.int (Int32.ofNat (min (i + 1) 8))) (.int (Int32.ofNat 4)) (k_rr 0 i) (k_rr 1 i) (k_rr 2 i) (.int 1) (k_rr 4 i) (k_rr 5 i) (k_rr 6 i) (k_rr 7 i) := by
        unfold K_7
        rw [show (i + 1) % 8 = 4 from by omega, k_rr_s (k := 0) (i := i) (by omega), k_rr_s (k := 1) (i := i) (by omega), k_rr_s (k := 2) (i := i) (by omega), k_rr_1 (k := 3) (i := i) (by omega), k_rr_s (k := 4) (i := i) (by omega), k_rr_s (k := 5) (i := i) (by omega), k_rr_s (k := 6) (i := i) (by omega), k_rr_s (k := 7) (i := i) (by omega)]
      have e2 : K_7 t_h0 i = k_7 t_h0 (.int (Int32.ofNat (min i 8))) (.int (Int32.ofNat 3)) (k_rr 0 i) (k_rr 1 i) (k_rr 2 i) (k_rr 3 i) (k_rr 4 i) (k_rr 5 i) (k_rr 6 i) (k_rr 7 i) := by
        unfold K_7
        rw [hq]
      rw [e1] at ih
      rw [e2]
      exact (x_Run.pre F i7_c3 (ih.x (x := [Int32.ofNat (i), Int32.ofNat (i + 1), 0 - a2, Int32.ofNat (min (i) 8), Int32.ofNat (min (i) 8) + 1, Int32.ofNat (min (i + 1) 8), (if 0 < i then 1 else 0), (if 1 < i then 1 else 0), (if 2 < i then 1 else 0), (if 3 < i then 1 else 0), (if 4 < i then 1 else 0), (if 5 < i then 1 else 0), (if 6 < i then 1 else 0), (if 7 < i then 1 else 0), 0, 0, 0, Int32.ofNat (i % 8)]) rfl rfl rfl)).t rfl rfl rfl rfl
    | 4, _ =>
      have e1 : K_7 t_h0 (i + 1) = k_7 t_h0 (.int (Int32.ofNat (min (i + 1) 8))) (.int (Int32.ofNat 5)) (k_rr 0 i) (k_rr 1 i) (k_rr 2 i) (k_rr 3 i) (.int 1) (k_rr 5 i) (k_rr 6 i) (k_rr 7 i) := by
        unfold K_7
        rw [show (i + 1) % 8 = 5 from by omega, k_rr_s (k := 0) (i := i) (by omega), k_rr_s (k := 1) (i := i) (by omega), k_rr_s (k := 2) (i := i) (by omega), k_rr_s (k := 3) (i := i) (by omega), k_rr_1 (k := 4) (i := i) (by omega), k_rr_s (k := 5) (i := i) (by omega), k_rr_s (k := 6) (i := i) (by omega), k_rr_s (k := 7) (i := i) (by omega)]
      have e2 : K_7 t_h0 i = k_7 t_h0 (.int (Int32.ofNat (min i 8))) (.int (Int32.ofNat 4)) (k_rr 0 i) (k_rr 1 i) (k_rr 2 i) (k_rr 3 i) (k_rr 4 i) (k_rr 5 i) (k_rr 6 i) (k_rr 7 i) := by
        unfold K_7
        rw [hq]
      rw [e1] at ih
      rw [e2]
      exact (x_Run.pre F i7_c4 (ih.x (x := [Int32.ofNat (i), Int32.ofNat (i + 1), 0 - a2, Int32.ofNat (min (i) 8), Int32.ofNat (min (i) 8) + 1, Int32.ofNat (min (i + 1) 8), (if 0 < i then 1 else 0), (if 1 < i then 1 else 0), (if 2 < i then 1 else 0), (if 3 < i then 1 else 0), (if 4 < i then 1 else 0), (if 5 < i then 1 else 0), (if 6 < i then 1 else 0), (if 7 < i then 1 else 0), 0, 0, 0, Int32.ofNat (i % 8)]) rfl rfl rfl)).t rfl rfl rfl rfl
    | 5, _ =>
      have e1 : K_7 t_h0 (i + 1) = k_7 t_h0 (.int (Int32.ofNat (min (i + 1) 8))) (.int (Int32.ofNat 6)) (k_rr 0 i) (k_rr 1 i) (k_rr 2 i) (k_rr 3 i) (k_rr 4 i) (.int 1) (k_rr 6 i) (k_rr 7 i) := by
        unfold K_7
        rw [show (i + 1) % 8 = 6 from by omega, k_rr_s (k := 0) (i := i) (by omega), k_rr_s (k := 1) (i := i) (by omega), k_rr_s (k := 2) (i := i) (by omega), k_rr_s (k := 3) (i := i) (by omega), k_rr_s (k := 4) (i := i) (by omega), k_rr_1 (k := 5) (i := i) (by omega), k_rr_s (k := 6) (i := i) (by omega), k_rr_s (k := 7) (i := i) (by omega)]
      have e2 : K_7 t_h0 i = k_7 t_h0 (.int (Int32.ofNat (min i 8))) (.int (Int32.ofNat 5)) (k_rr 0 i) (k_rr 1 i) (k_rr 2 i) (k_rr 3 i) (k_rr 4 i) (k_rr 5 i) (k_rr 6 i) (k_rr 7 i) := by
        unfold K_7
        rw [hq]
      rw [e1] at ih
      rw [e2]
      exact (x_Run.pre F i7_c5 (ih.x (x := [Int32.ofNat (i), Int32.ofNat (i + 1), 0 - a2, Int32.ofNat (min (i) 8), Int32.ofNat (min (i) 8) + 1, Int32.ofNat (min (i + 1) 8), (if 0 < i then 1 else 0), (if 1 < i then 1 else 0), (if 2 < i then 1 else 0), (if 3 < i then 1 else 0), (if 4 < i then 1 else 0), (if 5 < i then 1 else 0), (if 6 < i then 1 else 0), (if 7 < i then 1 else 0), 0, 0, 0, Int32.ofNat (i % 8)]) rfl rfl rfl)).t rfl rfl rfl rfl
    | 6, _ =>
      have e1 : K_7 t_h0 (i + 1) = k_7 t_h0 (.int (Int32.ofNat (min (i + 1) 8))) (.int (Int32.ofNat 7)) (k_rr 0 i) (k_rr 1 i) (k_rr 2 i) (k_rr 3 i) (k_rr 4 i) (k_rr 5 i) (.int 1) (k_rr 7 i) := by
        unfold K_7
        rw [show (i + 1) % 8 = 7 from by omega, k_rr_s (k := 0) (i := i) (by omega), k_rr_s (k := 1) (i := i) (by omega), k_rr_s (k := 2) (i := i) (by omega), k_rr_s (k := 3) (i := i) (by omega), k_rr_s (k := 4) (i := i) (by omega), k_rr_s (k := 5) (i := i) (by omega), k_rr_1 (k := 6) (i := i) (by omega), k_rr_s (k := 7) (i := i) (by omega)]
      have e2 : K_7 t_h0 i = k_7 t_h0 (.int (Int32.ofNat (min i 8))) (.int (Int32.ofNat 6)) (k_rr 0 i) (k_rr 1 i) (k_rr 2 i) (k_rr 3 i) (k_rr 4 i) (k_rr 5 i) (k_rr 6 i) (k_rr 7 i) := by
        unfold K_7
        rw [hq]
      rw [e1] at ih
      rw [e2]
      exact (x_Run.pre F i7_c6 (ih.x (x := [Int32.ofNat (i), Int32.ofNat (i + 1), 0 - a2, Int32.ofNat (min (i) 8), Int32.ofNat (min (i) 8) + 1, Int32.ofNat (min (i + 1) 8), (if 0 < i then 1 else 0), (if 1 < i then 1 else 0), (if 2 < i then 1 else 0), (if 3 < i then 1 else 0), (if 4 < i then 1 else 0), (if 5 < i then 1 else 0), (if 6 < i then 1 else 0), (if 7 < i then 1 else 0), 0, 0, 0, Int32.ofNat (i % 8)]) rfl rfl rfl)).t rfl rfl rfl rfl
    | 7, _ =>
      have e1 : K_7 t_h0 (i + 1) = k_7 t_h0 (.int (Int32.ofNat (min (i + 1) 8))) (.int (Int32.ofNat 0)) (k_rr 0 i) (k_rr 1 i) (k_rr 2 i) (k_rr 3 i) (k_rr 4 i) (k_rr 5 i) (k_rr 6 i) (.int 1) := by
        unfold K_7
        rw [show (i + 1) % 8 = 0 from by omega, k_rr_s (k := 0) (i := i) (by omega), k_rr_s (k := 1) (i := i) (by omega), k_rr_s (k := 2) (i := i) (by omega), k_rr_s (k := 3) (i := i) (by omega), k_rr_s (k := 4) (i := i) (by omega), k_rr_s (k := 5) (i := i) (by omega), k_rr_s (k := 6) (i := i) (by omega), k_rr_1 (k := 7) (i := i) (by omega)]
      have e2 : K_7 t_h0 i = k_7 t_h0 (.int (Int32.ofNat (min i 8))) (.int (Int32.ofNat 7)) (k_rr 0 i) (k_rr 1 i) (k_rr 2 i) (k_rr 3 i) (k_rr 4 i) (k_rr 5 i) (k_rr 6 i) (k_rr 7 i) := by
        unfold K_7
        rw [hq]
      rw [e1] at ih
      rw [e2]
      exact (x_Run.pre F i7_c7 (ih.x (x := [Int32.ofNat (i), Int32.ofNat (i + 1), 0 - a2, Int32.ofNat (min (i) 8), Int32.ofNat (min (i) 8) + 1, Int32.ofNat (min (i + 1) 8), (if 0 < i then 1 else 0), (if 1 < i then 1 else 0), (if 2 < i then 1 else 0), (if 3 < i then 1 else 0), (if 4 < i then 1 else 0), (if 5 < i then 1 else 0), (if 6 < i then 1 else 0), (if 7 < i then 1 else 0), 0, 0, 0, Int32.ofNat (i % 8)]) rfl rfl rfl)).t rfl rfl rfl rfl
    | n + 8, h => exact absurd h (by omega)
