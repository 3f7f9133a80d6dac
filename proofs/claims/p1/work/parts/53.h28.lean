set_option maxRecDepth 100000
def i281_h0 : c_Hp := [some (.inl (10, [.ref 1, .ref 4, .ref 23, .ref 25, .ref 28, .ref 31, .ref 34, .ref 37, .ref 39, .ref 41, .ref 52, .ref 55])),
  some (.inl (6, [.ref 2, .ref 3, .int 10, .int 0])),
  some (.inr (0, List.replicate 60 (.int 1))),
  some (.inr (0, List.replicate 60 (.int 0))),
  some (.inl (4, [.ref 5, .ref 14, .int 0, .int 0])),
  some (.inr (2, [.ref 6, .ref 7, .ref 8, .ref 9, .ref 10, .ref 11, .ref 12, .ref 13])),
  some (.inr (0, List.replicate 60 (.int 0))),
  some (.inr (0, List.replicate 60 (.int 0))),
  some (.inr (0, List.replicate 60 (.int 0))),
  some (.inr (0, List.replicate 60 (.int 0))),
  some (.inr (0, List.replicate 60 (.int 0))),
  some (.inr (0, List.replicate 60 (.int 0))),
  some (.inr (0, List.replicate 60 (.int 0))),
  some (.inr (0, List.replicate 60 (.int 0))),
  some (.inr (2, [.ref 15, .ref 16, .ref 17, .ref 18, .ref 19, .ref 20, .ref 21, .ref 22])),
  some (.inr (0, List.replicate 60 (.int 0))),
  some (.inr (0, List.replicate 60 (.int 0))),
  some (.inr (0, List.replicate 60 (.int 0))),
  some (.inr (0, List.replicate 60 (.int 0))),
  some (.inr (0, List.replicate 60 (.int 0))),
  some (.inr (0, List.replicate 60 (.int 0))),
  some (.inr (0, List.replicate 60 (.int 0))),
  some (.inr (0, List.replicate 60 (.int 0))),
  some (.inl (0, [.ref 24, .int 0])),
  some (.inr (0, List.replicate 60 (.int 0))),
  some (.inl (3, [.ref 26, .ref 27, .int 0])),
  some (.inr (0, List.replicate 120 (.int 0))),
  some (.inr (0, List.replicate 60 (.int 0))),
  some (.inl (7, [.ref 29, .ref 30, .int 0, .int 0])),
  some (.inr (0, List.replicate 60 (.int 0))),
  some (.inr (0, List.replicate 60 (.int 0))),
  some (.inl (8, [.ref 32, .ref 33])),
  some (.inr (0, [.int 0, .int 0, .int 0])),
  some (.inr (0, [.int 0, .int 0, .int 0])),
  some (.inl (1, [.ref 35, .ref 36, .int 0])),
  some (.inr (0, List.replicate 5 (.int 0))),
  some (.inr (0, List.replicate 5 (.int 0))),
  some (.inl (9, [.ref 38, .int 0])),
  some (.inr (0, List.replicate 6 (.int 0))),
  some (.inl (2, [.ref 40])),
  some (.inr (1, List.replicate 64 (.long 0))),
  some (.inl (5, [.ref 42, .ref 51])),
  some (.inr (2, [.ref 43, .ref 44, .ref 45, .ref 46, .ref 47, .ref 48, .ref 49, .ref 50])),
  some (.inr (0, List.replicate 6 (.int 0))),
  some (.inr (0, List.replicate 6 (.int 0))),
  some (.inr (0, List.replicate 6 (.int 0))),
  some (.inr (0, List.replicate 6 (.int 0))),
  some (.inr (0, List.replicate 6 (.int 0))),
  some (.inr (0, List.replicate 6 (.int 0))),
  some (.inr (0, List.replicate 6 (.int 0))),
  some (.inr (0, List.replicate 6 (.int 0))),
  some (.inr (0, List.replicate 6 (.int 0))),
  some (.inl (6, [.ref 53, .ref 54, .int 1, .int 0])),
  some (.inr (0, List.replicate 60 (.int 0))),
  some (.inr (0, List.replicate 60 (.int 0))),
  some (.inl (6, [.ref 56, .ref 57, .int 1, .int 0])),
  some (.inr (0, List.replicate 60 (.int 0))),
  some (.inr (0, List.replicate 60 (.int 0))),
  some (.inl (11, [.ref 59, .ref 60, .int 0, .ref 61, .ref 62, .ref 63, .ref 64, .int 0, .ref 65, .int 0, .ref 66, .int 0, .int 0])),
  some (.inr (0, List.replicate 10 (.int 1))),
  some (.inr (0, List.replicate 10 (.int 0))),
  some (.inl (12, [.int 0, .retAddr 1, .int 0])),
  some (.inl (12, [.int 0, .retAddr 1, .int 0])),
  some (.inr (0, List.replicate 5 (.int 0))),
  some (.inr (0, List.replicate 5 (.int 0))),
  some (.inr (0, List.replicate 6 (.int 0))),
  some (.inr (2, [.ref 67, .ref 68, .ref 69, .ref 70, .ref 71, .ref 72, .ref 73, .ref 74])),
  some (.inr (0, List.replicate 6 (.int 0))),
  some (.inr (0, List.replicate 6 (.int 0))),
  some (.inr (0, List.replicate 6 (.int 0))),
  some (.inr (0, List.replicate 6 (.int 0))),
  some (.inr (0, List.replicate 6 (.int 0))),
  some (.inr (0, List.replicate 6 (.int 0))),
  some (.inr (0, List.replicate 6 (.int 0))),
  some (.inr (0, List.replicate 6 (.int 0))),
  some (.inr (1, [.long 0])),
  some (.inr (5, [.double 0]))]
def i281_h1 : c_Hp := [some (.inl (10, [.ref 1, .ref 4, .ref 23, .ref 25, .ref 28, .ref 31, .ref 34, .ref 37, .ref 39, .ref 41, .ref 52, .ref 55])),
  some (.inl (6, [.ref 2, .ref 3, .int 10, .int 0])),
  some (.inr (0, List.replicate 60 (.int 1))),
  some (.inr (0, List.replicate 60 (.int 0))),
  some (.inl (4, [.ref 5, .ref 14, .int 0, .int 0])),
  some (.inr (2, [.ref 6, .ref 7, .ref 8, .ref 9, .ref 10, .ref 11, .ref 12, .ref 13])),
  some (.inr (0, List.replicate 60 (.int 0))),
  some (.inr (0, List.replicate 60 (.int 0))),
  some (.inr (0, List.replicate 60 (.int 0))),
  some (.inr (0, List.replicate 60 (.int 0))),
  some (.inr (0, List.replicate 60 (.int 0))),
  some (.inr (0, List.replicate 60 (.int 0))),
  some (.inr (0, List.replicate 60 (.int 0))),
  some (.inr (0, List.replicate 60 (.int 0))),
  some (.inr (2, [.ref 15, .ref 16, .ref 17, .ref 18, .ref 19, .ref 20, .ref 21, .ref 22])),
  some (.inr (0, List.replicate 60 (.int 0))),
  some (.inr (0, List.replicate 60 (.int 0))),
  some (.inr (0, List.replicate 60 (.int 0))),
  some (.inr (0, List.replicate 60 (.int 0))),
  some (.inr (0, List.replicate 60 (.int 0))),
  some (.inr (0, List.replicate 60 (.int 0))),
  some (.inr (0, List.replicate 60 (.int 0))),
  some (.inr (0, List.replicate 60 (.int 0))),
  some (.inl (0, [.ref 24, .int 0])),
  some (.inr (0, List.replicate 60 (.int 0))),
  some (.inl (3, [.ref 26, .ref 27, .int 0])),
  some (.inr (0, List.replicate 120 (.int 0))),
  some (.inr (0, List.replicate 60 (.int 0))),
  some (.inl (7, [.ref 29, .ref 30, .int 0, .int 0])),
  some (.inr (0, List.replicate 60 (.int 0))),
  some (.inr (0, List.replicate 60 (.int 0))),
  some (.inl (8, [.ref 32, .ref 33])),
  some (.inr (0, [.int 0, .int 0, .int 0])),
  some (.inr (0, [.int 0, .int 0, .int 0])),
  some (.inl (1, [.ref 35, .ref 36, .int 0])),
  some (.inr (0, List.replicate 5 (.int 0))),
  some (.inr (0, List.replicate 5 (.int 0))),
  some (.inl (9, [.ref 38, .int 0])),
  some (.inr (0, List.replicate 6 (.int 0))),
  some (.inl (2, [.ref 40])),
  some (.inr (1, List.replicate 64 (.long 0))),
  some (.inl (5, [.ref 42, .ref 51])),
  some (.inr (2, [.ref 43, .ref 44, .ref 45, .ref 46, .ref 47, .ref 48, .ref 49, .ref 50])),
  some (.inr (0, List.replicate 6 (.int 0))),
  some (.inr (0, List.replicate 6 (.int 0))),
  some (.inr (0, List.replicate 6 (.int 0))),
  some (.inr (0, List.replicate 6 (.int 0))),
  some (.inr (0, List.replicate 6 (.int 0))),
  some (.inr (0, List.replicate 6 (.int 0))),
  some (.inr (0, List.replicate 6 (.int 0))),
  some (.inr (0, List.replicate 6 (.int 0))),
  some (.inr (0, List.replicate 6 (.int 0))),
  some (.inl (6, [.ref 53, .ref 54, .int 1, .int 0])),
  some (.inr (0, List.replicate 60 (.int 0))),
  some (.inr (0, List.replicate 60 (.int 0))),
  some (.inl (6, [.ref 56, .ref 57, .int 1, .int 0])),
  some (.inr (0, List.replicate 60 (.int 0))),
  some (.inr (0, List.replicate 60 (.int 0))),
  some (.inl (11, [.ref 59, .ref 60, .int 0, .ref 61, .ref 62, .ref 63, .ref 64, .int 0, .ref 65, .int 0, .ref 66, .int 0, .int 0])),
  some (.inr (0, List.replicate 10 (.int 1))),
  some (.inr (0, List.replicate 10 (.int 0))),
  some (.inl (12, [.int 0, .retAddr 1, .int 0])),
  some (.inl (12, [.int 0, .retAddr 1, .int 0])),
  some (.inr (0, List.replicate 5 (.int 0))),
  some (.inr (0, List.replicate 5 (.int 0))),
  some (.inr (0, List.replicate 6 (.int 0))),
  some (.inr (2, [.ref 67, .ref 68, .ref 69, .ref 70, .ref 71, .ref 72, .ref 73, .ref 74])),
  some (.inr (0, List.replicate 6 (.int 0))),
  some (.inr (0, List.replicate 6 (.int 0))),
  some (.inr (0, List.replicate 6 (.int 0))),
  some (.inr (0, List.replicate 6 (.int 0))),
  some (.inr (0, List.replicate 6 (.int 0))),
  some (.inr (0, List.replicate 6 (.int 0))),
  some (.inr (0, List.replicate 6 (.int 0))),
  some (.inr (0, List.replicate 6 (.int 0))),
  some (.inr (1, [.long 1])),
  some (.inr (5, [.double 0]))]
theorem i281_1 : c_pre ([(3, .retAddr 10, .int 63, .int 28)], x_xs) 33 c_m259 13 38 [some (.retAddr 0), some (.ref 0), some (.ref 58), some (.ref 75), some (.ref 76), some (.int 0), none, none, none] [] i281_h0 = some (1937, [some (.retAddr 0), some (.ref 0), some (.ref 58), some (.ref 75), some (.ref 76), some (.int 0), none, none, none], [.ref 75, .retAddr 11, .ref 0], i281_h0) := c_eqR_ok (by decide +kernel)
theorem i281_2 : c_pre ([], x_xs) 24 c_m217 4 0 [some (.ref 0), some (.retAddr 11), some (.ref 75), none] [] i281_h0 = some (4, [some (.ref 0), some (.retAddr 11), some (.ref 75), none], [.retAddr 11, .ref 0, .int 0, .ref 75], i281_h0) := c_eqR_ok (by decide +kernel)
theorem i281_3 : c_pre ([(22, .retAddr 11, .int 0, .int 0), (25, .retAddr 11, .int 255, .int 1)], x_xs) 38 c_m29 11 0 [some (.ref 0), some (.retAddr 11), none, none] [] i281_h0 = some (18, [some (.ref 0), some (.retAddr 11), some (.int 3), some (.int 0)], [], i281_h0) := c_eqR_ok (by decide +kernel)
theorem i281_4 : c_callee c_m217 4 [.retAddr 11, .ref 0, .int 0, .ref 75] i281_h0 = some (29, [some (.ref 0), some (.retAddr 11), none, none], [.int 0, .ref 75]) := c_eqC_ok (by decide +kernel)
theorem i281_5 : c_go c_P ([], x_xs) 27 c_m217 7 [some (.ref 0), some (.retAddr 11), some (.ref 75), none] [.int 1, .int 0, .ref 75] i281_h0 = some (.inl (some (.int 0)), i281_h1) := c_eqO_ok (by decide +kernel)
theorem i281_6 : c_callee c_m259 1937 [.ref 75, .retAddr 11, .ref 0] i281_h0 = some (217, [some (.ref 0), some (.retAddr 11), some (.ref 75), none], []) := c_eqC_ok (by decide +kernel)
theorem i281_7 : c_pre ([], x_xs) 27 c_m259 7 1940 [some (.retAddr 0), some (.ref 0), some (.ref 58), some (.ref 75), some (.ref 76), some (.int 0), none, none, none] [.int 0] i281_h1 = some (1949, [some (.retAddr 0), some (.ref 0), some (.ref 58), some (.ref 75), some (.ref 76), some (.int 0), some (.int 0), none, none], [.retAddr 11, .ref 58], i281_h1) := c_eqR_ok (by decide +kernel)
theorem i281_8 : c_pre ([(22, .retAddr 11, .int 0, .int 0), (24, .retAddr 11, .int 255, .int 0)], x_xs) 58 c_m123 17 0 [some (.ref 58), some (.retAddr 11), none, none, none] [] i281_h1 = some (35, [some (.ref 58), some (.retAddr 11), some (.int 1), some (.int 3), some (.int 0)], [], i281_h1) := c_eqR_ok (by decide +kernel)
theorem i281_9 : c_callee c_m259 1949 [.retAddr 11, .ref 58] i281_h1 = some (123, [some (.ref 58), some (.retAddr 11), none, none, none], []) := c_eqC_ok (by decide +kernel)
theorem i281_10 : c_go c_P ([], x_xs) 50 c_m259 1952 [some (.retAddr 0), some (.ref 0), some (.ref 58), some (.ref 75), some (.ref 76), some (.int 0), some (.int 0), none, none] [.int 1] i281_h1 = some (.inl (some (.int 1)), i281_h1) := c_eqO_ok (by decide +kernel)
theorem i28_fin1 {a0 l a2 a3 a4 a5 : Int32} (h0 : a0 &&& 63 = 28) (r0 : 0 ≤ l.toInt) (r1 : l.toInt ≤ 255) (hA : k28_A l) : c_Goal [a0, l, a2, a3, a4, a5] := by
  obtain ⟨G, hG, hl, hm, hk⟩ := k28_R13 (a0 := a0) (l := l) (a2 := a2) (a3 := a3) (a4 := a4) (a5 := a5) (v := 1) hA [] (fun _ => rfl)
  have hr : x_Run (c_BB [a0, l, a2, a3, a4, a5] [0, 0, 1]) x_xs c_m123 35 [some (.ref 58), some (.retAddr 11), some (.int 1), some (.int 3), some (.int 0)] [] i281_h1 (.inl ((Option.map (g_v 77 G.length) (some (.int 1))).map (s_v (c_BB [a0, l, a2, a3, a4, a5] [0, 0, 1]))), s_h (c_BB [a0, l, a2, a3, a4, a5] [0, 0, 1]) (g_h 77 G i281_h1)) := by
    have hv : s_v (c_BB [a0, l, a2, a3, a4, a5] [0, 0, 1]) (g_v 77 G.length (.double (UInt64.ofNat (c_M0 + 18)))) = .long 1 := by
      rw [show g_v 77 G.length (.double (UInt64.ofNat (c_M0 + 18))) = .double (UInt64.ofNat (c_M0 + 18)) from rfl, m_ls _ (by decide)]
      exact congrArg Value.long (by decide : (1 : Int32).toInt64 = 1)
    have hw : s_h (c_BB [a0, l, a2, a3, a4, a5] [0, 0, 1]) (g_h 77 G k28_hv) = t_h1 (.long 1) ++ G := by rw [k28_hve, m_gh, m_app, hG, m_s_v, hv]
    have hw2 : s_h (c_BB [a0, l, a2, a3, a4, a5] [0, 0, 1]) (g_h 77 G i281_h1) = t_h1 (.long 1) ++ G := by rw [show i281_h1 = t_h1 (.long 1) from rfl, m_gh, m_app, hG, m_s_v]; rfl
    rw [show Int32.toInt64 1 = 1 from by decide] at hk
    refine c_T.x (hk _ (x_Run.t (x := [0, 0, 1]) (x_Run.fing (n := 77) (B := (c_BB [a0, l, a2, a3, a4, a5] [0, 0, 1])) (F := []) G (fun _ h => nomatch h) (by decide) k28r7_e1) rfl rfl hw (by rw [hw, hw2]))) rfl rfl ?_
    rw [List.append_nil, show i281_h1 = t_h1 (.long 1) from rfl, m_s_v]
    rfl
  have F0 : ∀ f ∈ ([(3, .retAddr 10, .int 63, .int 28)] : List c_F), c_hold ((c_BB [a0, l, a2, a3, a4, a5] [0, 0, 1])) f := (List.forall_mem_cons.mpr ⟨⟨a0, 63, 28, rfl, rfl, congrArg some h0, rfl⟩, (fun _ h => nomatch h)⟩)
  have F1 : ∀ f ∈ ([] : List c_F), c_hold ((c_BB [a0, l, a2, a3, a4, a5] [0, 0, 1])) f := (fun _ h => nomatch h)
  have F2 : ∀ f ∈ ([(22, .retAddr 11, .int 0, .int 0), (25, .retAddr 11, .int 255, .int 1)] : List c_F), c_hold ((c_BB [a0, l, a2, a3, a4, a5] [0, 0, 1])) f := (List.forall_mem_cons.mpr ⟨f_cmp (cd := .lt) (a := l) (b := 0) (t := false) rfl rfl ((k_lt rfl (by decide : (0 : Int32).toInt = 0)).trans (decide_eq_false (by omega))), (List.forall_mem_cons.mpr ⟨f_cmp (cd := .le) (a := l) (b := 255) (t := true) rfl rfl ((k_le rfl (by decide : (255 : Int32).toInt = 255)).trans (decide_eq_true (by omega))), (fun _ h => nomatch h)⟩)⟩)
  have F3 : ∀ f ∈ ([(22, .retAddr 11, .int 0, .int 0), (24, .retAddr 11, .int 255, .int 0)] : List c_F), c_hold ((c_BB [a0, l, a2, a3, a4, a5] [0, 0, 1])) f := (List.forall_mem_cons.mpr ⟨f_cmp (cd := .lt) (a := l) (b := 0) (t := false) rfl rfl ((k_lt rfl (by decide : (0 : Int32).toInt = 0)).trans (decide_eq_false (by omega))), (List.forall_mem_cons.mpr ⟨f_cmp (cd := .gt) (a := l) (b := 255) (t := false) rfl rfl ((k_gt rfl (by decide : (255 : Int32).toInt = 255)).trans (decide_eq_false (by omega))), (fun _ h => nomatch h)⟩)⟩)
  exact x_goal (x := [0, 0, 1]) (x_Run.pre F0 i281_1 (x_Run.call (mz := c_m217) (v := (some (.int 0))) (h1 := i281_h1) i281_6 rfl (x_Run.pre F1 i281_2 (x_Run.call (mz := c_m29) (v := (some (.int 1))) (h1 := i281_h0) i281_4 rfl (x_Run.pre F2 i281_3 ((k28_class1 hA).x rfl rfl rfl)) (x_Run.fin F1 i281_5))) (x_Run.pre F1 i281_7 (x_Run.call (mz := c_m123) (v := (Option.map (g_v 77 (G).length) (some (.int 1)))) (h1 := g_h 77 G i281_h1) i281_9 rfl (x_Run.pre F3 i281_8 hr) (x_Run.fing (n := 77) G F1 (by decide) i281_10))))) (by rw [s_lenH, g_lenH (by decide), show i281_h1.length = 77 from rfl, hl]; decide) (by rw [s_msz, g_msz, hm, show c_msz i281_h1 = 2004 from by decide +kernel]; decide)
def i280_h0 : c_Hp := [some (.inl (10, [.ref 1, .ref 4, .ref 23, .ref 25, .ref 28, .ref 31, .ref 34, .ref 37, .ref 39, .ref 41, .ref 52, .ref 55])),
  some (.inl (6, [.ref 2, .ref 3, .int 10, .int 0])),
  some (.inr (0, List.replicate 60 (.int 1))),
  some (.inr (0, List.replicate 60 (.int 0))),
  some (.inl (4, [.ref 5, .ref 14, .int 0, .int 0])),
  some (.inr (2, [.ref 6, .ref 7, .ref 8, .ref 9, .ref 10, .ref 11, .ref 12, .ref 13])),
  some (.inr (0, List.replicate 60 (.int 0))),
  some (.inr (0, List.replicate 60 (.int 0))),
  some (.inr (0, List.replicate 60 (.int 0))),
  some (.inr (0, List.replicate 60 (.int 0))),
  some (.inr (0, List.replicate 60 (.int 0))),
  some (.inr (0, List.replicate 60 (.int 0))),
  some (.inr (0, List.replicate 60 (.int 0))),
  some (.inr (0, List.replicate 60 (.int 0))),
  some (.inr (2, [.ref 15, .ref 16, .ref 17, .ref 18, .ref 19, .ref 20, .ref 21, .ref 22])),
  some (.inr (0, List.replicate 60 (.int 0))),
  some (.inr (0, List.replicate 60 (.int 0))),
  some (.inr (0, List.replicate 60 (.int 0))),
  some (.inr (0, List.replicate 60 (.int 0))),
  some (.inr (0, List.replicate 60 (.int 0))),
  some (.inr (0, List.replicate 60 (.int 0))),
  some (.inr (0, List.replicate 60 (.int 0))),
  some (.inr (0, List.replicate 60 (.int 0))),
  some (.inl (0, [.ref 24, .int 0])),
  some (.inr (0, List.replicate 60 (.int 0))),
  some (.inl (3, [.ref 26, .ref 27, .int 0])),
  some (.inr (0, List.replicate 120 (.int 0))),
  some (.inr (0, List.replicate 60 (.int 0))),
  some (.inl (7, [.ref 29, .ref 30, .int 0, .int 0])),
  some (.inr (0, List.replicate 60 (.int 0))),
  some (.inr (0, List.replicate 60 (.int 0))),
  some (.inl (8, [.ref 32, .ref 33])),
  some (.inr (0, [.int 0, .int 0, .int 0])),
  some (.inr (0, [.int 0, .int 0, .int 0])),
  some (.inl (1, [.ref 35, .ref 36, .int 0])),
  some (.inr (0, List.replicate 5 (.int 0))),
  some (.inr (0, List.replicate 5 (.int 0))),
  some (.inl (9, [.ref 38, .int 0])),
  some (.inr (0, List.replicate 6 (.int 0))),
  some (.inl (2, [.ref 40])),
  some (.inr (1, List.replicate 64 (.long 0))),
  some (.inl (5, [.ref 42, .ref 51])),
  some (.inr (2, [.ref 43, .ref 44, .ref 45, .ref 46, .ref 47, .ref 48, .ref 49, .ref 50])),
  some (.inr (0, List.replicate 6 (.int 0))),
  some (.inr (0, List.replicate 6 (.int 0))),
  some (.inr (0, List.replicate 6 (.int 0))),
  some (.inr (0, List.replicate 6 (.int 0))),
  some (.inr (0, List.replicate 6 (.int 0))),
  some (.inr (0, List.replicate 6 (.int 0))),
  some (.inr (0, List.replicate 6 (.int 0))),
  some (.inr (0, List.replicate 6 (.int 0))),
  some (.inr (0, List.replicate 6 (.int 0))),
  some (.inl (6, [.ref 53, .ref 54, .int 1, .int 0])),
  some (.inr (0, List.replicate 60 (.int 0))),
  some (.inr (0, List.replicate 60 (.int 0))),
  some (.inl (6, [.ref 56, .ref 57, .int 1, .int 0])),
  some (.inr (0, List.replicate 60 (.int 0))),
  some (.inr (0, List.replicate 60 (.int 0))),
  some (.inl (11, [.ref 59, .ref 60, .int 0, .ref 61, .ref 62, .ref 63, .ref 64, .int 0, .ref 65, .int 0, .ref 66, .int 0, .int 0])),
  some (.inr (0, List.replicate 10 (.int 1))),
  some (.inr (0, List.replicate 10 (.int 0))),
  some (.inl (12, [.int 0, .retAddr 1, .int 0])),
  some (.inl (12, [.int 0, .retAddr 1, .int 0])),
  some (.inr (0, List.replicate 5 (.int 0))),
  some (.inr (0, List.replicate 5 (.int 0))),
  some (.inr (0, List.replicate 6 (.int 0))),
  some (.inr (2, [.ref 67, .ref 68, .ref 69, .ref 70, .ref 71, .ref 72, .ref 73, .ref 74])),
  some (.inr (0, List.replicate 6 (.int 0))),
  some (.inr (0, List.replicate 6 (.int 0))),
  some (.inr (0, List.replicate 6 (.int 0))),
  some (.inr (0, List.replicate 6 (.int 0))),
  some (.inr (0, List.replicate 6 (.int 0))),
  some (.inr (0, List.replicate 6 (.int 0))),
  some (.inr (0, List.replicate 6 (.int 0))),
  some (.inr (0, List.replicate 6 (.int 0))),
  some (.inr (1, [.long 0])),
  some (.inr (5, [.double 0]))]
theorem i280_1 : c_pre ([(3, .retAddr 10, .int 63, .int 28)], x_xs) 33 c_m259 13 38 [some (.retAddr 0), some (.ref 0), some (.ref 58), some (.ref 75), some (.ref 76), some (.int 0), none, none, none] [] i280_h0 = some (1937, [some (.retAddr 0), some (.ref 0), some (.ref 58), some (.ref 75), some (.ref 76), some (.int 0), none, none, none], [.ref 75, .retAddr 11, .ref 0], i280_h0) := c_eqR_ok (by decide +kernel)
theorem i280_2 : c_pre ([], x_xs) 24 c_m217 4 0 [some (.ref 0), some (.retAddr 11), some (.ref 75), none] [] i280_h0 = some (4, [some (.ref 0), some (.retAddr 11), some (.ref 75), none], [.retAddr 11, .ref 0, .int 0, .ref 75], i280_h0) := c_eqR_ok (by decide +kernel)
theorem i280_3 : c_pre ([(22, .retAddr 11, .int 0, .int 0), (25, .retAddr 11, .int 255, .int 1)], x_xs) 38 c_m29 11 0 [some (.ref 0), some (.retAddr 11), none, none] [] i280_h0 = some (18, [some (.ref 0), some (.retAddr 11), some (.int 3), some (.int 0)], [], i280_h0) := c_eqR_ok (by decide +kernel)
theorem i280_4 : c_callee c_m217 4 [.retAddr 11, .ref 0, .int 0, .ref 75] i280_h0 = some (29, [some (.ref 0), some (.retAddr 11), none, none], [.int 0, .ref 75]) := c_eqC_ok (by decide +kernel)
theorem i280_5 : c_go c_P ([], x_xs) 26 c_m217 7 [some (.ref 0), some (.retAddr 11), some (.ref 75), none] [.int 0, .int 0, .ref 75] i280_h0 = some (.inl (some (.int 0)), i280_h0) := c_eqO_ok (by decide +kernel)
theorem i280_6 : c_callee c_m259 1937 [.ref 75, .retAddr 11, .ref 0] i280_h0 = some (217, [some (.ref 0), some (.retAddr 11), some (.ref 75), none], []) := c_eqC_ok (by decide +kernel)
theorem i280_7 : c_pre ([], x_xs) 27 c_m259 7 1940 [some (.retAddr 0), some (.ref 0), some (.ref 58), some (.ref 75), some (.ref 76), some (.int 0), none, none, none] [.int 0] i280_h0 = some (1949, [some (.retAddr 0), some (.ref 0), some (.ref 58), some (.ref 75), some (.ref 76), some (.int 0), some (.int 0), none, none], [.retAddr 11, .ref 58], i280_h0) := c_eqR_ok (by decide +kernel)
theorem i280_8 : c_pre ([(22, .retAddr 11, .int 0, .int 0), (24, .retAddr 11, .int 255, .int 0)], x_xs) 58 c_m123 17 0 [some (.ref 58), some (.retAddr 11), none, none, none] [] i280_h0 = some (35, [some (.ref 58), some (.retAddr 11), some (.int 1), some (.int 3), some (.int 0)], [], i280_h0) := c_eqR_ok (by decide +kernel)
theorem i280_9 : c_callee c_m259 1949 [.retAddr 11, .ref 58] i280_h0 = some (123, [some (.ref 58), some (.retAddr 11), none, none, none], []) := c_eqC_ok (by decide +kernel)
theorem i280_10 : c_go c_P ([], x_xs) 49 c_m259 1952 [some (.retAddr 0), some (.ref 0), some (.ref 58), some (.ref 75), some (.ref 76), some (.int 0), some (.int 0), none, none] [.int 0] i280_h0 = some (.inl (some (.int 1)), i280_h0) := c_eqO_ok (by decide +kernel)
theorem i28_fin0 {a0 l a2 a3 a4 a5 : Int32} (h0 : a0 &&& 63 = 28) (r0 : 0 ≤ l.toInt) (r1 : l.toInt ≤ 255) (hA : ¬ k28_A l) : c_Goal [a0, l, a2, a3, a4, a5] := by
  obtain ⟨G, hG, hl, hm, hk⟩ := k28_RF3 (a0 := a0) (l := l) (a2 := a2) (a3 := a3) (a4 := a4) (a5 := a5) (v := 0) hA [] (fun _ => rfl)
  have hr : x_Run (c_BB [a0, l, a2, a3, a4, a5] [0, 0, 0]) x_xs c_m123 35 [some (.ref 58), some (.retAddr 11), some (.int 1), some (.int 3), some (.int 0)] [] i280_h0 (.inl ((Option.map (g_v 77 G.length) (some (.int 0))).map (s_v (c_BB [a0, l, a2, a3, a4, a5] [0, 0, 0]))), s_h (c_BB [a0, l, a2, a3, a4, a5] [0, 0, 0]) (g_h 77 G i280_h0)) := by
    have hv : s_v (c_BB [a0, l, a2, a3, a4, a5] [0, 0, 0]) (g_v 77 G.length (.double (UInt64.ofNat (c_M0 + 18)))) = .long 0 := by
      rw [show g_v 77 G.length (.double (UInt64.ofNat (c_M0 + 18))) = .double (UInt64.ofNat (c_M0 + 18)) from rfl, m_ls _ (by decide)]
      exact congrArg Value.long (by decide : (0 : Int32).toInt64 = 0)
    have hw : s_h (c_BB [a0, l, a2, a3, a4, a5] [0, 0, 0]) (g_h 77 G k28_hv) = t_h1 (.long 0) ++ G := by rw [k28_hve, m_gh, m_app, hG, m_s_v, hv]
    have hw2 : s_h (c_BB [a0, l, a2, a3, a4, a5] [0, 0, 0]) (g_h 77 G i280_h0) = t_h1 (.long 0) ++ G := by rw [show i280_h0 = t_h1 (.long 0) from rfl, m_gh, m_app, hG, m_s_v]; rfl
    rw [show Int32.toInt64 0 = 0 from by decide] at hk
    refine c_T.x (hk _ (x_Run.t (x := [0, 0, 0]) (x_Run.fing (n := 77) (B := (c_BB [a0, l, a2, a3, a4, a5] [0, 0, 0])) (F := []) G (fun _ h => nomatch h) (by decide) k28r7_e0) rfl rfl hw (by rw [hw, hw2]))) rfl rfl ?_
    rw [List.append_nil, show i280_h0 = t_h1 (.long 0) from rfl, m_s_v]
    rfl
  have F0 : ∀ f ∈ ([(3, .retAddr 10, .int 63, .int 28)] : List c_F), c_hold ((c_BB [a0, l, a2, a3, a4, a5] [0, 0, 0])) f := (List.forall_mem_cons.mpr ⟨⟨a0, 63, 28, rfl, rfl, congrArg some h0, rfl⟩, (fun _ h => nomatch h)⟩)
  have F1 : ∀ f ∈ ([] : List c_F), c_hold ((c_BB [a0, l, a2, a3, a4, a5] [0, 0, 0])) f := (fun _ h => nomatch h)
  have F2 : ∀ f ∈ ([(22, .retAddr 11, .int 0, .int 0), (25, .retAddr 11, .int 255, .int 1)] : List c_F), c_hold ((c_BB [a0, l, a2, a3, a4, a5] [0, 0, 0])) f := (List.forall_mem_cons.mpr ⟨f_cmp (cd := .lt) (a := l) (b := 0) (t := false) rfl rfl ((k_lt rfl (by decide : (0 : Int32).toInt = 0)).trans (decide_eq_false (by omega))), (List.forall_mem_cons.mpr ⟨f_cmp (cd := .le) (a := l) (b := 255) (t := true) rfl rfl ((k_le rfl (by decide : (255 : Int32).toInt = 255)).trans (decide_eq_true (by omega))), (fun _ h => nomatch h)⟩)⟩)
  have F3 : ∀ f ∈ ([(22, .retAddr 11, .int 0, .int 0), (24, .retAddr 11, .int 255, .int 0)] : List c_F), c_hold ((c_BB [a0, l, a2, a3, a4, a5] [0, 0, 0])) f := (List.forall_mem_cons.mpr ⟨f_cmp (cd := .lt) (a := l) (b := 0) (t := false) rfl rfl ((k_lt rfl (by decide : (0 : Int32).toInt = 0)).trans (decide_eq_false (by omega))), (List.forall_mem_cons.mpr ⟨f_cmp (cd := .gt) (a := l) (b := 255) (t := false) rfl rfl ((k_gt rfl (by decide : (255 : Int32).toInt = 255)).trans (decide_eq_false (by omega))), (fun _ h => nomatch h)⟩)⟩)
  exact x_goal (x := [0, 0, 0]) (x_Run.pre F0 i280_1 (x_Run.call (mz := c_m217) (v := (some (.int 0))) (h1 := i280_h0) i280_6 rfl (x_Run.pre F1 i280_2 (x_Run.call (mz := c_m29) (v := (some (.int 0))) (h1 := i280_h0) i280_4 rfl (x_Run.pre F2 i280_3 ((k28_class0 hA).x rfl rfl rfl)) (x_Run.fin F1 i280_5))) (x_Run.pre F1 i280_7 (x_Run.call (mz := c_m123) (v := (Option.map (g_v 77 (G).length) (some (.int 0)))) (h1 := g_h 77 G i280_h0) i280_9 rfl (x_Run.pre F3 i280_8 hr) (x_Run.fing (n := 77) G F1 (by decide) i280_10))))) (by rw [s_lenH, g_lenH (by decide), show i280_h0.length = 77 from rfl, hl]; decide) (by rw [s_msz, g_msz, hm, show c_msz i280_h0 = 2004 from by decide +kernel]; decide)
theorem h28 {a0 a1 a2 a3 a4 a5 : Int32} (h0 : a0 &&& 63 = 28) (r0 : 0 ≤ a1.toInt) (r1 : a1.toInt ≤ 255) : c_Goal [a0, a1, a2, a3, a4, a5] := by
  by_cases hA : k28_A a1
  · exact i28_fin1 h0 r0 r1 hA
  · exact i28_fin0 h0 r0 r1 hA
