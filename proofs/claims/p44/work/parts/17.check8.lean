set_option maxRecDepth 100000
theorem c_i83_e : c_i83 = c_j83_0 ++ (c_j83_1 ++ (c_j83_2 ++ (c_j83_3 ++ (c_j83_4 ++ (c_j83_5))))) := by decide +kernel
theorem c_x83_e : c_x83 = c_y83_0 ++ (c_y83_1 ++ (c_y83_2 ++ (c_y83_3 ++ (c_y83_4 ++ (c_y83_5))))) := by decide +kernel
theorem c_okL_app {P : List c_M} {md : c_M} : ∀ (a b : List (Nat × c_I)) (i j : List (List Nat)), a.length = i.length → c_okL P md a i = true → c_okL P md b j = true → c_okL P md (a ++ b) (i ++ j) = true
  | [], b, [], j, _, _, h2 => h2
  | q :: r, b, x :: i, j, h, h1, h2 => by
    unfold c_okL at h1
    rw [Bool.and_eq_true] at h1
    rw [List.cons_append, List.cons_append]
    unfold c_okL
    rw [Bool.and_eq_true]
    exact ⟨h1.1, c_okL_app r b i j (Nat.succ.inj h) h1.2 h2⟩
  | [], _, _ :: _, _, h, _, _ => by cases h
  | _ :: _, _, [], _, h, _, _ => by cases h
theorem c_ok83_L : c_okL c_P c_m83 c_i83 c_x83 = true := by
  rw [c_i83_e, c_x83_e]
  exact (c_okL_app _ _ _ _ (by decide +kernel) c_ok83_0 (c_okL_app _ _ _ _ (by decide +kernel) c_ok83_1 (c_okL_app _ _ _ _ (by decide +kernel) c_ok83_2 (c_okL_app _ _ _ _ (by decide +kernel) c_ok83_3 (c_okL_app _ _ _ _ (by decide +kernel) c_ok83_4 c_ok83_5)))))
theorem c_ok83_M : plainFor (c_my c_m83) && (c_mx c_m83).all (c_okH c_m83) = true := by decide +kernel
theorem c_ok83 : c_okM c_P c_m83 c_x83 = true := by
  unfold c_okM
  rw [Bool.and_eq_true]
  exact ⟨c_ok83_M, c_ok83_L⟩
