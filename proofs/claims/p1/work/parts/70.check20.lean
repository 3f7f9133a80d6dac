set_option maxRecDepth 100000
theorem c_okL_app {P : List (List c_M)} {md : c_M} : ∀ (a b : List (Nat × c_I)) (i j : List (List Nat)), a.length = i.length → c_okL P md a i = true → c_okL P md b j = true → c_okL P md (a ++ b) (i ++ j) = true
  | [], b, [], j, _, _, h2 => h2
  | q :: r, b, x :: i, j, h, h1, h2 => by
    unfold c_okL at h1
    rw [Bool.and_eq_true] at h1
    rw [List.cons_append, List.cons_append]
    unfold c_okL
    rw [Bool.and_eq_true]
    exact ⟨h1.1, c_okL_app r b i j (Nat.succ.inj h) h1.2 h2⟩
  | [], _, _ :: _, _, h, _, _ => by cases h
  | _ :: _, _, [], _, h, _, _ => by cases h
theorem c_fl259 : (c_mi c_m259).flatten = c_j259_0 ++ (c_j259_1 ++ (c_j259_2 ++ (c_j259_3 ++ (c_j259_4 ++ (c_j259_5 ++ (c_j259_6 ++ (c_j259_7 ++ (c_j259_8 ++ (c_j259_9 ++ (c_j259_10 ++ (c_j259_11 ++ (c_j259_12 ++ (c_j259_13 ++ (c_j259_14 ++ (c_j259_15 ++ (c_j259_16 ++ (c_j259_17 ++ (c_j259_18 ++ (c_j259_19))))))))))))))))))) := by decide +kernel
theorem c_kk259_M : (plainFor (c_my c_m259) && (c_mx c_m259).all (c_okH c_m259)) = true := by decide +kernel
theorem c_kk259 : ∃ x, c_okM c_P c_m259 x = true := by
  refine ⟨c_y259_0 ++ (c_y259_1 ++ (c_y259_2 ++ (c_y259_3 ++ (c_y259_4 ++ (c_y259_5 ++ (c_y259_6 ++ (c_y259_7 ++ (c_y259_8 ++ (c_y259_9 ++ (c_y259_10 ++ (c_y259_11 ++ (c_y259_12 ++ (c_y259_13 ++ (c_y259_14 ++ (c_y259_15 ++ (c_y259_16 ++ (c_y259_17 ++ (c_y259_18 ++ (c_y259_19))))))))))))))))))), ?_⟩
  unfold c_okM
  rw [Bool.and_eq_true]
  refine ⟨c_kk259_M, ?_⟩
  rw [c_fl259]
  exact (c_okL_app _ _ _ _ (by decide +kernel) c_kk259_0 (c_okL_app _ _ _ _ (by decide +kernel) c_kk259_1 (c_okL_app _ _ _ _ (by decide +kernel) c_kk259_2 (c_okL_app _ _ _ _ (by decide +kernel) c_kk259_3 (c_okL_app _ _ _ _ (by decide +kernel) c_kk259_4 (c_okL_app _ _ _ _ (by decide +kernel) c_kk259_5 (c_okL_app _ _ _ _ (by decide +kernel) c_kk259_6 (c_okL_app _ _ _ _ (by decide +kernel) c_kk259_7 (c_okL_app _ _ _ _ (by decide +kernel) c_kk259_8 (c_okL_app _ _ _ _ (by decide +kernel) c_kk259_9 (c_okL_app _ _ _ _ (by decide +kernel) c_kk259_10 (c_okL_app _ _ _ _ (by decide +kernel) c_kk259_11 (c_okL_app _ _ _ _ (by decide +kernel) c_kk259_12 (c_okL_app _ _ _ _ (by decide +kernel) c_kk259_13 (c_okL_app _ _ _ _ (by decide +kernel) c_kk259_14 (c_okL_app _ _ _ _ (by decide +kernel) c_kk259_15 (c_okL_app _ _ _ _ (by decide +kernel) c_kk259_16 (c_okL_app _ _ _ _ (by decide +kernel) c_kk259_17 (c_okL_app _ _ _ _ (by decide +kernel) c_kk259_18 c_kk259_19)))))))))))))))))))
