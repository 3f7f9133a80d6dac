theorem g7 {a0 a1 a2 a3 a4 a5 : Int32} (h0 : a0 &&& 63 = 7) : c_Goal [a0, a1, a2, a3, a4, a5] := by
  by_cases l1 : a1.toInt < 1
  ·
    exact c_of [] _ _ (q7_39) (c_xs rfl rfl rfl rfl rfl rfl) (List.forall_mem_cons.mpr ⟨⟨a0, 63, 7, rfl, rfl, congrArg some h0, rfl⟩, (List.forall_mem_cons.mpr ⟨f_cmp (cd := .lt) (a := a1) (b := 1) (t := true) rfl rfl ((k_lt rfl (by decide : (1 : Int32).toInt = 1)).trans (decide_eq_true (by omega))), (fun _ h => nomatch h)⟩)⟩)
  by_cases g1 : 99 < a1.toInt
  ·
    exact c_of [] _ _ (q7_40) (c_xs rfl rfl rfl rfl rfl rfl) (List.forall_mem_cons.mpr ⟨⟨a0, 63, 7, rfl, rfl, congrArg some h0, rfl⟩, (List.forall_mem_cons.mpr ⟨f_cmp (cd := .lt) (a := a1) (b := 1) (t := false) rfl rfl ((k_lt rfl (by decide : (1 : Int32).toInt = 1)).trans (decide_eq_false (by omega))), (List.forall_mem_cons.mpr ⟨f_cmp (cd := .le) (a := a1) (b := 99) (t := false) rfl rfl ((k_le rfl (by decide : (99 : Int32).toInt = 99)).trans (decide_eq_false (by omega))), (List.forall_mem_cons.mpr ⟨f_cmp (cd := .gt) (a := a1) (b := 99) (t := true) rfl rfl ((k_gt rfl (by decide : (99 : Int32).toInt = 99)).trans (decide_eq_true (by omega))), (fun _ h => nomatch h)⟩)⟩)⟩)⟩)
  by_cases l2 : a2.toInt < 1
  ·
    exact c_of [] _ _ (q7_41) (c_xs rfl rfl rfl rfl rfl rfl) (List.forall_mem_cons.mpr ⟨⟨a0, 63, 7, rfl, rfl, congrArg some h0, rfl⟩, (List.forall_mem_cons.mpr ⟨f_cmp (cd := .lt) (a := a1) (b := 1) (t := false) rfl rfl ((k_lt rfl (by decide : (1 : Int32).toInt = 1)).trans (decide_eq_false (by omega))), (List.forall_mem_cons.mpr ⟨f_cmp (cd := .le) (a := a1) (b := 99) (t := true) rfl rfl ((k_le rfl (by decide : (99 : Int32).toInt = 99)).trans (decide_eq_true (by omega))), (List.forall_mem_cons.mpr ⟨f_cmp (cd := .lt) (a := a2) (b := 1) (t := true) rfl rfl ((k_lt rfl (by decide : (1 : Int32).toInt = 1)).trans (decide_eq_true (by omega))), (List.forall_mem_cons.mpr ⟨f_cmp (cd := .gt) (a := a1) (b := 99) (t := false) rfl rfl ((k_gt rfl (by decide : (99 : Int32).toInt = 99)).trans (decide_eq_false (by omega))), (fun _ h => nomatch h)⟩)⟩)⟩)⟩)⟩)
  by_cases g2 : 99 < a2.toInt
  ·
    exact c_of [] _ _ (q7_42) (c_xs rfl rfl rfl rfl rfl rfl) (List.forall_mem_cons.mpr ⟨⟨a0, 63, 7, rfl, rfl, congrArg some h0, rfl⟩, (List.forall_mem_cons.mpr ⟨f_cmp (cd := .lt) (a := a1) (b := 1) (t := false) rfl rfl ((k_lt rfl (by decide : (1 : Int32).toInt = 1)).trans (decide_eq_false (by omega))), (List.forall_mem_cons.mpr ⟨f_cmp (cd := .le) (a := a1) (b := 99) (t := true) rfl rfl ((k_le rfl (by decide : (99 : Int32).toInt = 99)).trans (decide_eq_true (by omega))), (List.forall_mem_cons.mpr ⟨f_cmp (cd := .lt) (a := a2) (b := 1) (t := false) rfl rfl ((k_lt rfl (by decide : (1 : Int32).toInt = 1)).trans (decide_eq_false (by omega))), (List.forall_mem_cons.mpr ⟨f_cmp (cd := .le) (a := a2) (b := 99) (t := false) rfl rfl ((k_le rfl (by decide : (99 : Int32).toInt = 99)).trans (decide_eq_false (by omega))), (List.forall_mem_cons.mpr ⟨f_cmp (cd := .gt) (a := a1) (b := 99) (t := false) rfl rfl ((k_gt rfl (by decide : (99 : Int32).toInt = 99)).trans (decide_eq_false (by omega))), (List.forall_mem_cons.mpr ⟨f_cmp (cd := .gt) (a := a2) (b := 99) (t := true) rfl rfl ((k_gt rfl (by decide : (99 : Int32).toInt = 99)).trans (decide_eq_true (by omega))), (fun _ h => nomatch h)⟩)⟩)⟩)⟩)⟩)⟩)⟩)
  exact h7 h0 (by omega) (by omega) (by omega) (by omega)
theorem g17 {a0 a1 a2 a3 a4 a5 : Int32} (h0 : a0 &&& 63 = 17) : c_Goal [a0, a1, a2, a3, a4, a5] := by
  by_cases l1 : a1.toInt < 0
  ·
    exact c_of [] _ _ (q17_66) (c_xs rfl rfl rfl rfl rfl rfl) (List.forall_mem_cons.mpr ⟨⟨a0, 63, 17, rfl, rfl, congrArg some h0, rfl⟩, (List.forall_mem_cons.mpr ⟨f_cmp (cd := .lt) (a := a1) (b := 0) (t := true) rfl rfl ((k_lt rfl (by decide : (0 : Int32).toInt = 0)).trans (decide_eq_true (by omega))), (fun _ h => nomatch h)⟩)⟩)
  by_cases g1 : 99 < a1.toInt
  ·
    exact c_of [] _ _ (q17_67) (c_xs rfl rfl rfl rfl rfl rfl) (List.forall_mem_cons.mpr ⟨⟨a0, 63, 17, rfl, rfl, congrArg some h0, rfl⟩, (List.forall_mem_cons.mpr ⟨f_cmp (cd := .lt) (a := a1) (b := 0) (t := false) rfl rfl ((k_lt rfl (by decide : (0 : Int32).toInt = 0)).trans (decide_eq_false (by omega))), (List.forall_mem_cons.mpr ⟨f_cmp (cd := .le) (a := a1) (b := 99) (t := false) rfl rfl ((k_le rfl (by decide : (99 : Int32).toInt = 99)).trans (decide_eq_false (by omega))), (List.forall_mem_cons.mpr ⟨f_cmp (cd := .gt) (a := a1) (b := 99) (t := true) rfl rfl ((k_gt rfl (by decide : (99 : Int32).toInt = 99)).trans (decide_eq_true (by omega))), (fun _ h => nomatch h)⟩)⟩)⟩)⟩)
  exact h17 h0 (by omega) (by omega)
theorem g18 {a0 a1 a2 a3 a4 a5 : Int32} (h0 : a0 &&& 63 = 18) : c_Goal [a0, a1, a2, a3, a4, a5] := by
  by_cases l1 : a1.toInt < 0
  ·
    exact c_of [] _ _ (q18_68) (c_xs rfl rfl rfl rfl rfl rfl) (List.forall_mem_cons.mpr ⟨⟨a0, 63, 18, rfl, rfl, congrArg some h0, rfl⟩, (List.forall_mem_cons.mpr ⟨f_cmp (cd := .lt) (a := a1) (b := 0) (t := true) rfl rfl ((k_lt rfl (by decide : (0 : Int32).toInt = 0)).trans (decide_eq_true (by omega))), (fun _ h => nomatch h)⟩)⟩)
  by_cases g1 : 99 < a1.toInt
  ·
    exact c_of [] _ _ (q18_69) (c_xs rfl rfl rfl rfl rfl rfl) (List.forall_mem_cons.mpr ⟨⟨a0, 63, 18, rfl, rfl, congrArg some h0, rfl⟩, (List.forall_mem_cons.mpr ⟨f_cmp (cd := .lt) (a := a1) (b := 0) (t := false) rfl rfl ((k_lt rfl (by decide : (0 : Int32).toInt = 0)).trans (decide_eq_false (by omega))), (List.forall_mem_cons.mpr ⟨f_cmp (cd := .le) (a := a1) (b := 99) (t := false) rfl rfl ((k_le rfl (by decide : (99 : Int32).toInt = 99)).trans (decide_eq_false (by omega))), (List.forall_mem_cons.mpr ⟨f_cmp (cd := .gt) (a := a1) (b := 99) (t := true) rfl rfl ((k_gt rfl (by decide : (99 : Int32).toInt = 99)).trans (decide_eq_true (by omega))), (fun _ h => nomatch h)⟩)⟩)⟩)⟩)
  exact h18 h0 (by omega) (by omega)
theorem g19 {a0 a1 a2 a3 a4 a5 : Int32} (h0 : a0 &&& 63 = 19) : c_Goal [a0, a1, a2, a3, a4, a5] := by
  by_cases l1 : a1.toInt < 0
  ·
    exact c_of [] _ _ (q19_70) (c_xs rfl rfl rfl rfl rfl rfl) (List.forall_mem_cons.mpr ⟨⟨a0, 63, 19, rfl, rfl, congrArg some h0, rfl⟩, (List.forall_mem_cons.mpr ⟨f_cmp (cd := .lt) (a := a1) (b := 0) (t := true) rfl rfl ((k_lt rfl (by decide : (0 : Int32).toInt = 0)).trans (decide_eq_true (by omega))), (fun _ h => nomatch h)⟩)⟩)
  by_cases g1 : 99 < a1.toInt
  ·
    exact c_of [] _ _ (q19_71) (c_xs rfl rfl rfl rfl rfl rfl) (List.forall_mem_cons.mpr ⟨⟨a0, 63, 19, rfl, rfl, congrArg some h0, rfl⟩, (List.forall_mem_cons.mpr ⟨f_cmp (cd := .lt) (a := a1) (b := 0) (t := false) rfl rfl ((k_lt rfl (by decide : (0 : Int32).toInt = 0)).trans (decide_eq_false (by omega))), (List.forall_mem_cons.mpr ⟨f_cmp (cd := .le) (a := a1) (b := 99) (t := false) rfl rfl ((k_le rfl (by decide : (99 : Int32).toInt = 99)).trans (decide_eq_false (by omega))), (List.forall_mem_cons.mpr ⟨f_cmp (cd := .gt) (a := a1) (b := 99) (t := true) rfl rfl ((k_gt rfl (by decide : (99 : Int32).toInt = 99)).trans (decide_eq_true (by omega))), (fun _ h => nomatch h)⟩)⟩)⟩)⟩)
  exact h19 h0 (by omega) (by omega)
theorem g28 {a0 a1 a2 a3 a4 a5 : Int32} (h0 : a0 &&& 63 = 28) : c_Goal [a0, a1, a2, a3, a4, a5] := by
  by_cases l1 : a1.toInt < 0
  ·
    exact c_of [] _ _ (q28_143) (c_xs rfl rfl rfl rfl rfl rfl) (List.forall_mem_cons.mpr ⟨⟨a0, 63, 28, rfl, rfl, congrArg some h0, rfl⟩, (List.forall_mem_cons.mpr ⟨f_cmp (cd := .lt) (a := a1) (b := 0) (t := true) rfl rfl ((k_lt rfl (by decide : (0 : Int32).toInt = 0)).trans (decide_eq_true (by omega))), (fun _ h => nomatch h)⟩)⟩)
  by_cases g1 : 255 < a1.toInt
  ·
    exact c_of [] _ _ (q28_144) (c_xs rfl rfl rfl rfl rfl rfl) (List.forall_mem_cons.mpr ⟨⟨a0, 63, 28, rfl, rfl, congrArg some h0, rfl⟩, (List.forall_mem_cons.mpr ⟨f_cmp (cd := .lt) (a := a1) (b := 0) (t := false) rfl rfl ((k_lt rfl (by decide : (0 : Int32).toInt = 0)).trans (decide_eq_false (by omega))), (List.forall_mem_cons.mpr ⟨f_cmp (cd := .le) (a := a1) (b := 255) (t := false) rfl rfl ((k_le rfl (by decide : (255 : Int32).toInt = 255)).trans (decide_eq_false (by omega))), (List.forall_mem_cons.mpr ⟨f_cmp (cd := .gt) (a := a1) (b := 255) (t := true) rfl rfl ((k_gt rfl (by decide : (255 : Int32).toInt = 255)).trans (decide_eq_true (by omega))), (fun _ h => nomatch h)⟩)⟩)⟩)⟩)
  exact h28 h0 (by omega) (by omega)
theorem g32 {a0 a1 a2 a3 a4 a5 : Int32} (h0 : a0 &&& 63 = 32) : c_Goal [a0, a1, a2, a3, a4, a5] := by
  by_cases l1 : a1.toInt < 1
  ·
    exact c_of [] _ _ (q32_152) (c_xs rfl rfl rfl rfl rfl rfl) (List.forall_mem_cons.mpr ⟨⟨a0, 63, 32, rfl, rfl, congrArg some h0, rfl⟩, (List.forall_mem_cons.mpr ⟨f_cmp (cd := .lt) (a := a1) (b := 1) (t := true) rfl rfl ((k_lt rfl (by decide : (1 : Int32).toInt = 1)).trans (decide_eq_true (by omega))), (fun _ h => nomatch h)⟩)⟩)
  by_cases g1 : 12 < a1.toInt
  ·
    exact c_of [] _ _ (q32_153) (c_xs rfl rfl rfl rfl rfl rfl) (List.forall_mem_cons.mpr ⟨⟨a0, 63, 32, rfl, rfl, congrArg some h0, rfl⟩, (List.forall_mem_cons.mpr ⟨f_cmp (cd := .lt) (a := a1) (b := 1) (t := false) rfl rfl ((k_lt rfl (by decide : (1 : Int32).toInt = 1)).trans (decide_eq_false (by omega))), (List.forall_mem_cons.mpr ⟨f_cmp (cd := .le) (a := a1) (b := 12) (t := false) rfl rfl ((k_le rfl (by decide : (12 : Int32).toInt = 12)).trans (decide_eq_false (by omega))), (List.forall_mem_cons.mpr ⟨f_cmp (cd := .gt) (a := a1) (b := 12) (t := true) rfl rfl ((k_gt rfl (by decide : (12 : Int32).toInt = 12)).trans (decide_eq_true (by omega))), (fun _ h => nomatch h)⟩)⟩)⟩)⟩)
  exact h32 h0 (by omega) (by omega)
theorem g33 {a0 a1 a2 a3 a4 a5 : Int32} (h0 : a0 &&& 63 = 33) : c_Goal [a0, a1, a2, a3, a4, a5] := by
  by_cases l1 : a1.toInt < 1
  ·
    exact c_of [] _ _ (q33_154) (c_xs rfl rfl rfl rfl rfl rfl) (List.forall_mem_cons.mpr ⟨⟨a0, 63, 33, rfl, rfl, congrArg some h0, rfl⟩, (List.forall_mem_cons.mpr ⟨f_cmp (cd := .lt) (a := a1) (b := 1) (t := true) rfl rfl ((k_lt rfl (by decide : (1 : Int32).toInt = 1)).trans (decide_eq_true (by omega))), (fun _ h => nomatch h)⟩)⟩)
  by_cases g1 : 12 < a1.toInt
  ·
    exact c_of [] _ _ (q33_155) (c_xs rfl rfl rfl rfl rfl rfl) (List.forall_mem_cons.mpr ⟨⟨a0, 63, 33, rfl, rfl, congrArg some h0, rfl⟩, (List.forall_mem_cons.mpr ⟨f_cmp (cd := .lt) (a := a1) (b := 1) (t := false) rfl rfl ((k_lt rfl (by decide : (1 : Int32).toInt = 1)).trans (decide_eq_false (by omega))), (List.forall_mem_cons.mpr ⟨f_cmp (cd := .le) (a := a1) (b := 12) (t := false) rfl rfl ((k_le rfl (by decide : (12 : Int32).toInt = 12)).trans (decide_eq_false (by omega))), (List.forall_mem_cons.mpr ⟨f_cmp (cd := .gt) (a := a1) (b := 12) (t := true) rfl rfl ((k_gt rfl (by decide : (12 : Int32).toInt = 12)).trans (decide_eq_true (by omega))), (fun _ h => nomatch h)⟩)⟩)⟩)⟩)
  exact h33 h0 (by omega) (by omega)
theorem g34 {a0 a1 a2 a3 a4 a5 : Int32} (h0 : a0 &&& 63 = 34) : c_Goal [a0, a1, a2, a3, a4, a5] := by
  by_cases l1 : a1.toInt < 1
  ·
    exact c_of [] _ _ (q34_156) (c_xs rfl rfl rfl rfl rfl rfl) (List.forall_mem_cons.mpr ⟨⟨a0, 63, 34, rfl, rfl, congrArg some h0, rfl⟩, (List.forall_mem_cons.mpr ⟨f_cmp (cd := .lt) (a := a1) (b := 1) (t := true) rfl rfl ((k_lt rfl (by decide : (1 : Int32).toInt = 1)).trans (decide_eq_true (by omega))), (fun _ h => nomatch h)⟩)⟩)
  by_cases g1 : 12 < a1.toInt
  ·
    exact c_of [] _ _ (q34_157) (c_xs rfl rfl rfl rfl rfl rfl) (List.forall_mem_cons.mpr ⟨⟨a0, 63, 34, rfl, rfl, congrArg some h0, rfl⟩, (List.forall_mem_cons.mpr ⟨f_cmp (cd := .lt) (a := a1) (b := 1) (t := false) rfl rfl ((k_lt rfl (by decide : (1 : Int32).toInt = 1)).trans (decide_eq_false (by omega))), (List.forall_mem_cons.mpr ⟨f_cmp (cd := .le) (a := a1) (b := 12) (t := false) rfl rfl ((k_le rfl (by decide : (12 : Int32).toInt = 12)).trans (decide_eq_false (by omega))), (List.forall_mem_cons.mpr ⟨f_cmp (cd := .gt) (a := a1) (b := 12) (t := true) rfl rfl ((k_gt rfl (by decide : (12 : Int32).toInt = 12)).trans (decide_eq_true (by omega))), (fun _ h => nomatch h)⟩)⟩)⟩)⟩)
  by_cases l2 : a2.toInt < 0
  ·
    exact c_of [] _ _ (q34_158) (c_xs rfl rfl rfl rfl rfl rfl) (List.forall_mem_cons.mpr ⟨⟨a0, 63, 34, rfl, rfl, congrArg some h0, rfl⟩, (List.forall_mem_cons.mpr ⟨f_cmp (cd := .lt) (a := a1) (b := 1) (t := false) rfl rfl ((k_lt rfl (by decide : (1 : Int32).toInt = 1)).trans (decide_eq_false (by omega))), (List.forall_mem_cons.mpr ⟨f_cmp (cd := .le) (a := a1) (b := 12) (t := true) rfl rfl ((k_le rfl (by decide : (12 : Int32).toInt = 12)).trans (decide_eq_true (by omega))), (List.forall_mem_cons.mpr ⟨f_cmp (cd := .lt) (a := a2) (b := 0) (t := true) rfl rfl ((k_lt rfl (by decide : (0 : Int32).toInt = 0)).trans (decide_eq_true (by omega))), (List.forall_mem_cons.mpr ⟨f_cmp (cd := .gt) (a := a1) (b := 12) (t := false) rfl rfl ((k_gt rfl (by decide : (12 : Int32).toInt = 12)).trans (decide_eq_false (by omega))), (fun _ h => nomatch h)⟩)⟩)⟩)⟩)⟩)
  by_cases g2 : 12 < a2.toInt
  ·
    exact c_of [] _ _ (q34_159) (c_xs rfl rfl rfl rfl rfl rfl) (List.forall_mem_cons.mpr ⟨⟨a0, 63, 34, rfl, rfl, congrArg some h0, rfl⟩, (List.forall_mem_cons.mpr ⟨f_cmp (cd := .lt) (a := a1) (b := 1) (t := false) rfl rfl ((k_lt rfl (by decide : (1 : Int32).toInt = 1)).trans (decide_eq_false (by omega))), (List.forall_mem_cons.mpr ⟨f_cmp (cd := .le) (a := a1) (b := 12) (t := true) rfl rfl ((k_le rfl (by decide : (12 : Int32).toInt = 12)).trans (decide_eq_true (by omega))), (List.forall_mem_cons.mpr ⟨f_cmp (cd := .lt) (a := a2) (b := 0) (t := false) rfl rfl ((k_lt rfl (by decide : (0 : Int32).toInt = 0)).trans (decide_eq_false (by omega))), (List.forall_mem_cons.mpr ⟨f_cmp (cd := .le) (a := a2) (b := 12) (t := false) rfl rfl ((k_le rfl (by decide : (12 : Int32).toInt = 12)).trans (decide_eq_false (by omega))), (List.forall_mem_cons.mpr ⟨f_cmp (cd := .gt) (a := a1) (b := 12) (t := false) rfl rfl ((k_gt rfl (by decide : (12 : Int32).toInt = 12)).trans (decide_eq_false (by omega))), (List.forall_mem_cons.mpr ⟨f_cmp (cd := .gt) (a := a2) (b := 12) (t := true) rfl rfl ((k_gt rfl (by decide : (12 : Int32).toInt = 12)).trans (decide_eq_true (by omega))), (fun _ h => nomatch h)⟩)⟩)⟩)⟩)⟩)⟩)⟩)
  exact h34 h0 (by omega) (by omega) (by omega) (by omega)
