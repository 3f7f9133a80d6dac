set_option maxRecDepth 100000
theorem k34_f1 : ∀ v, v < 12 → c_chk ([(3, .retAddr 10, .int 63, .int 34)], [.retAddr 10, .int 1, .int (Int32.ofNat (1 + v)), .retAddr 13, .retAddr 14, .retAddr 15]) 1648 = true := by decide +kernel
theorem k34_f2 : ∀ v, v < 12 → c_chk ([(3, .retAddr 10, .int 63, .int 34)], [.retAddr 10, .int 2, .int (Int32.ofNat (1 + v)), .retAddr 13, .retAddr 14, .retAddr 15]) 1648 = true := by decide +kernel
theorem k34_f3 : ∀ v, v < 11 → c_chk ([(3, .retAddr 10, .int 63, .int 34)], [.retAddr 10, .int 3, .int (Int32.ofNat (2 + v)), .retAddr 13, .retAddr 14, .retAddr 15]) 1648 = true := by decide +kernel
theorem k34_f4 : ∀ v, v < 11 → c_chk ([(3, .retAddr 10, .int 63, .int 34)], [.retAddr 10, .int 4, .int (Int32.ofNat (2 + v)), .retAddr 13, .retAddr 14, .retAddr 15]) 1648 = true := by decide +kernel
theorem k34_f5 : ∀ v, v < 10 → c_chk ([(3, .retAddr 10, .int 63, .int 34)], [.retAddr 10, .int 5, .int (Int32.ofNat (3 + v)), .retAddr 13, .retAddr 14, .retAddr 15]) 1648 = true := by decide +kernel
theorem k34_f6 : ∀ v, v < 10 → c_chk ([(3, .retAddr 10, .int 63, .int 34)], [.retAddr 10, .int 6, .int (Int32.ofNat (3 + v)), .retAddr 13, .retAddr 14, .retAddr 15]) 1648 = true := by decide +kernel
theorem k34_f7 : ∀ v, v < 9 → c_chk ([(3, .retAddr 10, .int 63, .int 34)], [.retAddr 10, .int 7, .int (Int32.ofNat (4 + v)), .retAddr 13, .retAddr 14, .retAddr 15]) 1648 = true := by decide +kernel
theorem k34_f8 : ∀ v, v < 9 → c_chk ([(3, .retAddr 10, .int 63, .int 34)], [.retAddr 10, .int 8, .int (Int32.ofNat (4 + v)), .retAddr 13, .retAddr 14, .retAddr 15]) 1648 = true := by decide +kernel
theorem k34_f9 : ∀ v, v < 8 → c_chk ([(3, .retAddr 10, .int 63, .int 34)], [.retAddr 10, .int 9, .int (Int32.ofNat (5 + v)), .retAddr 13, .retAddr 14, .retAddr 15]) 1648 = true := by decide +kernel
theorem k34_f10 : ∀ v, v < 8 → c_chk ([(3, .retAddr 10, .int 63, .int 34)], [.retAddr 10, .int 10, .int (Int32.ofNat (5 + v)), .retAddr 13, .retAddr 14, .retAddr 15]) 1648 = true := by decide +kernel
theorem k34_f11 : ∀ v, v < 7 → c_chk ([(3, .retAddr 10, .int 63, .int 34)], [.retAddr 10, .int 11, .int (Int32.ofNat (6 + v)), .retAddr 13, .retAddr 14, .retAddr 15]) 1648 = true := by decide +kernel
theorem k34_f12 : ∀ v, v < 7 → c_chk ([(3, .retAddr 10, .int 63, .int 34)], [.retAddr 10, .int 12, .int (Int32.ofNat (6 + v)), .retAddr 13, .retAddr 14, .retAddr 15]) 1648 = true := by decide +kernel
theorem h34 {a0 a1 a2 a3 a4 a5 : Int32} (h0 : a0 &&& 63 = 34) (r0 : 1 ≤ a1.toInt) (r1 : a1.toInt ≤ 12) (r2 : 0 ≤ a2.toInt) (r3 : a2.toInt ≤ 12) : c_Goal [a0, a1, a2, a3, a4, a5] := by
  obtain ⟨v1, hv1, rfl⟩ := v_of (a := a1) 1 12 (by omega) (by omega) (by decide)
  obtain ⟨v2, hv2, rfl⟩ := v_of (a := a2) 0 13 (by omega) (by omega) (by decide)
  rw [Nat.zero_add]
  match v1, hv1, v2, hv2 with
  | 0, _, 0, _ => exact k34_1_0 h0
  | 0, _, 1, _ => exact c_of [] _ _ (k34_f1 0 (by decide)) (c_xs rfl rfl rfl rfl rfl rfl) (List.forall_mem_cons.mpr ⟨⟨a0, 63, 34, rfl, rfl, congrArg some h0, rfl⟩, fun _ h => nomatch h⟩)
  | 0, _, 2, _ => exact c_of [] _ _ (k34_f1 1 (by decide)) (c_xs rfl rfl rfl rfl rfl rfl) (List.forall_mem_cons.mpr ⟨⟨a0, 63, 34, rfl, rfl, congrArg some h0, rfl⟩, fun _ h => nomatch h⟩)
  | 0, _, 3, _ => exact c_of [] _ _ (k34_f1 2 (by decide)) (c_xs rfl rfl rfl rfl rfl rfl) (List.forall_mem_cons.mpr ⟨⟨a0, 63, 34, rfl, rfl, congrArg some h0, rfl⟩, fun _ h => nomatch h⟩)
  | 0, _, 4, _ => exact c_of [] _ _ (k34_f1 3 (by decide)) (c_xs rfl rfl rfl rfl rfl rfl) (List.forall_mem_cons.mpr ⟨⟨a0, 63, 34, rfl, rfl, congrArg some h0, rfl⟩, fun _ h => nomatch h⟩)
  | 0, _, 5, _ => exact c_of [] _ _ (k34_f1 4 (by decide)) (c_xs rfl rfl rfl rfl rfl rfl) (List.forall_mem_cons.mpr ⟨⟨a0, 63, 34, rfl, rfl, congrArg some h0, rfl⟩, fun _ h => nomatch h⟩)
  | 0, _, 6, _ => exact c_of [] _ _ (k34_f1 5 (by decide)) (c_xs rfl rfl rfl rfl rfl rfl) (List.forall_mem_cons.mpr ⟨⟨a0, 63, 34, rfl, rfl, congrArg some h0, rfl⟩, fun _ h => nomatch h⟩)
  | 0, _, 7, _ => exact c_of [] _ _ (k34_f1 6 (by decide)) (c_xs rfl rfl rfl rfl rfl rfl) (List.forall_mem_cons.mpr ⟨⟨a0, 63, 34, rfl, rfl, congrArg some h0, rfl⟩, fun _ h => nomatch h⟩)
  | 0, _, 8, _ => exact c_of [] _ _ (k34_f1 7 (by decide)) (c_xs rfl rfl rfl rfl rfl rfl) (List.forall_mem_cons.mpr ⟨⟨a0, 63, 34, rfl, rfl, congrArg some h0, rfl⟩, fun _ h => nomatch h⟩)
  | 0, _, 9, _ => exact c_of [] _ _ (k34_f1 8 (by decide)) (c_xs rfl rfl rfl rfl rfl rfl) (List.forall_mem_cons.mpr ⟨⟨a0, 63, 34, rfl, rfl, congrArg some h0, rfl⟩, fun _ h => nomatch h⟩)
  | 0, _, 10, _ => exact c_of [] _ _ (k34_f1 9 (by decide)) (c_xs rfl rfl rfl rfl rfl rfl) (List.forall_mem_cons.mpr ⟨⟨a0, 63, 34, rfl, rfl, congrArg some h0, rfl⟩, fun _ h => nomatch h⟩)
  | 0, _, 11, _ => exact c_of [] _ _ (k34_f1 10 (by decide)) (c_xs rfl rfl rfl rfl rfl rfl) (List.forall_mem_cons.mpr ⟨⟨a0, 63, 34, rfl, rfl, congrArg some h0, rfl⟩, fun _ h => nomatch h⟩)
  | 0, _, 12, _ => exact c_of [] _ _ (k34_f1 11 (by decide)) (c_xs rfl rfl rfl rfl rfl rfl) (List.forall_mem_cons.mpr ⟨⟨a0, 63, 34, rfl, rfl, congrArg some h0, rfl⟩, fun _ h => nomatch h⟩)
  | 1, _, 0, _ => exact k34_2_0 h0
  | 1, _, 1, _ => exact c_of [] _ _ (k34_f2 0 (by decide)) (c_xs rfl rfl rfl rfl rfl rfl) (List.forall_mem_cons.mpr ⟨⟨a0, 63, 34, rfl, rfl, congrArg some h0, rfl⟩, fun _ h => nomatch h⟩)
  | 1, _, 2, _ => exact c_of [] _ _ (k34_f2 1 (by decide)) (c_xs rfl rfl rfl rfl rfl rfl) (List.forall_mem_cons.mpr ⟨⟨a0, 63, 34, rfl, rfl, congrArg some h0, rfl⟩, fun _ h => nomatch h⟩)
  | 1, _, 3, _ => exact c_of [] _ _ (k34_f2 2 (by decide)) (c_xs rfl rfl rfl rfl rfl rfl) (List.forall_mem_cons.mpr ⟨⟨a0, 63, 34, rfl, rfl, congrArg some h0, rfl⟩, fun _ h => nomatch h⟩)
  | 1, _, 4, _ => exact c_of [] _ _ (k34_f2 3 (by decide)) (c_xs rfl rfl rfl rfl rfl rfl) (List.forall_mem_cons.mpr ⟨⟨a0, 63, 34, rfl, rfl, congrArg some h0, rfl⟩, fun _ h => nomatch h⟩)
  | 1, _, 5, _ => exact c_of [] _ _ (k34_f2 4 (by decide)) (c_xs rfl rfl rfl rfl rfl rfl) (List.forall_mem_cons.mpr ⟨⟨a0, 63, 34, rfl, rfl, congrArg some h0, rfl⟩, fun _ h => nomatch h⟩)
  | 1, _, 6, _ => exact c_of [] _ _ (k34_f2 5 (by decide)) (c_xs rfl rfl rfl rfl rfl rfl) (List.forall_mem_cons.mpr ⟨⟨a0, 63, 34, rfl, rfl, congrArg some h0, rfl⟩, fun _ h => nomatch h⟩)
  | 1, _, 7, _ => exact c_of [] _ _ (k34_f2 6 (by decide)) (c_xs rfl rfl rfl rfl rfl rfl) (List.forall_mem_cons.mpr ⟨⟨a0, 63, 34, rfl, rfl, congrArg some h0, rfl⟩, fun _ h => nomatch h⟩)
  | 1, _, 8, _ => exact c_of [] _ _ (k34_f2 7 (by decide)) (c_xs rfl rfl rfl rfl rfl rfl) (List.forall_mem_cons.mpr ⟨⟨a0, 63, 34, rfl, rfl, congrArg some h0, rfl⟩, fun _ h => nomatch h⟩)
  | 1, _, 9, _ => exact c_of [] _ _ (k34_f2 8 (by decide)) (c_xs rfl rfl rfl rfl rfl rfl) (List.forall_mem_cons.mpr ⟨⟨a0, 63, 34, rfl, rfl, congrArg some h0, rfl⟩, fun _ h => nomatch h⟩)
  | 1, _, 10, _ => exact c_of [] _ _ (k34_f2 9 (by decide)) (c_xs rfl rfl rfl rfl rfl rfl) (List.forall_mem_cons.mpr ⟨⟨a0, 63, 34, rfl, rfl, congrArg some h0, rfl⟩, fun _ h => nomatch h⟩)
  | 1, _, 11, _ => exact c_of [] _ _ (k34_f2 10 (by decide)) (c_xs rfl rfl rfl rfl rfl rfl) (List.forall_mem_cons.mpr ⟨⟨a0, 63, 34, rfl, rfl, congrArg some h0, rfl⟩, fun _ h => nomatch h⟩)
  | 1, _, 12, _ => exact c_of [] _ _ (k34_f2 11 (by decide)) (c_xs rfl rfl rfl rfl rfl rfl) (List.forall_mem_cons.mpr ⟨⟨a0, 63, 34, rfl, rfl, congrArg some h0, rfl⟩, fun _ h => nomatch h⟩)
  | 2, _, 0, _ => exact k34_3_0 h0
  | 2, _, 1, _ => exact k34_3_1 h0
  | 2, _, 2, _ => exact c_of [] _ _ (k34_f3 0 (by decide)) (c_xs rfl rfl rfl rfl rfl rfl) (List.forall_mem_cons.mpr ⟨⟨a0, 63, 34, rfl, rfl, congrArg some h0, rfl⟩, fun _ h => nomatch h⟩)
  | 2, _, 3, _ => exact c_of [] _ _ (k34_f3 1 (by decide)) (c_xs rfl rfl rfl rfl rfl rfl) (List.forall_mem_cons.mpr ⟨⟨a0, 63, 34, rfl, rfl, congrArg some h0, rfl⟩, fun _ h => nomatch h⟩)
  | 2, _, 4, _ => exact c_of [] _ _ (k34_f3 2 (by decide)) (c_xs rfl rfl rfl rfl rfl rfl) (List.forall_mem_cons.mpr ⟨⟨a0, 63, 34, rfl, rfl, congrArg some h0, rfl⟩, fun _ h => nomatch h⟩)
  | 2, _, 5, _ => exact c_of [] _ _ (k34_f3 3 (by decide)) (c_xs rfl rfl rfl rfl rfl rfl) (List.forall_mem_cons.mpr ⟨⟨a0, 63, 34, rfl, rfl, congrArg some h0, rfl⟩, fun _ h => nomatch h⟩)
  | 2, _, 6, _ => exact c_of [] _ _ (k34_f3 4 (by decide)) (c_xs rfl rfl rfl rfl rfl rfl) (List.forall_mem_cons.mpr ⟨⟨a0, 63, 34, rfl, rfl, congrArg some h0, rfl⟩, fun _ h => nomatch h⟩)
  | 2, _, 7, _ => exact c_of [] _ _ (k34_f3 5 (by decide)) (c_xs rfl rfl rfl rfl rfl rfl) (List.forall_mem_cons.mpr ⟨⟨a0, 63, 34, rfl, rfl, congrArg some h0, rfl⟩, fun _ h => nomatch h⟩)
  | 2, _, 8, _ => exact c_of [] _ _ (k34_f3 6 (by decide)) (c_xs rfl rfl rfl rfl rfl rfl) (List.forall_mem_cons.mpr ⟨⟨a0, 63, 34, rfl, rfl, congrArg some h0, rfl⟩, fun _ h => nomatch h⟩)
  | 2, _, 9, _ => exact c_of [] _ _ (k34_f3 7 (by decide)) (c_xs rfl rfl rfl rfl rfl rfl) (List.forall_mem_cons.mpr ⟨⟨a0, 63, 34, rfl, rfl, congrArg some h0, rfl⟩, fun _ h => nomatch h⟩)
  | 2, _, 10, _ => exact c_of [] _ _ (k34_f3 8 (by decide)) (c_xs rfl rfl rfl rfl rfl rfl) (List.forall_mem_cons.mpr ⟨⟨a0, 63, 34, rfl, rfl, congrArg some h0, rfl⟩, fun _ h => nomatch h⟩)
  | 2, _, 11, _ => exact c_of [] _ _ (k34_f3 9 (by decide)) (c_xs rfl rfl rfl rfl rfl rfl) (List.forall_mem_cons.mpr ⟨⟨a0, 63, 34, rfl, rfl, congrArg some h0, rfl⟩, fun _ h => nomatch h⟩)
  | 2, _, 12, _ => exact c_of [] _ _ (k34_f3 10 (by decide)) (c_xs rfl rfl rfl rfl rfl rfl) (List.forall_mem_cons.mpr ⟨⟨a0, 63, 34, rfl, rfl, congrArg some h0, rfl⟩, fun _ h => nomatch h⟩)
  | 3, _, 0, _ => exact k34_4_0 h0
  | 3, _, 1, _ => exact k34_4_1 h0
  | 3, _, 2, _ => exact c_of [] _ _ (k34_f4 0 (by decide)) (c_xs rfl rfl rfl rfl rfl rfl) (List.forall_mem_cons.mpr ⟨⟨a0, 63, 34, rfl, rfl, congrArg some h0, rfl⟩, fun _ h => nomatch h⟩)
  | 3, _, 3, _ => exact c_of [] _ _ (k34_f4 1 (by decide)) (c_xs rfl rfl rfl rfl rfl rfl) (List.forall_mem_cons.mpr ⟨⟨a0, 63, 34, rfl, rfl, congrArg some h0, rfl⟩, fun _ h => nomatch h⟩)
  | 3, _, 4, _ => exact c_of [] _ _ (k34_f4 2 (by decide)) (c_xs rfl rfl rfl rfl rfl rfl) (List.forall_mem_cons.mpr ⟨⟨a0, 63, 34, rfl, rfl, congrArg some h0, rfl⟩, fun _ h => nomatch h⟩)
  | 3, _, 5, _ => exact c_of [] _ _ (k34_f4 3 (by decide)) (c_xs rfl rfl rfl rfl rfl rfl) (List.forall_mem_cons.mpr ⟨⟨a0, 63, 34, rfl, rfl, congrArg some h0, rfl⟩, fun _ h => nomatch h⟩)
  | 3, _, 6, _ => exact c_of [] _ _ (k34_f4 4 (by decide)) (c_xs rfl rfl rfl rfl rfl rfl) (List.forall_mem_cons.mpr ⟨⟨a0, 63, 34, rfl, rfl, congrArg some h0, rfl⟩, fun _ h => nomatch h⟩)
  | 3, _, 7, _ => exact c_of [] _ _ (k34_f4 5 (by decide)) (c_xs rfl rfl rfl rfl rfl rfl) (List.forall_mem_cons.mpr ⟨⟨a0, 63, 34, rfl, rfl, congrArg some h0, rfl⟩, fun _ h => nomatch h⟩)
  | 3, _, 8, _ => exact c_of [] _ _ (k34_f4 6 (by decide)) (c_xs rfl rfl rfl rfl rfl rfl) (List.forall_mem_cons.mpr ⟨⟨a0, 63, 34, rfl, rfl, congrArg some h0, rfl⟩, fun _ h => nomatch h⟩)
  | 3, _, 9, _ => exact c_of [] _ _ (k34_f4 7 (by decide)) (c_xs rfl rfl rfl rfl rfl rfl) (List.forall_mem_cons.mpr ⟨⟨a0, 63, 34, rfl, rfl, congrArg some h0, rfl⟩, fun _ h => nomatch h⟩)
  | 3, _, 10, _ => exact c_of [] _ _ (k34_f4 8 (by decide)) (c_xs rfl rfl rfl rfl rfl rfl) (List.forall_mem_cons.mpr ⟨⟨a0, 63, 34, rfl, rfl, congrArg some h0, rfl⟩, fun _ h => nomatch h⟩)
  | 3, _, 11, _ => exact c_of [] _ _ (k34_f4 9 (by decide)) (c_xs rfl rfl rfl rfl rfl rfl) (List.forall_mem_cons.mpr ⟨⟨a0, 63, 34, rfl, rfl, congrArg some h0, rfl⟩, fun _ h => nomatch h⟩)
  | 3, _, 12, _ => exact c_of [] _ _ (k34_f4 10 (by decide)) (c_xs rfl rfl rfl rfl rfl rfl) (List.forall_mem_cons.mpr ⟨⟨a0, 63, 34, rfl, rfl, congrArg some h0, rfl⟩, fun _ h => nomatch h⟩)
  | 4, _, 0, _ => exact k34_5_0 h0
  | 4, _, 1, _ => exact k34_5_1 h0
  | 4, _, 2, _ => exact k34_5_2 h0
  | 4, _, 3, _ => exact c_of [] _ _ (k34_f5 0 (by decide)) (c_xs rfl rfl rfl rfl rfl rfl) (List.forall_mem_cons.mpr ⟨⟨a0, 63, 34, rfl, rfl, congrArg some h0, rfl⟩, fun _ h => nomatch h⟩)
  | 4, _, 4, _ => exact c_of [] _ _ (k34_f5 1 (by decide)) (c_xs rfl rfl rfl rfl rfl rfl) (List.forall_mem_cons.mpr ⟨⟨a0, 63, 34, rfl, rfl, congrArg some h0, rfl⟩, fun _ h => nomatch h⟩)
  | 4, _, 5, _ => exact c_of [] _ _ (k34_f5 2 (by decide)) (c_xs rfl rfl rfl rfl rfl rfl) (List.forall_mem_cons.mpr ⟨⟨a0, 63, 34, rfl, rfl, congrArg some h0, rfl⟩, fun _ h => nomatch h⟩)
  | 4, _, 6, _ => exact c_of [] _ _ (k34_f5 3 (by decide)) (c_xs rfl rfl rfl rfl rfl rfl) (List.forall_mem_cons.mpr ⟨⟨a0, 63, 34, rfl, rfl, congrArg some h0, rfl⟩, fun _ h => nomatch h⟩)
  | 4, _, 7, _ => exact c_of [] _ _ (k34_f5 4 (by decide)) (c_xs rfl rfl rfl rfl rfl rfl) (List.forall_mem_cons.mpr ⟨⟨a0, 63, 34, rfl, rfl, congrArg some h0, rfl⟩, fun _ h => nomatch h⟩)
  | 4, _, 8, _ => exact c_of [] _ _ (k34_f5 5 (by decide)) (c_xs rfl rfl rfl rfl rfl rfl) (List.forall_mem_cons.mpr ⟨⟨a0, 63, 34, rfl, rfl, congrArg some h0, rfl⟩, fun _ h => nomatch h⟩)
  | 4, _, 9, _ => exact c_of [] _ _ (k34_f5 6 (by decide)) (c_xs rfl rfl rfl rfl rfl rfl) (List.forall_mem_cons.mpr ⟨⟨a0, 63, 34, rfl, rfl, congrArg some h0, rfl⟩, fun _ h => nomatch h⟩)
  | 4, _, 10, _ => exact c_of [] _ _ (k34_f5 7 (by decide)) (c_xs rfl rfl rfl rfl rfl rfl) (List.forall_mem_cons.mpr ⟨⟨a0, 63, 34, rfl, rfl, congrArg some h0, rfl⟩, fun _ h => nomatch h⟩)
  | 4, _, 11, _ => exact c_of [] _ _ (k34_f5 8 (by decide)) (c_xs rfl rfl rfl rfl rfl rfl) (List.forall_mem_cons.mpr ⟨⟨a0, 63, 34, rfl, rfl, congrArg some h0, rfl⟩, fun _ h => nomatch h⟩)
  | 4, _, 12, _ => exact c_of [] _ _ (k34_f5 9 (by decide)) (c_xs rfl rfl rfl rfl rfl rfl) (List.forall_mem_cons.mpr ⟨⟨a0, 63, 34, rfl, rfl, congrArg some h0, rfl⟩, fun _ h => nomatch h⟩)
  | 5, _, 0, _ => exact k34_6_0 h0
  | 5, _, 1, _ => exact k34_6_1 h0
  | 5, _, 2, _ => exact k34_6_2 h0
  | 5, _, 3, _ => exact c_of [] _ _ (k34_f6 0 (by decide)) (c_xs rfl rfl rfl rfl rfl rfl) (List.forall_mem_cons.mpr ⟨⟨a0, 63, 34, rfl, rfl, congrArg some h0, rfl⟩, fun _ h => nomatch h⟩)
  | 5, _, 4, _ => exact c_of [] _ _ (k34_f6 1 (by decide)) (c_xs rfl rfl rfl rfl rfl rfl) (List.forall_mem_cons.mpr ⟨⟨a0, 63, 34, rfl, rfl, congrArg some h0, rfl⟩, fun _ h => nomatch h⟩)
  | 5, _, 5, _ => exact c_of [] _ _ (k34_f6 2 (by decide)) (c_xs rfl rfl rfl rfl rfl rfl) (List.forall_mem_cons.mpr ⟨⟨a0, 63, 34, rfl, rfl, congrArg some h0, rfl⟩, fun _ h => nomatch h⟩)
  | 5, _, 6, _ => exact c_of [] _ _ (k34_f6 3 (by decide)) (c_xs rfl rfl rfl rfl rfl rfl) (List.forall_mem_cons.mpr ⟨⟨a0, 63, 34, rfl, rfl, congrArg some h0, rfl⟩, fun _ h => nomatch h⟩)
  | 5, _, 7, _ => exact c_of [] _ _ (k34_f6 4 (by decide)) (c_xs rfl rfl rfl rfl rfl rfl) (List.forall_mem_cons.mpr ⟨⟨a0, 63, 34, rfl, rfl, congrArg some h0, rfl⟩, fun _ h => nomatch h⟩)
  | 5, _, 8, _ => exact c_of [] _ _ (k34_f6 5 (by decide)) (c_xs rfl rfl rfl rfl rfl rfl) (List.forall_mem_cons.mpr ⟨⟨a0, 63, 34, rfl, rfl, congrArg some h0, rfl⟩, fun _ h => nomatch h⟩)
  | 5, _, 9, _ => exact c_of [] _ _ (k34_f6 6 (by decide)) (c_xs rfl rfl rfl rfl rfl rfl) (List.forall_mem_cons.mpr ⟨⟨a0, 63, 34, rfl, rfl, congrArg some h0, rfl⟩, fun _ h => nomatch h⟩)
  | 5, _, 10, _ => exact c_of [] _ _ (k34_f6 7 (by decide)) (c_xs rfl rfl rfl rfl rfl rfl) (List.forall_mem_cons.mpr ⟨⟨a0, 63, 34, rfl, rfl, congrArg some h0, rfl⟩, fun _ h => nomatch h⟩)
  | 5, _, 11, _ => exact c_of [] _ _ (k34_f6 8 (by decide)) (c_xs rfl rfl rfl rfl rfl rfl) (List.forall_mem_cons.mpr ⟨⟨a0, 63, 34, rfl, rfl, congrArg some h0, rfl⟩, fun _ h => nomatch h⟩)
  | 5, _, 12, _ => exact c_of [] _ _ (k34_f6 9 (by decide)) (c_xs rfl rfl rfl rfl rfl rfl) (List.forall_mem_cons.mpr ⟨⟨a0, 63, 34, rfl, rfl, congrArg some h0, rfl⟩, fun _ h => nomatch h⟩)
  | 6, _, 0, _ => exact k34_7_0 h0
  | 6, _, 1, _ => exact k34_7_1 h0
  | 6, _, 2, _ => exact k34_7_2 h0
  | 6, _, 3, _ => exact k34_7_3 h0
  | 6, _, 4, _ => exact c_of [] _ _ (k34_f7 0 (by decide)) (c_xs rfl rfl rfl rfl rfl rfl) (List.forall_mem_cons.mpr ⟨⟨a0, 63, 34, rfl, rfl, congrArg some h0, rfl⟩, fun _ h => nomatch h⟩)
  | 6, _, 5, _ => exact c_of [] _ _ (k34_f7 1 (by decide)) (c_xs rfl rfl rfl rfl rfl rfl) (List.forall_mem_cons.mpr ⟨⟨a0, 63, 34, rfl, rfl, congrArg some h0, rfl⟩, fun _ h => nomatch h⟩)
  | 6, _, 6, _ => exact c_of [] _ _ (k34_f7 2 (by decide)) (c_xs rfl rfl rfl rfl rfl rfl) (List.forall_mem_cons.mpr ⟨⟨a0, 63, 34, rfl, rfl, congrArg some h0, rfl⟩, fun _ h => nomatch h⟩)
  | 6, _, 7, _ => exact c_of [] _ _ (k34_f7 3 (by decide)) (c_xs rfl rfl rfl rfl rfl rfl) (List.forall_mem_cons.mpr ⟨⟨a0, 63, 34, rfl, rfl, congrArg some h0, rfl⟩, fun _ h => nomatch h⟩)
  | 6, _, 8, _ => exact c_of [] _ _ (k34_f7 4 (by decide)) (c_xs rfl rfl rfl rfl rfl rfl) (List.forall_mem_cons.mpr ⟨⟨a0, 63, 34, rfl, rfl, congrArg some h0, rfl⟩, fun _ h => nomatch h⟩)
  | 6, _, 9, _ => exact c_of [] _ _ (k34_f7 5 (by decide)) (c_xs rfl rfl rfl rfl rfl rfl) (List.forall_mem_cons.mpr ⟨⟨a0, 63, 34, rfl, rfl, congrArg some h0, rfl⟩, fun _ h => nomatch h⟩)
  | 6, _, 10, _ => exact c_of [] _ _ (k34_f7 6 (by decide)) (c_xs rfl rfl rfl rfl rfl rfl) (List.forall_mem_cons.mpr ⟨⟨a0, 63, 34, rfl, rfl, congrArg some h0, rfl⟩, fun _ h => nomatch h⟩)
  | 6, _, 11, _ => exact c_of [] _ _ (k34_f7 7 (by decide)) (c_xs rfl rfl rfl rfl rfl rfl) (List.forall_mem_cons.mpr ⟨⟨a0, 63, 34, rfl, rfl, congrArg some h0, rfl⟩, fun _ h => nomatch h⟩)
  | 6, _, 12, _ => exact c_of [] _ _ (k34_f7 8 (by decide)) (c_xs rfl rfl rfl rfl rfl rfl) (List.forall_mem_cons.mpr ⟨⟨a0, 63, 34, rfl, rfl, congrArg some h0, rfl⟩, fun _ h => nomatch h⟩)
  | 7, _, 0, _ => exact k34_8_0 h0
  | 7, _, 1, _ => exact k34_8_1 h0
  | 7, _, 2, _ => exact k34_8_2 h0
  | 7, _, 3, _ => exact k34_8_3 h0
  | 7, _, 4, _ => exact c_of [] _ _ (k34_f8 0 (by decide)) (c_xs rfl rfl rfl rfl rfl rfl) (List.forall_mem_cons.mpr ⟨⟨a0, 63, 34, rfl, rfl, congrArg some h0, rfl⟩, fun _ h => nomatch h⟩)
  | 7, _, 5, _ => exact c_of [] _ _ (k34_f8 1 (by decide)) (c_xs rfl rfl rfl rfl rfl rfl) (List.forall_mem_cons.mpr ⟨⟨a0, 63, 34, rfl, rfl, congrArg some h0, rfl⟩, fun _ h => nomatch h⟩)
  | 7, _, 6, _ => exact c_of [] _ _ (k34_f8 2 (by decide)) (c_xs rfl rfl rfl rfl rfl rfl) (List.forall_mem_cons.mpr ⟨⟨a0, 63, 34, rfl, rfl, congrArg some h0, rfl⟩, fun _ h => nomatch h⟩)
  | 7, _, 7, _ => exact c_of [] _ _ (k34_f8 3 (by decide)) (c_xs rfl rfl rfl rfl rfl rfl) (List.forall_mem_cons.mpr ⟨⟨a0, 63, 34, rfl, rfl, congrArg some h0, rfl⟩, fun _ h => nomatch h⟩)
  | 7, _, 8, _ => exact c_of [] _ _ (k34_f8 4 (by decide)) (c_xs rfl rfl rfl rfl rfl rfl) (List.forall_mem_cons.mpr ⟨⟨a0, 63, 34, rfl, rfl, congrArg some h0, rfl⟩, fun _ h => nomatch h⟩)
  | 7, _, 9, _ => exact c_of [] _ _ (k34_f8 5 (by decide)) (c_xs rfl rfl rfl rfl rfl rfl) (List.forall_mem_cons.mpr ⟨⟨a0, 63, 34, rfl, rfl, congrArg some h0, rfl⟩, fun _ h => nomatch h⟩)
  | 7, _, 10, _ => exact c_of [] _ _ (k34_f8 6 (by decide)) (c_xs rfl rfl rfl rfl rfl rfl) (List.forall_mem_cons.mpr ⟨⟨a0, 63, 34, rfl, rfl, congrArg some h0, rfl⟩, fun _ h => nomatch h⟩)
  | 7, _, 11, _ => exact c_of [] _ _ (k34_f8 7 (by decide)) (c_xs rfl rfl rfl rfl rfl rfl) (List.forall_mem_cons.mpr ⟨⟨a0, 63, 34, rfl, rfl, congrArg some h0, rfl⟩, fun _ h => nomatch h⟩)
  | 7, _, 12, _ => exact c_of [] _ _ (k34_f8 8 (by decide)) (c_xs rfl rfl rfl rfl rfl rfl) (List.forall_mem_cons.mpr ⟨⟨a0, 63, 34, rfl, rfl, congrArg some h0, rfl⟩, fun _ h => nomatch h⟩)
  | 8, _, 0, _ => exact k34_9_0 h0
  | 8, _, 1, _ => exact k34_9_1 h0
  | 8, _, 2, _ => exact k34_9_2 h0
  | 8, _, 3, _ => exact k34_9_3 h0
  | 8, _, 4, _ => exact k34_9_4 h0
  | 8, _, 5, _ => exact c_of [] _ _ (k34_f9 0 (by decide)) (c_xs rfl rfl rfl rfl rfl rfl) (List.forall_mem_cons.mpr ⟨⟨a0, 63, 34, rfl, rfl, congrArg some h0, rfl⟩, fun _ h => nomatch h⟩)
  | 8, _, 6, _ => exact c_of [] _ _ (k34_f9 1 (by decide)) (c_xs rfl rfl rfl rfl rfl rfl) (List.forall_mem_cons.mpr ⟨⟨a0, 63, 34, rfl, rfl, congrArg some h0, rfl⟩, fun _ h => nomatch h⟩)
  | 8, _, 7, _ => exact c_of [] _ _ (k34_f9 2 (by decide)) (c_xs rfl rfl rfl rfl rfl rfl) (List.forall_mem_cons.mpr ⟨⟨a0, 63, 34, rfl, rfl, congrArg some h0, rfl⟩, fun _ h => nomatch h⟩)
  | 8, _, 8, _ => exact c_of [] _ _ (k34_f9 3 (by decide)) (c_xs rfl rfl rfl rfl rfl rfl) (List.forall_mem_cons.mpr ⟨⟨a0, 63, 34, rfl, rfl, congrArg some h0, rfl⟩, fun _ h => nomatch h⟩)
  | 8, _, 9, _ => exact c_of [] _ _ (k34_f9 4 (by decide)) (c_xs rfl rfl rfl rfl rfl rfl) (List.forall_mem_cons.mpr ⟨⟨a0, 63, 34, rfl, rfl, congrArg some h0, rfl⟩, fun _ h => nomatch h⟩)
  | 8, _, 10, _ => exact c_of [] _ _ (k34_f9 5 (by decide)) (c_xs rfl rfl rfl rfl rfl rfl) (List.forall_mem_cons.mpr ⟨⟨a0, 63, 34, rfl, rfl, congrArg some h0, rfl⟩, fun _ h => nomatch h⟩)
  | 8, _, 11, _ => exact c_of [] _ _ (k34_f9 6 (by decide)) (c_xs rfl rfl rfl rfl rfl rfl) (List.forall_mem_cons.mpr ⟨⟨a0, 63, 34, rfl, rfl, congrArg some h0, rfl⟩, fun _ h => nomatch h⟩)
  | 8, _, 12, _ => exact c_of [] _ _ (k34_f9 7 (by decide)) (c_xs rfl rfl rfl rfl rfl rfl) (List.forall_mem_cons.mpr ⟨⟨a0, 63, 34, rfl, rfl, congrArg some h0, rfl⟩, fun _ h => nomatch h⟩)
  | 9, _, 0, _ => exact k34_10_0 h0
  | 9, _, 1, _ => exact k34_10_1 h0
  | 9, _, 2, _ => exact k34_10_2 h0
  | 9, _, 3, _ => exact k34_10_3 h0
  | 9, _, 4, _ => exact k34_10_4 h0
  | 9, _, 5, _ => exact c_of [] _ _ (k34_f10 0 (by decide)) (c_xs rfl rfl rfl rfl rfl rfl) (List.forall_mem_cons.mpr ⟨⟨a0, 63, 34, rfl, rfl, congrArg some h0, rfl⟩, fun _ h => nomatch h⟩)
  | 9, _, 6, _ => exact c_of [] _ _ (k34_f10 1 (by decide)) (c_xs rfl rfl rfl rfl rfl rfl) (List.forall_mem_cons.mpr ⟨⟨a0, 63, 34, rfl, rfl, congrArg some h0, rfl⟩, fun _ h => nomatch h⟩)
  | 9, _, 7, _ => exact c_of [] _ _ (k34_f10 2 (by decide)) (c_xs rfl rfl rfl rfl rfl rfl) (List.forall_mem_cons.mpr ⟨⟨a0, 63, 34, rfl, rfl, congrArg some h0, rfl⟩, fun _ h => nomatch h⟩)
  | 9, _, 8, _ => exact c_of [] _ _ (k34_f10 3 (by decide)) (c_xs rfl rfl rfl rfl rfl rfl) (List.forall_mem_cons.mpr ⟨⟨a0, 63, 34, rfl, rfl, congrArg some h0, rfl⟩, fun _ h => nomatch h⟩)
  | 9, _, 9, _ => exact c_of [] _ _ (k34_f10 4 (by decide)) (c_xs rfl rfl rfl rfl rfl rfl) (List.forall_mem_cons.mpr ⟨⟨a0, 63, 34, rfl, rfl, congrArg some h0, rfl⟩, fun _ h => nomatch h⟩)
  | 9, _, 10, _ => exact c_of [] _ _ (k34_f10 5 (by decide)) (c_xs rfl rfl rfl rfl rfl rfl) (List.forall_mem_cons.mpr ⟨⟨a0, 63, 34, rfl, rfl, congrArg some h0, rfl⟩, fun _ h => nomatch h⟩)
  | 9, _, 11, _ => exact c_of [] _ _ (k34_f10 6 (by decide)) (c_xs rfl rfl rfl rfl rfl rfl) (List.forall_mem_cons.mpr ⟨⟨a0, 63, 34, rfl, rfl, congrArg some h0, rfl⟩, fun _ h => nomatch h⟩)
  | 9, _, 12, _ => exact c_of [] _ _ (k34_f10 7 (by decide)) (c_xs rfl rfl rfl rfl rfl rfl) (List.forall_mem_cons.mpr ⟨⟨a0, 63, 34, rfl, rfl, congrArg some h0, rfl⟩, fun _ h => nomatch h⟩)
  | 10, _, 0, _ => exact k34_11_0 h0
  | 10, _, 1, _ => exact k34_11_1 h0
  | 10, _, 2, _ => exact k34_11_2 h0
  | 10, _, 3, _ => exact k34_11_3 h0
  | 10, _, 4, _ => exact k34_11_4 h0
  | 10, _, 5, _ => exact k34_11_5 h0
  | 10, _, 6, _ => exact c_of [] _ _ (k34_f11 0 (by decide)) (c_xs rfl rfl rfl rfl rfl rfl) (List.forall_mem_cons.mpr ⟨⟨a0, 63, 34, rfl, rfl, congrArg some h0, rfl⟩, fun _ h => nomatch h⟩)
  | 10, _, 7, _ => exact c_of [] _ _ (k34_f11 1 (by decide)) (c_xs rfl rfl rfl rfl rfl rfl) (List.forall_mem_cons.mpr ⟨⟨a0, 63, 34, rfl, rfl, congrArg some h0, rfl⟩, fun _ h => nomatch h⟩)
  | 10, _, 8, _ => exact c_of [] _ _ (k34_f11 2 (by decide)) (c_xs rfl rfl rfl rfl rfl rfl) (List.forall_mem_cons.mpr ⟨⟨a0, 63, 34, rfl, rfl, congrArg some h0, rfl⟩, fun _ h => nomatch h⟩)
  | 10, _, 9, _ => exact c_of [] _ _ (k34_f11 3 (by decide)) (c_xs rfl rfl rfl rfl rfl rfl) (List.forall_mem_cons.mpr ⟨⟨a0, 63, 34, rfl, rfl, congrArg some h0, rfl⟩, fun _ h => nomatch h⟩)
  | 10, _, 10, _ => exact c_of [] _ _ (k34_f11 4 (by decide)) (c_xs rfl rfl rfl rfl rfl rfl) (List.forall_mem_cons.mpr ⟨⟨a0, 63, 34, rfl, rfl, congrArg some h0, rfl⟩, fun _ h => nomatch h⟩)
  | 10, _, 11, _ => exact c_of [] _ _ (k34_f11 5 (by decide)) (c_xs rfl rfl rfl rfl rfl rfl) (List.forall_mem_cons.mpr ⟨⟨a0, 63, 34, rfl, rfl, congrArg some h0, rfl⟩, fun _ h => nomatch h⟩)
  | 10, _, 12, _ => exact c_of [] _ _ (k34_f11 6 (by decide)) (c_xs rfl rfl rfl rfl rfl rfl) (List.forall_mem_cons.mpr ⟨⟨a0, 63, 34, rfl, rfl, congrArg some h0, rfl⟩, fun _ h => nomatch h⟩)
  | 11, _, 0, _ => exact k34_12_0 h0
  | 11, _, 1, _ => exact k34_12_1 h0
  | 11, _, 2, _ => exact k34_12_2 h0
  | 11, _, 3, _ => exact k34_12_3 h0
  | 11, _, 4, _ => exact k34_12_4 h0
  | 11, _, 5, _ => exact k34_12_5 h0
  | 11, _, 6, _ => exact c_of [] _ _ (k34_f12 0 (by decide)) (c_xs rfl rfl rfl rfl rfl rfl) (List.forall_mem_cons.mpr ⟨⟨a0, 63, 34, rfl, rfl, congrArg some h0, rfl⟩, fun _ h => nomatch h⟩)
  | 11, _, 7, _ => exact c_of [] _ _ (k34_f12 1 (by decide)) (c_xs rfl rfl rfl rfl rfl rfl) (List.forall_mem_cons.mpr ⟨⟨a0, 63, 34, rfl, rfl, congrArg some h0, rfl⟩, fun _ h => nomatch h⟩)
  | 11, _, 8, _ => exact c_of [] _ _ (k34_f12 2 (by decide)) (c_xs rfl rfl rfl rfl rfl rfl) (List.forall_mem_cons.mpr ⟨⟨a0, 63, 34, rfl, rfl, congrArg some h0, rfl⟩, fun _ h => nomatch h⟩)
  | 11, _, 9, _ => exact c_of [] _ _ (k34_f12 3 (by decide)) (c_xs rfl rfl rfl rfl rfl rfl) (List.forall_mem_cons.mpr ⟨⟨a0, 63, 34, rfl, rfl, congrArg some h0, rfl⟩, fun _ h => nomatch h⟩)
  | 11, _, 10, _ => exact c_of [] _ _ (k34_f12 4 (by decide)) (c_xs rfl rfl rfl rfl rfl rfl) (List.forall_mem_cons.mpr ⟨⟨a0, 63, 34, rfl, rfl, congrArg some h0, rfl⟩, fun _ h => nomatch h⟩)
  | 11, _, 11, _ => exact c_of [] _ _ (k34_f12 5 (by decide)) (c_xs rfl rfl rfl rfl rfl rfl) (List.forall_mem_cons.mpr ⟨⟨a0, 63, 34, rfl, rfl, congrArg some h0, rfl⟩, fun _ h => nomatch h⟩)
  | 11, _, 12, _ => exact c_of [] _ _ (k34_f12 6 (by decide)) (c_xs rfl rfl rfl rfl rfl rfl) (List.forall_mem_cons.mpr ⟨⟨a0, 63, 34, rfl, rfl, congrArg some h0, rfl⟩, fun _ h => nomatch h⟩)
  | n + 12, h, _, _ => exact absurd h (by omega)
  | _, _, n + 13, h => exact absurd h (by omega)
