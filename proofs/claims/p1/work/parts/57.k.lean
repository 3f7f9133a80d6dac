theorem h32 {a0 a1 a2 a3 a4 a5 : Int32} (h0 : a0 &&& 63 = 32) (r0 : 1 ≤ a1.toInt) (r1 : a1.toInt ≤ 12) : c_Goal [a0, a1, a2, a3, a4, a5] := by
  obtain ⟨v1, hv1, rfl⟩ := v_of (a := a1) 1 12 (by omega) (by omega) (by decide)
  match v1, hv1 with
  | 0, _ => exact j32_1 h0
  | 1, _ => exact j32_2 h0
  | 2, _ => exact j32_3 h0
  | 3, _ => exact j32_4 h0
  | 4, _ => exact j32_5 h0
  | 5, _ => exact j32_6 h0
  | 6, _ => exact j32_7 h0
  | 7, _ => exact j32_8 h0
  | 8, _ => exact j32_9 h0
  | 9, _ => exact j32_10 h0
  | 10, _ => exact j32_11 h0
  | 11, _ => exact j32_12 h0
  | v + 12, h => exact absurd h (by omega)
theorem h33 {a0 a1 a2 a3 a4 a5 : Int32} (h0 : a0 &&& 63 = 33) (r0 : 1 ≤ a1.toInt) (r1 : a1.toInt ≤ 12) : c_Goal [a0, a1, a2, a3, a4, a5] := by
  obtain ⟨v1, hv1, rfl⟩ := v_of (a := a1) 1 12 (by omega) (by omega) (by decide)
  by_cases n2 : a2.toInt < 0
  · match v1, hv1 with
    | 0, _ => exact j33n_1 h0 n2
    | 1, _ => exact j33n_2 h0 n2
    | 2, _ => exact j33n_3 h0 n2
    | 3, _ => exact j33n_4 h0 n2
    | 4, _ => exact j33n_5 h0 n2
    | 5, _ => exact j33n_6 h0 n2
    | 6, _ => exact j33n_7 h0 n2
    | 7, _ => exact j33n_8 h0 n2
    | 8, _ => exact j33n_9 h0 n2
    | 9, _ => exact j33n_10 h0 n2
    | 10, _ => exact j33n_11 h0 n2
    | 11, _ => exact j33n_12 h0 n2
    | v + 12, h => exact absurd h (by omega)
  by_cases p2 : 0 < a2.toInt
  · match v1, hv1 with
    | 0, _ => exact j33p_1 h0 p2
    | 1, _ => exact j33p_2 h0 p2
    | 2, _ => exact j33p_3 h0 p2
    | 3, _ => exact j33p_4 h0 p2
    | 4, _ => exact j33p_5 h0 p2
    | 5, _ => exact j33p_6 h0 p2
    | 6, _ => exact j33p_7 h0 p2
    | 7, _ => exact j33p_8 h0 p2
    | 8, _ => exact j33p_9 h0 p2
    | 9, _ => exact j33p_10 h0 p2
    | 10, _ => exact j33p_11 h0 p2
    | 11, _ => exact j33p_12 h0 p2
    | v + 12, h => exact absurd h (by omega)
  have e2 : a2 = 0 := Int32.toInt_inj.mp (by rw [show (0 : Int32).toInt = 0 from by decide]; omega)
  subst e2
  match v1, hv1 with
  | 0, _ => exact j33z_1 h0
  | 1, _ => exact j33z_2 h0
  | 2, _ => exact j33z_3 h0
  | 3, _ => exact j33z_4 h0
  | 4, _ => exact j33z_5 h0
  | 5, _ => exact j33z_6 h0
  | 6, _ => exact j33z_7 h0
  | 7, _ => exact j33z_8 h0
  | 8, _ => exact j33z_9 h0
  | 9, _ => exact j33z_10 h0
  | 10, _ => exact j33z_11 h0
  | 11, _ => exact j33z_12 h0
  | v + 12, h => exact absurd h (by omega)
