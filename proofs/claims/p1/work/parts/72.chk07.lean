set_option maxRecDepth 100000
theorem q36_171 : ∀ v1, v1 < 2 → ∀ v2, v2 < 6 → c_chk ([(3, .retAddr 10, .int 63, .int 36)], [.retAddr 10, .int (Int32.ofNat (0 + v1)), .int (Int32.ofNat (0 + v2)), .retAddr 13, .retAddr 14, .retAddr 15]) 2440 = true := by decide +kernel
theorem q36_172 : ∀ v1, v1 < 2 → ∀ v2, v2 < 6 → c_chk ([(3, .retAddr 10, .int 63, .int 36)], [.retAddr 10, .int (Int32.ofNat (2 + v1)), .int (Int32.ofNat (0 + v2)), .retAddr 13, .retAddr 14, .retAddr 15]) 3158 = true := by decide +kernel
theorem q36_173 : ∀ v1, v1 < 2 → ∀ v2, v2 < 6 → c_chk ([(3, .retAddr 10, .int 63, .int 36)], [.retAddr 10, .int (Int32.ofNat (4 + v1)), .int (Int32.ofNat (0 + v2)), .retAddr 13, .retAddr 14, .retAddr 15]) 3876 = true := by decide +kernel
