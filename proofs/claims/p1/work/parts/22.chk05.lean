set_option maxRecDepth 100000
theorem q36_171 : ∀ v1, v1 < 8 → ∀ v2, v2 < 6 → c_chk ([(3, .retAddr 10, .int 63, .int 36)], [.retAddr 10, .int (Int32.ofNat (0 + v1)), .int (Int32.ofNat (0 + v2)), .retAddr 13, .retAddr 14, .retAddr 15]) 4594 = true := by decide +kernel
theorem q37_172 : c_chk ([(3, .retAddr 10, .int 63, .int 37)], [.retAddr 10, .retAddr 11, .retAddr 12, .retAddr 13, .retAddr 14, .retAddr 15]) 1845 = true := by decide +kernel
