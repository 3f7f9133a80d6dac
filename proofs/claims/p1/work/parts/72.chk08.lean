set_option maxRecDepth 100000
theorem q36_174 : ∀ v1, v1 < 2 → ∀ v2, v2 < 6 → c_chk ([(3, .retAddr 10, .int 63, .int 36)], [.retAddr 10, .int (Int32.ofNat (6 + v1)), .int (Int32.ofNat (0 + v2)), .retAddr 13, .retAddr 14, .retAddr 15]) 4594 = true := by decide +kernel
theorem q37_175 : c_chk ([(3, .retAddr 10, .int 63, .int 37)], [.retAddr 10, .retAddr 11, .retAddr 12, .retAddr 13, .retAddr 14, .retAddr 15]) 1845 = true := by decide +kernel
theorem q38_176 : c_chk ([(3, .retAddr 10, .int 63, .int 38)], [.retAddr 10, .retAddr 11, .retAddr 12, .retAddr 13, .retAddr 14, .retAddr 15]) 7657 = true := by decide +kernel
theorem q39_177 : c_chk ([(3, .retAddr 10, .int 63, .int 39)], [.retAddr 10, .retAddr 11, .retAddr 12, .retAddr 13, .retAddr 14, .retAddr 15]) 2122 = true := by decide +kernel
theorem q99 : ∀ v, v < 23 → c_chk ([(3, .retAddr 10, .int 63, .int (Int32.ofNat (41 + v)))], [.retAddr 10, .retAddr 11, .retAddr 12, .retAddr 13, .retAddr 14, .retAddr 15]) 200 = true := by decide +kernel
