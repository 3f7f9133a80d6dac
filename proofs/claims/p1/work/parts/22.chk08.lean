set_option maxRecDepth 100000
theorem q99 : ∀ v, v < 23 → c_chk ([(3, .retAddr 10, .int 63, .int (Int32.ofNat (41 + v)))], [.retAddr 10, .retAddr 11, .retAddr 12, .retAddr 13, .retAddr 14, .retAddr 15]) 200 = true := by decide +kernel
