set_option maxRecDepth 100000
theorem q40_175 : c_chk ([(3, .retAddr 10, .int 63, .int 40)], [.retAddr 10, .retAddr 11, .retAddr 12, .retAddr 13, .retAddr 14, .retAddr 15]) 142914 = true := by decide +kernel
