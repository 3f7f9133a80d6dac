set_option maxRecDepth 100000
theorem q38_173 : c_chk ([(3, .retAddr 10, .int 63, .int 38)], [.retAddr 10, .retAddr 11, .retAddr 12, .retAddr 13, .retAddr 14, .retAddr 15]) 7657 = true := by decide +kernel
theorem q39_174 : c_chk ([(3, .retAddr 10, .int 63, .int 39)], [.retAddr 10, .retAddr 11, .retAddr 12, .retAddr 13, .retAddr 14, .retAddr 15]) 2122 = true := by decide +kernel
