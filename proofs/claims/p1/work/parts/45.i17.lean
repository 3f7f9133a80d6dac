set_option maxRecDepth 100000
def z_10 : c_Cell := some (.inr (0, List.replicate 10 (.int 0)))
def o_10 : c_Cell := some (.inr (0, List.replicate 10 (.int 1)))
def z_11 : c_Cell := some (.inr (0, List.replicate 11 (.int 0)))
def i17_h0 : c_Hp := [some (.inl (10, [.ref 1, .ref 4, .ref 23, .ref 25, .ref 28, .ref 31, .ref 34, .ref 37, .ref 39, .ref 41, .ref 52, .ref 55])),
  some (.inl (6, [.ref 2, .ref 3, .int 10, .int 0])),
  some (.inr (0, List.replicate 60 (.int 1))),
  some (.inr (0, List.replicate 60 (.int 0))),
  some (.inl (4, [.ref 5, .ref 14, .int 0, .int 0])),
  some (.inr (2, [.ref 6, .ref 7, .ref 8, .ref 9, .ref 10, .ref 11, .ref 12, .ref 13])),
  some (.inr (0, List.replicate 60 (.int 0))),
  some (.inr (0, List.replicate 60 (.int 0))),
  some (.inr (0, List.replicate 60 (.int 0))),
  some (.inr (0, List.replicate 60 (.int 0))),
  some (.inr (0, List.replicate 60 (.int 0))),
  some (.inr (0, List.replicate 60 (.int 0))),
  some (.inr (0, List.replicate 60 (.int 0))),
  some (.inr (0, List.replicate 60 (.int 0))),
  some (.inr (2, [.ref 15, .ref 16, .ref 17, .ref 18, .ref 19, .ref 20, .ref 21, .ref 22])),
  some (.inr (0, List.replicate 60 (.int 0))),
  some (.inr (0, List.replicate 60 (.int 0))),
  some (.inr (0, List.replicate 60 (.int 0))),
  some (.inr (0, List.replicate 60 (.int 0))),
  some (.inr (0, List.replicate 60 (.int 0))),
  some (.inr (0, List.replicate 60 (.int 0))),
  some (.inr (0, List.replicate 60 (.int 0))),
  some (.inr (0, List.replicate 60 (.int 0))),
  some (.inl (0, [.ref 24, .int 0])),
  some (.inr (0, List.replicate 60 (.int 0))),
  some (.inl (3, [.ref 26, .ref 27, .int 0])),
  some (.inr (0, List.replicate 120 (.int 0))),
  some (.inr (0, List.replicate 60 (.int 0))),
  some (.inl (7, [.ref 29, .ref 30, .int 0, .int 0])),
  some (.inr (0, List.replicate 60 (.int 0))),
  some (.inr (0, List.replicate 60 (.int 0))),
  some (.inl (8, [.ref 32, .ref 33])),
  some (.inr (0, [.int 0, .int 0, .int 0])),
  some (.inr (0, [.int 0, .int 0, .int 0])),
  some (.inl (1, [.ref 35, .ref 36, .int 0])),
  some (.inr (0, List.replicate 5 (.int 0))),
  some (.inr (0, List.replicate 5 (.int 0))),
  some (.inl (9, [.ref 38, .int 0])),
  some (.inr (0, List.replicate 6 (.int 0))),
  some (.inl (2, [.ref 40])),
  some (.inr (1, List.replicate 64 (.long 0))),
  some (.inl (5, [.ref 42, .ref 51])),
  some (.inr (2, [.ref 43, .ref 44, .ref 45, .ref 46, .ref 47, .ref 48, .ref 49, .ref 50])),
  some (.inr (0, List.replicate 6 (.int 0))),
  some (.inr (0, List.replicate 6 (.int 0))),
  some (.inr (0, List.replicate 6 (.int 0))),
  some (.inr (0, List.replicate 6 (.int 0))),
  some (.inr (0, List.replicate 6 (.int 0))),
  some (.inr (0, List.replicate 6 (.int 0))),
  some (.inr (0, List.replicate 6 (.int 0))),
  some (.inr (0, List.replicate 6 (.int 0))),
  some (.inr (0, List.replicate 6 (.int 0))),
  some (.inl (6, [.ref 53, .ref 54, .int 1, .int 0])),
  some (.inr (0, List.replicate 60 (.int 0))),
  some (.inr (0, List.replicate 60 (.int 0))),
  some (.inl (6, [.ref 56, .ref 57, .int 1, .int 0])),
  some (.inr (0, List.replicate 60 (.int 0))),
  some (.inr (0, List.replicate 60 (.int 0))),
  some (.inl (11, [.ref 59, .ref 60, .int 0, .ref 61, .ref 62, .ref 63, .ref 64, .int 0, .ref 65, .int 0, .ref 66, .int 0, .int 0])),
  some (.inr (0, List.replicate 10 (.int 1))),
  some (.inr (0, List.replicate 10 (.int 0))),
  some (.inl (12, [.int 0, .retAddr 1, .int 0])),
  some (.inl (12, [.int 0, .retAddr 1, .int 0])),
  some (.inr (0, List.replicate 5 (.int 0))),
  some (.inr (0, List.replicate 5 (.int 0))),
  some (.inr (0, List.replicate 6 (.int 0))),
  some (.inr (2, [.ref 67, .ref 68, .ref 69, .ref 70, .ref 71, .ref 72, .ref 73, .ref 74])),
  some (.inr (0, List.replicate 6 (.int 0))),
  some (.inr (0, List.replicate 6 (.int 0))),
  some (.inr (0, List.replicate 6 (.int 0))),
  some (.inr (0, List.replicate 6 (.int 0))),
  some (.inr (0, List.replicate 6 (.int 0))),
  some (.inr (0, List.replicate 6 (.int 0))),
  some (.inr (0, List.replicate 6 (.int 0))),
  some (.inr (0, List.replicate 6 (.int 0))),
  some (.inr (1, [.long 0])),
  some (.inr (5, [.double 0]))]
def i17_h1 : c_Hp := [some (.inl (10, [.ref 1, .ref 4, .ref 23, .ref 25, .ref 28, .ref 31, .ref 34, .ref 37, .ref 39, .ref 41, .ref 52, .ref 55])),
  some (.inl (6, [.ref 2, .ref 3, .int 10, .int 0])),
  some (.inr (0, List.replicate 60 (.int 1))),
  some (.inr (0, List.replicate 60 (.int 0))),
  some (.inl (4, [.ref 5, .ref 14, .int 0, .int 0])),
  some (.inr (2, [.ref 6, .ref 7, .ref 8, .ref 9, .ref 10, .ref 11, .ref 12, .ref 13])),
  some (.inr (0, List.replicate 60 (.int 0))),
  some (.inr (0, List.replicate 60 (.int 0))),
  some (.inr (0, List.replicate 60 (.int 0))),
  some (.inr (0, List.replicate 60 (.int 0))),
  some (.inr (0, List.replicate 60 (.int 0))),
  some (.inr (0, List.replicate 60 (.int 0))),
  some (.inr (0, List.replicate 60 (.int 0))),
  some (.inr (0, List.replicate 60 (.int 0))),
  some (.inr (2, [.ref 15, .ref 16, .ref 17, .ref 18, .ref 19, .ref 20, .ref 21, .ref 22])),
  some (.inr (0, List.replicate 60 (.int 0))),
  some (.inr (0, List.replicate 60 (.int 0))),
  some (.inr (0, List.replicate 60 (.int 0))),
  some (.inr (0, List.replicate 60 (.int 0))),
  some (.inr (0, List.replicate 60 (.int 0))),
  some (.inr (0, List.replicate 60 (.int 0))),
  some (.inr (0, List.replicate 60 (.int 0))),
  some (.inr (0, List.replicate 60 (.int 0))),
  some (.inl (0, [.ref 24, .int 0])),
  some (.inr (0, List.replicate 60 (.int 0))),
  some (.inl (3, [.ref 26, .ref 27, .int 0])),
  some (.inr (0, List.replicate 120 (.int 0))),
  some (.inr (0, List.replicate 60 (.int 0))),
  some (.inl (7, [.ref 29, .ref 30, .int 0, .int 0])),
  some (.inr (0, List.replicate 60 (.int 0))),
  some (.inr (0, List.replicate 60 (.int 0))),
  some (.inl (8, [.ref 32, .ref 33])),
  some (.inr (0, [.int 0, .int 0, .int 0])),
  some (.inr (0, [.int 0, .int 0, .int 0])),
  some (.inl (1, [.ref 35, .ref 36, .int 0])),
  some (.inr (0, List.replicate 5 (.int 0))),
  some (.inr (0, List.replicate 5 (.int 0))),
  some (.inl (9, [.ref 38, .int 0])),
  some (.inr (0, List.replicate 6 (.int 0))),
  some (.inl (2, [.ref 40])),
  some (.inr (1, List.replicate 64 (.long 0))),
  some (.inl (5, [.ref 42, .ref 51])),
  some (.inr (2, [.ref 43, .ref 44, .ref 45, .ref 46, .ref 47, .ref 48, .ref 49, .ref 50])),
  some (.inr (0, List.replicate 6 (.int 0))),
  some (.inr (0, List.replicate 6 (.int 0))),
  some (.inr (0, List.replicate 6 (.int 0))),
  some (.inr (0, List.replicate 6 (.int 0))),
  some (.inr (0, List.replicate 6 (.int 0))),
  some (.inr (0, List.replicate 6 (.int 0))),
  some (.inr (0, List.replicate 6 (.int 0))),
  some (.inr (0, List.replicate 6 (.int 0))),
  some (.inr (0, List.replicate 6 (.int 0))),
  some (.inl (6, [.ref 53, .ref 54, .int 1, .int 0])),
  some (.inr (0, List.replicate 60 (.int 0))),
  some (.inr (0, List.replicate 60 (.int 0))),
  some (.inl (6, [.ref 56, .ref 57, .int 1, .int 0])),
  some (.inr (0, List.replicate 60 (.int 0))),
  some (.inr (0, List.replicate 60 (.int 0))),
  some (.inl (11, [.ref 59, .ref 60, .int 0, .ref 61, .ref 62, .ref 63, .ref 64, .int 0, .ref 65, .int 0, .ref 66, .int 0, .int 0])),
  some (.inr (0, List.replicate 10 (.int 1))),
  some (.inr (0, List.replicate 10 (.int 0))),
  some (.inl (12, [.int 0, .retAddr 1, .int 0])),
  some (.inl (12, [.int 0, .retAddr 1, .int 0])),
  some (.inr (0, List.replicate 5 (.int 0))),
  some (.inr (0, List.replicate 5 (.int 0))),
  some (.inr (0, List.replicate 6 (.int 0))),
  some (.inr (2, [.ref 67, .ref 68, .ref 69, .ref 70, .ref 71, .ref 72, .ref 73, .ref 74])),
  some (.inr (0, List.replicate 6 (.int 0))),
  some (.inr (0, List.replicate 6 (.int 0))),
  some (.inr (0, List.replicate 6 (.int 0))),
  some (.inr (0, List.replicate 6 (.int 0))),
  some (.inr (0, List.replicate 6 (.int 0))),
  some (.inr (0, List.replicate 6 (.int 0))),
  some (.inr (0, List.replicate 6 (.int 0))),
  some (.inr (0, List.replicate 6 (.int 0))),
  some (.inr (1, [.long 0])),
  some (.inr (5, [.double 0])),
  some (.inr (0, List.replicate 11 (.int 0)))]
def i17_h2 : c_Hp := [some (.inl (10, [.ref 1, .ref 4, .ref 23, .ref 25, .ref 28, .ref 31, .ref 34, .ref 37, .ref 39, .ref 41, .ref 52, .ref 55])),
  some (.inl (6, [.ref 2, .ref 3, .int 10, .int 0])),
  some (.inr (0, List.replicate 60 (.int 1))),
  some (.inr (0, List.replicate 60 (.int 0))),
  some (.inl (4, [.ref 5, .ref 14, .int 0, .int 0])),
  some (.inr (2, [.ref 6, .ref 7, .ref 8, .ref 9, .ref 10, .ref 11, .ref 12, .ref 13])),
  some (.inr (0, List.replicate 60 (.int 0))),
  some (.inr (0, List.replicate 60 (.int 0))),
  some (.inr (0, List.replicate 60 (.int 0))),
  some (.inr (0, List.replicate 60 (.int 0))),
  some (.inr (0, List.replicate 60 (.int 0))),
  some (.inr (0, List.replicate 60 (.int 0))),
  some (.inr (0, List.replicate 60 (.int 0))),
  some (.inr (0, List.replicate 60 (.int 0))),
  some (.inr (2, [.ref 15, .ref 16, .ref 17, .ref 18, .ref 19, .ref 20, .ref 21, .ref 22])),
  some (.inr (0, List.replicate 60 (.int 0))),
  some (.inr (0, List.replicate 60 (.int 0))),
  some (.inr (0, List.replicate 60 (.int 0))),
  some (.inr (0, List.replicate 60 (.int 0))),
  some (.inr (0, List.replicate 60 (.int 0))),
  some (.inr (0, List.replicate 60 (.int 0))),
  some (.inr (0, List.replicate 60 (.int 0))),
  some (.inr (0, List.replicate 60 (.int 0))),
  some (.inl (0, [.ref 24, .int 0])),
  some (.inr (0, List.replicate 60 (.int 0))),
  some (.inl (3, [.ref 26, .ref 27, .int 0])),
  some (.inr (0, List.replicate 120 (.int 0))),
  some (.inr (0, List.replicate 60 (.int 0))),
  some (.inl (7, [.ref 29, .ref 30, .int 0, .int 0])),
  some (.inr (0, List.replicate 60 (.int 0))),
  some (.inr (0, List.replicate 60 (.int 0))),
  some (.inl (8, [.ref 32, .ref 33])),
  some (.inr (0, [.int 0, .int 0, .int 0])),
  some (.inr (0, [.int 0, .int 0, .int 0])),
  some (.inl (1, [.ref 35, .ref 36, .int 0])),
  some (.inr (0, List.replicate 5 (.int 0))),
  some (.inr (0, List.replicate 5 (.int 0))),
  some (.inl (9, [.ref 38, .int 0])),
  some (.inr (0, List.replicate 6 (.int 0))),
  some (.inl (2, [.ref 40])),
  some (.inr (1, List.replicate 64 (.long 0))),
  some (.inl (5, [.ref 42, .ref 51])),
  some (.inr (2, [.ref 43, .ref 44, .ref 45, .ref 46, .ref 47, .ref 48, .ref 49, .ref 50])),
  some (.inr (0, List.replicate 6 (.int 0))),
  some (.inr (0, List.replicate 6 (.int 0))),
  some (.inr (0, List.replicate 6 (.int 0))),
  some (.inr (0, List.replicate 6 (.int 0))),
  some (.inr (0, List.replicate 6 (.int 0))),
  some (.inr (0, List.replicate 6 (.int 0))),
  some (.inr (0, List.replicate 6 (.int 0))),
  some (.inr (0, List.replicate 6 (.int 0))),
  some (.inr (0, List.replicate 6 (.int 0))),
  some (.inl (6, [.ref 53, .ref 54, .int 1, .int 0])),
  some (.inr (0, List.replicate 60 (.int 0))),
  some (.inr (0, List.replicate 60 (.int 0))),
  some (.inl (6, [.ref 56, .ref 57, .int 1, .int 0])),
  some (.inr (0, List.replicate 60 (.int 0))),
  some (.inr (0, List.replicate 60 (.int 0))),
  some (.inl (11, [.ref 59, .ref 60, .int 0, .ref 61, .ref 62, .ref 63, .ref 64, .int 0, .ref 65, .int 0, .ref 66, .int 0, .int 0])),
  some (.inr (0, List.replicate 10 (.int 1))),
  some (.inr (0, List.replicate 10 (.int 0))),
  some (.inl (12, [.int 0, .retAddr 1, .int 0])),
  some (.inl (12, [.int 0, .retAddr 1, .int 0])),
  some (.inr (0, List.replicate 5 (.int 0))),
  some (.inr (0, List.replicate 5 (.int 0))),
  some (.inr (0, List.replicate 6 (.int 0))),
  some (.inr (2, [.ref 67, .ref 68, .ref 69, .ref 70, .ref 71, .ref 72, .ref 73, .ref 74])),
  some (.inr (0, List.replicate 6 (.int 0))),
  some (.inr (0, List.replicate 6 (.int 0))),
  some (.inr (0, List.replicate 6 (.int 0))),
  some (.inr (0, List.replicate 6 (.int 0))),
  some (.inr (0, List.replicate 6 (.int 0))),
  some (.inr (0, List.replicate 6 (.int 0))),
  some (.inr (0, List.replicate 6 (.int 0))),
  some (.inr (0, List.replicate 6 (.int 0))),
  some (.inr (1, [.long 0])),
  some (.inr (5, [.double 0])),
  some (.inr (0, List.replicate 11 (.int 0))),
  some (.inl (12, [.int 0, .retAddr 1, .int 0]))]
theorem i17_1 : c_pre ([(3, .retAddr 10, .int 63, .int 17)], x_xs) 33 c_m259 13 38 [some (.retAddr 0), some (.ref 0), some (.ref 58), some (.ref 75), some (.ref 76), some (.int 0), none, none, none] [] i17_h0 = some (1181, [some (.retAddr 0), some (.ref 0), some (.ref 58), some (.ref 75), some (.ref 76), some (.int 0), none, none, none], [.ref 75, .retAddr 11, .ref 0], i17_h0) := c_eqR_ok (by decide +kernel)
theorem i17_2 : c_pre ([], x_xs) 24 c_m207 4 0 [some (.ref 0), some (.retAddr 11), some (.ref 75), none] [] i17_h0 = some (4, [some (.ref 0), some (.retAddr 11), some (.ref 75), none], [.retAddr 11, .ref 0, .int 0, .ref 75], i17_h0) := c_eqR_ok (by decide +kernel)
theorem i17_3 : c_pre ([], x_xs) 22 c_m18 2 0 [some (.ref 0), some (.retAddr 11)] [] i17_h0 = some (2, [some (.ref 0), some (.retAddr 11)], [.retAddr 11, .ref 0], i17_h0) := c_eqR_ok (by decide +kernel)
theorem i17_4 : c_pre ([(22, .retAddr 11, .int 0, .int 0), (25, .retAddr 11, .int 99, .int 1)], x_xs) 175 c_m51 11 0 [some (.ref 0), some (.retAddr 11)] [] i17_h0 = some (20, [some (.ref 0), some (.retAddr 11)], [.retAddr 11, .ref 1, .ref 28], i17_h0) := c_eqR_ok (by decide +kernel)
theorem i17_5 : c_pre ([], x_xs) 141 c_m179 121 0 [some (.ref 28), some (.ref 1), some (.retAddr 11), none] [] i17_h0 = some (52, [some (.ref 28), some (.ref 1), some (.retAddr 11), some (.int 0)], [], i17_h0) := c_eqR_ok (by decide +kernel)
theorem i17_6 : c_callee c_m51 20 [.retAddr 11, .ref 1, .ref 28] i17_h0 = some (179, [some (.ref 28), some (.ref 1), some (.retAddr 11), none], []) := c_eqC_ok (by decide +kernel)
theorem i17_7 : c_go c_P ([], x_xs) 21 c_m51 23 [some (.ref 0), some (.retAddr 11)] [] i17_h0 = some (.inl none, i17_h0) := c_eqO_ok (by decide +kernel)
theorem i17_8 : c_callee c_m18 2 [.retAddr 11, .ref 0] i17_h0 = some (51, [some (.ref 0), some (.retAddr 11)], []) := c_eqC_ok (by decide +kernel)
theorem i17_9 : c_go c_P ([], x_xs) 34 c_m18 5 [some (.ref 0), some (.retAddr 11)] [] i17_h0 = some (.inl (some (.int 0)), i17_h0) := c_eqO_ok (by decide +kernel)
theorem i17_10 : c_callee c_m207 4 [.retAddr 11, .ref 0, .int 0, .ref 75] i17_h0 = some (18, [some (.ref 0), some (.retAddr 11)], [.int 0, .ref 75]) := c_eqC_ok (by decide +kernel)
theorem i17_11 : c_go c_P ([], x_xs) 25 c_m207 7 [some (.ref 0), some (.retAddr 11), some (.ref 75), none] [.int 0, .int 0, .ref 75] i17_h0 = some (.inl (some (.int 0)), i17_h0) := c_eqO_ok (by decide +kernel)
theorem i17_12 : c_callee c_m259 1181 [.ref 75, .retAddr 11, .ref 0] i17_h0 = some (207, [some (.ref 0), some (.retAddr 11), some (.ref 75), none], []) := c_eqC_ok (by decide +kernel)
theorem i17_13 : c_pre ([], x_xs) 27 c_m259 7 1184 [some (.retAddr 0), some (.ref 0), some (.ref 58), some (.ref 75), some (.ref 76), some (.int 0), none, none, none] [.int 0] i17_h0 = some (1193, [some (.retAddr 0), some (.ref 0), some (.ref 58), some (.ref 75), some (.ref 76), some (.int 0), some (.int 0), none, none], [.retAddr 11, .ref 58], i17_h0) := c_eqR_ok (by decide +kernel)
theorem i17_14 : c_pre ([(22, .retAddr 11, .int 0, .int 0), (24, .retAddr 11, .int 99, .int 0)], x_xs) 229 c_m102 6 0 [some (.ref 58), some (.retAddr 11)] [] i17_h0 = some (14, [some (.ref 58), some (.retAddr 11)], [.retAddr 11, .ref 58], i17_h0) := c_eqR_ok (by decide +kernel)
theorem i17_15 : c_pre ([], x_xs) 22 c_m100 2 0 [some (.ref 58), some (.retAddr 11), none, none, none, none] [] i17_h0 = some (2, [some (.ref 58), some (.retAddr 11), none, none, none, none], [.retAddr 11, .ref 58], i17_h0) := c_eqR_ok (by decide +kernel)
theorem i17_16 : c_pre ([], x_xs) 25 c_m99 5 0 [some (.ref 58), some (.retAddr 11), none, none, none] [] i17_h0 = some (7, [some (.ref 58), some (.retAddr 11), some (.ref 60), some (.int 0), none], [], i17_h0) := c_eqR_ok (by decide +kernel)
theorem i17_17 : c_callee c_m100 2 [.retAddr 11, .ref 58] i17_h0 = some (99, [some (.ref 58), some (.retAddr 11), none, none, none], []) := c_eqC_ok (by decide +kernel)
theorem i17_18 : c_go c_P ([], x_xs) 270 c_m100 5 [some (.ref 58), some (.retAddr 11), none, none, none, none] [.ref 77] i17_h1 = some (.inl (some (.ref 78)), i17_h2) := c_eqO_ok (by decide +kernel)
theorem i17_19 : c_callee c_m102 14 [.retAddr 11, .ref 58] i17_h0 = some (100, [some (.ref 58), some (.retAddr 11), none, none, none, none], []) := c_eqC_ok (by decide +kernel)
theorem i17_20 : c_go c_P ([], x_xs) 25 c_m102 17 [some (.ref 58), some (.retAddr 11)] [.ref 78] i17_h2 = some (.inl (some (.int 0)), i17_h2) := c_eqO_ok (by decide +kernel)
theorem i17_21 : c_callee c_m259 1193 [.retAddr 11, .ref 58] i17_h0 = some (102, [some (.ref 58), some (.retAddr 11)], []) := c_eqC_ok (by decide +kernel)
theorem i17_22 : c_go c_P ([], x_xs) 48 c_m259 1196 [some (.retAddr 0), some (.ref 0), some (.ref 58), some (.ref 75), some (.ref 76), some (.int 0), some (.int 0), none, none] [.int 0] i17_h2 = some (.inl (some (.int 1)), i17_h2) := c_eqO_ok (by decide +kernel)
theorem i17_w : c_pre ([(23, .retAddr 16, .retAddr 11, .int 0), (0, .retAddr 16, .int 1, .retAddr 17)], x_xs) 100 c_m179 7 52 [some (.ref 28), some (.ref 1), some (.retAddr 11), some (.retAddr 16)] [] i17_h0 = some (52, [some (.ref 28), some (.ref 1), some (.retAddr 11), some (.retAddr 17)], [], i17_h0) := c_eqR_ok (by decide +kernel)
theorem i17_wx : c_go c_P ([(23, .retAddr 16, .retAddr 11, .int 1)], x_xs) 100 c_m179 52 [some (.ref 28), some (.ref 1), some (.retAddr 11), some (.retAddr 16)] [] i17_h0 = some (.inl none, i17_h0) := c_eqO_ok (by decide +kernel)
theorem i17_walk {a0 a2 a3 a4 a5 : Int32} {s : Nat} (hs : s < 100) : ∀ (j i : Nat), i + j = s → c_T [a0, Int32.ofNat s, a2, a3, a4, a5] c_m179 52 [some (.ref 28), some (.ref 1), some (.int (Int32.ofNat s)), some (.int (Int32.ofNat i))] [] i17_h0 (.inl none, i17_h0)
  | 0, i, e => by
    have F : ∀ f ∈ ([(23, .retAddr 16, .retAddr 11, .int 1)] : List c_F), c_hold (c_BB [a0, Int32.ofNat s, a2, a3, a4, a5] [Int32.ofNat i]) f := (List.forall_mem_cons.mpr ⟨o_ge1 (i := i) (s := s) rfl rfl (by omega) (by omega) (by omega), fun _ h => nomatch h⟩)
    exact (x_Run.fin F i17_wx).t rfl rfl rfl rfl
  | j + 1, i, e => by
    have F : ∀ f ∈ ([(23, .retAddr 16, .retAddr 11, .int 0), (0, .retAddr 16, .int 1, .retAddr 17)] : List c_F), c_hold (c_BB [a0, Int32.ofNat s, a2, a3, a4, a5] [Int32.ofNat i, Int32.ofNat (i + 1)]) f := (List.forall_mem_cons.mpr ⟨o_ge (i := i) (s := s) rfl rfl (by omega) (by omega) (by omega), List.forall_mem_cons.mpr ⟨o_inc (i := i) rfl rfl, fun _ h => nomatch h⟩⟩)
    have ih := i17_walk (a0 := a0) (a2 := a2) (a3 := a3) (a4 := a4) (a5 := a5) hs j (i + 1) (by omega)
    exact (x_Run.pre F i17_w (ih.x (x := [Int32.ofNat i, Int32.ofNat (i + 1)]) rfl rfl rfl)).t rfl rfl rfl rfl
theorem i17_t0 : c_pre ([(23, .int 0, .retAddr 11, .int 0)], x_xs) 1000 c_m99 22 7 [some (.ref 58), some (.retAddr 11), some (.ref 60), some (.int 0), none] [] i17_h0 = some (7, [some (.ref 58), some (.retAddr 11), some (.ref 77), some (.int 1), some (.int 0)], [], i17_h0 ++ [z_10, o_10]) := c_eqR_ok (by decide +kernel)
theorem i17_t0x : c_go c_P ([(23, .int 0, .retAddr 11, .int 1)], x_xs) 1000 c_m99 7 [some (.ref 58), some (.retAddr 11), some (.ref 60), some (.int 0), none] [] i17_h0 = some (.inl (some (.ref 77)), i17_h0 ++ [z_11]) := c_eqO_ok (by decide +kernel)
theorem i17_t : c_pre ([(23, .retAddr 16, .retAddr 11, .int 0), (0, .retAddr 16, .int 1, .retAddr 17)], x_xs) 1000 c_m99 22 7 [some (.ref 58), some (.retAddr 11), some (.ref 77), some (.retAddr 16), some (.int 0)] [] (i17_h0 ++ [z_10, o_10]) = some (7, [some (.ref 58), some (.retAddr 11), some (.ref 79), some (.retAddr 17), some (.int 0)], [], i17_h0 ++ [z_10, o_10, z_10, o_10]) := c_eqR_ok (by decide +kernel)
theorem i17_tx : c_go c_P ([(23, .retAddr 16, .retAddr 11, .int 1)], x_xs) 1000 c_m99 7 [some (.ref 58), some (.retAddr 11), some (.ref 77), some (.retAddr 16), some (.int 0)] [] (i17_h0 ++ [z_10, o_10]) = some (.inl (some (.ref 79)), i17_h0 ++ [z_10, o_10, z_11]) := c_eqO_ok (by decide +kernel)
theorem i17_gh (G t : c_Hp) (ht : ∀ d, t.map (g_c 77 d) = t) {a0 a1 a2 a3 a4 a5 : Int32} {x : List Int32} (hG : s_h (c_BB [a0, a1, a2, a3, a4, a5] x) G = G) (h2 : s_h (c_BB [a0, a1, a2, a3, a4, a5] x) t = t) : s_h (c_BB [a0, a1, a2, a3, a4, a5] x) (g_h 77 G (i17_h0 ++ t)) = i17_h0 ++ (G ++ t) := by
  have h1 : ∀ a b : c_Hp, s_h (c_BB [a0, a1, a2, a3, a4, a5] x) (a ++ b) = s_h (c_BB [a0, a1, a2, a3, a4, a5] x) a ++ s_h (c_BB [a0, a1, a2, a3, a4, a5] x) b := fun a b => List.map_append
  have e1 : i17_h0.map (g_c 77 G.length) = i17_h0 := rfl
  have e2 : s_h (c_BB [a0, a1, a2, a3, a4, a5] x) i17_h0 = i17_h0 := rfl
  rw [g_h_s (show i17_h0.length = 77 from rfl), e1, ht, h1, h1, hG, h2, e2]
theorem i17_th {a0 a2 a3 a4 a5 : Int32} {s : Nat} (hs : s < 100) : ∀ (j i : Nat), i + 1 + j = s → c_T [a0, Int32.ofNat s, a2, a3, a4, a5] c_m99 7 [some (.ref 58), some (.int (Int32.ofNat s)), some (.ref (77 + (t_G [z_10, o_10] i).length)), some (.int (Int32.ofNat (i + 1))), some (.int 0)] [] (i17_h0 ++ (t_G [z_10, o_10] i ++ [z_10, o_10])) (.inl (some (.ref (77 + (t_G [z_10, o_10] s).length))), i17_h0 ++ (t_G [z_10, o_10] s ++ [z_11]))
  | 0, i, e => by
    have F : ∀ f ∈ ([(23, .retAddr 16, .retAddr 11, .int 1)] : List c_F), c_hold (c_BB [a0, Int32.ofNat s, a2, a3, a4, a5] [Int32.ofNat (i + 1)]) f := (List.forall_mem_cons.mpr ⟨o_ge1 (i := i + 1) (s := s) rfl rfl (by omega) (by omega) (by omega), fun _ h => nomatch h⟩)
    refine (x_Run.fing (n := 77) (t_G [z_10, o_10] i) F (by decide) i17_tx).t rfl rfl (i17_gh _ _ (fun _ => rfl) (t_G_b _ rfl i) rfl) ?_
    rw [i17_gh _ _ (fun _ => rfl) (t_G_b _ rfl i) rfl]
    have e0 : s = i + 1 := by omega
    subst e0
    rw [t_G_s, List.length_append, List.append_assoc]
    show (Sum.inl (some (Value.ref (g_p 77 (t_G [z_10, o_10] i).length 79))), _) = (Sum.inl (some (Value.ref (77 + ((t_G [z_10, o_10] i).length + 2)))), _)
    have e1 : g_p 77 (t_G [z_10, o_10] i).length 79 = 77 + ((t_G [z_10, o_10] i).length + 2) := by
      unfold g_p
      rw [if_neg (by decide)]
      omega
    rw [e1]
    rfl
  | j + 1, i, e => by
    have F : ∀ f ∈ ([(23, .retAddr 16, .retAddr 11, .int 0), (0, .retAddr 16, .int 1, .retAddr 17)] : List c_F), c_hold (c_BB [a0, Int32.ofNat s, a2, a3, a4, a5] [Int32.ofNat (i + 1), Int32.ofNat (i + 1 + 1)]) f := (List.forall_mem_cons.mpr ⟨o_ge (i := i + 1) (s := s) rfl rfl (by omega) (by omega) (by omega), List.forall_mem_cons.mpr ⟨o_inc (i := i + 1) rfl rfl, fun _ h => nomatch h⟩⟩)
    have ih := i17_th (a0 := a0) (a2 := a2) (a3 := a3) (a4 := a4) (a5 := a5) hs j (i + 1) (by omega)
    refine (x_Run.preg (n := 77) (t_G [z_10, o_10] i) F (by decide) i17_t (ih.x (x := [Int32.ofNat (i + 1), Int32.ofNat (i + 1 + 1)]) ?_ rfl ?_)).t rfl rfl (i17_gh _ _ (fun _ => rfl) (t_G_b _ rfl i) rfl) rfl
    · have e1 : g_p 77 (t_G [z_10, o_10] i).length 79 = 77 + (t_G [z_10, o_10] (i + 1)).length := by
        unfold g_p
        rw [if_neg (by decide), t_G_s, List.length_append]
        show _ = 77 + ((t_G [z_10, o_10] i).length + 2)
        omega
      rw [← e1]
      rfl
    · rw [i17_gh _ _ (fun _ => rfl) (t_G_b _ rfl i) rfl, t_G_s, List.append_assoc]
      rfl
theorem i17_thought {a0 a2 a3 a4 a5 : Int32} {s : Nat} (hs : s < 100) : x_Run (c_BB [a0, Int32.ofNat s, a2, a3, a4, a5] []) x_xs c_m99 7 [some (.ref 58), some (.retAddr 11), some (.ref 60), some (.int 0), none] [] i17_h0 (.inl ((Option.map (g_v 77 (t_G [z_10, o_10] s).length) (some (.ref 77))).map (s_v (c_BB [a0, Int32.ofNat s, a2, a3, a4, a5] []))), s_h (c_BB [a0, Int32.ofNat s, a2, a3, a4, a5] []) (g_h 77 (t_G [z_10, o_10] s) i17_h1)) := by
  have er : ((.inl (some (.ref (77 + (t_G [z_10, o_10] s).length))), i17_h0 ++ (t_G [z_10, o_10] s ++ [z_11])) : c_O × c_Hp) = (.inl ((Option.map (g_v 77 (t_G [z_10, o_10] s).length) (some (.ref 77))).map (s_v (c_BB [a0, Int32.ofNat s, a2, a3, a4, a5] []))), s_h (c_BB [a0, Int32.ofNat s, a2, a3, a4, a5] []) (g_h 77 (t_G [z_10, o_10] s) i17_h1)) := by
    rw [show i17_h1 = i17_h0 ++ [z_11] from rfl, i17_gh _ _ (fun _ => rfl) (t_G_b _ rfl s) rfl]
    rfl
  rw [← er]
  match s, hs with
  | 0, hs =>
    have F : ∀ f ∈ ([(23, .int 0, .retAddr 11, .int 1)] : List c_F), c_hold (c_BB [a0, Int32.ofNat 0, a2, a3, a4, a5] []) f := List.forall_mem_cons.mpr ⟨o_ge1 (i := 0) (s := 0) rfl rfl (by omega) (by omega) (by omega), fun _ h => nomatch h⟩
    exact x_Run.fin F i17_t0x
  | s + 1, hs =>
    have F : ∀ f ∈ ([(23, .int 0, .retAddr 11, .int 0)] : List c_F), c_hold (c_BB [a0, Int32.ofNat (s + 1), a2, a3, a4, a5] []) f := List.forall_mem_cons.mpr ⟨o_ge (i := 0) (s := s + 1) rfl rfl (by omega) (by omega) (by omega), fun _ h => nomatch h⟩
    exact x_Run.pre F i17_t0 ((i17_th hs s 0 (by omega)).x rfl rfl rfl)
theorem i17_all {a0 a2 a3 a4 a5 : Int32} {s : Nat} (hs : s < 100) (h0 : a0 &&& 63 = 17) (r0 : 0 ≤ (Int32.ofNat s).toInt) (r1 : (Int32.ofNat s).toInt ≤ 99)  : c_Goal [a0, Int32.ofNat s, a2, a3, a4, a5] := by
  have F0 : ∀ f ∈ ([(3, .retAddr 10, .int 63, .int 17)] : List c_F), c_hold (c_BB [a0, Int32.ofNat s, a2, a3, a4, a5] []) f := (List.forall_mem_cons.mpr ⟨⟨a0, 63, 17, rfl, rfl, congrArg some h0, rfl⟩, (fun _ h => nomatch h)⟩)
  have F1 : ∀ f ∈ ([] : List c_F), c_hold (c_BB [a0, Int32.ofNat s, a2, a3, a4, a5] []) f := (fun _ h => nomatch h)
  have F2 : ∀ f ∈ ([(22, .retAddr 11, .int 0, .int 0), (25, .retAddr 11, .int 99, .int 1)] : List c_F), c_hold (c_BB [a0, Int32.ofNat s, a2, a3, a4, a5] []) f := (List.forall_mem_cons.mpr ⟨f_cmp (cd := .lt) (a := (Int32.ofNat s)) (b := 0) (t := false) rfl rfl ((k_lt rfl (by decide : (0 : Int32).toInt = 0)).trans (decide_eq_false (by omega))), (List.forall_mem_cons.mpr ⟨f_cmp (cd := .le) (a := (Int32.ofNat s)) (b := 99) (t := true) rfl rfl ((k_le rfl (by decide : (99 : Int32).toInt = 99)).trans (decide_eq_true (by omega))), (fun _ h => nomatch h)⟩)⟩)
  have F3 : ∀ f ∈ ([(22, .retAddr 11, .int 0, .int 0), (24, .retAddr 11, .int 99, .int 0)] : List c_F), c_hold (c_BB [a0, Int32.ofNat s, a2, a3, a4, a5] []) f := (List.forall_mem_cons.mpr ⟨f_cmp (cd := .lt) (a := (Int32.ofNat s)) (b := 0) (t := false) rfl rfl ((k_lt rfl (by decide : (0 : Int32).toInt = 0)).trans (decide_eq_false (by omega))), (List.forall_mem_cons.mpr ⟨f_cmp (cd := .gt) (a := (Int32.ofNat s)) (b := 99) (t := false) rfl rfl ((k_gt rfl (by decide : (99 : Int32).toInt = 99)).trans (decide_eq_false (by omega))), (fun _ h => nomatch h)⟩)⟩)
  exact x_goal (x := []) (x_Run.pre F0 i17_1 (x_Run.call (mz := c_m207) (v := (some (.int 0))) (h1 := i17_h0) i17_12 rfl (x_Run.pre F1 i17_2 (x_Run.call (mz := c_m18) (v := (some (.int 0))) (h1 := i17_h0) i17_10 rfl (x_Run.pre F1 i17_3 (x_Run.call (mz := c_m51) (v := none) (h1 := i17_h0) i17_8 rfl (x_Run.pre F2 i17_4 (x_Run.call (mz := c_m179) (v := none) (h1 := i17_h0) i17_6 rfl (x_Run.pre F1 i17_5 ((i17_walk hs s 0 (by omega)).x rfl rfl rfl)) (x_Run.fin F1 i17_7))) (x_Run.fin F1 i17_9))) (x_Run.fin F1 i17_11))) (x_Run.pre F1 i17_13 (x_Run.call (mz := c_m102) (v := (Option.map (g_v 77 ((t_G [z_10, o_10] s)).length) (some (.int 0)))) (h1 := g_h 77 (t_G [z_10, o_10] s) i17_h2) i17_21 rfl (x_Run.pre F3 i17_14 (x_Run.call (mz := c_m100) (v := (Option.map (g_v 77 ((t_G [z_10, o_10] s)).length) (some (.ref 78)))) (h1 := g_h 77 (t_G [z_10, o_10] s) i17_h2) i17_19 rfl (x_Run.pre F1 i17_15 (x_Run.call (mz := c_m99) (v := (Option.map (g_v 77 ((t_G [z_10, o_10] s)).length) (some (.ref 77)))) (h1 := g_h 77 (t_G [z_10, o_10] s) i17_h1) i17_17 rfl (x_Run.pre F1 i17_16 (i17_thought hs)) (x_Run.fing (n := 77) (t_G [z_10, o_10] s) F1 (by decide) i17_18))) (x_Run.fing (n := 77) (t_G [z_10, o_10] s) F1 (by decide) i17_20))) (x_Run.fing (n := 77) (t_G [z_10, o_10] s) F1 (by decide) i17_22))))) (by rw [s_lenH, g_lenH (by decide), t_G_l, show i17_h2.length = 79 from rfl]; show 79 + s * 2 ≤ 927443; omega) (by rw [s_msz, g_msz, t_G_m, show c_msz i17_h2 = 2018 from by decide +kernel, show c_msz [z_10, o_10] = 20 from rfl]; omega)
def i18n_h0 : c_Hp := [some (.inl (10, [.ref 1, .ref 4, .ref 23, .ref 25, .ref 28, .ref 31, .ref 34, .ref 37, .ref 39, .ref 41, .ref 52, .ref 55])),
  some (.inl (6, [.ref 2, .ref 3, .int 10, .int 0])),
  some (.inr (0, List.replicate 60 (.int 1))),
  some (.inr (0, List.replicate 60 (.int 0))),
  some (.inl (4, [.ref 5, .ref 14, .int 0, .int 0])),
  some (.inr (2, [.ref 6, .ref 7, .ref 8, .ref 9, .ref 10, .ref 11, .ref 12, .ref 13])),
  some (.inr (0, List.replicate 60 (.int 0))),
  some (.inr (0, List.replicate 60 (.int 0))),
  some (.inr (0, List.replicate 60 (.int 0))),
  some (.inr (0, List.replicate 60 (.int 0))),
  some (.inr (0, List.replicate 60 (.int 0))),
  some (.inr (0, List.replicate 60 (.int 0))),
  some (.inr (0, List.replicate 60 (.int 0))),
  some (.inr (0, List.replicate 60 (.int 0))),
  some (.inr (2, [.ref 15, .ref 16, .ref 17, .ref 18, .ref 19, .ref 20, .ref 21, .ref 22])),
  some (.inr (0, List.replicate 60 (.int 0))),
  some (.inr (0, List.replicate 60 (.int 0))),
  some (.inr (0, List.replicate 60 (.int 0))),
  some (.inr (0, List.replicate 60 (.int 0))),
  some (.inr (0, List.replicate 60 (.int 0))),
  some (.inr (0, List.replicate 60 (.int 0))),
  some (.inr (0, List.replicate 60 (.int 0))),
  some (.inr (0, List.replicate 60 (.int 0))),
  some (.inl (0, [.ref 24, .int 0])),
  some (.inr (0, List.replicate 60 (.int 0))),
  some (.inl (3, [.ref 26, .ref 27, .int 0])),
  some (.inr (0, List.replicate 120 (.int 0))),
  some (.inr (0, List.replicate 60 (.int 0))),
  some (.inl (7, [.ref 29, .ref 30, .int 0, .int 0])),
  some (.inr (0, List.replicate 60 (.int 0))),
  some (.inr (0, List.replicate 60 (.int 0))),
  some (.inl (8, [.ref 32, .ref 33])),
  some (.inr (0, [.int 0, .int 0, .int 0])),
  some (.inr (0, [.int 0, .int 0, .int 0])),
  some (.inl (1, [.ref 35, .ref 36, .int 0])),
  some (.inr (0, List.replicate 5 (.int 0))),
  some (.inr (0, List.replicate 5 (.int 0))),
  some (.inl (9, [.ref 38, .int 0])),
  some (.inr (0, List.replicate 6 (.int 0))),
  some (.inl (2, [.ref 40])),
  some (.inr (1, List.replicate 64 (.long 0))),
  some (.inl (5, [.ref 42, .ref 51])),
  some (.inr (2, [.ref 43, .ref 44, .ref 45, .ref 46, .ref 47, .ref 48, .ref 49, .ref 50])),
  some (.inr (0, List.replicate 6 (.int 0))),
  some (.inr (0, List.replicate 6 (.int 0))),
  some (.inr (0, List.replicate 6 (.int 0))),
  some (.inr (0, List.replicate 6 (.int 0))),
  some (.inr (0, List.replicate 6 (.int 0))),
  some (.inr (0, List.replicate 6 (.int 0))),
  some (.inr (0, List.replicate 6 (.int 0))),
  some (.inr (0, List.replicate 6 (.int 0))),
  some (.inr (0, List.replicate 6 (.int 0))),
  some (.inl (6, [.ref 53, .ref 54, .int 1, .int 0])),
  some (.inr (0, List.replicate 60 (.int 0))),
  some (.inr (0, List.replicate 60 (.int 0))),
  some (.inl (6, [.ref 56, .ref 57, .int 1, .int 0])),
  some (.inr (0, List.replicate 60 (.int 0))),
  some (.inr (0, List.replicate 60 (.int 0))),
  some (.inl (11, [.ref 59, .ref 60, .int 0, .ref 61, .ref 62, .ref 63, .ref 64, .int 0, .ref 65, .int 0, .ref 66, .int 0, .int 0])),
  some (.inr (0, List.replicate 10 (.int 1))),
  some (.inr (0, List.replicate 10 (.int 0))),
  some (.inl (12, [.int 0, .retAddr 1, .int 0])),
  some (.inl (12, [.int 0, .retAddr 1, .int 0])),
  some (.inr (0, List.replicate 5 (.int 0))),
  some (.inr (0, List.replicate 5 (.int 0))),
  some (.inr (0, List.replicate 6 (.int 0))),
  some (.inr (2, [.ref 67, .ref 68, .ref 69, .ref 70, .ref 71, .ref 72, .ref 73, .ref 74])),
  some (.inr (0, List.replicate 6 (.int 0))),
  some (.inr (0, List.replicate 6 (.int 0))),
  some (.inr (0, List.replicate 6 (.int 0))),
  some (.inr (0, List.replicate 6 (.int 0))),
  some (.inr (0, List.replicate 6 (.int 0))),
  some (.inr (0, List.replicate 6 (.int 0))),
  some (.inr (0, List.replicate 6 (.int 0))),
  some (.inr (0, List.replicate 6 (.int 0))),
  some (.inr (1, [.long 0])),
  some (.inr (5, [.double 0]))]
def i18n_h1 : c_Hp := [some (.inl (10, [.ref 1, .ref 4, .ref 23, .ref 25, .ref 28, .ref 31, .ref 34, .ref 37, .ref 39, .ref 41, .ref 52, .ref 55])),
  some (.inl (6, [.ref 2, .ref 3, .int 10, .int 0])),
  some (.inr (0, List.replicate 60 (.int 1))),
  some (.inr (0, List.replicate 60 (.int 0))),
  some (.inl (4, [.ref 5, .ref 14, .int 0, .int 0])),
  some (.inr (2, [.ref 6, .ref 7, .ref 8, .ref 9, .ref 10, .ref 11, .ref 12, .ref 13])),
  some (.inr (0, List.replicate 60 (.int 0))),
  some (.inr (0, List.replicate 60 (.int 0))),
  some (.inr (0, List.replicate 60 (.int 0))),
  some (.inr (0, List.replicate 60 (.int 0))),
  some (.inr (0, List.replicate 60 (.int 0))),
  some (.inr (0, List.replicate 60 (.int 0))),
  some (.inr (0, List.replicate 60 (.int 0))),
  some (.inr (0, List.replicate 60 (.int 0))),
  some (.inr (2, [.ref 15, .ref 16, .ref 17, .ref 18, .ref 19, .ref 20, .ref 21, .ref 22])),
  some (.inr (0, List.replicate 60 (.int 0))),
  some (.inr (0, List.replicate 60 (.int 0))),
  some (.inr (0, List.replicate 60 (.int 0))),
  some (.inr (0, List.replicate 60 (.int 0))),
  some (.inr (0, List.replicate 60 (.int 0))),
  some (.inr (0, List.replicate 60 (.int 0))),
  some (.inr (0, List.replicate 60 (.int 0))),
  some (.inr (0, List.replicate 60 (.int 0))),
  some (.inl (0, [.ref 24, .int 0])),
  some (.inr (0, List.replicate 60 (.int 0))),
  some (.inl (3, [.ref 26, .ref 27, .int 0])),
  some (.inr (0, List.replicate 120 (.int 0))),
  some (.inr (0, List.replicate 60 (.int 0))),
  some (.inl (7, [.ref 29, .ref 30, .int 0, .int 0])),
  some (.inr (0, List.replicate 60 (.int 0))),
  some (.inr (0, List.replicate 60 (.int 0))),
  some (.inl (8, [.ref 32, .ref 33])),
  some (.inr (0, [.int 0, .int 0, .int 0])),
  some (.inr (0, [.int 0, .int 0, .int 0])),
  some (.inl (1, [.ref 35, .ref 36, .int 0])),
  some (.inr (0, List.replicate 5 (.int 0))),
  some (.inr (0, List.replicate 5 (.int 0))),
  some (.inl (9, [.ref 38, .int 0])),
  some (.inr (0, List.replicate 6 (.int 0))),
  some (.inl (2, [.ref 40])),
  some (.inr (1, List.replicate 64 (.long 0))),
  some (.inl (5, [.ref 42, .ref 51])),
  some (.inr (2, [.ref 43, .ref 44, .ref 45, .ref 46, .ref 47, .ref 48, .ref 49, .ref 50])),
  some (.inr (0, List.replicate 6 (.int 0))),
  some (.inr (0, List.replicate 6 (.int 0))),
  some (.inr (0, List.replicate 6 (.int 0))),
  some (.inr (0, List.replicate 6 (.int 0))),
  some (.inr (0, List.replicate 6 (.int 0))),
  some (.inr (0, List.replicate 6 (.int 0))),
  some (.inr (0, List.replicate 6 (.int 0))),
  some (.inr (0, List.replicate 6 (.int 0))),
  some (.inr (0, List.replicate 6 (.int 0))),
  some (.inl (6, [.ref 53, .ref 54, .int 1, .int 0])),
  some (.inr (0, List.replicate 60 (.int 0))),
  some (.inr (0, List.replicate 60 (.int 0))),
  some (.inl (6, [.ref 56, .ref 57, .int 1, .int 0])),
  some (.inr (0, List.replicate 60 (.int 0))),
  some (.inr (0, List.replicate 60 (.int 0))),
  some (.inl (11, [.ref 59, .ref 60, .int 0, .ref 61, .ref 62, .ref 63, .ref 64, .int 0, .ref 65, .int 0, .ref 66, .int 0, .int 0])),
  some (.inr (0, List.replicate 10 (.int 1))),
  some (.inr (0, List.replicate 10 (.int 0))),
  some (.inl (12, [.int 0, .retAddr 1, .int 0])),
  some (.inl (12, [.int 0, .retAddr 1, .int 0])),
  some (.inr (0, List.replicate 5 (.int 0))),
  some (.inr (0, List.replicate 5 (.int 0))),
  some (.inr (0, List.replicate 6 (.int 0))),
  some (.inr (2, [.ref 67, .ref 68, .ref 69, .ref 70, .ref 71, .ref 72, .ref 73, .ref 74])),
  some (.inr (0, List.replicate 6 (.int 0))),
  some (.inr (0, List.replicate 6 (.int 0))),
  some (.inr (0, List.replicate 6 (.int 0))),
  some (.inr (0, List.replicate 6 (.int 0))),
  some (.inr (0, List.replicate 6 (.int 0))),
  some (.inr (0, List.replicate 6 (.int 0))),
  some (.inr (0, List.replicate 6 (.int 0))),
  some (.inr (0, List.replicate 6 (.int 0))),
  some (.inr (1, [.long 0])),
  some (.inr (5, [.double 0])),
  none]
def i18n_h2 : c_Hp := [some (.inl (10, [.ref 1, .ref 4, .ref 23, .ref 25, .ref 28, .ref 31, .ref 34, .ref 37, .ref 39, .ref 41, .ref 52, .ref 55])),
  some (.inl (6, [.ref 2, .ref 3, .int 10, .int 0])),
  some (.inr (0, List.replicate 60 (.int 1))),
  some (.inr (0, List.replicate 60 (.int 0))),
  some (.inl (4, [.ref 5, .ref 14, .int 0, .int 0])),
  some (.inr (2, [.ref 6, .ref 7, .ref 8, .ref 9, .ref 10, .ref 11, .ref 12, .ref 13])),
  some (.inr (0, List.replicate 60 (.int 0))),
  some (.inr (0, List.replicate 60 (.int 0))),
  some (.inr (0, List.replicate 60 (.int 0))),
  some (.inr (0, List.replicate 60 (.int 0))),
  some (.inr (0, List.replicate 60 (.int 0))),
  some (.inr (0, List.replicate 60 (.int 0))),
  some (.inr (0, List.replicate 60 (.int 0))),
  some (.inr (0, List.replicate 60 (.int 0))),
  some (.inr (2, [.ref 15, .ref 16, .ref 17, .ref 18, .ref 19, .ref 20, .ref 21, .ref 22])),
  some (.inr (0, List.replicate 60 (.int 0))),
  some (.inr (0, List.replicate 60 (.int 0))),
  some (.inr (0, List.replicate 60 (.int 0))),
  some (.inr (0, List.replicate 60 (.int 0))),
  some (.inr (0, List.replicate 60 (.int 0))),
  some (.inr (0, List.replicate 60 (.int 0))),
  some (.inr (0, List.replicate 60 (.int 0))),
  some (.inr (0, List.replicate 60 (.int 0))),
  some (.inl (0, [.ref 24, .int 0])),
  some (.inr (0, List.replicate 60 (.int 0))),
  some (.inl (3, [.ref 26, .ref 27, .int 0])),
  some (.inr (0, List.replicate 120 (.int 0))),
  some (.inr (0, List.replicate 60 (.int 0))),
  some (.inl (7, [.ref 29, .ref 30, .int 0, .int 0])),
  some (.inr (0, List.replicate 60 (.int 0))),
  some (.inr (0, List.replicate 60 (.int 0))),
  some (.inl (8, [.ref 32, .ref 33])),
  some (.inr (0, [.int 0, .int 0, .int 0])),
  some (.inr (0, [.int 0, .int 0, .int 0])),
  some (.inl (1, [.ref 35, .ref 36, .int 0])),
  some (.inr (0, List.replicate 5 (.int 0))),
  some (.inr (0, List.replicate 5 (.int 0))),
  some (.inl (9, [.ref 38, .int 0])),
  some (.inr (0, List.replicate 6 (.int 0))),
  some (.inl (2, [.ref 40])),
  some (.inr (1, List.replicate 64 (.long 0))),
  some (.inl (5, [.ref 42, .ref 51])),
  some (.inr (2, [.ref 43, .ref 44, .ref 45, .ref 46, .ref 47, .ref 48, .ref 49, .ref 50])),
  some (.inr (0, List.replicate 6 (.int 0))),
  some (.inr (0, List.replicate 6 (.int 0))),
  some (.inr (0, List.replicate 6 (.int 0))),
  some (.inr (0, List.replicate 6 (.int 0))),
  some (.inr (0, List.replicate 6 (.int 0))),
  some (.inr (0, List.replicate 6 (.int 0))),
  some (.inr (0, List.replicate 6 (.int 0))),
  some (.inr (0, List.replicate 6 (.int 0))),
  some (.inr (0, List.replicate 6 (.int 0))),
  some (.inl (6, [.ref 53, .ref 54, .int 1, .int 0])),
  some (.inr (0, List.replicate 60 (.int 0))),
  some (.inr (0, List.replicate 60 (.int 0))),
  some (.inl (6, [.ref 56, .ref 57, .int 1, .int 0])),
  some (.inr (0, List.replicate 60 (.int 0))),
  some (.inr (0, List.replicate 60 (.int 0))),
  some (.inl (11, [.ref 59, .ref 60, .int 0, .ref 61, .ref 62, .ref 63, .ref 64, .int 0, .ref 65, .int 0, .ref 66, .int 0, .int 0])),
  some (.inr (0, List.replicate 10 (.int 1))),
  some (.inr (0, List.replicate 10 (.int 0))),
  some (.inl (12, [.int 0, .retAddr 1, .int 0])),
  some (.inl (12, [.int 0, .retAddr 1, .int 0])),
  some (.inr (0, List.replicate 5 (.int 0))),
  some (.inr (0, List.replicate 5 (.int 0))),
  some (.inr (0, List.replicate 6 (.int 0))),
  some (.inr (2, [.ref 67, .ref 68, .ref 69, .ref 70, .ref 71, .ref 72, .ref 73, .ref 74])),
  some (.inr (0, List.replicate 6 (.int 0))),
  some (.inr (0, List.replicate 6 (.int 0))),
  some (.inr (0, List.replicate 6 (.int 0))),
  some (.inr (0, List.replicate 6 (.int 0))),
  some (.inr (0, List.replicate 6 (.int 0))),
  some (.inr (0, List.replicate 6 (.int 0))),
  some (.inr (0, List.replicate 6 (.int 0))),
  some (.inr (0, List.replicate 6 (.int 0))),
  some (.inr (1, [.long 0])),
  some (.inr (5, [.double 0])),
  none,
  some (.inr (0, List.replicate 11 (.int 0)))]
def i18n_h3 : c_Hp := [some (.inl (10, [.ref 1, .ref 4, .ref 23, .ref 25, .ref 28, .ref 31, .ref 34, .ref 37, .ref 39, .ref 41, .ref 52, .ref 55])),
  some (.inl (6, [.ref 2, .ref 3, .int 10, .int 0])),
  some (.inr (0, List.replicate 60 (.int 1))),
  some (.inr (0, List.replicate 60 (.int 0))),
  some (.inl (4, [.ref 5, .ref 14, .int 0, .int 0])),
  some (.inr (2, [.ref 6, .ref 7, .ref 8, .ref 9, .ref 10, .ref 11, .ref 12, .ref 13])),
  some (.inr (0, List.replicate 60 (.int 0))),
  some (.inr (0, List.replicate 60 (.int 0))),
  some (.inr (0, List.replicate 60 (.int 0))),
  some (.inr (0, List.replicate 60 (.int 0))),
  some (.inr (0, List.replicate 60 (.int 0))),
  some (.inr (0, List.replicate 60 (.int 0))),
  some (.inr (0, List.replicate 60 (.int 0))),
  some (.inr (0, List.replicate 60 (.int 0))),
  some (.inr (2, [.ref 15, .ref 16, .ref 17, .ref 18, .ref 19, .ref 20, .ref 21, .ref 22])),
  some (.inr (0, List.replicate 60 (.int 0))),
  some (.inr (0, List.replicate 60 (.int 0))),
  some (.inr (0, List.replicate 60 (.int 0))),
  some (.inr (0, List.replicate 60 (.int 0))),
  some (.inr (0, List.replicate 60 (.int 0))),
  some (.inr (0, List.replicate 60 (.int 0))),
  some (.inr (0, List.replicate 60 (.int 0))),
  some (.inr (0, List.replicate 60 (.int 0))),
  some (.inl (0, [.ref 24, .int 0])),
  some (.inr (0, List.replicate 60 (.int 0))),
  some (.inl (3, [.ref 26, .ref 27, .int 0])),
  some (.inr (0, List.replicate 120 (.int 0))),
  some (.inr (0, List.replicate 60 (.int 0))),
  some (.inl (7, [.ref 29, .ref 30, .int 0, .int 0])),
  some (.inr (0, List.replicate 60 (.int 0))),
  some (.inr (0, List.replicate 60 (.int 0))),
  some (.inl (8, [.ref 32, .ref 33])),
  some (.inr (0, [.int 0, .int 0, .int 0])),
  some (.inr (0, [.int 0, .int 0, .int 0])),
  some (.inl (1, [.ref 35, .ref 36, .int 0])),
  some (.inr (0, List.replicate 5 (.int 0))),
  some (.inr (0, List.replicate 5 (.int 0))),
  some (.inl (9, [.ref 38, .int 0])),
  some (.inr (0, List.replicate 6 (.int 0))),
  some (.inl (2, [.ref 40])),
  some (.inr (1, List.replicate 64 (.long 0))),
  some (.inl (5, [.ref 42, .ref 51])),
  some (.inr (2, [.ref 43, .ref 44, .ref 45, .ref 46, .ref 47, .ref 48, .ref 49, .ref 50])),
  some (.inr (0, List.replicate 6 (.int 0))),
  some (.inr (0, List.replicate 6 (.int 0))),
  some (.inr (0, List.replicate 6 (.int 0))),
  some (.inr (0, List.replicate 6 (.int 0))),
  some (.inr (0, List.replicate 6 (.int 0))),
  some (.inr (0, List.replicate 6 (.int 0))),
  some (.inr (0, List.replicate 6 (.int 0))),
  some (.inr (0, List.replicate 6 (.int 0))),
  some (.inr (0, List.replicate 6 (.int 0))),
  some (.inl (6, [.ref 53, .ref 54, .int 1, .int 0])),
  some (.inr (0, List.replicate 60 (.int 0))),
  some (.inr (0, List.replicate 60 (.int 0))),
  some (.inl (6, [.ref 56, .ref 57, .int 1, .int 0])),
  some (.inr (0, List.replicate 60 (.int 0))),
  some (.inr (0, List.replicate 60 (.int 0))),
  some (.inl (11, [.ref 59, .ref 60, .int 0, .ref 61, .ref 62, .ref 63, .ref 64, .int 0, .ref 65, .int 0, .ref 66, .int 0, .int 0])),
  some (.inr (0, List.replicate 10 (.int 1))),
  some (.inr (0, List.replicate 10 (.int 0))),
  some (.inl (12, [.int 0, .retAddr 1, .int 0])),
  some (.inl (12, [.int 0, .retAddr 1, .int 0])),
  some (.inr (0, List.replicate 5 (.int 0))),
  some (.inr (0, List.replicate 5 (.int 0))),
  some (.inr (0, List.replicate 6 (.int 0))),
  some (.inr (2, [.ref 67, .ref 68, .ref 69, .ref 70, .ref 71, .ref 72, .ref 73, .ref 74])),
  some (.inr (0, List.replicate 6 (.int 0))),
  some (.inr (0, List.replicate 6 (.int 0))),
  some (.inr (0, List.replicate 6 (.int 0))),
  some (.inr (0, List.replicate 6 (.int 0))),
  some (.inr (0, List.replicate 6 (.int 0))),
  some (.inr (0, List.replicate 6 (.int 0))),
  some (.inr (0, List.replicate 6 (.int 0))),
  some (.inr (0, List.replicate 6 (.int 0))),
  some (.inr (1, [.long 0])),
  some (.inr (5, [.double 0])),
  none,
  some (.inr (0, List.replicate 11 (.int 0))),
  some (.inl (12, [.int 0, .retAddr 1, .int 0]))]
def i18n_h4 : c_Hp := [some (.inl (10, [.ref 1, .ref 4, .ref 23, .ref 25, .ref 28, .ref 31, .ref 34, .ref 37, .ref 39, .ref 41, .ref 52, .ref 55])),
  some (.inl (6, [.ref 2, .ref 3, .int 10, .int 0])),
  some (.inr (0, List.replicate 60 (.int 1))),
  some (.inr (0, List.replicate 60 (.int 0))),
  some (.inl (4, [.ref 5, .ref 14, .int 0, .int 0])),
  some (.inr (2, [.ref 6, .ref 7, .ref 8, .ref 9, .ref 10, .ref 11, .ref 12, .ref 13])),
  some (.inr (0, List.replicate 60 (.int 0))),
  some (.inr (0, List.replicate 60 (.int 0))),
  some (.inr (0, List.replicate 60 (.int 0))),
  some (.inr (0, List.replicate 60 (.int 0))),
  some (.inr (0, List.replicate 60 (.int 0))),
  some (.inr (0, List.replicate 60 (.int 0))),
  some (.inr (0, List.replicate 60 (.int 0))),
  some (.inr (0, List.replicate 60 (.int 0))),
  some (.inr (2, [.ref 15, .ref 16, .ref 17, .ref 18, .ref 19, .ref 20, .ref 21, .ref 22])),
  some (.inr (0, List.replicate 60 (.int 0))),
  some (.inr (0, List.replicate 60 (.int 0))),
  some (.inr (0, List.replicate 60 (.int 0))),
  some (.inr (0, List.replicate 60 (.int 0))),
  some (.inr (0, List.replicate 60 (.int 0))),
  some (.inr (0, List.replicate 60 (.int 0))),
  some (.inr (0, List.replicate 60 (.int 0))),
  some (.inr (0, List.replicate 60 (.int 0))),
  some (.inl (0, [.ref 24, .int 0])),
  some (.inr (0, List.replicate 60 (.int 0))),
  some (.inl (3, [.ref 26, .ref 27, .int 0])),
  some (.inr (0, List.replicate 120 (.int 0))),
  some (.inr (0, List.replicate 60 (.int 0))),
  some (.inl (7, [.ref 29, .ref 30, .int 0, .int 0])),
  some (.inr (0, List.replicate 60 (.int 0))),
  some (.inr (0, List.replicate 60 (.int 0))),
  some (.inl (8, [.ref 32, .ref 33])),
  some (.inr (0, [.int 0, .int 0, .int 0])),
  some (.inr (0, [.int 0, .int 0, .int 0])),
  some (.inl (1, [.ref 35, .ref 36, .int 0])),
  some (.inr (0, List.replicate 5 (.int 0))),
  some (.inr (0, List.replicate 5 (.int 0))),
  some (.inl (9, [.ref 38, .int 0])),
  some (.inr (0, List.replicate 6 (.int 0))),
  some (.inl (2, [.ref 40])),
  some (.inr (1, List.replicate 64 (.long 0))),
  some (.inl (5, [.ref 42, .ref 51])),
  some (.inr (2, [.ref 43, .ref 44, .ref 45, .ref 46, .ref 47, .ref 48, .ref 49, .ref 50])),
  some (.inr (0, List.replicate 6 (.int 0))),
  some (.inr (0, List.replicate 6 (.int 0))),
  some (.inr (0, List.replicate 6 (.int 0))),
  some (.inr (0, List.replicate 6 (.int 0))),
  some (.inr (0, List.replicate 6 (.int 0))),
  some (.inr (0, List.replicate 6 (.int 0))),
  some (.inr (0, List.replicate 6 (.int 0))),
  some (.inr (0, List.replicate 6 (.int 0))),
  some (.inr (0, List.replicate 6 (.int 0))),
  some (.inl (6, [.ref 53, .ref 54, .int 1, .int 0])),
  some (.inr (0, List.replicate 60 (.int 0))),
  some (.inr (0, List.replicate 60 (.int 0))),
  some (.inl (6, [.ref 56, .ref 57, .int 1, .int 0])),
  some (.inr (0, List.replicate 60 (.int 0))),
  some (.inr (0, List.replicate 60 (.int 0))),
  some (.inl (11, [.ref 59, .ref 60, .int 0, .ref 61, .ref 62, .ref 63, .ref 64, .int 0, .ref 65, .int 0, .ref 66, .int 0, .int 3])),
  some (.inr (0, List.replicate 10 (.int 1))),
  some (.inr (0, List.replicate 10 (.int 0))),
  some (.inl (12, [.int 0, .retAddr 1, .int 0])),
  some (.inl (12, [.int 0, .retAddr 1, .int 0])),
  some (.inr (0, List.replicate 5 (.int 0))),
  some (.inr (0, List.replicate 5 (.int 0))),
  some (.inr (0, List.replicate 6 (.int 0))),
  some (.inr (2, [.ref 67, .ref 68, .ref 69, .ref 70, .ref 71, .ref 72, .ref 73, .ref 74])),
  some (.inr (0, List.replicate 6 (.int 0))),
  some (.inr (0, List.replicate 6 (.int 0))),
  some (.inr (0, List.replicate 6 (.int 0))),
  some (.inr (0, List.replicate 6 (.int 0))),
  some (.inr (0, List.replicate 6 (.int 0))),
  some (.inr (0, List.replicate 6 (.int 0))),
  some (.inr (0, List.replicate 6 (.int 0))),
  some (.inr (0, List.replicate 6 (.int 0))),
  some (.inr (1, [.long 0])),
  some (.inr (5, [.double 0])),
  none,
  some (.inr (0, List.replicate 11 (.int 0))),
  some (.inl (12, [.int 0, .retAddr 1, .int 0]))]
theorem i18n_1 : c_pre ([(3, .retAddr 10, .int 63, .int 18)], x_xs) 38 c_m259 18 38 [some (.retAddr 0), some (.ref 0), some (.ref 58), some (.ref 75), some (.ref 76), some (.int 0), none, none, none] [] i18n_h0 = some (1243, [some (.retAddr 0), some (.ref 0), some (.ref 58), some (.ref 75), some (.ref 76), some (.int 0), none, none, none], [.ref 75, .retAddr 12, .retAddr 11, .ref 0], i18n_h0) := c_eqR_ok (by decide +kernel)
theorem i18n_2 : c_pre ([], x_xs) 25 c_m208 5 0 [some (.ref 0), some (.retAddr 11), some (.retAddr 12), some (.ref 75), none] [] i18n_h0 = some (5, [some (.ref 0), some (.retAddr 11), some (.retAddr 12), some (.ref 75), none], [.retAddr 12, .retAddr 11, .ref 0, .int 0, .ref 75], i18n_h0) := c_eqR_ok (by decide +kernel)
theorem i18n_3 : c_pre ([], x_xs) 22 c_m19 2 0 [some (.ref 0), some (.retAddr 11), some (.retAddr 12)] [] i18n_h0 = some (2, [some (.ref 0), some (.retAddr 11), some (.retAddr 12)], [.retAddr 11, .ref 0], i18n_h0) := c_eqR_ok (by decide +kernel)
theorem i18n_4 : c_pre ([(22, .retAddr 11, .int 0, .int 0), (25, .retAddr 11, .int 99, .int 1)], x_xs) 175 c_m51 11 0 [some (.ref 0), some (.retAddr 11)] [] i18n_h0 = some (20, [some (.ref 0), some (.retAddr 11)], [.retAddr 11, .ref 1, .ref 28], i18n_h0) := c_eqR_ok (by decide +kernel)
theorem i18n_5 : c_pre ([], x_xs) 141 c_m179 121 0 [some (.ref 28), some (.ref 1), some (.retAddr 11), none] [] i18n_h0 = some (52, [some (.ref 28), some (.ref 1), some (.retAddr 11), some (.int 0)], [], i18n_h0) := c_eqR_ok (by decide +kernel)
theorem i18n_6 : c_callee c_m51 20 [.retAddr 11, .ref 1, .ref 28] i18n_h0 = some (179, [some (.ref 28), some (.ref 1), some (.retAddr 11), none], []) := c_eqC_ok (by decide +kernel)
theorem i18n_7 : c_go c_P ([], x_xs) 21 c_m51 23 [some (.ref 0), some (.retAddr 11)] [] i18n_h0 = some (.inl none, i18n_h0) := c_eqO_ok (by decide +kernel)
theorem i18n_8 : c_callee c_m19 2 [.retAddr 11, .ref 0] i18n_h0 = some (51, [some (.ref 0), some (.retAddr 11)], []) := c_eqC_ok (by decide +kernel)
theorem i18n_9 : c_go c_P ([], x_xs) 43 c_m19 5 [some (.ref 0), some (.retAddr 11), some (.retAddr 12)] [] i18n_h0 = some (.inr 3, i18n_h1) := c_eqX_ok (by decide +kernel)
theorem i18n_10 : c_callee c_m208 5 [.retAddr 12, .retAddr 11, .ref 0, .int 0, .ref 75] i18n_h0 = some (19, [some (.ref 0), some (.retAddr 11), some (.retAddr 12)], [.int 0, .ref 75]) := c_eqC_ok (by decide +kernel)
theorem i18n_10x : c_catS c_m208 5 3 [some (.ref 0), some (.retAddr 11), some (.retAddr 12), some (.ref 75), none] = some (23, [some (.ref 0), some (.retAddr 11), some (.retAddr 12), some (.ref 75), none]) := c_eqS_ok (by decide +kernel)
theorem i18n_11 : c_go c_P ([], x_xs) 22 c_m208 23 [some (.ref 0), some (.retAddr 11), some (.retAddr 12), some (.ref 75), none] [] i18n_h1 = some (.inl (some (.int 3)), i18n_h1) := c_eqO_ok (by decide +kernel)
theorem i18n_12 : c_callee c_m259 1243 [.ref 75, .retAddr 12, .retAddr 11, .ref 0] i18n_h0 = some (208, [some (.ref 0), some (.retAddr 11), some (.retAddr 12), some (.ref 75), none], []) := c_eqC_ok (by decide +kernel)
theorem i18n_13 : c_pre ([], x_xs) 32 c_m259 12 1246 [some (.retAddr 0), some (.ref 0), some (.ref 58), some (.ref 75), some (.ref 76), some (.int 0), none, none, none] [.int 3] i18n_h1 = some (1261, [some (.retAddr 0), some (.ref 0), some (.ref 58), some (.ref 75), some (.ref 76), some (.int 0), some (.int 3), none, none], [.retAddr 12, .retAddr 11, .ref 58], i18n_h1) := c_eqR_ok (by decide +kernel)
theorem i18n_14 : c_pre ([], x_xs) 24 c_m104 4 0 [some (.ref 58), some (.retAddr 11), some (.retAddr 12)] [] i18n_h1 = some (4, [some (.ref 58), some (.retAddr 11), some (.retAddr 12)], [.int 1, .retAddr 12, .retAddr 11, .ref 58], i18n_h1) := c_eqR_ok (by decide +kernel)
theorem i18n_15 : c_pre ([(22, .retAddr 11, .int 0, .int 0), (24, .retAddr 11, .int 99, .int 0)], x_xs) 229 c_m103 6 0 [some (.ref 58), some (.retAddr 11), some (.retAddr 12), some (.int 1), none] [] i18n_h1 = some (12, [some (.ref 58), some (.retAddr 11), some (.retAddr 12), some (.int 1), none], [.retAddr 11, .ref 58], i18n_h1) := c_eqR_ok (by decide +kernel)
theorem i18n_16 : c_pre ([], x_xs) 22 c_m100 2 0 [some (.ref 58), some (.retAddr 11), none, none, none, none] [] i18n_h1 = some (2, [some (.ref 58), some (.retAddr 11), none, none, none, none], [.retAddr 11, .ref 58], i18n_h1) := c_eqR_ok (by decide +kernel)
theorem i18n_17 : c_pre ([], x_xs) 25 c_m99 5 0 [some (.ref 58), some (.retAddr 11), none, none, none] [] i18n_h1 = some (7, [some (.ref 58), some (.retAddr 11), some (.ref 60), some (.int 0), none], [], i18n_h1) := c_eqR_ok (by decide +kernel)
theorem i18n_18 : c_callee c_m100 2 [.retAddr 11, .ref 58] i18n_h1 = some (99, [some (.ref 58), some (.retAddr 11), none, none, none], []) := c_eqC_ok (by decide +kernel)
theorem i18n_19 : c_go c_P ([], x_xs) 270 c_m100 5 [some (.ref 58), some (.retAddr 11), none, none, none, none] [.ref 78] i18n_h2 = some (.inl (some (.ref 79)), i18n_h3) := c_eqO_ok (by decide +kernel)
theorem i18n_20 : c_callee c_m103 12 [.retAddr 11, .ref 58] i18n_h1 = some (100, [some (.ref 58), some (.retAddr 11), none, none, none, none], []) := c_eqC_ok (by decide +kernel)
theorem i18n_21 : c_go c_P ([(22, .retAddr 12, .int 0, .int 1)], x_xs) 54 c_m103 15 [some (.ref 58), some (.retAddr 11), some (.retAddr 12), some (.int 1), none] [.ref 79] i18n_h3 = some (.inl (some (.int 0)), i18n_h4) := c_eqO_ok (by decide +kernel)
theorem i18n_22 : c_callee c_m104 4 [.int 1, .retAddr 12, .retAddr 11, .ref 58] i18n_h1 = some (103, [some (.ref 58), some (.retAddr 11), some (.retAddr 12), some (.int 1), none], []) := c_eqC_ok (by decide +kernel)
theorem i18n_23 : c_go c_P ([], x_xs) 21 c_m104 7 [some (.ref 58), some (.retAddr 11), some (.retAddr 12)] [.int 0] i18n_h4 = some (.inl (some (.int 0)), i18n_h4) := c_eqO_ok (by decide +kernel)
theorem i18n_24 : c_callee c_m259 1261 [.retAddr 12, .retAddr 11, .ref 58] i18n_h1 = some (104, [some (.ref 58), some (.retAddr 11), some (.retAddr 12)], []) := c_eqC_ok (by decide +kernel)
theorem i18n_25 : c_go c_P ([], x_xs) 41 c_m259 1264 [some (.retAddr 0), some (.ref 0), some (.ref 58), some (.ref 75), some (.ref 76), some (.int 0), some (.int 3), none, none] [.int 0] i18n_h4 = some (.inl (some (.int 1)), i18n_h4) := c_eqO_ok (by decide +kernel)
theorem i18n_w : c_pre ([(23, .retAddr 16, .retAddr 11, .int 0), (0, .retAddr 16, .int 1, .retAddr 17)], x_xs) 100 c_m179 7 52 [some (.ref 28), some (.ref 1), some (.retAddr 11), some (.retAddr 16)] [] i18n_h0 = some (52, [some (.ref 28), some (.ref 1), some (.retAddr 11), some (.retAddr 17)], [], i18n_h0) := c_eqR_ok (by decide +kernel)
theorem i18n_wx : c_go c_P ([(23, .retAddr 16, .retAddr 11, .int 1)], x_xs) 100 c_m179 52 [some (.ref 28), some (.ref 1), some (.retAddr 11), some (.retAddr 16)] [] i18n_h0 = some (.inl none, i18n_h0) := c_eqO_ok (by decide +kernel)
theorem i18n_walk {a0 a2 a3 a4 a5 : Int32} {s : Nat} (hs : s < 100) : ∀ (j i : Nat), i + j = s → c_T [a0, Int32.ofNat s, a2, a3, a4, a5] c_m179 52 [some (.ref 28), some (.ref 1), some (.int (Int32.ofNat s)), some (.int (Int32.ofNat i))] [] i18n_h0 (.inl none, i18n_h0)
  | 0, i, e => by
    have F : ∀ f ∈ ([(23, .retAddr 16, .retAddr 11, .int 1)] : List c_F), c_hold (c_BB [a0, Int32.ofNat s, a2, a3, a4, a5] [Int32.ofNat i]) f := (List.forall_mem_cons.mpr ⟨o_ge1 (i := i) (s := s) rfl rfl (by omega) (by omega) (by omega), fun _ h => nomatch h⟩)
    exact (x_Run.fin F i18n_wx).t rfl rfl rfl rfl
  | j + 1, i, e => by
    have F : ∀ f ∈ ([(23, .retAddr 16, .retAddr 11, .int 0), (0, .retAddr 16, .int 1, .retAddr 17)] : List c_F), c_hold (c_BB [a0, Int32.ofNat s, a2, a3, a4, a5] [Int32.ofNat i, Int32.ofNat (i + 1)]) f := (List.forall_mem_cons.mpr ⟨o_ge (i := i) (s := s) rfl rfl (by omega) (by omega) (by omega), List.forall_mem_cons.mpr ⟨o_inc (i := i) rfl rfl, fun _ h => nomatch h⟩⟩)
    have ih := i18n_walk (a0 := a0) (a2 := a2) (a3 := a3) (a4 := a4) (a5 := a5) hs j (i + 1) (by omega)
    exact (x_Run.pre F i18n_w (ih.x (x := [Int32.ofNat i, Int32.ofNat (i + 1)]) rfl rfl rfl)).t rfl rfl rfl rfl
theorem i18n_t0 : c_pre ([(23, .int 0, .retAddr 11, .int 0)], x_xs) 1000 c_m99 22 7 [some (.ref 58), some (.retAddr 11), some (.ref 60), some (.int 0), none] [] i18n_h1 = some (7, [some (.ref 58), some (.retAddr 11), some (.ref 78), some (.int 1), some (.int 0)], [], i18n_h1 ++ [z_10, o_10]) := c_eqR_ok (by decide +kernel)
theorem i18n_t0x : c_go c_P ([(23, .int 0, .retAddr 11, .int 1)], x_xs) 1000 c_m99 7 [some (.ref 58), some (.retAddr 11), some (.ref 60), some (.int 0), none] [] i18n_h1 = some (.inl (some (.ref 78)), i18n_h1 ++ [z_11]) := c_eqO_ok (by decide +kernel)
theorem i18n_t : c_pre ([(23, .retAddr 16, .retAddr 11, .int 0), (0, .retAddr 16, .int 1, .retAddr 17)], x_xs) 1000 c_m99 22 7 [some (.ref 58), some (.retAddr 11), some (.ref 78), some (.retAddr 16), some (.int 0)] [] (i18n_h1 ++ [z_10, o_10]) = some (7, [some (.ref 58), some (.retAddr 11), some (.ref 80), some (.retAddr 17), some (.int 0)], [], i18n_h1 ++ [z_10, o_10, z_10, o_10]) := c_eqR_ok (by decide +kernel)
theorem i18n_tx : c_go c_P ([(23, .retAddr 16, .retAddr 11, .int 1)], x_xs) 1000 c_m99 7 [some (.ref 58), some (.retAddr 11), some (.ref 78), some (.retAddr 16), some (.int 0)] [] (i18n_h1 ++ [z_10, o_10]) = some (.inl (some (.ref 80)), i18n_h1 ++ [z_10, o_10, z_11]) := c_eqO_ok (by decide +kernel)
theorem i18n_gh (G t : c_Hp) (ht : ∀ d, t.map (g_c 78 d) = t) {a0 a1 a2 a3 a4 a5 : Int32} {x : List Int32} (hG : s_h (c_BB [a0, a1, a2, a3, a4, a5] x) G = G) (h2 : s_h (c_BB [a0, a1, a2, a3, a4, a5] x) t = t) : s_h (c_BB [a0, a1, a2, a3, a4, a5] x) (g_h 78 G (i18n_h1 ++ t)) = i18n_h1 ++ (G ++ t) := by
  have h1 : ∀ a b : c_Hp, s_h (c_BB [a0, a1, a2, a3, a4, a5] x) (a ++ b) = s_h (c_BB [a0, a1, a2, a3, a4, a5] x) a ++ s_h (c_BB [a0, a1, a2, a3, a4, a5] x) b := fun a b => List.map_append
  have e1 : i18n_h1.map (g_c 78 G.length) = i18n_h1 := rfl
  have e2 : s_h (c_BB [a0, a1, a2, a3, a4, a5] x) i18n_h1 = i18n_h1 := rfl
  rw [g_h_s (show i18n_h1.length = 78 from rfl), e1, ht, h1, h1, hG, h2, e2]
theorem i18n_th {a0 a2 a3 a4 a5 : Int32} {s : Nat} (hs : s < 100) : ∀ (j i : Nat), i + 1 + j = s → c_T [a0, Int32.ofNat s, a2, a3, a4, a5] c_m99 7 [some (.ref 58), some (.int (Int32.ofNat s)), some (.ref (78 + (t_G [z_10, o_10] i).length)), some (.int (Int32.ofNat (i + 1))), some (.int 0)] [] (i18n_h1 ++ (t_G [z_10, o_10] i ++ [z_10, o_10])) (.inl (some (.ref (78 + (t_G [z_10, o_10] s).length))), i18n_h1 ++ (t_G [z_10, o_10] s ++ [z_11]))
  | 0, i, e => by
    have F : ∀ f ∈ ([(23, .retAddr 16, .retAddr 11, .int 1)] : List c_F), c_hold (c_BB [a0, Int32.ofNat s, a2, a3, a4, a5] [Int32.ofNat (i + 1)]) f := (List.forall_mem_cons.mpr ⟨o_ge1 (i := i + 1) (s := s) rfl rfl (by omega) (by omega) (by omega), fun _ h => nomatch h⟩)
    refine (x_Run.fing (n := 78) (t_G [z_10, o_10] i) F (by decide) i18n_tx).t rfl rfl (i18n_gh _ _ (fun _ => rfl) (t_G_b _ rfl i) rfl) ?_
    rw [i18n_gh _ _ (fun _ => rfl) (t_G_b _ rfl i) rfl]
    have e0 : s = i + 1 := by omega
    subst e0
    rw [t_G_s, List.length_append, List.append_assoc]
    show (Sum.inl (some (Value.ref (g_p 78 (t_G [z_10, o_10] i).length 80))), _) = (Sum.inl (some (Value.ref (78 + ((t_G [z_10, o_10] i).length + 2)))), _)
    have e1 : g_p 78 (t_G [z_10, o_10] i).length 80 = 78 + ((t_G [z_10, o_10] i).length + 2) := by
      unfold g_p
      rw [if_neg (by decide)]
      omega
    rw [e1]
    rfl
  | j + 1, i, e => by
    have F : ∀ f ∈ ([(23, .retAddr 16, .retAddr 11, .int 0), (0, .retAddr 16, .int 1, .retAddr 17)] : List c_F), c_hold (c_BB [a0, Int32.ofNat s, a2, a3, a4, a5] [Int32.ofNat (i + 1), Int32.ofNat (i + 1 + 1)]) f := (List.forall_mem_cons.mpr ⟨o_ge (i := i + 1) (s := s) rfl rfl (by omega) (by omega) (by omega), List.forall_mem_cons.mpr ⟨o_inc (i := i + 1) rfl rfl, fun _ h => nomatch h⟩⟩)
    have ih := i18n_th (a0 := a0) (a2 := a2) (a3 := a3) (a4 := a4) (a5 := a5) hs j (i + 1) (by omega)
    refine (x_Run.preg (n := 78) (t_G [z_10, o_10] i) F (by decide) i18n_t (ih.x (x := [Int32.ofNat (i + 1), Int32.ofNat (i + 1 + 1)]) ?_ rfl ?_)).t rfl rfl (i18n_gh _ _ (fun _ => rfl) (t_G_b _ rfl i) rfl) rfl
    · have e1 : g_p 78 (t_G [z_10, o_10] i).length 80 = 78 + (t_G [z_10, o_10] (i + 1)).length := by
        unfold g_p
        rw [if_neg (by decide), t_G_s, List.length_append]
        show _ = 78 + ((t_G [z_10, o_10] i).length + 2)
        omega
      rw [← e1]
      rfl
    · rw [i18n_gh _ _ (fun _ => rfl) (t_G_b _ rfl i) rfl, t_G_s, List.append_assoc]
      rfl
theorem i18n_thought {a0 a2 a3 a4 a5 : Int32} {s : Nat} (hs : s < 100) : x_Run (c_BB [a0, Int32.ofNat s, a2, a3, a4, a5] []) x_xs c_m99 7 [some (.ref 58), some (.retAddr 11), some (.ref 60), some (.int 0), none] [] i18n_h1 (.inl ((Option.map (g_v 78 (t_G [z_10, o_10] s).length) (some (.ref 78))).map (s_v (c_BB [a0, Int32.ofNat s, a2, a3, a4, a5] []))), s_h (c_BB [a0, Int32.ofNat s, a2, a3, a4, a5] []) (g_h 78 (t_G [z_10, o_10] s) i18n_h2)) := by
  have er : ((.inl (some (.ref (78 + (t_G [z_10, o_10] s).length))), i18n_h1 ++ (t_G [z_10, o_10] s ++ [z_11])) : c_O × c_Hp) = (.inl ((Option.map (g_v 78 (t_G [z_10, o_10] s).length) (some (.ref 78))).map (s_v (c_BB [a0, Int32.ofNat s, a2, a3, a4, a5] []))), s_h (c_BB [a0, Int32.ofNat s, a2, a3, a4, a5] []) (g_h 78 (t_G [z_10, o_10] s) i18n_h2)) := by
    rw [show i18n_h2 = i18n_h1 ++ [z_11] from rfl, i18n_gh _ _ (fun _ => rfl) (t_G_b _ rfl s) rfl]
    rfl
  rw [← er]
  match s, hs with
  | 0, hs =>
    have F : ∀ f ∈ ([(23, .int 0, .retAddr 11, .int 1)] : List c_F), c_hold (c_BB [a0, Int32.ofNat 0, a2, a3, a4, a5] []) f := List.forall_mem_cons.mpr ⟨o_ge1 (i := 0) (s := 0) rfl rfl (by omega) (by omega) (by omega), fun _ h => nomatch h⟩
    exact x_Run.fin F i18n_t0x
  | s + 1, hs =>
    have F : ∀ f ∈ ([(23, .int 0, .retAddr 11, .int 0)] : List c_F), c_hold (c_BB [a0, Int32.ofNat (s + 1), a2, a3, a4, a5] []) f := List.forall_mem_cons.mpr ⟨o_ge (i := 0) (s := s + 1) rfl rfl (by omega) (by omega) (by omega), fun _ h => nomatch h⟩
    exact x_Run.pre F i18n_t0 ((i18n_th hs s 0 (by omega)).x rfl rfl rfl)
theorem i18n_all {a0 a2 a3 a4 a5 : Int32} {s : Nat} (hs : s < 100) (h0 : a0 &&& 63 = 18) (r0 : 0 ≤ (Int32.ofNat s).toInt) (r1 : (Int32.ofNat s).toInt ≤ 99) (r2 : a2.toInt < 0) : c_Goal [a0, Int32.ofNat s, a2, a3, a4, a5] := by
  have F0 : ∀ f ∈ ([(3, .retAddr 10, .int 63, .int 18)] : List c_F), c_hold (c_BB [a0, Int32.ofNat s, a2, a3, a4, a5] []) f := (List.forall_mem_cons.mpr ⟨⟨a0, 63, 18, rfl, rfl, congrArg some h0, rfl⟩, (fun _ h => nomatch h)⟩)
  have F1 : ∀ f ∈ ([] : List c_F), c_hold (c_BB [a0, Int32.ofNat s, a2, a3, a4, a5] []) f := (fun _ h => nomatch h)
  have F2 : ∀ f ∈ ([(22, .retAddr 11, .int 0, .int 0), (25, .retAddr 11, .int 99, .int 1)] : List c_F), c_hold (c_BB [a0, Int32.ofNat s, a2, a3, a4, a5] []) f := (List.forall_mem_cons.mpr ⟨f_cmp (cd := .lt) (a := (Int32.ofNat s)) (b := 0) (t := false) rfl rfl ((k_lt rfl (by decide : (0 : Int32).toInt = 0)).trans (decide_eq_false (by omega))), (List.forall_mem_cons.mpr ⟨f_cmp (cd := .le) (a := (Int32.ofNat s)) (b := 99) (t := true) rfl rfl ((k_le rfl (by decide : (99 : Int32).toInt = 99)).trans (decide_eq_true (by omega))), (fun _ h => nomatch h)⟩)⟩)
  have F3 : ∀ f ∈ ([(22, .retAddr 11, .int 0, .int 0), (24, .retAddr 11, .int 99, .int 0)] : List c_F), c_hold (c_BB [a0, Int32.ofNat s, a2, a3, a4, a5] []) f := (List.forall_mem_cons.mpr ⟨f_cmp (cd := .lt) (a := (Int32.ofNat s)) (b := 0) (t := false) rfl rfl ((k_lt rfl (by decide : (0 : Int32).toInt = 0)).trans (decide_eq_false (by omega))), (List.forall_mem_cons.mpr ⟨f_cmp (cd := .gt) (a := (Int32.ofNat s)) (b := 99) (t := false) rfl rfl ((k_gt rfl (by decide : (99 : Int32).toInt = 99)).trans (decide_eq_false (by omega))), (fun _ h => nomatch h)⟩)⟩)
  have F4 : ∀ f ∈ ([(22, .retAddr 12, .int 0, .int 1)] : List c_F), c_hold (c_BB [a0, Int32.ofNat s, a2, a3, a4, a5] []) f := (List.forall_mem_cons.mpr ⟨f_cmp (cd := .lt) (a := a2) (b := 0) (t := true) rfl rfl ((k_lt rfl (by decide : (0 : Int32).toInt = 0)).trans (decide_eq_true (by omega))), (fun _ h => nomatch h)⟩)
  exact x_goal (x := []) (x_Run.pre F0 i18n_1 (x_Run.call (mz := c_m208) (v := (some (.int 3))) (h1 := i18n_h1) i18n_12 rfl (x_Run.pre F1 i18n_2 (x_Run.callx (mz := c_m19) (h1 := i18n_h1) i18n_10 rfl (x_Run.pre F1 i18n_3 (x_Run.call (mz := c_m51) (v := none) (h1 := i18n_h0) i18n_8 rfl (x_Run.pre F2 i18n_4 (x_Run.call (mz := c_m179) (v := none) (h1 := i18n_h0) i18n_6 rfl (x_Run.pre F1 i18n_5 ((i18n_walk hs s 0 (by omega)).x rfl rfl rfl)) (x_Run.fin F1 i18n_7))) (x_Run.finx F1 i18n_9))) i18n_10x (x_Run.fin F1 i18n_11))) (x_Run.pre F1 i18n_13 (x_Run.call (mz := c_m104) (v := (Option.map (g_v 78 ((t_G [z_10, o_10] s)).length) (some (.int 0)))) (h1 := g_h 78 (t_G [z_10, o_10] s) i18n_h4) i18n_24 rfl (x_Run.pre F1 i18n_14 (x_Run.call (mz := c_m103) (v := (Option.map (g_v 78 ((t_G [z_10, o_10] s)).length) (some (.int 0)))) (h1 := g_h 78 (t_G [z_10, o_10] s) i18n_h4) i18n_22 rfl (x_Run.pre F3 i18n_15 (x_Run.call (mz := c_m100) (v := (Option.map (g_v 78 ((t_G [z_10, o_10] s)).length) (some (.ref 79)))) (h1 := g_h 78 (t_G [z_10, o_10] s) i18n_h3) i18n_20 rfl (x_Run.pre F1 i18n_16 (x_Run.call (mz := c_m99) (v := (Option.map (g_v 78 ((t_G [z_10, o_10] s)).length) (some (.ref 78)))) (h1 := g_h 78 (t_G [z_10, o_10] s) i18n_h2) i18n_18 rfl (x_Run.pre F1 i18n_17 (i18n_thought hs)) (x_Run.fing (n := 78) (t_G [z_10, o_10] s) F1 (by decide) i18n_19))) (x_Run.fing (n := 78) (t_G [z_10, o_10] s) F4 (by decide) i18n_21))) (x_Run.fing (n := 78) (t_G [z_10, o_10] s) F1 (by decide) i18n_23))) (x_Run.fing (n := 78) (t_G [z_10, o_10] s) F1 (by decide) i18n_25))))) (by rw [s_lenH, g_lenH (by decide), t_G_l, show i18n_h4.length = 80 from rfl]; show 80 + s * 2 ≤ 927443; omega) (by rw [s_msz, g_msz, t_G_m, show c_msz i18n_h4 = 2024 from by decide +kernel, show c_msz [z_10, o_10] = 20 from rfl]; omega)
def i18p_h0 : c_Hp := [some (.inl (10, [.ref 1, .ref 4, .ref 23, .ref 25, .ref 28, .ref 31, .ref 34, .ref 37, .ref 39, .ref 41, .ref 52, .ref 55])),
  some (.inl (6, [.ref 2, .ref 3, .int 10, .int 0])),
  some (.inr (0, List.replicate 60 (.int 1))),
  some (.inr (0, List.replicate 60 (.int 0))),
  some (.inl (4, [.ref 5, .ref 14, .int 0, .int 0])),
  some (.inr (2, [.ref 6, .ref 7, .ref 8, .ref 9, .ref 10, .ref 11, .ref 12, .ref 13])),
  some (.inr (0, List.replicate 60 (.int 0))),
  some (.inr (0, List.replicate 60 (.int 0))),
  some (.inr (0, List.replicate 60 (.int 0))),
  some (.inr (0, List.replicate 60 (.int 0))),
  some (.inr (0, List.replicate 60 (.int 0))),
  some (.inr (0, List.replicate 60 (.int 0))),
  some (.inr (0, List.replicate 60 (.int 0))),
  some (.inr (0, List.replicate 60 (.int 0))),
  some (.inr (2, [.ref 15, .ref 16, .ref 17, .ref 18, .ref 19, .ref 20, .ref 21, .ref 22])),
  some (.inr (0, List.replicate 60 (.int 0))),
  some (.inr (0, List.replicate 60 (.int 0))),
  some (.inr (0, List.replicate 60 (.int 0))),
  some (.inr (0, List.replicate 60 (.int 0))),
  some (.inr (0, List.replicate 60 (.int 0))),
  some (.inr (0, List.replicate 60 (.int 0))),
  some (.inr (0, List.replicate 60 (.int 0))),
  some (.inr (0, List.replicate 60 (.int 0))),
  some (.inl (0, [.ref 24, .int 0])),
  some (.inr (0, List.replicate 60 (.int 0))),
  some (.inl (3, [.ref 26, .ref 27, .int 0])),
  some (.inr (0, List.replicate 120 (.int 0))),
  some (.inr (0, List.replicate 60 (.int 0))),
  some (.inl (7, [.ref 29, .ref 30, .int 0, .int 0])),
  some (.inr (0, List.replicate 60 (.int 0))),
  some (.inr (0, List.replicate 60 (.int 0))),
  some (.inl (8, [.ref 32, .ref 33])),
  some (.inr (0, [.int 0, .int 0, .int 0])),
  some (.inr (0, [.int 0, .int 0, .int 0])),
  some (.inl (1, [.ref 35, .ref 36, .int 0])),
  some (.inr (0, List.replicate 5 (.int 0))),
  some (.inr (0, List.replicate 5 (.int 0))),
  some (.inl (9, [.ref 38, .int 0])),
  some (.inr (0, List.replicate 6 (.int 0))),
  some (.inl (2, [.ref 40])),
  some (.inr (1, List.replicate 64 (.long 0))),
  some (.inl (5, [.ref 42, .ref 51])),
  some (.inr (2, [.ref 43, .ref 44, .ref 45, .ref 46, .ref 47, .ref 48, .ref 49, .ref 50])),
  some (.inr (0, List.replicate 6 (.int 0))),
  some (.inr (0, List.replicate 6 (.int 0))),
  some (.inr (0, List.replicate 6 (.int 0))),
  some (.inr (0, List.replicate 6 (.int 0))),
  some (.inr (0, List.replicate 6 (.int 0))),
  some (.inr (0, List.replicate 6 (.int 0))),
  some (.inr (0, List.replicate 6 (.int 0))),
  some (.inr (0, List.replicate 6 (.int 0))),
  some (.inr (0, List.replicate 6 (.int 0))),
  some (.inl (6, [.ref 53, .ref 54, .int 1, .int 0])),
  some (.inr (0, List.replicate 60 (.int 0))),
  some (.inr (0, List.replicate 60 (.int 0))),
  some (.inl (6, [.ref 56, .ref 57, .int 1, .int 0])),
  some (.inr (0, List.replicate 60 (.int 0))),
  some (.inr (0, List.replicate 60 (.int 0))),
  some (.inl (11, [.ref 59, .ref 60, .int 0, .ref 61, .ref 62, .ref 63, .ref 64, .int 0, .ref 65, .int 0, .ref 66, .int 0, .int 0])),
  some (.inr (0, List.replicate 10 (.int 1))),
  some (.inr (0, List.replicate 10 (.int 0))),
  some (.inl (12, [.int 0, .retAddr 1, .int 0])),
  some (.inl (12, [.int 0, .retAddr 1, .int 0])),
  some (.inr (0, List.replicate 5 (.int 0))),
  some (.inr (0, List.replicate 5 (.int 0))),
  some (.inr (0, List.replicate 6 (.int 0))),
  some (.inr (2, [.ref 67, .ref 68, .ref 69, .ref 70, .ref 71, .ref 72, .ref 73, .ref 74])),
  some (.inr (0, List.replicate 6 (.int 0))),
  some (.inr (0, List.replicate 6 (.int 0))),
  some (.inr (0, List.replicate 6 (.int 0))),
  some (.inr (0, List.replicate 6 (.int 0))),
  some (.inr (0, List.replicate 6 (.int 0))),
  some (.inr (0, List.replicate 6 (.int 0))),
  some (.inr (0, List.replicate 6 (.int 0))),
  some (.inr (0, List.replicate 6 (.int 0))),
  some (.inr (1, [.long 0])),
  some (.inr (5, [.double 0]))]
def i18p_h1 : c_Hp := [some (.inl (10, [.ref 1, .ref 4, .ref 23, .ref 25, .ref 28, .ref 31, .ref 34, .ref 37, .ref 39, .ref 41, .ref 52, .ref 55])),
  some (.inl (6, [.ref 2, .ref 3, .int 10, .int 0])),
  some (.inr (0, List.replicate 60 (.int 1))),
  some (.inr (0, List.replicate 60 (.int 0))),
  some (.inl (4, [.ref 5, .ref 14, .int 0, .int 0])),
  some (.inr (2, [.ref 6, .ref 7, .ref 8, .ref 9, .ref 10, .ref 11, .ref 12, .ref 13])),
  some (.inr (0, List.replicate 60 (.int 0))),
  some (.inr (0, List.replicate 60 (.int 0))),
  some (.inr (0, List.replicate 60 (.int 0))),
  some (.inr (0, List.replicate 60 (.int 0))),
  some (.inr (0, List.replicate 60 (.int 0))),
  some (.inr (0, List.replicate 60 (.int 0))),
  some (.inr (0, List.replicate 60 (.int 0))),
  some (.inr (0, List.replicate 60 (.int 0))),
  some (.inr (2, [.ref 15, .ref 16, .ref 17, .ref 18, .ref 19, .ref 20, .ref 21, .ref 22])),
  some (.inr (0, List.replicate 60 (.int 0))),
  some (.inr (0, List.replicate 60 (.int 0))),
  some (.inr (0, List.replicate 60 (.int 0))),
  some (.inr (0, List.replicate 60 (.int 0))),
  some (.inr (0, List.replicate 60 (.int 0))),
  some (.inr (0, List.replicate 60 (.int 0))),
  some (.inr (0, List.replicate 60 (.int 0))),
  some (.inr (0, List.replicate 60 (.int 0))),
  some (.inl (0, [.ref 24, .int 0])),
  some (.inr (0, List.replicate 60 (.int 0))),
  some (.inl (3, [.ref 26, .ref 27, .int 0])),
  some (.inr (0, List.replicate 120 (.int 0))),
  some (.inr (0, List.replicate 60 (.int 0))),
  some (.inl (7, [.ref 29, .ref 30, .int 0, .int 0])),
  some (.inr (0, List.replicate 60 (.int 0))),
  some (.inr (0, List.replicate 60 (.int 0))),
  some (.inl (8, [.ref 32, .ref 33])),
  some (.inr (0, [.int 0, .int 0, .int 0])),
  some (.inr (0, [.int 0, .int 0, .int 0])),
  some (.inl (1, [.ref 35, .ref 36, .int 0])),
  some (.inr (0, List.replicate 5 (.int 0))),
  some (.inr (0, List.replicate 5 (.int 0))),
  some (.inl (9, [.ref 38, .int 0])),
  some (.inr (0, List.replicate 6 (.int 0))),
  some (.inl (2, [.ref 40])),
  some (.inr (1, List.replicate 64 (.long 0))),
  some (.inl (5, [.ref 42, .ref 51])),
  some (.inr (2, [.ref 43, .ref 44, .ref 45, .ref 46, .ref 47, .ref 48, .ref 49, .ref 50])),
  some (.inr (0, List.replicate 6 (.int 0))),
  some (.inr (0, List.replicate 6 (.int 0))),
  some (.inr (0, List.replicate 6 (.int 0))),
  some (.inr (0, List.replicate 6 (.int 0))),
  some (.inr (0, List.replicate 6 (.int 0))),
  some (.inr (0, List.replicate 6 (.int 0))),
  some (.inr (0, List.replicate 6 (.int 0))),
  some (.inr (0, List.replicate 6 (.int 0))),
  some (.inr (0, List.replicate 6 (.int 0))),
  some (.inl (6, [.ref 53, .ref 54, .int 1, .int 0])),
  some (.inr (0, List.replicate 60 (.int 0))),
  some (.inr (0, List.replicate 60 (.int 0))),
  some (.inl (6, [.ref 56, .ref 57, .int 1, .int 0])),
  some (.inr (0, List.replicate 60 (.int 0))),
  some (.inr (0, List.replicate 60 (.int 0))),
  some (.inl (11, [.ref 59, .ref 60, .int 0, .ref 61, .ref 62, .ref 63, .ref 64, .int 0, .ref 65, .int 0, .ref 66, .int 0, .int 0])),
  some (.inr (0, List.replicate 10 (.int 1))),
  some (.inr (0, List.replicate 10 (.int 0))),
  some (.inl (12, [.int 0, .retAddr 1, .int 0])),
  some (.inl (12, [.int 0, .retAddr 1, .int 0])),
  some (.inr (0, List.replicate 5 (.int 0))),
  some (.inr (0, List.replicate 5 (.int 0))),
  some (.inr (0, List.replicate 6 (.int 0))),
  some (.inr (2, [.ref 67, .ref 68, .ref 69, .ref 70, .ref 71, .ref 72, .ref 73, .ref 74])),
  some (.inr (0, List.replicate 6 (.int 0))),
  some (.inr (0, List.replicate 6 (.int 0))),
  some (.inr (0, List.replicate 6 (.int 0))),
  some (.inr (0, List.replicate 6 (.int 0))),
  some (.inr (0, List.replicate 6 (.int 0))),
  some (.inr (0, List.replicate 6 (.int 0))),
  some (.inr (0, List.replicate 6 (.int 0))),
  some (.inr (0, List.replicate 6 (.int 0))),
  some (.inr (1, [.long 0])),
  some (.inr (5, [.double 0])),
  none]
def i18p_h2 : c_Hp := [some (.inl (10, [.ref 1, .ref 4, .ref 23, .ref 25, .ref 28, .ref 31, .ref 34, .ref 37, .ref 39, .ref 41, .ref 52, .ref 55])),
  some (.inl (6, [.ref 2, .ref 3, .int 10, .int 0])),
  some (.inr (0, List.replicate 60 (.int 1))),
  some (.inr (0, List.replicate 60 (.int 0))),
  some (.inl (4, [.ref 5, .ref 14, .int 0, .int 0])),
  some (.inr (2, [.ref 6, .ref 7, .ref 8, .ref 9, .ref 10, .ref 11, .ref 12, .ref 13])),
  some (.inr (0, List.replicate 60 (.int 0))),
  some (.inr (0, List.replicate 60 (.int 0))),
  some (.inr (0, List.replicate 60 (.int 0))),
  some (.inr (0, List.replicate 60 (.int 0))),
  some (.inr (0, List.replicate 60 (.int 0))),
  some (.inr (0, List.replicate 60 (.int 0))),
  some (.inr (0, List.replicate 60 (.int 0))),
  some (.inr (0, List.replicate 60 (.int 0))),
  some (.inr (2, [.ref 15, .ref 16, .ref 17, .ref 18, .ref 19, .ref 20, .ref 21, .ref 22])),
  some (.inr (0, List.replicate 60 (.int 0))),
  some (.inr (0, List.replicate 60 (.int 0))),
  some (.inr (0, List.replicate 60 (.int 0))),
  some (.inr (0, List.replicate 60 (.int 0))),
  some (.inr (0, List.replicate 60 (.int 0))),
  some (.inr (0, List.replicate 60 (.int 0))),
  some (.inr (0, List.replicate 60 (.int 0))),
  some (.inr (0, List.replicate 60 (.int 0))),
  some (.inl (0, [.ref 24, .int 0])),
  some (.inr (0, List.replicate 60 (.int 0))),
  some (.inl (3, [.ref 26, .ref 27, .int 0])),
  some (.inr (0, List.replicate 120 (.int 0))),
  some (.inr (0, List.replicate 60 (.int 0))),
  some (.inl (7, [.ref 29, .ref 30, .int 0, .int 0])),
  some (.inr (0, List.replicate 60 (.int 0))),
  some (.inr (0, List.replicate 60 (.int 0))),
  some (.inl (8, [.ref 32, .ref 33])),
  some (.inr (0, [.int 0, .int 0, .int 0])),
  some (.inr (0, [.int 0, .int 0, .int 0])),
  some (.inl (1, [.ref 35, .ref 36, .int 0])),
  some (.inr (0, List.replicate 5 (.int 0))),
  some (.inr (0, List.replicate 5 (.int 0))),
  some (.inl (9, [.ref 38, .int 0])),
  some (.inr (0, List.replicate 6 (.int 0))),
  some (.inl (2, [.ref 40])),
  some (.inr (1, List.replicate 64 (.long 0))),
  some (.inl (5, [.ref 42, .ref 51])),
  some (.inr (2, [.ref 43, .ref 44, .ref 45, .ref 46, .ref 47, .ref 48, .ref 49, .ref 50])),
  some (.inr (0, List.replicate 6 (.int 0))),
  some (.inr (0, List.replicate 6 (.int 0))),
  some (.inr (0, List.replicate 6 (.int 0))),
  some (.inr (0, List.replicate 6 (.int 0))),
  some (.inr (0, List.replicate 6 (.int 0))),
  some (.inr (0, List.replicate 6 (.int 0))),
  some (.inr (0, List.replicate 6 (.int 0))),
  some (.inr (0, List.replicate 6 (.int 0))),
  some (.inr (0, List.replicate 6 (.int 0))),
  some (.inl (6, [.ref 53, .ref 54, .int 1, .int 0])),
  some (.inr (0, List.replicate 60 (.int 0))),
  some (.inr (0, List.replicate 60 (.int 0))),
  some (.inl (6, [.ref 56, .ref 57, .int 1, .int 0])),
  some (.inr (0, List.replicate 60 (.int 0))),
  some (.inr (0, List.replicate 60 (.int 0))),
  some (.inl (11, [.ref 59, .ref 60, .int 0, .ref 61, .ref 62, .ref 63, .ref 64, .int 0, .ref 65, .int 0, .ref 66, .int 0, .int 0])),
  some (.inr (0, List.replicate 10 (.int 1))),
  some (.inr (0, List.replicate 10 (.int 0))),
  some (.inl (12, [.int 0, .retAddr 1, .int 0])),
  some (.inl (12, [.int 0, .retAddr 1, .int 0])),
  some (.inr (0, List.replicate 5 (.int 0))),
  some (.inr (0, List.replicate 5 (.int 0))),
  some (.inr (0, List.replicate 6 (.int 0))),
  some (.inr (2, [.ref 67, .ref 68, .ref 69, .ref 70, .ref 71, .ref 72, .ref 73, .ref 74])),
  some (.inr (0, List.replicate 6 (.int 0))),
  some (.inr (0, List.replicate 6 (.int 0))),
  some (.inr (0, List.replicate 6 (.int 0))),
  some (.inr (0, List.replicate 6 (.int 0))),
  some (.inr (0, List.replicate 6 (.int 0))),
  some (.inr (0, List.replicate 6 (.int 0))),
  some (.inr (0, List.replicate 6 (.int 0))),
  some (.inr (0, List.replicate 6 (.int 0))),
  some (.inr (1, [.long 0])),
  some (.inr (5, [.double 0])),
  none,
  some (.inr (0, List.replicate 11 (.int 0)))]
def i18p_h3 : c_Hp := [some (.inl (10, [.ref 1, .ref 4, .ref 23, .ref 25, .ref 28, .ref 31, .ref 34, .ref 37, .ref 39, .ref 41, .ref 52, .ref 55])),
  some (.inl (6, [.ref 2, .ref 3, .int 10, .int 0])),
  some (.inr (0, List.replicate 60 (.int 1))),
  some (.inr (0, List.replicate 60 (.int 0))),
  some (.inl (4, [.ref 5, .ref 14, .int 0, .int 0])),
  some (.inr (2, [.ref 6, .ref 7, .ref 8, .ref 9, .ref 10, .ref 11, .ref 12, .ref 13])),
  some (.inr (0, List.replicate 60 (.int 0))),
  some (.inr (0, List.replicate 60 (.int 0))),
  some (.inr (0, List.replicate 60 (.int 0))),
  some (.inr (0, List.replicate 60 (.int 0))),
  some (.inr (0, List.replicate 60 (.int 0))),
  some (.inr (0, List.replicate 60 (.int 0))),
  some (.inr (0, List.replicate 60 (.int 0))),
  some (.inr (0, List.replicate 60 (.int 0))),
  some (.inr (2, [.ref 15, .ref 16, .ref 17, .ref 18, .ref 19, .ref 20, .ref 21, .ref 22])),
  some (.inr (0, List.replicate 60 (.int 0))),
  some (.inr (0, List.replicate 60 (.int 0))),
  some (.inr (0, List.replicate 60 (.int 0))),
  some (.inr (0, List.replicate 60 (.int 0))),
  some (.inr (0, List.replicate 60 (.int 0))),
  some (.inr (0, List.replicate 60 (.int 0))),
  some (.inr (0, List.replicate 60 (.int 0))),
  some (.inr (0, List.replicate 60 (.int 0))),
  some (.inl (0, [.ref 24, .int 0])),
  some (.inr (0, List.replicate 60 (.int 0))),
  some (.inl (3, [.ref 26, .ref 27, .int 0])),
  some (.inr (0, List.replicate 120 (.int 0))),
  some (.inr (0, List.replicate 60 (.int 0))),
  some (.inl (7, [.ref 29, .ref 30, .int 0, .int 0])),
  some (.inr (0, List.replicate 60 (.int 0))),
  some (.inr (0, List.replicate 60 (.int 0))),
  some (.inl (8, [.ref 32, .ref 33])),
  some (.inr (0, [.int 0, .int 0, .int 0])),
  some (.inr (0, [.int 0, .int 0, .int 0])),
  some (.inl (1, [.ref 35, .ref 36, .int 0])),
  some (.inr (0, List.replicate 5 (.int 0))),
  some (.inr (0, List.replicate 5 (.int 0))),
  some (.inl (9, [.ref 38, .int 0])),
  some (.inr (0, List.replicate 6 (.int 0))),
  some (.inl (2, [.ref 40])),
  some (.inr (1, List.replicate 64 (.long 0))),
  some (.inl (5, [.ref 42, .ref 51])),
  some (.inr (2, [.ref 43, .ref 44, .ref 45, .ref 46, .ref 47, .ref 48, .ref 49, .ref 50])),
  some (.inr (0, List.replicate 6 (.int 0))),
  some (.inr (0, List.replicate 6 (.int 0))),
  some (.inr (0, List.replicate 6 (.int 0))),
  some (.inr (0, List.replicate 6 (.int 0))),
  some (.inr (0, List.replicate 6 (.int 0))),
  some (.inr (0, List.replicate 6 (.int 0))),
  some (.inr (0, List.replicate 6 (.int 0))),
  some (.inr (0, List.replicate 6 (.int 0))),
  some (.inr (0, List.replicate 6 (.int 0))),
  some (.inl (6, [.ref 53, .ref 54, .int 1, .int 0])),
  some (.inr (0, List.replicate 60 (.int 0))),
  some (.inr (0, List.replicate 60 (.int 0))),
  some (.inl (6, [.ref 56, .ref 57, .int 1, .int 0])),
  some (.inr (0, List.replicate 60 (.int 0))),
  some (.inr (0, List.replicate 60 (.int 0))),
  some (.inl (11, [.ref 59, .ref 60, .int 0, .ref 61, .ref 62, .ref 63, .ref 64, .int 0, .ref 65, .int 0, .ref 66, .int 0, .int 0])),
  some (.inr (0, List.replicate 10 (.int 1))),
  some (.inr (0, List.replicate 10 (.int 0))),
  some (.inl (12, [.int 0, .retAddr 1, .int 0])),
  some (.inl (12, [.int 0, .retAddr 1, .int 0])),
  some (.inr (0, List.replicate 5 (.int 0))),
  some (.inr (0, List.replicate 5 (.int 0))),
  some (.inr (0, List.replicate 6 (.int 0))),
  some (.inr (2, [.ref 67, .ref 68, .ref 69, .ref 70, .ref 71, .ref 72, .ref 73, .ref 74])),
  some (.inr (0, List.replicate 6 (.int 0))),
  some (.inr (0, List.replicate 6 (.int 0))),
  some (.inr (0, List.replicate 6 (.int 0))),
  some (.inr (0, List.replicate 6 (.int 0))),
  some (.inr (0, List.replicate 6 (.int 0))),
  some (.inr (0, List.replicate 6 (.int 0))),
  some (.inr (0, List.replicate 6 (.int 0))),
  some (.inr (0, List.replicate 6 (.int 0))),
  some (.inr (1, [.long 0])),
  some (.inr (5, [.double 0])),
  none,
  some (.inr (0, List.replicate 11 (.int 0))),
  some (.inl (12, [.int 0, .retAddr 1, .int 0]))]
def i18p_h4 : c_Hp := [some (.inl (10, [.ref 1, .ref 4, .ref 23, .ref 25, .ref 28, .ref 31, .ref 34, .ref 37, .ref 39, .ref 41, .ref 52, .ref 55])),
  some (.inl (6, [.ref 2, .ref 3, .int 10, .int 0])),
  some (.inr (0, List.replicate 60 (.int 1))),
  some (.inr (0, List.replicate 60 (.int 0))),
  some (.inl (4, [.ref 5, .ref 14, .int 0, .int 0])),
  some (.inr (2, [.ref 6, .ref 7, .ref 8, .ref 9, .ref 10, .ref 11, .ref 12, .ref 13])),
  some (.inr (0, List.replicate 60 (.int 0))),
  some (.inr (0, List.replicate 60 (.int 0))),
  some (.inr (0, List.replicate 60 (.int 0))),
  some (.inr (0, List.replicate 60 (.int 0))),
  some (.inr (0, List.replicate 60 (.int 0))),
  some (.inr (0, List.replicate 60 (.int 0))),
  some (.inr (0, List.replicate 60 (.int 0))),
  some (.inr (0, List.replicate 60 (.int 0))),
  some (.inr (2, [.ref 15, .ref 16, .ref 17, .ref 18, .ref 19, .ref 20, .ref 21, .ref 22])),
  some (.inr (0, List.replicate 60 (.int 0))),
  some (.inr (0, List.replicate 60 (.int 0))),
  some (.inr (0, List.replicate 60 (.int 0))),
  some (.inr (0, List.replicate 60 (.int 0))),
  some (.inr (0, List.replicate 60 (.int 0))),
  some (.inr (0, List.replicate 60 (.int 0))),
  some (.inr (0, List.replicate 60 (.int 0))),
  some (.inr (0, List.replicate 60 (.int 0))),
  some (.inl (0, [.ref 24, .int 0])),
  some (.inr (0, List.replicate 60 (.int 0))),
  some (.inl (3, [.ref 26, .ref 27, .int 0])),
  some (.inr (0, List.replicate 120 (.int 0))),
  some (.inr (0, List.replicate 60 (.int 0))),
  some (.inl (7, [.ref 29, .ref 30, .int 0, .int 0])),
  some (.inr (0, List.replicate 60 (.int 0))),
  some (.inr (0, List.replicate 60 (.int 0))),
  some (.inl (8, [.ref 32, .ref 33])),
  some (.inr (0, [.int 0, .int 0, .int 0])),
  some (.inr (0, [.int 0, .int 0, .int 0])),
  some (.inl (1, [.ref 35, .ref 36, .int 0])),
  some (.inr (0, List.replicate 5 (.int 0))),
  some (.inr (0, List.replicate 5 (.int 0))),
  some (.inl (9, [.ref 38, .int 0])),
  some (.inr (0, List.replicate 6 (.int 0))),
  some (.inl (2, [.ref 40])),
  some (.inr (1, List.replicate 64 (.long 0))),
  some (.inl (5, [.ref 42, .ref 51])),
  some (.inr (2, [.ref 43, .ref 44, .ref 45, .ref 46, .ref 47, .ref 48, .ref 49, .ref 50])),
  some (.inr (0, List.replicate 6 (.int 0))),
  some (.inr (0, List.replicate 6 (.int 0))),
  some (.inr (0, List.replicate 6 (.int 0))),
  some (.inr (0, List.replicate 6 (.int 0))),
  some (.inr (0, List.replicate 6 (.int 0))),
  some (.inr (0, List.replicate 6 (.int 0))),
  some (.inr (0, List.replicate 6 (.int 0))),
  some (.inr (0, List.replicate 6 (.int 0))),
  some (.inr (0, List.replicate 6 (.int 0))),
  some (.inl (6, [.ref 53, .ref 54, .int 1, .int 0])),
  some (.inr (0, List.replicate 60 (.int 0))),
  some (.inr (0, List.replicate 60 (.int 0))),
  some (.inl (6, [.ref 56, .ref 57, .int 1, .int 0])),
  some (.inr (0, List.replicate 60 (.int 0))),
  some (.inr (0, List.replicate 60 (.int 0))),
  some (.inl (11, [.ref 59, .ref 60, .int 0, .ref 61, .ref 62, .ref 63, .ref 64, .int 0, .ref 65, .int 0, .ref 66, .int 0, .int 3])),
  some (.inr (0, List.replicate 10 (.int 1))),
  some (.inr (0, List.replicate 10 (.int 0))),
  some (.inl (12, [.int 0, .retAddr 1, .int 0])),
  some (.inl (12, [.int 0, .retAddr 1, .int 0])),
  some (.inr (0, List.replicate 5 (.int 0))),
  some (.inr (0, List.replicate 5 (.int 0))),
  some (.inr (0, List.replicate 6 (.int 0))),
  some (.inr (2, [.ref 67, .ref 68, .ref 69, .ref 70, .ref 71, .ref 72, .ref 73, .ref 74])),
  some (.inr (0, List.replicate 6 (.int 0))),
  some (.inr (0, List.replicate 6 (.int 0))),
  some (.inr (0, List.replicate 6 (.int 0))),
  some (.inr (0, List.replicate 6 (.int 0))),
  some (.inr (0, List.replicate 6 (.int 0))),
  some (.inr (0, List.replicate 6 (.int 0))),
  some (.inr (0, List.replicate 6 (.int 0))),
  some (.inr (0, List.replicate 6 (.int 0))),
  some (.inr (1, [.long 0])),
  some (.inr (5, [.double 0])),
  none,
  some (.inr (0, List.replicate 11 (.int 0))),
  some (.inl (12, [.int 0, .retAddr 1, .int 0]))]
theorem i18p_1 : c_pre ([(3, .retAddr 10, .int 63, .int 18)], x_xs) 38 c_m259 18 38 [some (.retAddr 0), some (.ref 0), some (.ref 58), some (.ref 75), some (.ref 76), some (.int 0), none, none, none] [] i18p_h0 = some (1243, [some (.retAddr 0), some (.ref 0), some (.ref 58), some (.ref 75), some (.ref 76), some (.int 0), none, none, none], [.ref 75, .retAddr 12, .retAddr 11, .ref 0], i18p_h0) := c_eqR_ok (by decide +kernel)
theorem i18p_2 : c_pre ([], x_xs) 25 c_m208 5 0 [some (.ref 0), some (.retAddr 11), some (.retAddr 12), some (.ref 75), none] [] i18p_h0 = some (5, [some (.ref 0), some (.retAddr 11), some (.retAddr 12), some (.ref 75), none], [.retAddr 12, .retAddr 11, .ref 0, .int 0, .ref 75], i18p_h0) := c_eqR_ok (by decide +kernel)
theorem i18p_3 : c_pre ([], x_xs) 22 c_m19 2 0 [some (.ref 0), some (.retAddr 11), some (.retAddr 12)] [] i18p_h0 = some (2, [some (.ref 0), some (.retAddr 11), some (.retAddr 12)], [.retAddr 11, .ref 0], i18p_h0) := c_eqR_ok (by decide +kernel)
theorem i18p_4 : c_pre ([(22, .retAddr 11, .int 0, .int 0), (25, .retAddr 11, .int 99, .int 1)], x_xs) 175 c_m51 11 0 [some (.ref 0), some (.retAddr 11)] [] i18p_h0 = some (20, [some (.ref 0), some (.retAddr 11)], [.retAddr 11, .ref 1, .ref 28], i18p_h0) := c_eqR_ok (by decide +kernel)
theorem i18p_5 : c_pre ([], x_xs) 141 c_m179 121 0 [some (.ref 28), some (.ref 1), some (.retAddr 11), none] [] i18p_h0 = some (52, [some (.ref 28), some (.ref 1), some (.retAddr 11), some (.int 0)], [], i18p_h0) := c_eqR_ok (by decide +kernel)
theorem i18p_6 : c_callee c_m51 20 [.retAddr 11, .ref 1, .ref 28] i18p_h0 = some (179, [some (.ref 28), some (.ref 1), some (.retAddr 11), none], []) := c_eqC_ok (by decide +kernel)
theorem i18p_7 : c_go c_P ([], x_xs) 21 c_m51 23 [some (.ref 0), some (.retAddr 11)] [] i18p_h0 = some (.inl none, i18p_h0) := c_eqO_ok (by decide +kernel)
theorem i18p_8 : c_callee c_m19 2 [.retAddr 11, .ref 0] i18p_h0 = some (51, [some (.ref 0), some (.retAddr 11)], []) := c_eqC_ok (by decide +kernel)
theorem i18p_9 : c_go c_P ([], x_xs) 43 c_m19 5 [some (.ref 0), some (.retAddr 11), some (.retAddr 12)] [] i18p_h0 = some (.inr 3, i18p_h1) := c_eqX_ok (by decide +kernel)
theorem i18p_10 : c_callee c_m208 5 [.retAddr 12, .retAddr 11, .ref 0, .int 0, .ref 75] i18p_h0 = some (19, [some (.ref 0), some (.retAddr 11), some (.retAddr 12)], [.int 0, .ref 75]) := c_eqC_ok (by decide +kernel)
theorem i18p_10x : c_catS c_m208 5 3 [some (.ref 0), some (.retAddr 11), some (.retAddr 12), some (.ref 75), none] = some (23, [some (.ref 0), some (.retAddr 11), some (.retAddr 12), some (.ref 75), none]) := c_eqS_ok (by decide +kernel)
theorem i18p_11 : c_go c_P ([], x_xs) 22 c_m208 23 [some (.ref 0), some (.retAddr 11), some (.retAddr 12), some (.ref 75), none] [] i18p_h1 = some (.inl (some (.int 3)), i18p_h1) := c_eqO_ok (by decide +kernel)
theorem i18p_12 : c_callee c_m259 1243 [.ref 75, .retAddr 12, .retAddr 11, .ref 0] i18p_h0 = some (208, [some (.ref 0), some (.retAddr 11), some (.retAddr 12), some (.ref 75), none], []) := c_eqC_ok (by decide +kernel)
theorem i18p_13 : c_pre ([], x_xs) 32 c_m259 12 1246 [some (.retAddr 0), some (.ref 0), some (.ref 58), some (.ref 75), some (.ref 76), some (.int 0), none, none, none] [.int 3] i18p_h1 = some (1261, [some (.retAddr 0), some (.ref 0), some (.ref 58), some (.ref 75), some (.ref 76), some (.int 0), some (.int 3), none, none], [.retAddr 12, .retAddr 11, .ref 58], i18p_h1) := c_eqR_ok (by decide +kernel)
theorem i18p_14 : c_pre ([], x_xs) 24 c_m104 4 0 [some (.ref 58), some (.retAddr 11), some (.retAddr 12)] [] i18p_h1 = some (4, [some (.ref 58), some (.retAddr 11), some (.retAddr 12)], [.int 1, .retAddr 12, .retAddr 11, .ref 58], i18p_h1) := c_eqR_ok (by decide +kernel)
theorem i18p_15 : c_pre ([(22, .retAddr 11, .int 0, .int 0), (24, .retAddr 11, .int 99, .int 0)], x_xs) 229 c_m103 6 0 [some (.ref 58), some (.retAddr 11), some (.retAddr 12), some (.int 1), none] [] i18p_h1 = some (12, [some (.ref 58), some (.retAddr 11), some (.retAddr 12), some (.int 1), none], [.retAddr 11, .ref 58], i18p_h1) := c_eqR_ok (by decide +kernel)
theorem i18p_16 : c_pre ([], x_xs) 22 c_m100 2 0 [some (.ref 58), some (.retAddr 11), none, none, none, none] [] i18p_h1 = some (2, [some (.ref 58), some (.retAddr 11), none, none, none, none], [.retAddr 11, .ref 58], i18p_h1) := c_eqR_ok (by decide +kernel)
theorem i18p_17 : c_pre ([], x_xs) 25 c_m99 5 0 [some (.ref 58), some (.retAddr 11), none, none, none] [] i18p_h1 = some (7, [some (.ref 58), some (.retAddr 11), some (.ref 60), some (.int 0), none], [], i18p_h1) := c_eqR_ok (by decide +kernel)
theorem i18p_18 : c_callee c_m100 2 [.retAddr 11, .ref 58] i18p_h1 = some (99, [some (.ref 58), some (.retAddr 11), none, none, none], []) := c_eqC_ok (by decide +kernel)
theorem i18p_19 : c_go c_P ([], x_xs) 270 c_m100 5 [some (.ref 58), some (.retAddr 11), none, none, none, none] [.ref 78] i18p_h2 = some (.inl (some (.ref 79)), i18p_h3) := c_eqO_ok (by decide +kernel)
theorem i18p_20 : c_callee c_m103 12 [.retAddr 11, .ref 58] i18p_h1 = some (100, [some (.ref 58), some (.retAddr 11), none, none, none, none], []) := c_eqC_ok (by decide +kernel)
theorem i18p_21 : c_go c_P ([(22, .retAddr 12, .int 0, .int 0), (24, .retAddr 12, .int (-1), .int 1)], x_xs) 57 c_m103 15 [some (.ref 58), some (.retAddr 11), some (.retAddr 12), some (.int 1), none] [.ref 79] i18p_h3 = some (.inl (some (.int 0)), i18p_h4) := c_eqO_ok (by decide +kernel)
theorem i18p_22 : c_callee c_m104 4 [.int 1, .retAddr 12, .retAddr 11, .ref 58] i18p_h1 = some (103, [some (.ref 58), some (.retAddr 11), some (.retAddr 12), some (.int 1), none], []) := c_eqC_ok (by decide +kernel)
theorem i18p_23 : c_go c_P ([], x_xs) 21 c_m104 7 [some (.ref 58), some (.retAddr 11), some (.retAddr 12)] [.int 0] i18p_h4 = some (.inl (some (.int 0)), i18p_h4) := c_eqO_ok (by decide +kernel)
theorem i18p_24 : c_callee c_m259 1261 [.retAddr 12, .retAddr 11, .ref 58] i18p_h1 = some (104, [some (.ref 58), some (.retAddr 11), some (.retAddr 12)], []) := c_eqC_ok (by decide +kernel)
theorem i18p_25 : c_go c_P ([], x_xs) 41 c_m259 1264 [some (.retAddr 0), some (.ref 0), some (.ref 58), some (.ref 75), some (.ref 76), some (.int 0), some (.int 3), none, none] [.int 0] i18p_h4 = some (.inl (some (.int 1)), i18p_h4) := c_eqO_ok (by decide +kernel)
theorem i18p_w : c_pre ([(23, .retAddr 16, .retAddr 11, .int 0), (0, .retAddr 16, .int 1, .retAddr 17)], x_xs) 100 c_m179 7 52 [some (.ref 28), some (.ref 1), some (.retAddr 11), some (.retAddr 16)] [] i18p_h0 = some (52, [some (.ref 28), some (.ref 1), some (.retAddr 11), some (.retAddr 17)], [], i18p_h0) := c_eqR_ok (by decide +kernel)
theorem i18p_wx : c_go c_P ([(23, .retAddr 16, .retAddr 11, .int 1)], x_xs) 100 c_m179 52 [some (.ref 28), some (.ref 1), some (.retAddr 11), some (.retAddr 16)] [] i18p_h0 = some (.inl none, i18p_h0) := c_eqO_ok (by decide +kernel)
theorem i18p_walk {a0 a2 a3 a4 a5 : Int32} {s : Nat} (hs : s < 100) : ∀ (j i : Nat), i + j = s → c_T [a0, Int32.ofNat s, a2, a3, a4, a5] c_m179 52 [some (.ref 28), some (.ref 1), some (.int (Int32.ofNat s)), some (.int (Int32.ofNat i))] [] i18p_h0 (.inl none, i18p_h0)
  | 0, i, e => by
    have F : ∀ f ∈ ([(23, .retAddr 16, .retAddr 11, .int 1)] : List c_F), c_hold (c_BB [a0, Int32.ofNat s, a2, a3, a4, a5] [Int32.ofNat i]) f := (List.forall_mem_cons.mpr ⟨o_ge1 (i := i) (s := s) rfl rfl (by omega) (by omega) (by omega), fun _ h => nomatch h⟩)
    exact (x_Run.fin F i18p_wx).t rfl rfl rfl rfl
  | j + 1, i, e => by
    have F : ∀ f ∈ ([(23, .retAddr 16, .retAddr 11, .int 0), (0, .retAddr 16, .int 1, .retAddr 17)] : List c_F), c_hold (c_BB [a0, Int32.ofNat s, a2, a3, a4, a5] [Int32.ofNat i, Int32.ofNat (i + 1)]) f := (List.forall_mem_cons.mpr ⟨o_ge (i := i) (s := s) rfl rfl (by omega) (by omega) (by omega), List.forall_mem_cons.mpr ⟨o_inc (i := i) rfl rfl, fun _ h => nomatch h⟩⟩)
    have ih := i18p_walk (a0 := a0) (a2 := a2) (a3 := a3) (a4 := a4) (a5 := a5) hs j (i + 1) (by omega)
    exact (x_Run.pre F i18p_w (ih.x (x := [Int32.ofNat i, Int32.ofNat (i + 1)]) rfl rfl rfl)).t rfl rfl rfl rfl
theorem i18p_t0 : c_pre ([(23, .int 0, .retAddr 11, .int 0)], x_xs) 1000 c_m99 22 7 [some (.ref 58), some (.retAddr 11), some (.ref 60), some (.int 0), none] [] i18p_h1 = some (7, [some (.ref 58), some (.retAddr 11), some (.ref 78), some (.int 1), some (.int 0)], [], i18p_h1 ++ [z_10, o_10]) := c_eqR_ok (by decide +kernel)
theorem i18p_t0x : c_go c_P ([(23, .int 0, .retAddr 11, .int 1)], x_xs) 1000 c_m99 7 [some (.ref 58), some (.retAddr 11), some (.ref 60), some (.int 0), none] [] i18p_h1 = some (.inl (some (.ref 78)), i18p_h1 ++ [z_11]) := c_eqO_ok (by decide +kernel)
theorem i18p_t : c_pre ([(23, .retAddr 16, .retAddr 11, .int 0), (0, .retAddr 16, .int 1, .retAddr 17)], x_xs) 1000 c_m99 22 7 [some (.ref 58), some (.retAddr 11), some (.ref 78), some (.retAddr 16), some (.int 0)] [] (i18p_h1 ++ [z_10, o_10]) = some (7, [some (.ref 58), some (.retAddr 11), some (.ref 80), some (.retAddr 17), some (.int 0)], [], i18p_h1 ++ [z_10, o_10, z_10, o_10]) := c_eqR_ok (by decide +kernel)
theorem i18p_tx : c_go c_P ([(23, .retAddr 16, .retAddr 11, .int 1)], x_xs) 1000 c_m99 7 [some (.ref 58), some (.retAddr 11), some (.ref 78), some (.retAddr 16), some (.int 0)] [] (i18p_h1 ++ [z_10, o_10]) = some (.inl (some (.ref 80)), i18p_h1 ++ [z_10, o_10, z_11]) := c_eqO_ok (by decide +kernel)
theorem i18p_gh (G t : c_Hp) (ht : ∀ d, t.map (g_c 78 d) = t) {a0 a1 a2 a3 a4 a5 : Int32} {x : List Int32} (hG : s_h (c_BB [a0, a1, a2, a3, a4, a5] x) G = G) (h2 : s_h (c_BB [a0, a1, a2, a3, a4, a5] x) t = t) : s_h (c_BB [a0, a1, a2, a3, a4, a5] x) (g_h 78 G (i18p_h1 ++ t)) = i18p_h1 ++ (G ++ t) := by
  have h1 : ∀ a b : c_Hp, s_h (c_BB [a0, a1, a2, a3, a4, a5] x) (a ++ b) = s_h (c_BB [a0, a1, a2, a3, a4, a5] x) a ++ s_h (c_BB [a0, a1, a2, a3, a4, a5] x) b := fun a b => List.map_append
  have e1 : i18p_h1.map (g_c 78 G.length) = i18p_h1 := rfl
  have e2 : s_h (c_BB [a0, a1, a2, a3, a4, a5] x) i18p_h1 = i18p_h1 := rfl
  rw [g_h_s (show i18p_h1.length = 78 from rfl), e1, ht, h1, h1, hG, h2, e2]
theorem i18p_th {a0 a2 a3 a4 a5 : Int32} {s : Nat} (hs : s < 100) : ∀ (j i : Nat), i + 1 + j = s → c_T [a0, Int32.ofNat s, a2, a3, a4, a5] c_m99 7 [some (.ref 58), some (.int (Int32.ofNat s)), some (.ref (78 + (t_G [z_10, o_10] i).length)), some (.int (Int32.ofNat (i + 1))), some (.int 0)] [] (i18p_h1 ++ (t_G [z_10, o_10] i ++ [z_10, o_10])) (.inl (some (.ref (78 + (t_G [z_10, o_10] s).length))), i18p_h1 ++ (t_G [z_10, o_10] s ++ [z_11]))
  | 0, i, e => by
    have F : ∀ f ∈ ([(23, .retAddr 16, .retAddr 11, .int 1)] : List c_F), c_hold (c_BB [a0, Int32.ofNat s, a2, a3, a4, a5] [Int32.ofNat (i + 1)]) f := (List.forall_mem_cons.mpr ⟨o_ge1 (i := i + 1) (s := s) rfl rfl (by omega) (by omega) (by omega), fun _ h => nomatch h⟩)
    refine (x_Run.fing (n := 78) (t_G [z_10, o_10] i) F (by decide) i18p_tx).t rfl rfl (i18p_gh _ _ (fun _ => rfl) (t_G_b _ rfl i) rfl) ?_
    rw [i18p_gh _ _ (fun _ => rfl) (t_G_b _ rfl i) rfl]
    have e0 : s = i + 1 := by omega
    subst e0
    rw [t_G_s, List.length_append, List.append_assoc]
    show (Sum.inl (some (Value.ref (g_p 78 (t_G [z_10, o_10] i).length 80))), _) = (Sum.inl (some (Value.ref (78 + ((t_G [z_10, o_10] i).length + 2)))), _)
    have e1 : g_p 78 (t_G [z_10, o_10] i).length 80 = 78 + ((t_G [z_10, o_10] i).length + 2) := by
      unfold g_p
      rw [if_neg (by decide)]
      omega
    rw [e1]
    rfl
  | j + 1, i, e => by
    have F : ∀ f ∈ ([(23, .retAddr 16, .retAddr 11, .int 0), (0, .retAddr 16, .int 1, .retAddr 17)] : List c_F), c_hold (c_BB [a0, Int32.ofNat s, a2, a3, a4, a5] [Int32.ofNat (i + 1), Int32.ofNat (i + 1 + 1)]) f := (List.forall_mem_cons.mpr ⟨o_ge (i := i + 1) (s := s) rfl rfl (by omega) (by omega) (by omega), List.forall_mem_cons.mpr ⟨o_inc (i := i + 1) rfl rfl, fun _ h => nomatch h⟩⟩)
    have ih := i18p_th (a0 := a0) (a2 := a2) (a3 := a3) (a4 := a4) (a5 := a5) hs j (i + 1) (by omega)
    refine (x_Run.preg (n := 78) (t_G [z_10, o_10] i) F (by decide) i18p_t (ih.x (x := [Int32.ofNat (i + 1), Int32.ofNat (i + 1 + 1)]) ?_ rfl ?_)).t rfl rfl (i18p_gh _ _ (fun _ => rfl) (t_G_b _ rfl i) rfl) rfl
    · have e1 : g_p 78 (t_G [z_10, o_10] i).length 80 = 78 + (t_G [z_10, o_10] (i + 1)).length := by
        unfold g_p
        rw [if_neg (by decide), t_G_s, List.length_append]
        show _ = 78 + ((t_G [z_10, o_10] i).length + 2)
        omega
      rw [← e1]
      rfl
    · rw [i18p_gh _ _ (fun _ => rfl) (t_G_b _ rfl i) rfl, t_G_s, List.append_assoc]
      rfl
theorem i18p_thought {a0 a2 a3 a4 a5 : Int32} {s : Nat} (hs : s < 100) : x_Run (c_BB [a0, Int32.ofNat s, a2, a3, a4, a5] []) x_xs c_m99 7 [some (.ref 58), some (.retAddr 11), some (.ref 60), some (.int 0), none] [] i18p_h1 (.inl ((Option.map (g_v 78 (t_G [z_10, o_10] s).length) (some (.ref 78))).map (s_v (c_BB [a0, Int32.ofNat s, a2, a3, a4, a5] []))), s_h (c_BB [a0, Int32.ofNat s, a2, a3, a4, a5] []) (g_h 78 (t_G [z_10, o_10] s) i18p_h2)) := by
  have er : ((.inl (some (.ref (78 + (t_G [z_10, o_10] s).length))), i18p_h1 ++ (t_G [z_10, o_10] s ++ [z_11])) : c_O × c_Hp) = (.inl ((Option.map (g_v 78 (t_G [z_10, o_10] s).length) (some (.ref 78))).map (s_v (c_BB [a0, Int32.ofNat s, a2, a3, a4, a5] []))), s_h (c_BB [a0, Int32.ofNat s, a2, a3, a4, a5] []) (g_h 78 (t_G [z_10, o_10] s) i18p_h2)) := by
    rw [show i18p_h2 = i18p_h1 ++ [z_11] from rfl, i18p_gh _ _ (fun _ => rfl) (t_G_b _ rfl s) rfl]
    rfl
  rw [← er]
  match s, hs with
  | 0, hs =>
    have F : ∀ f ∈ ([(23, .int 0, .retAddr 11, .int 1)] : List c_F), c_hold (c_BB [a0, Int32.ofNat 0, a2, a3, a4, a5] []) f := List.forall_mem_cons.mpr ⟨o_ge1 (i := 0) (s := 0) rfl rfl (by omega) (by omega) (by omega), fun _ h => nomatch h⟩
    exact x_Run.fin F i18p_t0x
  | s + 1, hs =>
    have F : ∀ f ∈ ([(23, .int 0, .retAddr 11, .int 0)] : List c_F), c_hold (c_BB [a0, Int32.ofNat (s + 1), a2, a3, a4, a5] []) f := List.forall_mem_cons.mpr ⟨o_ge (i := 0) (s := s + 1) rfl rfl (by omega) (by omega) (by omega), fun _ h => nomatch h⟩
    exact x_Run.pre F i18p_t0 ((i18p_th hs s 0 (by omega)).x rfl rfl rfl)
theorem i18p_all {a0 a2 a3 a4 a5 : Int32} {s : Nat} (hs : s < 100) (h0 : a0 &&& 63 = 18) (r0 : 0 ≤ (Int32.ofNat s).toInt) (r1 : (Int32.ofNat s).toInt ≤ 99) (r2 : 0 ≤ a2.toInt) : c_Goal [a0, Int32.ofNat s, a2, a3, a4, a5] := by
  have F0 : ∀ f ∈ ([(3, .retAddr 10, .int 63, .int 18)] : List c_F), c_hold (c_BB [a0, Int32.ofNat s, a2, a3, a4, a5] []) f := (List.forall_mem_cons.mpr ⟨⟨a0, 63, 18, rfl, rfl, congrArg some h0, rfl⟩, (fun _ h => nomatch h)⟩)
  have F1 : ∀ f ∈ ([] : List c_F), c_hold (c_BB [a0, Int32.ofNat s, a2, a3, a4, a5] []) f := (fun _ h => nomatch h)
  have F2 : ∀ f ∈ ([(22, .retAddr 11, .int 0, .int 0), (25, .retAddr 11, .int 99, .int 1)] : List c_F), c_hold (c_BB [a0, Int32.ofNat s, a2, a3, a4, a5] []) f := (List.forall_mem_cons.mpr ⟨f_cmp (cd := .lt) (a := (Int32.ofNat s)) (b := 0) (t := false) rfl rfl ((k_lt rfl (by decide : (0 : Int32).toInt = 0)).trans (decide_eq_false (by omega))), (List.forall_mem_cons.mpr ⟨f_cmp (cd := .le) (a := (Int32.ofNat s)) (b := 99) (t := true) rfl rfl ((k_le rfl (by decide : (99 : Int32).toInt = 99)).trans (decide_eq_true (by omega))), (fun _ h => nomatch h)⟩)⟩)
  have F3 : ∀ f ∈ ([(22, .retAddr 11, .int 0, .int 0), (24, .retAddr 11, .int 99, .int 0)] : List c_F), c_hold (c_BB [a0, Int32.ofNat s, a2, a3, a4, a5] []) f := (List.forall_mem_cons.mpr ⟨f_cmp (cd := .lt) (a := (Int32.ofNat s)) (b := 0) (t := false) rfl rfl ((k_lt rfl (by decide : (0 : Int32).toInt = 0)).trans (decide_eq_false (by omega))), (List.forall_mem_cons.mpr ⟨f_cmp (cd := .gt) (a := (Int32.ofNat s)) (b := 99) (t := false) rfl rfl ((k_gt rfl (by decide : (99 : Int32).toInt = 99)).trans (decide_eq_false (by omega))), (fun _ h => nomatch h)⟩)⟩)
  have F4 : ∀ f ∈ ([(22, .retAddr 12, .int 0, .int 0), (24, .retAddr 12, .int (-1), .int 1)] : List c_F), c_hold (c_BB [a0, Int32.ofNat s, a2, a3, a4, a5] []) f := (List.forall_mem_cons.mpr ⟨f_cmp (cd := .lt) (a := a2) (b := 0) (t := false) rfl rfl ((k_lt rfl (by decide : (0 : Int32).toInt = 0)).trans (decide_eq_false (by omega))), (List.forall_mem_cons.mpr ⟨f_cmp (cd := .gt) (a := a2) (b := (-1)) (t := true) rfl rfl ((k_gt rfl (by decide : ((-1) : Int32).toInt = (-1))).trans (decide_eq_true (by omega))), (fun _ h => nomatch h)⟩)⟩)
  exact x_goal (x := []) (x_Run.pre F0 i18p_1 (x_Run.call (mz := c_m208) (v := (some (.int 3))) (h1 := i18p_h1) i18p_12 rfl (x_Run.pre F1 i18p_2 (x_Run.callx (mz := c_m19) (h1 := i18p_h1) i18p_10 rfl (x_Run.pre F1 i18p_3 (x_Run.call (mz := c_m51) (v := none) (h1 := i18p_h0) i18p_8 rfl (x_Run.pre F2 i18p_4 (x_Run.call (mz := c_m179) (v := none) (h1 := i18p_h0) i18p_6 rfl (x_Run.pre F1 i18p_5 ((i18p_walk hs s 0 (by omega)).x rfl rfl rfl)) (x_Run.fin F1 i18p_7))) (x_Run.finx F1 i18p_9))) i18p_10x (x_Run.fin F1 i18p_11))) (x_Run.pre F1 i18p_13 (x_Run.call (mz := c_m104) (v := (Option.map (g_v 78 ((t_G [z_10, o_10] s)).length) (some (.int 0)))) (h1 := g_h 78 (t_G [z_10, o_10] s) i18p_h4) i18p_24 rfl (x_Run.pre F1 i18p_14 (x_Run.call (mz := c_m103) (v := (Option.map (g_v 78 ((t_G [z_10, o_10] s)).length) (some (.int 0)))) (h1 := g_h 78 (t_G [z_10, o_10] s) i18p_h4) i18p_22 rfl (x_Run.pre F3 i18p_15 (x_Run.call (mz := c_m100) (v := (Option.map (g_v 78 ((t_G [z_10, o_10] s)).length) (some (.ref 79)))) (h1 := g_h 78 (t_G [z_10, o_10] s) i18p_h3) i18p_20 rfl (x_Run.pre F1 i18p_16 (x_Run.call (mz := c_m99) (v := (Option.map (g_v 78 ((t_G [z_10, o_10] s)).length) (some (.ref 78)))) (h1 := g_h 78 (t_G [z_10, o_10] s) i18p_h2) i18p_18 rfl (x_Run.pre F1 i18p_17 (i18p_thought hs)) (x_Run.fing (n := 78) (t_G [z_10, o_10] s) F1 (by decide) i18p_19))) (x_Run.fing (n := 78) (t_G [z_10, o_10] s) F4 (by decide) i18p_21))) (x_Run.fing (n := 78) (t_G [z_10, o_10] s) F1 (by decide) i18p_23))) (x_Run.fing (n := 78) (t_G [z_10, o_10] s) F1 (by decide) i18p_25))))) (by rw [s_lenH, g_lenH (by decide), t_G_l, show i18p_h4.length = 80 from rfl]; show 80 + s * 2 ≤ 927443; omega) (by rw [s_msz, g_msz, t_G_m, show c_msz i18p_h4 = 2024 from by decide +kernel, show c_msz [z_10, o_10] = 20 from rfl]; omega)
def i19n_h0 : c_Hp := [some (.inl (10, [.ref 1, .ref 4, .ref 23, .ref 25, .ref 28, .ref 31, .ref 34, .ref 37, .ref 39, .ref 41, .ref 52, .ref 55])),
  some (.inl (6, [.ref 2, .ref 3, .int 10, .int 0])),
  some (.inr (0, List.replicate 60 (.int 1))),
  some (.inr (0, List.replicate 60 (.int 0))),
  some (.inl (4, [.ref 5, .ref 14, .int 0, .int 0])),
  some (.inr (2, [.ref 6, .ref 7, .ref 8, .ref 9, .ref 10, .ref 11, .ref 12, .ref 13])),
  some (.inr (0, List.replicate 60 (.int 0))),
  some (.inr (0, List.replicate 60 (.int 0))),
  some (.inr (0, List.replicate 60 (.int 0))),
  some (.inr (0, List.replicate 60 (.int 0))),
  some (.inr (0, List.replicate 60 (.int 0))),
  some (.inr (0, List.replicate 60 (.int 0))),
  some (.inr (0, List.replicate 60 (.int 0))),
  some (.inr (0, List.replicate 60 (.int 0))),
  some (.inr (2, [.ref 15, .ref 16, .ref 17, .ref 18, .ref 19, .ref 20, .ref 21, .ref 22])),
  some (.inr (0, List.replicate 60 (.int 0))),
  some (.inr (0, List.replicate 60 (.int 0))),
  some (.inr (0, List.replicate 60 (.int 0))),
  some (.inr (0, List.replicate 60 (.int 0))),
  some (.inr (0, List.replicate 60 (.int 0))),
  some (.inr (0, List.replicate 60 (.int 0))),
  some (.inr (0, List.replicate 60 (.int 0))),
  some (.inr (0, List.replicate 60 (.int 0))),
  some (.inl (0, [.ref 24, .int 0])),
  some (.inr (0, List.replicate 60 (.int 0))),
  some (.inl (3, [.ref 26, .ref 27, .int 0])),
  some (.inr (0, List.replicate 120 (.int 0))),
  some (.inr (0, List.replicate 60 (.int 0))),
  some (.inl (7, [.ref 29, .ref 30, .int 0, .int 0])),
  some (.inr (0, List.replicate 60 (.int 0))),
  some (.inr (0, List.replicate 60 (.int 0))),
  some (.inl (8, [.ref 32, .ref 33])),
  some (.inr (0, [.int 0, .int 0, .int 0])),
  some (.inr (0, [.int 0, .int 0, .int 0])),
  some (.inl (1, [.ref 35, .ref 36, .int 0])),
  some (.inr (0, List.replicate 5 (.int 0))),
  some (.inr (0, List.replicate 5 (.int 0))),
  some (.inl (9, [.ref 38, .int 0])),
  some (.inr (0, List.replicate 6 (.int 0))),
  some (.inl (2, [.ref 40])),
  some (.inr (1, List.replicate 64 (.long 0))),
  some (.inl (5, [.ref 42, .ref 51])),
  some (.inr (2, [.ref 43, .ref 44, .ref 45, .ref 46, .ref 47, .ref 48, .ref 49, .ref 50])),
  some (.inr (0, List.replicate 6 (.int 0))),
  some (.inr (0, List.replicate 6 (.int 0))),
  some (.inr (0, List.replicate 6 (.int 0))),
  some (.inr (0, List.replicate 6 (.int 0))),
  some (.inr (0, List.replicate 6 (.int 0))),
  some (.inr (0, List.replicate 6 (.int 0))),
  some (.inr (0, List.replicate 6 (.int 0))),
  some (.inr (0, List.replicate 6 (.int 0))),
  some (.inr (0, List.replicate 6 (.int 0))),
  some (.inl (6, [.ref 53, .ref 54, .int 1, .int 0])),
  some (.inr (0, List.replicate 60 (.int 0))),
  some (.inr (0, List.replicate 60 (.int 0))),
  some (.inl (6, [.ref 56, .ref 57, .int 1, .int 0])),
  some (.inr (0, List.replicate 60 (.int 0))),
  some (.inr (0, List.replicate 60 (.int 0))),
  some (.inl (11, [.ref 59, .ref 60, .int 0, .ref 61, .ref 62, .ref 63, .ref 64, .int 0, .ref 65, .int 0, .ref 66, .int 0, .int 0])),
  some (.inr (0, List.replicate 10 (.int 1))),
  some (.inr (0, List.replicate 10 (.int 0))),
  some (.inl (12, [.int 0, .retAddr 1, .int 0])),
  some (.inl (12, [.int 0, .retAddr 1, .int 0])),
  some (.inr (0, List.replicate 5 (.int 0))),
  some (.inr (0, List.replicate 5 (.int 0))),
  some (.inr (0, List.replicate 6 (.int 0))),
  some (.inr (2, [.ref 67, .ref 68, .ref 69, .ref 70, .ref 71, .ref 72, .ref 73, .ref 74])),
  some (.inr (0, List.replicate 6 (.int 0))),
  some (.inr (0, List.replicate 6 (.int 0))),
  some (.inr (0, List.replicate 6 (.int 0))),
  some (.inr (0, List.replicate 6 (.int 0))),
  some (.inr (0, List.replicate 6 (.int 0))),
  some (.inr (0, List.replicate 6 (.int 0))),
  some (.inr (0, List.replicate 6 (.int 0))),
  some (.inr (0, List.replicate 6 (.int 0))),
  some (.inr (1, [.long 0])),
  some (.inr (5, [.double 0]))]
def i19n_h1 : c_Hp := [some (.inl (10, [.ref 1, .ref 4, .ref 23, .ref 25, .ref 28, .ref 31, .ref 34, .ref 37, .ref 39, .ref 41, .ref 52, .ref 55])),
  some (.inl (6, [.ref 2, .ref 3, .int 10, .int 0])),
  some (.inr (0, List.replicate 60 (.int 1))),
  some (.inr (0, List.replicate 60 (.int 0))),
  some (.inl (4, [.ref 5, .ref 14, .int 0, .int 0])),
  some (.inr (2, [.ref 6, .ref 7, .ref 8, .ref 9, .ref 10, .ref 11, .ref 12, .ref 13])),
  some (.inr (0, List.replicate 60 (.int 0))),
  some (.inr (0, List.replicate 60 (.int 0))),
  some (.inr (0, List.replicate 60 (.int 0))),
  some (.inr (0, List.replicate 60 (.int 0))),
  some (.inr (0, List.replicate 60 (.int 0))),
  some (.inr (0, List.replicate 60 (.int 0))),
  some (.inr (0, List.replicate 60 (.int 0))),
  some (.inr (0, List.replicate 60 (.int 0))),
  some (.inr (2, [.ref 15, .ref 16, .ref 17, .ref 18, .ref 19, .ref 20, .ref 21, .ref 22])),
  some (.inr (0, List.replicate 60 (.int 0))),
  some (.inr (0, List.replicate 60 (.int 0))),
  some (.inr (0, List.replicate 60 (.int 0))),
  some (.inr (0, List.replicate 60 (.int 0))),
  some (.inr (0, List.replicate 60 (.int 0))),
  some (.inr (0, List.replicate 60 (.int 0))),
  some (.inr (0, List.replicate 60 (.int 0))),
  some (.inr (0, List.replicate 60 (.int 0))),
  some (.inl (0, [.ref 24, .int 0])),
  some (.inr (0, List.replicate 60 (.int 0))),
  some (.inl (3, [.ref 26, .ref 27, .int 0])),
  some (.inr (0, List.replicate 120 (.int 0))),
  some (.inr (0, List.replicate 60 (.int 0))),
  some (.inl (7, [.ref 29, .ref 30, .int 0, .int 0])),
  some (.inr (0, List.replicate 60 (.int 0))),
  some (.inr (0, List.replicate 60 (.int 0))),
  some (.inl (8, [.ref 32, .ref 33])),
  some (.inr (0, [.int 0, .int 0, .int 0])),
  some (.inr (0, [.int 0, .int 0, .int 0])),
  some (.inl (1, [.ref 35, .ref 36, .int 0])),
  some (.inr (0, List.replicate 5 (.int 0))),
  some (.inr (0, List.replicate 5 (.int 0))),
  some (.inl (9, [.ref 38, .int 0])),
  some (.inr (0, List.replicate 6 (.int 0))),
  some (.inl (2, [.ref 40])),
  some (.inr (1, List.replicate 64 (.long 0))),
  some (.inl (5, [.ref 42, .ref 51])),
  some (.inr (2, [.ref 43, .ref 44, .ref 45, .ref 46, .ref 47, .ref 48, .ref 49, .ref 50])),
  some (.inr (0, List.replicate 6 (.int 0))),
  some (.inr (0, List.replicate 6 (.int 0))),
  some (.inr (0, List.replicate 6 (.int 0))),
  some (.inr (0, List.replicate 6 (.int 0))),
  some (.inr (0, List.replicate 6 (.int 0))),
  some (.inr (0, List.replicate 6 (.int 0))),
  some (.inr (0, List.replicate 6 (.int 0))),
  some (.inr (0, List.replicate 6 (.int 0))),
  some (.inr (0, List.replicate 6 (.int 0))),
  some (.inl (6, [.ref 53, .ref 54, .int 1, .int 0])),
  some (.inr (0, List.replicate 60 (.int 0))),
  some (.inr (0, List.replicate 60 (.int 0))),
  some (.inl (6, [.ref 56, .ref 57, .int 1, .int 0])),
  some (.inr (0, List.replicate 60 (.int 0))),
  some (.inr (0, List.replicate 60 (.int 0))),
  some (.inl (11, [.ref 59, .ref 60, .int 0, .ref 61, .ref 62, .ref 63, .ref 64, .int 0, .ref 65, .int 0, .ref 66, .int 0, .int 0])),
  some (.inr (0, List.replicate 10 (.int 1))),
  some (.inr (0, List.replicate 10 (.int 0))),
  some (.inl (12, [.int 0, .retAddr 1, .int 0])),
  some (.inl (12, [.int 0, .retAddr 1, .int 0])),
  some (.inr (0, List.replicate 5 (.int 0))),
  some (.inr (0, List.replicate 5 (.int 0))),
  some (.inr (0, List.replicate 6 (.int 0))),
  some (.inr (2, [.ref 67, .ref 68, .ref 69, .ref 70, .ref 71, .ref 72, .ref 73, .ref 74])),
  some (.inr (0, List.replicate 6 (.int 0))),
  some (.inr (0, List.replicate 6 (.int 0))),
  some (.inr (0, List.replicate 6 (.int 0))),
  some (.inr (0, List.replicate 6 (.int 0))),
  some (.inr (0, List.replicate 6 (.int 0))),
  some (.inr (0, List.replicate 6 (.int 0))),
  some (.inr (0, List.replicate 6 (.int 0))),
  some (.inr (0, List.replicate 6 (.int 0))),
  some (.inr (1, [.long 0])),
  some (.inr (5, [.double 0])),
  none]
def i19n_h2 : c_Hp := [some (.inl (10, [.ref 1, .ref 4, .ref 23, .ref 25, .ref 28, .ref 31, .ref 34, .ref 37, .ref 39, .ref 41, .ref 52, .ref 55])),
  some (.inl (6, [.ref 2, .ref 3, .int 10, .int 0])),
  some (.inr (0, List.replicate 60 (.int 1))),
  some (.inr (0, List.replicate 60 (.int 0))),
  some (.inl (4, [.ref 5, .ref 14, .int 0, .int 0])),
  some (.inr (2, [.ref 6, .ref 7, .ref 8, .ref 9, .ref 10, .ref 11, .ref 12, .ref 13])),
  some (.inr (0, List.replicate 60 (.int 0))),
  some (.inr (0, List.replicate 60 (.int 0))),
  some (.inr (0, List.replicate 60 (.int 0))),
  some (.inr (0, List.replicate 60 (.int 0))),
  some (.inr (0, List.replicate 60 (.int 0))),
  some (.inr (0, List.replicate 60 (.int 0))),
  some (.inr (0, List.replicate 60 (.int 0))),
  some (.inr (0, List.replicate 60 (.int 0))),
  some (.inr (2, [.ref 15, .ref 16, .ref 17, .ref 18, .ref 19, .ref 20, .ref 21, .ref 22])),
  some (.inr (0, List.replicate 60 (.int 0))),
  some (.inr (0, List.replicate 60 (.int 0))),
  some (.inr (0, List.replicate 60 (.int 0))),
  some (.inr (0, List.replicate 60 (.int 0))),
  some (.inr (0, List.replicate 60 (.int 0))),
  some (.inr (0, List.replicate 60 (.int 0))),
  some (.inr (0, List.replicate 60 (.int 0))),
  some (.inr (0, List.replicate 60 (.int 0))),
  some (.inl (0, [.ref 24, .int 0])),
  some (.inr (0, List.replicate 60 (.int 0))),
  some (.inl (3, [.ref 26, .ref 27, .int 0])),
  some (.inr (0, List.replicate 120 (.int 0))),
  some (.inr (0, List.replicate 60 (.int 0))),
  some (.inl (7, [.ref 29, .ref 30, .int 0, .int 0])),
  some (.inr (0, List.replicate 60 (.int 0))),
  some (.inr (0, List.replicate 60 (.int 0))),
  some (.inl (8, [.ref 32, .ref 33])),
  some (.inr (0, [.int 0, .int 0, .int 0])),
  some (.inr (0, [.int 0, .int 0, .int 0])),
  some (.inl (1, [.ref 35, .ref 36, .int 0])),
  some (.inr (0, List.replicate 5 (.int 0))),
  some (.inr (0, List.replicate 5 (.int 0))),
  some (.inl (9, [.ref 38, .int 0])),
  some (.inr (0, List.replicate 6 (.int 0))),
  some (.inl (2, [.ref 40])),
  some (.inr (1, List.replicate 64 (.long 0))),
  some (.inl (5, [.ref 42, .ref 51])),
  some (.inr (2, [.ref 43, .ref 44, .ref 45, .ref 46, .ref 47, .ref 48, .ref 49, .ref 50])),
  some (.inr (0, List.replicate 6 (.int 0))),
  some (.inr (0, List.replicate 6 (.int 0))),
  some (.inr (0, List.replicate 6 (.int 0))),
  some (.inr (0, List.replicate 6 (.int 0))),
  some (.inr (0, List.replicate 6 (.int 0))),
  some (.inr (0, List.replicate 6 (.int 0))),
  some (.inr (0, List.replicate 6 (.int 0))),
  some (.inr (0, List.replicate 6 (.int 0))),
  some (.inr (0, List.replicate 6 (.int 0))),
  some (.inl (6, [.ref 53, .ref 54, .int 1, .int 0])),
  some (.inr (0, List.replicate 60 (.int 0))),
  some (.inr (0, List.replicate 60 (.int 0))),
  some (.inl (6, [.ref 56, .ref 57, .int 1, .int 0])),
  some (.inr (0, List.replicate 60 (.int 0))),
  some (.inr (0, List.replicate 60 (.int 0))),
  some (.inl (11, [.ref 59, .ref 60, .int 0, .ref 61, .ref 62, .ref 63, .ref 64, .int 0, .ref 65, .int 0, .ref 66, .int 0, .int 0])),
  some (.inr (0, List.replicate 10 (.int 1))),
  some (.inr (0, List.replicate 10 (.int 0))),
  some (.inl (12, [.int 0, .retAddr 1, .int 0])),
  some (.inl (12, [.int 0, .retAddr 1, .int 0])),
  some (.inr (0, List.replicate 5 (.int 0))),
  some (.inr (0, List.replicate 5 (.int 0))),
  some (.inr (0, List.replicate 6 (.int 0))),
  some (.inr (2, [.ref 67, .ref 68, .ref 69, .ref 70, .ref 71, .ref 72, .ref 73, .ref 74])),
  some (.inr (0, List.replicate 6 (.int 0))),
  some (.inr (0, List.replicate 6 (.int 0))),
  some (.inr (0, List.replicate 6 (.int 0))),
  some (.inr (0, List.replicate 6 (.int 0))),
  some (.inr (0, List.replicate 6 (.int 0))),
  some (.inr (0, List.replicate 6 (.int 0))),
  some (.inr (0, List.replicate 6 (.int 0))),
  some (.inr (0, List.replicate 6 (.int 0))),
  some (.inr (1, [.long 0])),
  some (.inr (5, [.double 0])),
  none,
  some (.inr (0, List.replicate 11 (.int 0)))]
def i19n_h3 : c_Hp := [some (.inl (10, [.ref 1, .ref 4, .ref 23, .ref 25, .ref 28, .ref 31, .ref 34, .ref 37, .ref 39, .ref 41, .ref 52, .ref 55])),
  some (.inl (6, [.ref 2, .ref 3, .int 10, .int 0])),
  some (.inr (0, List.replicate 60 (.int 1))),
  some (.inr (0, List.replicate 60 (.int 0))),
  some (.inl (4, [.ref 5, .ref 14, .int 0, .int 0])),
  some (.inr (2, [.ref 6, .ref 7, .ref 8, .ref 9, .ref 10, .ref 11, .ref 12, .ref 13])),
  some (.inr (0, List.replicate 60 (.int 0))),
  some (.inr (0, List.replicate 60 (.int 0))),
  some (.inr (0, List.replicate 60 (.int 0))),
  some (.inr (0, List.replicate 60 (.int 0))),
  some (.inr (0, List.replicate 60 (.int 0))),
  some (.inr (0, List.replicate 60 (.int 0))),
  some (.inr (0, List.replicate 60 (.int 0))),
  some (.inr (0, List.replicate 60 (.int 0))),
  some (.inr (2, [.ref 15, .ref 16, .ref 17, .ref 18, .ref 19, .ref 20, .ref 21, .ref 22])),
  some (.inr (0, List.replicate 60 (.int 0))),
  some (.inr (0, List.replicate 60 (.int 0))),
  some (.inr (0, List.replicate 60 (.int 0))),
  some (.inr (0, List.replicate 60 (.int 0))),
  some (.inr (0, List.replicate 60 (.int 0))),
  some (.inr (0, List.replicate 60 (.int 0))),
  some (.inr (0, List.replicate 60 (.int 0))),
  some (.inr (0, List.replicate 60 (.int 0))),
  some (.inl (0, [.ref 24, .int 0])),
  some (.inr (0, List.replicate 60 (.int 0))),
  some (.inl (3, [.ref 26, .ref 27, .int 0])),
  some (.inr (0, List.replicate 120 (.int 0))),
  some (.inr (0, List.replicate 60 (.int 0))),
  some (.inl (7, [.ref 29, .ref 30, .int 0, .int 0])),
  some (.inr (0, List.replicate 60 (.int 0))),
  some (.inr (0, List.replicate 60 (.int 0))),
  some (.inl (8, [.ref 32, .ref 33])),
  some (.inr (0, [.int 0, .int 0, .int 0])),
  some (.inr (0, [.int 0, .int 0, .int 0])),
  some (.inl (1, [.ref 35, .ref 36, .int 0])),
  some (.inr (0, List.replicate 5 (.int 0))),
  some (.inr (0, List.replicate 5 (.int 0))),
  some (.inl (9, [.ref 38, .int 0])),
  some (.inr (0, List.replicate 6 (.int 0))),
  some (.inl (2, [.ref 40])),
  some (.inr (1, List.replicate 64 (.long 0))),
  some (.inl (5, [.ref 42, .ref 51])),
  some (.inr (2, [.ref 43, .ref 44, .ref 45, .ref 46, .ref 47, .ref 48, .ref 49, .ref 50])),
  some (.inr (0, List.replicate 6 (.int 0))),
  some (.inr (0, List.replicate 6 (.int 0))),
  some (.inr (0, List.replicate 6 (.int 0))),
  some (.inr (0, List.replicate 6 (.int 0))),
  some (.inr (0, List.replicate 6 (.int 0))),
  some (.inr (0, List.replicate 6 (.int 0))),
  some (.inr (0, List.replicate 6 (.int 0))),
  some (.inr (0, List.replicate 6 (.int 0))),
  some (.inr (0, List.replicate 6 (.int 0))),
  some (.inl (6, [.ref 53, .ref 54, .int 1, .int 0])),
  some (.inr (0, List.replicate 60 (.int 0))),
  some (.inr (0, List.replicate 60 (.int 0))),
  some (.inl (6, [.ref 56, .ref 57, .int 1, .int 0])),
  some (.inr (0, List.replicate 60 (.int 0))),
  some (.inr (0, List.replicate 60 (.int 0))),
  some (.inl (11, [.ref 59, .ref 60, .int 0, .ref 61, .ref 62, .ref 63, .ref 64, .int 0, .ref 65, .int 0, .ref 66, .int 0, .int 0])),
  some (.inr (0, List.replicate 10 (.int 1))),
  some (.inr (0, List.replicate 10 (.int 0))),
  some (.inl (12, [.int 0, .retAddr 1, .int 0])),
  some (.inl (12, [.int 0, .retAddr 1, .int 0])),
  some (.inr (0, List.replicate 5 (.int 0))),
  some (.inr (0, List.replicate 5 (.int 0))),
  some (.inr (0, List.replicate 6 (.int 0))),
  some (.inr (2, [.ref 67, .ref 68, .ref 69, .ref 70, .ref 71, .ref 72, .ref 73, .ref 74])),
  some (.inr (0, List.replicate 6 (.int 0))),
  some (.inr (0, List.replicate 6 (.int 0))),
  some (.inr (0, List.replicate 6 (.int 0))),
  some (.inr (0, List.replicate 6 (.int 0))),
  some (.inr (0, List.replicate 6 (.int 0))),
  some (.inr (0, List.replicate 6 (.int 0))),
  some (.inr (0, List.replicate 6 (.int 0))),
  some (.inr (0, List.replicate 6 (.int 0))),
  some (.inr (1, [.long 0])),
  some (.inr (5, [.double 0])),
  none,
  some (.inr (0, List.replicate 11 (.int 0))),
  some (.inl (12, [.int 0, .retAddr 1, .int 0]))]
def i19n_h4 : c_Hp := [some (.inl (10, [.ref 1, .ref 4, .ref 23, .ref 25, .ref 28, .ref 31, .ref 34, .ref 37, .ref 39, .ref 41, .ref 52, .ref 55])),
  some (.inl (6, [.ref 2, .ref 3, .int 10, .int 0])),
  some (.inr (0, List.replicate 60 (.int 1))),
  some (.inr (0, List.replicate 60 (.int 0))),
  some (.inl (4, [.ref 5, .ref 14, .int 0, .int 0])),
  some (.inr (2, [.ref 6, .ref 7, .ref 8, .ref 9, .ref 10, .ref 11, .ref 12, .ref 13])),
  some (.inr (0, List.replicate 60 (.int 0))),
  some (.inr (0, List.replicate 60 (.int 0))),
  some (.inr (0, List.replicate 60 (.int 0))),
  some (.inr (0, List.replicate 60 (.int 0))),
  some (.inr (0, List.replicate 60 (.int 0))),
  some (.inr (0, List.replicate 60 (.int 0))),
  some (.inr (0, List.replicate 60 (.int 0))),
  some (.inr (0, List.replicate 60 (.int 0))),
  some (.inr (2, [.ref 15, .ref 16, .ref 17, .ref 18, .ref 19, .ref 20, .ref 21, .ref 22])),
  some (.inr (0, List.replicate 60 (.int 0))),
  some (.inr (0, List.replicate 60 (.int 0))),
  some (.inr (0, List.replicate 60 (.int 0))),
  some (.inr (0, List.replicate 60 (.int 0))),
  some (.inr (0, List.replicate 60 (.int 0))),
  some (.inr (0, List.replicate 60 (.int 0))),
  some (.inr (0, List.replicate 60 (.int 0))),
  some (.inr (0, List.replicate 60 (.int 0))),
  some (.inl (0, [.ref 24, .int 0])),
  some (.inr (0, List.replicate 60 (.int 0))),
  some (.inl (3, [.ref 26, .ref 27, .int 0])),
  some (.inr (0, List.replicate 120 (.int 0))),
  some (.inr (0, List.replicate 60 (.int 0))),
  some (.inl (7, [.ref 29, .ref 30, .int 0, .int 0])),
  some (.inr (0, List.replicate 60 (.int 0))),
  some (.inr (0, List.replicate 60 (.int 0))),
  some (.inl (8, [.ref 32, .ref 33])),
  some (.inr (0, [.int 0, .int 0, .int 0])),
  some (.inr (0, [.int 0, .int 0, .int 0])),
  some (.inl (1, [.ref 35, .ref 36, .int 0])),
  some (.inr (0, List.replicate 5 (.int 0))),
  some (.inr (0, List.replicate 5 (.int 0))),
  some (.inl (9, [.ref 38, .int 0])),
  some (.inr (0, List.replicate 6 (.int 0))),
  some (.inl (2, [.ref 40])),
  some (.inr (1, List.replicate 64 (.long 0))),
  some (.inl (5, [.ref 42, .ref 51])),
  some (.inr (2, [.ref 43, .ref 44, .ref 45, .ref 46, .ref 47, .ref 48, .ref 49, .ref 50])),
  some (.inr (0, List.replicate 6 (.int 0))),
  some (.inr (0, List.replicate 6 (.int 0))),
  some (.inr (0, List.replicate 6 (.int 0))),
  some (.inr (0, List.replicate 6 (.int 0))),
  some (.inr (0, List.replicate 6 (.int 0))),
  some (.inr (0, List.replicate 6 (.int 0))),
  some (.inr (0, List.replicate 6 (.int 0))),
  some (.inr (0, List.replicate 6 (.int 0))),
  some (.inr (0, List.replicate 6 (.int 0))),
  some (.inl (6, [.ref 53, .ref 54, .int 1, .int 0])),
  some (.inr (0, List.replicate 60 (.int 0))),
  some (.inr (0, List.replicate 60 (.int 0))),
  some (.inl (6, [.ref 56, .ref 57, .int 1, .int 0])),
  some (.inr (0, List.replicate 60 (.int 0))),
  some (.inr (0, List.replicate 60 (.int 0))),
  some (.inl (11, [.ref 59, .ref 60, .int 0, .ref 61, .ref 62, .ref 63, .ref 64, .int 0, .ref 65, .int 0, .ref 66, .int 0, .int 3])),
  some (.inr (0, List.replicate 10 (.int 1))),
  some (.inr (0, List.replicate 10 (.int 0))),
  some (.inl (12, [.int 0, .retAddr 1, .int 0])),
  some (.inl (12, [.int 0, .retAddr 1, .int 0])),
  some (.inr (0, List.replicate 5 (.int 0))),
  some (.inr (0, List.replicate 5 (.int 0))),
  some (.inr (0, List.replicate 6 (.int 0))),
  some (.inr (2, [.ref 67, .ref 68, .ref 69, .ref 70, .ref 71, .ref 72, .ref 73, .ref 74])),
  some (.inr (0, List.replicate 6 (.int 0))),
  some (.inr (0, List.replicate 6 (.int 0))),
  some (.inr (0, List.replicate 6 (.int 0))),
  some (.inr (0, List.replicate 6 (.int 0))),
  some (.inr (0, List.replicate 6 (.int 0))),
  some (.inr (0, List.replicate 6 (.int 0))),
  some (.inr (0, List.replicate 6 (.int 0))),
  some (.inr (0, List.replicate 6 (.int 0))),
  some (.inr (1, [.long 0])),
  some (.inr (5, [.double 0])),
  none,
  some (.inr (0, List.replicate 11 (.int 0))),
  some (.inl (12, [.int 0, .retAddr 1, .int 0]))]
theorem i19n_1 : c_pre ([(3, .retAddr 10, .int 63, .int 19)], x_xs) 38 c_m259 18 38 [some (.retAddr 0), some (.ref 0), some (.ref 58), some (.ref 75), some (.ref 76), some (.int 0), none, none, none] [] i19n_h0 = some (1311, [some (.retAddr 0), some (.ref 0), some (.ref 58), some (.ref 75), some (.ref 76), some (.int 0), none, none, none], [.ref 75, .retAddr 12, .retAddr 11, .ref 0], i19n_h0) := c_eqR_ok (by decide +kernel)
theorem i19n_2 : c_pre ([], x_xs) 25 c_m209 5 0 [some (.ref 0), some (.retAddr 11), some (.retAddr 12), some (.ref 75), none] [] i19n_h0 = some (5, [some (.ref 0), some (.retAddr 11), some (.retAddr 12), some (.ref 75), none], [.retAddr 12, .retAddr 11, .ref 0, .int 0, .ref 75], i19n_h0) := c_eqR_ok (by decide +kernel)
theorem i19n_3 : c_pre ([], x_xs) 22 c_m20 2 0 [some (.ref 0), some (.retAddr 11), some (.retAddr 12)] [] i19n_h0 = some (2, [some (.ref 0), some (.retAddr 11), some (.retAddr 12)], [.retAddr 11, .ref 0], i19n_h0) := c_eqR_ok (by decide +kernel)
theorem i19n_4 : c_pre ([(22, .retAddr 11, .int 0, .int 0), (25, .retAddr 11, .int 99, .int 1)], x_xs) 175 c_m51 11 0 [some (.ref 0), some (.retAddr 11)] [] i19n_h0 = some (20, [some (.ref 0), some (.retAddr 11)], [.retAddr 11, .ref 1, .ref 28], i19n_h0) := c_eqR_ok (by decide +kernel)
theorem i19n_5 : c_pre ([], x_xs) 141 c_m179 121 0 [some (.ref 28), some (.ref 1), some (.retAddr 11), none] [] i19n_h0 = some (52, [some (.ref 28), some (.ref 1), some (.retAddr 11), some (.int 0)], [], i19n_h0) := c_eqR_ok (by decide +kernel)
theorem i19n_6 : c_callee c_m51 20 [.retAddr 11, .ref 1, .ref 28] i19n_h0 = some (179, [some (.ref 28), some (.ref 1), some (.retAddr 11), none], []) := c_eqC_ok (by decide +kernel)
theorem i19n_7 : c_go c_P ([], x_xs) 21 c_m51 23 [some (.ref 0), some (.retAddr 11)] [] i19n_h0 = some (.inl none, i19n_h0) := c_eqO_ok (by decide +kernel)
theorem i19n_8 : c_callee c_m20 2 [.retAddr 11, .ref 0] i19n_h0 = some (51, [some (.ref 0), some (.retAddr 11)], []) := c_eqC_ok (by decide +kernel)
theorem i19n_9 : c_go c_P ([], x_xs) 43 c_m20 5 [some (.ref 0), some (.retAddr 11), some (.retAddr 12)] [] i19n_h0 = some (.inr 3, i19n_h1) := c_eqX_ok (by decide +kernel)
theorem i19n_10 : c_callee c_m209 5 [.retAddr 12, .retAddr 11, .ref 0, .int 0, .ref 75] i19n_h0 = some (20, [some (.ref 0), some (.retAddr 11), some (.retAddr 12)], [.int 0, .ref 75]) := c_eqC_ok (by decide +kernel)
theorem i19n_10x : c_catS c_m209 5 3 [some (.ref 0), some (.retAddr 11), some (.retAddr 12), some (.ref 75), none] = some (23, [some (.ref 0), some (.retAddr 11), some (.retAddr 12), some (.ref 75), none]) := c_eqS_ok (by decide +kernel)
theorem i19n_11 : c_go c_P ([], x_xs) 22 c_m209 23 [some (.ref 0), some (.retAddr 11), some (.retAddr 12), some (.ref 75), none] [] i19n_h1 = some (.inl (some (.int 3)), i19n_h1) := c_eqO_ok (by decide +kernel)
theorem i19n_12 : c_callee c_m259 1311 [.ref 75, .retAddr 12, .retAddr 11, .ref 0] i19n_h0 = some (209, [some (.ref 0), some (.retAddr 11), some (.retAddr 12), some (.ref 75), none], []) := c_eqC_ok (by decide +kernel)
theorem i19n_13 : c_pre ([], x_xs) 32 c_m259 12 1314 [some (.retAddr 0), some (.ref 0), some (.ref 58), some (.ref 75), some (.ref 76), some (.int 0), none, none, none] [.int 3] i19n_h1 = some (1329, [some (.retAddr 0), some (.ref 0), some (.ref 58), some (.ref 75), some (.ref 76), some (.int 0), some (.int 3), none, none], [.retAddr 12, .retAddr 11, .ref 58], i19n_h1) := c_eqR_ok (by decide +kernel)
theorem i19n_14 : c_pre ([], x_xs) 24 c_m105 4 0 [some (.ref 58), some (.retAddr 11), some (.retAddr 12)] [] i19n_h1 = some (4, [some (.ref 58), some (.retAddr 11), some (.retAddr 12)], [.int 0, .retAddr 12, .retAddr 11, .ref 58], i19n_h1) := c_eqR_ok (by decide +kernel)
theorem i19n_15 : c_pre ([(22, .retAddr 11, .int 0, .int 0), (24, .retAddr 11, .int 99, .int 0)], x_xs) 229 c_m103 6 0 [some (.ref 58), some (.retAddr 11), some (.retAddr 12), some (.int 0), none] [] i19n_h1 = some (12, [some (.ref 58), some (.retAddr 11), some (.retAddr 12), some (.int 0), none], [.retAddr 11, .ref 58], i19n_h1) := c_eqR_ok (by decide +kernel)
theorem i19n_16 : c_pre ([], x_xs) 22 c_m100 2 0 [some (.ref 58), some (.retAddr 11), none, none, none, none] [] i19n_h1 = some (2, [some (.ref 58), some (.retAddr 11), none, none, none, none], [.retAddr 11, .ref 58], i19n_h1) := c_eqR_ok (by decide +kernel)
theorem i19n_17 : c_pre ([], x_xs) 25 c_m99 5 0 [some (.ref 58), some (.retAddr 11), none, none, none] [] i19n_h1 = some (7, [some (.ref 58), some (.retAddr 11), some (.ref 60), some (.int 0), none], [], i19n_h1) := c_eqR_ok (by decide +kernel)
theorem i19n_18 : c_callee c_m100 2 [.retAddr 11, .ref 58] i19n_h1 = some (99, [some (.ref 58), some (.retAddr 11), none, none, none], []) := c_eqC_ok (by decide +kernel)
theorem i19n_19 : c_go c_P ([], x_xs) 270 c_m100 5 [some (.ref 58), some (.retAddr 11), none, none, none, none] [.ref 78] i19n_h2 = some (.inl (some (.ref 79)), i19n_h3) := c_eqO_ok (by decide +kernel)
theorem i19n_20 : c_callee c_m103 12 [.retAddr 11, .ref 58] i19n_h1 = some (100, [some (.ref 58), some (.retAddr 11), none, none, none, none], []) := c_eqC_ok (by decide +kernel)
theorem i19n_21 : c_go c_P ([(22, .retAddr 12, .int 0, .int 1)], x_xs) 54 c_m103 15 [some (.ref 58), some (.retAddr 11), some (.retAddr 12), some (.int 0), none] [.ref 79] i19n_h3 = some (.inl (some (.int 0)), i19n_h4) := c_eqO_ok (by decide +kernel)
theorem i19n_22 : c_callee c_m105 4 [.int 0, .retAddr 12, .retAddr 11, .ref 58] i19n_h1 = some (103, [some (.ref 58), some (.retAddr 11), some (.retAddr 12), some (.int 0), none], []) := c_eqC_ok (by decide +kernel)
theorem i19n_23 : c_go c_P ([], x_xs) 21 c_m105 7 [some (.ref 58), some (.retAddr 11), some (.retAddr 12)] [.int 0] i19n_h4 = some (.inl (some (.int 0)), i19n_h4) := c_eqO_ok (by decide +kernel)
theorem i19n_24 : c_callee c_m259 1329 [.retAddr 12, .retAddr 11, .ref 58] i19n_h1 = some (105, [some (.ref 58), some (.retAddr 11), some (.retAddr 12)], []) := c_eqC_ok (by decide +kernel)
theorem i19n_25 : c_go c_P ([], x_xs) 41 c_m259 1332 [some (.retAddr 0), some (.ref 0), some (.ref 58), some (.ref 75), some (.ref 76), some (.int 0), some (.int 3), none, none] [.int 0] i19n_h4 = some (.inl (some (.int 1)), i19n_h4) := c_eqO_ok (by decide +kernel)
theorem i19n_w : c_pre ([(23, .retAddr 16, .retAddr 11, .int 0), (0, .retAddr 16, .int 1, .retAddr 17)], x_xs) 100 c_m179 7 52 [some (.ref 28), some (.ref 1), some (.retAddr 11), some (.retAddr 16)] [] i19n_h0 = some (52, [some (.ref 28), some (.ref 1), some (.retAddr 11), some (.retAddr 17)], [], i19n_h0) := c_eqR_ok (by decide +kernel)
theorem i19n_wx : c_go c_P ([(23, .retAddr 16, .retAddr 11, .int 1)], x_xs) 100 c_m179 52 [some (.ref 28), some (.ref 1), some (.retAddr 11), some (.retAddr 16)] [] i19n_h0 = some (.inl none, i19n_h0) := c_eqO_ok (by decide +kernel)
theorem i19n_walk {a0 a2 a3 a4 a5 : Int32} {s : Nat} (hs : s < 100) : ∀ (j i : Nat), i + j = s → c_T [a0, Int32.ofNat s, a2, a3, a4, a5] c_m179 52 [some (.ref 28), some (.ref 1), some (.int (Int32.ofNat s)), some (.int (Int32.ofNat i))] [] i19n_h0 (.inl none, i19n_h0)
  | 0, i, e => by
    have F : ∀ f ∈ ([(23, .retAddr 16, .retAddr 11, .int 1)] : List c_F), c_hold (c_BB [a0, Int32.ofNat s, a2, a3, a4, a5] [Int32.ofNat i]) f := (List.forall_mem_cons.mpr ⟨o_ge1 (i := i) (s := s) rfl rfl (by omega) (by omega) (by omega), fun _ h => nomatch h⟩)
    exact (x_Run.fin F i19n_wx).t rfl rfl rfl rfl
  | j + 1, i, e => by
    have F : ∀ f ∈ ([(23, .retAddr 16, .retAddr 11, .int 0), (0, .retAddr 16, .int 1, .retAddr 17)] : List c_F), c_hold (c_BB [a0, Int32.ofNat s, a2, a3, a4, a5] [Int32.ofNat i, Int32.ofNat (i + 1)]) f := (List.forall_mem_cons.mpr ⟨o_ge (i := i) (s := s) rfl rfl (by omega) (by omega) (by omega), List.forall_mem_cons.mpr ⟨o_inc (i := i) rfl rfl, fun _ h => nomatch h⟩⟩)
    have ih := i19n_walk (a0 := a0) (a2 := a2) (a3 := a3) (a4 := a4) (a5 := a5) hs j (i + 1) (by omega)
    exact (x_Run.pre F i19n_w (ih.x (x := [Int32.ofNat i, Int32.ofNat (i + 1)]) rfl rfl rfl)).t rfl rfl rfl rfl
theorem i19n_t0 : c_pre ([(23, .int 0, .retAddr 11, .int 0)], x_xs) 1000 c_m99 22 7 [some (.ref 58), some (.retAddr 11), some (.ref 60), some (.int 0), none] [] i19n_h1 = some (7, [some (.ref 58), some (.retAddr 11), some (.ref 78), some (.int 1), some (.int 0)], [], i19n_h1 ++ [z_10, o_10]) := c_eqR_ok (by decide +kernel)
theorem i19n_t0x : c_go c_P ([(23, .int 0, .retAddr 11, .int 1)], x_xs) 1000 c_m99 7 [some (.ref 58), some (.retAddr 11), some (.ref 60), some (.int 0), none] [] i19n_h1 = some (.inl (some (.ref 78)), i19n_h1 ++ [z_11]) := c_eqO_ok (by decide +kernel)
theorem i19n_t : c_pre ([(23, .retAddr 16, .retAddr 11, .int 0), (0, .retAddr 16, .int 1, .retAddr 17)], x_xs) 1000 c_m99 22 7 [some (.ref 58), some (.retAddr 11), some (.ref 78), some (.retAddr 16), some (.int 0)] [] (i19n_h1 ++ [z_10, o_10]) = some (7, [some (.ref 58), some (.retAddr 11), some (.ref 80), some (.retAddr 17), some (.int 0)], [], i19n_h1 ++ [z_10, o_10, z_10, o_10]) := c_eqR_ok (by decide +kernel)
theorem i19n_tx : c_go c_P ([(23, .retAddr 16, .retAddr 11, .int 1)], x_xs) 1000 c_m99 7 [some (.ref 58), some (.retAddr 11), some (.ref 78), some (.retAddr 16), some (.int 0)] [] (i19n_h1 ++ [z_10, o_10]) = some (.inl (some (.ref 80)), i19n_h1 ++ [z_10, o_10, z_11]) := c_eqO_ok (by decide +kernel)
theorem i19n_gh (G t : c_Hp) (ht : ∀ d, t.map (g_c 78 d) = t) {a0 a1 a2 a3 a4 a5 : Int32} {x : List Int32} (hG : s_h (c_BB [a0, a1, a2, a3, a4, a5] x) G = G) (h2 : s_h (c_BB [a0, a1, a2, a3, a4, a5] x) t = t) : s_h (c_BB [a0, a1, a2, a3, a4, a5] x) (g_h 78 G (i19n_h1 ++ t)) = i19n_h1 ++ (G ++ t) := by
  have h1 : ∀ a b : c_Hp, s_h (c_BB [a0, a1, a2, a3, a4, a5] x) (a ++ b) = s_h (c_BB [a0, a1, a2, a3, a4, a5] x) a ++ s_h (c_BB [a0, a1, a2, a3, a4, a5] x) b := fun a b => List.map_append
  have e1 : i19n_h1.map (g_c 78 G.length) = i19n_h1 := rfl
  have e2 : s_h (c_BB [a0, a1, a2, a3, a4, a5] x) i19n_h1 = i19n_h1 := rfl
  rw [g_h_s (show i19n_h1.length = 78 from rfl), e1, ht, h1, h1, hG, h2, e2]
theorem i19n_th {a0 a2 a3 a4 a5 : Int32} {s : Nat} (hs : s < 100) : ∀ (j i : Nat), i + 1 + j = s → c_T [a0, Int32.ofNat s, a2, a3, a4, a5] c_m99 7 [some (.ref 58), some (.int (Int32.ofNat s)), some (.ref (78 + (t_G [z_10, o_10] i).length)), some (.int (Int32.ofNat (i + 1))), some (.int 0)] [] (i19n_h1 ++ (t_G [z_10, o_10] i ++ [z_10, o_10])) (.inl (some (.ref (78 + (t_G [z_10, o_10] s).length))), i19n_h1 ++ (t_G [z_10, o_10] s ++ [z_11]))
  | 0, i, e => by
    have F : ∀ f ∈ ([(23, .retAddr 16, .retAddr 11, .int 1)] : List c_F), c_hold (c_BB [a0, Int32.ofNat s, a2, a3, a4, a5] [Int32.ofNat (i + 1)]) f := (List.forall_mem_cons.mpr ⟨o_ge1 (i := i + 1) (s := s) rfl rfl (by omega) (by omega) (by omega), fun _ h => nomatch h⟩)
    refine (x_Run.fing (n := 78) (t_G [z_10, o_10] i) F (by decide) i19n_tx).t rfl rfl (i19n_gh _ _ (fun _ => rfl) (t_G_b _ rfl i) rfl) ?_
    rw [i19n_gh _ _ (fun _ => rfl) (t_G_b _ rfl i) rfl]
    have e0 : s = i + 1 := by omega
    subst e0
    rw [t_G_s, List.length_append, List.append_assoc]
    show (Sum.inl (some (Value.ref (g_p 78 (t_G [z_10, o_10] i).length 80))), _) = (Sum.inl (some (Value.ref (78 + ((t_G [z_10, o_10] i).length + 2)))), _)
    have e1 : g_p 78 (t_G [z_10, o_10] i).length 80 = 78 + ((t_G [z_10, o_10] i).length + 2) := by
      unfold g_p
      rw [if_neg (by decide)]
      omega
    rw [e1]
    rfl
  | j + 1, i, e => by
    have F : ∀ f ∈ ([(23, .retAddr 16, .retAddr 11, .int 0), (0, .retAddr 16, .int 1, .retAddr 17)] : List c_F), c_hold (c_BB [a0, Int32.ofNat s, a2, a3, a4, a5] [Int32.ofNat (i + 1), Int32.ofNat (i + 1 + 1)]) f := (List.forall_mem_cons.mpr ⟨o_ge (i := i + 1) (s := s) rfl rfl (by omega) (by omega) (by omega), List.forall_mem_cons.mpr ⟨o_inc (i := i + 1) rfl rfl, fun _ h => nomatch h⟩⟩)
    have ih := i19n_th (a0 := a0) (a2 := a2) (a3 := a3) (a4 := a4) (a5 := a5) hs j (i + 1) (by omega)
    refine (x_Run.preg (n := 78) (t_G [z_10, o_10] i) F (by decide) i19n_t (ih.x (x := [Int32.ofNat (i + 1), Int32.ofNat (i + 1 + 1)]) ?_ rfl ?_)).t rfl rfl (i19n_gh _ _ (fun _ => rfl) (t_G_b _ rfl i) rfl) rfl
    · have e1 : g_p 78 (t_G [z_10, o_10] i).length 80 = 78 + (t_G [z_10, o_10] (i + 1)).length := by
        unfold g_p
        rw [if_neg (by decide), t_G_s, List.length_append]
        show _ = 78 + ((t_G [z_10, o_10] i).length + 2)
        omega
      rw [← e1]
      rfl
    · rw [i19n_gh _ _ (fun _ => rfl) (t_G_b _ rfl i) rfl, t_G_s, List.append_assoc]
      rfl
theorem i19n_thought {a0 a2 a3 a4 a5 : Int32} {s : Nat} (hs : s < 100) : x_Run (c_BB [a0, Int32.ofNat s, a2, a3, a4, a5] []) x_xs c_m99 7 [some (.ref 58), some (.retAddr 11), some (.ref 60), some (.int 0), none] [] i19n_h1 (.inl ((Option.map (g_v 78 (t_G [z_10, o_10] s).length) (some (.ref 78))).map (s_v (c_BB [a0, Int32.ofNat s, a2, a3, a4, a5] []))), s_h (c_BB [a0, Int32.ofNat s, a2, a3, a4, a5] []) (g_h 78 (t_G [z_10, o_10] s) i19n_h2)) := by
  have er : ((.inl (some (.ref (78 + (t_G [z_10, o_10] s).length))), i19n_h1 ++ (t_G [z_10, o_10] s ++ [z_11])) : c_O × c_Hp) = (.inl ((Option.map (g_v 78 (t_G [z_10, o_10] s).length) (some (.ref 78))).map (s_v (c_BB [a0, Int32.ofNat s, a2, a3, a4, a5] []))), s_h (c_BB [a0, Int32.ofNat s, a2, a3, a4, a5] []) (g_h 78 (t_G [z_10, o_10] s) i19n_h2)) := by
    rw [show i19n_h2 = i19n_h1 ++ [z_11] from rfl, i19n_gh _ _ (fun _ => rfl) (t_G_b _ rfl s) rfl]
    rfl
  rw [← er]
  match s, hs with
  | 0, hs =>
    have F : ∀ f ∈ ([(23, .int 0, .retAddr 11, .int 1)] : List c_F), c_hold (c_BB [a0, Int32.ofNat 0, a2, a3, a4, a5] []) f := List.forall_mem_cons.mpr ⟨o_ge1 (i := 0) (s := 0) rfl rfl (by omega) (by omega) (by omega), fun _ h => nomatch h⟩
    exact x_Run.fin F i19n_t0x
  | s + 1, hs =>
    have F : ∀ f ∈ ([(23, .int 0, .retAddr 11, .int 0)] : List c_F), c_hold (c_BB [a0, Int32.ofNat (s + 1), a2, a3, a4, a5] []) f := List.forall_mem_cons.mpr ⟨o_ge (i := 0) (s := s + 1) rfl rfl (by omega) (by omega) (by omega), fun _ h => nomatch h⟩
    exact x_Run.pre F i19n_t0 ((i19n_th hs s 0 (by omega)).x rfl rfl rfl)
theorem i19n_all {a0 a2 a3 a4 a5 : Int32} {s : Nat} (hs : s < 100) (h0 : a0 &&& 63 = 19) (r0 : 0 ≤ (Int32.ofNat s).toInt) (r1 : (Int32.ofNat s).toInt ≤ 99) (r2 : a2.toInt < 0) : c_Goal [a0, Int32.ofNat s, a2, a3, a4, a5] := by
  have F0 : ∀ f ∈ ([(3, .retAddr 10, .int 63, .int 19)] : List c_F), c_hold (c_BB [a0, Int32.ofNat s, a2, a3, a4, a5] []) f := (List.forall_mem_cons.mpr ⟨⟨a0, 63, 19, rfl, rfl, congrArg some h0, rfl⟩, (fun _ h => nomatch h)⟩)
  have F1 : ∀ f ∈ ([] : List c_F), c_hold (c_BB [a0, Int32.ofNat s, a2, a3, a4, a5] []) f := (fun _ h => nomatch h)
  have F2 : ∀ f ∈ ([(22, .retAddr 11, .int 0, .int 0), (25, .retAddr 11, .int 99, .int 1)] : List c_F), c_hold (c_BB [a0, Int32.ofNat s, a2, a3, a4, a5] []) f := (List.forall_mem_cons.mpr ⟨f_cmp (cd := .lt) (a := (Int32.ofNat s)) (b := 0) (t := false) rfl rfl ((k_lt rfl (by decide : (0 : Int32).toInt = 0)).trans (decide_eq_false (by omega))), (List.forall_mem_cons.mpr ⟨f_cmp (cd := .le) (a := (Int32.ofNat s)) (b := 99) (t := true) rfl rfl ((k_le rfl (by decide : (99 : Int32).toInt = 99)).trans (decide_eq_true (by omega))), (fun _ h => nomatch h)⟩)⟩)
  have F3 : ∀ f ∈ ([(22, .retAddr 11, .int 0, .int 0), (24, .retAddr 11, .int 99, .int 0)] : List c_F), c_hold (c_BB [a0, Int32.ofNat s, a2, a3, a4, a5] []) f := (List.forall_mem_cons.mpr ⟨f_cmp (cd := .lt) (a := (Int32.ofNat s)) (b := 0) (t := false) rfl rfl ((k_lt rfl (by decide : (0 : Int32).toInt = 0)).trans (decide_eq_false (by omega))), (List.forall_mem_cons.mpr ⟨f_cmp (cd := .gt) (a := (Int32.ofNat s)) (b := 99) (t := false) rfl rfl ((k_gt rfl (by decide : (99 : Int32).toInt = 99)).trans (decide_eq_false (by omega))), (fun _ h => nomatch h)⟩)⟩)
  have F4 : ∀ f ∈ ([(22, .retAddr 12, .int 0, .int 1)] : List c_F), c_hold (c_BB [a0, Int32.ofNat s, a2, a3, a4, a5] []) f := (List.forall_mem_cons.mpr ⟨f_cmp (cd := .lt) (a := a2) (b := 0) (t := true) rfl rfl ((k_lt rfl (by decide : (0 : Int32).toInt = 0)).trans (decide_eq_true (by omega))), (fun _ h => nomatch h)⟩)
  exact x_goal (x := []) (x_Run.pre F0 i19n_1 (x_Run.call (mz := c_m209) (v := (some (.int 3))) (h1 := i19n_h1) i19n_12 rfl (x_Run.pre F1 i19n_2 (x_Run.callx (mz := c_m20) (h1 := i19n_h1) i19n_10 rfl (x_Run.pre F1 i19n_3 (x_Run.call (mz := c_m51) (v := none) (h1 := i19n_h0) i19n_8 rfl (x_Run.pre F2 i19n_4 (x_Run.call (mz := c_m179) (v := none) (h1 := i19n_h0) i19n_6 rfl (x_Run.pre F1 i19n_5 ((i19n_walk hs s 0 (by omega)).x rfl rfl rfl)) (x_Run.fin F1 i19n_7))) (x_Run.finx F1 i19n_9))) i19n_10x (x_Run.fin F1 i19n_11))) (x_Run.pre F1 i19n_13 (x_Run.call (mz := c_m105) (v := (Option.map (g_v 78 ((t_G [z_10, o_10] s)).length) (some (.int 0)))) (h1 := g_h 78 (t_G [z_10, o_10] s) i19n_h4) i19n_24 rfl (x_Run.pre F1 i19n_14 (x_Run.call (mz := c_m103) (v := (Option.map (g_v 78 ((t_G [z_10, o_10] s)).length) (some (.int 0)))) (h1 := g_h 78 (t_G [z_10, o_10] s) i19n_h4) i19n_22 rfl (x_Run.pre F3 i19n_15 (x_Run.call (mz := c_m100) (v := (Option.map (g_v 78 ((t_G [z_10, o_10] s)).length) (some (.ref 79)))) (h1 := g_h 78 (t_G [z_10, o_10] s) i19n_h3) i19n_20 rfl (x_Run.pre F1 i19n_16 (x_Run.call (mz := c_m99) (v := (Option.map (g_v 78 ((t_G [z_10, o_10] s)).length) (some (.ref 78)))) (h1 := g_h 78 (t_G [z_10, o_10] s) i19n_h2) i19n_18 rfl (x_Run.pre F1 i19n_17 (i19n_thought hs)) (x_Run.fing (n := 78) (t_G [z_10, o_10] s) F1 (by decide) i19n_19))) (x_Run.fing (n := 78) (t_G [z_10, o_10] s) F4 (by decide) i19n_21))) (x_Run.fing (n := 78) (t_G [z_10, o_10] s) F1 (by decide) i19n_23))) (x_Run.fing (n := 78) (t_G [z_10, o_10] s) F1 (by decide) i19n_25))))) (by rw [s_lenH, g_lenH (by decide), t_G_l, show i19n_h4.length = 80 from rfl]; show 80 + s * 2 ≤ 927443; omega) (by rw [s_msz, g_msz, t_G_m, show c_msz i19n_h4 = 2024 from by decide +kernel, show c_msz [z_10, o_10] = 20 from rfl]; omega)
def i19p_h0 : c_Hp := [some (.inl (10, [.ref 1, .ref 4, .ref 23, .ref 25, .ref 28, .ref 31, .ref 34, .ref 37, .ref 39, .ref 41, .ref 52, .ref 55])),
  some (.inl (6, [.ref 2, .ref 3, .int 10, .int 0])),
  some (.inr (0, List.replicate 60 (.int 1))),
  some (.inr (0, List.replicate 60 (.int 0))),
  some (.inl (4, [.ref 5, .ref 14, .int 0, .int 0])),
  some (.inr (2, [.ref 6, .ref 7, .ref 8, .ref 9, .ref 10, .ref 11, .ref 12, .ref 13])),
  some (.inr (0, List.replicate 60 (.int 0))),
  some (.inr (0, List.replicate 60 (.int 0))),
  some (.inr (0, List.replicate 60 (.int 0))),
  some (.inr (0, List.replicate 60 (.int 0))),
  some (.inr (0, List.replicate 60 (.int 0))),
  some (.inr (0, List.replicate 60 (.int 0))),
  some (.inr (0, List.replicate 60 (.int 0))),
  some (.inr (0, List.replicate 60 (.int 0))),
  some (.inr (2, [.ref 15, .ref 16, .ref 17, .ref 18, .ref 19, .ref 20, .ref 21, .ref 22])),
  some (.inr (0, List.replicate 60 (.int 0))),
  some (.inr (0, List.replicate 60 (.int 0))),
  some (.inr (0, List.replicate 60 (.int 0))),
  some (.inr (0, List.replicate 60 (.int 0))),
  some (.inr (0, List.replicate 60 (.int 0))),
  some (.inr (0, List.replicate 60 (.int 0))),
  some (.inr (0, List.replicate 60 (.int 0))),
  some (.inr (0, List.replicate 60 (.int 0))),
  some (.inl (0, [.ref 24, .int 0])),
  some (.inr (0, List.replicate 60 (.int 0))),
  some (.inl (3, [.ref 26, .ref 27, .int 0])),
  some (.inr (0, List.replicate 120 (.int 0))),
  some (.inr (0, List.replicate 60 (.int 0))),
  some (.inl (7, [.ref 29, .ref 30, .int 0, .int 0])),
  some (.inr (0, List.replicate 60 (.int 0))),
  some (.inr (0, List.replicate 60 (.int 0))),
  some (.inl (8, [.ref 32, .ref 33])),
  some (.inr (0, [.int 0, .int 0, .int 0])),
  some (.inr (0, [.int 0, .int 0, .int 0])),
  some (.inl (1, [.ref 35, .ref 36, .int 0])),
  some (.inr (0, List.replicate 5 (.int 0))),
  some (.inr (0, List.replicate 5 (.int 0))),
  some (.inl (9, [.ref 38, .int 0])),
  some (.inr (0, List.replicate 6 (.int 0))),
  some (.inl (2, [.ref 40])),
  some (.inr (1, List.replicate 64 (.long 0))),
  some (.inl (5, [.ref 42, .ref 51])),
  some (.inr (2, [.ref 43, .ref 44, .ref 45, .ref 46, .ref 47, .ref 48, .ref 49, .ref 50])),
  some (.inr (0, List.replicate 6 (.int 0))),
  some (.inr (0, List.replicate 6 (.int 0))),
  some (.inr (0, List.replicate 6 (.int 0))),
  some (.inr (0, List.replicate 6 (.int 0))),
  some (.inr (0, List.replicate 6 (.int 0))),
  some (.inr (0, List.replicate 6 (.int 0))),
  some (.inr (0, List.replicate 6 (.int 0))),
  some (.inr (0, List.replicate 6 (.int 0))),
  some (.inr (0, List.replicate 6 (.int 0))),
  some (.inl (6, [.ref 53, .ref 54, .int 1, .int 0])),
  some (.inr (0, List.replicate 60 (.int 0))),
  some (.inr (0, List.replicate 60 (.int 0))),
  some (.inl (6, [.ref 56, .ref 57, .int 1, .int 0])),
  some (.inr (0, List.replicate 60 (.int 0))),
  some (.inr (0, List.replicate 60 (.int 0))),
  some (.inl (11, [.ref 59, .ref 60, .int 0, .ref 61, .ref 62, .ref 63, .ref 64, .int 0, .ref 65, .int 0, .ref 66, .int 0, .int 0])),
  some (.inr (0, List.replicate 10 (.int 1))),
  some (.inr (0, List.replicate 10 (.int 0))),
  some (.inl (12, [.int 0, .retAddr 1, .int 0])),
  some (.inl (12, [.int 0, .retAddr 1, .int 0])),
  some (.inr (0, List.replicate 5 (.int 0))),
  some (.inr (0, List.replicate 5 (.int 0))),
  some (.inr (0, List.replicate 6 (.int 0))),
  some (.inr (2, [.ref 67, .ref 68, .ref 69, .ref 70, .ref 71, .ref 72, .ref 73, .ref 74])),
  some (.inr (0, List.replicate 6 (.int 0))),
  some (.inr (0, List.replicate 6 (.int 0))),
  some (.inr (0, List.replicate 6 (.int 0))),
  some (.inr (0, List.replicate 6 (.int 0))),
  some (.inr (0, List.replicate 6 (.int 0))),
  some (.inr (0, List.replicate 6 (.int 0))),
  some (.inr (0, List.replicate 6 (.int 0))),
  some (.inr (0, List.replicate 6 (.int 0))),
  some (.inr (1, [.long 0])),
  some (.inr (5, [.double 0]))]
def i19p_h1 : c_Hp := [some (.inl (10, [.ref 1, .ref 4, .ref 23, .ref 25, .ref 28, .ref 31, .ref 34, .ref 37, .ref 39, .ref 41, .ref 52, .ref 55])),
  some (.inl (6, [.ref 2, .ref 3, .int 10, .int 0])),
  some (.inr (0, List.replicate 60 (.int 1))),
  some (.inr (0, List.replicate 60 (.int 0))),
  some (.inl (4, [.ref 5, .ref 14, .int 0, .int 0])),
  some (.inr (2, [.ref 6, .ref 7, .ref 8, .ref 9, .ref 10, .ref 11, .ref 12, .ref 13])),
  some (.inr (0, List.replicate 60 (.int 0))),
  some (.inr (0, List.replicate 60 (.int 0))),
  some (.inr (0, List.replicate 60 (.int 0))),
  some (.inr (0, List.replicate 60 (.int 0))),
  some (.inr (0, List.replicate 60 (.int 0))),
  some (.inr (0, List.replicate 60 (.int 0))),
  some (.inr (0, List.replicate 60 (.int 0))),
  some (.inr (0, List.replicate 60 (.int 0))),
  some (.inr (2, [.ref 15, .ref 16, .ref 17, .ref 18, .ref 19, .ref 20, .ref 21, .ref 22])),
  some (.inr (0, List.replicate 60 (.int 0))),
  some (.inr (0, List.replicate 60 (.int 0))),
  some (.inr (0, List.replicate 60 (.int 0))),
  some (.inr (0, List.replicate 60 (.int 0))),
  some (.inr (0, List.replicate 60 (.int 0))),
  some (.inr (0, List.replicate 60 (.int 0))),
  some (.inr (0, List.replicate 60 (.int 0))),
  some (.inr (0, List.replicate 60 (.int 0))),
  some (.inl (0, [.ref 24, .int 0])),
  some (.inr (0, List.replicate 60 (.int 0))),
  some (.inl (3, [.ref 26, .ref 27, .int 0])),
  some (.inr (0, List.replicate 120 (.int 0))),
  some (.inr (0, List.replicate 60 (.int 0))),
  some (.inl (7, [.ref 29, .ref 30, .int 0, .int 0])),
  some (.inr (0, List.replicate 60 (.int 0))),
  some (.inr (0, List.replicate 60 (.int 0))),
  some (.inl (8, [.ref 32, .ref 33])),
  some (.inr (0, [.int 0, .int 0, .int 0])),
  some (.inr (0, [.int 0, .int 0, .int 0])),
  some (.inl (1, [.ref 35, .ref 36, .int 0])),
  some (.inr (0, List.replicate 5 (.int 0))),
  some (.inr (0, List.replicate 5 (.int 0))),
  some (.inl (9, [.ref 38, .int 0])),
  some (.inr (0, List.replicate 6 (.int 0))),
  some (.inl (2, [.ref 40])),
  some (.inr (1, List.replicate 64 (.long 0))),
  some (.inl (5, [.ref 42, .ref 51])),
  some (.inr (2, [.ref 43, .ref 44, .ref 45, .ref 46, .ref 47, .ref 48, .ref 49, .ref 50])),
  some (.inr (0, List.replicate 6 (.int 0))),
  some (.inr (0, List.replicate 6 (.int 0))),
  some (.inr (0, List.replicate 6 (.int 0))),
  some (.inr (0, List.replicate 6 (.int 0))),
  some (.inr (0, List.replicate 6 (.int 0))),
  some (.inr (0, List.replicate 6 (.int 0))),
  some (.inr (0, List.replicate 6 (.int 0))),
  some (.inr (0, List.replicate 6 (.int 0))),
  some (.inr (0, List.replicate 6 (.int 0))),
  some (.inl (6, [.ref 53, .ref 54, .int 1, .int 0])),
  some (.inr (0, List.replicate 60 (.int 0))),
  some (.inr (0, List.replicate 60 (.int 0))),
  some (.inl (6, [.ref 56, .ref 57, .int 1, .int 0])),
  some (.inr (0, List.replicate 60 (.int 0))),
  some (.inr (0, List.replicate 60 (.int 0))),
  some (.inl (11, [.ref 59, .ref 60, .int 0, .ref 61, .ref 62, .ref 63, .ref 64, .int 0, .ref 65, .int 0, .ref 66, .int 0, .int 0])),
  some (.inr (0, List.replicate 10 (.int 1))),
  some (.inr (0, List.replicate 10 (.int 0))),
  some (.inl (12, [.int 0, .retAddr 1, .int 0])),
  some (.inl (12, [.int 0, .retAddr 1, .int 0])),
  some (.inr (0, List.replicate 5 (.int 0))),
  some (.inr (0, List.replicate 5 (.int 0))),
  some (.inr (0, List.replicate 6 (.int 0))),
  some (.inr (2, [.ref 67, .ref 68, .ref 69, .ref 70, .ref 71, .ref 72, .ref 73, .ref 74])),
  some (.inr (0, List.replicate 6 (.int 0))),
  some (.inr (0, List.replicate 6 (.int 0))),
  some (.inr (0, List.replicate 6 (.int 0))),
  some (.inr (0, List.replicate 6 (.int 0))),
  some (.inr (0, List.replicate 6 (.int 0))),
  some (.inr (0, List.replicate 6 (.int 0))),
  some (.inr (0, List.replicate 6 (.int 0))),
  some (.inr (0, List.replicate 6 (.int 0))),
  some (.inr (1, [.long 0])),
  some (.inr (5, [.double 0])),
  none]
def i19p_h2 : c_Hp := [some (.inl (10, [.ref 1, .ref 4, .ref 23, .ref 25, .ref 28, .ref 31, .ref 34, .ref 37, .ref 39, .ref 41, .ref 52, .ref 55])),
  some (.inl (6, [.ref 2, .ref 3, .int 10, .int 0])),
  some (.inr (0, List.replicate 60 (.int 1))),
  some (.inr (0, List.replicate 60 (.int 0))),
  some (.inl (4, [.ref 5, .ref 14, .int 0, .int 0])),
  some (.inr (2, [.ref 6, .ref 7, .ref 8, .ref 9, .ref 10, .ref 11, .ref 12, .ref 13])),
  some (.inr (0, List.replicate 60 (.int 0))),
  some (.inr (0, List.replicate 60 (.int 0))),
  some (.inr (0, List.replicate 60 (.int 0))),
  some (.inr (0, List.replicate 60 (.int 0))),
  some (.inr (0, List.replicate 60 (.int 0))),
  some (.inr (0, List.replicate 60 (.int 0))),
  some (.inr (0, List.replicate 60 (.int 0))),
  some (.inr (0, List.replicate 60 (.int 0))),
  some (.inr (2, [.ref 15, .ref 16, .ref 17, .ref 18, .ref 19, .ref 20, .ref 21, .ref 22])),
  some (.inr (0, List.replicate 60 (.int 0))),
  some (.inr (0, List.replicate 60 (.int 0))),
  some (.inr (0, List.replicate 60 (.int 0))),
  some (.inr (0, List.replicate 60 (.int 0))),
  some (.inr (0, List.replicate 60 (.int 0))),
  some (.inr (0, List.replicate 60 (.int 0))),
  some (.inr (0, List.replicate 60 (.int 0))),
  some (.inr (0, List.replicate 60 (.int 0))),
  some (.inl (0, [.ref 24, .int 0])),
  some (.inr (0, List.replicate 60 (.int 0))),
  some (.inl (3, [.ref 26, .ref 27, .int 0])),
  some (.inr (0, List.replicate 120 (.int 0))),
  some (.inr (0, List.replicate 60 (.int 0))),
  some (.inl (7, [.ref 29, .ref 30, .int 0, .int 0])),
  some (.inr (0, List.replicate 60 (.int 0))),
  some (.inr (0, List.replicate 60 (.int 0))),
  some (.inl (8, [.ref 32, .ref 33])),
  some (.inr (0, [.int 0, .int 0, .int 0])),
  some (.inr (0, [.int 0, .int 0, .int 0])),
  some (.inl (1, [.ref 35, .ref 36, .int 0])),
  some (.inr (0, List.replicate 5 (.int 0))),
  some (.inr (0, List.replicate 5 (.int 0))),
  some (.inl (9, [.ref 38, .int 0])),
  some (.inr (0, List.replicate 6 (.int 0))),
  some (.inl (2, [.ref 40])),
  some (.inr (1, List.replicate 64 (.long 0))),
  some (.inl (5, [.ref 42, .ref 51])),
  some (.inr (2, [.ref 43, .ref 44, .ref 45, .ref 46, .ref 47, .ref 48, .ref 49, .ref 50])),
  some (.inr (0, List.replicate 6 (.int 0))),
  some (.inr (0, List.replicate 6 (.int 0))),
  some (.inr (0, List.replicate 6 (.int 0))),
  some (.inr (0, List.replicate 6 (.int 0))),
  some (.inr (0, List.replicate 6 (.int 0))),
  some (.inr (0, List.replicate 6 (.int 0))),
  some (.inr (0, List.replicate 6 (.int 0))),
  some (.inr (0, List.replicate 6 (.int 0))),
  some (.inr (0, List.replicate 6 (.int 0))),
  some (.inl (6, [.ref 53, .ref 54, .int 1, .int 0])),
  some (.inr (0, List.replicate 60 (.int 0))),
  some (.inr (0, List.replicate 60 (.int 0))),
  some (.inl (6, [.ref 56, .ref 57, .int 1, .int 0])),
  some (.inr (0, List.replicate 60 (.int 0))),
  some (.inr (0, List.replicate 60 (.int 0))),
  some (.inl (11, [.ref 59, .ref 60, .int 0, .ref 61, .ref 62, .ref 63, .ref 64, .int 0, .ref 65, .int 0, .ref 66, .int 0, .int 0])),
  some (.inr (0, List.replicate 10 (.int 1))),
  some (.inr (0, List.replicate 10 (.int 0))),
  some (.inl (12, [.int 0, .retAddr 1, .int 0])),
  some (.inl (12, [.int 0, .retAddr 1, .int 0])),
  some (.inr (0, List.replicate 5 (.int 0))),
  some (.inr (0, List.replicate 5 (.int 0))),
  some (.inr (0, List.replicate 6 (.int 0))),
  some (.inr (2, [.ref 67, .ref 68, .ref 69, .ref 70, .ref 71, .ref 72, .ref 73, .ref 74])),
  some (.inr (0, List.replicate 6 (.int 0))),
  some (.inr (0, List.replicate 6 (.int 0))),
  some (.inr (0, List.replicate 6 (.int 0))),
  some (.inr (0, List.replicate 6 (.int 0))),
  some (.inr (0, List.replicate 6 (.int 0))),
  some (.inr (0, List.replicate 6 (.int 0))),
  some (.inr (0, List.replicate 6 (.int 0))),
  some (.inr (0, List.replicate 6 (.int 0))),
  some (.inr (1, [.long 0])),
  some (.inr (5, [.double 0])),
  none,
  some (.inr (0, List.replicate 11 (.int 0)))]
def i19p_h3 : c_Hp := [some (.inl (10, [.ref 1, .ref 4, .ref 23, .ref 25, .ref 28, .ref 31, .ref 34, .ref 37, .ref 39, .ref 41, .ref 52, .ref 55])),
  some (.inl (6, [.ref 2, .ref 3, .int 10, .int 0])),
  some (.inr (0, List.replicate 60 (.int 1))),
  some (.inr (0, List.replicate 60 (.int 0))),
  some (.inl (4, [.ref 5, .ref 14, .int 0, .int 0])),
  some (.inr (2, [.ref 6, .ref 7, .ref 8, .ref 9, .ref 10, .ref 11, .ref 12, .ref 13])),
  some (.inr (0, List.replicate 60 (.int 0))),
  some (.inr (0, List.replicate 60 (.int 0))),
  some (.inr (0, List.replicate 60 (.int 0))),
  some (.inr (0, List.replicate 60 (.int 0))),
  some (.inr (0, List.replicate 60 (.int 0))),
  some (.inr (0, List.replicate 60 (.int 0))),
  some (.inr (0, List.replicate 60 (.int 0))),
  some (.inr (0, List.replicate 60 (.int 0))),
  some (.inr (2, [.ref 15, .ref 16, .ref 17, .ref 18, .ref 19, .ref 20, .ref 21, .ref 22])),
  some (.inr (0, List.replicate 60 (.int 0))),
  some (.inr (0, List.replicate 60 (.int 0))),
  some (.inr (0, List.replicate 60 (.int 0))),
  some (.inr (0, List.replicate 60 (.int 0))),
  some (.inr (0, List.replicate 60 (.int 0))),
  some (.inr (0, List.replicate 60 (.int 0))),
  some (.inr (0, List.replicate 60 (.int 0))),
  some (.inr (0, List.replicate 60 (.int 0))),
  some (.inl (0, [.ref 24, .int 0])),
  some (.inr (0, List.replicate 60 (.int 0))),
  some (.inl (3, [.ref 26, .ref 27, .int 0])),
  some (.inr (0, List.replicate 120 (.int 0))),
  some (.inr (0, List.replicate 60 (.int 0))),
  some (.inl (7, [.ref 29, .ref 30, .int 0, .int 0])),
  some (.inr (0, List.replicate 60 (.int 0))),
  some (.inr (0, List.replicate 60 (.int 0))),
  some (.inl (8, [.ref 32, .ref 33])),
  some (.inr (0, [.int 0, .int 0, .int 0])),
  some (.inr (0, [.int 0, .int 0, .int 0])),
  some (.inl (1, [.ref 35, .ref 36, .int 0])),
  some (.inr (0, List.replicate 5 (.int 0))),
  some (.inr (0, List.replicate 5 (.int 0))),
  some (.inl (9, [.ref 38, .int 0])),
  some (.inr (0, List.replicate 6 (.int 0))),
  some (.inl (2, [.ref 40])),
  some (.inr (1, List.replicate 64 (.long 0))),
  some (.inl (5, [.ref 42, .ref 51])),
  some (.inr (2, [.ref 43, .ref 44, .ref 45, .ref 46, .ref 47, .ref 48, .ref 49, .ref 50])),
  some (.inr (0, List.replicate 6 (.int 0))),
  some (.inr (0, List.replicate 6 (.int 0))),
  some (.inr (0, List.replicate 6 (.int 0))),
  some (.inr (0, List.replicate 6 (.int 0))),
  some (.inr (0, List.replicate 6 (.int 0))),
  some (.inr (0, List.replicate 6 (.int 0))),
  some (.inr (0, List.replicate 6 (.int 0))),
  some (.inr (0, List.replicate 6 (.int 0))),
  some (.inr (0, List.replicate 6 (.int 0))),
  some (.inl (6, [.ref 53, .ref 54, .int 1, .int 0])),
  some (.inr (0, List.replicate 60 (.int 0))),
  some (.inr (0, List.replicate 60 (.int 0))),
  some (.inl (6, [.ref 56, .ref 57, .int 1, .int 0])),
  some (.inr (0, List.replicate 60 (.int 0))),
  some (.inr (0, List.replicate 60 (.int 0))),
  some (.inl (11, [.ref 59, .ref 60, .int 0, .ref 61, .ref 62, .ref 63, .ref 64, .int 0, .ref 65, .int 0, .ref 66, .int 0, .int 0])),
  some (.inr (0, List.replicate 10 (.int 1))),
  some (.inr (0, List.replicate 10 (.int 0))),
  some (.inl (12, [.int 0, .retAddr 1, .int 0])),
  some (.inl (12, [.int 0, .retAddr 1, .int 0])),
  some (.inr (0, List.replicate 5 (.int 0))),
  some (.inr (0, List.replicate 5 (.int 0))),
  some (.inr (0, List.replicate 6 (.int 0))),
  some (.inr (2, [.ref 67, .ref 68, .ref 69, .ref 70, .ref 71, .ref 72, .ref 73, .ref 74])),
  some (.inr (0, List.replicate 6 (.int 0))),
  some (.inr (0, List.replicate 6 (.int 0))),
  some (.inr (0, List.replicate 6 (.int 0))),
  some (.inr (0, List.replicate 6 (.int 0))),
  some (.inr (0, List.replicate 6 (.int 0))),
  some (.inr (0, List.replicate 6 (.int 0))),
  some (.inr (0, List.replicate 6 (.int 0))),
  some (.inr (0, List.replicate 6 (.int 0))),
  some (.inr (1, [.long 0])),
  some (.inr (5, [.double 0])),
  none,
  some (.inr (0, List.replicate 11 (.int 0))),
  some (.inl (12, [.int 0, .retAddr 1, .int 0]))]
def i19p_h4 : c_Hp := [some (.inl (10, [.ref 1, .ref 4, .ref 23, .ref 25, .ref 28, .ref 31, .ref 34, .ref 37, .ref 39, .ref 41, .ref 52, .ref 55])),
  some (.inl (6, [.ref 2, .ref 3, .int 10, .int 0])),
  some (.inr (0, List.replicate 60 (.int 1))),
  some (.inr (0, List.replicate 60 (.int 0))),
  some (.inl (4, [.ref 5, .ref 14, .int 0, .int 0])),
  some (.inr (2, [.ref 6, .ref 7, .ref 8, .ref 9, .ref 10, .ref 11, .ref 12, .ref 13])),
  some (.inr (0, List.replicate 60 (.int 0))),
  some (.inr (0, List.replicate 60 (.int 0))),
  some (.inr (0, List.replicate 60 (.int 0))),
  some (.inr (0, List.replicate 60 (.int 0))),
  some (.inr (0, List.replicate 60 (.int 0))),
  some (.inr (0, List.replicate 60 (.int 0))),
  some (.inr (0, List.replicate 60 (.int 0))),
  some (.inr (0, List.replicate 60 (.int 0))),
  some (.inr (2, [.ref 15, .ref 16, .ref 17, .ref 18, .ref 19, .ref 20, .ref 21, .ref 22])),
  some (.inr (0, List.replicate 60 (.int 0))),
  some (.inr (0, List.replicate 60 (.int 0))),
  some (.inr (0, List.replicate 60 (.int 0))),
  some (.inr (0, List.replicate 60 (.int 0))),
  some (.inr (0, List.replicate 60 (.int 0))),
  some (.inr (0, List.replicate 60 (.int 0))),
  some (.inr (0, List.replicate 60 (.int 0))),
  some (.inr (0, List.replicate 60 (.int 0))),
  some (.inl (0, [.ref 24, .int 0])),
  some (.inr (0, List.replicate 60 (.int 0))),
  some (.inl (3, [.ref 26, .ref 27, .int 0])),
  some (.inr (0, List.replicate 120 (.int 0))),
  some (.inr (0, List.replicate 60 (.int 0))),
  some (.inl (7, [.ref 29, .ref 30, .int 0, .int 0])),
  some (.inr (0, List.replicate 60 (.int 0))),
  some (.inr (0, List.replicate 60 (.int 0))),
  some (.inl (8, [.ref 32, .ref 33])),
  some (.inr (0, [.int 0, .int 0, .int 0])),
  some (.inr (0, [.int 0, .int 0, .int 0])),
  some (.inl (1, [.ref 35, .ref 36, .int 0])),
  some (.inr (0, List.replicate 5 (.int 0))),
  some (.inr (0, List.replicate 5 (.int 0))),
  some (.inl (9, [.ref 38, .int 0])),
  some (.inr (0, List.replicate 6 (.int 0))),
  some (.inl (2, [.ref 40])),
  some (.inr (1, List.replicate 64 (.long 0))),
  some (.inl (5, [.ref 42, .ref 51])),
  some (.inr (2, [.ref 43, .ref 44, .ref 45, .ref 46, .ref 47, .ref 48, .ref 49, .ref 50])),
  some (.inr (0, List.replicate 6 (.int 0))),
  some (.inr (0, List.replicate 6 (.int 0))),
  some (.inr (0, List.replicate 6 (.int 0))),
  some (.inr (0, List.replicate 6 (.int 0))),
  some (.inr (0, List.replicate 6 (.int 0))),
  some (.inr (0, List.replicate 6 (.int 0))),
  some (.inr (0, List.replicate 6 (.int 0))),
  some (.inr (0, List.replicate 6 (.int 0))),
  some (.inr (0, List.replicate 6 (.int 0))),
  some (.inl (6, [.ref 53, .ref 54, .int 1, .int 0])),
  some (.inr (0, List.replicate 60 (.int 0))),
  some (.inr (0, List.replicate 60 (.int 0))),
  some (.inl (6, [.ref 56, .ref 57, .int 1, .int 0])),
  some (.inr (0, List.replicate 60 (.int 0))),
  some (.inr (0, List.replicate 60 (.int 0))),
  some (.inl (11, [.ref 59, .ref 60, .int 0, .ref 61, .ref 62, .ref 63, .ref 64, .int 0, .ref 65, .int 0, .ref 66, .int 0, .int 3])),
  some (.inr (0, List.replicate 10 (.int 1))),
  some (.inr (0, List.replicate 10 (.int 0))),
  some (.inl (12, [.int 0, .retAddr 1, .int 0])),
  some (.inl (12, [.int 0, .retAddr 1, .int 0])),
  some (.inr (0, List.replicate 5 (.int 0))),
  some (.inr (0, List.replicate 5 (.int 0))),
  some (.inr (0, List.replicate 6 (.int 0))),
  some (.inr (2, [.ref 67, .ref 68, .ref 69, .ref 70, .ref 71, .ref 72, .ref 73, .ref 74])),
  some (.inr (0, List.replicate 6 (.int 0))),
  some (.inr (0, List.replicate 6 (.int 0))),
  some (.inr (0, List.replicate 6 (.int 0))),
  some (.inr (0, List.replicate 6 (.int 0))),
  some (.inr (0, List.replicate 6 (.int 0))),
  some (.inr (0, List.replicate 6 (.int 0))),
  some (.inr (0, List.replicate 6 (.int 0))),
  some (.inr (0, List.replicate 6 (.int 0))),
  some (.inr (1, [.long 0])),
  some (.inr (5, [.double 0])),
  none,
  some (.inr (0, List.replicate 11 (.int 0))),
  some (.inl (12, [.int 0, .retAddr 1, .int 0]))]
theorem i19p_1 : c_pre ([(3, .retAddr 10, .int 63, .int 19)], x_xs) 38 c_m259 18 38 [some (.retAddr 0), some (.ref 0), some (.ref 58), some (.ref 75), some (.ref 76), some (.int 0), none, none, none] [] i19p_h0 = some (1311, [some (.retAddr 0), some (.ref 0), some (.ref 58), some (.ref 75), some (.ref 76), some (.int 0), none, none, none], [.ref 75, .retAddr 12, .retAddr 11, .ref 0], i19p_h0) := c_eqR_ok (by decide +kernel)
theorem i19p_2 : c_pre ([], x_xs) 25 c_m209 5 0 [some (.ref 0), some (.retAddr 11), some (.retAddr 12), some (.ref 75), none] [] i19p_h0 = some (5, [some (.ref 0), some (.retAddr 11), some (.retAddr 12), some (.ref 75), none], [.retAddr 12, .retAddr 11, .ref 0, .int 0, .ref 75], i19p_h0) := c_eqR_ok (by decide +kernel)
theorem i19p_3 : c_pre ([], x_xs) 22 c_m20 2 0 [some (.ref 0), some (.retAddr 11), some (.retAddr 12)] [] i19p_h0 = some (2, [some (.ref 0), some (.retAddr 11), some (.retAddr 12)], [.retAddr 11, .ref 0], i19p_h0) := c_eqR_ok (by decide +kernel)
theorem i19p_4 : c_pre ([(22, .retAddr 11, .int 0, .int 0), (25, .retAddr 11, .int 99, .int 1)], x_xs) 175 c_m51 11 0 [some (.ref 0), some (.retAddr 11)] [] i19p_h0 = some (20, [some (.ref 0), some (.retAddr 11)], [.retAddr 11, .ref 1, .ref 28], i19p_h0) := c_eqR_ok (by decide +kernel)
theorem i19p_5 : c_pre ([], x_xs) 141 c_m179 121 0 [some (.ref 28), some (.ref 1), some (.retAddr 11), none] [] i19p_h0 = some (52, [some (.ref 28), some (.ref 1), some (.retAddr 11), some (.int 0)], [], i19p_h0) := c_eqR_ok (by decide +kernel)
theorem i19p_6 : c_callee c_m51 20 [.retAddr 11, .ref 1, .ref 28] i19p_h0 = some (179, [some (.ref 28), some (.ref 1), some (.retAddr 11), none], []) := c_eqC_ok (by decide +kernel)
theorem i19p_7 : c_go c_P ([], x_xs) 21 c_m51 23 [some (.ref 0), some (.retAddr 11)] [] i19p_h0 = some (.inl none, i19p_h0) := c_eqO_ok (by decide +kernel)
theorem i19p_8 : c_callee c_m20 2 [.retAddr 11, .ref 0] i19p_h0 = some (51, [some (.ref 0), some (.retAddr 11)], []) := c_eqC_ok (by decide +kernel)
theorem i19p_9 : c_go c_P ([], x_xs) 43 c_m20 5 [some (.ref 0), some (.retAddr 11), some (.retAddr 12)] [] i19p_h0 = some (.inr 3, i19p_h1) := c_eqX_ok (by decide +kernel)
theorem i19p_10 : c_callee c_m209 5 [.retAddr 12, .retAddr 11, .ref 0, .int 0, .ref 75] i19p_h0 = some (20, [some (.ref 0), some (.retAddr 11), some (.retAddr 12)], [.int 0, .ref 75]) := c_eqC_ok (by decide +kernel)
theorem i19p_10x : c_catS c_m209 5 3 [some (.ref 0), some (.retAddr 11), some (.retAddr 12), some (.ref 75), none] = some (23, [some (.ref 0), some (.retAddr 11), some (.retAddr 12), some (.ref 75), none]) := c_eqS_ok (by decide +kernel)
theorem i19p_11 : c_go c_P ([], x_xs) 22 c_m209 23 [some (.ref 0), some (.retAddr 11), some (.retAddr 12), some (.ref 75), none] [] i19p_h1 = some (.inl (some (.int 3)), i19p_h1) := c_eqO_ok (by decide +kernel)
theorem i19p_12 : c_callee c_m259 1311 [.ref 75, .retAddr 12, .retAddr 11, .ref 0] i19p_h0 = some (209, [some (.ref 0), some (.retAddr 11), some (.retAddr 12), some (.ref 75), none], []) := c_eqC_ok (by decide +kernel)
theorem i19p_13 : c_pre ([], x_xs) 32 c_m259 12 1314 [some (.retAddr 0), some (.ref 0), some (.ref 58), some (.ref 75), some (.ref 76), some (.int 0), none, none, none] [.int 3] i19p_h1 = some (1329, [some (.retAddr 0), some (.ref 0), some (.ref 58), some (.ref 75), some (.ref 76), some (.int 0), some (.int 3), none, none], [.retAddr 12, .retAddr 11, .ref 58], i19p_h1) := c_eqR_ok (by decide +kernel)
theorem i19p_14 : c_pre ([], x_xs) 24 c_m105 4 0 [some (.ref 58), some (.retAddr 11), some (.retAddr 12)] [] i19p_h1 = some (4, [some (.ref 58), some (.retAddr 11), some (.retAddr 12)], [.int 0, .retAddr 12, .retAddr 11, .ref 58], i19p_h1) := c_eqR_ok (by decide +kernel)
theorem i19p_15 : c_pre ([(22, .retAddr 11, .int 0, .int 0), (24, .retAddr 11, .int 99, .int 0)], x_xs) 229 c_m103 6 0 [some (.ref 58), some (.retAddr 11), some (.retAddr 12), some (.int 0), none] [] i19p_h1 = some (12, [some (.ref 58), some (.retAddr 11), some (.retAddr 12), some (.int 0), none], [.retAddr 11, .ref 58], i19p_h1) := c_eqR_ok (by decide +kernel)
theorem i19p_16 : c_pre ([], x_xs) 22 c_m100 2 0 [some (.ref 58), some (.retAddr 11), none, none, none, none] [] i19p_h1 = some (2, [some (.ref 58), some (.retAddr 11), none, none, none, none], [.retAddr 11, .ref 58], i19p_h1) := c_eqR_ok (by decide +kernel)
theorem i19p_17 : c_pre ([], x_xs) 25 c_m99 5 0 [some (.ref 58), some (.retAddr 11), none, none, none] [] i19p_h1 = some (7, [some (.ref 58), some (.retAddr 11), some (.ref 60), some (.int 0), none], [], i19p_h1) := c_eqR_ok (by decide +kernel)
theorem i19p_18 : c_callee c_m100 2 [.retAddr 11, .ref 58] i19p_h1 = some (99, [some (.ref 58), some (.retAddr 11), none, none, none], []) := c_eqC_ok (by decide +kernel)
theorem i19p_19 : c_go c_P ([], x_xs) 270 c_m100 5 [some (.ref 58), some (.retAddr 11), none, none, none, none] [.ref 78] i19p_h2 = some (.inl (some (.ref 79)), i19p_h3) := c_eqO_ok (by decide +kernel)
theorem i19p_20 : c_callee c_m103 12 [.retAddr 11, .ref 58] i19p_h1 = some (100, [some (.ref 58), some (.retAddr 11), none, none, none, none], []) := c_eqC_ok (by decide +kernel)
theorem i19p_21 : c_go c_P ([(22, .retAddr 12, .int 0, .int 0), (24, .retAddr 12, .int (-1), .int 1)], x_xs) 57 c_m103 15 [some (.ref 58), some (.retAddr 11), some (.retAddr 12), some (.int 0), none] [.ref 79] i19p_h3 = some (.inl (some (.int 0)), i19p_h4) := c_eqO_ok (by decide +kernel)
theorem i19p_22 : c_callee c_m105 4 [.int 0, .retAddr 12, .retAddr 11, .ref 58] i19p_h1 = some (103, [some (.ref 58), some (.retAddr 11), some (.retAddr 12), some (.int 0), none], []) := c_eqC_ok (by decide +kernel)
theorem i19p_23 : c_go c_P ([], x_xs) 21 c_m105 7 [some (.ref 58), some (.retAddr 11), some (.retAddr 12)] [.int 0] i19p_h4 = some (.inl (some (.int 0)), i19p_h4) := c_eqO_ok (by decide +kernel)
theorem i19p_24 : c_callee c_m259 1329 [.retAddr 12, .retAddr 11, .ref 58] i19p_h1 = some (105, [some (.ref 58), some (.retAddr 11), some (.retAddr 12)], []) := c_eqC_ok (by decide +kernel)
theorem i19p_25 : c_go c_P ([], x_xs) 41 c_m259 1332 [some (.retAddr 0), some (.ref 0), some (.ref 58), some (.ref 75), some (.ref 76), some (.int 0), some (.int 3), none, none] [.int 0] i19p_h4 = some (.inl (some (.int 1)), i19p_h4) := c_eqO_ok (by decide +kernel)
theorem i19p_w : c_pre ([(23, .retAddr 16, .retAddr 11, .int 0), (0, .retAddr 16, .int 1, .retAddr 17)], x_xs) 100 c_m179 7 52 [some (.ref 28), some (.ref 1), some (.retAddr 11), some (.retAddr 16)] [] i19p_h0 = some (52, [some (.ref 28), some (.ref 1), some (.retAddr 11), some (.retAddr 17)], [], i19p_h0) := c_eqR_ok (by decide +kernel)
theorem i19p_wx : c_go c_P ([(23, .retAddr 16, .retAddr 11, .int 1)], x_xs) 100 c_m179 52 [some (.ref 28), some (.ref 1), some (.retAddr 11), some (.retAddr 16)] [] i19p_h0 = some (.inl none, i19p_h0) := c_eqO_ok (by decide +kernel)
theorem i19p_walk {a0 a2 a3 a4 a5 : Int32} {s : Nat} (hs : s < 100) : ∀ (j i : Nat), i + j = s → c_T [a0, Int32.ofNat s, a2, a3, a4, a5] c_m179 52 [some (.ref 28), some (.ref 1), some (.int (Int32.ofNat s)), some (.int (Int32.ofNat i))] [] i19p_h0 (.inl none, i19p_h0)
  | 0, i, e => by
    have F : ∀ f ∈ ([(23, .retAddr 16, .retAddr 11, .int 1)] : List c_F), c_hold (c_BB [a0, Int32.ofNat s, a2, a3, a4, a5] [Int32.ofNat i]) f := (List.forall_mem_cons.mpr ⟨o_ge1 (i := i) (s := s) rfl rfl (by omega) (by omega) (by omega), fun _ h => nomatch h⟩)
    exact (x_Run.fin F i19p_wx).t rfl rfl rfl rfl
  | j + 1, i, e => by
    have F : ∀ f ∈ ([(23, .retAddr 16, .retAddr 11, .int 0), (0, .retAddr 16, .int 1, .retAddr 17)] : List c_F), c_hold (c_BB [a0, Int32.ofNat s, a2, a3, a4, a5] [Int32.ofNat i, Int32.ofNat (i + 1)]) f := (List.forall_mem_cons.mpr ⟨o_ge (i := i) (s := s) rfl rfl (by omega) (by omega) (by omega), List.forall_mem_cons.mpr ⟨o_inc (i := i) rfl rfl, fun _ h => nomatch h⟩⟩)
    have ih := i19p_walk (a0 := a0) (a2 := a2) (a3 := a3) (a4 := a4) (a5 := a5) hs j (i + 1) (by omega)
    exact (x_Run.pre F i19p_w (ih.x (x := [Int32.ofNat i, Int32.ofNat (i + 1)]) rfl rfl rfl)).t rfl rfl rfl rfl
theorem i19p_t0 : c_pre ([(23, .int 0, .retAddr 11, .int 0)], x_xs) 1000 c_m99 22 7 [some (.ref 58), some (.retAddr 11), some (.ref 60), some (.int 0), none] [] i19p_h1 = some (7, [some (.ref 58), some (.retAddr 11), some (.ref 78), some (.int 1), some (.int 0)], [], i19p_h1 ++ [z_10, o_10]) := c_eqR_ok (by decide +kernel)
theorem i19p_t0x : c_go c_P ([(23, .int 0, .retAddr 11, .int 1)], x_xs) 1000 c_m99 7 [some (.ref 58), some (.retAddr 11), some (.ref 60), some (.int 0), none] [] i19p_h1 = some (.inl (some (.ref 78)), i19p_h1 ++ [z_11]) := c_eqO_ok (by decide +kernel)
theorem i19p_t : c_pre ([(23, .retAddr 16, .retAddr 11, .int 0), (0, .retAddr 16, .int 1, .retAddr 17)], x_xs) 1000 c_m99 22 7 [some (.ref 58), some (.retAddr 11), some (.ref 78), some (.retAddr 16), some (.int 0)] [] (i19p_h1 ++ [z_10, o_10]) = some (7, [some (.ref 58), some (.retAddr 11), some (.ref 80), some (.retAddr 17), some (.int 0)], [], i19p_h1 ++ [z_10, o_10, z_10, o_10]) := c_eqR_ok (by decide +kernel)
theorem i19p_tx : c_go c_P ([(23, .retAddr 16, .retAddr 11, .int 1)], x_xs) 1000 c_m99 7 [some (.ref 58), some (.retAddr 11), some (.ref 78), some (.retAddr 16), some (.int 0)] [] (i19p_h1 ++ [z_10, o_10]) = some (.inl (some (.ref 80)), i19p_h1 ++ [z_10, o_10, z_11]) := c_eqO_ok (by decide +kernel)
theorem i19p_gh (G t : c_Hp) (ht : ∀ d, t.map (g_c 78 d) = t) {a0 a1 a2 a3 a4 a5 : Int32} {x : List Int32} (hG : s_h (c_BB [a0, a1, a2, a3, a4, a5] x) G = G) (h2 : s_h (c_BB [a0, a1, a2, a3, a4, a5] x) t = t) : s_h (c_BB [a0, a1, a2, a3, a4, a5] x) (g_h 78 G (i19p_h1 ++ t)) = i19p_h1 ++ (G ++ t) := by
  have h1 : ∀ a b : c_Hp, s_h (c_BB [a0, a1, a2, a3, a4, a5] x) (a ++ b) = s_h (c_BB [a0, a1, a2, a3, a4, a5] x) a ++ s_h (c_BB [a0, a1, a2, a3, a4, a5] x) b := fun a b => List.map_append
  have e1 : i19p_h1.map (g_c 78 G.length) = i19p_h1 := rfl
  have e2 : s_h (c_BB [a0, a1, a2, a3, a4, a5] x) i19p_h1 = i19p_h1 := rfl
  rw [g_h_s (show i19p_h1.length = 78 from rfl), e1, ht, h1, h1, hG, h2, e2]
theorem i19p_th {a0 a2 a3 a4 a5 : Int32} {s : Nat} (hs : s < 100) : ∀ (j i : Nat), i + 1 + j = s → c_T [a0, Int32.ofNat s, a2, a3, a4, a5] c_m99 7 [some (.ref 58), some (.int (Int32.ofNat s)), some (.ref (78 + (t_G [z_10, o_10] i).length)), some (.int (Int32.ofNat (i + 1))), some (.int 0)] [] (i19p_h1 ++ (t_G [z_10, o_10] i ++ [z_10, o_10])) (.inl (some (.ref (78 + (t_G [z_10, o_10] s).length))), i19p_h1 ++ (t_G [z_10, o_10] s ++ [z_11]))
  | 0, i, e => by
    have F : ∀ f ∈ ([(23, .retAddr 16, .retAddr 11, .int 1)] : List c_F), c_hold (c_BB [a0, Int32.ofNat s, a2, a3, a4, a5] [Int32.ofNat (i + 1)]) f := (List.forall_mem_cons.mpr ⟨o_ge1 (i := i + 1) (s := s) rfl rfl (by omega) (by omega) (by omega), fun _ h => nomatch h⟩)
    refine (x_Run.fing (n := 78) (t_G [z_10, o_10] i) F (by decide) i19p_tx).t rfl rfl (i19p_gh _ _ (fun _ => rfl) (t_G_b _ rfl i) rfl) ?_
    rw [i19p_gh _ _ (fun _ => rfl) (t_G_b _ rfl i) rfl]
    have e0 : s = i + 1 := by omega
    subst e0
    rw [t_G_s, List.length_append, List.append_assoc]
    show (Sum.inl (some (Value.ref (g_p 78 (t_G [z_10, o_10] i).length 80))), _) = (Sum.inl (some (Value.ref (78 + ((t_G [z_10, o_10] i).length + 2)))), _)
    have e1 : g_p 78 (t_G [z_10, o_10] i).length 80 = 78 + ((t_G [z_10, o_10] i).length + 2) := by
      unfold g_p
      rw [if_neg (by decide)]
      omega
    rw [e1]
    rfl
  | j + 1, i, e => by
    have F : ∀ f ∈ ([(23, .retAddr 16, .retAddr 11, .int 0), (0, .retAddr 16, .int 1, .retAddr 17)] : List c_F), c_hold (c_BB [a0, Int32.ofNat s, a2, a3, a4, a5] [Int32.ofNat (i + 1), Int32.ofNat (i + 1 + 1)]) f := (List.forall_mem_cons.mpr ⟨o_ge (i := i + 1) (s := s) rfl rfl (by omega) (by omega) (by omega), List.forall_mem_cons.mpr ⟨o_inc (i := i + 1) rfl rfl, fun _ h => nomatch h⟩⟩)
    have ih := i19p_th (a0 := a0) (a2 := a2) (a3 := a3) (a4 := a4) (a5 := a5) hs j (i + 1) (by omega)
    refine (x_Run.preg (n := 78) (t_G [z_10, o_10] i) F (by decide) i19p_t (ih.x (x := [Int32.ofNat (i + 1), Int32.ofNat (i + 1 + 1)]) ?_ rfl ?_)).t rfl rfl (i19p_gh _ _ (fun _ => rfl) (t_G_b _ rfl i) rfl) rfl
    · have e1 : g_p 78 (t_G [z_10, o_10] i).length 80 = 78 + (t_G [z_10, o_10] (i + 1)).length := by
        unfold g_p
        rw [if_neg (by decide), t_G_s, List.length_append]
        show _ = 78 + ((t_G [z_10, o_10] i).length + 2)
        omega
      rw [← e1]
      rfl
    · rw [i19p_gh _ _ (fun _ => rfl) (t_G_b _ rfl i) rfl, t_G_s, List.append_assoc]
      rfl
theorem i19p_thought {a0 a2 a3 a4 a5 : Int32} {s : Nat} (hs : s < 100) : x_Run (c_BB [a0, Int32.ofNat s, a2, a3, a4, a5] []) x_xs c_m99 7 [some (.ref 58), some (.retAddr 11), some (.ref 60), some (.int 0), none] [] i19p_h1 (.inl ((Option.map (g_v 78 (t_G [z_10, o_10] s).length) (some (.ref 78))).map (s_v (c_BB [a0, Int32.ofNat s, a2, a3, a4, a5] []))), s_h (c_BB [a0, Int32.ofNat s, a2, a3, a4, a5] []) (g_h 78 (t_G [z_10, o_10] s) i19p_h2)) := by
  have er : ((.inl (some (.ref (78 + (t_G [z_10, o_10] s).length))), i19p_h1 ++ (t_G [z_10, o_10] s ++ [z_11])) : c_O × c_Hp) = (.inl ((Option.map (g_v 78 (t_G [z_10, o_10] s).length) (some (.ref 78))).map (s_v (c_BB [a0, Int32.ofNat s, a2, a3, a4, a5] []))), s_h (c_BB [a0, Int32.ofNat s, a2, a3, a4, a5] []) (g_h 78 (t_G [z_10, o_10] s) i19p_h2)) := by
    rw [show i19p_h2 = i19p_h1 ++ [z_11] from rfl, i19p_gh _ _ (fun _ => rfl) (t_G_b _ rfl s) rfl]
    rfl
  rw [← er]
  match s, hs with
  | 0, hs =>
    have F : ∀ f ∈ ([(23, .int 0, .retAddr 11, .int 1)] : List c_F), c_hold (c_BB [a0, Int32.ofNat 0, a2, a3, a4, a5] []) f := List.forall_mem_cons.mpr ⟨o_ge1 (i := 0) (s := 0) rfl rfl (by omega) (by omega) (by omega), fun _ h => nomatch h⟩
    exact x_Run.fin F i19p_t0x
  | s + 1, hs =>
    have F : ∀ f ∈ ([(23, .int 0, .retAddr 11, .int 0)] : List c_F), c_hold (c_BB [a0, Int32.ofNat (s + 1), a2, a3, a4, a5] []) f := List.forall_mem_cons.mpr ⟨o_ge (i := 0) (s := s + 1) rfl rfl (by omega) (by omega) (by omega), fun _ h => nomatch h⟩
    exact x_Run.pre F i19p_t0 ((i19p_th hs s 0 (by omega)).x rfl rfl rfl)
theorem i19p_all {a0 a2 a3 a4 a5 : Int32} {s : Nat} (hs : s < 100) (h0 : a0 &&& 63 = 19) (r0 : 0 ≤ (Int32.ofNat s).toInt) (r1 : (Int32.ofNat s).toInt ≤ 99) (r2 : 0 ≤ a2.toInt) : c_Goal [a0, Int32.ofNat s, a2, a3, a4, a5] := by
  have F0 : ∀ f ∈ ([(3, .retAddr 10, .int 63, .int 19)] : List c_F), c_hold (c_BB [a0, Int32.ofNat s, a2, a3, a4, a5] []) f := (List.forall_mem_cons.mpr ⟨⟨a0, 63, 19, rfl, rfl, congrArg some h0, rfl⟩, (fun _ h => nomatch h)⟩)
  have F1 : ∀ f ∈ ([] : List c_F), c_hold (c_BB [a0, Int32.ofNat s, a2, a3, a4, a5] []) f := (fun _ h => nomatch h)
  have F2 : ∀ f ∈ ([(22, .retAddr 11, .int 0, .int 0), (25, .retAddr 11, .int 99, .int 1)] : List c_F), c_hold (c_BB [a0, Int32.ofNat s, a2, a3, a4, a5] []) f := (List.forall_mem_cons.mpr ⟨f_cmp (cd := .lt) (a := (Int32.ofNat s)) (b := 0) (t := false) rfl rfl ((k_lt rfl (by decide : (0 : Int32).toInt = 0)).trans (decide_eq_false (by omega))), (List.forall_mem_cons.mpr ⟨f_cmp (cd := .le) (a := (Int32.ofNat s)) (b := 99) (t := true) rfl rfl ((k_le rfl (by decide : (99 : Int32).toInt = 99)).trans (decide_eq_true (by omega))), (fun _ h => nomatch h)⟩)⟩)
  have F3 : ∀ f ∈ ([(22, .retAddr 11, .int 0, .int 0), (24, .retAddr 11, .int 99, .int 0)] : List c_F), c_hold (c_BB [a0, Int32.ofNat s, a2, a3, a4, a5] []) f := (List.forall_mem_cons.mpr ⟨f_cmp (cd := .lt) (a := (Int32.ofNat s)) (b := 0) (t := false) rfl rfl ((k_lt rfl (by decide : (0 : Int32).toInt = 0)).trans (decide_eq_false (by omega))), (List.forall_mem_cons.mpr ⟨f_cmp (cd := .gt) (a := (Int32.ofNat s)) (b := 99) (t := false) rfl rfl ((k_gt rfl (by decide : (99 : Int32).toInt = 99)).trans (decide_eq_false (by omega))), (fun _ h => nomatch h)⟩)⟩)
  have F4 : ∀ f ∈ ([(22, .retAddr 12, .int 0, .int 0), (24, .retAddr 12, .int (-1), .int 1)] : List c_F), c_hold (c_BB [a0, Int32.ofNat s, a2, a3, a4, a5] []) f := (List.forall_mem_cons.mpr ⟨f_cmp (cd := .lt) (a := a2) (b := 0) (t := false) rfl rfl ((k_lt rfl (by decide : (0 : Int32).toInt = 0)).trans (decide_eq_false (by omega))), (List.forall_mem_cons.mpr ⟨f_cmp (cd := .gt) (a := a2) (b := (-1)) (t := true) rfl rfl ((k_gt rfl (by decide : ((-1) : Int32).toInt = (-1))).trans (decide_eq_true (by omega))), (fun _ h => nomatch h)⟩)⟩)
  exact x_goal (x := []) (x_Run.pre F0 i19p_1 (x_Run.call (mz := c_m209) (v := (some (.int 3))) (h1 := i19p_h1) i19p_12 rfl (x_Run.pre F1 i19p_2 (x_Run.callx (mz := c_m20) (h1 := i19p_h1) i19p_10 rfl (x_Run.pre F1 i19p_3 (x_Run.call (mz := c_m51) (v := none) (h1 := i19p_h0) i19p_8 rfl (x_Run.pre F2 i19p_4 (x_Run.call (mz := c_m179) (v := none) (h1 := i19p_h0) i19p_6 rfl (x_Run.pre F1 i19p_5 ((i19p_walk hs s 0 (by omega)).x rfl rfl rfl)) (x_Run.fin F1 i19p_7))) (x_Run.finx F1 i19p_9))) i19p_10x (x_Run.fin F1 i19p_11))) (x_Run.pre F1 i19p_13 (x_Run.call (mz := c_m105) (v := (Option.map (g_v 78 ((t_G [z_10, o_10] s)).length) (some (.int 0)))) (h1 := g_h 78 (t_G [z_10, o_10] s) i19p_h4) i19p_24 rfl (x_Run.pre F1 i19p_14 (x_Run.call (mz := c_m103) (v := (Option.map (g_v 78 ((t_G [z_10, o_10] s)).length) (some (.int 0)))) (h1 := g_h 78 (t_G [z_10, o_10] s) i19p_h4) i19p_22 rfl (x_Run.pre F3 i19p_15 (x_Run.call (mz := c_m100) (v := (Option.map (g_v 78 ((t_G [z_10, o_10] s)).length) (some (.ref 79)))) (h1 := g_h 78 (t_G [z_10, o_10] s) i19p_h3) i19p_20 rfl (x_Run.pre F1 i19p_16 (x_Run.call (mz := c_m99) (v := (Option.map (g_v 78 ((t_G [z_10, o_10] s)).length) (some (.ref 78)))) (h1 := g_h 78 (t_G [z_10, o_10] s) i19p_h2) i19p_18 rfl (x_Run.pre F1 i19p_17 (i19p_thought hs)) (x_Run.fing (n := 78) (t_G [z_10, o_10] s) F1 (by decide) i19p_19))) (x_Run.fing (n := 78) (t_G [z_10, o_10] s) F4 (by decide) i19p_21))) (x_Run.fing (n := 78) (t_G [z_10, o_10] s) F1 (by decide) i19p_23))) (x_Run.fing (n := 78) (t_G [z_10, o_10] s) F1 (by decide) i19p_25))))) (by rw [s_lenH, g_lenH (by decide), t_G_l, show i19p_h4.length = 80 from rfl]; show 80 + s * 2 ≤ 927443; omega) (by rw [s_msz, g_msz, t_G_m, show c_msz i19p_h4 = 2024 from by decide +kernel, show c_msz [z_10, o_10] = 20 from rfl]; omega)
theorem h17 {a0 a1 a2 a3 a4 a5 : Int32} (h0 : a0 &&& 63 = 17) (r0 : 0 ≤ a1.toInt) (r1 : a1.toInt ≤ 99) : c_Goal [a0, a1, a2, a3, a4, a5] := by
  obtain ⟨s, hs, e⟩ := v_of (a := a1) 0 100 (by omega) (by omega) (by decide)
  rw [Nat.zero_add] at e
  subst e
  exact i17_all hs h0 r0 r1
theorem h18 {a0 a1 a2 a3 a4 a5 : Int32} (h0 : a0 &&& 63 = 18) (r0 : 0 ≤ a1.toInt) (r1 : a1.toInt ≤ 99) : c_Goal [a0, a1, a2, a3, a4, a5] := by
  obtain ⟨s, hs, e⟩ := v_of (a := a1) 0 100 (by omega) (by omega) (by decide)
  rw [Nat.zero_add] at e
  subst e
  by_cases r2 : a2.toInt < 0
  · exact i18n_all hs h0 r0 r1 r2
  · exact i18p_all hs h0 r0 r1 (by omega)
theorem h19 {a0 a1 a2 a3 a4 a5 : Int32} (h0 : a0 &&& 63 = 19) (r0 : 0 ≤ a1.toInt) (r1 : a1.toInt ≤ 99) : c_Goal [a0, a1, a2, a3, a4, a5] := by
  obtain ⟨s, hs, e⟩ := v_of (a := a1) 0 100 (by omega) (by omega) (by decide)
  rw [Nat.zero_add] at e
  subst e
  by_cases r2 : a2.toInt < 0
  · exact i19n_all hs h0 r0 r1 r2
  · exact i19p_all hs h0 r0 r1 (by omega)
