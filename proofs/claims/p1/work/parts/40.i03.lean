set_option maxRecDepth 100000
theorem i40_16 : c_pre ([], x_xs) 14152 c_m165 122 25 [some (.ref 41), some (.int 5), some (.int 2)] [.int 2, .int 5, .ref 41, .int 0] i40_h1 = some (25, [some (.ref 41), some (.int 6), some (.int 4)], [.int 4, .int 6, .ref 41, .int 0], i40_h1) := c_eqR_ok (by decide +kernel)
theorem i40_17 : c_pre ([], x_xs) 13327 c_m165 104 25 [some (.ref 41), some (.int 6), some (.int 4)] [.int 4, .int 6, .ref 41, .int 0] i40_h1 = some (19, [some (.ref 41), some (.int 7), some (.int 5)], [.int 5, .int 7, .ref 41], i40_h1) := c_eqR_ok (by decide +kernel)
theorem i40_18 : c_go c_P ([], x_xs) 3447 c_m165 19 [some (.ref 41), some (.int 7), some (.int 5)] [.int 5, .int 7, .ref 41] i40_h1 = some (.inl (some (.int 1)), i40_h1) := c_eqO_ok (by decide +kernel)
theorem i40_19 : c_callee c_m41 18 [.ref 41] i40_h1 = some (165, [some (.ref 41), none, none], []) := c_eqC_ok (by decide +kernel)
theorem i40_20 : c_go c_P ([], x_xs) 24 c_m41 21 [some (.ref 0)] [.int 1] i40_h1 = some (.inl (some (.int 1)), i40_h1) := c_eqO_ok (by decide +kernel)
theorem i40_21 : c_callee c_m259 2550 [.ref 0] i40_h0 = some (41, [some (.ref 0)], []) := c_eqC_ok (by decide +kernel)
theorem i40_22 : c_go c_P ([], x_xs) 38 c_m259 2553 [some (.retAddr 0), some (.ref 0), some (.ref 58), some (.ref 75), some (.ref 76), some (.int 0), none, none, none] [.int 1] i40_h1 = some (.inl (some (.int 1)), i40_h1) := c_eqO_ok (by decide +kernel)
