set_option maxRecDepth 100000
theorem i40_9 : c_go c_P ([], x_xs) 3053 c_m57 17 [some (.ref 0), some (.int 96)] [.int 96, .ref 1, .ref 23] i40_h1 = some (.inl (some (.int 1)), i40_h1) := c_eqO_ok (by decide +kernel)
theorem i40_10 : c_callee c_m56 34 [.ref 0] i40_h1 = some (57, [some (.ref 0), none], []) := c_eqC_ok (by decide +kernel)
theorem i40_11 : c_go c_P ([], x_xs) 2267 c_m56 37 [some (.ref 0)] [.int 1] i40_h1 = some (.inl (some (.int 1)), i40_h1) := c_eqO_ok (by decide +kernel)
theorem i40_12 : c_callee c_m41 8 [.ref 0] i40_h1 = some (56, [some (.ref 0)], []) := c_eqC_ok (by decide +kernel)
theorem i40_13 : c_pre ([], x_xs) 23 c_m41 3 11 [some (.ref 0)] [.int 1] i40_h1 = some (18, [some (.ref 0)], [.ref 41], i40_h1) := c_eqR_ok (by decide +kernel)
theorem i40_14 : c_pre ([], x_xs) 14521 c_m165 341 0 [some (.ref 41), none, none] [] i40_h1 = some (25, [some (.ref 41), some (.int 3), some (.int 3)], [.int 3, .int 3, .ref 41, .int 0], i40_h1) := c_eqR_ok (by decide +kernel)
theorem i40_15 : c_pre ([], x_xs) 14488 c_m165 174 25 [some (.ref 41), some (.int 3), some (.int 3)] [.int 3, .int 3, .ref 41, .int 0] i40_h1 = some (25, [some (.ref 41), some (.int 5), some (.int 2)], [.int 2, .int 5, .ref 41, .int 0], i40_h1) := c_eqR_ok (by decide +kernel)
