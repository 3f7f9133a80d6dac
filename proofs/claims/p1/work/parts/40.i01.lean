set_option maxRecDepth 100000
theorem i40_6 : c_pre ([], x_xs) 14441 c_m57 304 17 [some (.ref 0), some (.int 39)] [.int 39, .ref 1, .ref 23] i40_h1 = some (17, [some (.ref 0), some (.int 58)], [.int 58, .ref 1, .ref 23], i40_h1) := c_eqR_ok (by decide +kernel)
theorem i40_7 : c_pre ([], x_xs) 14441 c_m57 304 17 [some (.ref 0), some (.int 58)] [.int 58, .ref 1, .ref 23] i40_h1 = some (17, [some (.ref 0), some (.int 77)], [.int 77, .ref 1, .ref 23], i40_h1) := c_eqR_ok (by decide +kernel)
theorem i40_8 : c_pre ([], x_xs) 14441 c_m57 304 17 [some (.ref 0), some (.int 77)] [.int 77, .ref 1, .ref 23] i40_h1 = some (17, [some (.ref 0), some (.int 96)], [.int 96, .ref 1, .ref 23], i40_h1) := c_eqR_ok (by decide +kernel)
