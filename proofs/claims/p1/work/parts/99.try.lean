set_option maxRecDepth 100000
noncomputable def c_end (r : Option (c_O × c_Hp)) : Bool := match r with
  | some (.inl (some (.int z)), h) => decide (z = 1) && Nat.ble h.length 900000
  | _ => false
noncomputable def t_L : c_Ls := c_ent [.retAddr 0] 9
noncomputable def t_X : List Value := [.retAddr 10, .retAddr 11, .retAddr 12, .retAddr 13, .retAddr 14, .retAddr 15]
theorem t41 : c_end (c_go c_P ([(3, .retAddr 10, .int 63, .int 41)], t_X) 100000 c_m259 0 t_L [] []) = true := by decide +kernel
theorem t5 : c_end (c_go c_P ([(3, .retAddr 10, .int 63, .int 5), (22, .retAddr 11, .int 1, .int 0), (25, .retAddr 11, .int 99, .int 1), (1, .int 0, .retAddr 11, .retAddr 16), (30, .int 0, .retAddr 16, .int 0), (24, .retAddr 11, .int 99, .int 0)], t_X) 100000 c_m259 0 t_L [] []) = true := by decide +kernel
theorem t6 : c_end (c_go c_P ([(3, .retAddr 10, .int 63, .int 6), (22, .retAddr 11, .int 1, .int 0), (25, .retAddr 11, .int 99, .int 1), (1, .int 0, .retAddr 11, .retAddr 16), (30, .int 0, .retAddr 16, .int 0), (24, .retAddr 11, .int 99, .int 0)], t_X) 100000 c_m259 0 t_L [] []) = true := by decide +kernel
theorem t16 : c_end (c_go c_P ([(3, .retAddr 10, .int 63, .int 16), (22, .retAddr 11, .int 1, .int 0), (25, .retAddr 11, .int 99, .int 1), (1, .int 0, .retAddr 11, .retAddr 16), (30, .int 0, .retAddr 16, .int 0), (24, .retAddr 11, .int 99, .int 0)], t_X) 100000 c_m259 0 t_L [] []) = true := by decide +kernel
