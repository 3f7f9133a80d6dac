set_option maxRecDepth 100000
def c_end (r : Option (c_O × c_Hp)) : Bool := match r with
  | some (.inl (some (.int z)), h) => decide (z = 1) && Nat.ble h.length 900000
  | _ => false
def t_L : c_Ls := c_ent [.retAddr 0] 9
def t_X : List Value := [.retAddr 10, .retAddr 11, .retAddr 12, .retAddr 13, .retAddr 14, .retAddr 15]
theorem t1 : c_end (c_go c_P ([], []) 100000 c_m259 0 t_L [] []) = true := by decide +kernel
theorem t2 : c_end (c_go c_P ([(3, .retAddr 10, .int 63, .int 41)], t_X) 100000 c_m259 0 t_L [] []) = true := by decide +kernel
theorem t4 : c_end (c_go c_P ([(3, .retAddr 10, .int 63, .int 4)], t_X) 100000 c_m259 0 t_L [] []) = true := by decide +kernel
theorem t5 : c_end (c_go c_P ([(3, .retAddr 10, .int 63, .int 5), (22, .retAddr 11, .int 1, .int 0), (24, .retAddr 11, .int 99, .int 0), (1, .int 0, .retAddr 11, .retAddr 16), (30, .int 0, .retAddr 16, .int 0)], t_X) 100000 c_m259 0 t_L [] []) = true := by decide +kernel
