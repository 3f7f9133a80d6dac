set_option maxRecDepth 100000
theorem c_ok83 : c_okM c_P c_m83 c_x83 = true := by decide +kernel
