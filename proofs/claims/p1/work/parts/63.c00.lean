set_option maxRecDepth 100000
def k34_1_0_w : c_Cell := some (.inr (1, ([.long 1] ++ (List.replicate 63 (.long 0)))))
theorem k34_1_0_S : nb_S 1 0 2 = 1 := by
  show nb_S 1 0 (0 + 2 ^ 1) = _
  rw [nb_SD]
  decide +kernel
theorem k34_1_0_c : nb_c 1 2 = 1 := by
  show nb_c 1 (0 + 2 ^ 1) = _
  rw [nb_cC]
  decide +kernel
theorem k34_1_0_v : w_c 1 = k34_1_0_w := by decide +kernel
theorem k34_1_0_e : c_go c_P ([], x_xs) 4097 c_m150 0 [some (.ref 39), none, none, none, none, none, none] [] (k34_1_hs.set 40 k34_1_0_w) = some (.inl (some (.int 1)), k34_1_hs.set 40 k34_1_0_w) := c_eqO_ok (by decide +kernel)
theorem k34_1_0 {a0 a3 a4 a5 : Int32} (h0 : a0 &&& 63 = 34) : c_Goal [a0, Int32.ofNat 1, Int32.ofNat 0, a3, a4, a5] := by
  refine k34_1_all (k := 0) (c := 1) (by decide) (by decide) h0 (fun v => ?_) (by rw [k34_1_0_S]; exact k34_1_0_c)
  rw [k34_1_0_S, k34_1_0_v]
  exact q_cnt (B := e_B (k34_f [a0, Int32.ofNat 1, Int32.ofNat 0, a3, a4, a5] 0 v) 64 []) k34_hx k34_1_0_e rfl (e_hc (k34_ag (by decide)) k34_1_hsk) rfl
def k34_2_0_w : c_Cell := some (.inr (1, ([.long 1] ++ (List.replicate 63 (.long 0)))))
theorem k34_2_0_S : nb_S 2 0 4 = 1 := by
  show nb_S 2 0 (0 + 2 ^ 2) = _
  rw [nb_SD]
  decide +kernel
theorem k34_2_0_c : nb_c 1 4 = 1 := by
  show nb_c 1 (0 + 2 ^ 2) = _
  rw [nb_cC]
  decide +kernel
theorem k34_2_0_v : w_c 1 = k34_2_0_w := by decide +kernel
theorem k34_2_0_e : c_go c_P ([], x_xs) 4097 c_m150 0 [some (.ref 39), none, none, none, none, none, none] [] (k34_2_hs.set 40 k34_2_0_w) = some (.inl (some (.int 1)), k34_2_hs.set 40 k34_2_0_w) := c_eqO_ok (by decide +kernel)
theorem k34_2_0 {a0 a3 a4 a5 : Int32} (h0 : a0 &&& 63 = 34) : c_Goal [a0, Int32.ofNat 2, Int32.ofNat 0, a3, a4, a5] := by
  refine k34_2_all (k := 0) (c := 1) (by decide) (by decide) h0 (fun v => ?_) (by rw [k34_2_0_S]; exact k34_2_0_c)
  rw [k34_2_0_S, k34_2_0_v]
  exact q_cnt (B := e_B (k34_f [a0, Int32.ofNat 2, Int32.ofNat 0, a3, a4, a5] 0 v) 64 []) k34_hx k34_2_0_e rfl (e_hc (k34_ag (by decide)) k34_2_hsk) rfl
def k34_3_0_w : c_Cell := some (.inr (1, ([.long 1] ++ (List.replicate 63 (.long 0)))))
theorem k34_3_0_S : nb_S 3 0 8 = 1 := by
  show nb_S 3 0 (0 + 2 ^ 3) = _
  rw [nb_SD]
  decide +kernel
theorem k34_3_0_c : nb_c 1 8 = 1 := by
  show nb_c 1 (0 + 2 ^ 3) = _
  rw [nb_cC]
  decide +kernel
theorem k34_3_0_v : w_c 1 = k34_3_0_w := by decide +kernel
theorem k34_3_0_e : c_go c_P ([], x_xs) 4097 c_m150 0 [some (.ref 39), none, none, none, none, none, none] [] (k34_3_hs.set 40 k34_3_0_w) = some (.inl (some (.int 1)), k34_3_hs.set 40 k34_3_0_w) := c_eqO_ok (by decide +kernel)
theorem k34_3_0 {a0 a3 a4 a5 : Int32} (h0 : a0 &&& 63 = 34) : c_Goal [a0, Int32.ofNat 3, Int32.ofNat 0, a3, a4, a5] := by
  refine k34_3_all (k := 0) (c := 1) (by decide) (by decide) h0 (fun v => ?_) (by rw [k34_3_0_S]; exact k34_3_0_c)
  rw [k34_3_0_S, k34_3_0_v]
  exact q_cnt (B := e_B (k34_f [a0, Int32.ofNat 3, Int32.ofNat 0, a3, a4, a5] 0 v) 64 []) k34_hx k34_3_0_e rfl (e_hc (k34_ag (by decide)) k34_3_hsk) rfl
def k34_3_1_w : c_Cell := some (.inr (1, ([.long 22] ++ (List.replicate 63 (.long 0)))))
theorem k34_3_1_S : nb_S 3 1 8 = 22 := by
  show nb_S 3 1 (0 + 2 ^ 3) = _
  rw [nb_SD]
  decide +kernel
theorem k34_3_1_c : nb_c 22 8 = 3 := by
  show nb_c 22 (0 + 2 ^ 3) = _
  rw [nb_cC]
  decide +kernel
theorem k34_3_1_v : w_c 22 = k34_3_1_w := by decide +kernel
theorem k34_3_1_e : c_go c_P ([], x_xs) 4097 c_m150 0 [some (.ref 39), none, none, none, none, none, none] [] (k34_3_hs.set 40 k34_3_1_w) = some (.inl (some (.int 3)), k34_3_hs.set 40 k34_3_1_w) := c_eqO_ok (by decide +kernel)
theorem k34_3_1 {a0 a3 a4 a5 : Int32} (h0 : a0 &&& 63 = 34) : c_Goal [a0, Int32.ofNat 3, Int32.ofNat 1, a3, a4, a5] := by
  refine k34_3_all (k := 1) (c := 3) (by decide) (by decide) h0 (fun v => ?_) (by rw [k34_3_1_S]; exact k34_3_1_c)
  rw [k34_3_1_S, k34_3_1_v]
  exact q_cnt (B := e_B (k34_f [a0, Int32.ofNat 3, Int32.ofNat 1, a3, a4, a5] 0 v) 64 []) k34_hx k34_3_1_e rfl (e_hc (k34_ag (by decide)) k34_3_hsk) rfl
def k34_4_0_w : c_Cell := some (.inr (1, ([.long 1] ++ (List.replicate 63 (.long 0)))))
theorem k34_4_0_S : nb_S 4 0 16 = 1 := by
  show nb_S 4 0 (0 + 2 ^ 4) = _
  rw [nb_SD]
  decide +kernel
theorem k34_4_0_c : nb_c 1 16 = 1 := by
  show nb_c 1 (0 + 2 ^ 4) = _
  rw [nb_cC]
  decide +kernel
theorem k34_4_0_v : w_c 1 = k34_4_0_w := by decide +kernel
theorem k34_4_0_e : c_go c_P ([], x_xs) 4097 c_m150 0 [some (.ref 39), none, none, none, none, none, none] [] (k34_4_hs.set 40 k34_4_0_w) = some (.inl (some (.int 1)), k34_4_hs.set 40 k34_4_0_w) := c_eqO_ok (by decide +kernel)
theorem k34_4_0 {a0 a3 a4 a5 : Int32} (h0 : a0 &&& 63 = 34) : c_Goal [a0, Int32.ofNat 4, Int32.ofNat 0, a3, a4, a5] := by
  refine k34_4_all (k := 0) (c := 1) (by decide) (by decide) h0 (fun v => ?_) (by rw [k34_4_0_S]; exact k34_4_0_c)
  rw [k34_4_0_S, k34_4_0_v]
  exact q_cnt (B := e_B (k34_f [a0, Int32.ofNat 4, Int32.ofNat 0, a3, a4, a5] 0 v) 64 []) k34_hx k34_4_0_e rfl (e_hc (k34_ag (by decide)) k34_4_hsk) rfl
def k34_4_1_w : c_Cell := some (.inr (1, ([.long 278] ++ (List.replicate 63 (.long 0)))))
theorem k34_4_1_S : nb_S 4 1 16 = 278 := by
  show nb_S 4 1 (0 + 2 ^ 4) = _
  rw [nb_SD]
  decide +kernel
theorem k34_4_1_c : nb_c 278 16 = 4 := by
  show nb_c 278 (0 + 2 ^ 4) = _
  rw [nb_cC]
  decide +kernel
theorem k34_4_1_v : w_c 278 = k34_4_1_w := by decide +kernel
theorem k34_4_1_e : c_go c_P ([], x_xs) 4097 c_m150 0 [some (.ref 39), none, none, none, none, none, none] [] (k34_4_hs.set 40 k34_4_1_w) = some (.inl (some (.int 4)), k34_4_hs.set 40 k34_4_1_w) := c_eqO_ok (by decide +kernel)
theorem k34_4_1 {a0 a3 a4 a5 : Int32} (h0 : a0 &&& 63 = 34) : c_Goal [a0, Int32.ofNat 4, Int32.ofNat 1, a3, a4, a5] := by
  refine k34_4_all (k := 1) (c := 4) (by decide) (by decide) h0 (fun v => ?_) (by rw [k34_4_1_S]; exact k34_4_1_c)
  rw [k34_4_1_S, k34_4_1_v]
  exact q_cnt (B := e_B (k34_f [a0, Int32.ofNat 4, Int32.ofNat 1, a3, a4, a5] 0 v) 64 []) k34_hx k34_4_1_e rfl (e_hc (k34_ag (by decide)) k34_4_hsk) rfl
def k34_5_0_w : c_Cell := some (.inr (1, ([.long 1] ++ (List.replicate 63 (.long 0)))))
theorem k34_5_0_S : nb_S 5 0 32 = 1 := by
  show nb_S 5 0 (0 + 2 ^ 5) = _
  rw [nb_SD]
  decide +kernel
theorem k34_5_0_c : nb_c 1 32 = 1 := by
  show nb_c 1 (0 + 2 ^ 5) = _
  rw [nb_cC]
  decide +kernel
theorem k34_5_0_v : w_c 1 = k34_5_0_w := by decide +kernel
theorem k34_5_0_e : c_go c_P ([], x_xs) 4097 c_m150 0 [some (.ref 39), none, none, none, none, none, none] [] (k34_5_hs.set 40 k34_5_0_w) = some (.inl (some (.int 1)), k34_5_hs.set 40 k34_5_0_w) := c_eqO_ok (by decide +kernel)
theorem k34_5_0 {a0 a3 a4 a5 : Int32} (h0 : a0 &&& 63 = 34) : c_Goal [a0, Int32.ofNat 5, Int32.ofNat 0, a3, a4, a5] := by
  refine k34_5_all (k := 0) (c := 1) (by decide) (by decide) h0 (fun v => ?_) (by rw [k34_5_0_S]; exact k34_5_0_c)
  rw [k34_5_0_S, k34_5_0_v]
  exact q_cnt (B := e_B (k34_f [a0, Int32.ofNat 5, Int32.ofNat 0, a3, a4, a5] 0 v) 64 []) k34_hx k34_5_0_e rfl (e_hc (k34_ag (by decide)) k34_5_hsk) rfl
def k34_5_1_w : c_Cell := some (.inr (1, ([.long 65814] ++ (List.replicate 63 (.long 0)))))
theorem k34_5_1_S : nb_S 5 1 32 = 65814 := by
  show nb_S 5 1 (0 + 2 ^ 5) = _
  rw [nb_SD]
  decide +kernel
theorem k34_5_1_c : nb_c 65814 32 = 5 := by
  show nb_c 65814 (0 + 2 ^ 5) = _
  rw [nb_cC]
  decide +kernel
theorem k34_5_1_v : w_c 65814 = k34_5_1_w := by decide +kernel
theorem k34_5_1_e : c_go c_P ([], x_xs) 4097 c_m150 0 [some (.ref 39), none, none, none, none, none, none] [] (k34_5_hs.set 40 k34_5_1_w) = some (.inl (some (.int 5)), k34_5_hs.set 40 k34_5_1_w) := c_eqO_ok (by decide +kernel)
theorem k34_5_1 {a0 a3 a4 a5 : Int32} (h0 : a0 &&& 63 = 34) : c_Goal [a0, Int32.ofNat 5, Int32.ofNat 1, a3, a4, a5] := by
  refine k34_5_all (k := 1) (c := 5) (by decide) (by decide) h0 (fun v => ?_) (by rw [k34_5_1_S]; exact k34_5_1_c)
  rw [k34_5_1_S, k34_5_1_v]
  exact q_cnt (B := e_B (k34_f [a0, Int32.ofNat 5, Int32.ofNat 1, a3, a4, a5] 0 v) 64 []) k34_hx k34_5_1_e rfl (e_hc (k34_ag (by decide)) k34_5_hsk) rfl
def k34_5_2_w : c_Cell := some (.inr (1, ([.long 18224744] ++ (List.replicate 63 (.long 0)))))
theorem k34_5_2_S : nb_S 5 2 32 = 18224744 := by
  show nb_S 5 2 (0 + 2 ^ 5) = _
  rw [nb_SD]
  decide +kernel
theorem k34_5_2_c : nb_c 18224744 32 = 10 := by
  show nb_c 18224744 (0 + 2 ^ 5) = _
  rw [nb_cC]
  decide +kernel
theorem k34_5_2_v : w_c 18224744 = k34_5_2_w := by decide +kernel
theorem k34_5_2_e : c_go c_P ([], x_xs) 4097 c_m150 0 [some (.ref 39), none, none, none, none, none, none] [] (k34_5_hs.set 40 k34_5_2_w) = some (.inl (some (.int 10)), k34_5_hs.set 40 k34_5_2_w) := c_eqO_ok (by decide +kernel)
theorem k34_5_2 {a0 a3 a4 a5 : Int32} (h0 : a0 &&& 63 = 34) : c_Goal [a0, Int32.ofNat 5, Int32.ofNat 2, a3, a4, a5] := by
  refine k34_5_all (k := 2) (c := 10) (by decide) (by decide) h0 (fun v => ?_) (by rw [k34_5_2_S]; exact k34_5_2_c)
  rw [k34_5_2_S, k34_5_2_v]
  exact q_cnt (B := e_B (k34_f [a0, Int32.ofNat 5, Int32.ofNat 2, a3, a4, a5] 0 v) 64 []) k34_hx k34_5_2_e rfl (e_hc (k34_ag (by decide)) k34_5_hsk) rfl
def k34_6_0_w : c_Cell := some (.inr (1, ([.long 1] ++ (List.replicate 63 (.long 0)))))
theorem k34_6_0_S : nb_S 6 0 64 = 1 := by
  show nb_S 6 0 (0 + 2 ^ 6) = _
  rw [nb_SD]
  decide +kernel
theorem k34_6_0_c : nb_c 1 64 = 1 := by
  show nb_c 1 (0 + 2 ^ 6) = _
  rw [nb_cC]
  decide +kernel
theorem k34_6_0_v : w_c 1 = k34_6_0_w := by decide +kernel
theorem k34_6_0_e : c_go c_P ([], x_xs) 4097 c_m150 0 [some (.ref 39), none, none, none, none, none, none] [] (k34_6_hs.set 40 k34_6_0_w) = some (.inl (some (.int 1)), k34_6_hs.set 40 k34_6_0_w) := c_eqO_ok (by decide +kernel)
theorem k34_6_0 {a0 a3 a4 a5 : Int32} (h0 : a0 &&& 63 = 34) : c_Goal [a0, Int32.ofNat 6, Int32.ofNat 0, a3, a4, a5] := by
  refine k34_6_all (k := 0) (c := 1) (by decide) (by decide) h0 (fun v => ?_) (by rw [k34_6_0_S]; exact k34_6_0_c)
  rw [k34_6_0_S, k34_6_0_v]
  exact q_cnt (B := e_B (k34_f [a0, Int32.ofNat 6, Int32.ofNat 0, a3, a4, a5] 0 v) 64 []) k34_hx k34_6_0_e rfl (e_hc (k34_ag (by decide)) k34_6_hsk) rfl
def k34_6_1_w : c_Cell := some (.inr (1, ([.long 4295033110] ++ (List.replicate 63 (.long 0)))))
theorem k34_6_1_S : nb_S 6 1 64 = 4295033110 := by
  show nb_S 6 1 (0 + 2 ^ 6) = _
  rw [nb_SD]
  decide +kernel
theorem k34_6_1_c : nb_c 4295033110 64 = 6 := by
  show nb_c 4295033110 (0 + 2 ^ 6) = _
  rw [nb_cC]
  decide +kernel
theorem k34_6_1_v : w_c 4295033110 = k34_6_1_w := by decide +kernel
theorem k34_6_1_e : c_go c_P ([], x_xs) 4097 c_m150 0 [some (.ref 39), none, none, none, none, none, none] [] (k34_6_hs.set 40 k34_6_1_w) = some (.inl (some (.int 6)), k34_6_hs.set 40 k34_6_1_w) := c_eqO_ok (by decide +kernel)
theorem k34_6_1 {a0 a3 a4 a5 : Int32} (h0 : a0 &&& 63 = 34) : c_Goal [a0, Int32.ofNat 6, Int32.ofNat 1, a3, a4, a5] := by
  refine k34_6_all (k := 1) (c := 6) (by decide) (by decide) h0 (fun v => ?_) (by rw [k34_6_1_S]; exact k34_6_1_c)
  rw [k34_6_1_S, k34_6_1_v]
  exact q_cnt (B := e_B (k34_f [a0, Int32.ofNat 6, Int32.ofNat 1, a3, a4, a5] 0 v) 64 []) k34_hx k34_6_1_e rfl (e_hc (k34_ag (by decide)) k34_6_hsk) rfl
