set_option maxRecDepth 100000
def k34_6_2_w : c_Cell := some (.inr (1, ([.long 282668995843688] ++ (List.replicate 63 (.long 0)))))
theorem k34_6_2_S : nb_S 6 2 64 = 282668995843688 := by
  show nb_S 6 2 (0 + 2 ^ 6) = _
  rw [nb_SD]
  decide +kernel
theorem k34_6_2_c : nb_c 282668995843688 64 = 15 := by
  show nb_c 282668995843688 (0 + 2 ^ 6) = _
  rw [nb_cC]
  decide +kernel
theorem k34_6_2_v : w_c 282668995843688 = k34_6_2_w := by decide +kernel
theorem k34_6_2_e : c_go c_P ([], x_xs) 4097 c_m150 0 [some (.ref 39), none, none, none, none, none, none] [] (k34_6_hs.set 40 k34_6_2_w) = some (.inl (some (.int 15)), k34_6_hs.set 40 k34_6_2_w) := c_eqO_ok (by decide +kernel)
theorem k34_6_2 {a0 a3 a4 a5 : Int32} (h0 : a0 &&& 63 = 34) : c_Goal [a0, Int32.ofNat 6, Int32.ofNat 2, a3, a4, a5] := by
  refine k34_6_all (k := 2) (c := 15) (by decide) (by decide) h0 (fun v => ?_) (by rw [k34_6_2_S]; exact k34_6_2_c)
  rw [k34_6_2_S, k34_6_2_v]
  exact q_cnt (B := e_B (k34_f [a0, Int32.ofNat 6, Int32.ofNat 2, a3, a4, a5] 0 v) 64 []) k34_hx k34_6_2_e rfl (e_hc (k34_ag (by decide)) k34_6_hsk) rfl
def k34_7_0_w : c_Cell := some (.inr (1, ([.long 1] ++ (List.replicate 63 (.long 0)))))
theorem k34_7_0_S : nb_S 7 0 128 = 1 := by
  show nb_S 7 0 (0 + 2 ^ 7) = _
  rw [nb_SD]
  decide +kernel
theorem k34_7_0_c : nb_c 1 128 = 1 := by
  show nb_c 1 (0 + 2 ^ 7) = _
  rw [nb_cC]
  decide +kernel
theorem k34_7_0_v : w_c 1 = k34_7_0_w := by decide +kernel
theorem k34_7_0_e : c_go c_P ([], x_xs) 4097 c_m150 0 [some (.ref 39), none, none, none, none, none, none] [] (k34_7_hs.set 40 k34_7_0_w) = some (.inl (some (.int 1)), k34_7_hs.set 40 k34_7_0_w) := c_eqO_ok (by decide +kernel)
theorem k34_7_0 {a0 a3 a4 a5 : Int32} (h0 : a0 &&& 63 = 34) : c_Goal [a0, Int32.ofNat 7, Int32.ofNat 0, a3, a4, a5] := by
  refine k34_7_all (k := 0) (c := 1) (by decide) (by decide) h0 (fun v => ?_) (by rw [k34_7_0_S]; exact k34_7_0_c)
  rw [k34_7_0_S, k34_7_0_v]
  exact q_cnt (B := e_B (k34_f [a0, Int32.ofNat 7, Int32.ofNat 0, a3, a4, a5] 0 v) 64 []) k34_hx k34_7_0_e rfl (e_hc (k34_ag (by decide)) k34_7_hsk) rfl
def k34_7_1_w : c_Cell := some (.inr (1, ([.long 4295033110, .long 1] ++ (List.replicate 62 (.long 0)))))
theorem k34_7_1_S : nb_S 7 1 128 = 18446744078004584726 := by
  show nb_S 7 1 (0 + 2 ^ 7) = _
  rw [nb_SD]
  decide +kernel
theorem k34_7_1_c : nb_c 18446744078004584726 128 = 7 := by
  show nb_c 18446744078004584726 (0 + 2 ^ 7) = _
  rw [nb_cC]
  decide +kernel
theorem k34_7_1_v : w_c 18446744078004584726 = k34_7_1_w := by decide +kernel
theorem k34_7_1_e : c_go c_P ([], x_xs) 4097 c_m150 0 [some (.ref 39), none, none, none, none, none, none] [] (k34_7_hs.set 40 k34_7_1_w) = some (.inl (some (.int 7)), k34_7_hs.set 40 k34_7_1_w) := c_eqO_ok (by decide +kernel)
theorem k34_7_1 {a0 a3 a4 a5 : Int32} (h0 : a0 &&& 63 = 34) : c_Goal [a0, Int32.ofNat 7, Int32.ofNat 1, a3, a4, a5] := by
  refine k34_7_all (k := 1) (c := 7) (by decide) (by decide) h0 (fun v => ?_) (by rw [k34_7_1_S]; exact k34_7_1_c)
  rw [k34_7_1_S, k34_7_1_v]
  exact q_cnt (B := e_B (k34_f [a0, Int32.ofNat 7, Int32.ofNat 1, a3, a4, a5] 0 v) 64 []) k34_hx k34_7_1_e rfl (e_hc (k34_ag (by decide)) k34_7_hsk) rfl
def k34_7_2_w : c_Cell := some (.inr (1, ([.long 282668995843688, .long 4295033110] ++ (List.replicate 62 (.long 0)))))
theorem k34_7_2_S : nb_S 7 2 128 = 79229376568279087382969849448 := by
  show nb_S 7 2 (0 + 2 ^ 7) = _
  rw [nb_SD]
  decide +kernel
theorem k34_7_2_c : nb_c 79229376568279087382969849448 128 = 21 := by
  show nb_c 79229376568279087382969849448 (0 + 2 ^ 7) = _
  rw [nb_cC]
  decide +kernel
theorem k34_7_2_v : w_c 79229376568279087382969849448 = k34_7_2_w := by decide +kernel
theorem k34_7_2_e : c_go c_P ([], x_xs) 4097 c_m150 0 [some (.ref 39), none, none, none, none, none, none] [] (k34_7_hs.set 40 k34_7_2_w) = some (.inl (some (.int 21)), k34_7_hs.set 40 k34_7_2_w) := c_eqO_ok (by decide +kernel)
theorem k34_7_2 {a0 a3 a4 a5 : Int32} (h0 : a0 &&& 63 = 34) : c_Goal [a0, Int32.ofNat 7, Int32.ofNat 2, a3, a4, a5] := by
  refine k34_7_all (k := 2) (c := 21) (by decide) (by decide) h0 (fun v => ?_) (by rw [k34_7_2_S]; exact k34_7_2_c)
  rw [k34_7_2_S, k34_7_2_v]
  exact q_cnt (B := e_B (k34_f [a0, Int32.ofNat 7, Int32.ofNat 2, a3, a4, a5] 0 v) 64 []) k34_hx k34_7_2_e rfl (e_hc (k34_ag (by decide)) k34_7_hsk) rfl
def k34_7_3_w : c_Cell := some (.inr (1, ([.long 78274679833913472, .long 282668995843688] ++ (List.replicate 62 (.long 0)))))
theorem k34_7_3_S : nb_S 7 3 128 = 5214322623900981569529889937713280 := by
  show nb_S 7 3 (0 + 2 ^ 7) = _
  rw [nb_SD]
  decide +kernel
theorem k34_7_3_c : nb_c 5214322623900981569529889937713280 128 = 35 := by
  show nb_c 5214322623900981569529889937713280 (0 + 2 ^ 7) = _
  rw [nb_cC]
  decide +kernel
theorem k34_7_3_v : w_c 5214322623900981569529889937713280 = k34_7_3_w := by decide +kernel
theorem k34_7_3_e : c_go c_P ([], x_xs) 4097 c_m150 0 [some (.ref 39), none, none, none, none, none, none] [] (k34_7_hs.set 40 k34_7_3_w) = some (.inl (some (.int 35)), k34_7_hs.set 40 k34_7_3_w) := c_eqO_ok (by decide +kernel)
theorem k34_7_3 {a0 a3 a4 a5 : Int32} (h0 : a0 &&& 63 = 34) : c_Goal [a0, Int32.ofNat 7, Int32.ofNat 3, a3, a4, a5] := by
  refine k34_7_all (k := 3) (c := 35) (by decide) (by decide) h0 (fun v => ?_) (by rw [k34_7_3_S]; exact k34_7_3_c)
  rw [k34_7_3_S, k34_7_3_v]
  exact q_cnt (B := e_B (k34_f [a0, Int32.ofNat 7, Int32.ofNat 3, a3, a4, a5] 0 v) 64 []) k34_hx k34_7_3_e rfl (e_hc (k34_ag (by decide)) k34_7_hsk) rfl
def k34_8_0_w : c_Cell := some (.inr (1, ([.long 1] ++ (List.replicate 63 (.long 0)))))
theorem k34_8_0_S : nb_S 8 0 256 = 1 := by
  show nb_S 8 0 (0 + 2 ^ 8) = _
  rw [nb_SD]
  decide +kernel
theorem k34_8_0_c : nb_c 1 256 = 1 := by
  show nb_c 1 (0 + 2 ^ 8) = _
  rw [nb_cC]
  decide +kernel
theorem k34_8_0_v : w_c 1 = k34_8_0_w := by decide +kernel
theorem k34_8_0_e : c_go c_P ([], x_xs) 4097 c_m150 0 [some (.ref 39), none, none, none, none, none, none] [] (k34_8_hs.set 40 k34_8_0_w) = some (.inl (some (.int 1)), k34_8_hs.set 40 k34_8_0_w) := c_eqO_ok (by decide +kernel)
theorem k34_8_0 {a0 a3 a4 a5 : Int32} (h0 : a0 &&& 63 = 34) : c_Goal [a0, Int32.ofNat 8, Int32.ofNat 0, a3, a4, a5] := by
  refine k34_8_all (k := 0) (c := 1) (by decide) (by decide) h0 (fun v => ?_) (by rw [k34_8_0_S]; exact k34_8_0_c)
  rw [k34_8_0_S, k34_8_0_v]
  exact q_cnt (B := e_B (k34_f [a0, Int32.ofNat 8, Int32.ofNat 0, a3, a4, a5] 0 v) 64 []) k34_hx k34_8_0_e rfl (e_hc (k34_ag (by decide)) k34_8_hsk) rfl
def k34_8_1_w : c_Cell := some (.inr (1, ([.long 4295033110, .long 1, .long 1] ++ (List.replicate 61 (.long 0)))))
theorem k34_8_1_S : nb_S 8 1 256 = 340282366920938463481821351509772796182 := by
  show nb_S 8 1 (0 + 2 ^ 8) = _
  rw [nb_SD]
  decide +kernel
theorem k34_8_1_c : nb_c 340282366920938463481821351509772796182 256 = 8 := by
  show nb_c 340282366920938463481821351509772796182 (0 + 2 ^ 8) = _
  rw [nb_cC]
  decide +kernel
theorem k34_8_1_v : w_c 340282366920938463481821351509772796182 = k34_8_1_w := by decide +kernel
theorem k34_8_1_e : c_go c_P ([], x_xs) 4097 c_m150 0 [some (.ref 39), none, none, none, none, none, none] [] (k34_8_hs.set 40 k34_8_1_w) = some (.inl (some (.int 8)), k34_8_hs.set 40 k34_8_1_w) := c_eqO_ok (by decide +kernel)
theorem k34_8_1 {a0 a3 a4 a5 : Int32} (h0 : a0 &&& 63 = 34) : c_Goal [a0, Int32.ofNat 8, Int32.ofNat 1, a3, a4, a5] := by
  refine k34_8_all (k := 1) (c := 8) (by decide) (by decide) h0 (fun v => ?_) (by rw [k34_8_1_S]; exact k34_8_1_c)
  rw [k34_8_1_S, k34_8_1_v]
  exact q_cnt (B := e_B (k34_f [a0, Int32.ofNat 8, Int32.ofNat 1, a3, a4, a5] 0 v) 64 []) k34_hx k34_8_1_e rfl (e_hc (k34_ag (by decide)) k34_8_hsk) rfl
def k34_8_2_w : c_Cell := some (.inr (1, ([.long 282668995843688, .long 4295033110, .long 4295033110, .long 1] ++ (List.replicate 60 (.long 0)))))
theorem k34_8_2_S : nb_S 8 2 256 = 6277101736848204796510388876134615003923331065896005670504 := by
  show nb_S 8 2 (0 + 2 ^ 8) = _
  rw [nb_SD]
  decide +kernel
theorem k34_8_2_c : nb_c 6277101736848204796510388876134615003923331065896005670504 256 = 28 := by
  show nb_c 6277101736848204796510388876134615003923331065896005670504 (0 + 2 ^ 8) = _
  rw [nb_cC]
  decide +kernel
theorem k34_8_2_v : w_c 6277101736848204796510388876134615003923331065896005670504 = k34_8_2_w := by decide +kernel
theorem k34_8_2_e : c_go c_P ([], x_xs) 4097 c_m150 0 [some (.ref 39), none, none, none, none, none, none] [] (k34_8_hs.set 40 k34_8_2_w) = some (.inl (some (.int 28)), k34_8_hs.set 40 k34_8_2_w) := c_eqO_ok (by decide +kernel)
theorem k34_8_2 {a0 a3 a4 a5 : Int32} (h0 : a0 &&& 63 = 34) : c_Goal [a0, Int32.ofNat 8, Int32.ofNat 2, a3, a4, a5] := by
  refine k34_8_all (k := 2) (c := 28) (by decide) (by decide) h0 (fun v => ?_) (by rw [k34_8_2_S]; exact k34_8_2_c)
  rw [k34_8_2_S, k34_8_2_v]
  exact q_cnt (B := e_B (k34_f [a0, Int32.ofNat 8, Int32.ofNat 2, a3, a4, a5] 0 v) 64 []) k34_hx k34_8_2_e rfl (e_hc (k34_ag (by decide)) k34_8_hsk) rfl
def k34_8_3_w : c_Cell := some (.inr (1, ([.long 78274679833913472, .long 282668995843688, .long 282668995843688, .long 4295033110] ++ (List.replicate 60 (.long 0)))))
theorem k34_8_3_S : nb_S 8 3 256 = 26960359788324348720949767030734241706367231428990564075626486589568 := by
  show nb_S 8 3 (0 + 2 ^ 8) = _
  rw [nb_SD]
  decide +kernel
theorem k34_8_3_c : nb_c 26960359788324348720949767030734241706367231428990564075626486589568 256 = 56 := by
  show nb_c 26960359788324348720949767030734241706367231428990564075626486589568 (0 + 2 ^ 8) = _
  rw [nb_cC]
  decide +kernel
theorem k34_8_3_v : w_c 26960359788324348720949767030734241706367231428990564075626486589568 = k34_8_3_w := by decide +kernel
theorem k34_8_3_e : c_go c_P ([], x_xs) 4097 c_m150 0 [some (.ref 39), none, none, none, none, none, none] [] (k34_8_hs.set 40 k34_8_3_w) = some (.inl (some (.int 56)), k34_8_hs.set 40 k34_8_3_w) := c_eqO_ok (by decide +kernel)
theorem k34_8_3 {a0 a3 a4 a5 : Int32} (h0 : a0 &&& 63 = 34) : c_Goal [a0, Int32.ofNat 8, Int32.ofNat 3, a3, a4, a5] := by
  refine k34_8_all (k := 3) (c := 56) (by decide) (by decide) h0 (fun v => ?_) (by rw [k34_8_3_S]; exact k34_8_3_c)
  rw [k34_8_3_S, k34_8_3_v]
  exact q_cnt (B := e_B (k34_f [a0, Int32.ofNat 8, Int32.ofNat 3, a3, a4, a5] 0 v) 64 []) k34_hx k34_8_3_e rfl (e_hc (k34_ag (by decide)) k34_8_hsk) rfl
def k34_9_0_w : c_Cell := some (.inr (1, ([.long 1] ++ (List.replicate 63 (.long 0)))))
theorem k34_9_0_S : nb_S 9 0 512 = 1 := by
  show nb_S 9 0 (0 + 2 ^ 9) = _
  rw [nb_SD]
  decide +kernel
theorem k34_9_0_c : nb_c 1 512 = 1 := by
  show nb_c 1 (0 + 2 ^ 9) = _
  rw [nb_cC]
  decide +kernel
theorem k34_9_0_v : w_c 1 = k34_9_0_w := by decide +kernel
theorem k34_9_0_e : c_go c_P ([], x_xs) 4097 c_m150 0 [some (.ref 39), none, none, none, none, none, none] [] (k34_9_hs.set 40 k34_9_0_w) = some (.inl (some (.int 1)), k34_9_hs.set 40 k34_9_0_w) := c_eqO_ok (by decide +kernel)
theorem k34_9_0 {a0 a3 a4 a5 : Int32} (h0 : a0 &&& 63 = 34) : c_Goal [a0, Int32.ofNat 9, Int32.ofNat 0, a3, a4, a5] := by
  refine k34_9_all (k := 0) (c := 1) (by decide) (by decide) h0 (fun v => ?_) (by rw [k34_9_0_S]; exact k34_9_0_c)
  rw [k34_9_0_S, k34_9_0_v]
  exact q_cnt (B := e_B (k34_f [a0, Int32.ofNat 9, Int32.ofNat 0, a3, a4, a5] 0 v) 64 []) k34_hx k34_9_0_e rfl (e_hc (k34_ag (by decide)) k34_9_hsk) rfl
def k34_9_1_w : c_Cell := some (.inr (1, ([.long 4295033110, .long 1, .long 1, .long 0, .long 1] ++ (List.replicate 59 (.long 0)))))
theorem k34_9_1_S : nb_S 9 1 512 = 115792089237316195423570985008687907853610267032561502502939405359422902436118 := by
  show nb_S 9 1 (0 + 2 ^ 9) = _
  rw [nb_SD]
  decide +kernel
theorem k34_9_1_c : nb_c 115792089237316195423570985008687907853610267032561502502939405359422902436118 512 = 9 := by
  show nb_c 115792089237316195423570985008687907853610267032561502502939405359422902436118 (0 + 2 ^ 9) = _
  rw [nb_cC]
  decide +kernel
theorem k34_9_1_v : w_c 115792089237316195423570985008687907853610267032561502502939405359422902436118 = k34_9_1_w := by decide +kernel
theorem k34_9_1_e : c_go c_P ([], x_xs) 4097 c_m150 0 [some (.ref 39), none, none, none, none, none, none] [] (k34_9_hs.set 40 k34_9_1_w) = some (.inl (some (.int 9)), k34_9_hs.set 40 k34_9_1_w) := c_eqO_ok (by decide +kernel)
theorem k34_9_1 {a0 a3 a4 a5 : Int32} (h0 : a0 &&& 63 = 34) : c_Goal [a0, Int32.ofNat 9, Int32.ofNat 1, a3, a4, a5] := by
  refine k34_9_all (k := 1) (c := 9) (by decide) (by decide) h0 (fun v => ?_) (by rw [k34_9_1_S]; exact k34_9_1_c)
  rw [k34_9_1_S, k34_9_1_v]
  exact q_cnt (B := e_B (k34_f [a0, Int32.ofNat 9, Int32.ofNat 1, a3, a4, a5] 0 v) 64 []) k34_hx k34_9_1_e rfl (e_hc (k34_ag (by decide)) k34_9_hsk) rfl
