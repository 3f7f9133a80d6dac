/-! The calls, as the law makes them. -/
section Ms
variable {X : List Int32} {h : c_Hp} {Q : c_O × c_Hp → Prop}
theorem s4 {n kp : Nat} {rg : Int} {cf bf : Nat → Int} {H : Nat → Nat → Int} (hW : m_St h n rg cf bf kp H) {v : Int} (hv : n_r v) (Kt : ∀ j : Nat, v = j → j < n → Q (.inl (some (n_v (bf j))), h)) (Kf : ¬ (0 ≤ v ∧ v < n) → Q (.inr 1, h ++ [none])) : c_Ev X 4 0 [some (.ref 0), some (n_v v)] [] h Q := by
  obtain ⟨⟨hn, hrg, hk, hbf, hH⟩, ho, hr, hc, hb, ⟨nx, hnx, hp, P, C, hP, hC, hPC⟩, h5, h14, hS, hZ, wy, hy⟩ := id hW
  refine e_st (pc := 0) q4_0 rfl rfl ?_
  refine e_st (pc := 1) q4_1 rfl rfl ?_
  refine e_callV (pc := 2) (mz := c_m15) (a := 0) (L0 := [some (.ref 0), some (n_v v)]) (rest := []) q4_2 rfl rfl rfl rfl rfl rfl rfl ho rfl rfl ?_
  refine s15 ho hr (by omega) hv (fun g1 g2 => ?_) (fun g => e_prop (md := c_m4) rfl rfl rfl (Kf g))
  refine e_k0 (pc := 2) ?_
  refine e_st (pc := 5) q4_5 rfl rfl ?_
  refine e_getf (pc := 6) q4_6 ho rfl ?_
  refine e_getf (pc := 9) q4_9 hr rfl ?_
  refine e_st (pc := 12) q4_12 rfl rfl ?_
  refine e_ald (pc := 13) (j := v.toNat) q4_13 hb (by omega) (by omega) (by omega) ?_
  refine e_iret (pc := 14) q4_14 rfl rfl rfl rfl ?_
  exact Kt v.toNat (by omega) (by omega)
theorem s72 {n kp : Nat} {rg : Int} {cf bf : Nat → Int} {H : Nat → Nat → Int} (hW : m_St h n rg cf bf kp H) {v : Int} (hv : n_r v) (Kt : ∀ j : Nat, v = j → j < n → Q (.inl (some (n_v (bf j))), h)) (Kf : ¬ (0 ≤ v ∧ v < n) → ∀ h2, c_xt h h2 [] 1 → m_St h2 n rg cf bf kp H → Q (.inl (some (n_v (-900001))), h2)) : c_Ev X 72 0 [some (.ref 0), some (n_v v), none] [] h Q := by
  obtain ⟨⟨hn, hrg, hk, hbf, hH⟩, ho, hr, hc, hb, ⟨nx, hnx, hp, P, C, hP, hC, hPC⟩, h5, h14, hS, hZ, wy, hy⟩ := id hW
  refine e_st (pc := 0) q72_0 rfl rfl ?_
  refine e_st (pc := 1) q72_1 rfl rfl ?_
  refine e_callV (pc := 2) (mz := c_m4) (a := 0) (L0 := [some (.ref 0), some (n_v v)]) (rest := []) q72_2 rfl rfl rfl rfl rfl rfl rfl ho rfl rfl ?_
  refine s4 hW hv (fun j e1 e2 => ?_) (fun g => ?_)
  · refine e_k (pc := 2) ?_
    refine e_iret (pc := 5) q72_5 rfl rfl rfl rfl ?_
    exact Kt j e1 e2
  · refine e_catch (md := c_m72) (pc2 := 7) (L2 := [some (.ref 0), some (n_v v), none]) rfl rfl rfl rfl ?_
    refine e_cst (v := -900001) (len := 2) (pc := 7) q72_7 rfl rfl (by decide +kernel) ?_
    refine e_iret (pc := 9) q72_9 rfl rfl rfl rfl ?_
    exact Kf g _ (c_xt.one h) (hW.new (c_xt.one h) (by simp))
theorem s1r {n kp : Nat} {rg : Int} {cf bf : Nat → Int} {H : Nat → Nat → Int} (hW : m_St h n rg cf bf kp H) {b ca : Int} {r : Value} (h1 : n_r b) (h2 : n_r ca) (hbad : ¬ (1 ≤ b ∧ b ≤ 60) ∨ ¬ (1 ≤ ca ∧ ca ≤ 4)) (K : Q (.inr 0, h ++ [none])) : c_Ev X 1 0 [some (.ref 0), some (n_v b), some (n_v ca), some r, none] [] h Q := by
  obtain ⟨⟨hn, hrg, hk, hbf, hH⟩, ho, hr, hc, hb, ⟨nx, hnx, hp, P, C, hP, hC, hPC⟩, h5, h14, hS, hZ, wy, hy⟩ := id hW
  refine e_st (pc := 0) q1_0 rfl rfl ?_
  refine e_cst (v := 1) (len := 1) (pc := 1) q1_1 rfl rfl rfl ?_
  refine e_cst (v := 60) (len := 2) (pc := 2) q1_2 rfl rfl (by decide +kernel) ?_
  refine e_callS (pc := 4) (mz := c_m14) (L0 := [some (n_v b), some (n_v 1), some (n_v 60)]) (rest := []) q1_4 rfl rfl rfl rfl rfl rfl rfl rfl rfl ?_
  refine s14 h1 ⟨by omega, by omega⟩ ⟨by omega, by omega⟩ (fun g1 g2 => ?_) (fun g => e_prop (md := c_m1) rfl rfl rfl K)
  refine e_k0 (pc := 4) ?_
  refine e_st (pc := 7) q1_7 rfl rfl ?_
  refine e_cst (v := 1) (len := 1) (pc := 8) q1_8 rfl rfl rfl ?_
  refine e_cst (v := 4) (len := 1) (pc := 9) q1_9 rfl rfl rfl ?_
  refine e_callS (pc := 10) (mz := c_m14) (L0 := [some (n_v ca), some (n_v 1), some (n_v 4)]) (rest := []) q1_10 rfl rfl rfl rfl rfl rfl rfl rfl rfl ?_
  exact s14 h2 ⟨by omega, by omega⟩ ⟨by omega, by omega⟩ (fun g3 g4 => by omega) (fun g => e_prop (md := c_m1) rfl rfl rfl K)
theorem s69r {n kp : Nat} {rg : Int} {cf bf : Nat → Int} {H : Nat → Nat → Int} (hW : m_St h n rg cf bf kp H) {b ca : Int} {r : Value} (h1 : n_r b) (h2 : n_r ca) (hbad : ¬ (1 ≤ b ∧ b ≤ 60) ∨ ¬ (1 ≤ ca ∧ ca ≤ 4)) (K : ∀ h2, c_xt h h2 [] 1 → m_St h2 n rg cf bf kp H → Q (.inl (some (n_v (-900001))), h2)) (hr9 : r = n_v 0 ∨ r = n_v 1) : c_Ev X 69 0 [some (.ref 0), some (n_v b), some (n_v ca), some r, none] [] h Q := by
  obtain ⟨⟨hn, hrg, hk, hbf, hH⟩, ho, hr, hc, hb, ⟨nx, hnx, hp, P, C, hP, hC, hPC⟩, h5, h14, hS, hZ, wy, hy⟩ := id hW
  rcases hr9 with e9 | e9
  · subst e9
    refine e_st (pc := 0) q69_0 rfl rfl ?_
    refine e_st (pc := 1) q69_1 rfl rfl ?_
    refine e_st (pc := 2) q69_2 rfl rfl ?_
    refine e_st (pc := 3) q69_3 rfl rfl ?_
    refine e_callV (pc := 4) (mz := c_m1) (a := 0) (L0 := [some (.ref 0), some (n_v b), some (n_v ca), some (n_v 0), none]) (rest := []) q69_4 rfl rfl rfl rfl rfl rfl rfl ho rfl rfl ?_
    refine s1r hW h1 h2 hbad ?_
    refine e_catch (md := c_m69) (pc2 := 10) (L2 := [some (.ref 0), some (n_v b), some (n_v ca), some (n_v 0), none]) rfl rfl rfl rfl ?_
    refine e_cst (v := -900001) (len := 2) (pc := 10) q69_10 rfl rfl (by decide +kernel) ?_
    refine e_iret (pc := 12) q69_12 rfl rfl rfl rfl ?_
    exact K _ (c_xt.one h) (hW.new (c_xt.one h) (by simp))
  · subst e9
    refine e_st (pc := 0) q69_0 rfl rfl ?_
    refine e_st (pc := 1) q69_1 rfl rfl ?_
    refine e_st (pc := 2) q69_2 rfl rfl ?_
    refine e_st (pc := 3) q69_3 rfl rfl ?_
    refine e_callV (pc := 4) (mz := c_m1) (a := 0) (L0 := [some (.ref 0), some (n_v b), some (n_v ca), some (n_v 1), none]) (rest := []) q69_4 rfl rfl rfl rfl rfl rfl rfl ho rfl rfl ?_
    refine s1r hW h1 h2 hbad ?_
    refine e_catch (md := c_m69) (pc2 := 10) (L2 := [some (.ref 0), some (n_v b), some (n_v ca), some (n_v 1), none]) rfl rfl rfl rfl ?_
    refine e_cst (v := -900001) (len := 2) (pc := 10) q69_10 rfl rfl (by decide +kernel) ?_
    refine e_iret (pc := 12) q69_12 rfl rfl rfl rfl ?_
    exact K _ (c_xt.one h) (hW.new (c_xt.one h) (by simp))
theorem s1 {n kp : Nat} {rg : Int} {cf bf : Nat → Int} {H : Nat → Nat → Int} (hW : m_St h n rg cf bf kp H) {b : Nat} {r : Int} (h1 : 1 ≤ b ∧ b ≤ 24) (hrr : r = 0 ∨ r = 1) (K : ∀ h2, c_xt h h2 (List.range 58) 0 → m_St h2 b r (fun _ => 1) (fun _ => 0) 0 H → Q (.inl (some (n_v ↑n)), h2)) : c_Ev X 1 0 [some (.ref 0), some (n_v ↑b), some (n_v 1), some (n_v r), none] [] h Q := by
  obtain ⟨⟨hn, hrg, hk, hbf, hH⟩, ho, hr, hc, hb, ⟨nx, hnx, hp, P, C, hP, hC, hPC⟩, h5, h14, hS, hZ, wy, hy⟩ := id hW
  refine e_st (pc := 0) q1_0 rfl rfl ?_
  refine e_cst (v := 1) (len := 1) (pc := 1) q1_1 rfl rfl rfl ?_
  refine e_cst (v := 60) (len := 2) (pc := 2) q1_2 rfl rfl (by decide +kernel) ?_
  refine e_callS (pc := 4) (mz := c_m14) (L0 := [some (n_v ↑b), some (n_v 1), some (n_v 60)]) (rest := []) q1_4 rfl rfl rfl rfl rfl rfl rfl rfl rfl ?_
  refine s14 ⟨by omega, by omega⟩ ⟨by omega, by omega⟩ ⟨by omega, by omega⟩ (fun _ _ => ?_) (fun g => absurd ⟨by omega, by omega⟩ g)
  refine e_k0 (pc := 4) ?_
  refine e_st (pc := 7) q1_7 rfl rfl ?_
  refine e_cst (v := 1) (len := 1) (pc := 8) q1_8 rfl rfl rfl ?_
  refine e_cst (v := 4) (len := 1) (pc := 9) q1_9 rfl rfl rfl ?_
  refine e_callS (pc := 10) (mz := c_m14) (L0 := [some (n_v 1), some (n_v 1), some (n_v 4)]) (rest := []) q1_10 rfl rfl rfl rfl rfl rfl rfl rfl rfl ?_
  refine s14 ⟨by omega, by omega⟩ ⟨by omega, by omega⟩ ⟨by omega, by omega⟩ (fun _ _ => ?_) (fun g => absurd ⟨by omega, by omega⟩ g)
  refine e_k0 (pc := 10) ?_
  refine e_st (pc := 13) q1_13 rfl rfl ?_
  refine e_getf (pc := 14) q1_14 ho rfl ?_
  refine e_getf (pc := 17) q1_17 hr rfl ?_
  refine e_st (pc := 20) (L2 := [some (.ref 0), some (n_v ↑b), some (n_v 1), some (n_v r), some (n_v ↑n)]) q1_20 rfl rfl ?_
  refine e_st (pc := 22) q1_22 rfl rfl ?_
  refine e_getf (pc := 23) q1_23 ho rfl ?_
  refine e_st (pc := 26) q1_26 rfl rfl ?_
  refine e_st (pc := 27) q1_27 rfl rfl ?_
  refine e_st (pc := 28) q1_28 rfl rfl ?_
  refine e_callV (pc := 29) (mz := c_m50) (a := 1) (L0 := [some (.ref 1), some (n_v ↑b), some (n_v 1), some (n_v r)]) (rest := []) q1_29 rfl rfl rfl rfl rfl rfl rfl hr rfl rfl ?_
  refine s50 hr hc hb (by omega) hrr (fun h3 c3 hr hc hb => ?_)
  have ho := ho.ch c3 (by simp)
  have hp := hp.ch c3 (by simp)
  have h5 := h5.ch c3 (by simp)
  have h14 := h14.ch c3 (by simp)
  have hy := hy.ch c3 (by simp)
  have hZ := hZ.ch c3 (by simp)
  refine e_k0 (pc := 29) ?_
  refine e_st (pc := 32) q1_32 rfl rfl ?_
  refine e_getf (pc := 33) q1_33 ho rfl ?_
  refine e_callV (pc := 36) (mz := c_m39) (a := 4) (L0 := [some (.ref 4)]) (rest := []) q1_36 rfl rfl rfl rfl rfl rfl rfl hp rfl rfl ?_
  refine s39 hp (fun h4 c4 hp => ?_)
  have ho := ho.ch c4 (by simp)
  have hr := hr.ch c4 (by simp)
  have hc := hc.ch c4 (by simp)
  have hb := hb.ch c4 (by simp)
  have h5 := h5.ch c4 (by simp)
  have h14 := h14.ch c4 (by simp)
  have hy := hy.ch c4 (by simp)
  have hZ := hZ.ch c4 (by simp)
  refine e_k0 (pc := 36) ?_
  refine e_st (pc := 39) q1_39 rfl rfl ?_
  refine e_iret (pc := 41) q1_41 rfl rfl rfl rfl ?_
  have hS2 : m_SC h4 := (hS.xt (c_xt.ofch c3) (by simp [m_W])).xt (c_xt.ofch c4) (by simp [m_W])
  exact K h4 (((c_xt.ofch c3).sub (by simp)).tr ((c_xt.ofch c4).sub (by simp))) ⟨⟨h1, hrr, by omega, fun t ht => (by show (0 : Int) ≤ 0 ∧ (0 : Int) ≤ 1 ∧ (1 : Int) ≤ 1 ∧ (1 : Int) ≤ 4; omega), fun j j1 j2 => by omega⟩, ho, hr, hc, hb, ⟨nx, hnx, hp, P, C, fun i hi => ((hP i hi).ch c3 (by simp; omega)).ch c4 (by simp; omega), fun i hi => ((hC i hi).ch c3 (by simp; omega)).ch c4 (by simp; omega), fun j j1 j2 => by omega⟩, h5, h14, hS2, hZ, wy, hy⟩
theorem s69 {n kp : Nat} {rg : Int} {cf bf : Nat → Int} {H : Nat → Nat → Int} (hW : m_St h n rg cf bf kp H) {b : Nat} {r : Int} (h1 : 1 ≤ b ∧ b ≤ 24) (hrr : r = 0 ∨ r = 1) (K : ∀ h2, c_xt h h2 (List.range 58) 0 → m_St h2 b r (fun _ => 1) (fun _ => 0) 0 H → Q (.inl (some (n_v ↑n)), h2)) : c_Ev X 69 0 [some (.ref 0), some (n_v ↑b), some (n_v 1), some (n_v r), none] [] h Q := by
  obtain ⟨⟨hn, hrg, hk, hbf, hH⟩, ho, hr, hc, hb, ⟨nx, hnx, hp, P, C, hP, hC, hPC⟩, h5, h14, hS, hZ, wy, hy⟩ := id hW
  refine e_st (pc := 0) q69_0 rfl rfl ?_
  refine e_st (pc := 1) q69_1 rfl rfl ?_
  refine e_st (pc := 2) q69_2 rfl rfl ?_
  refine e_st (pc := 3) q69_3 rfl rfl ?_
  refine e_callV (pc := 4) (mz := c_m1) (a := 0) (L0 := [some (.ref 0), some (n_v ↑b), some (n_v 1), some (n_v r), none]) (rest := []) q69_4 rfl rfl rfl rfl rfl rfl rfl ho rfl rfl ?_
  refine s1 hW h1 hrr (fun h2 c2 hW2 => ?_)
  refine e_k (pc := 4) ?_
  refine e_iret (pc := 7) q69_7 rfl rfl rfl rfl ?_
  exact K h2 c2 hW2
theorem s2 {n : Nat} {rg : Int} {cf bf : Nat → Int} {H : Nat → Nat → Int} (hW : m_St h n rg cf bf 0 H) {k : Nat} {v : Int} (h1 : k < n) (h2 : 1 ≤ v ∧ v ≤ 4) (K : ∀ h2, c_xt h h2 (List.range 58) 0 → m_St h2 n rg (fun t => if t = k then v else cf t) (fun t => if t = k then (min (bf k) v) else bf t) 0 H → Q (.inl (some (n_v (cf k))), h2)) : c_Ev X 2 0 [some (.ref 0), some (n_v ↑k), some (n_v v), none] [] h Q := by
  obtain ⟨⟨hn, hrg, hk, hbf, hH⟩, ho, hr, hc, hb, ⟨nx, hnx, hp, P, C, hP, hC, hPC⟩, h5, h14, hS, hZ, wy, hy⟩ := id hW
  have hbk := hbf k h1
  refine e_st (pc := 0) q2_0 rfl rfl ?_
  refine e_st (pc := 1) q2_1 rfl rfl ?_
  refine e_callV (pc := 2) (mz := c_m15) (a := 0) (L0 := [some (.ref 0), some (n_v ↑k)]) (rest := []) q2_2 rfl rfl rfl rfl rfl rfl rfl ho rfl rfl ?_
  refine s15 ho hr (by omega) ⟨by omega, by omega⟩ (fun _ _ => ?_) (fun g => absurd ⟨by omega, by omega⟩ g)
  refine e_k0 (pc := 2) ?_
  refine e_st (pc := 5) q2_5 rfl rfl ?_
  refine e_cst (v := 1) (len := 1) (pc := 6) q2_6 rfl rfl rfl ?_
  refine e_cst (v := 4) (len := 1) (pc := 7) q2_7 rfl rfl rfl ?_
  refine e_callS (pc := 8) (mz := c_m14) (L0 := [some (n_v v), some (n_v 1), some (n_v 4)]) (rest := []) q2_8 rfl rfl rfl rfl rfl rfl rfl rfl rfl ?_
  refine s14 ⟨by omega, by omega⟩ ⟨by omega, by omega⟩ ⟨by omega, by omega⟩ (fun _ _ => ?_) (fun g => absurd ⟨by omega, by omega⟩ g)
  refine e_k0 (pc := 8) ?_
  refine e_st (pc := 11) q2_11 rfl rfl ?_
  refine e_getf (pc := 12) q2_12 ho rfl ?_
  refine e_getf (pc := 15) q2_15 hr rfl ?_
  refine e_st (pc := 18) q2_18 rfl rfl ?_
  refine e_ald (pc := 19) (j := k) q2_19 hc (by omega) (by omega) (by omega) ?_
  refine e_st (pc := 20) (L2 := [some (.ref 0), some (n_v ↑k), some (n_v v), some (n_v (cf k))]) q2_20 rfl rfl ?_
  refine e_st (pc := 21) q2_21 rfl rfl ?_
  refine e_getf (pc := 22) q2_22 ho rfl ?_
  refine e_getf (pc := 25) q2_25 hr rfl ?_
  refine e_st (pc := 28) q2_28 rfl rfl ?_
  refine e_st (pc := 29) q2_29 rfl rfl ?_
  refine e_ast (pc := 30) (j := k) q2_30 hc (by omega) (by omega) (by omega) (fun h1 u1 => ?_)
  have ho := ho.up u1 (by omega)
  have hr := hr.up u1 (by omega)
  have hp := hp.up u1 (by omega)
  have hb := hb.up u1 (by omega)
  have hc : c_ar h1 2 60 (fun t => if t = k then v else cf t) := u1.2.1
  refine e_st (pc := 31) q2_31 rfl rfl ?_
  refine e_getf (pc := 32) q2_32 ho rfl ?_
  refine e_getf (pc := 35) q2_35 hr rfl ?_
  refine e_st (pc := 38) q2_38 rfl rfl ?_
  refine e_st (pc := 39) q2_39 rfl rfl ?_
  refine e_getf (pc := 40) q2_40 ho rfl ?_
  refine e_getf (pc := 43) q2_43 hr rfl ?_
  refine e_st (pc := 46) q2_46 rfl rfl ?_
  refine e_ald (pc := 47) (j := k) q2_47 hb (by omega) (by omega) (by omega) ?_
  refine e_st (pc := 48) q2_48 rfl rfl ?_
  refine e_min (pc := 49) q2_49 ⟨by omega, by omega⟩ ⟨by omega, by omega⟩ (Nat.le_of_ble_eq_true rfl) ?_
  refine e_ast (pc := 52) (j := k) q2_52 hb (by omega) (by omega) (by omega) (fun h2 u2 => ?_)
  have ho := ho.up u2 (by omega)
  have hr := hr.up u2 (by omega)
  have hp := hp.up u2 (by omega)
  have hc := hc.up u2 (by omega)
  have hb : c_ar h2 3 60 (fun t => if t = k then (min (bf k) v) else bf t) := u2.2.1
  refine e_st (pc := 53) q2_53 rfl rfl ?_
  refine e_iret (pc := 54) q2_54 rfl rfl rfl rfl ?_
  have c2 : c_ch h h2 [2, 3] := ((c_ch.rf h _).up u1 (by simp)).up u2 (by simp)
  exact K h2 ((c_xt.ofch c2).sub (by simp)) ⟨⟨hn, hrg, by omega, fun t ht => by
    have := hbf t ht
    show 0 ≤ (if t = k then _ else bf t) ∧ (if t = k then _ else bf t) ≤ (if t = k then v else cf t) ∧ 1 ≤ (if t = k then v else cf t) ∧ (if t = k then v else cf t) ≤ 4
    by_cases e : t = k
    · simp only [if_pos e]; omega
    · simp only [if_neg e]; omega, fun j j1 j2 => by omega⟩, ho, hr, hc, hb, ⟨nx, hnx, hp.ch (c_ch.rf _ []) (by simp), P, C, fun i hi => (hP i hi).ch c2 (by simp; omega), fun i hi => (hC i hi).ch c2 (by simp; omega), fun j j1 j2 => by omega⟩, h5.ch c2 (by simp), h14.ch c2 (by simp), hS.xt (c_xt.ofch c2) (by simp [m_W]), hZ.ch c2 (by simp), wy, hy.ch c2 (by simp)⟩
theorem s70 {n : Nat} {rg : Int} {cf bf : Nat → Int} {H : Nat → Nat → Int} (hW : m_St h n rg cf bf 0 H) {k : Nat} {v : Int} (h1 : k < n) (h2 : 1 ≤ v ∧ v ≤ 4) (K : ∀ h2, c_xt h h2 (List.range 58) 0 → m_St h2 n rg (fun t => if t = k then v else cf t) (fun t => if t = k then (min (bf k) v) else bf t) 0 H → Q (.inl (some (n_v (cf k))), h2)) : c_Ev X 70 0 [some (.ref 0), some (n_v ↑k), some (n_v v), none] [] h Q := by
  obtain ⟨⟨hn, hrg, hk, hbf, hH⟩, ho, hr, hc, hb, ⟨nx, hnx, hp, P, C, hP, hC, hPC⟩, h5, h14, hS, hZ, wy, hy⟩ := id hW
  refine e_st (pc := 0) q70_0 rfl rfl ?_
  refine e_st (pc := 1) q70_1 rfl rfl ?_
  refine e_st (pc := 2) q70_2 rfl rfl ?_
  refine e_callV (pc := 3) (mz := c_m2) (a := 0) (L0 := [some (.ref 0), some (n_v ↑k), some (n_v v), none]) (rest := []) q70_3 rfl rfl rfl rfl rfl rfl rfl ho rfl rfl ?_
  refine s2 hW h1 h2 (fun h2 c2 hW2 => ?_)
  refine e_k (pc := 3) ?_
  refine e_iret (pc := 6) q70_6 rfl rfl rfl rfl ?_
  exact K h2 c2 hW2
theorem s3 {n : Nat} {rg : Int} {cf bf : Nat → Int} {H : Nat → Nat → Int} (hW : m_St h n rg cf bf 0 H) {k : Nat} {v : Int} (hkn : k < n) (hv : 0 ≤ v ∧ v ≤ 200) (K : v ≤ cf k → ∀ h2, c_xt h h2 (List.range 58) 0 → m_St h2 n rg cf (fun t => if t = k then v else bf t) 0 H → Q (.inl (some (n_v (bf k))), h2)) (Kf : ¬ (v ≤ cf k) → Q (.inr 0, h ++ [none])) : c_Ev X 3 0 [some (.ref 0), some (n_v ↑k), some (n_v v), none] [] h Q := by
  obtain ⟨⟨hn, hrg, hk, hbf, hH⟩, ho, hr, hc, hb, ⟨nx, hnx, hp, P, C, hP, hC, hPC⟩, h5, h14, hS, hZ, wy, hy⟩ := id hW
  have hbk := hbf k hkn
  refine e_st (pc := 0) q3_0 rfl rfl ?_
  refine e_st (pc := 1) q3_1 rfl rfl ?_
  refine e_callV (pc := 2) (mz := c_m15) (a := 0) (L0 := [some (.ref 0), some (n_v ↑k)]) (rest := []) q3_2 rfl rfl rfl rfl rfl rfl rfl ho rfl rfl ?_
  refine s15 ho hr (by omega) ⟨by omega, by omega⟩ (fun _ _ => ?_) (fun g => absurd ⟨by omega, by omega⟩ g)
  refine e_k0 (pc := 2) ?_
  refine e_st (pc := 5) q3_5 rfl rfl ?_
  refine e_cst (v := 0) (len := 1) (pc := 6) q3_6 rfl rfl rfl ?_
  refine e_st (pc := 7) q3_7 rfl rfl ?_
  refine e_getf (pc := 8) q3_8 ho rfl ?_
  refine e_getf (pc := 11) q3_11 hr rfl ?_
  refine e_st (pc := 14) q3_14 rfl rfl ?_
  refine e_ald (pc := 15) (j := k) q3_15 hc (by omega) (by omega) (by omega) ?_
  refine e_callS (pc := 16) (mz := c_m14) (L0 := [some (n_v v), some (n_v 0), some (n_v (cf k))]) (rest := []) q3_16 rfl rfl rfl rfl rfl rfl rfl rfl rfl ?_
  refine s14 ⟨by omega, by omega⟩ ⟨by omega, by omega⟩ ⟨by omega, by omega⟩ (fun _ g2 => ?_) (fun g => e_prop (md := c_m3) rfl rfl rfl (Kf (fun z => g ⟨hv.1, z⟩)))
  refine e_k0 (pc := 16) ?_
  refine e_st (pc := 19) q3_19 rfl rfl ?_
  refine e_getf (pc := 20) q3_20 ho rfl ?_
  refine e_getf (pc := 23) q3_23 hr rfl ?_
  refine e_st (pc := 26) q3_26 rfl rfl ?_
  refine e_ald (pc := 27) (j := k) q3_27 hb (by omega) (by omega) (by omega) ?_
  refine e_st (pc := 28) (L2 := [some (.ref 0), some (n_v ↑k), some (n_v v), some (n_v (bf k))]) q3_28 rfl rfl ?_
  refine e_st (pc := 29) q3_29 rfl rfl ?_
  refine e_getf (pc := 30) q3_30 ho rfl ?_
  refine e_getf (pc := 33) q3_33 hr rfl ?_
  refine e_st (pc := 36) q3_36 rfl rfl ?_
  refine e_st (pc := 37) q3_37 rfl rfl ?_
  refine e_ast (pc := 38) (j := k) q3_38 hb (by omega) (by omega) (by omega) (fun h1 u1 => ?_)
  have ho := ho.up u1 (by omega)
  have hr := hr.up u1 (by omega)
  have hp := hp.up u1 (by omega)
  have hc := hc.up u1 (by omega)
  have hb : c_ar h1 3 60 (fun t => if t = k then v else bf t) := u1.2.1
  refine e_st (pc := 39) q3_39 rfl rfl ?_
  refine e_iret (pc := 40) q3_40 rfl rfl rfl rfl ?_
  have c2 : c_ch h h1 [3] := (c_ch.rf h _).up u1 (by simp)
  exact K g2 h1 ((c_xt.ofch c2).sub (by simp)) ⟨⟨hn, hrg, by omega, fun t ht => by
    have := hbf t ht
    show 0 ≤ (if t = k then _ else bf t) ∧ (if t = k then _ else bf t) ≤ cf t ∧ 1 ≤ cf t ∧ cf t ≤ 4
    by_cases e : t = k
    · simp only [if_pos e]; rw [e]; omega
    · simp only [if_neg e]; omega, fun j j1 j2 => by omega⟩, ho, hr, hc, hb, ⟨nx, hnx, hp.ch (c_ch.rf _ []) (by simp), P, C, fun i hi => (hP i hi).ch c2 (by simp; omega), fun i hi => (hC i hi).ch c2 (by simp; omega), fun j j1 j2 => by omega⟩, h5.ch c2 (by simp), h14.ch c2 (by simp), hS.xt (c_xt.ofch c2) (by simp [m_W]), hZ.ch c2 (by simp), wy, hy.ch c2 (by simp)⟩
theorem s71 {n : Nat} {rg : Int} {cf bf : Nat → Int} {H : Nat → Nat → Int} (hW : m_St h n rg cf bf 0 H) {k : Nat} {v : Int} (h1 : k < n) (hv : 0 ≤ v ∧ v ≤ 200) (K : v ≤ cf k → ∀ h2, c_xt h h2 (List.range 58) 0 → m_St h2 n rg cf (fun t => if t = k then v else bf t) 0 H → Q (.inl (some (n_v (bf k))), h2)) (Kf : ¬ (v ≤ cf k) → ∀ h2, c_xt h h2 [] 1 → m_St h2 n rg cf bf 0 H → Q (.inl (some (n_v (-900002))), h2)) : c_Ev X 71 0 [some (.ref 0), some (n_v ↑k), some (n_v v), none] [] h Q := by
  obtain ⟨⟨hn, hrg, hk, hbf, hH⟩, ho, hr, hc, hb, ⟨nx, hnx, hp, P, C, hP, hC, hPC⟩, h5, h14, hS, hZ, wy, hy⟩ := id hW
  have hbk := hbf k h1
  refine e_st (pc := 0) q71_0 rfl rfl ?_
  refine e_st (pc := 1) q71_1 rfl rfl ?_
  refine e_st (pc := 2) q71_2 rfl rfl ?_
  refine e_callV (pc := 3) (mz := c_m3) (a := 0) (L0 := [some (.ref 0), some (n_v ↑k), some (n_v v), none]) (rest := []) q71_3 rfl rfl rfl rfl rfl rfl rfl ho rfl rfl ?_
  refine s3 hW h1 hv (fun g h2 c2 hW2 => ?_) (fun g => ?_)
  · refine e_k (pc := 3) ?_
    refine e_iret (pc := 6) q71_6 rfl rfl rfl rfl ?_
    exact K g h2 c2 hW2
  · refine e_catch (md := c_m71) (pc2 := 12) (L2 := [some (.ref 0), some (n_v ↑k), some (n_v v), none]) rfl rfl rfl rfl ?_
    refine e_cst (v := -900002) (len := 2) (pc := 12) q71_12 rfl rfl (by decide +kernel) ?_
    refine e_iret (pc := 14) q71_14 rfl rfl rfl rfl ?_
    exact Kf g _ (c_xt.one h) (hW.new (c_xt.one h) (by simp))
theorem s73 {n kp : Nat} {rg : Int} {cf bf : Nat → Int} {H : Nat → Nat → Int} (hW : m_St h n rg cf bf kp H) {ca : Int} (hca : -1000 ≤ ca ∧ ca ≤ 1000)
    (Kr : ¬ (1 ≤ ca ∧ ca ≤ 99) → ∀ h2, c_xt h h2 [] 1 → m_St h2 n rg cf bf kp H → Q (.inl (some (n_v (-900001))), h2)) (Kx : 1 ≤ ca → ca ≤ 99 → ¬ (m_ld ca (m_s0 rg ca cf bf (fun t => t) n) cf bf (fun t => t) n = (m_s0 rg ca cf bf (fun t => t) n)) → ∀ h2, c_xt h h2 m_W 1 → m_St h2 n rg cf bf kp H → Q (.inl (some (n_v (-900002))), h2))
    (K : 1 ≤ ca → ca ≤ 99 → m_ld ca (m_s0 rg ca cf bf (fun t => t) n) cf bf (fun t => t) n = (m_s0 rg ca cf bf (fun t => t) n) → ∀ (h2 : c_Hp) (bf2 : Nat → Int), c_xt h h2 (List.range 58) 0 → (∀ t, t < n → bf2 t = m_lb ca (m_ld ca (m_s0 rg ca cf bf (fun t => t) n) cf bf (fun t => t) t) (cf t) (bf t)) → m_St h2 n rg cf bf2 (min (kp + 1) 8) (fun j => if j = 1 then bf else H (j - 1)) → Q (.inl (some (n_v (m_mx ca (m_s0 rg ca cf bf (fun t => t) n) cf bf (fun t => t) n))), h2)) :
    c_Ev X 73 0 [some (.ref 0), some (n_v ca), none] [] h Q := by
  obtain ⟨⟨hn, hrg, hk, hbf, hH⟩, ho, hr, hc, hb, ⟨nx, hnx, hp, P, C, hP, hC, hPC⟩, h5, h14, hS, hZ, wy, hy⟩ := id hW
  refine e_st (pc := 0) q73_0 rfl rfl ?_
  refine e_st (pc := 1) q73_1 rfl rfl ?_
  refine e_callV (pc := 2) (mz := c_m6) (a := 0) (L0 := [some (.ref 0), some (n_v ca)]) (rest := []) q73_2 rfl rfl rfl rfl rfl rfl rfl ho rfl rfl ?_
  refine e_st (pc := 0) q6_0 rfl rfl ?_
  refine e_st (pc := 1) q6_1 rfl rfl ?_
  refine e_cst (v := 1) (len := 1) (pc := 2) q6_2 rfl rfl rfl ?_
  refine e_callV (pc := 3) (mz := c_m16) (a := 0) (L0 := [some (.ref 0), some (n_v ca), some (n_v 1)]) (rest := []) q6_3 rfl rfl rfl rfl rfl rfl rfl ho rfl rfl ?_
  refine s16f hW hca (fun g => e_prop (md := c_m6) rfl rfl rfl ?_) (fun g1 g2 g3 h2 c2 hW2 => e_prop (md := c_m6) rfl rfl rfl ?_) (fun g1 g2 g3 h2 bf2 c2 hb2 hW2 => ?_)
  · refine e_catch (md := c_m73) (pc2 := 7) (L2 := [some (.ref 0), some (n_v ca), none]) rfl rfl rfl rfl ?_
    refine e_cst (v := -900001) (len := 2) (pc := 7) q73_7 rfl rfl (by decide +kernel) ?_
    refine e_iret (pc := 9) q73_9 rfl rfl rfl rfl ?_
    exact Kr g _ (c_xt.one h) (hW.new (c_xt.one h) (by simp))
  · refine e_catch (md := c_m73) (pc2 := 11) (L2 := [some (.ref 0), some (n_v ca), none]) rfl rfl rfl rfl ?_
    refine e_cst (v := -900002) (len := 2) (pc := 11) q73_11 rfl rfl (by decide +kernel) ?_
    refine e_iret (pc := 13) q73_13 rfl rfl rfl rfl ?_
    exact Kx g1 g2 g3 _ c2 hW2
  · refine e_k (pc := 3) ?_
    refine e_iret (pc := 6) q6_6 rfl rfl rfl rfl ?_
    refine e_k (pc := 2) ?_
    refine e_iret (pc := 5) q73_5 rfl rfl rfl rfl ?_
    exact K g1 g2 g3 h2 bf2 c2 hb2 hW2
theorem s74 {n kp : Nat} {rg : Int} {cf bf : Nat → Int} {H : Nat → Nat → Int} (hW : m_St h n rg cf bf kp H) {ca : Int} (hca : -1000 ≤ ca ∧ ca ≤ 1000)
    (Kr : ¬ (1 ≤ ca ∧ ca ≤ 99) → ∀ h2, c_xt h h2 [] 1 → m_St h2 n rg cf bf kp H → Q (.inl (some (n_v (-900001))), h2)) (Kx : 1 ≤ ca → ca ≤ 99 → ¬ (m_ld ca (m_s0 rg ca cf bf (fun t => n - 1 - t) n) cf bf (fun t => n - 1 - t) n = (m_s0 rg ca cf bf (fun t => n - 1 - t) n)) → ∀ h2, c_xt h h2 m_W 1 → m_St h2 n rg cf bf kp H → Q (.inl (some (n_v (-900002))), h2))
    (K : 1 ≤ ca → ca ≤ 99 → m_ld ca (m_s0 rg ca cf bf (fun t => n - 1 - t) n) cf bf (fun t => n - 1 - t) n = (m_s0 rg ca cf bf (fun t => n - 1 - t) n) → ∀ (h2 : c_Hp) (bf2 : Nat → Int), c_xt h h2 (List.range 58) 0 → (∀ t, t < n → bf2 t = m_lb ca (m_ld ca (m_s0 rg ca cf bf (fun t => n - 1 - t) n) cf bf (fun t => n - 1 - t) (n - 1 - t)) (cf t) (bf t)) → m_St h2 n rg cf bf2 (min (kp + 1) 8) (fun j => if j = 1 then bf else H (j - 1)) → Q (.inl (some (n_v (m_mx ca (m_s0 rg ca cf bf (fun t => n - 1 - t) n) cf bf (fun t => n - 1 - t) n))), h2)) :
    c_Ev X 74 0 [some (.ref 0), some (n_v ca), none] [] h Q := by
  obtain ⟨⟨hn, hrg, hk, hbf, hH⟩, ho, hr, hc, hb, ⟨nx, hnx, hp, P, C, hP, hC, hPC⟩, h5, h14, hS, hZ, wy, hy⟩ := id hW
  refine e_st (pc := 0) q74_0 rfl rfl ?_
  refine e_st (pc := 1) q74_1 rfl rfl ?_
  refine e_callV (pc := 2) (mz := c_m7) (a := 0) (L0 := [some (.ref 0), some (n_v ca)]) (rest := []) q74_2 rfl rfl rfl rfl rfl rfl rfl ho rfl rfl ?_
  refine e_st (pc := 0) q7_0 rfl rfl ?_
  refine e_st (pc := 1) q7_1 rfl rfl ?_
  refine e_cst (v := 0) (len := 1) (pc := 2) q7_2 rfl rfl rfl ?_
  refine e_callV (pc := 3) (mz := c_m16) (a := 0) (L0 := [some (.ref 0), some (n_v ca), some (n_v 0)]) (rest := []) q7_3 rfl rfl rfl rfl rfl rfl rfl ho rfl rfl ?_
  refine s16b hW hca (fun g => e_prop (md := c_m7) rfl rfl rfl ?_) (fun g1 g2 g3 h2 c2 hW2 => e_prop (md := c_m7) rfl rfl rfl ?_) (fun g1 g2 g3 h2 bf2 c2 hb2 hW2 => ?_)
  · refine e_catch (md := c_m74) (pc2 := 7) (L2 := [some (.ref 0), some (n_v ca), none]) rfl rfl rfl rfl ?_
    refine e_cst (v := -900001) (len := 2) (pc := 7) q74_7 rfl rfl (by decide +kernel) ?_
    refine e_iret (pc := 9) q74_9 rfl rfl rfl rfl ?_
    exact Kr g _ (c_xt.one h) (hW.new (c_xt.one h) (by simp))
  · refine e_catch (md := c_m74) (pc2 := 11) (L2 := [some (.ref 0), some (n_v ca), none]) rfl rfl rfl rfl ?_
    refine e_cst (v := -900002) (len := 2) (pc := 11) q74_11 rfl rfl (by decide +kernel) ?_
    refine e_iret (pc := 13) q74_13 rfl rfl rfl rfl ?_
    exact Kx g1 g2 g3 _ c2 hW2
  · refine e_k (pc := 3) ?_
    refine e_iret (pc := 6) q7_6 rfl rfl rfl rfl ?_
    refine e_k (pc := 2) ?_
    refine e_iret (pc := 5) q74_5 rfl rfl rfl rfl ?_
    exact K g1 g2 g3 h2 bf2 c2 hb2 hW2
theorem s75 {n kp : Nat} {rg : Int} {cf bf : Nat → Int} {H : Nat → Nat → Int} (hW : m_St h n rg cf bf kp H) (K : ∀ h2, c_xt h h2 [] 1 → m_St h2 n rg cf bf kp H → Q (.inl (some (n_v (-900001))), h2)) : c_Ev X 75 0 [some (.ref 0), some (n_v 0), some (n_v 1), none] [] h Q := by
  obtain ⟨⟨hn, hrg, hk, hbf, hH⟩, ho, hr, hc, hb, ⟨nx, hnx, hp, P, C, hP, hC, hPC⟩, h5, h14, hS, hZ, wy, hy⟩ := id hW
  refine e_st (pc := 0) q75_0 rfl rfl ?_
  refine e_st (pc := 1) q75_1 rfl rfl ?_
  refine e_st (pc := 2) q75_2 rfl rfl ?_
  refine e_callV (pc := 3) (mz := c_m8) (a := 0) (L0 := [some (.ref 0), some (n_v 0), some (n_v 1), none]) (rest := []) q75_3 rfl rfl rfl rfl rfl rfl rfl ho rfl rfl ?_
  refine e_st (pc := 0) q8_0 rfl rfl ?_
  refine e_cst (v := 1) (len := 1) (pc := 1) q8_1 rfl rfl rfl ?_
  refine e_cst (v := 99) (len := 2) (pc := 2) q8_2 rfl rfl (by decide +kernel) ?_
  refine e_callS (pc := 4) (mz := c_m14) (L0 := [some (n_v 0), some (n_v 1), some (n_v 99)]) (rest := []) q8_4 rfl rfl rfl rfl rfl rfl rfl rfl rfl ?_
  refine s14 ⟨by omega, by omega⟩ ⟨by omega, by omega⟩ ⟨by omega, by omega⟩ (fun g1 g2 => by omega) (fun g => e_prop (md := c_m8) rfl rfl rfl ?_)
  refine e_catch (md := c_m75) (pc2 := 8) (L2 := [some (.ref 0), some (n_v 0), some (n_v 1), none]) rfl rfl rfl rfl ?_
  refine e_cst (v := -900001) (len := 2) (pc := 8) q75_8 rfl rfl (by decide +kernel) ?_
  refine e_iret (pc := 10) q75_10 rfl rfl rfl rfl ?_
  exact K _ (c_xt.one h) (hW.new (c_xt.one h) (by simp))
theorem s5 {n kp : Nat} {rg : Int} {cf bf : Nat → Int} {H : Nat → Nat → Int} (hW : m_St h n rg cf bf kp H) (K : Q (.inl (some (n_v (m_sum n bf))), h)) : c_Ev X 5 0 [some (.ref 0)] [] h Q := by
  obtain ⟨⟨hn, hrg, hk, hbf, hH⟩, ho, hr, hc, hb, ⟨nx, hnx, hp, P, C, hP, hC, hPC⟩, h5, h14, hS, hZ, wy, hy⟩ := id hW
  refine e_st (pc := 0) q5_0 rfl rfl ?_
  refine e_getf (pc := 1) q5_1 ho rfl ?_
  refine e_callV (pc := 4) (mz := c_m56) (a := 1) (L0 := [some (.ref 1), none, none]) (rest := []) q5_4 rfl rfl rfl rfl rfl rfl rfl hr rfl rfl ?_
  refine s56 hr hb (by omega) ?_
  refine e_k (pc := 4) ?_
  refine e_iret (pc := 7) q5_7 rfl rfl rfl rfl ?_
  exact K
theorem s9 {n kp : Nat} {rg : Int} {cf bf : Nat → Int} {H : Nat → Nat → Int} (hW : m_St h n rg cf bf kp H) (K : Q (.inl (some (n_v ↑kp)), h)) : c_Ev X 9 0 [some (.ref 0)] [] h Q := by
  obtain ⟨⟨hn, hrg, hk, hbf, hH⟩, ho, hr, hc, hb, ⟨nx, hnx, hp, P, C, hP, hC, hPC⟩, h5, h14, hS, hZ, wy, hy⟩ := id hW
  refine e_st (pc := 0) q9_0 rfl rfl ?_
  refine e_getf (pc := 1) q9_1 ho rfl ?_
  refine e_getf (pc := 4) q9_4 hp rfl ?_
  refine e_iret (pc := 7) q9_7 rfl rfl rfl rfl ?_
  exact K
theorem s76 {n kp : Nat} {rg : Int} {cf bf : Nat → Int} {H : Nat → Nat → Int} (hW : m_St h n rg cf bf kp H) {s v : Int} (hs : -50 ≤ s ∧ s ≤ 50) (hv : -50 ≤ v ∧ v ≤ 100) (K1 : ¬ (1 ≤ s ∧ s ≤ kp) → ∀ h2, c_xt h h2 [] 1 → m_St h2 n rg cf bf kp H → Q (.inl (some (n_v (-900001))), h2)) (K2 : ¬ (0 ≤ v ∧ v < n) → 1 ≤ s → s ≤ kp → ∀ h2, c_xt h h2 [] 1 → m_St h2 n rg cf bf kp H → Q (.inl (some (n_v (-900002))), h2)) (K : ∀ j t : Nat, s = j → v = t → 1 ≤ j → j ≤ kp → t < n → Q (.inl (some (n_v (H j t))), h)) : c_Ev X 76 0 [some (.ref 0), some (n_v s), some (n_v v), none] [] h Q := by
  obtain ⟨⟨hn, hrg, hk, hbf, hH⟩, ho, hr, hc, hb, ⟨nx, hnx, hp, P, C, hP, hC, hPC⟩, h5, h14, hS, hZ, wy, hy⟩ := id hW
  refine e_st (pc := 0) q76_0 rfl rfl ?_
  refine e_st (pc := 1) q76_1 rfl rfl ?_
  refine e_st (pc := 2) q76_2 rfl rfl ?_
  refine e_callV (pc := 3) (mz := c_m10) (a := 0) (L0 := [some (.ref 0), some (n_v s), some (n_v v)]) (rest := []) q76_3 rfl rfl rfl rfl rfl rfl rfl ho rfl rfl ?_
  refine e_st (pc := 0) q10_0 rfl rfl ?_
  refine e_getf (pc := 1) q10_1 ho rfl ?_
  refine e_st (pc := 4) q10_4 rfl rfl ?_
  refine e_callV (pc := 5) (mz := c_m40) (a := 4) (L0 := [some (.ref 4), some (n_v s)]) (rest := []) q10_5 rfl rfl rfl rfl rfl rfl rfl hp rfl rfl ?_
  refine s40 hp hk (by omega) ?_
  refine e_k (pc := 5) ?_
  by_cases g1 : 1 ≤ s ∧ s ≤ kp
  · rw [if_pos g1]
    refine e_if true (pc := 8) q10_8 ⟨by omega, by omega⟩ (n_t_ne (by omega)) ?_
    refine e_st (pc := 21) q10_21 rfl rfl ?_
    refine e_st (pc := 22) q10_22 rfl rfl ?_
    refine e_callV (pc := 23) (mz := c_m15) (a := 0) (L0 := [some (.ref 0), some (n_v v)]) (rest := []) q10_23 rfl rfl rfl rfl rfl rfl rfl ho rfl rfl ?_
    refine s15 ho hr (by omega) ⟨by omega, by omega⟩ (fun g2 g3 => ?_) (fun g => e_prop (md := c_m10) rfl rfl rfl ?_)
    · refine e_k0 (pc := 23) ?_
      obtain ⟨j, rfl⟩ : ∃ j : Nat, s = j := ⟨s.toNat, by omega⟩
      obtain ⟨t, rfl⟩ : ∃ t : Nat, v = t := ⟨v.toNat, by omega⟩
      refine e_st (pc := 26) q10_26 rfl rfl ?_
      refine e_getf (pc := 27) q10_27 ho rfl ?_
      refine e_st (pc := 30) q10_30 rfl rfl ?_
      refine e_st (pc := 31) q10_31 rfl rfl ?_
      refine e_callV (pc := 32) (mz := c_m42) (a := 4) (L0 := [some (.ref 4), some (n_v ↑j), some (n_v ↑t)]) (rest := []) q10_32 rfl rfl rfl rfl rfl rfl rfl hp rfl rfl ?_
      refine s42 hp h14 hP hnx (by omega) (by omega) ?_
      refine e_k (pc := 32) ?_
      refine e_iret (pc := 35) q10_35 rfl rfl rfl rfl ?_
      refine e_k (pc := 3) ?_
      rw [(hPC j (by omega) (by omega) t (by omega)).1]
      refine e_iret (pc := 6) q76_6 rfl rfl rfl rfl ?_
      exact K j t rfl rfl (by omega) (by omega) (by omega)
    · refine e_catch (md := c_m76) (pc2 := 12) (L2 := [some (.ref 0), some (n_v s), some (n_v v), none]) rfl rfl rfl rfl ?_
      refine e_cst (v := -900002) (len := 2) (pc := 12) q76_12 rfl rfl (by decide +kernel) ?_
      refine e_iret (pc := 14) q76_14 rfl rfl rfl rfl ?_
      exact K2 g g1.1 g1.2 _ (c_xt.one h) (hW.new (c_xt.one h) (by simp))
  · rw [if_neg g1]
    refine e_if false (pc := 8) q10_8 ⟨by omega, by omega⟩ (n_f_ne (by omega)) ?_
    refine e_thr (pc := 11) q10_11 rfl rfl rfl (Nat.le_of_ble_eq_true rfl) ?_
    refine e_catch (md := c_m76) (pc2 := 8) (L2 := [some (.ref 0), some (n_v s), some (n_v v), none]) rfl rfl rfl rfl ?_
    refine e_cst (v := -900001) (len := 2) (pc := 8) q76_8 rfl rfl (by decide +kernel) ?_
    refine e_iret (pc := 10) q76_10 rfl rfl rfl rfl ?_
    exact K1 g1 _ (c_xt.one h) (hW.new (c_xt.one h) (by simp))
theorem s77 {n kp : Nat} {rg : Int} {cf bf : Nat → Int} {H : Nat → Nat → Int} (hW : m_St h n rg cf bf kp H) (K1 : kp = 0 → ∀ h2, c_xt h h2 [] 1 → m_St h2 n rg cf bf kp H → Q (.inl (some (n_v (-900001))), h2)) (K : 1 ≤ kp → ∀ (h2 : c_Hp) (cf2 bf2 : Nat → Int), c_xt h h2 (List.range 58) 0 → (∀ t, t < n → cf2 t = cf t ∧ bf2 t = H 1 t) → m_St h2 n rg cf2 bf2 (kp - 1) (fun j => H (j + 1)) → Q (.inl (some (n_v ((kp - 1 : Nat) : Int))), h2)) : c_Ev X 77 0 [some (.ref 0), none] [] h Q := by
  obtain ⟨⟨hn, hrg, hk, hbf, hH⟩, ho, hr, hc, hb, ⟨nx, hnx, hp, P, C, hP, hC, hPC⟩, h5, h14, hS, hZ, wy, hy⟩ := id hW
  refine e_st (pc := 0) q77_0 rfl rfl ?_
  refine e_callV (pc := 1) (mz := c_m11) (a := 0) (L0 := [some (.ref 0)]) (rest := []) q77_1 rfl rfl rfl rfl rfl rfl rfl ho rfl rfl ?_
  refine e_st (pc := 0) q11_0 rfl rfl ?_
  refine e_getf (pc := 1) q11_1 ho rfl ?_
  refine e_cst (v := 1) (len := 1) (pc := 4) q11_4 rfl rfl rfl ?_
  refine e_callV (pc := 5) (mz := c_m40) (a := 4) (L0 := [some (.ref 4), some (n_v 1)]) (rest := []) q11_5 rfl rfl rfl rfl rfl rfl rfl hp rfl rfl ?_
  refine s40 hp hk (by omega) ?_
  refine e_k (pc := 5) ?_
  by_cases g1 : (1 : Int) ≤ 1 ∧ (1 : Int) ≤ kp
  · rw [if_pos g1]
    refine e_if true (pc := 8) q11_8 ⟨by omega, by omega⟩ (n_t_ne (by omega)) ?_
    refine e_st (pc := 21) q11_21 rfl rfl ?_
    refine e_getf (pc := 22) q11_22 ho rfl ?_
    refine e_st (pc := 25) q11_25 rfl rfl ?_
    refine e_getf (pc := 26) q11_26 ho rfl ?_
    refine e_callV (pc := 29) (mz := c_m44) (a := 4) (L0 := [some (.ref 4), some (.ref 1)]) (rest := []) q11_29 rfl rfl rfl rfl rfl rfl rfl hp rfl rfl ?_
    refine s44 hp h5 h14 hr hc hb hnx (by omega) (by omega) (hC _ (by omega)) (hP _ (by omega)) (fun h2 c2 hp hc hb => ?_)
    have ho := ho.ch c2 (by simp)
    have hr := hr.ch c2 (by simp)
    have h5 := h5.ch c2 (by simp)
    have h14 := h14.ch c2 (by simp)
    have hy := hy.ch c2 (by simp)
    have hZ := hZ.ch c2 (by simp)
    refine e_k0 (pc := 29) ?_
    refine e_st (pc := 32) q11_32 rfl rfl ?_
    refine e_getf (pc := 33) q11_33 ho rfl ?_
    refine e_getf (pc := 36) q11_36 hp rfl ?_
    refine e_iret (pc := 39) q11_39 rfl rfl rfl rfl ?_
    refine e_k (pc := 1) ?_
    refine e_iret (pc := 4) q77_4 rfl rfl rfl rfl ?_
    have e7 : (nx + 8 - 1) % 8 = (nx + 7) % 8 := by omega
    have hx : ∀ t, t < n → (fun t => if t < n then C ((nx + 7) % 8) t else cf t) t = cf t ∧ (fun t => if t < n then P ((nx + 7) % 8) t else bf t) t = H 1 t := fun t ht => by
      have := hPC 1 (by omega) (by omega) t ht
      rw [e7] at this
      simp only [if_pos ht]
      exact ⟨this.2, this.1⟩
    refine K (by omega) h2 _ _ ((c_xt.ofch c2).sub (by simp)) hx ⟨⟨hn, hrg, by omega, fun t ht => ?_, fun j j1 j2 t ht => ?_⟩, ho, hr, hc, hb, ⟨(nx + 7) % 8, by omega, hp, P, C, fun i hi => (hP i hi).ch c2 (by simp; omega), fun i hi => (hC i hi).ch c2 (by simp; omega), fun j j1 j2 t ht => ?_⟩, h5, h14, hS.xt (c_xt.ofch c2) (by simp [m_W]), hZ, wy, hy⟩
    · have g5 := hbf t ht
      have g6 := hH 1 (by omega) (by omega) t ht
      rw [(hx t ht).1, (hx t ht).2]
      omega
    · rw [(hx t ht).1]
      exact hH (j + 1) (by omega) (by omega) t ht
    · have e8 : ((nx + 7) % 8 + 8 - j) % 8 = (nx + 8 - (j + 1)) % 8 := by omega
      rw [(hx t ht).1, e8]
      exact hPC (j + 1) (by omega) (by omega) t ht
  · rw [if_neg g1]
    refine e_if false (pc := 8) q11_8 ⟨by omega, by omega⟩ (n_f_ne (by omega)) ?_
    refine e_thr (pc := 11) q11_11 rfl rfl rfl (Nat.le_of_ble_eq_true rfl) ?_
    refine e_catch (md := c_m77) (pc2 := 6) (L2 := [some (.ref 0), none]) rfl rfl rfl rfl ?_
    refine e_cst (v := -900001) (len := 2) (pc := 6) q77_6 rfl rfl (by decide +kernel) ?_
    refine e_iret (pc := 8) q77_8 rfl rfl rfl rfl ?_
    exact K1 (by omega) _ (c_xt.one h) (hW.new (c_xt.one h) (by simp))
end Ms
