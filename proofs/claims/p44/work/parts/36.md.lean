/-! What an object holds, and the steps it takes. -/
/-- the object at 0: n boxes, a ring where rg is 1, of capacities cf, with balls bf; kp rows are kept, H j being the j-th of them, the last one first -/
def m_St (h : c_Hp) (n : Nat) (rg : Int) (cf bf : Nat → Int) (kp : Nat) (H : Nat → Nat → Int) : Prop :=
  ((1 ≤ n ∧ n ≤ 24) ∧ (rg = 0 ∨ rg = 1) ∧ kp ≤ 8 ∧ (∀ t, t < n → 0 ≤ bf t ∧ bf t ≤ cf t ∧ 1 ≤ cf t ∧ cf t ≤ 4) ∧ ∀ j, 1 ≤ j → j ≤ kp → ∀ t, t < n → 0 ≤ H j t ∧ H j t ≤ cf t) ∧
  c_ob h 0 10 m_O ∧ c_ob h 1 6 [.ref 2, .ref 3, n_v ↑n, n_v rg] ∧ c_ar h 2 60 cf ∧ c_ar h 3 60 bf ∧
  (∃ nx : Nat, nx < 8 ∧ c_ob h 4 4 [.ref 5, .ref 14, n_v ↑kp, n_v ↑nx] ∧ ∃ P C : Nat → Nat → Int, (∀ i, i < 8 → c_ar h (15 + i) 60 (P i)) ∧ (∀ i, i < 8 → c_ar h (6 + i) 60 (C i)) ∧ ∀ j, 1 ≤ j → j ≤ kp → ∀ t, t < n → P ((nx + 8 - j) % 8) t = H j t ∧ C ((nx + 8 - j) % 8) t = cf t) ∧
  c_aa h 5 8 (fun t => 6 + t) ∧ c_aa h 14 8 (fun t => 15 + t) ∧ m_SC h ∧ m_Z h ∧ ∃ wy, c_ar h 51 6 wy
theorem m_St.xt {h h2 : c_Hp} {n : Nat} {rg : Int} {cf bf : Nat → Int} {kp : Nat} {H : Nat → Nat → Int} {V : List Nat} {e : Nat} (s : m_St h n rg cf bf kp H) (r : c_xt h h2 V e) (hV : ∀ q ∈ V, 58 ≤ q ∨ q ∈ m_W) (hS : m_SC h2) : m_St h2 n rg cf bf kp H := by
  obtain ⟨a1, a2, a3, a4, a5, ⟨nx, b1, b2, P, C, b3, b4, b5⟩, a6, a7, a8, a9, wy, a10⟩ := s
  have hv : ∀ q, q < 58 → q ∉ m_W → q ∉ V := fun q h1 h2 h3 => by
    rcases hV q h3 with h4 | h4
    · omega
    · exact h2 h4
  have hm : ∀ q, q < 23 → q ∉ m_W := fun q hq h1 => by
    simp [m_W] at h1
    omega
  refine ⟨a1, a2.xt r (hv _ (by omega) (by decide)), a3.xt r (hv _ (by omega) (by decide)), a4.xt r (hv _ (by omega) (by decide)), a5.xt r (hv _ (by omega) (by decide)), ⟨nx, b1, b2.xt r (hv _ (by omega) (by decide)), P, C, fun i hi => (b3 i hi).xt r (hv _ (by omega) (hm _ (by omega))), fun i hi => (b4 i hi).xt r (hv _ (by omega) (hm _ (by omega))), b5⟩, a6.xt r (hv _ (by omega) (by decide)), a7.xt r (hv _ (by omega) (by decide)), hS, ?_, wy, a10.xt r (hv _ (by omega) (by decide))⟩
  refine a9.xt r (fun q hq => ?_)
  rcases hV q hq with h4 | h4
  · omega
  · simp [m_W] at h4
    omega
theorem m_St.new {h h2 : c_Hp} {n : Nat} {rg : Int} {cf bf : Nat → Int} {kp : Nat} {H : Nat → Nat → Int} {V : List Nat} {e : Nat} (s : m_St h n rg cf bf kp H) (r : c_xt h h2 V e) (hV : ∀ q ∈ V, 58 ≤ q) : m_St h2 n rg cf bf kp H :=
  s.xt r (fun q hq => Or.inl (hV q hq)) (s.2.2.2.2.2.2.2.2.1.xt r (fun q hq h1 => by
    have := hV q hq
    simp [m_W] at h1
    omega))
theorem m_St.len {h : c_Hp} {n : Nat} {rg : Int} {cf bf : Nat → Int} {kp : Nat} {H : Nat → Nat → Int} (s : m_St h n rg cf bf kp H) : 52 ≤ h.length := by
  have := c_at_lt (show h[51]? = _ from s.2.2.2.2.2.2.2.2.2.2.choose_spec)
  omega
section Ms
variable {X : List Int32} {h : c_Hp} {Q : c_O × c_Hp → Prop}
theorem s43L {n kp nx : Nat} {rg : Value} {cf bf C0 P0 : Nat → Int} (hp0 : c_ob h 4 4 [.ref 5, .ref 14, n_v ↑kp, n_v ↑nx]) (h50 : c_aa h 5 8 (fun t => 6 + t)) (h140 : c_aa h 14 8 (fun t => 15 + t)) (hr0 : c_ob h 1 6 [.ref 2, .ref 3, n_v ↑n, rg]) (hc0 : c_ar h 2 60 cf) (hb0 : c_ar h 3 60 bf) (hnx : nx < 8) (hk : kp ≤ 8) (hn : n ≤ 60) (K : ∀ (h2 : c_Hp), c_ch h h2 [4, 6 + nx, 15 + nx] → c_ob h2 4 4 [.ref 5, .ref 14, n_v ((min (kp + 1) 8 : Nat) : Int), n_v (((nx + 1) % 8 : Nat) : Int)] → c_ar h2 (6 + nx) 60 (fun t => if t < n then cf t else C0 t) → c_ar h2 (15 + nx) 60 (fun t => if t < n then bf t else P0 t) → Q (.inl none, h2)) : ∀ (m i : Nat) (h1 : c_Hp) (f g : Nat → Int), i + m = n → c_ch h h1 [6 + nx, 15 + nx] → c_ar h1 (6 + nx) 60 f → c_ar h1 (15 + nx) 60 g → (∀ t, f t = if t < i then cf t else C0 t) → (∀ t, g t = if t < i then bf t else P0 t) → c_Ev X 43 2 [some (.ref 4), some (.ref 1), some (n_v ↑i)] [] h1 Q
  | 0, i, h0, f, g, e, hch, hf, hg, hx, hy => by
    have hp := hp0.ch hch (by simp; omega)
    have h5 := h50.ch hch (by simp; omega)
    have h14 := h140.ch hch (by simp; omega)
    have hr := hr0.ch hch (by simp; omega)
    have hc := hc0.ch hch (by simp; omega)
    have hb := hb0.ch hch (by simp; omega)
    refine e_st (pc := 2) q43_2 rfl rfl ?_
    refine e_st (pc := 3) q43_3 rfl rfl ?_
    refine e_getf (pc := 4) q43_4 hr rfl ?_
    refine e_cmp true (pc := 7) q43_7 ⟨by omega, by omega⟩ ⟨by omega, by omega⟩ (n_t_ge (by omega)) ?_
    refine e_st (pc := 50) q43_50 rfl rfl ?_
    refine e_st (pc := 51) q43_51 rfl rfl ?_
    refine e_cst (v := -1) (len := 1) (pc := 52) q43_52 rfl rfl rfl ?_
    refine e_callV (pc := 53) (mz := c_m41) (a := 4) (L0 := [some (.ref 4), some (n_v (-1))]) (rest := [.ref 4]) q43_53 rfl rfl rfl rfl rfl rfl rfl hp rfl rfl ?_
    refine s41 hp (by omega) (by omega) ?_
    refine e_k (pc := 53) ?_
    rw [show ((nx : Int) - (-1)) % 8 = (((nx + 1) % 8 : Nat) : Int) by omega]
    refine e_putf (pc := 56) (fs2 := [.ref 5, .ref 14, n_v ↑kp, n_v (((nx + 1) % 8 : Nat) : Int)]) q43_56 hp (c_okv_i _) (Nat.le_of_ble_eq_true rfl) rfl (fun h1 u1 => ?_)
    have hr := hr.up u1 (by omega)
    have hc := hc.up u1 (by omega)
    have hb := hb.up u1 (by omega)
    have hf := hf.up u1 (by omega)
    have hg := hg.up u1 (by omega)
    have h5 := h5.up u1 (by omega)
    have h14 := h14.up u1 (by omega)
    have hp : c_ob h1 4 4 [.ref 5, .ref 14, n_v ↑kp, n_v (((nx + 1) % 8 : Nat) : Int)] := u1.2.1
    refine e_st (pc := 59) q43_59 rfl rfl ?_
    refine e_st (pc := 60) q43_60 rfl rfl ?_
    refine e_getf (pc := 61) q43_61 hp rfl ?_
    refine e_cst (v := 1) (len := 1) (pc := 64) q43_64 rfl rfl rfl ?_
    refine e_add (pc := 65) q43_65 ?_
    refine e_cst (v := 8) (len := 2) (pc := 66) q43_66 rfl rfl (by decide +kernel) ?_
    refine e_min (pc := 68) q43_68 ⟨by omega, by omega⟩ ⟨by omega, by omega⟩ (Nat.le_of_ble_eq_true rfl) ?_
    rw [show min ((kp : Int) + 1) 8 = ((min (kp + 1) 8 : Nat) : Int) by omega]
    refine e_putf (pc := 71) (fs2 := [.ref 5, .ref 14, n_v ((min (kp + 1) 8 : Nat) : Int), n_v (((nx + 1) % 8 : Nat) : Int)]) q43_71 hp (c_okv_i _) (Nat.le_of_ble_eq_true rfl) rfl (fun h2 u2 => ?_)
    have hr := hr.up u2 (by omega)
    have hc := hc.up u2 (by omega)
    have hb := hb.up u2 (by omega)
    have hf := hf.up u2 (by omega)
    have hg := hg.up u2 (by omega)
    have h5 := h5.up u2 (by omega)
    have h14 := h14.up u2 (by omega)
    have hp : c_ob h2 4 4 [.ref 5, .ref 14, n_v ((min (kp + 1) 8 : Nat) : Int), n_v (((nx + 1) % 8 : Nat) : Int)] := u2.2.1
    refine e_ret (pc := 74) q43_74 rfl rfl rfl ?_
    have e2 : i = n := by omega
    subst e2
    rw [show f = _ from funext hx] at hf
    rw [show g = _ from funext hy] at hg
    exact K h2 (((hch.sub (by simp)).up u1 (by simp)).up u2 (by simp)) hp hf hg
  | m + 1, i, h0, f, g, e, hch, hf, hg, hx, hy => by
    have hp := hp0.ch hch (by simp; omega)
    have h5 := h50.ch hch (by simp; omega)
    have h14 := h140.ch hch (by simp; omega)
    have hr := hr0.ch hch (by simp; omega)
    have hc := hc0.ch hch (by simp; omega)
    have hb := hb0.ch hch (by simp; omega)
    refine e_st (pc := 2) q43_2 rfl rfl ?_
    refine e_st (pc := 3) q43_3 rfl rfl ?_
    refine e_getf (pc := 4) q43_4 hr rfl ?_
    refine e_cmp false (pc := 7) q43_7 ⟨by omega, by omega⟩ ⟨by omega, by omega⟩ (n_f_ge (by omega)) ?_
    refine e_st (pc := 10) q43_10 rfl rfl ?_
    refine e_getf (pc := 11) q43_11 hp rfl ?_
    refine e_st (pc := 14) q43_14 rfl rfl ?_
    refine e_getf (pc := 15) q43_15 hp rfl ?_
    refine e_aald (pc := 18) (j := nx) q43_18 h5 (by omega) (by omega) (by omega) ?_
    refine e_st (pc := 19) q43_19 rfl rfl ?_
    refine e_st (pc := 20) q43_20 rfl rfl ?_
    refine e_getf (pc := 21) q43_21 hr rfl ?_
    refine e_st (pc := 24) q43_24 rfl rfl ?_
    refine e_ald (pc := 25) (j := i) q43_25 hc (by omega) (by omega) (by omega) ?_
    refine e_ast (pc := 26) (j := i) q43_26 hf (by omega) (by omega) (by omega) (fun h1 u1 => ?_)
    have hp := hp.up u1 (by omega)
    have hr := hr.up u1 (by omega)
    have hc := hc.up u1 (by omega)
    have hb := hb.up u1 (by omega)
    have hg := hg.up u1 (by omega)
    have h5 := h5.up u1 (by omega)
    have h14 := h14.up u1 (by omega)
    have hf : c_ar h1 (6 + nx) 60 (fun t => if t = i then (cf i) else f t) := u1.2.1
    refine e_st (pc := 27) q43_27 rfl rfl ?_
    refine e_getf (pc := 28) q43_28 hp rfl ?_
    refine e_st (pc := 31) q43_31 rfl rfl ?_
    refine e_getf (pc := 32) q43_32 hp rfl ?_
    refine e_aald (pc := 35) (j := nx) q43_35 h14 (by omega) (by omega) (by omega) ?_
    refine e_st (pc := 36) q43_36 rfl rfl ?_
    refine e_st (pc := 37) q43_37 rfl rfl ?_
    refine e_getf (pc := 38) q43_38 hr rfl ?_
    refine e_st (pc := 41) q43_41 rfl rfl ?_
    refine e_ald (pc := 42) (j := i) q43_42 hb (by omega) (by omega) (by omega) ?_
    refine e_ast (pc := 43) (j := i) q43_43 hg (by omega) (by omega) (by omega) (fun h2 u2 => ?_)
    have hp := hp.up u2 (by omega)
    have hr := hr.up u2 (by omega)
    have hc := hc.up u2 (by omega)
    have hb := hb.up u2 (by omega)
    have hf := hf.up u2 (by omega)
    have h5 := h5.up u2 (by omega)
    have h14 := h14.up u2 (by omega)
    have hg : c_ar h2 (15 + nx) 60 (fun t => if t = i then (bf i) else g t) := u2.2.1
    refine e_inc (pc := 44) (L2 := [some (.ref 4), some (.ref 1), some (n_v (↑i + 1))]) q43_44 rfl rfl ?_
    refine e_st (pc := 47) q43_47 rfl rfl ?_
    exact s43L hp0 h50 h140 hr0 hc0 hb0 hnx hk hn K m (i + 1) h2 _ _ (by omega) ((hch.up u1 (by simp)).up u2 (by simp)) hf hg (fun t => by
      by_cases e2 : t = i
      · rw [if_pos e2, if_pos (by omega), e2]
      · rw [if_neg e2, hx t]
        by_cases e3 : t < i
        · rw [if_pos e3, if_pos (by omega)]
        · rw [if_neg e3, if_neg (by omega)]) (fun t => by
      by_cases e2 : t = i
      · rw [if_pos e2, if_pos (by omega), e2]
      · rw [if_neg e2, hy t]
        by_cases e3 : t < i
        · rw [if_pos e3, if_pos (by omega)]
        · rw [if_neg e3, if_neg (by omega)])
theorem s43 {n kp nx : Nat} {rg : Value} {cf bf C0 P0 : Nat → Int} (hp0 : c_ob h 4 4 [.ref 5, .ref 14, n_v ↑kp, n_v ↑nx]) (h50 : c_aa h 5 8 (fun t => 6 + t)) (h140 : c_aa h 14 8 (fun t => 15 + t)) (hr0 : c_ob h 1 6 [.ref 2, .ref 3, n_v ↑n, rg]) (hc0 : c_ar h 2 60 cf) (hb0 : c_ar h 3 60 bf) (hnx : nx < 8) (hk : kp ≤ 8) (hn : n ≤ 60) (K : ∀ (h2 : c_Hp), c_ch h h2 [4, 6 + nx, 15 + nx] → c_ob h2 4 4 [.ref 5, .ref 14, n_v ((min (kp + 1) 8 : Nat) : Int), n_v (((nx + 1) % 8 : Nat) : Int)] → c_ar h2 (6 + nx) 60 (fun t => if t < n then cf t else C0 t) → c_ar h2 (15 + nx) 60 (fun t => if t < n then bf t else P0 t) → Q (.inl none, h2)) (hf : c_ar h (6 + nx) 60 C0) (hg : c_ar h (15 + nx) 60 P0) : c_Ev X 43 0 [some (.ref 4), some (.ref 1), none] [] h Q := by
  refine e_cst (v := 0) (len := 1) (pc := 0) q43_0 rfl rfl rfl ?_
  refine e_st (pc := 1) (L2 := [some (.ref 4), some (.ref 1), some (n_v 0)]) q43_1 rfl rfl ?_
  exact s43L hp0 h50 h140 hr0 hc0 hb0 hnx hk hn K n 0 h C0 P0 (by omega) (c_ch.rf _ _) hf hg (fun t => by rw [if_neg (by omega)]) (fun t => by rw [if_neg (by omega)])
theorem s44 {n kp nx : Nat} {rg : Value} {cf bf C1 P1 : Nat → Int} (hp : c_ob h 4 4 [.ref 5, .ref 14, n_v ↑kp, n_v ↑nx]) (h5 : c_aa h 5 8 (fun t => 6 + t)) (h14 : c_aa h 14 8 (fun t => 15 + t)) (hr : c_ob h 1 6 [.ref 2, .ref 3, n_v ↑n, rg]) (hc : c_ar h 2 60 cf) (hb : c_ar h 3 60 bf) (hnx : nx < 8) (hk : 1 ≤ kp ∧ kp ≤ 8) (hn : n ≤ 60) (hC : c_ar h (6 + (nx + 7) % 8) 60 C1) (hP : c_ar h (15 + (nx + 7) % 8) 60 P1) (K : ∀ (h2 : c_Hp), c_ch h h2 [2, 3, 4] → c_ob h2 4 4 [.ref 5, .ref 14, n_v ((kp - 1 : Nat) : Int), n_v (((nx + 7) % 8 : Nat) : Int)] → c_ar h2 2 60 (fun t => if t < n then C1 t else cf t) → c_ar h2 3 60 (fun t => if t < n then P1 t else bf t) → Q (.inl none, h2)) : c_Ev X 44 0 [some (.ref 4), some (.ref 1)] [] h Q := by
  refine e_st (pc := 0) q44_0 rfl rfl ?_
  refine e_st (pc := 1) q44_1 rfl rfl ?_
  refine e_cst (v := 1) (len := 1) (pc := 2) q44_2 rfl rfl rfl ?_
  refine e_callV (pc := 3) (mz := c_m41) (a := 4) (L0 := [some (.ref 4), some (n_v 1)]) (rest := [.ref 4]) q44_3 rfl rfl rfl rfl rfl rfl rfl hp rfl rfl ?_
  refine s41 hp (by omega) (by omega) ?_
  refine e_k (pc := 3) ?_
  rw [show ((nx : Int) - 1) % 8 = (((nx + 7) % 8 : Nat) : Int) by omega]
  refine e_putf (pc := 6) (fs2 := [.ref 5, .ref 14, n_v ↑kp, n_v (((nx + 7) % 8 : Nat) : Int)]) q44_6 hp (c_okv_i _) (Nat.le_of_ble_eq_true rfl) rfl (fun h1 u1 => ?_)
  have hr := hr.up u1 (by omega)
  have hc := hc.up u1 (by omega)
  have hb := hb.up u1 (by omega)
  have hC := hC.up u1 (by omega)
  have hP := hP.up u1 (by omega)
  have h5 := h5.up u1 (by omega)
  have h14 := h14.up u1 (by omega)
  have hp : c_ob h1 4 4 [.ref 5, .ref 14, n_v ↑kp, n_v (((nx + 7) % 8 : Nat) : Int)] := u1.2.1
  refine e_st (pc := 9) q44_9 rfl rfl ?_
  refine e_st (pc := 10) q44_10 rfl rfl ?_
  refine e_getf (pc := 11) q44_11 hp rfl ?_
  refine e_cst (v := 1) (len := 1) (pc := 14) q44_14 rfl rfl rfl ?_
  refine e_sub (pc := 15) q44_15 ?_
  refine e_cst (v := 0) (len := 1) (pc := 16) q44_16 rfl rfl rfl ?_
  refine e_max (pc := 17) q44_17 ⟨by omega, by omega⟩ ⟨by omega, by omega⟩ (Nat.le_of_ble_eq_true rfl) ?_
  rw [show max ((kp : Int) - 1) 0 = ((kp - 1 : Nat) : Int) by omega]
  refine e_putf (pc := 20) (fs2 := [.ref 5, .ref 14, n_v ((kp - 1 : Nat) : Int), n_v (((nx + 7) % 8 : Nat) : Int)]) q44_20 hp (c_okv_i _) (Nat.le_of_ble_eq_true rfl) rfl (fun h2 u2 => ?_)
  have hr := hr.up u2 (by omega)
  have hc := hc.up u2 (by omega)
  have hb := hb.up u2 (by omega)
  have hC := hC.up u2 (by omega)
  have hP := hP.up u2 (by omega)
  have h5 := h5.up u2 (by omega)
  have h14 := h14.up u2 (by omega)
  have hp : c_ob h2 4 4 [.ref 5, .ref 14, n_v ((kp - 1 : Nat) : Int), n_v (((nx + 7) % 8 : Nat) : Int)] := u2.2.1
  refine e_st (pc := 23) q44_23 rfl rfl ?_
  refine e_st (pc := 24) q44_24 rfl rfl ?_
  refine e_getf (pc := 25) q44_25 hp rfl ?_
  refine e_st (pc := 28) q44_28 rfl rfl ?_
  refine e_getf (pc := 29) q44_29 hp rfl ?_
  refine e_aald (pc := 32) (j := (nx + 7) % 8) q44_32 h5 (by omega) (by omega) (by omega) ?_
  refine e_callV (pc := 33) (mz := c_m52) (a := 1) (L0 := [some (.ref 1), some (.ref (6 + (nx + 7) % 8)), none]) (rest := []) q44_33 rfl rfl rfl rfl rfl rfl rfl hr rfl rfl ?_
  refine s52 hr hC hn ⟨by omega, by omega⟩ (fun h3 c3 hc => ?_) hc
  have hP := hP.ch c3 (by simp; omega)
  have hp := hp.ch c3 (by simp)
  have h14 := h14.ch c3 (by simp)
  have hr := hr.ch c3 (by simp)
  have hb := hb.ch c3 (by simp)
  refine e_k0 (pc := 33) ?_
  refine e_st (pc := 36) q44_36 rfl rfl ?_
  refine e_st (pc := 37) q44_37 rfl rfl ?_
  refine e_getf (pc := 38) q44_38 hp rfl ?_
  refine e_st (pc := 41) q44_41 rfl rfl ?_
  refine e_getf (pc := 42) q44_42 hp rfl ?_
  refine e_aald (pc := 45) (j := (nx + 7) % 8) q44_45 h14 (by omega) (by omega) (by omega) ?_
  refine e_callV (pc := 46) (mz := c_m53) (a := 1) (L0 := [some (.ref 1), some (.ref (15 + (nx + 7) % 8)), none]) (rest := []) q44_46 rfl rfl rfl rfl rfl rfl rfl hr rfl rfl ?_
  refine s53 hr hP hn ⟨by omega, by omega⟩ (fun h4 c4 hb => ?_) hb
  have hp := hp.ch c4 (by simp)
  have hc := hc.ch c4 (by simp)
  refine e_k0 (pc := 46) ?_
  refine e_ret (pc := 49) q44_49 rfl rfl rfl ?_
  exact K h4 (((((c_ch.rf h _).up u1 (by simp)).up u2 (by simp)).tr (c3.sub (by simp))).tr (c4.sub (by simp))) hp hc hb
def m_s0 (rg li : Int) (cf bf : Nat → Int) (o : Nat → Nat) (n : Nat) : Int := if rg = 1 then m_ld li 0 cf bf o n else 0
theorem s16f {n kp : Nat} {rg ca : Int} {cf bf : Nat → Int} {H : Nat → Nat → Int} (hW : m_St h n rg cf bf kp H) (hca : -1000 ≤ ca ∧ ca ≤ 1000)
    (Kr : ¬ (1 ≤ ca ∧ ca ≤ 99) → Q (.inr 0, h ++ [none])) (Kx : 1 ≤ ca → ca ≤ 99 → ¬ (m_ld ca (m_s0 rg ca cf bf (fun t => t) n) cf bf (fun t => t) n = (m_s0 rg ca cf bf (fun t => t) n)) → ∀ h2, c_xt h h2 m_W 1 → m_St h2 n rg cf bf kp H → Q (.inr 2, h2))
    (K : 1 ≤ ca → ca ≤ 99 → m_ld ca (m_s0 rg ca cf bf (fun t => t) n) cf bf (fun t => t) n = (m_s0 rg ca cf bf (fun t => t) n) → ∀ (h2 : c_Hp) (bf2 : Nat → Int), c_xt h h2 (List.range 58) 0 → (∀ t, t < n → bf2 t = m_lb ca (m_ld ca (m_s0 rg ca cf bf (fun t => t) n) cf bf (fun t => t) t) (cf t) (bf t)) → m_St h2 n rg cf bf2 (min (kp + 1) 8) (fun j => if j = 1 then bf else H (j - 1)) → Q (.inl (some (n_v (m_mx ca (m_s0 rg ca cf bf (fun t => t) n) cf bf (fun t => t) n))), h2)) :
    c_Ev X 16 0 [some (.ref 0), some (n_v ca), some (n_v 1)] [] h Q := by
  obtain ⟨⟨hn, hrg, hk, hbf, hH⟩, ho, hr, hc, hb, ⟨nx, hnx, hp, P, C, hP, hC, hPC⟩, h5, h14, hS, hZ, wy, hy⟩ := id hW
  obtain ⟨⟨mo, s1⟩, ⟨lf, s2⟩, s3, s4, s5, s6, s7, s8, s9, s10, s11⟩ := id hS
  refine e_st (pc := 0) q16_0 rfl rfl ?_
  refine e_cst (v := 1) (len := 1) (pc := 1) q16_1 rfl rfl rfl ?_
  refine e_cst (v := 99) (len := 2) (pc := 2) q16_2 rfl rfl (by decide +kernel) ?_
  refine e_callS (pc := 4) (mz := c_m14) (L0 := [some (n_v ca), some (n_v 1), some (n_v 99)]) (rest := []) q16_4 rfl rfl rfl rfl rfl rfl rfl rfl rfl ?_
  refine s14 ⟨by omega, by omega⟩ ⟨by omega, by omega⟩ ⟨by omega, by omega⟩ (fun g1 g2 => ?_) (fun g => e_prop (md := c_m16) rfl rfl rfl (Kr g))
  refine e_k0 (pc := 4) ?_
  refine e_st (pc := 7) q16_7 rfl rfl ?_
  refine e_getf (pc := 8) q16_8 ho rfl ?_
  refine e_st (pc := 11) q16_11 rfl rfl ?_
  refine e_getf (pc := 12) q16_12 ho rfl ?_
  refine e_st (pc := 15) q16_15 rfl rfl ?_
  refine e_st (pc := 16) q16_16 rfl rfl ?_
  have hb3 : ∀ t, t < n → 0 ≤ bf t ∧ bf t ≤ cf t ∧ cf t ≤ 4 := fun t ht => by have := hbf t ht; omega
  have hb2 : ∀ t, t < n → 0 ≤ bf (t) ∧ bf (t) ≤ cf (t) := fun t ht => by have := hbf (t) (by omega); omega
  have hst : 0 ≤ (m_s0 rg ca cf bf (fun t => t) n) ∧ (m_s0 rg ca cf bf (fun t => t) n) ≤ ca := by
    unfold m_s0
    split
    · exact m_ld_b (n := n) (o := (fun t => t)) ⟨by omega, by omega⟩ hb2 n (Nat.le_refl n)
    · omega
  suffices KK : ∀ (h2 : c_Hp) (lf2 : Nat → Int), c_ch h h2 [23, 24] → c_ar h2 24 60 lf2 → c_ob h2 23 0 [.ref 24, n_v (m_mx ca (m_s0 rg ca cf bf (fun t => t) n) cf bf (fun t => t) n)] → (∀ g, g < n → lf2 (g) = m_lb ca (m_ld ca (m_s0 rg ca cf bf (fun t => t) n) cf bf (fun t => t) g) (cf (g)) (bf (g))) → c_after X 16 17 [some (.ref 0), some (n_v ca), some (n_v 1)] [] Q (.inl (some (n_v (if m_ld ca (m_s0 rg ca cf bf (fun t => t) n) cf bf (fun t => t) n = (m_s0 rg ca cf bf (fun t => t) n) then 1 else 0))), h2) from by
    refine e_callV (pc := 17) (mz := c_m25) (a := 23) (L0 := [some (.ref 23), some (.ref 1), some (n_v ca), some (n_v 1), none]) (rest := []) q16_17 rfl rfl rfl rfl rfl rfl rfl s1 rfl rfl ?_
    rcases hrg with hrg | hrg
    · subst hrg
      exact s25f0 hr hc hb s2 s1 (by omega) hb3 (by omega) (by decide) KK
    · subst hrg
      exact s25f1 hr hc hb s2 s1 (by omega) hb3 (by omega) (by decide) KK
  intro h1 lf1 c1 s2 s1 hlf
  refine e_k (pc := 17) ?_
  have ho := ho.ch c1 (by simp)
  have hr := hr.ch c1 (by simp)
  have hc := hc.ch c1 (by simp)
  have hb := hb.ch c1 (by simp)
  have hp := hp.ch c1 (by simp)
  have h5 := h5.ch c1 (by simp)
  have h14 := h14.ch c1 (by simp)
  have hy := hy.ch c1 (by simp)
  have hZ := hZ.ch c1 (by simp)
  have hS1 : m_SC h1 := ⟨⟨_, s1⟩, ⟨_, s2⟩, ⟨_, s3.choose_spec.ch c1 (by simp)⟩, ⟨_, s4.choose_spec.ch c1 (by simp)⟩, ⟨_, s5.choose_spec.ch c1 (by simp)⟩, ⟨_, _, s6.choose_spec.choose_spec.ch c1 (by simp)⟩, ⟨_, s7.choose_spec.ch c1 (by simp)⟩, ⟨_, s8.choose_spec.ch c1 (by simp)⟩, ⟨_, _, s9.choose_spec.choose_spec.ch c1 (by simp)⟩, ⟨_, s10.choose_spec.ch c1 (by simp)⟩, ⟨_, s11.choose_spec.ch c1 (by simp)⟩⟩
  by_cases hpass : m_ld ca (m_s0 rg ca cf bf (fun t => t) n) cf bf (fun t => t) n = (m_s0 rg ca cf bf (fun t => t) n)
  · rw [if_pos hpass]
    refine e_if true (pc := 20) q16_20 ⟨by omega, by omega⟩ (n_t_ne (by omega)) ?_
    refine e_st (pc := 34) q16_34 rfl rfl ?_
    refine e_callV (pc := 35) (mz := c_m17) (a := 0) (L0 := [some (.ref 0)]) (rest := []) q16_35 rfl rfl rfl rfl rfl rfl rfl ho rfl rfl ?_
    refine e_st (pc := 0) q17_0 rfl rfl ?_
    refine e_getf (pc := 1) q17_1 ho rfl ?_
    refine e_st (pc := 4) q17_4 rfl rfl ?_
    refine e_getf (pc := 5) q17_5 ho rfl ?_
    refine e_callV (pc := 8) (mz := c_m43) (a := 4) (L0 := [some (.ref 4), some (.ref 1), none]) (rest := []) q17_8 rfl rfl rfl rfl rfl rfl rfl hp rfl rfl ?_
    refine s43 hp h5 h14 hr hc hb hnx hk (by omega) (fun h2 c2 hp hCn hPn => ?_) ((hC nx hnx).ch c1 (by simp; omega)) ((hP nx hnx).ch c1 (by simp; omega))
    have ho := ho.ch c2 (by simp; omega)
    have hr := hr.ch c2 (by simp; omega)
    have hc := hc.ch c2 (by simp; omega)
    have hb := hb.ch c2 (by simp; omega)
    have s1 := s1.ch c2 (by simp; omega)
    have s2 := s2.ch c2 (by simp; omega)
    have h5 := h5.ch c2 (by simp; omega)
    have h14 := h14.ch c2 (by simp; omega)
    have hy := hy.ch c2 (by simp; omega)
    have hZ := hZ.ch c2 (by simp; omega)
    refine e_k0 (pc := 8) ?_
    refine e_st (pc := 11) q17_11 rfl rfl ?_
    refine e_getf (pc := 12) q17_12 ho rfl ?_
    refine e_st (pc := 15) q17_15 rfl rfl ?_
    refine e_getf (pc := 16) q17_16 ho rfl ?_
    refine e_getf (pc := 19) q17_19 s1 rfl ?_
    refine e_callV (pc := 22) (mz := c_m53) (a := 1) (L0 := [some (.ref 1), some (.ref 24), none]) (rest := []) q17_22 rfl rfl rfl rfl rfl rfl rfl hr rfl rfl ?_
    refine s53 hr s2 (by omega) (by decide) (fun h3 c3 hb3 => ?_) hb
    have hCn := hCn.ch c3 (by simp; omega)
    have hPn := hPn.ch c3 (by simp; omega)
    have hp := hp.ch c3 (by simp)
    have ho := ho.ch c3 (by simp)
    have hr := hr.ch c3 (by simp)
    have hc := hc.ch c3 (by simp)
    have s1 := s1.ch c3 (by simp)
    have h5 := h5.ch c3 (by simp)
    have h14 := h14.ch c3 (by simp)
    have hy := hy.ch c3 (by simp)
    have hZ := hZ.ch c3 (by simp)
    refine e_k0 (pc := 22) ?_
    refine e_ret (pc := 25) q17_25 rfl rfl rfl ?_
    refine e_k0 (pc := 35) ?_
    refine e_st (pc := 38) q16_38 rfl rfl ?_
    refine e_getf (pc := 39) q16_39 ho rfl ?_
    refine e_getf (pc := 42) q16_42 s1 rfl ?_
    refine e_iret (pc := 45) q16_45 rfl rfl rfl rfl ?_
    have hSc : m_SC h3 := (hS1.xt (c_xt.ofch c2) (by intro q hq h1; simp at hq; simp [m_W] at h1; omega)).xt (c_xt.ofch c3) (by simp [m_W])
    have hXT : c_xt h h3 (List.range 58) 0 := ((c_xt.ofch c1).sub (by simp)).tr (((c_xt.ofch c2).sub (by intro q hq; simp at hq; simp; omega)).tr ((c_xt.ofch c3).sub (by simp)))
    have hbx : ∀ t, t < n → (fun t => if t < n then lf1 t else bf t) t = m_lb ca (m_ld ca (m_s0 rg ca cf bf (fun t => t) n) cf bf (fun t => t) t) (cf t) (bf t) := fun t ht => by
      have e1 := hlf (t) (by omega)
      show (if t < n then lf1 t else bf t) = _
      rw [if_pos ht]
      exact e1
    refine K g1 g2 hpass h3 _ hXT hbx ⟨⟨hn, hrg, by omega, fun t ht => ?_, fun j j1 j2 t ht => ?_⟩, ho, hr, hc, hb3, ⟨(nx + 1) % 8, by omega, hp, (fun i => if i = nx then (fun t => if t < n then bf t else P nx t) else P i), (fun i => if i = nx then (fun t => if t < n then cf t else C nx t) else C i), fun i hi => ?_, fun i hi => ?_, fun j j1 j2 t ht => ?_⟩, h5, h14, hSc, hZ, wy, hy⟩
    · have g3 := m_ld_b (n := n) (o := (fun t => t)) hst hb2 (t) (by omega)
      have g4 := m_lb_b g3 (by have := hbf t ht; omega : 0 ≤ bf t ∧ bf t ≤ cf t)
      have g5 := hbf t ht
      rw [hbx t ht]
      omega
    · show 0 ≤ (if j = 1 then bf else H (j - 1)) t ∧ (if j = 1 then bf else H (j - 1)) t ≤ cf t
      by_cases e1 : j = 1
      · rw [if_pos e1]
        have := hbf t ht
        omega
      · rw [if_neg e1]
        exact hH (j - 1) (by omega) (by omega) t ht
    · by_cases e1 : i = nx
      · subst e1
        show c_ar h3 (15 + i) 60 (if i = i then _ else _)
        rw [if_pos rfl]
        exact hPn
      · show c_ar h3 (15 + i) 60 (if i = nx then _ else _)
        rw [if_neg e1]
        exact (((hP i hi).ch c1 (by simp; omega)).ch c2 (by simp; omega)).ch c3 (by simp; omega)
    · by_cases e1 : i = nx
      · subst e1
        show c_ar h3 (6 + i) 60 (if i = i then _ else _)
        rw [if_pos rfl]
        exact hCn
      · show c_ar h3 (6 + i) 60 (if i = nx then _ else _)
        rw [if_neg e1]
        exact (((hC i hi).ch c1 (by simp; omega)).ch c2 (by simp; omega)).ch c3 (by simp; omega)
    · by_cases e1 : j = 1
      · have e2 : ((nx + 1) % 8 + 8 - j) % 8 = nx := by omega
        simp only [e2]
        simp [e1, ht]
      · have e2 : ((nx + 1) % 8 + 8 - j) % 8 = (nx + 8 - (j - 1)) % 8 := by omega
        have e3 : ¬ (nx + 8 - (j - 1)) % 8 = nx := by omega
        simp only [e2, if_neg e3, if_neg e1]
        exact hPC (j - 1) (by omega) (by omega) t ht
  · rw [if_neg hpass]
    refine e_if false (pc := 20) q16_20 ⟨by omega, by omega⟩ (n_f_ne (by omega)) ?_
    refine e_thr (pc := 23) q16_23 rfl rfl rfl (Nat.le_of_ble_eq_true rfl) ?_
    have hX1 : c_xt h (h1 ++ [none]) m_W 1 := ((c_xt.ofch c1).sub (by simp [m_W])).tr ((c_xt.one h1).sub (by simp))
    exact Kx g1 g2 hpass _ hX1 (hW.xt hX1 (fun q hq => Or.inr hq) (hS1.xt (c_xt.one h1) (by simp)))
theorem s16b {n kp : Nat} {rg ca : Int} {cf bf : Nat → Int} {H : Nat → Nat → Int} (hW : m_St h n rg cf bf kp H) (hca : -1000 ≤ ca ∧ ca ≤ 1000)
    (Kr : ¬ (1 ≤ ca ∧ ca ≤ 99) → Q (.inr 0, h ++ [none])) (Kx : 1 ≤ ca → ca ≤ 99 → ¬ (m_ld ca (m_s0 rg ca cf bf (fun t => n - 1 - t) n) cf bf (fun t => n - 1 - t) n = (m_s0 rg ca cf bf (fun t => n - 1 - t) n)) → ∀ h2, c_xt h h2 m_W 1 → m_St h2 n rg cf bf kp H → Q (.inr 2, h2))
    (K : 1 ≤ ca → ca ≤ 99 → m_ld ca (m_s0 rg ca cf bf (fun t => n - 1 - t) n) cf bf (fun t => n - 1 - t) n = (m_s0 rg ca cf bf (fun t => n - 1 - t) n) → ∀ (h2 : c_Hp) (bf2 : Nat → Int), c_xt h h2 (List.range 58) 0 → (∀ t, t < n → bf2 t = m_lb ca (m_ld ca (m_s0 rg ca cf bf (fun t => n - 1 - t) n) cf bf (fun t => n - 1 - t) (n - 1 - t)) (cf t) (bf t)) → m_St h2 n rg cf bf2 (min (kp + 1) 8) (fun j => if j = 1 then bf else H (j - 1)) → Q (.inl (some (n_v (m_mx ca (m_s0 rg ca cf bf (fun t => n - 1 - t) n) cf bf (fun t => n - 1 - t) n))), h2)) :
    c_Ev X 16 0 [some (.ref 0), some (n_v ca), some (n_v 0)] [] h Q := by
  obtain ⟨⟨hn, hrg, hk, hbf, hH⟩, ho, hr, hc, hb, ⟨nx, hnx, hp, P, C, hP, hC, hPC⟩, h5, h14, hS, hZ, wy, hy⟩ := id hW
  obtain ⟨⟨mo, s1⟩, ⟨lf, s2⟩, s3, s4, s5, s6, s7, s8, s9, s10, s11⟩ := id hS
  refine e_st (pc := 0) q16_0 rfl rfl ?_
  refine e_cst (v := 1) (len := 1) (pc := 1) q16_1 rfl rfl rfl ?_
  refine e_cst (v := 99) (len := 2) (pc := 2) q16_2 rfl rfl (by decide +kernel) ?_
  refine e_callS (pc := 4) (mz := c_m14) (L0 := [some (n_v ca), some (n_v 1), some (n_v 99)]) (rest := []) q16_4 rfl rfl rfl rfl rfl rfl rfl rfl rfl ?_
  refine s14 ⟨by omega, by omega⟩ ⟨by omega, by omega⟩ ⟨by omega, by omega⟩ (fun g1 g2 => ?_) (fun g => e_prop (md := c_m16) rfl rfl rfl (Kr g))
  refine e_k0 (pc := 4) ?_
  refine e_st (pc := 7) q16_7 rfl rfl ?_
  refine e_getf (pc := 8) q16_8 ho rfl ?_
  refine e_st (pc := 11) q16_11 rfl rfl ?_
  refine e_getf (pc := 12) q16_12 ho rfl ?_
  refine e_st (pc := 15) q16_15 rfl rfl ?_
  refine e_st (pc := 16) q16_16 rfl rfl ?_
  have hb3 : ∀ t, t < n → 0 ≤ bf t ∧ bf t ≤ cf t ∧ cf t ≤ 4 := fun t ht => by have := hbf t ht; omega
  have hb2 : ∀ t, t < n → 0 ≤ bf (n - 1 - t) ∧ bf (n - 1 - t) ≤ cf (n - 1 - t) := fun t ht => by have := hbf (n - 1 - t) (by omega); omega
  have hst : 0 ≤ (m_s0 rg ca cf bf (fun t => n - 1 - t) n) ∧ (m_s0 rg ca cf bf (fun t => n - 1 - t) n) ≤ ca := by
    unfold m_s0
    split
    · exact m_ld_b (n := n) (o := (fun t => n - 1 - t)) ⟨by omega, by omega⟩ hb2 n (Nat.le_refl n)
    · omega
  suffices KK : ∀ (h2 : c_Hp) (lf2 : Nat → Int), c_ch h h2 [23, 24] → c_ar h2 24 60 lf2 → c_ob h2 23 0 [.ref 24, n_v (m_mx ca (m_s0 rg ca cf bf (fun t => n - 1 - t) n) cf bf (fun t => n - 1 - t) n)] → (∀ g, g < n → lf2 (n - 1 - g) = m_lb ca (m_ld ca (m_s0 rg ca cf bf (fun t => n - 1 - t) n) cf bf (fun t => n - 1 - t) g) (cf (n - 1 - g)) (bf (n - 1 - g))) → c_after X 16 17 [some (.ref 0), some (n_v ca), some (n_v 0)] [] Q (.inl (some (n_v (if m_ld ca (m_s0 rg ca cf bf (fun t => n - 1 - t) n) cf bf (fun t => n - 1 - t) n = (m_s0 rg ca cf bf (fun t => n - 1 - t) n) then 1 else 0))), h2) from by
    refine e_callV (pc := 17) (mz := c_m25) (a := 23) (L0 := [some (.ref 23), some (.ref 1), some (n_v ca), some (n_v 0), none]) (rest := []) q16_17 rfl rfl rfl rfl rfl rfl rfl s1 rfl rfl ?_
    rcases hrg with hrg | hrg
    · subst hrg
      exact s25b0 hr hc hb s2 s1 (by omega) hb3 (by omega) (by decide) KK
    · subst hrg
      exact s25b1 hr hc hb s2 s1 (by omega) hb3 (by omega) (by decide) KK
  intro h1 lf1 c1 s2 s1 hlf
  refine e_k (pc := 17) ?_
  have ho := ho.ch c1 (by simp)
  have hr := hr.ch c1 (by simp)
  have hc := hc.ch c1 (by simp)
  have hb := hb.ch c1 (by simp)
  have hp := hp.ch c1 (by simp)
  have h5 := h5.ch c1 (by simp)
  have h14 := h14.ch c1 (by simp)
  have hy := hy.ch c1 (by simp)
  have hZ := hZ.ch c1 (by simp)
  have hS1 : m_SC h1 := ⟨⟨_, s1⟩, ⟨_, s2⟩, ⟨_, s3.choose_spec.ch c1 (by simp)⟩, ⟨_, s4.choose_spec.ch c1 (by simp)⟩, ⟨_, s5.choose_spec.ch c1 (by simp)⟩, ⟨_, _, s6.choose_spec.choose_spec.ch c1 (by simp)⟩, ⟨_, s7.choose_spec.ch c1 (by simp)⟩, ⟨_, s8.choose_spec.ch c1 (by simp)⟩, ⟨_, _, s9.choose_spec.choose_spec.ch c1 (by simp)⟩, ⟨_, s10.choose_spec.ch c1 (by simp)⟩, ⟨_, s11.choose_spec.ch c1 (by simp)⟩⟩
  by_cases hpass : m_ld ca (m_s0 rg ca cf bf (fun t => n - 1 - t) n) cf bf (fun t => n - 1 - t) n = (m_s0 rg ca cf bf (fun t => n - 1 - t) n)
  · rw [if_pos hpass]
    refine e_if true (pc := 20) q16_20 ⟨by omega, by omega⟩ (n_t_ne (by omega)) ?_
    refine e_st (pc := 34) q16_34 rfl rfl ?_
    refine e_callV (pc := 35) (mz := c_m17) (a := 0) (L0 := [some (.ref 0)]) (rest := []) q16_35 rfl rfl rfl rfl rfl rfl rfl ho rfl rfl ?_
    refine e_st (pc := 0) q17_0 rfl rfl ?_
    refine e_getf (pc := 1) q17_1 ho rfl ?_
    refine e_st (pc := 4) q17_4 rfl rfl ?_
    refine e_getf (pc := 5) q17_5 ho rfl ?_
    refine e_callV (pc := 8) (mz := c_m43) (a := 4) (L0 := [some (.ref 4), some (.ref 1), none]) (rest := []) q17_8 rfl rfl rfl rfl rfl rfl rfl hp rfl rfl ?_
    refine s43 hp h5 h14 hr hc hb hnx hk (by omega) (fun h2 c2 hp hCn hPn => ?_) ((hC nx hnx).ch c1 (by simp; omega)) ((hP nx hnx).ch c1 (by simp; omega))
    have ho := ho.ch c2 (by simp; omega)
    have hr := hr.ch c2 (by simp; omega)
    have hc := hc.ch c2 (by simp; omega)
    have hb := hb.ch c2 (by simp; omega)
    have s1 := s1.ch c2 (by simp; omega)
    have s2 := s2.ch c2 (by simp; omega)
    have h5 := h5.ch c2 (by simp; omega)
    have h14 := h14.ch c2 (by simp; omega)
    have hy := hy.ch c2 (by simp; omega)
    have hZ := hZ.ch c2 (by simp; omega)
    refine e_k0 (pc := 8) ?_
    refine e_st (pc := 11) q17_11 rfl rfl ?_
    refine e_getf (pc := 12) q17_12 ho rfl ?_
    refine e_st (pc := 15) q17_15 rfl rfl ?_
    refine e_getf (pc := 16) q17_16 ho rfl ?_
    refine e_getf (pc := 19) q17_19 s1 rfl ?_
    refine e_callV (pc := 22) (mz := c_m53) (a := 1) (L0 := [some (.ref 1), some (.ref 24), none]) (rest := []) q17_22 rfl rfl rfl rfl rfl rfl rfl hr rfl rfl ?_
    refine s53 hr s2 (by omega) (by decide) (fun h3 c3 hb3 => ?_) hb
    have hCn := hCn.ch c3 (by simp; omega)
    have hPn := hPn.ch c3 (by simp; omega)
    have hp := hp.ch c3 (by simp)
    have ho := ho.ch c3 (by simp)
    have hr := hr.ch c3 (by simp)
    have hc := hc.ch c3 (by simp)
    have s1 := s1.ch c3 (by simp)
    have h5 := h5.ch c3 (by simp)
    have h14 := h14.ch c3 (by simp)
    have hy := hy.ch c3 (by simp)
    have hZ := hZ.ch c3 (by simp)
    refine e_k0 (pc := 22) ?_
    refine e_ret (pc := 25) q17_25 rfl rfl rfl ?_
    refine e_k0 (pc := 35) ?_
    refine e_st (pc := 38) q16_38 rfl rfl ?_
    refine e_getf (pc := 39) q16_39 ho rfl ?_
    refine e_getf (pc := 42) q16_42 s1 rfl ?_
    refine e_iret (pc := 45) q16_45 rfl rfl rfl rfl ?_
    have hSc : m_SC h3 := (hS1.xt (c_xt.ofch c2) (by intro q hq h1; simp at hq; simp [m_W] at h1; omega)).xt (c_xt.ofch c3) (by simp [m_W])
    have hXT : c_xt h h3 (List.range 58) 0 := ((c_xt.ofch c1).sub (by simp)).tr (((c_xt.ofch c2).sub (by intro q hq; simp at hq; simp; omega)).tr ((c_xt.ofch c3).sub (by simp)))
    have hbx : ∀ t, t < n → (fun t => if t < n then lf1 t else bf t) t = m_lb ca (m_ld ca (m_s0 rg ca cf bf (fun t => n - 1 - t) n) cf bf (fun t => n - 1 - t) (n - 1 - t)) (cf t) (bf t) := fun t ht => by
      have e1 := hlf (n - 1 - t) (by omega)
      show (if t < n then lf1 t else bf t) = _
      rw [if_pos ht]
      rw [show n - 1 - (n - 1 - t) = t by omega] at e1
      exact e1
    refine K g1 g2 hpass h3 _ hXT hbx ⟨⟨hn, hrg, by omega, fun t ht => ?_, fun j j1 j2 t ht => ?_⟩, ho, hr, hc, hb3, ⟨(nx + 1) % 8, by omega, hp, (fun i => if i = nx then (fun t => if t < n then bf t else P nx t) else P i), (fun i => if i = nx then (fun t => if t < n then cf t else C nx t) else C i), fun i hi => ?_, fun i hi => ?_, fun j j1 j2 t ht => ?_⟩, h5, h14, hSc, hZ, wy, hy⟩
    · have g3 := m_ld_b (n := n) (o := (fun t => n - 1 - t)) hst hb2 (n - 1 - t) (by omega)
      have g4 := m_lb_b g3 (by have := hbf t ht; omega : 0 ≤ bf t ∧ bf t ≤ cf t)
      have g5 := hbf t ht
      rw [hbx t ht]
      omega
    · show 0 ≤ (if j = 1 then bf else H (j - 1)) t ∧ (if j = 1 then bf else H (j - 1)) t ≤ cf t
      by_cases e1 : j = 1
      · rw [if_pos e1]
        have := hbf t ht
        omega
      · rw [if_neg e1]
        exact hH (j - 1) (by omega) (by omega) t ht
    · by_cases e1 : i = nx
      · subst e1
        show c_ar h3 (15 + i) 60 (if i = i then _ else _)
        rw [if_pos rfl]
        exact hPn
      · show c_ar h3 (15 + i) 60 (if i = nx then _ else _)
        rw [if_neg e1]
        exact (((hP i hi).ch c1 (by simp; omega)).ch c2 (by simp; omega)).ch c3 (by simp; omega)
    · by_cases e1 : i = nx
      · subst e1
        show c_ar h3 (6 + i) 60 (if i = i then _ else _)
        rw [if_pos rfl]
        exact hCn
      · show c_ar h3 (6 + i) 60 (if i = nx then _ else _)
        rw [if_neg e1]
        exact (((hC i hi).ch c1 (by simp; omega)).ch c2 (by simp; omega)).ch c3 (by simp; omega)
    · by_cases e1 : j = 1
      · have e2 : ((nx + 1) % 8 + 8 - j) % 8 = nx := by omega
        simp only [e2]
        simp [e1, ht]
      · have e2 : ((nx + 1) % 8 + 8 - j) % 8 = (nx + 8 - (j - 1)) % 8 := by omega
        have e3 : ¬ (nx + 8 - (j - 1)) % 8 = nx := by omega
        simp only [e2, if_neg e3, if_neg e1]
        exact hPC (j - 1) (by omega) (by omega) t ht
  · rw [if_neg hpass]
    refine e_if false (pc := 20) q16_20 ⟨by omega, by omega⟩ (n_f_ne (by omega)) ?_
    refine e_thr (pc := 23) q16_23 rfl rfl rfl (Nat.le_of_ble_eq_true rfl) ?_
    have hX1 : c_xt h (h1 ++ [none]) m_W 1 := ((c_xt.ofch c1).sub (by simp [m_W])).tr ((c_xt.one h1).sub (by simp))
    exact Kx g1 g2 hpass _ hX1 (hW.xt hX1 (fun q hq => Or.inr hq) (hS1.xt (c_xt.one h1) (by simp)))
end Ms
