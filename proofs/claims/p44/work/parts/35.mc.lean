/-! Refusals; what is kept. -/
section Ms
variable {X : List Int32} {h : c_Hp} {Q : c_O × c_Hp → Prop}
theorem e_prop {k pc E : Nat} {L : c_Ls} {rest : List Value} {md : c_M} {h1 : c_Hp} (hz : c_P[k]? = some md) (hx : c_cat pc E (c_mx md) = none) (he : (c_mh md).isEmpty = true) (K : Q (.inr E, h1)) : c_after X k pc L rest Q (.inr E, h1) := by
  unfold c_after
  simp only [hz, hx]
  exact ⟨he, K⟩
theorem e_catch {k pc E pc2 : Nat} {L L2 : c_Ls} {rest : List Value} {md : c_M} {h1 : c_Hp} {w : Nat × Nat × Nat} (hz : c_P[k]? = some md) (hx : c_cat pc E (c_mx md) = some w) (hp : ((c_mh md).getD w.1 (0, 0, 0, 0)).2.2.1 + w.2.2 = pc2) (hL : (c_clr L w.2.1).set w.2.1 none = L2) (K : c_Ev X k pc2 L2 [] h1 Q) : c_after X k pc L rest Q (.inr E, h1) := by
  subst hp hL
  unfold c_after
  simp only [hz, hx]
  exact K
/-- h2 is h but for the cells of W and e exceptions behind it -/
def c_xt (h h2 : c_Hp) (W : List Nat) (e : Nat) : Prop := h2.length = h.length + e ∧ c_msz h2 = c_msz h + 6 * e ∧ ∀ q, q < h.length → q ∉ W → h2[q]? = h[q]?
theorem c_xt.ofch {h h2 : c_Hp} {W : List Nat} (r : c_ch h h2 W) : c_xt h h2 W 0 := ⟨r.1, r.2.1, fun q _ hq => r.2.2 q hq⟩
theorem c_xt.one (h : c_Hp) : c_xt h (h ++ [none]) [] 1 := ⟨by simp, by simp [c_msz, c_sz], fun q hq _ => List.getElem?_append_left hq⟩
theorem c_xt.tr {h h1 h2 : c_Hp} {W : List Nat} {e f : Nat} (r : c_xt h h1 W e) (s : c_xt h1 h2 W f) : c_xt h h2 W (e + f) := ⟨by rw [s.1, r.1]; omega, by rw [s.2.1, r.2.1]; omega, fun q hq hw => (s.2.2 q (by rw [r.1]; omega) hw).trans (r.2.2 q hq hw)⟩
theorem c_xt.sub {h h1 : c_Hp} {W V : List Nat} {e : Nat} (r : c_xt h h1 W e) (hs : ∀ q, q ∈ W → q ∈ V) : c_xt h h1 V e := ⟨r.1, r.2.1, fun q hq hv => r.2.2 q hq (fun z => hv (hs q z))⟩
theorem c_at_lt {h : c_Hp} {a : Nat} {c : c_Cell} (o : h[a]? = some c) : a < h.length := (List.getElem?_eq_some_iff.mp o).1
theorem c_ar.xt {h h2 : c_Hp} {W : List Nat} {e b n : Nat} {f : Nat → Int} (o : c_ar h b n f) (r : c_xt h h2 W e) (hb : b ∉ W) : c_ar h2 b n f := by
  unfold c_ar
  rw [r.2.2 b (c_at_lt o) hb]
  exact o
theorem c_ob.xt {h h2 : c_Hp} {W : List Nat} {e b k : Nat} {fs : List Value} (o : c_ob h b k fs) (r : c_xt h h2 W e) (hb : b ∉ W) : c_ob h2 b k fs := by
  unfold c_ob
  rw [r.2.2 b (c_at_lt o) hb]
  exact o
theorem c_aa.xt {h h2 : c_Hp} {W : List Nat} {e b n : Nat} {g : Nat → Nat} (o : c_aa h b n g) (r : c_xt h h2 W e) (hb : b ∉ W) : c_aa h2 b n g := by
  unfold c_aa
  rw [r.2.2 b (c_at_lt o) hb]
  exact o
theorem m_SC.xt {h h2 : c_Hp} {W : List Nat} {e : Nat} (s : m_SC h) (r : c_xt h h2 W e) (hw : ∀ q ∈ W, q ∉ m_W) : m_SC h2 := by
  obtain ⟨⟨mo, s1⟩, ⟨lf, s2⟩, ⟨k3, s3⟩, ⟨sf, s4⟩, ⟨rf, s5⟩, ⟨bl, la, s6⟩, ⟨pf, s7⟩, ⟨nf, s8⟩, ⟨n2, r2, s9⟩, ⟨cf2, s10⟩, ⟨bf2, s11⟩⟩ := s
  have hn : ∀ q, q ∈ m_W → q ∉ W := fun q hq h1 => hw q h1 hq
  exact ⟨⟨_, s1.xt r (hn _ (by simp [m_W]))⟩, ⟨_, s2.xt r (hn _ (by simp [m_W]))⟩, ⟨_, s3.xt r (hn _ (by simp [m_W]))⟩, ⟨_, s4.xt r (hn _ (by simp [m_W]))⟩, ⟨_, s5.xt r (hn _ (by simp [m_W]))⟩, ⟨_, _, s6.xt r (hn _ (by simp [m_W]))⟩, ⟨_, s7.xt r (hn _ (by simp [m_W]))⟩, ⟨_, s8.xt r (hn _ (by simp [m_W]))⟩, ⟨_, _, s9.xt r (hn _ (by simp [m_W]))⟩, ⟨_, s10.xt r (hn _ (by simp [m_W]))⟩, ⟨_, s11.xt r (hn _ (by simp [m_W]))⟩⟩
theorem m_Z.xt {h h2 : c_Hp} {W : List Nat} {e : Nat} (z : m_Z h) (r : c_xt h h2 W e) (hw : ∀ q ∈ W, q < 41 ∨ 50 < q) : m_Z h2 :=
  ⟨z.1.xt r (fun e => by have := hw _ e; omega), z.2.1.xt r (fun e => by have := hw _ e; omega), fun i hi => (z.2.2 i hi).xt r (fun e => by have := hw _ e; omega)⟩
/-! division -/
theorem n_div {a b : Int} (ha : n_r a) (ha2 : -2147483648 < a) (hb : 0 < b) (hb2 : n_r b) : Int32.ofInt a / Int32.ofInt b = Int32.ofInt (a.tdiv b) := by
  have h1 : n_r (a.tdiv b) := by
    have := Int.natAbs_tdiv_le_natAbs a b
    unfold n_r at ha ⊢
    omega
  rw [← Int32.toInt_inj, Int32.toInt_div, n_toInt ha, n_toInt hb2, n_toInt h1]
  exact Int.bmod_eq_of_le (by unfold n_r at h1; omega) (by unfold n_r at h1; omega)
theorem e_rem {k pc : Nat} {L : c_Ls} {st : List Value} {a b : Int} {x y z} (hq : c_q k pc = some (.irem, x, y, z)) (ha : n_r a) (ha2 : -2147483648 < a) (hb : 0 < b) (hb2 : n_r b) (K : c_Ev X k (pc + 1) L (n_v (a.tmod b) :: st) h Q) : c_Ev X k pc L (n_v b :: n_v a :: st) h Q := by
  refine e_st hq rfl ?_ K
  show (if Int32.ofInt b = 0 then none else some (pc + 1, L, Value.int (Int32.ofInt a - Int32.ofInt a / Int32.ofInt b * Int32.ofInt b) :: st, h)) = _
  rw [if_neg (by rw [show (0 : Int32) = Int32.ofInt 0 from rfl, n_eq hb2 ⟨by omega, by omega⟩]; omega), n_div ha ha2 hb hb2, n_mul, n_sub]
  rw [show a - a.tdiv b * b = a.tmod b by rw [Int.tmod_def, Int.mul_comm]]
theorem n_xor8 : ∀ k : Fin 24, c_cmp .ge (Int32.ofInt ((k.val : Int) - 8) ^^^ Int32.ofInt 8) 0 = decide (8 ≤ k.val) := by decide +kernel
theorem s81 {a : Int} (ha : -8 ≤ a ∧ a ≤ 15) (K : Q (.inl (some (n_v (a % 8))), h)) : c_Ev X 81 0 [some (n_v a), some (n_v 8), none] [] h Q := by
  refine e_st (pc := 0) q81_0 rfl rfl ?_
  refine e_st (pc := 1) q81_1 rfl rfl ?_
  refine e_rem (pc := 2) q81_2 ⟨by omega, by omega⟩ (by omega) (by decide) ⟨by decide, by decide⟩ ?_
  refine e_st (pc := 3) (L2 := [some (n_v a), some (n_v 8), some (n_v (a.tmod 8))]) q81_3 rfl rfl ?_
  refine e_st (pc := 4) q81_4 rfl rfl ?_
  refine e_st (pc := 5) q81_5 rfl rfl ?_
  refine e_st (pc := 6) (st2 := [.int (Int32.ofInt a ^^^ Int32.ofInt 8)]) q81_6 rfl rfl ?_
  have hx : c_cmp .ge (Int32.ofInt a ^^^ Int32.ofInt 8) 0 = decide (0 ≤ a) := by
    have h1 := n_xor8 ⟨(a + 8).toNat, by omega⟩
    simp only at h1
    rw [show (((a + 8).toNat : Int) - 8) = a by omega] at h1
    rw [h1]
    exact decide_eq_decide.mpr (by omega)
  by_cases h0 : 0 ≤ a
  · refine e_st (pc := 7) (pc2 := 18) q81_7 rfl (by show some (if c_cmp .ge (Int32.ofInt a ^^^ Int32.ofInt 8) 0 then 18 else 7 + 3, _, _, _) = _; rw [hx, decide_eq_true h0]; rfl) ?_
    refine e_st (pc := 18) q81_18 rfl rfl ?_
    refine e_iret (pc := 19) q81_19 rfl rfl rfl rfl ?_
    rw [Int.tmod_eq_emod_of_nonneg h0]
    exact K
  · refine e_st (pc := 7) (pc2 := 10) q81_7 rfl (by show some (if c_cmp .ge (Int32.ofInt a ^^^ Int32.ofInt 8) 0 then 18 else 7 + 3, _, _, _) = _; rw [hx, decide_eq_false h0]; rfl) ?_
    have ht : a.tmod 8 = -((-a) % 8) := by rw [← Int.tmod_eq_emod_of_nonneg (by omega : 0 ≤ -a), Int.neg_tmod, Int.neg_neg]
    rw [ht]
    refine e_st (pc := 10) q81_10 rfl rfl ?_
    by_cases h1 : (-a) % 8 = 0
    · refine e_if true (pc := 11) q81_11 ⟨by omega, by omega⟩ (n_t_eq (by omega)) ?_
      refine e_st (pc := 18) q81_18 rfl rfl ?_
      refine e_iret (pc := 19) q81_19 rfl rfl rfl rfl ?_
      rw [show a % 8 = -((-a) % 8) by omega] at K
      exact K
    · refine e_if false (pc := 11) q81_11 ⟨by omega, by omega⟩ (n_f_eq (by omega)) ?_
      refine e_st (pc := 14) q81_14 rfl rfl ?_
      refine e_st (pc := 15) q81_15 rfl rfl ?_
      refine e_add (pc := 16) q81_16 ?_
      refine e_iret (pc := 17) q81_17 rfl rfl rfl rfl ?_
      rw [show a % 8 = -((-a) % 8) + 8 by omega] at K
      exact K
theorem s41 {kp : Value} {x s : Int} (hp : c_ob h 4 4 [.ref 5, .ref 14, kp, n_v x]) (hx : 0 ≤ x ∧ x < 8) (hs : -1 ≤ s ∧ s ≤ 8) (K : Q (.inl (some (n_v ((x - s) % 8))), h)) : c_Ev X 41 0 [some (.ref 4), some (n_v s)] [] h Q := by
  refine e_st (pc := 0) q41_0 rfl rfl ?_
  refine e_getf (pc := 1) q41_1 hp rfl ?_
  refine e_st (pc := 4) q41_4 rfl rfl ?_
  refine e_sub (pc := 5) q41_5 ?_
  refine e_cst (v := 8) (len := 2) (pc := 6) q41_6 rfl rfl (by decide +kernel) ?_
  refine e_callS (pc := 8) (mz := c_m81) (L0 := [some (n_v (x - s)), some (n_v 8), none]) (rest := []) q41_8 rfl rfl rfl rfl rfl rfl rfl rfl rfl ?_
  refine s81 (by omega) ?_
  refine e_k (pc := 8) ?_
  refine e_iret (pc := 11) q41_11 rfl rfl rfl rfl ?_
  exact K
theorem s39 {kp nx : Value} (hp : c_ob h 4 4 [.ref 5, .ref 14, kp, nx]) (K : ∀ h2, c_ch h h2 [4] → c_ob h2 4 4 [.ref 5, .ref 14, n_v 0, nx] → Q (.inl none, h2)) : c_Ev X 39 0 [some (.ref 4)] [] h Q := by
  refine e_st (pc := 0) q39_0 rfl rfl ?_
  refine e_cst (v := 0) (len := 1) (pc := 1) q39_1 rfl rfl rfl ?_
  refine e_putf (pc := 2) (fs2 := [.ref 5, .ref 14, n_v 0, nx]) q39_2 hp (c_okv_i _) (Nat.le_of_ble_eq_true rfl) rfl (fun h1 u1 => ?_)
  have hp : c_ob h1 4 4 [.ref 5, .ref 14, n_v 0, nx] := u1.2.1
  refine e_ret (pc := 5) q39_5 rfl rfl rfl ?_
  exact K h1 ((c_ch.rf h _).up u1 (by simp)) hp
theorem s40 {nx : Value} {kp : Nat} {s : Int} (hp : c_ob h 4 4 [.ref 5, .ref 14, n_v ↑kp, nx]) (hk : kp ≤ 8) (hs : -100 ≤ s ∧ s ≤ 100) (K : Q (.inl (some (n_v (if 1 ≤ s ∧ s ≤ kp then 1 else 0))), h)) : c_Ev X 40 0 [some (.ref 4), some (n_v s)] [] h Q := by
  by_cases h1 : 1 ≤ s
  · refine e_st (pc := 0) q40_0 rfl rfl ?_
    refine e_cst (v := 1) (len := 1) (pc := 1) q40_1 rfl rfl rfl ?_
    refine e_cmp false (pc := 2) q40_2 ⟨by omega, by omega⟩ ⟨by omega, by omega⟩ (n_f_lt (by omega)) ?_
    refine e_st (pc := 5) q40_5 rfl rfl ?_
    refine e_st (pc := 6) q40_6 rfl rfl ?_
    refine e_getf (pc := 7) q40_7 hp rfl ?_
    by_cases h2 : s ≤ kp
    · refine e_cmp false (pc := 10) q40_10 ⟨by omega, by omega⟩ ⟨by omega, by omega⟩ (n_f_gt (by omega)) ?_
      refine e_cst (v := 1) (len := 1) (pc := 13) q40_13 rfl rfl rfl ?_
      refine e_st (pc := 14) q40_14 rfl rfl ?_
      refine e_iret (pc := 18) q40_18 rfl rfl rfl (by decide +kernel) ?_
      rw [if_pos ⟨h1, h2⟩] at K
      exact K
    · refine e_cmp true (pc := 10) q40_10 ⟨by omega, by omega⟩ ⟨by omega, by omega⟩ (n_t_gt (by omega)) ?_
      refine e_cst (v := 0) (len := 1) (pc := 17) q40_17 rfl rfl rfl ?_
      refine e_iret (pc := 18) q40_18 rfl rfl rfl (by decide +kernel) ?_
      rw [if_neg (fun z => h2 z.2)] at K
      exact K
  · refine e_st (pc := 0) q40_0 rfl rfl ?_
    refine e_cst (v := 1) (len := 1) (pc := 1) q40_1 rfl rfl rfl ?_
    refine e_cmp true (pc := 2) q40_2 ⟨by omega, by omega⟩ ⟨by omega, by omega⟩ (n_t_lt (by omega)) ?_
    refine e_cst (v := 0) (len := 1) (pc := 17) q40_17 rfl rfl rfl ?_
    refine e_iret (pc := 18) q40_18 rfl rfl rfl (by decide +kernel) ?_
    rw [if_neg (fun z => h1 z.1)] at K
    exact K
theorem s42 {kp : Value} {x s box : Nat} {P : Nat → Nat → Int} (hp : c_ob h 4 4 [.ref 5, .ref 14, kp, n_v ↑x]) (ha : c_aa h 14 8 (fun t => 15 + t)) (hP : ∀ i, i < 8 → c_ar h (15 + i) 60 (P i)) (hx : x < 8) (hs : s ≤ 8) (hb : box < 60) (K : Q (.inl (some (n_v (P ((x + 8 - s) % 8) box))), h)) : c_Ev X 42 0 [some (.ref 4), some (n_v ↑s), some (n_v ↑box)] [] h Q := by
  refine e_st (pc := 0) q42_0 rfl rfl ?_
  refine e_getf (pc := 1) q42_1 hp rfl ?_
  refine e_st (pc := 4) q42_4 rfl rfl ?_
  refine e_st (pc := 5) q42_5 rfl rfl ?_
  refine e_callV (pc := 6) (mz := c_m41) (a := 4) (L0 := [some (.ref 4), some (n_v ↑s)]) (rest := [.ref 14]) q42_6 rfl rfl rfl rfl rfl rfl rfl hp rfl rfl ?_
  refine s41 hp (by omega) (by omega) ?_
  refine e_k (pc := 6) ?_
  have hP1 := hP ((x + 8 - s) % 8) (by omega)
  refine e_aald (pc := 9) (j := (x + 8 - s) % 8) q42_9 ha (by omega) (by omega) (by omega) ?_
  refine e_st (pc := 10) q42_10 rfl rfl ?_
  refine e_ald (pc := 11) (j := box) q42_11 hP1 (by omega) (by omega) (by omega) ?_
  refine e_iret (pc := 12) q42_12 rfl rfl rfl rfl ?_
  exact K
theorem s14 {v lo hi : Int} (h1 : n_r v) (h2 : n_r lo) (h3 : n_r hi) (Kt : lo ≤ v → v ≤ hi → Q (.inl none, h)) (Kf : ¬ (lo ≤ v ∧ v ≤ hi) → Q (.inr 0, h ++ [none])) : c_Ev X 14 0 [some (n_v v), some (n_v lo), some (n_v hi)] [] h Q := by
  unfold n_r at h1 h2 h3
  by_cases c1 : lo ≤ v
  · refine e_st (pc := 0) q14_0 rfl rfl ?_
    refine e_st (pc := 1) q14_1 rfl rfl ?_
    refine e_cmp false (pc := 2) q14_2 ⟨by omega, by omega⟩ ⟨by omega, by omega⟩ (n_f_lt (by omega)) ?_
    refine e_st (pc := 5) q14_5 rfl rfl ?_
    refine e_st (pc := 6) q14_6 rfl rfl ?_
    by_cases c2 : v ≤ hi
    · refine e_cmp true (pc := 7) q14_7 ⟨by omega, by omega⟩ ⟨by omega, by omega⟩ (n_t_le (by omega)) ?_
      refine e_ret (pc := 21) q14_21 rfl rfl rfl ?_
      exact Kt c1 c2
    · refine e_cmp false (pc := 7) q14_7 ⟨by omega, by omega⟩ ⟨by omega, by omega⟩ (n_f_le (by omega)) ?_
      exact e_thr (pc := 10) q14_10 rfl rfl rfl (Nat.le_of_ble_eq_true rfl) (Kf (fun z => c2 z.2))
  · refine e_st (pc := 0) q14_0 rfl rfl ?_
    refine e_st (pc := 1) q14_1 rfl rfl ?_
    refine e_cmp true (pc := 2) q14_2 ⟨by omega, by omega⟩ ⟨by omega, by omega⟩ (n_t_lt (by omega)) ?_
    exact e_thr (pc := 10) q14_10 rfl rfl rfl (Nat.le_of_ble_eq_true rfl) (Kf (fun z => c1 z.1))
theorem s15 {n : Nat} {rg : Value} {v : Int} (ho : c_ob h 0 10 m_O) (hr : c_ob h 1 6 [.ref 2, .ref 3, n_v ↑n, rg]) (hn : n ≤ 60) (h1 : n_r v) (Kt : 0 ≤ v → v < n → Q (.inl none, h)) (Kf : ¬ (0 ≤ v ∧ v < n) → Q (.inr 1, h ++ [none])) : c_Ev X 15 0 [some (.ref 0), some (n_v v)] [] h Q := by
  unfold n_r at h1
  by_cases c1 : 0 ≤ v
  · refine e_st (pc := 0) q15_0 rfl rfl ?_
    refine e_if false (pc := 1) q15_1 ⟨by omega, by omega⟩ (n_f_lt (by omega)) ?_
    refine e_st (pc := 4) q15_4 rfl rfl ?_
    refine e_st (pc := 5) q15_5 rfl rfl ?_
    refine e_getf (pc := 6) q15_6 ho rfl ?_
    refine e_getf (pc := 9) q15_9 hr rfl ?_
    by_cases c2 : v < n
    · refine e_cmp true (pc := 12) q15_12 ⟨by omega, by omega⟩ ⟨by omega, by omega⟩ (n_t_lt (by omega)) ?_
      refine e_ret (pc := 26) q15_26 rfl rfl rfl ?_
      exact Kt c1 c2
    · refine e_cmp false (pc := 12) q15_12 ⟨by omega, by omega⟩ ⟨by omega, by omega⟩ (n_f_lt (by omega)) ?_
      exact e_thr (pc := 15) q15_15 rfl rfl rfl (Nat.le_of_ble_eq_true rfl) (Kf (fun z => c2 z.2))
  · refine e_st (pc := 0) q15_0 rfl rfl ?_
    refine e_if true (pc := 1) q15_1 ⟨by omega, by omega⟩ (n_t_lt (by omega)) ?_
    exact e_thr (pc := 15) q15_15 rfl rfl rfl (Nat.le_of_ble_eq_true rfl) (Kf (fun z => c1 z.1))
theorem s50 {n2 r2 : Value} {n ca rg : Int} {f g : Nat → Int} (hr : c_ob h 1 6 [.ref 2, .ref 3, n2, r2]) (hc : c_ar h 2 60 f) (hb : c_ar h 3 60 g) (hn : 1 ≤ n ∧ n ≤ 60) (hrg : rg = 0 ∨ rg = 1) (K : ∀ h2, c_ch h h2 [1, 2, 3] → c_ob h2 1 6 [.ref 2, .ref 3, n_v n, n_v rg] → c_ar h2 2 60 (fun _ => ca) → c_ar h2 3 60 (fun _ => 0) → Q (.inl none, h2)) : c_Ev X 50 0 [some (.ref 1), some (n_v n), some (n_v ca), some (n_v rg)] [] h Q := by
  refine e_st (pc := 0) q50_0 rfl rfl ?_
  refine e_cst (v := 1) (len := 1) (pc := 1) q50_1 rfl rfl rfl ?_
  refine e_st (pc := 2) q50_2 rfl rfl ?_
  refine e_cst (v := 60) (len := 2) (pc := 3) q50_3 rfl rfl (by decide +kernel) ?_
  refine e_min (pc := 5) q50_5 ⟨by omega, by omega⟩ ⟨by omega, by omega⟩ (Nat.le_of_ble_eq_true rfl) ?_
  refine e_max (pc := 8) q50_8 ⟨by omega, by omega⟩ ⟨by omega, by omega⟩ (Nat.le_of_ble_eq_true rfl) ?_
  rw [show max 1 (min n 60) = n by omega]
  refine e_putf (pc := 11) (fs2 := [.ref 2, .ref 3, n_v n, r2]) q50_11 hr (c_okv_i _) (Nat.le_of_ble_eq_true rfl) rfl (fun h1 u1 => ?_)
  have hc := hc.up u1 (by omega)
  have hb := hb.up u1 (by omega)
  have hr : c_ob h1 1 6 [.ref 2, .ref 3, n_v n, r2] := u1.2.1
  refine e_st (pc := 14) q50_14 rfl rfl ?_
  refine e_st (pc := 15) q50_15 rfl rfl ?_
  refine e_putf (pc := 16) (fs2 := [.ref 2, .ref 3, n_v n, n_v rg]) q50_16 hr (c_okv_z hrg) (Nat.le_of_ble_eq_true rfl) rfl (fun h2 u2 => ?_)
  have hc := hc.up u2 (by omega)
  have hb := hb.up u2 (by omega)
  have hr : c_ob h2 1 6 [.ref 2, .ref 3, n_v n, n_v rg] := u2.2.1
  refine e_st (pc := 19) q50_19 rfl rfl ?_
  refine e_getf (pc := 20) q50_20 hr rfl ?_
  refine e_st (pc := 23) q50_23 rfl rfl ?_
  refine e_callS (pc := 24) (mz := c_m82) (L0 := [some (.ref 2), some (n_v ca), none, none]) (rest := []) q50_24 rfl rfl rfl rfl rfl rfl rfl rfl rfl ?_
  refine s82 hc (by omega) (fun h3 u3 => ?_)
  have hr := hr.up u3 (by omega)
  have hb := hb.up u3 (by omega)
  have hc : c_ar h3 2 60 (fun _ => ca) := u3.2.1
  refine e_k0 (pc := 24) ?_
  refine e_st (pc := 27) q50_27 rfl rfl ?_
  refine e_getf (pc := 28) q50_28 hr rfl ?_
  refine e_cst (v := 0) (len := 1) (pc := 31) q50_31 rfl rfl rfl ?_
  refine e_callS (pc := 32) (mz := c_m82) (L0 := [some (.ref 3), some (n_v 0), none, none]) (rest := []) q50_32 rfl rfl rfl rfl rfl rfl rfl rfl rfl ?_
  refine s82 hb (by omega) (fun h4 u4 => ?_)
  have hr := hr.up u4 (by omega)
  have hc := hc.up u4 (by omega)
  refine e_k0 (pc := 32) ?_
  refine e_ret (pc := 35) q50_35 rfl rfl rfl ?_
  exact K h4 (((((c_ch.rf h _).up u1 (by simp)).up u2 (by simp)).up u3 (by simp)).up u4 (by simp)) hr hc u4.2.1
end Ms
