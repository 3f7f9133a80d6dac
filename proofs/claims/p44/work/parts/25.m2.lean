/-! The carrier's ways over a row. -/
/-- h2 is h but for the cells of W -/
def c_ch (h h2 : c_Hp) (W : List Nat) : Prop := h2.length = h.length ∧ c_msz h2 = c_msz h ∧ ∀ q, q ∉ W → h2[q]? = h[q]?
theorem c_ch.rf (h : c_Hp) (W : List Nat) : c_ch h h W := ⟨rfl, rfl, fun _ _ => rfl⟩
theorem c_ch.up {h h1 h2 : c_Hp} {W : List Nat} {a : Nat} {c : c_Cell} (r : c_ch h h1 W) (u : c_up h1 h2 a c) (ha : a ∈ W) : c_ch h h2 W :=
  ⟨u.1.trans r.1, u.2.2.2.trans r.2.1, fun q hq => (u.2.2.1 q (fun e => hq (e ▸ ha))).trans (r.2.2 q hq)⟩
theorem c_ch.tr {h h1 h2 : c_Hp} {W : List Nat} (r : c_ch h h1 W) (s : c_ch h1 h2 W) : c_ch h h2 W := ⟨s.1.trans r.1, s.2.1.trans r.2.1, fun q hq => (s.2.2 q hq).trans (r.2.2 q hq)⟩
theorem c_ch.sub {h h1 : c_Hp} {W V : List Nat} (r : c_ch h h1 W) (hs : ∀ q, q ∈ W → q ∈ V) : c_ch h h1 V := ⟨r.1, r.2.1, fun q hq => r.2.2 q (fun e => hq (hs q e))⟩
theorem c_ar.ch {h h2 : c_Hp} {W : List Nat} {b n : Nat} {f : Nat → Int} (o : c_ar h b n f) (r : c_ch h h2 W) (hb : b ∉ W) : c_ar h2 b n f := by
  unfold c_ar
  rw [r.2.2 b hb]
  exact o
theorem c_ob.ch {h h2 : c_Hp} {W : List Nat} {b k : Nat} {fs : List Value} (o : c_ob h b k fs) (r : c_ch h h2 W) (hb : b ∉ W) : c_ob h2 b k fs := by
  unfold c_ob
  rw [r.2.2 b hb]
  exact o
theorem e_aldv {X : List Int32} {k pc : Nat} {L : c_Ls} {st : List Value} {h : c_Hp} {Q : c_O × c_Hp → Prop} {b n j : Nat} {e v : Int} {f : Nat → Int} {x y z} (hq : c_q k pc = some (.iaload, x, y, z)) (o : c_ar h b n f) (he : e = (j : Int)) (hj : j < n) (hn : n ≤ 100000) (hv : f j = v) (K : c_Ev X k (pc + 1) L (n_v v :: st) h Q) : c_Ev X k pc L (n_v e :: .ref b :: st) h Q := by
  subst hv
  exact e_ald hq o he hj hn K
theorem c_okv_i (x : Int32) : c_okv .int (.int x) = true := by simp [c_okv, fits, narrow]
def m_lb (li lo ca ba : Int) : Int := min lo (ca - ba) + max 0 (lo + ba - li)
/-- the load behind g boxes -/
def m_ld (li st : Int) (cf bf : Nat → Int) (o : Nat → Nat) : Nat → Int
  | 0 => st
  | g + 1 => m_ld li st cf bf o g + (bf (o g) - m_lb li (m_ld li st cf bf o g) (cf (o g)) (bf (o g)))
/-- the greatest load till then -/
def m_mx (li st : Int) (cf bf : Nat → Int) (o : Nat → Nat) : Nat → Int
  | 0 => st
  | g + 1 => max (m_mx li st cf bf o g) (m_ld li st cf bf o (g + 1))
theorem m_ld_b {li st : Int} {cf bf : Nat → Int} {o : Nat → Nat} {n : Nat} (hs : 0 ≤ st ∧ st ≤ li) (hb : ∀ t, t < n → 0 ≤ bf (o t) ∧ bf (o t) ≤ cf (o t)) : ∀ g, g ≤ n → 0 ≤ m_ld li st cf bf o g ∧ m_ld li st cf bf o g ≤ li
  | 0, _ => hs
  | g + 1, hg => by
    have h1 := m_ld_b hs hb g (by omega)
    have h2 := hb g (by omega)
    unfold m_ld m_lb
    omega
theorem m_mx_b {li st : Int} {cf bf : Nat → Int} {o : Nat → Nat} {n : Nat} (hs : 0 ≤ st ∧ st ≤ li) (hb : ∀ t, t < n → 0 ≤ bf (o t) ∧ bf (o t) ≤ cf (o t)) : ∀ g, g ≤ n → 0 ≤ m_mx li st cf bf o g ∧ m_mx li st cf bf o g ≤ li
  | 0, _ => hs
  | g + 1, hg => by
    have h1 := m_mx_b hs hb g (by omega)
    have h2 := m_ld_b hs hb (g + 1) hg
    unfold m_mx
    omega
section Ms
variable {X : List Int32} {h : c_Hp} {Q : c_O × c_Hp → Prop}
theorem s26fL {a b c d l n : Nat} {rg : Value} {li st : Int} {cf bf : Nat → Int} (hr : c_ob h a 6 [.ref c, .ref b, n_v ↑n, rg]) (hc : c_ar h c 60 cf) (hb : c_ar h b 60 bf) (hn : n ≤ 60) (hbf : ∀ t, t < n → 0 ≤ bf t ∧ bf t ≤ cf t ∧ cf t ≤ 4) (hs : 0 ≤ st ∧ st ≤ li) (hli : li ≤ 100) (hne : a ≠ d ∧ a ≠ l ∧ c ≠ d ∧ c ≠ l ∧ b ≠ d ∧ b ≠ l ∧ d ≠ l) (K : ∀ (h2 : c_Hp) (lf2 : Nat → Int), c_ch h h2 [d, l] → c_ar h2 l 60 lf2 → c_ob h2 d 0 [.ref l, n_v (m_mx li st cf bf (fun t => t) n)] → (∀ g, g < n → lf2 (g) = m_lb li (m_ld li st cf bf (fun t => t) g) (cf (g)) (bf (g))) → Q (.inl (some (n_v (m_ld li st cf bf (fun t => t) n))), h2)) :
  ∀ (m g : Nat) (h1 : c_Hp) (lf : Nat → Int) (x7 : Option Value), g + m = n → c_ch h h1 [d, l] → c_ar h1 l 60 lf → c_ob h1 d 0 [.ref l, n_v (m_mx li st cf bf (fun t => t) g)] → (∀ t, t < g → lf (t) = m_lb li (m_ld li st cf bf (fun t => t) t) (cf (t)) (bf (t))) →
  c_Ev X 26 11 [some (.ref d), some (.ref a), some (n_v li), some (n_v st), some (n_v 1), some (n_v (m_ld li st cf bf (fun t => t) g)), some (n_v ↑g), x7] [] h1 Q
  | 0, g, h1, lf, x7, e, hch, hl, hd, hlf => by
    have hr0 := hr
    have hc0 := hc
    have hb0 := hb
    have hr := hr.ch hch (by simp; omega)
    have hc := hc.ch hch (by simp; omega)
    have hb := hb.ch hch (by simp; omega)
    refine e_st (pc := 11) q26_11 rfl rfl ?_
    refine e_st (pc := 13) q26_13 rfl rfl ?_
    refine e_getf (pc := 14) q26_14 hr rfl ?_
    refine e_cmp true (pc := 17) q26_17 ⟨by omega, by omega⟩ ⟨by omega, by omega⟩ (n_t_ge (by omega)) ?_
    refine e_st (pc := 107) q26_107 rfl rfl ?_
    refine e_iret (pc := 109) q26_109 rfl rfl rfl rfl ?_
    have e2 : g = n := by omega
    subst e2
    exact K h1 lf hch hl hd hlf
  | m + 1, g, h1, lf, x7, e, hch, hl, hd, hlf => by
    have hr0 := hr
    have hc0 := hc
    have hb0 := hb
    have hr := hr.ch hch (by simp; omega)
    have hc := hc.ch hch (by simp; omega)
    have hb := hb.ch hch (by simp; omega)
    have b1 := hbf (g) (by omega)
    have b2 := m_ld_b (n := n) (o := (fun t => t)) hs (fun t ht => ⟨(hbf (t) (by omega)).1, (hbf (t) (by omega)).2.1⟩) g (by omega)
    have b3 := m_mx_b (n := n) (o := (fun t => t)) hs (fun t ht => ⟨(hbf (t) (by omega)).1, (hbf (t) (by omega)).2.1⟩) g (by omega)
    have b4 := m_ld_b (n := n) (o := (fun t => t)) hs (fun t ht => ⟨(hbf (t) (by omega)).1, (hbf (t) (by omega)).2.1⟩) (g + 1) (by omega)
    refine e_st (pc := 11) q26_11 rfl rfl ?_
    refine e_st (pc := 13) q26_13 rfl rfl ?_
    refine e_getf (pc := 14) q26_14 hr rfl ?_
    refine e_cmp false (pc := 17) q26_17 ⟨by omega, by omega⟩ ⟨by omega, by omega⟩ (n_f_ge (by omega)) ?_
    refine e_st (pc := 20) q26_20 rfl rfl ?_
    refine e_if false (pc := 22) q26_22 ⟨by omega, by omega⟩ (n_f_eq (by omega)) ?_
    refine e_st (pc := 25) q26_25 rfl rfl ?_
    refine e_st (pc := 27) q26_27 rfl rfl ?_
    refine e_st (pc := 39) (L2 := [some (.ref d), some (.ref a), some (n_v li), some (n_v st), some (n_v 1), some (n_v (m_ld li st cf bf (fun t => t) g)), some (n_v ↑g), some (n_v ↑g)]) q26_39 rfl rfl ?_
    refine e_st (pc := 41) q26_41 rfl rfl ?_
    refine e_getf (pc := 42) q26_42 hd rfl ?_
    refine e_st (pc := 45) q26_45 rfl rfl ?_
    refine e_st (pc := 47) q26_47 rfl rfl ?_
    refine e_st (pc := 48) q26_48 rfl rfl ?_
    refine e_st (pc := 50) q26_50 rfl rfl ?_
    refine e_getf (pc := 51) q26_51 hr rfl ?_
    refine e_st (pc := 54) q26_54 rfl rfl ?_
    refine e_ald (pc := 56) (j := g) q26_56 hc (by omega) (by omega) (by omega) ?_
    refine e_st (pc := 57) q26_57 rfl rfl ?_
    refine e_getf (pc := 58) q26_58 hr rfl ?_
    refine e_st (pc := 61) q26_61 rfl rfl ?_
    refine e_ald (pc := 63) (j := g) q26_63 hb (by omega) (by omega) (by omega) ?_
    refine e_callS (pc := 64) (mz := c_m22) (L0 := [some (n_v li), some (n_v (m_ld li st cf bf (fun t => t) g)), some (n_v (cf g)), some (n_v (bf g))]) q26_64 rfl rfl rfl rfl rfl rfl rfl rfl rfl ?_
    refine s22 (by omega) (by omega) (by omega) (by omega) ?_
    refine e_k (pc := 64) ?_
    refine e_ast (pc := 67) (j := g) q26_67 hl (by omega) (by omega) (by omega) (fun h1 u1 => ?_)
    have hr := hr.up u1 (by omega)
    have hd := hd.up u1 (by omega)
    have hb := hb.up u1 (by omega)
    have hc := hc.up u1 (by omega)
    have hl : c_ar h1 l 60 (fun t => if t = g then (m_lb li (m_ld li st cf bf (fun t => t) g) (cf (g)) (bf (g))) else lf t) := u1.2.1
    refine e_st (pc := 68) q26_68 rfl rfl ?_
    refine e_st (pc := 70) q26_70 rfl rfl ?_
    refine e_getf (pc := 71) q26_71 hr rfl ?_
    refine e_st (pc := 74) q26_74 rfl rfl ?_
    refine e_ald (pc := 76) (j := g) q26_76 hb (by omega) (by omega) (by omega) ?_
    refine e_st (pc := 77) q26_77 rfl rfl ?_
    refine e_getf (pc := 78) q26_78 hd rfl ?_
    refine e_st (pc := 81) q26_81 rfl rfl ?_
    refine e_aldv (pc := 83) (j := g) (v := m_lb li (m_ld li st cf bf (fun t => t) g) (cf (g)) (bf (g))) q26_83 hl (by omega) (by omega) (by omega) (if_pos rfl) ?_
    refine e_sub (pc := 84) q26_84 ?_
    refine e_add (pc := 85) q26_85 ?_
    refine e_st (pc := 86) (L2 := [some (.ref d), some (.ref a), some (n_v li), some (n_v st), some (n_v 1), some (n_v (m_ld li st cf bf (fun t => t) (g + 1))), some (n_v ↑g), some (n_v ↑g)]) q26_86 rfl rfl ?_
    refine e_st (pc := 88) q26_88 rfl rfl ?_
    refine e_st (pc := 89) q26_89 rfl rfl ?_
    refine e_getf (pc := 90) q26_90 hd rfl ?_
    refine e_st (pc := 93) q26_93 rfl rfl ?_
    refine e_max (pc := 95) q26_95 ⟨by omega, by omega⟩ ⟨by omega, by omega⟩ (Nat.le_of_ble_eq_true rfl) ?_
    refine e_putf (pc := 98) (fs2 := [.ref l, n_v (m_mx li st cf bf (fun t => t) (g + 1))]) q26_98 hd (c_okv_i _) (Nat.le_of_ble_eq_true rfl) rfl (fun h2 u2 => ?_)
    have hr := hr.up u2 (by omega)
    have hb := hb.up u2 (by omega)
    have hc := hc.up u2 (by omega)
    have hl := hl.up u2 (by omega)
    have hd : c_ob h2 d 0 [.ref l, n_v (m_mx li st cf bf (fun t => t) (g + 1))] := u2.2.1
    refine e_inc (pc := 101) (L2 := [some (.ref d), some (.ref a), some (n_v li), some (n_v st), some (n_v 1), some (n_v (m_ld li st cf bf (fun t => t) (g + 1))), some (n_v (↑g + 1)), some (n_v ↑g)]) q26_101 rfl rfl ?_
    refine e_st (pc := 104) q26_104 rfl rfl ?_
    have hch2 : c_ch h h2 [d, l] := (hch.up u1 (by simp)).up u2 (by simp)
    exact s26fL hr0 hc0 hb0 hn hbf hs hli hne K m (g + 1) h2 _ _ (by omega) hch2 hl hd (fun t ht => by
      by_cases e2 : t = g
      · subst e2; exact if_pos rfl
      · have e3 : ¬ (t) = (g) := by omega
        simp only [if_neg e3]; exact hlf t (by omega))
theorem s26f {a b c d l n : Nat} {rg : Value} {li st : Int} {cf bf : Nat → Int} {mo : Value} {lf : Nat → Int} (hr : c_ob h a 6 [.ref c, .ref b, n_v ↑n, rg]) (hc : c_ar h c 60 cf) (hb : c_ar h b 60 bf) (hn : n ≤ 60) (hbf : ∀ t, t < n → 0 ≤ bf t ∧ bf t ≤ cf t ∧ cf t ≤ 4) (hs : 0 ≤ st ∧ st ≤ li) (hli : li ≤ 100) (hne : a ≠ d ∧ a ≠ l ∧ c ≠ d ∧ c ≠ l ∧ b ≠ d ∧ b ≠ l ∧ d ≠ l) (hl : c_ar h l 60 lf) (hd : c_ob h d 0 [.ref l, mo]) (K : ∀ (h2 : c_Hp) (lf2 : Nat → Int), c_ch h h2 [d, l] → c_ar h2 l 60 lf2 → c_ob h2 d 0 [.ref l, n_v (m_mx li st cf bf (fun t => t) n)] → (∀ g, g < n → lf2 (g) = m_lb li (m_ld li st cf bf (fun t => t) g) (cf (g)) (bf (g))) → Q (.inl (some (n_v (m_ld li st cf bf (fun t => t) n))), h2)) : c_Ev X 26 0 [some (.ref d), some (.ref a), some (n_v li), some (n_v st), some (n_v 1), none, none, none] [] h Q := by
  have hr0 := hr
  have hc0 := hc
  have hb0 := hb
  refine e_st (pc := 0) q26_0 rfl rfl ?_
  refine e_st (pc := 1) (L2 := [some (.ref d), some (.ref a), some (n_v li), some (n_v st), some (n_v 1), some (n_v st), none, none]) q26_1 rfl rfl ?_
  refine e_st (pc := 3) q26_3 rfl rfl ?_
  refine e_st (pc := 4) q26_4 rfl rfl ?_
  refine e_putf (pc := 5) (fs2 := [.ref l, n_v st]) q26_5 hd (c_okv_i _) (Nat.le_of_ble_eq_true rfl) rfl (fun h1 u1 => ?_)
  have hr := hr.up u1 (by omega)
  have hb := hb.up u1 (by omega)
  have hc := hc.up u1 (by omega)
  have hl := hl.up u1 (by omega)
  have hd : c_ob h1 d 0 [.ref l, n_v st] := u1.2.1
  refine e_cst (v := 0) (len := 1) (pc := 8) q26_8 rfl rfl rfl ?_
  refine e_st (pc := 9) (L2 := [some (.ref d), some (.ref a), some (n_v li), some (n_v st), some (n_v 1), some (n_v st), some (n_v 0), none]) q26_9 rfl rfl ?_
  exact s26fL hr0 hc0 hb0 hn hbf hs hli hne K n 0 h1 lf none (by omega) ((c_ch.rf h [d, l]).up u1 (by simp)) hl hd (fun t ht => by omega)
theorem s26bL {a b c d l n : Nat} {rg : Value} {li st : Int} {cf bf : Nat → Int} (hr : c_ob h a 6 [.ref c, .ref b, n_v ↑n, rg]) (hc : c_ar h c 60 cf) (hb : c_ar h b 60 bf) (hn : n ≤ 60) (hbf : ∀ t, t < n → 0 ≤ bf t ∧ bf t ≤ cf t ∧ cf t ≤ 4) (hs : 0 ≤ st ∧ st ≤ li) (hli : li ≤ 100) (hne : a ≠ d ∧ a ≠ l ∧ c ≠ d ∧ c ≠ l ∧ b ≠ d ∧ b ≠ l ∧ d ≠ l) (K : ∀ (h2 : c_Hp) (lf2 : Nat → Int), c_ch h h2 [d, l] → c_ar h2 l 60 lf2 → c_ob h2 d 0 [.ref l, n_v (m_mx li st cf bf (fun t => n - 1 - t) n)] → (∀ g, g < n → lf2 (n - 1 - g) = m_lb li (m_ld li st cf bf (fun t => n - 1 - t) g) (cf (n - 1 - g)) (bf (n - 1 - g))) → Q (.inl (some (n_v (m_ld li st cf bf (fun t => n - 1 - t) n))), h2)) :
  ∀ (m g : Nat) (h1 : c_Hp) (lf : Nat → Int) (x7 : Option Value), g + m = n → c_ch h h1 [d, l] → c_ar h1 l 60 lf → c_ob h1 d 0 [.ref l, n_v (m_mx li st cf bf (fun t => n - 1 - t) g)] → (∀ t, t < g → lf (n - 1 - t) = m_lb li (m_ld li st cf bf (fun t => n - 1 - t) t) (cf (n - 1 - t)) (bf (n - 1 - t))) →
  c_Ev X 26 11 [some (.ref d), some (.ref a), some (n_v li), some (n_v st), some (n_v 0), some (n_v (m_ld li st cf bf (fun t => n - 1 - t) g)), some (n_v ↑g), x7] [] h1 Q
  | 0, g, h1, lf, x7, e, hch, hl, hd, hlf => by
    have hr0 := hr
    have hc0 := hc
    have hb0 := hb
    have hr := hr.ch hch (by simp; omega)
    have hc := hc.ch hch (by simp; omega)
    have hb := hb.ch hch (by simp; omega)
    refine e_st (pc := 11) q26_11 rfl rfl ?_
    refine e_st (pc := 13) q26_13 rfl rfl ?_
    refine e_getf (pc := 14) q26_14 hr rfl ?_
    refine e_cmp true (pc := 17) q26_17 ⟨by omega, by omega⟩ ⟨by omega, by omega⟩ (n_t_ge (by omega)) ?_
    refine e_st (pc := 107) q26_107 rfl rfl ?_
    refine e_iret (pc := 109) q26_109 rfl rfl rfl rfl ?_
    have e2 : g = n := by omega
    subst e2
    exact K h1 lf hch hl hd hlf
  | m + 1, g, h1, lf, x7, e, hch, hl, hd, hlf => by
    have hr0 := hr
    have hc0 := hc
    have hb0 := hb
    have hr := hr.ch hch (by simp; omega)
    have hc := hc.ch hch (by simp; omega)
    have hb := hb.ch hch (by simp; omega)
    have b1 := hbf (n - 1 - g) (by omega)
    have b2 := m_ld_b (n := n) (o := (fun t => n - 1 - t)) hs (fun t ht => ⟨(hbf (n - 1 - t) (by omega)).1, (hbf (n - 1 - t) (by omega)).2.1⟩) g (by omega)
    have b3 := m_mx_b (n := n) (o := (fun t => n - 1 - t)) hs (fun t ht => ⟨(hbf (n - 1 - t) (by omega)).1, (hbf (n - 1 - t) (by omega)).2.1⟩) g (by omega)
    have b4 := m_ld_b (n := n) (o := (fun t => n - 1 - t)) hs (fun t ht => ⟨(hbf (n - 1 - t) (by omega)).1, (hbf (n - 1 - t) (by omega)).2.1⟩) (g + 1) (by omega)
    refine e_st (pc := 11) q26_11 rfl rfl ?_
    refine e_st (pc := 13) q26_13 rfl rfl ?_
    refine e_getf (pc := 14) q26_14 hr rfl ?_
    refine e_cmp false (pc := 17) q26_17 ⟨by omega, by omega⟩ ⟨by omega, by omega⟩ (n_f_ge (by omega)) ?_
    refine e_st (pc := 20) q26_20 rfl rfl ?_
    refine e_if true (pc := 22) q26_22 ⟨by omega, by omega⟩ (n_t_eq (by omega)) ?_
    refine e_st (pc := 30) q26_30 rfl rfl ?_
    refine e_getf (pc := 31) q26_31 hr rfl ?_
    refine e_cst (v := 1) (len := 1) (pc := 34) q26_34 rfl rfl rfl ?_
    refine e_sub (pc := 35) q26_35 ?_
    refine e_st (pc := 36) q26_36 rfl rfl ?_
    refine e_sub (pc := 38) q26_38 ?_
    refine e_st (pc := 39) (L2 := [some (.ref d), some (.ref a), some (n_v li), some (n_v st), some (n_v 0), some (n_v (m_ld li st cf bf (fun t => n - 1 - t) g)), some (n_v ↑g), some (n_v ((↑n - 1) - ↑g))]) q26_39 rfl rfl ?_
    refine e_st (pc := 41) q26_41 rfl rfl ?_
    refine e_getf (pc := 42) q26_42 hd rfl ?_
    refine e_st (pc := 45) q26_45 rfl rfl ?_
    refine e_st (pc := 47) q26_47 rfl rfl ?_
    refine e_st (pc := 48) q26_48 rfl rfl ?_
    refine e_st (pc := 50) q26_50 rfl rfl ?_
    refine e_getf (pc := 51) q26_51 hr rfl ?_
    refine e_st (pc := 54) q26_54 rfl rfl ?_
    refine e_ald (pc := 56) (j := n - 1 - g) q26_56 hc (by omega) (by omega) (by omega) ?_
    refine e_st (pc := 57) q26_57 rfl rfl ?_
    refine e_getf (pc := 58) q26_58 hr rfl ?_
    refine e_st (pc := 61) q26_61 rfl rfl ?_
    refine e_ald (pc := 63) (j := n - 1 - g) q26_63 hb (by omega) (by omega) (by omega) ?_
    refine e_callS (pc := 64) (mz := c_m22) (L0 := [some (n_v li), some (n_v (m_ld li st cf bf (fun t => n - 1 - t) g)), some (n_v (cf (n - 1 - g))), some (n_v (bf (n - 1 - g)))]) q26_64 rfl rfl rfl rfl rfl rfl rfl rfl rfl ?_
    refine s22 (by omega) (by omega) (by omega) (by omega) ?_
    refine e_k (pc := 64) ?_
    refine e_ast (pc := 67) (j := n - 1 - g) q26_67 hl (by omega) (by omega) (by omega) (fun h1 u1 => ?_)
    have hr := hr.up u1 (by omega)
    have hd := hd.up u1 (by omega)
    have hb := hb.up u1 (by omega)
    have hc := hc.up u1 (by omega)
    have hl : c_ar h1 l 60 (fun t => if t = n - 1 - g then (m_lb li (m_ld li st cf bf (fun t => n - 1 - t) g) (cf (n - 1 - g)) (bf (n - 1 - g))) else lf t) := u1.2.1
    refine e_st (pc := 68) q26_68 rfl rfl ?_
    refine e_st (pc := 70) q26_70 rfl rfl ?_
    refine e_getf (pc := 71) q26_71 hr rfl ?_
    refine e_st (pc := 74) q26_74 rfl rfl ?_
    refine e_ald (pc := 76) (j := n - 1 - g) q26_76 hb (by omega) (by omega) (by omega) ?_
    refine e_st (pc := 77) q26_77 rfl rfl ?_
    refine e_getf (pc := 78) q26_78 hd rfl ?_
    refine e_st (pc := 81) q26_81 rfl rfl ?_
    refine e_aldv (pc := 83) (j := n - 1 - g) (v := m_lb li (m_ld li st cf bf (fun t => n - 1 - t) g) (cf (n - 1 - g)) (bf (n - 1 - g))) q26_83 hl (by omega) (by omega) (by omega) (if_pos rfl) ?_
    refine e_sub (pc := 84) q26_84 ?_
    refine e_add (pc := 85) q26_85 ?_
    refine e_st (pc := 86) (L2 := [some (.ref d), some (.ref a), some (n_v li), some (n_v st), some (n_v 0), some (n_v (m_ld li st cf bf (fun t => n - 1 - t) (g + 1))), some (n_v ↑g), some (n_v ((↑n - 1) - ↑g))]) q26_86 rfl rfl ?_
    refine e_st (pc := 88) q26_88 rfl rfl ?_
    refine e_st (pc := 89) q26_89 rfl rfl ?_
    refine e_getf (pc := 90) q26_90 hd rfl ?_
    refine e_st (pc := 93) q26_93 rfl rfl ?_
    refine e_max (pc := 95) q26_95 ⟨by omega, by omega⟩ ⟨by omega, by omega⟩ (Nat.le_of_ble_eq_true rfl) ?_
    refine e_putf (pc := 98) (fs2 := [.ref l, n_v (m_mx li st cf bf (fun t => n - 1 - t) (g + 1))]) q26_98 hd (c_okv_i _) (Nat.le_of_ble_eq_true rfl) rfl (fun h2 u2 => ?_)
    have hr := hr.up u2 (by omega)
    have hb := hb.up u2 (by omega)
    have hc := hc.up u2 (by omega)
    have hl := hl.up u2 (by omega)
    have hd : c_ob h2 d 0 [.ref l, n_v (m_mx li st cf bf (fun t => n - 1 - t) (g + 1))] := u2.2.1
    refine e_inc (pc := 101) (L2 := [some (.ref d), some (.ref a), some (n_v li), some (n_v st), some (n_v 0), some (n_v (m_ld li st cf bf (fun t => n - 1 - t) (g + 1))), some (n_v (↑g + 1)), some (n_v ((↑n - 1) - ↑g))]) q26_101 rfl rfl ?_
    refine e_st (pc := 104) q26_104 rfl rfl ?_
    have hch2 : c_ch h h2 [d, l] := (hch.up u1 (by simp)).up u2 (by simp)
    exact s26bL hr0 hc0 hb0 hn hbf hs hli hne K m (g + 1) h2 _ _ (by omega) hch2 hl hd (fun t ht => by
      by_cases e2 : t = g
      · subst e2; exact if_pos rfl
      · have e3 : ¬ (n - 1 - t) = (n - 1 - g) := by omega
        simp only [if_neg e3]; exact hlf t (by omega))
theorem s26b {a b c d l n : Nat} {rg : Value} {li st : Int} {cf bf : Nat → Int} {mo : Value} {lf : Nat → Int} (hr : c_ob h a 6 [.ref c, .ref b, n_v ↑n, rg]) (hc : c_ar h c 60 cf) (hb : c_ar h b 60 bf) (hn : n ≤ 60) (hbf : ∀ t, t < n → 0 ≤ bf t ∧ bf t ≤ cf t ∧ cf t ≤ 4) (hs : 0 ≤ st ∧ st ≤ li) (hli : li ≤ 100) (hne : a ≠ d ∧ a ≠ l ∧ c ≠ d ∧ c ≠ l ∧ b ≠ d ∧ b ≠ l ∧ d ≠ l) (hl : c_ar h l 60 lf) (hd : c_ob h d 0 [.ref l, mo]) (K : ∀ (h2 : c_Hp) (lf2 : Nat → Int), c_ch h h2 [d, l] → c_ar h2 l 60 lf2 → c_ob h2 d 0 [.ref l, n_v (m_mx li st cf bf (fun t => n - 1 - t) n)] → (∀ g, g < n → lf2 (n - 1 - g) = m_lb li (m_ld li st cf bf (fun t => n - 1 - t) g) (cf (n - 1 - g)) (bf (n - 1 - g))) → Q (.inl (some (n_v (m_ld li st cf bf (fun t => n - 1 - t) n))), h2)) : c_Ev X 26 0 [some (.ref d), some (.ref a), some (n_v li), some (n_v st), some (n_v 0), none, none, none] [] h Q := by
  have hr0 := hr
  have hc0 := hc
  have hb0 := hb
  refine e_st (pc := 0) q26_0 rfl rfl ?_
  refine e_st (pc := 1) (L2 := [some (.ref d), some (.ref a), some (n_v li), some (n_v st), some (n_v 0), some (n_v st), none, none]) q26_1 rfl rfl ?_
  refine e_st (pc := 3) q26_3 rfl rfl ?_
  refine e_st (pc := 4) q26_4 rfl rfl ?_
  refine e_putf (pc := 5) (fs2 := [.ref l, n_v st]) q26_5 hd (c_okv_i _) (Nat.le_of_ble_eq_true rfl) rfl (fun h1 u1 => ?_)
  have hr := hr.up u1 (by omega)
  have hb := hb.up u1 (by omega)
  have hc := hc.up u1 (by omega)
  have hl := hl.up u1 (by omega)
  have hd : c_ob h1 d 0 [.ref l, n_v st] := u1.2.1
  refine e_cst (v := 0) (len := 1) (pc := 8) q26_8 rfl rfl rfl ?_
  refine e_st (pc := 9) (L2 := [some (.ref d), some (.ref a), some (n_v li), some (n_v st), some (n_v 0), some (n_v st), some (n_v 0), none]) q26_9 rfl rfl ?_
  exact s26bL hr0 hc0 hb0 hn hbf hs hli hne K n 0 h1 lf none (by omega) ((c_ch.rf h [d, l]).up u1 (by simp)) hl hd (fun t ht => by omega)
end Ms
