/-! A step of the object against the law's own. -/
section Ms
variable {X : List Int32} {h : c_Hp} {Q : c_O × c_Hp → Prop}
theorem m_K.gw {h h2 : c_Hp} {a7 n : Nat} {g : Nat → Nat} {kr : Nat → Nat → Int} {S V : List Nat} (k : m_K h a7 n g kr S) (r : c_gw h h2 V) (h7 : 58 ≤ a7) (hV : ∀ q ∈ V, q < 58) : m_K h2 a7 n g kr S :=
  ⟨k.1.gw r (fun e => by have := hV _ e; omega), fun i hi => ⟨(k.2 i hi).1.gw r (fun e => by have := hV _ e; have := (k.2 i hi).2.1; omega), (k.2 i hi).2⟩⟩
theorem s83vf {n : Nat} {rg ca : Int} {many it ac a5 a6 a7 a16 N M : Nat} {hd rw th : Nat → Int} {g : Nat → Nat} {kr : Nat → Nat → Int} {x18 x19 x20 x21 x22 : Option Value} (hI : m_I h n rg many a5 a6 a7 hd rw g kr) (bd : m_bd h N M) (hca : 1 ≤ ca ∧ ca ≤ 99) (ar16 : c_ar h a16 n th) (hth : ∀ t, t < n → th (t) = m_lb ca (m_ld ca (m_s0 rg ca hd rw (fun t => t) n) hd rw (fun t => t) t) (hd (t)) (rw (t))) (h16 : 58 ≤ a16 ∧ a16 ≠ a5 ∧ a16 ≠ a6 ∧ a16 ≠ a7 ∧ ∀ i, i < 8 → g i ≠ a16)
    (K : ∀ (h1 : c_Hp) (many' a6' : Nat) (rw' : Nat → Int) (g' : Nat → Nat) (kr' : Nat → Nat → Int) (x12 x13 x14 x15 x16 x17 x18 x19 x20 x21 x22 : Option Value), m_I h1 n rg many' a5 a6' a7 hd rw' g' kr' → m_bd h1 (N + 8) (M + 192) → c_Ev X 83 755 [some (.retAddr 0), some (.ref 0), some (n_v ↑n), some (n_v rg), some (n_v 1), some (.ref a5), some (.ref a6'), some (.ref a7), some (n_v ↑many'), some (n_v ↑it), some (n_v ↑ac), some (n_v ca), x12, x13, x14, x15, x16, x17, x18, x19, x20, x21, x22] [] h1 Q) :
    c_Ev X 83 626 [some (.retAddr 0), some (.ref 0), some (n_v ↑n), some (n_v rg), some (n_v 1), some (.ref a5), some (.ref a6), some (.ref a7), some (n_v ↑many), some (n_v ↑it), some (n_v ↑ac), some (n_v ca), some (n_v 0), some (n_v (m_s0 rg ca hd rw (fun t => t) n)), some (n_v (m_mx ca (m_s0 rg ca hd rw (fun t => t) n) hd rw (fun t => t) n)), some (n_v (m_ld ca (m_s0 rg ca hd rw (fun t => t) n) hd rw (fun t => t) n)), some (.ref a16), some (n_v 2), x18, x19, x20, x21, x22] [] h Q := by
  have hrow := hI.rows
  have hlt := hI.lt
  have l16 := c_at_lt ar16
  obtain ⟨⟨hn, hrg, hmany, h58, hdis, hg⟩, ar5, ar6, aa, ak, cf, bf, H, hW, hx, hH⟩ := id hI
  have hk : m_K h a7 n g kr [a5, a6, a7, a16] := ⟨aa, fun i hi => ⟨ak i hi, (hg i hi).1, by
    have h1 := hg i hi
    have h2 := h16.2.2.2.2 i hi
    simp
    omega⟩⟩
  have hb2 : ∀ t, t < n → 0 ≤ rw (t) ∧ rw (t) ≤ hd (t) := fun t ht => by have := hrow (t) (by omega); omega
  have hxo : ∀ t, t < n → cf ((fun t => t) t) = hd ((fun t => t) t) ∧ bf ((fun t => t) t) = rw ((fun t => t) t) := fun t ht => hx (t) (by omega)
  have eS : m_s0 rg ca cf bf (fun t => t) n = (m_s0 rg ca hd rw (fun t => t) n) := by
    unfold m_s0
    rw [m_ld_eq (cf2 := hd) (bf2 := rw) hxo n (Nat.le_refl n)]
  have hs0 : 0 ≤ (m_s0 rg ca hd rw (fun t => t) n) ∧ (m_s0 rg ca hd rw (fun t => t) n) ≤ ca := by
    unfold m_s0
    split
    · exact m_ld_b (n := n) (o := (fun t => t)) ⟨by omega, by omega⟩ hb2 n (Nat.le_refl n)
    · omega
  have hbl := m_ld_b (n := n) (o := (fun t => t)) hs0 hb2 n (Nat.le_refl n)
  have hbm := m_mx_b (n := n) (o := (fun t => t)) hs0 hb2 n (Nat.le_refl n)
  by_cases hpass : m_ld ca (m_s0 rg ca hd rw (fun t => t) n) hd rw (fun t => t) n = (m_s0 rg ca hd rw (fun t => t) n)
  · refine e_st (pc := 626) q83_626 rfl rfl ?_
    refine e_st (pc := 628) q83_628 rfl rfl ?_
    refine e_cmp false (pc := 630) q83_630 ⟨by omega, by omega⟩ ⟨by omega, by omega⟩ (n_f_ne (by omega)) ?_
    refine e_cst (v := 1) (len := 1) (pc := 633) q83_633 rfl rfl rfl ?_
    refine e_st (pc := 634) q83_634 rfl rfl ?_
    refine e_st (pc := 638) (L2 := [some (.retAddr 0), some (.ref 0), some (n_v ↑n), some (n_v rg), some (n_v 1), some (.ref a5), some (.ref a6), some (.ref a7), some (n_v ↑many), some (n_v ↑it), some (n_v ↑ac), some (n_v ca), some (n_v 0), some (n_v (m_s0 rg ca hd rw (fun t => t) n)), some (n_v (m_mx ca (m_s0 rg ca hd rw (fun t => t) n) hd rw (fun t => t) n)), some (n_v (m_ld ca (m_s0 rg ca hd rw (fun t => t) n) hd rw (fun t => t) n)), some (.ref a16), some (n_v 1), x18, x19, x20, x21, x22]) q83_638 rfl rfl ?_
    refine e_st (pc := 640) q83_640 rfl rfl ?_
    refine e_st (pc := 642) q83_642 rfl rfl ?_
    refine e_if true (pc := 644) q83_644 ⟨by omega, by omega⟩ (n_t_eq (by omega)) ?_
    refine e_st (pc := 656) q83_656 rfl rfl ?_
    refine e_st (pc := 657) q83_657 rfl rfl ?_
    refine e_callS (pc := 659) (mz := c_m73) (L0 := [some (.ref 0), some (n_v ca), none]) (rest := [n_v 1]) q83_659 rfl rfl rfl rfl rfl rfl rfl rfl rfl ?_
    refine s73 hW (by omega) (fun e1 => absurd hca e1) (fun _ _ e1 => by rw [eS, m_ld_eq (cf2 := hd) (bf2 := rw) hxo n (Nat.le_refl n)] at e1; exact absurd hpass e1) (fun _ _ _ h1 bf2 x1 hbf2 hW => ?_)
    refine e_k (pc := 659) ?_
    rw [eS, m_mx_eq (cf2 := hd) (bf2 := rw) hxo n (Nat.le_refl n)]
    have bd := bd.xt x1
    have ar5 := ar5.xt x1 (by simp; omega)
    have ar6 := ar6.xt x1 (by simp; omega)
    have ar16 := ar16.xt x1 (by simp; omega)
    have hk := hk.gw x1.gw (by omega) (by intro q hq; simpa using hq)
    have hS : ∀ q ∈ [a5, a6, a7, a16], q < h1.length := by
      intro q hq
      rw [x1.1]
      simp at hq
      omega
    have hb3 : ∀ t, t < n → bf2 t = th t := by
      intro t ht
      have e1 := hbf2 t ht
      have e2 := hth (t) (by omega)
      skip
      rw [e1, e2, eS, m_ld_eq (cf2 := hd) (bf2 := rw) hxo (t) (by omega), (hx t ht).1, (hx t ht).2]
    refine e_st (pc := 662) q83_662 rfl rfl ?_
    refine e_if false (pc := 664) q83_664 ⟨by omega, by omega⟩ (n_f_eq (by omega)) ?_
    refine e_st (pc := 667) q83_667 rfl rfl ?_
    refine e_st (pc := 669) q83_669 rfl rfl ?_
    refine e_cmp false (pc := 674) q83_674 ⟨by omega, by omega⟩ ⟨by omega, by omega⟩ (n_f_ne (fun e1 => e1 rfl)) ?_
    refine e_cst (v := 1) (len := 1) (pc := 677) q83_677 rfl rfl rfl ?_
    refine e_st (pc := 678) q83_678 rfl rfl ?_
    refine e_and1 (pc := 682) q83_682 ?_
    refine e_st (pc := 683) (L2 := [some (.retAddr 0), some (.ref 0), some (n_v ↑n), some (n_v rg), some (n_v 1), some (.ref a5), some (.ref a6), some (.ref a7), some (n_v ↑many), some (n_v ↑it), some (n_v ↑ac), some (n_v ca), some (n_v 0), some (n_v (m_s0 rg ca hd rw (fun t => t) n)), some (n_v (m_mx ca (m_s0 rg ca hd rw (fun t => t) n) hd rw (fun t => t) n)), some (n_v (m_ld ca (m_s0 rg ca hd rw (fun t => t) n) hd rw (fun t => t) n)), some (.ref a16), some (n_v 1), x18, x19, x20, x21, x22]) q83_683 rfl rfl ?_
    refine e_st (pc := 685) q83_685 rfl rfl ?_
    refine e_if false (pc := 687) q83_687 ⟨by omega, by omega⟩ (n_f_eq (by omega)) ?_
    refine e_st (pc := 690) q83_690 rfl rfl ?_
    refine e_cst (v := 8) (len := 2) (pc := 692) q83_692 rfl rfl (by decide +kernel) ?_
    by_cases hm8 : many = 8
    · subst hm8
      refine e_cmp false (pc := 694) q83_694 ⟨by omega, by omega⟩ ⟨by omega, by omega⟩ (n_f_ne (fun e1 => e1 rfl)) ?_
      refine e_cst (v := 0) (len := 1) (pc := 697) q83_697 rfl rfl rfl ?_
      refine e_st (pc := 698) (L2 := [some (.retAddr 0), some (.ref 0), some (n_v ↑n), some (n_v rg), some (n_v 1), some (.ref a5), some (.ref a6), some (.ref a7), some (n_v 8), some (n_v ↑it), some (n_v ↑ac), some (n_v ca), some (n_v 0), some (n_v (m_s0 rg ca hd rw (fun t => t) n)), some (n_v (m_mx ca (m_s0 rg ca hd rw (fun t => t) n) hd rw (fun t => t) n)), some (n_v (m_ld ca (m_s0 rg ca hd rw (fun t => t) n) hd rw (fun t => t) n)), some (.ref a16), some (n_v 1), some (n_v 0), x19, x20, x21, x22]) q83_698 rfl rfl ?_
      refine s83s (h := h1) (S := [a5, a6, a7, a16]) (kr0 := kr) (N := N) (M := M) (by omega) (by simp) (by intro q hq; simp at hq; omega) (fun h2 g2 kr2 gw2 bd2 hk2 hs2 => ?_) 7 0 h1 g kr (by omega) (c_gw.rf _ _) (bd.mono (by omega) (by omega)) hk hS (fun i hi => by omega) (fun i _ _ => rfl)
      have ar5 := ar5.gw gw2 (by simp; omega)
      have ar6 := ar6.gw gw2 (by simp; omega)
      have ar16 := ar16.gw gw2 (by simp; omega)
      have hW := hW.gw gw2 (by simp; omega)
      have hS : ∀ q ∈ [a5, a6, a7, a16], q < h2.length := fun q hq => Nat.lt_of_lt_of_le (hS q hq) gw2.1
      have hk := hk2
      have bd := bd2
      refine e_cst (v := 7) (len := 2) (pc := 731) q83_731 rfl rfl (by decide +kernel) ?_
      refine e_st (pc := 733) (L2 := [some (.retAddr 0), some (.ref 0), some (n_v ↑n), some (n_v rg), some (n_v 1), some (.ref a5), some (.ref a6), some (.ref a7), some (n_v 7), some (n_v ↑it), some (n_v ↑ac), some (n_v ca), some (n_v 0), some (n_v (m_s0 rg ca hd rw (fun t => t) n)), some (n_v (m_mx ca (m_s0 rg ca hd rw (fun t => t) n) hd rw (fun t => t) n)), some (n_v (m_ld ca (m_s0 rg ca hd rw (fun t => t) n) hd rw (fun t => t) n)), some (.ref a16), some (n_v 1), some (n_v ((7 : Nat) : Int)), x19, x20, x21, x22]) q83_733 rfl rfl ?_
      refine e_st (pc := 735) q83_735 rfl rfl ?_
      refine e_st (pc := 737) q83_737 rfl rfl ?_
      refine e_st (pc := 739) q83_739 rfl rfl ?_
      refine e_clone (pc := 741) q83_741 ar6 rfl ?_
      have an := c_ar.new h2 n rw
      refine e_cast (pc := 744) q83_744 an ?_
      refine e_aast (pc := 747) (j := 7) q83_747 (hk.1.gw (c_gw.app h2 _) (by simp)) an rfl (by omega) (by omega) (fun h3 u2 => ?_)
      refine e_inc (pc := 748) (L2 := [some (.retAddr 0), some (.ref 0), some (n_v ↑n), some (n_v rg), some (n_v 1), some (.ref a5), some (.ref a6), some (.ref a7), some (n_v (((7 : Nat) : Int) + 1)), some (n_v ↑it), some (n_v ↑ac), some (n_v ca), some (n_v 0), some (n_v (m_s0 rg ca hd rw (fun t => t) n)), some (n_v (m_mx ca (m_s0 rg ca hd rw (fun t => t) n) hd rw (fun t => t) n)), some (n_v (m_ld ca (m_s0 rg ca hd rw (fun t => t) n) hd rw (fun t => t) n)), some (.ref a16), some (n_v 1), some (n_v ((7 : Nat) : Int)), x19, x20, x21, x22]) q83_748 rfl rfl ?_
      refine e_st (pc := 751) q83_751 rfl rfl ?_
      refine e_st (pc := 753) (L2 := [some (.retAddr 0), some (.ref 0), some (n_v ↑n), some (n_v rg), some (n_v 1), some (.ref a5), some (.ref a16), some (.ref a7), some (n_v (((7 : Nat) : Int) + 1)), some (n_v ↑it), some (n_v ↑ac), some (n_v ca), some (n_v 0), some (n_v (m_s0 rg ca hd rw (fun t => t) n)), some (n_v (m_mx ca (m_s0 rg ca hd rw (fun t => t) n) hd rw (fun t => t) n)), some (n_v (m_ld ca (m_s0 rg ca hd rw (fun t => t) n) hd rw (fun t => t) n)), some (.ref a16), some (n_v 1), some (n_v ((7 : Nat) : Int)), x19, x20, x21, x22]) q83_753 rfl rfl ?_
      rw [show ((7 : Nat) : Int) + 1 = ((8 : Nat) : Int) by omega]
      have hk2 := hk.put bd.1 hS (by simp) u2
      have gp := c_gw.put u2
      refine K h3 _ a16 th _ _ _ _ _ _ _ _ _ _ _ _ _ ⟨⟨hn, hrg, by omega, ⟨by omega, by omega, by omega⟩, ⟨by omega, by omega, by omega⟩, fun i hi => ?_⟩, ar5.gw gp (by simp; omega), ar16.gw gp (by simp; omega), hk2.1, fun i hi => (hk2.2 i hi).1, cf, bf2, _, hW.gw gp (by simp; omega), fun t ht => ⟨(hx t ht).1, hb3 t ht⟩, fun j j1 j2 t ht => ?_⟩ ((bd.put u2).mono (by omega) (by omega))
      · have q1 := (hk2.2 i hi).2
        simp only [List.mem_cons, List.not_mem_nil, or_false, not_or] at q1
        exact ⟨q1.1, q1.2.1, q1.2.2.2.2, q1.2.2.2.1⟩
      · by_cases e1 : j = 1
        · simp only [if_pos e1]
          rw [if_pos (by omega)]
          exact (hx t ht).2
        · simp only [if_neg e1]
          rw [if_neg (by omega)]
          rw [show 8 - j = 8 - j from rfl, hs2 (8 - j) (by omega), show 8 - j + 1 = 8 - (j - 1) by omega]
          exact hH (j - 1) (by omega) (by omega) t ht
    · refine e_cmp true (pc := 694) q83_694 ⟨by omega, by omega⟩ ⟨by omega, by omega⟩ (n_t_ne (by omega)) ?_
      refine e_st (pc := 735) q83_735 rfl rfl ?_
      refine e_st (pc := 737) q83_737 rfl rfl ?_
      refine e_st (pc := 739) q83_739 rfl rfl ?_
      refine e_clone (pc := 741) q83_741 ar6 rfl ?_
      have an := c_ar.new h1 n rw
      refine e_cast (pc := 744) q83_744 an ?_
      refine e_aast (pc := 747) (j := many) q83_747 (hk.1.gw (c_gw.app h1 _) (by simp)) an rfl (by omega) (by omega) (fun h3 u2 => ?_)
      refine e_inc (pc := 748) (L2 := [some (.retAddr 0), some (.ref 0), some (n_v ↑n), some (n_v rg), some (n_v 1), some (.ref a5), some (.ref a6), some (.ref a7), some (n_v (↑many + 1)), some (n_v ↑it), some (n_v ↑ac), some (n_v ca), some (n_v 0), some (n_v (m_s0 rg ca hd rw (fun t => t) n)), some (n_v (m_mx ca (m_s0 rg ca hd rw (fun t => t) n) hd rw (fun t => t) n)), some (n_v (m_ld ca (m_s0 rg ca hd rw (fun t => t) n) hd rw (fun t => t) n)), some (.ref a16), some (n_v 1), x18, x19, x20, x21, x22]) q83_748 rfl rfl ?_
      refine e_st (pc := 751) q83_751 rfl rfl ?_
      refine e_st (pc := 753) (L2 := [some (.retAddr 0), some (.ref 0), some (n_v ↑n), some (n_v rg), some (n_v 1), some (.ref a5), some (.ref a16), some (.ref a7), some (n_v (↑many + 1)), some (n_v ↑it), some (n_v ↑ac), some (n_v ca), some (n_v 0), some (n_v (m_s0 rg ca hd rw (fun t => t) n)), some (n_v (m_mx ca (m_s0 rg ca hd rw (fun t => t) n) hd rw (fun t => t) n)), some (n_v (m_ld ca (m_s0 rg ca hd rw (fun t => t) n) hd rw (fun t => t) n)), some (.ref a16), some (n_v 1), x18, x19, x20, x21, x22]) q83_753 rfl rfl ?_
      rw [show (many : Int) + 1 = ((many + 1 : Nat) : Int) by omega]
      rw [show min (many + 1) 8 = many + 1 by omega] at hW
      have hk2 := hk.put bd.1 hS (by simp) u2
      have gp := c_gw.put u2
      refine K h3 _ a16 th _ _ _ _ _ _ _ _ _ _ _ _ _ ⟨⟨hn, hrg, by omega, ⟨by omega, by omega, by omega⟩, ⟨by omega, by omega, by omega⟩, fun i hi => ?_⟩, ar5.gw gp (by simp; omega), ar16.gw gp (by simp; omega), hk2.1, fun i hi => (hk2.2 i hi).1, cf, bf2, _, hW.gw gp (by simp; omega), fun t ht => ⟨(hx t ht).1, hb3 t ht⟩, fun j j1 j2 t ht => ?_⟩ ((bd.put u2).mono (by omega) (by omega))
      · have q1 := (hk2.2 i hi).2
        simp only [List.mem_cons, List.not_mem_nil, or_false, not_or] at q1
        exact ⟨q1.1, q1.2.1, q1.2.2.2.2, q1.2.2.2.1⟩
      · by_cases e1 : j = 1
        · simp only [if_pos e1]
          rw [if_pos (by omega)]
          exact (hx t ht).2
        · simp only [if_neg e1]
          rw [if_neg (by omega)]
          rw [show many + 1 - j = many - (j - 1) by omega]
          exact hH (j - 1) (by omega) (by omega) t ht
  · refine e_st (pc := 626) q83_626 rfl rfl ?_
    refine e_st (pc := 628) q83_628 rfl rfl ?_
    refine e_cmp true (pc := 630) q83_630 ⟨by omega, by omega⟩ ⟨by omega, by omega⟩ (n_t_ne (by omega)) ?_
    refine e_cst (v := 0) (len := 1) (pc := 637) q83_637 rfl rfl rfl ?_
    refine e_st (pc := 638) (L2 := [some (.retAddr 0), some (.ref 0), some (n_v ↑n), some (n_v rg), some (n_v 1), some (.ref a5), some (.ref a6), some (.ref a7), some (n_v ↑many), some (n_v ↑it), some (n_v ↑ac), some (n_v ca), some (n_v 0), some (n_v (m_s0 rg ca hd rw (fun t => t) n)), some (n_v (m_mx ca (m_s0 rg ca hd rw (fun t => t) n) hd rw (fun t => t) n)), some (n_v (m_ld ca (m_s0 rg ca hd rw (fun t => t) n) hd rw (fun t => t) n)), some (.ref a16), some (n_v 0), x18, x19, x20, x21, x22]) q83_638 rfl rfl ?_
    refine e_st (pc := 640) q83_640 rfl rfl ?_
    refine e_st (pc := 642) q83_642 rfl rfl ?_
    refine e_if true (pc := 644) q83_644 ⟨by omega, by omega⟩ (n_t_eq (by omega)) ?_
    refine e_st (pc := 656) q83_656 rfl rfl ?_
    refine e_st (pc := 657) q83_657 rfl rfl ?_
    refine e_callS (pc := 659) (mz := c_m73) (L0 := [some (.ref 0), some (n_v ca), none]) (rest := [n_v 1]) q83_659 rfl rfl rfl rfl rfl rfl rfl rfl rfl ?_
    refine s73 hW (by omega) (fun e1 => absurd hca e1) (fun _ _ _ h1 x1 hW => ?_) (fun _ _ e1 => by rw [eS, m_ld_eq (cf2 := hd) (bf2 := rw) hxo n (Nat.le_refl n)] at e1; exact absurd e1 hpass)
    refine e_k (pc := 659) ?_
    refine e_st (pc := 662) q83_662 rfl rfl ?_
    refine e_if true (pc := 664) q83_664 ⟨by omega, by omega⟩ (n_t_eq (by omega)) ?_
    refine e_cst (v := -900002) (len := 2) (pc := 672) q83_672 rfl rfl (by decide +kernel) ?_
    refine e_cmp false (pc := 674) q83_674 ⟨by omega, by omega⟩ ⟨by omega, by omega⟩ (n_f_ne (by omega)) ?_
    refine e_cst (v := 1) (len := 1) (pc := 677) q83_677 rfl rfl rfl ?_
    refine e_st (pc := 678) q83_678 rfl rfl ?_
    refine e_and1 (pc := 682) q83_682 ?_
    refine e_st (pc := 683) (L2 := [some (.retAddr 0), some (.ref 0), some (n_v ↑n), some (n_v rg), some (n_v 1), some (.ref a5), some (.ref a6), some (.ref a7), some (n_v ↑many), some (n_v ↑it), some (n_v ↑ac), some (n_v ca), some (n_v 0), some (n_v (m_s0 rg ca hd rw (fun t => t) n)), some (n_v (m_mx ca (m_s0 rg ca hd rw (fun t => t) n) hd rw (fun t => t) n)), some (n_v (m_ld ca (m_s0 rg ca hd rw (fun t => t) n) hd rw (fun t => t) n)), some (.ref a16), some (n_v 0), x18, x19, x20, x21, x22]) q83_683 rfl rfl ?_
    refine e_st (pc := 685) q83_685 rfl rfl ?_
    refine e_if true (pc := 687) q83_687 ⟨by omega, by omega⟩ (n_t_eq (by omega)) ?_
    have hgw : c_gw h h1 m_W := x1.gw
    have hno : ∀ q, 58 ≤ q → q ∉ m_W := fun q h1 h2 => by simp [m_W] at h2; omega
    exact K h1 many a6 rw g kr _ _ _ _ _ _ _ _ _ _ _ ⟨⟨hn, hrg, hmany, h58, hdis, hg⟩, ar5.gw hgw (hno _ (by omega)), ar6.gw hgw (hno _ (by omega)), aa.gw hgw (hno _ (by omega)), fun i hi => (ak i hi).gw hgw (hno _ (hg i hi).1), cf, bf, H, hW, hx, hH⟩ ((bd.xt x1).mono (by omega) (by omega))
theorem s83vb {n : Nat} {rg ca : Int} {many it ac a5 a6 a7 a16 N M : Nat} {hd rw th : Nat → Int} {g : Nat → Nat} {kr : Nat → Nat → Int} {x18 x19 x20 x21 x22 : Option Value} (hI : m_I h n rg many a5 a6 a7 hd rw g kr) (bd : m_bd h N M) (hca : 1 ≤ ca ∧ ca ≤ 99) (ar16 : c_ar h a16 n th) (hth : ∀ t, t < n → th (n - 1 - t) = m_lb ca (m_ld ca (m_s0 rg ca hd rw (fun t => n - 1 - t) n) hd rw (fun t => n - 1 - t) t) (hd (n - 1 - t)) (rw (n - 1 - t))) (h16 : 58 ≤ a16 ∧ a16 ≠ a5 ∧ a16 ≠ a6 ∧ a16 ≠ a7 ∧ ∀ i, i < 8 → g i ≠ a16)
    (K : ∀ (h1 : c_Hp) (many' a6' : Nat) (rw' : Nat → Int) (g' : Nat → Nat) (kr' : Nat → Nat → Int) (x12 x13 x14 x15 x16 x17 x18 x19 x20 x21 x22 : Option Value), m_I h1 n rg many' a5 a6' a7 hd rw' g' kr' → m_bd h1 (N + 8) (M + 192) → c_Ev X 83 755 [some (.retAddr 0), some (.ref 0), some (n_v ↑n), some (n_v rg), some (n_v 1), some (.ref a5), some (.ref a6'), some (.ref a7), some (n_v ↑many'), some (n_v ↑it), some (n_v ↑ac), some (n_v ca), x12, x13, x14, x15, x16, x17, x18, x19, x20, x21, x22] [] h1 Q) :
    c_Ev X 83 626 [some (.retAddr 0), some (.ref 0), some (n_v ↑n), some (n_v rg), some (n_v 1), some (.ref a5), some (.ref a6), some (.ref a7), some (n_v ↑many), some (n_v ↑it), some (n_v ↑ac), some (n_v ca), some (n_v 1), some (n_v (m_s0 rg ca hd rw (fun t => n - 1 - t) n)), some (n_v (m_mx ca (m_s0 rg ca hd rw (fun t => n - 1 - t) n) hd rw (fun t => n - 1 - t) n)), some (n_v (m_ld ca (m_s0 rg ca hd rw (fun t => n - 1 - t) n) hd rw (fun t => n - 1 - t) n)), some (.ref a16), some (n_v 2), x18, x19, x20, x21, x22] [] h Q := by
  have hrow := hI.rows
  have hlt := hI.lt
  have l16 := c_at_lt ar16
  obtain ⟨⟨hn, hrg, hmany, h58, hdis, hg⟩, ar5, ar6, aa, ak, cf, bf, H, hW, hx, hH⟩ := id hI
  have hk : m_K h a7 n g kr [a5, a6, a7, a16] := ⟨aa, fun i hi => ⟨ak i hi, (hg i hi).1, by
    have h1 := hg i hi
    have h2 := h16.2.2.2.2 i hi
    simp
    omega⟩⟩
  have hb2 : ∀ t, t < n → 0 ≤ rw (n - 1 - t) ∧ rw (n - 1 - t) ≤ hd (n - 1 - t) := fun t ht => by have := hrow (n - 1 - t) (by omega); omega
  have hxo : ∀ t, t < n → cf ((fun t => n - 1 - t) t) = hd ((fun t => n - 1 - t) t) ∧ bf ((fun t => n - 1 - t) t) = rw ((fun t => n - 1 - t) t) := fun t ht => hx (n - 1 - t) (by omega)
  have eS : m_s0 rg ca cf bf (fun t => n - 1 - t) n = (m_s0 rg ca hd rw (fun t => n - 1 - t) n) := by
    unfold m_s0
    rw [m_ld_eq (cf2 := hd) (bf2 := rw) hxo n (Nat.le_refl n)]
  have hs0 : 0 ≤ (m_s0 rg ca hd rw (fun t => n - 1 - t) n) ∧ (m_s0 rg ca hd rw (fun t => n - 1 - t) n) ≤ ca := by
    unfold m_s0
    split
    · exact m_ld_b (n := n) (o := (fun t => n - 1 - t)) ⟨by omega, by omega⟩ hb2 n (Nat.le_refl n)
    · omega
  have hbl := m_ld_b (n := n) (o := (fun t => n - 1 - t)) hs0 hb2 n (Nat.le_refl n)
  have hbm := m_mx_b (n := n) (o := (fun t => n - 1 - t)) hs0 hb2 n (Nat.le_refl n)
  by_cases hpass : m_ld ca (m_s0 rg ca hd rw (fun t => n - 1 - t) n) hd rw (fun t => n - 1 - t) n = (m_s0 rg ca hd rw (fun t => n - 1 - t) n)
  · refine e_st (pc := 626) q83_626 rfl rfl ?_
    refine e_st (pc := 628) q83_628 rfl rfl ?_
    refine e_cmp false (pc := 630) q83_630 ⟨by omega, by omega⟩ ⟨by omega, by omega⟩ (n_f_ne (by omega)) ?_
    refine e_cst (v := 1) (len := 1) (pc := 633) q83_633 rfl rfl rfl ?_
    refine e_st (pc := 634) q83_634 rfl rfl ?_
    refine e_st (pc := 638) (L2 := [some (.retAddr 0), some (.ref 0), some (n_v ↑n), some (n_v rg), some (n_v 1), some (.ref a5), some (.ref a6), some (.ref a7), some (n_v ↑many), some (n_v ↑it), some (n_v ↑ac), some (n_v ca), some (n_v 1), some (n_v (m_s0 rg ca hd rw (fun t => n - 1 - t) n)), some (n_v (m_mx ca (m_s0 rg ca hd rw (fun t => n - 1 - t) n) hd rw (fun t => n - 1 - t) n)), some (n_v (m_ld ca (m_s0 rg ca hd rw (fun t => n - 1 - t) n) hd rw (fun t => n - 1 - t) n)), some (.ref a16), some (n_v 1), x18, x19, x20, x21, x22]) q83_638 rfl rfl ?_
    refine e_st (pc := 640) q83_640 rfl rfl ?_
    refine e_st (pc := 642) q83_642 rfl rfl ?_
    refine e_if false (pc := 644) q83_644 ⟨by omega, by omega⟩ (n_f_eq (by omega)) ?_
    refine e_st (pc := 647) q83_647 rfl rfl ?_
    refine e_st (pc := 648) q83_648 rfl rfl ?_
    refine e_callS (pc := 650) (mz := c_m74) (L0 := [some (.ref 0), some (n_v ca), none]) (rest := [n_v 1]) q83_650 rfl rfl rfl rfl rfl rfl rfl rfl rfl ?_
    refine s74 hW (by omega) (fun e1 => absurd hca e1) (fun _ _ e1 => by rw [eS, m_ld_eq (cf2 := hd) (bf2 := rw) hxo n (Nat.le_refl n)] at e1; exact absurd hpass e1) (fun _ _ _ h1 bf2 x1 hbf2 hW => ?_)
    refine e_k (pc := 650) ?_
    rw [eS, m_mx_eq (cf2 := hd) (bf2 := rw) hxo n (Nat.le_refl n)]
    have bd := bd.xt x1
    have ar5 := ar5.xt x1 (by simp; omega)
    have ar6 := ar6.xt x1 (by simp; omega)
    have ar16 := ar16.xt x1 (by simp; omega)
    have hk := hk.gw x1.gw (by omega) (by intro q hq; simpa using hq)
    have hS : ∀ q ∈ [a5, a6, a7, a16], q < h1.length := by
      intro q hq
      rw [x1.1]
      simp at hq
      omega
    have hb3 : ∀ t, t < n → bf2 t = th t := by
      intro t ht
      have e1 := hbf2 t ht
      have e2 := hth (n - 1 - t) (by omega)
      rw [show n - 1 - (n - 1 - t) = t by omega] at e2
      rw [e1, e2, eS, m_ld_eq (cf2 := hd) (bf2 := rw) hxo (n - 1 - t) (by omega), (hx t ht).1, (hx t ht).2]
    refine e_st (pc := 653) q83_653 rfl rfl ?_
    refine e_st (pc := 662) q83_662 rfl rfl ?_
    refine e_if false (pc := 664) q83_664 ⟨by omega, by omega⟩ (n_f_eq (by omega)) ?_
    refine e_st (pc := 667) q83_667 rfl rfl ?_
    refine e_st (pc := 669) q83_669 rfl rfl ?_
    refine e_cmp false (pc := 674) q83_674 ⟨by omega, by omega⟩ ⟨by omega, by omega⟩ (n_f_ne (fun e1 => e1 rfl)) ?_
    refine e_cst (v := 1) (len := 1) (pc := 677) q83_677 rfl rfl rfl ?_
    refine e_st (pc := 678) q83_678 rfl rfl ?_
    refine e_and1 (pc := 682) q83_682 ?_
    refine e_st (pc := 683) (L2 := [some (.retAddr 0), some (.ref 0), some (n_v ↑n), some (n_v rg), some (n_v 1), some (.ref a5), some (.ref a6), some (.ref a7), some (n_v ↑many), some (n_v ↑it), some (n_v ↑ac), some (n_v ca), some (n_v 1), some (n_v (m_s0 rg ca hd rw (fun t => n - 1 - t) n)), some (n_v (m_mx ca (m_s0 rg ca hd rw (fun t => n - 1 - t) n) hd rw (fun t => n - 1 - t) n)), some (n_v (m_ld ca (m_s0 rg ca hd rw (fun t => n - 1 - t) n) hd rw (fun t => n - 1 - t) n)), some (.ref a16), some (n_v 1), x18, x19, x20, x21, x22]) q83_683 rfl rfl ?_
    refine e_st (pc := 685) q83_685 rfl rfl ?_
    refine e_if false (pc := 687) q83_687 ⟨by omega, by omega⟩ (n_f_eq (by omega)) ?_
    refine e_st (pc := 690) q83_690 rfl rfl ?_
    refine e_cst (v := 8) (len := 2) (pc := 692) q83_692 rfl rfl (by decide +kernel) ?_
    by_cases hm8 : many = 8
    · subst hm8
      refine e_cmp false (pc := 694) q83_694 ⟨by omega, by omega⟩ ⟨by omega, by omega⟩ (n_f_ne (fun e1 => e1 rfl)) ?_
      refine e_cst (v := 0) (len := 1) (pc := 697) q83_697 rfl rfl rfl ?_
      refine e_st (pc := 698) (L2 := [some (.retAddr 0), some (.ref 0), some (n_v ↑n), some (n_v rg), some (n_v 1), some (.ref a5), some (.ref a6), some (.ref a7), some (n_v 8), some (n_v ↑it), some (n_v ↑ac), some (n_v ca), some (n_v 1), some (n_v (m_s0 rg ca hd rw (fun t => n - 1 - t) n)), some (n_v (m_mx ca (m_s0 rg ca hd rw (fun t => n - 1 - t) n) hd rw (fun t => n - 1 - t) n)), some (n_v (m_ld ca (m_s0 rg ca hd rw (fun t => n - 1 - t) n) hd rw (fun t => n - 1 - t) n)), some (.ref a16), some (n_v 1), some (n_v 0), x19, x20, x21, x22]) q83_698 rfl rfl ?_
      refine s83s (h := h1) (S := [a5, a6, a7, a16]) (kr0 := kr) (N := N) (M := M) (by omega) (by simp) (by intro q hq; simp at hq; omega) (fun h2 g2 kr2 gw2 bd2 hk2 hs2 => ?_) 7 0 h1 g kr (by omega) (c_gw.rf _ _) (bd.mono (by omega) (by omega)) hk hS (fun i hi => by omega) (fun i _ _ => rfl)
      have ar5 := ar5.gw gw2 (by simp; omega)
      have ar6 := ar6.gw gw2 (by simp; omega)
      have ar16 := ar16.gw gw2 (by simp; omega)
      have hW := hW.gw gw2 (by simp; omega)
      have hS : ∀ q ∈ [a5, a6, a7, a16], q < h2.length := fun q hq => Nat.lt_of_lt_of_le (hS q hq) gw2.1
      have hk := hk2
      have bd := bd2
      refine e_cst (v := 7) (len := 2) (pc := 731) q83_731 rfl rfl (by decide +kernel) ?_
      refine e_st (pc := 733) (L2 := [some (.retAddr 0), some (.ref 0), some (n_v ↑n), some (n_v rg), some (n_v 1), some (.ref a5), some (.ref a6), some (.ref a7), some (n_v 7), some (n_v ↑it), some (n_v ↑ac), some (n_v ca), some (n_v 1), some (n_v (m_s0 rg ca hd rw (fun t => n - 1 - t) n)), some (n_v (m_mx ca (m_s0 rg ca hd rw (fun t => n - 1 - t) n) hd rw (fun t => n - 1 - t) n)), some (n_v (m_ld ca (m_s0 rg ca hd rw (fun t => n - 1 - t) n) hd rw (fun t => n - 1 - t) n)), some (.ref a16), some (n_v 1), some (n_v ((7 : Nat) : Int)), x19, x20, x21, x22]) q83_733 rfl rfl ?_
      refine e_st (pc := 735) q83_735 rfl rfl ?_
      refine e_st (pc := 737) q83_737 rfl rfl ?_
      refine e_st (pc := 739) q83_739 rfl rfl ?_
      refine e_clone (pc := 741) q83_741 ar6 rfl ?_
      have an := c_ar.new h2 n rw
      refine e_cast (pc := 744) q83_744 an ?_
      refine e_aast (pc := 747) (j := 7) q83_747 (hk.1.gw (c_gw.app h2 _) (by simp)) an rfl (by omega) (by omega) (fun h3 u2 => ?_)
      refine e_inc (pc := 748) (L2 := [some (.retAddr 0), some (.ref 0), some (n_v ↑n), some (n_v rg), some (n_v 1), some (.ref a5), some (.ref a6), some (.ref a7), some (n_v (((7 : Nat) : Int) + 1)), some (n_v ↑it), some (n_v ↑ac), some (n_v ca), some (n_v 1), some (n_v (m_s0 rg ca hd rw (fun t => n - 1 - t) n)), some (n_v (m_mx ca (m_s0 rg ca hd rw (fun t => n - 1 - t) n) hd rw (fun t => n - 1 - t) n)), some (n_v (m_ld ca (m_s0 rg ca hd rw (fun t => n - 1 - t) n) hd rw (fun t => n - 1 - t) n)), some (.ref a16), some (n_v 1), some (n_v ((7 : Nat) : Int)), x19, x20, x21, x22]) q83_748 rfl rfl ?_
      refine e_st (pc := 751) q83_751 rfl rfl ?_
      refine e_st (pc := 753) (L2 := [some (.retAddr 0), some (.ref 0), some (n_v ↑n), some (n_v rg), some (n_v 1), some (.ref a5), some (.ref a16), some (.ref a7), some (n_v (((7 : Nat) : Int) + 1)), some (n_v ↑it), some (n_v ↑ac), some (n_v ca), some (n_v 1), some (n_v (m_s0 rg ca hd rw (fun t => n - 1 - t) n)), some (n_v (m_mx ca (m_s0 rg ca hd rw (fun t => n - 1 - t) n) hd rw (fun t => n - 1 - t) n)), some (n_v (m_ld ca (m_s0 rg ca hd rw (fun t => n - 1 - t) n) hd rw (fun t => n - 1 - t) n)), some (.ref a16), some (n_v 1), some (n_v ((7 : Nat) : Int)), x19, x20, x21, x22]) q83_753 rfl rfl ?_
      rw [show ((7 : Nat) : Int) + 1 = ((8 : Nat) : Int) by omega]
      have hk2 := hk.put bd.1 hS (by simp) u2
      have gp := c_gw.put u2
      refine K h3 _ a16 th _ _ _ _ _ _ _ _ _ _ _ _ _ ⟨⟨hn, hrg, by omega, ⟨by omega, by omega, by omega⟩, ⟨by omega, by omega, by omega⟩, fun i hi => ?_⟩, ar5.gw gp (by simp; omega), ar16.gw gp (by simp; omega), hk2.1, fun i hi => (hk2.2 i hi).1, cf, bf2, _, hW.gw gp (by simp; omega), fun t ht => ⟨(hx t ht).1, hb3 t ht⟩, fun j j1 j2 t ht => ?_⟩ ((bd.put u2).mono (by omega) (by omega))
      · have q1 := (hk2.2 i hi).2
        simp only [List.mem_cons, List.not_mem_nil, or_false, not_or] at q1
        exact ⟨q1.1, q1.2.1, q1.2.2.2.2, q1.2.2.2.1⟩
      · by_cases e1 : j = 1
        · simp only [if_pos e1]
          rw [if_pos (by omega)]
          exact (hx t ht).2
        · simp only [if_neg e1]
          rw [if_neg (by omega)]
          rw [show 8 - j = 8 - j from rfl, hs2 (8 - j) (by omega), show 8 - j + 1 = 8 - (j - 1) by omega]
          exact hH (j - 1) (by omega) (by omega) t ht
    · refine e_cmp true (pc := 694) q83_694 ⟨by omega, by omega⟩ ⟨by omega, by omega⟩ (n_t_ne (by omega)) ?_
      refine e_st (pc := 735) q83_735 rfl rfl ?_
      refine e_st (pc := 737) q83_737 rfl rfl ?_
      refine e_st (pc := 739) q83_739 rfl rfl ?_
      refine e_clone (pc := 741) q83_741 ar6 rfl ?_
      have an := c_ar.new h1 n rw
      refine e_cast (pc := 744) q83_744 an ?_
      refine e_aast (pc := 747) (j := many) q83_747 (hk.1.gw (c_gw.app h1 _) (by simp)) an rfl (by omega) (by omega) (fun h3 u2 => ?_)
      refine e_inc (pc := 748) (L2 := [some (.retAddr 0), some (.ref 0), some (n_v ↑n), some (n_v rg), some (n_v 1), some (.ref a5), some (.ref a6), some (.ref a7), some (n_v (↑many + 1)), some (n_v ↑it), some (n_v ↑ac), some (n_v ca), some (n_v 1), some (n_v (m_s0 rg ca hd rw (fun t => n - 1 - t) n)), some (n_v (m_mx ca (m_s0 rg ca hd rw (fun t => n - 1 - t) n) hd rw (fun t => n - 1 - t) n)), some (n_v (m_ld ca (m_s0 rg ca hd rw (fun t => n - 1 - t) n) hd rw (fun t => n - 1 - t) n)), some (.ref a16), some (n_v 1), x18, x19, x20, x21, x22]) q83_748 rfl rfl ?_
      refine e_st (pc := 751) q83_751 rfl rfl ?_
      refine e_st (pc := 753) (L2 := [some (.retAddr 0), some (.ref 0), some (n_v ↑n), some (n_v rg), some (n_v 1), some (.ref a5), some (.ref a16), some (.ref a7), some (n_v (↑many + 1)), some (n_v ↑it), some (n_v ↑ac), some (n_v ca), some (n_v 1), some (n_v (m_s0 rg ca hd rw (fun t => n - 1 - t) n)), some (n_v (m_mx ca (m_s0 rg ca hd rw (fun t => n - 1 - t) n) hd rw (fun t => n - 1 - t) n)), some (n_v (m_ld ca (m_s0 rg ca hd rw (fun t => n - 1 - t) n) hd rw (fun t => n - 1 - t) n)), some (.ref a16), some (n_v 1), x18, x19, x20, x21, x22]) q83_753 rfl rfl ?_
      rw [show (many : Int) + 1 = ((many + 1 : Nat) : Int) by omega]
      rw [show min (many + 1) 8 = many + 1 by omega] at hW
      have hk2 := hk.put bd.1 hS (by simp) u2
      have gp := c_gw.put u2
      refine K h3 _ a16 th _ _ _ _ _ _ _ _ _ _ _ _ _ ⟨⟨hn, hrg, by omega, ⟨by omega, by omega, by omega⟩, ⟨by omega, by omega, by omega⟩, fun i hi => ?_⟩, ar5.gw gp (by simp; omega), ar16.gw gp (by simp; omega), hk2.1, fun i hi => (hk2.2 i hi).1, cf, bf2, _, hW.gw gp (by simp; omega), fun t ht => ⟨(hx t ht).1, hb3 t ht⟩, fun j j1 j2 t ht => ?_⟩ ((bd.put u2).mono (by omega) (by omega))
      · have q1 := (hk2.2 i hi).2
        simp only [List.mem_cons, List.not_mem_nil, or_false, not_or] at q1
        exact ⟨q1.1, q1.2.1, q1.2.2.2.2, q1.2.2.2.1⟩
      · by_cases e1 : j = 1
        · simp only [if_pos e1]
          rw [if_pos (by omega)]
          exact (hx t ht).2
        · simp only [if_neg e1]
          rw [if_neg (by omega)]
          rw [show many + 1 - j = many - (j - 1) by omega]
          exact hH (j - 1) (by omega) (by omega) t ht
  · refine e_st (pc := 626) q83_626 rfl rfl ?_
    refine e_st (pc := 628) q83_628 rfl rfl ?_
    refine e_cmp true (pc := 630) q83_630 ⟨by omega, by omega⟩ ⟨by omega, by omega⟩ (n_t_ne (by omega)) ?_
    refine e_cst (v := 0) (len := 1) (pc := 637) q83_637 rfl rfl rfl ?_
    refine e_st (pc := 638) (L2 := [some (.retAddr 0), some (.ref 0), some (n_v ↑n), some (n_v rg), some (n_v 1), some (.ref a5), some (.ref a6), some (.ref a7), some (n_v ↑many), some (n_v ↑it), some (n_v ↑ac), some (n_v ca), some (n_v 1), some (n_v (m_s0 rg ca hd rw (fun t => n - 1 - t) n)), some (n_v (m_mx ca (m_s0 rg ca hd rw (fun t => n - 1 - t) n) hd rw (fun t => n - 1 - t) n)), some (n_v (m_ld ca (m_s0 rg ca hd rw (fun t => n - 1 - t) n) hd rw (fun t => n - 1 - t) n)), some (.ref a16), some (n_v 0), x18, x19, x20, x21, x22]) q83_638 rfl rfl ?_
    refine e_st (pc := 640) q83_640 rfl rfl ?_
    refine e_st (pc := 642) q83_642 rfl rfl ?_
    refine e_if false (pc := 644) q83_644 ⟨by omega, by omega⟩ (n_f_eq (by omega)) ?_
    refine e_st (pc := 647) q83_647 rfl rfl ?_
    refine e_st (pc := 648) q83_648 rfl rfl ?_
    refine e_callS (pc := 650) (mz := c_m74) (L0 := [some (.ref 0), some (n_v ca), none]) (rest := [n_v 1]) q83_650 rfl rfl rfl rfl rfl rfl rfl rfl rfl ?_
    refine s74 hW (by omega) (fun e1 => absurd hca e1) (fun _ _ _ h1 x1 hW => ?_) (fun _ _ e1 => by rw [eS, m_ld_eq (cf2 := hd) (bf2 := rw) hxo n (Nat.le_refl n)] at e1; exact absurd e1 hpass)
    refine e_k (pc := 650) ?_
    refine e_st (pc := 653) q83_653 rfl rfl ?_
    refine e_st (pc := 662) q83_662 rfl rfl ?_
    refine e_if true (pc := 664) q83_664 ⟨by omega, by omega⟩ (n_t_eq (by omega)) ?_
    refine e_cst (v := -900002) (len := 2) (pc := 672) q83_672 rfl rfl (by decide +kernel) ?_
    refine e_cmp false (pc := 674) q83_674 ⟨by omega, by omega⟩ ⟨by omega, by omega⟩ (n_f_ne (by omega)) ?_
    refine e_cst (v := 1) (len := 1) (pc := 677) q83_677 rfl rfl rfl ?_
    refine e_st (pc := 678) q83_678 rfl rfl ?_
    refine e_and1 (pc := 682) q83_682 ?_
    refine e_st (pc := 683) (L2 := [some (.retAddr 0), some (.ref 0), some (n_v ↑n), some (n_v rg), some (n_v 1), some (.ref a5), some (.ref a6), some (.ref a7), some (n_v ↑many), some (n_v ↑it), some (n_v ↑ac), some (n_v ca), some (n_v 1), some (n_v (m_s0 rg ca hd rw (fun t => n - 1 - t) n)), some (n_v (m_mx ca (m_s0 rg ca hd rw (fun t => n - 1 - t) n) hd rw (fun t => n - 1 - t) n)), some (n_v (m_ld ca (m_s0 rg ca hd rw (fun t => n - 1 - t) n) hd rw (fun t => n - 1 - t) n)), some (.ref a16), some (n_v 0), x18, x19, x20, x21, x22]) q83_683 rfl rfl ?_
    refine e_st (pc := 685) q83_685 rfl rfl ?_
    refine e_if true (pc := 687) q83_687 ⟨by omega, by omega⟩ (n_t_eq (by omega)) ?_
    have hgw : c_gw h h1 m_W := x1.gw
    have hno : ∀ q, 58 ≤ q → q ∉ m_W := fun q h1 h2 => by simp [m_W] at h2; omega
    exact K h1 many a6 rw g kr _ _ _ _ _ _ _ _ _ _ _ ⟨⟨hn, hrg, hmany, h58, hdis, hg⟩, ar5.gw hgw (hno _ (by omega)), ar6.gw hgw (hno _ (by omega)), aa.gw hgw (hno _ (by omega)), fun i hi => (ak i hi).gw hgw (hno _ (hg i hi).1), cf, bf, H, hW, hx, hH⟩ ((bd.xt x1).mono (by omega) (by omega))
end Ms
