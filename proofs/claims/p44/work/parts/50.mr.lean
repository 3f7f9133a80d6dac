/-! A turn of the great loop: what is looked at. The whole law. -/
section Ms
variable {X : List Int32} {h : c_Hp} {Q : c_O × c_Hp → Prop}
theorem m_sum_eq {f g : Nat → Int} : ∀ n : Nat, (∀ t, t < n → f t = g t) → m_sum n f = m_sum n g
  | 0, _ => rfl
  | n + 1, h => by rw [m_sum, m_sum, m_sum_eq n (fun t ht => h t (by omega)), h n (by omega)]
theorem m_cnt_eq {f g : Nat → Bool} : ∀ n : Nat, (∀ t, t < n → f t = g t) → m_cnt n f = m_cnt n g
  | 0, _ => rfl
  | n + 1, h => by rw [m_cnt, m_cnt, m_cnt_eq n (fun t ht => h t (by omega)), h n (by omega)]
theorem m_sum_b {f : Nat → Int} : ∀ n : Nat, (∀ t, t < n → 0 ≤ f t ∧ f t ≤ 4) → 0 ≤ m_sum n f ∧ m_sum n f ≤ 4 * n
  | 0, _ => by simp [m_sum]
  | n + 1, h => by
    have h1 := m_sum_b n (fun t ht => h t (by omega))
    have h2 := h n (by omega)
    rw [m_sum]
    omega
theorem s83y {n : Nat} {rg : Int} {many it a5 a6 a7 : Nat} {hd rw : Nat → Int} {g : Nat → Nat} {kr : Nat → Nat → Int} {y10 y11 : Int} {x15 x16 x17 x18 x19 x20 x21 x22 : Option Value} (hI : m_I h n rg many a5 a6 a7 hd rw g kr)
    (K : c_Ev X 83 828 [some (.retAddr 0), some (.ref 0), some (n_v ↑n), some (n_v rg), some (n_v 1), some (.ref a5), some (.ref a6), some (.ref a7), some (n_v ↑many), some (n_v ↑it), some (n_v y10), some (n_v y11), some (n_v (m_sum n rw)), some (n_v (m_cnt n (fun t => decide (0 < rw t)))), some (n_v ↑n), x15, x16, x17, x18, x19, x20, x21, x22] [] h Q) :
  ∀ (m v : Nat), v + m = n → c_Ev X 83 764 [some (.retAddr 0), some (.ref 0), some (n_v ↑n), some (n_v rg), some (n_v 1), some (.ref a5), some (.ref a6), some (.ref a7), some (n_v ↑many), some (n_v ↑it), some (n_v y10), some (n_v y11), some (n_v (m_sum v rw)), some (n_v (m_cnt v (fun t => decide (0 < rw t)))), some (n_v ↑v), x15, x16, x17, x18, x19, x20, x21, x22] [] h Q
  | 0, v, e => by
    have hrow := hI.rows
    obtain ⟨⟨hn, hrg, hmany, h58, hdis, hg⟩, ar5, ar6, aa, ak, cf, bf, H, hW, hx, hH⟩ := id hI
    refine e_st (pc := 764) q83_764 rfl rfl ?_
    refine e_st (pc := 766) q83_766 rfl rfl ?_
    refine e_cmp true (pc := 767) q83_767 ⟨by omega, by omega⟩ ⟨by omega, by omega⟩ (n_t_ge (by omega)) ?_
    have e2 : v = n := by omega
    subst e2
    exact K
  | m + 1, v, e => by
    have hrow := hI.rows
    obtain ⟨⟨hn, hrg, hmany, h58, hdis, hg⟩, ar5, ar6, aa, ak, cf, bf, H, hW, hx, hH⟩ := id hI
    have hv := hrow v (by omega)
    have ih := s83y hI K m (v + 1) (by omega)
    refine e_st (pc := 764) q83_764 rfl rfl ?_
    refine e_st (pc := 766) q83_766 rfl rfl ?_
    refine e_cmp false (pc := 767) q83_767 ⟨by omega, by omega⟩ ⟨by omega, by omega⟩ (n_f_ge (by omega)) ?_
    refine e_st (pc := 770) q83_770 rfl rfl ?_
    refine e_st (pc := 772) q83_772 rfl rfl ?_
    refine e_st (pc := 773) q83_773 rfl rfl ?_
    refine e_callS (pc := 775) (mz := c_m72) (L0 := [some (.ref 0), some (n_v ↑v), none]) (rest := [n_v 1]) q83_775 rfl rfl rfl rfl rfl rfl rfl rfl rfl ?_
    refine s72 hW ⟨by omega, by omega⟩ (fun j e1 e2 => ?_) (fun e1 => absurd ⟨by omega, by omega⟩ e1)
    refine e_k (pc := 775) ?_
    rw [show bf j = rw v by rw [← (hx v (by omega)).2, show j = v by omega]]
    refine e_st (pc := 778) q83_778 rfl rfl ?_
    refine e_st (pc := 780) q83_780 rfl rfl ?_
    refine e_ald (pc := 782) (j := v) q83_782 ar6 (by omega) (by omega) (by omega) ?_
    refine e_cmp false (pc := 783) q83_783 ⟨by omega, by omega⟩ ⟨by omega, by omega⟩ (n_f_ne (by omega)) ?_
    refine e_cst (v := 1) (len := 1) (pc := 786) q83_786 rfl rfl rfl ?_
    refine e_st (pc := 787) q83_787 rfl rfl ?_
    refine e_and1 (pc := 791) q83_791 ?_
    refine e_st (pc := 792) (L2 := [some (.retAddr 0), some (.ref 0), some (n_v ↑n), some (n_v rg), some (n_v 1), some (.ref a5), some (.ref a6), some (.ref a7), some (n_v ↑many), some (n_v ↑it), some (n_v y10), some (n_v y11), some (n_v (m_sum v rw)), some (n_v (m_cnt v (fun t => decide (0 < rw t)))), some (n_v ↑v), x15, x16, x17, x18, x19, x20, x21, x22]) q83_792 rfl rfl ?_
    refine e_st (pc := 794) q83_794 rfl rfl ?_
    refine e_st (pc := 796) q83_796 rfl rfl ?_
    refine e_st (pc := 798) q83_798 rfl rfl ?_
    refine e_ald (pc := 800) (j := v) q83_800 ar6 (by omega) (by omega) (by omega) ?_
    refine e_add (pc := 801) q83_801 ?_
    rw [show m_sum v rw + rw v = m_sum (v + 1) rw from rfl]
    refine e_st (pc := 802) (L2 := [some (.retAddr 0), some (.ref 0), some (n_v ↑n), some (n_v rg), some (n_v 1), some (.ref a5), some (.ref a6), some (.ref a7), some (n_v ↑many), some (n_v ↑it), some (n_v y10), some (n_v y11), some (n_v (m_sum (v + 1) rw)), some (n_v (m_cnt v (fun t => decide (0 < rw t)))), some (n_v ↑v), x15, x16, x17, x18, x19, x20, x21, x22]) q83_802 rfl rfl ?_
    refine e_st (pc := 804) q83_804 rfl rfl ?_
    refine e_st (pc := 806) q83_806 rfl rfl ?_
    refine e_st (pc := 808) q83_808 rfl rfl ?_
    refine e_ald (pc := 810) (j := v) q83_810 ar6 (by omega) (by omega) (by omega) ?_
    by_cases hc : 0 < rw v
    · refine e_if false (pc := 811) q83_811 ⟨by omega, by omega⟩ (n_f_le (by omega)) ?_
      refine e_cst (v := 1) (len := 1) (pc := 814) q83_814 rfl rfl rfl ?_
      refine e_st (pc := 815) q83_815 rfl rfl ?_
      refine e_add (pc := 819) q83_819 ?_
      refine e_st (pc := 820) (L2 := [some (.retAddr 0), some (.ref 0), some (n_v ↑n), some (n_v rg), some (n_v 1), some (.ref a5), some (.ref a6), some (.ref a7), some (n_v ↑many), some (n_v ↑it), some (n_v y10), some (n_v y11), some (n_v (m_sum (v + 1) rw)), some (n_v ((m_cnt v (fun t => decide (0 < rw t))) + 1)), some (n_v ↑v), x15, x16, x17, x18, x19, x20, x21, x22]) q83_820 rfl rfl ?_
      refine e_inc (pc := 822) (L2 := [some (.retAddr 0), some (.ref 0), some (n_v ↑n), some (n_v rg), some (n_v 1), some (.ref a5), some (.ref a6), some (.ref a7), some (n_v ↑many), some (n_v ↑it), some (n_v y10), some (n_v y11), some (n_v (m_sum (v + 1) rw)), some (n_v ((m_cnt v (fun t => decide (0 < rw t))) + 1)), some (n_v (↑v + 1)), x15, x16, x17, x18, x19, x20, x21, x22]) q83_822 rfl rfl ?_
      refine e_st (pc := 825) q83_825 rfl rfl ?_
      rw [m_cnt_t (f := fun t => decide (0 < rw t)) (decide_eq_true hc)] at ih
      exact ih
    · refine e_if true (pc := 811) q83_811 ⟨by omega, by omega⟩ (n_t_le (by omega)) ?_
      refine e_cst (v := 0) (len := 1) (pc := 818) q83_818 rfl rfl rfl ?_
      refine e_add (pc := 819) q83_819 ?_
      refine e_st (pc := 820) (L2 := [some (.retAddr 0), some (.ref 0), some (n_v ↑n), some (n_v rg), some (n_v 1), some (.ref a5), some (.ref a6), some (.ref a7), some (n_v ↑many), some (n_v ↑it), some (n_v y10), some (n_v y11), some (n_v (m_sum (v + 1) rw)), some (n_v ((m_cnt v (fun t => decide (0 < rw t))) + 0)), some (n_v ↑v), x15, x16, x17, x18, x19, x20, x21, x22]) q83_820 rfl rfl ?_
      refine e_inc (pc := 822) (L2 := [some (.retAddr 0), some (.ref 0), some (n_v ↑n), some (n_v rg), some (n_v 1), some (.ref a5), some (.ref a6), some (.ref a7), some (n_v ↑many), some (n_v ↑it), some (n_v y10), some (n_v y11), some (n_v (m_sum (v + 1) rw)), some (n_v ((m_cnt v (fun t => decide (0 < rw t))) + 0)), some (n_v (↑v + 1)), x15, x16, x17, x18, x19, x20, x21, x22]) q83_822 rfl rfl ?_
      refine e_st (pc := 825) q83_825 rfl rfl ?_
      rw [m_cnt_f (f := fun t => decide (0 < rw t)) (decide_eq_false hc)] at ih
      rw [Int.add_zero]
      exact ih
theorem s83p {n : Nat} {rg : Int} {many it a5 a6 a7 : Nat} {hd rw : Nat → Int} {g : Nat → Nat} {kr : Nat → Nat → Int} {y10 y11 : Int} {x12 : Option Value} {y13 : Int} {N M : Nat} (hX : X.length ≤ 260) (hit : it < 12) (K : ∀ (h1 : c_Hp) (y14 : Int) (x15 x16 x17 x18 x19 x20 x21 x22 : Option Value), m_I h1 n rg many a5 a6 a7 hd rw g kr → m_bd h1 (N + 8) (M + 48) → c_Ev X 83 970 [some (.retAddr 0), some (.ref 0), some (n_v ↑n), some (n_v rg), some (n_v 1), some (.ref a5), some (.ref a6), some (.ref a7), some (n_v ↑many), some (n_v ↑it), some (n_v y10), some (n_v y11), x12, some (n_v y13), some (n_v y14), x15, x16, x17, x18, x19, x20, x21, x22] [] h1 Q) :
  ∀ (m v : Nat) (h1 : c_Hp) (x15 x16 x17 x18 x19 x20 x21 x22 : Option Value), v + m = many + 1 → 1 ≤ v → m_I h1 n rg many a5 a6 a7 hd rw g kr → m_bd h1 (N + (v - 1)) (M + 6 * (v - 1)) → c_Ev X 83 900 [some (.retAddr 0), some (.ref 0), some (n_v ↑n), some (n_v rg), some (n_v 1), some (.ref a5), some (.ref a6), some (.ref a7), some (n_v ↑many), some (n_v ↑it), some (n_v y10), some (n_v y11), x12, some (n_v y13), some (n_v ↑v), x15, x16, x17, x18, x19, x20, x21, x22] [] h1 Q
  | 0, v, h0, x15, x16, x17, x18, x19, x20, x21, x22, e, hv, hI, bd => by
    obtain ⟨⟨hn, hrg, hmany, h58, hdis, hg⟩, ar5, ar6, aa, ak, cf, bf, H, hW, hx, hH⟩ := id hI
    refine e_st (pc := 900) q83_900 rfl rfl ?_
    refine e_st (pc := 902) q83_902 rfl rfl ?_
    refine e_cmp true (pc := 904) q83_904 ⟨by omega, by omega⟩ ⟨by omega, by omega⟩ (n_t_gt (by omega)) ?_
    exact K h0 _ x15 x16 x17 x18 x19 x20 x21 x22 hI (bd.mono (by omega) (by omega))
  | m + 1, v, h0, x15, x16, x17, x18, x19, x20, x21, x22, e, hv, hI, bd => by
    obtain ⟨⟨hn, hrg, hmany, h58, hdis, hg⟩, ar5, ar6, aa, ak, cf, bf, H, hW, hx, hH⟩ := id hI
    have hkr : ∀ t, t < n → H v t = kr (many - v) t := hH v hv (by omega)
    have hb := hW.1.2.2.2.1
    have hHb := hW.1.2.2.2.2 v hv (by omega)
    have akv := ak (many - v) (by omega)
    refine e_st (pc := 900) q83_900 rfl rfl ?_
    refine e_st (pc := 902) q83_902 rfl rfl ?_
    refine e_cmp false (pc := 904) q83_904 ⟨by omega, by omega⟩ ⟨by omega, by omega⟩ (n_f_gt (by omega)) ?_
    refine e_st (pc := 907) q83_907 rfl rfl ?_
    refine e_cst (v := 130) (len := 3) (pc := 908) q83_908 rfl rfl (by decide +kernel) ?_
    refine e_st (pc := 911) q83_911 rfl rfl ?_
    refine e_add (pc := 913) q83_913 ?_
    rw [show (130 : Int) + (it : Int) = ((130 + it : Nat) : Int) by omega]
    refine e_st (pc := 914) q83_914 rfl rfl ?_
    refine e_callS (pc := 915) (mz := c_m78) (L0 := [some (.retAddr 0), some (n_v ((130 + it : Nat) : Int)), some (n_v ↑n)]) (rest := []) q83_915 rfl rfl rfl rfl rfl rfl rfl rfl rfl ?_
    refine s78 (i := 130 + it) (n := n) hX (by omega) (by omega) (fun bx hbx => ?_)
    refine e_k (pc := 915) ?_
    refine e_st (pc := 918) (L2 := [some (.retAddr 0), some (.ref 0), some (n_v ↑n), some (n_v rg), some (n_v 1), some (.ref a5), some (.ref a6), some (.ref a7), some (n_v ↑many), some (n_v ↑it), some (n_v y10), some (n_v y11), x12, some (n_v y13), some (n_v ↑v), some (n_v ↑bx), x16, x17, x18, x19, x20, x21, x22]) q83_918 rfl rfl ?_
    refine e_st (pc := 920) q83_920 rfl rfl ?_
    refine e_st (pc := 922) q83_922 rfl rfl ?_
    refine e_st (pc := 923) q83_923 rfl rfl ?_
    refine e_st (pc := 925) q83_925 rfl rfl ?_
    refine e_callS (pc := 927) (mz := c_m76) (L0 := [some (.ref 0), some (n_v ↑v), some (n_v ↑bx), none]) (rest := [n_v 1]) q83_927 rfl rfl rfl rfl rfl rfl rfl rfl rfl ?_
    refine s76 hW (by omega) (by omega) (fun e1 => absurd ⟨by omega, by omega⟩ e1) (fun e1 _ _ => absurd ⟨by omega, by omega⟩ e1) (fun j t e1 e2 e3 e4 e5 => ?_)
    refine e_k (pc := 927) ?_
    rw [show H j t = kr (many - v) bx by rw [← hkr bx hbx, show j = v by omega, show t = bx by omega]]
    have hHx := hHb bx hbx
    rw [hkr bx hbx] at hHx
    have hcb := hb bx hbx
    refine e_st (pc := 930) q83_930 rfl rfl ?_
    refine e_st (pc := 932) q83_932 rfl rfl ?_
    refine e_st (pc := 934) q83_934 rfl rfl ?_
    refine e_sub (pc := 936) q83_936 ?_
    refine e_aald (pc := 937) (j := many - v) q83_937 aa (by omega) (by omega) (by omega) ?_
    refine e_st (pc := 938) q83_938 rfl rfl ?_
    refine e_ald (pc := 940) (j := bx) q83_940 akv (by omega) (by omega) (by omega) ?_
    refine e_cmp false (pc := 941) q83_941 ⟨by omega, by omega⟩ ⟨by omega, by omega⟩ (n_f_ne (by omega)) ?_
    refine e_st (pc := 944) q83_944 rfl rfl ?_
    refine e_st (pc := 945) q83_945 rfl rfl ?_
    refine e_st (pc := 947) q83_947 rfl rfl ?_
    refine e_callS (pc := 948) (mz := c_m76) (L0 := [some (.ref 0), some (n_v ↑v), some (n_v ↑n), none]) (rest := [n_v 1]) q83_948 rfl rfl rfl rfl rfl rfl rfl rfl rfl ?_
    refine s76 hW (by omega) (by omega) (fun e1 => absurd ⟨by omega, by omega⟩ e1) (fun _ _ _ h1 xx hW => ?_) (fun j t e1 e2 e3 e4 e5 => by omega)
    refine e_k (pc := 948) ?_
    refine e_cst (v := -900002) (len := 2) (pc := 951) q83_951 rfl rfl (by decide +kernel) ?_
    refine e_cmp false (pc := 953) q83_953 ⟨by omega, by omega⟩ ⟨by omega, by omega⟩ (n_f_ne (by omega)) ?_
    refine e_cst (v := 1) (len := 1) (pc := 956) q83_956 rfl rfl rfl ?_
    refine e_st (pc := 957) q83_957 rfl rfl ?_
    refine e_and1 (pc := 961) q83_961 ?_
    refine e_st (pc := 962) (L2 := [some (.retAddr 0), some (.ref 0), some (n_v ↑n), some (n_v rg), some (n_v 1), some (.ref a5), some (.ref a6), some (.ref a7), some (n_v ↑many), some (n_v ↑it), some (n_v y10), some (n_v y11), x12, some (n_v y13), some (n_v ↑v), some (n_v ↑bx), x16, x17, x18, x19, x20, x21, x22]) q83_962 rfl rfl ?_
    refine e_inc (pc := 964) (L2 := [some (.retAddr 0), some (.ref 0), some (n_v ↑n), some (n_v rg), some (n_v 1), some (.ref a5), some (.ref a6), some (.ref a7), some (n_v ↑many), some (n_v ↑it), some (n_v y10), some (n_v y11), x12, some (n_v y13), some (n_v (↑v + 1)), some (n_v ↑bx), x16, x17, x18, x19, x20, x21, x22]) q83_964 rfl rfl ?_
    refine e_st (pc := 967) q83_967 rfl rfl ?_
    exact s83p hX hit K m (v + 1) h1 _ _ _ _ _ _ _ _ (by omega) (by omega) (hI.gw xx.gw (by simp)) ((bd.xt xx).mono (by omega) (by omega))
theorem s83x {n : Nat} {rg : Int} {many it a5 a6 a7 : Nat} {hd rw : Nat → Int} {g : Nat → Nat} {kr : Nat → Nat → Int} {y10 y11 : Int} {N M : Nat} {x12 x13 x14 x15 x16 x17 x18 x19 x20 x21 x22 : Option Value} (hX : X.length ≤ 260) (hit : it < 12) (hI : m_I h n rg many a5 a6 a7 hd rw g kr) (bd : m_bd h N M)
    (K : ∀ (h1 : c_Hp) (x10 x11 x12 x13 x14 x15 x16 x17 x18 x19 x20 x21 x22 : Option Value), m_I h1 n rg many a5 a6 a7 hd rw g kr → m_bd h1 (N + 10) (M + 60) → c_Ev X 83 296 [some (.retAddr 0), some (.ref 0), some (n_v ↑n), some (n_v rg), some (n_v 1), some (.ref a5), some (.ref a6), some (.ref a7), some (n_v ↑many), some (n_v ((it + 1 : Nat) : Int)), x10, x11, x12, x13, x14, x15, x16, x17, x18, x19, x20, x21, x22] [] h1 Q) :
    c_Ev X 83 755 [some (.retAddr 0), some (.ref 0), some (n_v ↑n), some (n_v rg), some (n_v 1), some (.ref a5), some (.ref a6), some (.ref a7), some (n_v ↑many), some (n_v ↑it), some (n_v y10), some (n_v y11), x12, x13, x14, x15, x16, x17, x18, x19, x20, x21, x22] [] h Q := by
  have hrow := hI.rows
  obtain ⟨⟨hn, hrg, hmany, h58, hdis, hg⟩, ar5, ar6, aa, ak, cf, bf, H, hW, hx, hH⟩ := id hI
  have ho := hW.2.1
  have hsum := m_sum_b (f := rw) n (fun t ht => by have := hrow t ht; omega)
  have hcnt := m_cnt_le n (fun t => decide (0 < rw t))
  obtain ⟨F, hF⟩ : ∃ F : Nat, m_cnt n (fun t => decide (0 < rw t)) = (F : Int) := ⟨(m_cnt n (fun t => decide (0 < rw t))).toNat, by omega⟩
  have hsb : m_sum n bf = m_sum n rw := m_sum_eq n (fun t ht => (hx t ht).2)
  have hcb : m_cnt n (fun t => decide (0 < bf t)) = (F : Int) := by rw [← hF]; exact m_cnt_eq n (fun t ht => by rw [(hx t ht).2])
  obtain ⟨f1, f2, f3⟩ := m_share hn (f := F) (by omega)
  refine e_cst (v := 0) (len := 1) (pc := 755) q83_755 rfl rfl rfl ?_
  refine e_st (pc := 756) (L2 := [some (.retAddr 0), some (.ref 0), some (n_v ↑n), some (n_v rg), some (n_v 1), some (.ref a5), some (.ref a6), some (.ref a7), some (n_v ↑many), some (n_v ↑it), some (n_v y10), some (n_v y11), some (n_v 0), x13, x14, x15, x16, x17, x18, x19, x20, x21, x22]) q83_756 rfl rfl ?_
  refine e_cst (v := 0) (len := 1) (pc := 758) q83_758 rfl rfl rfl ?_
  refine e_st (pc := 759) (L2 := [some (.retAddr 0), some (.ref 0), some (n_v ↑n), some (n_v rg), some (n_v 1), some (.ref a5), some (.ref a6), some (.ref a7), some (n_v ↑many), some (n_v ↑it), some (n_v y10), some (n_v y11), some (n_v 0), some (n_v 0), x14, x15, x16, x17, x18, x19, x20, x21, x22]) q83_759 rfl rfl ?_
  refine e_cst (v := 0) (len := 1) (pc := 761) q83_761 rfl rfl rfl ?_
  refine e_st (pc := 762) (L2 := [some (.retAddr 0), some (.ref 0), some (n_v ↑n), some (n_v rg), some (n_v 1), some (.ref a5), some (.ref a6), some (.ref a7), some (n_v ↑many), some (n_v ↑it), some (n_v y10), some (n_v y11), some (n_v 0), some (n_v 0), some (n_v 0), x15, x16, x17, x18, x19, x20, x21, x22]) q83_762 rfl rfl ?_
  refine s83y hI ?_ n 0 (by omega)
  rw [hF]
  refine e_st (pc := 828) q83_828 rfl rfl ?_
  refine e_st (pc := 830) q83_830 rfl rfl ?_
  refine e_callV (pc := 831) (mz := c_m5) (a := 0) (L0 := [some (.ref 0)]) (rest := [n_v 1]) q83_831 rfl rfl rfl rfl rfl rfl rfl ho rfl rfl ?_
  refine s5 hW ?_
  refine e_k (pc := 831) ?_
  rw [hsb]
  refine e_st (pc := 834) q83_834 rfl rfl ?_
  refine e_cmp false (pc := 836) q83_836 ⟨by omega, by omega⟩ ⟨by omega, by omega⟩ (n_f_ne (by omega)) ?_
  refine e_st (pc := 839) q83_839 rfl rfl ?_
  refine e_callV (pc := 840) (mz := c_m9) (a := 0) (L0 := [some (.ref 0)]) (rest := [n_v 1]) q83_840 rfl rfl rfl rfl rfl rfl rfl ho rfl rfl ?_
  refine s9 hW ?_
  refine e_k (pc := 840) ?_
  refine e_st (pc := 843) q83_843 rfl rfl ?_
  refine e_cmp false (pc := 845) q83_845 ⟨by omega, by omega⟩ ⟨by omega, by omega⟩ (n_f_ne (by omega)) ?_
  refine e_st (pc := 848) q83_848 rfl rfl ?_
  refine e_callV (pc := 849) (mz := c_m12) (a := 0) (L0 := [some (.ref 0), none]) (rest := [n_v 1]) q83_849 rfl rfl rfl rfl rfl rfl rfl ho rfl rfl ?_
  refine s12 hW hcb ?_
  refine e_k (pc := 849) ?_
  refine e_st (pc := 852) q83_852 rfl rfl ?_
  refine e_st (pc := 854) q83_854 rfl rfl ?_
  refine e_st (pc := 855) q83_855 rfl rfl ?_
  refine e_st (pc := 856) q83_856 rfl rfl ?_
  refine e_st (pc := 857) (pc2 := 858) (L2 := [some (.retAddr 0), some (.ref 0), some (n_v ↑n), some (n_v rg), some (n_v 1), some (.ref a5), some (.ref a6), some (.ref a7), some (n_v ↑many), some (n_v ↑it), some (n_v y10), some (n_v y11), some (n_v (m_sum n rw)), some (n_v ↑F), some (n_v ↑n), x15, x16, x17, x18, x19, x20, x21, x22]) (h2 := h) (st2 := [.float (m_sh F n), .int (m_sh F n).toInt32, n_v 1]) q83_857 rfl (by show (if c_nn (m_sh F n) then _ else none) = _; rw [if_pos f1]; rfl) ?_
  refine e_callS (pc := 858) (mz := c_m79) (L0 := [some (.float (m_sh F n))]) (rest := [.int (m_sh F n).toInt32, n_v 1]) q83_858 rfl rfl rfl rfl rfl rfl rfl rfl rfl ?_
  refine s79 f2 ?_
  refine e_k (pc := 858) ?_
  refine e_st (pc := 861) (pc2 := 864) (L2 := [some (.retAddr 0), some (.ref 0), some (n_v ↑n), some (n_v rg), some (n_v 1), some (.ref a5), some (.ref a6), some (.ref a7), some (n_v ↑many), some (n_v ↑it), some (n_v y10), some (n_v y11), some (n_v (m_sum n rw)), some (n_v ↑F), some (n_v ↑n), x15, x16, x17, x18, x19, x20, x21, x22]) (h2 := h) (st2 := [n_v 1]) q83_861 rfl (by show some (if decide (¬ (m_sh F n).toInt32 = (m_sh F n).toInt32) then 893 else 861 + 3, _, _, _) = _; rw [decide_eq_false (fun z => z rfl)]; rfl) ?_
  refine e_st (pc := 864) q83_864 rfl rfl ?_
  refine e_st (pc := 865) q83_865 rfl rfl ?_
  refine e_cst (v := 1) (len := 1) (pc := 867) q83_867 rfl rfl rfl ?_
  refine e_add (pc := 868) q83_868 ?_
  refine e_cst (v := 0) (len := 1) (pc := 869) q83_869 rfl rfl rfl ?_
  refine e_callS (pc := 870) (mz := c_m76) (L0 := [some (.ref 0), some (n_v (↑many + 1)), some (n_v 0), none]) (rest := [n_v 1]) q83_870 rfl rfl rfl rfl rfl rfl rfl rfl rfl ?_
  refine s76 hW (by omega) (by omega) (fun _ h1 y1 hW => ?_) (fun e1 _ _ => by omega) (fun j t e1 e2 e3 e4 e5 => by omega)
  refine e_k (pc := 870) ?_
  refine e_cst (v := -900001) (len := 2) (pc := 873) q83_873 rfl rfl (by decide +kernel) ?_
  refine e_cmp false (pc := 875) q83_875 ⟨by omega, by omega⟩ ⟨by omega, by omega⟩ (n_f_ne (by omega)) ?_
  refine e_st (pc := 878) q83_878 rfl rfl ?_
  refine e_cst (v := 0) (len := 1) (pc := 879) q83_879 rfl rfl rfl ?_
  refine e_cst (v := 0) (len := 1) (pc := 880) q83_880 rfl rfl rfl ?_
  refine e_callS (pc := 881) (mz := c_m76) (L0 := [some (.ref 0), some (n_v 0), some (n_v 0), none]) (rest := [n_v 1]) q83_881 rfl rfl rfl rfl rfl rfl rfl rfl rfl ?_
  refine s76 hW (by omega) (by omega) (fun _ h2 y2 hW => ?_) (fun e1 _ _ => by omega) (fun j t e1 e2 e3 e4 e5 => by omega)
  refine e_k (pc := 881) ?_
  refine e_cst (v := -900001) (len := 2) (pc := 884) q83_884 rfl rfl (by decide +kernel) ?_
  refine e_cmp false (pc := 886) q83_886 ⟨by omega, by omega⟩ ⟨by omega, by omega⟩ (n_f_ne (by omega)) ?_
  refine e_cst (v := 1) (len := 1) (pc := 889) q83_889 rfl rfl rfl ?_
  refine e_st (pc := 890) q83_890 rfl rfl ?_
  refine e_and1 (pc := 894) q83_894 ?_
  refine e_st (pc := 895) (L2 := [some (.retAddr 0), some (.ref 0), some (n_v ↑n), some (n_v rg), some (n_v 1), some (.ref a5), some (.ref a6), some (.ref a7), some (n_v ↑many), some (n_v ↑it), some (n_v y10), some (n_v y11), some (n_v (m_sum n rw)), some (n_v ↑F), some (n_v ↑n), x15, x16, x17, x18, x19, x20, x21, x22]) q83_895 rfl rfl ?_
  refine e_cst (v := 1) (len := 1) (pc := 897) q83_897 rfl rfl rfl ?_
  refine e_st (pc := 898) (L2 := [some (.retAddr 0), some (.ref 0), some (n_v ↑n), some (n_v rg), some (n_v 1), some (.ref a5), some (.ref a6), some (.ref a7), some (n_v ↑many), some (n_v ↑it), some (n_v y10), some (n_v y11), some (n_v (m_sum n rw)), some (n_v ↑F), some (n_v 1), x15, x16, x17, x18, x19, x20, x21, x22]) q83_898 rfl rfl ?_
  refine s83p (N := N + 2) (M := M + 12) hX hit (fun h3 y14 z15 z16 z17 z18 z19 z20 z21 z22 hI3 bd3 => ?_) many 1 h2 _ _ _ _ _ _ _ _ (by omega) (by omega) ((hI.gw y1.gw (by simp)).gw y2.gw (by simp)) (((bd.xt y1).xt y2).mono (by omega) (by omega))
  refine e_inc (pc := 970) (L2 := [some (.retAddr 0), some (.ref 0), some (n_v ↑n), some (n_v rg), some (n_v 1), some (.ref a5), some (.ref a6), some (.ref a7), some (n_v ↑many), some (n_v (↑it + 1)), some (n_v y10), some (n_v y11), some (n_v (m_sum n rw)), some (n_v ↑F), some (n_v y14), z15, z16, z17, z18, z19, z20, z21, z22]) q83_970 rfl rfl ?_
  refine e_st (pc := 973) q83_973 rfl rfl ?_
  exact K h3 _ _ _ _ _ _ _ _ _ _ _ _ _ hI3 (bd3.mono (by omega) (by omega))
theorem s83m {n : Nat} {rg : Int} {a5 a7 : Nat} {hd : Nat → Int} {N M : Nat} (hX : X.length ≤ 260) (K : ∀ h1, m_bd h1 (N + 19 * 12 + 3) (M + 276 * 12 + 18) → Q (.inl (some (n_v 1)), h1)) :
  ∀ (m it : Nat) (h1 : c_Hp) (many a6 : Nat) (rw : Nat → Int) (g : Nat → Nat) (kr : Nat → Nat → Int) (x10 x11 x12 x13 x14 x15 x16 x17 x18 x19 x20 x21 x22 : Option Value), it + m = 12 → m_I h1 n rg many a5 a6 a7 hd rw g kr → m_bd h1 (N + 19 * it) (M + 276 * it) → c_Ev X 83 296 [some (.retAddr 0), some (.ref 0), some (n_v ↑n), some (n_v rg), some (n_v 1), some (.ref a5), some (.ref a6), some (.ref a7), some (n_v ↑many), some (n_v ↑it), x10, x11, x12, x13, x14, x15, x16, x17, x18, x19, x20, x21, x22] [] h1 Q
  | 0, it, h1, many, a6, rw, g, kr, x10, x11, x12, x13, x14, x15, x16, x17, x18, x19, x20, x21, x22, e, hI, bd => by
    have e2 : it = 12 := by omega
    subst e2
    refine e_st (pc := 296) q83_296 rfl rfl ?_
    refine e_cst (v := 12) (len := 2) (pc := 298) q83_298 rfl rfl (by decide +kernel) ?_
    refine e_cmp true (pc := 300) q83_300 ⟨by omega, by omega⟩ ⟨by omega, by omega⟩ (n_t_ge (by omega)) ?_
    exact s83z hI bd K
  | m + 1, it, h1, many, a6, rw, g, kr, x10, x11, x12, x13, x14, x15, x16, x17, x18, x19, x20, x21, x22, e, hI, bd => by
    refine s83w hX (by omega) hI bd (fun h2 m2 b6 r2 g2 k2 y10 y11 z12 z13 z14 z15 z16 z17 z18 z19 z20 z21 z22 i2 bd2 => ?_)
    exact s83x hX (by omega) i2 bd2 (fun h3 w10 w11 w12 w13 w14 w15 w16 w17 w18 w19 w20 w21 w22 i3 bd3 => s83m hX K m (it + 1) h3 m2 b6 r2 g2 k2 w10 w11 w12 w13 w14 w15 w16 w17 w18 w19 w20 w21 w22 (by omega) i3 (bd3.mono (by omega) (by omega)))
theorem c_pure : c_Pure := by
  intro X hX
  have hE : c_Ev X 83 0 (c_ent [.retAddr 0] 23) [] [] (fun r => r.1 = .inl (some (.int 1)) ∧ m_bd r.2 (140 + 19 * 12 + 3) (5000 + 276 * 12 + 18)) := by
    refine s83a hX (fun h n rg a5 a6 hn hrg hW bd h5 h6 ar5 ar6 => ?_)
    refine s83b hX hn h5 h6 (fun h1 cf bf hd rw x8 hW bd ar5 ar6 hx => ?_) n 0 h _ _ _ _ none (by omega) hW (bd.mono (by omega) (by omega)) ar5 ar6 (fun t ht => ⟨fun e => by omega, fun _ => ⟨rfl, rfl⟩⟩)
    refine s83c hn hrg h5 h6 hW bd ar5 ar6 hx (fun h2 a7 g kr hI bd2 => ?_)
    exact s83m (N := 140) (M := 5000) hX (fun h3 bd3 => ⟨rfl, bd3⟩) 12 0 h2 0 a6 rw g kr none none none none none none none none none none none none none (by omega) hI (bd2.mono (by omega) (by omega))
  obtain ⟨n, ⟨o, h⟩, hn, hr, hb⟩ := hE
  simp only at hr hb
  subst hr
  exact ⟨n, h, hn, by have := hb.2.1; omega, by have := hb.2.2; omega⟩
end Ms
