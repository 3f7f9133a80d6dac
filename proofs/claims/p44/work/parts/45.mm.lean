/-! The law's own step. -/
section Ms
variable {X : List Int32} {h : c_Hp} {Q : c_O × c_Hp → Prop}
theorem m_ld_eq {li st : Int} {cf bf cf2 bf2 : Nat → Int} {o : Nat → Nat} {n : Nat} (hx : ∀ t, t < n → cf (o t) = cf2 (o t) ∧ bf (o t) = bf2 (o t)) : ∀ g, g ≤ n → m_ld li st cf bf o g = m_ld li st cf2 bf2 o g
  | 0, _ => rfl
  | g + 1, hg => by
    have h1 := hx g (by omega)
    rw [m_ld, m_ld, m_ld_eq hx g (by omega), h1.1, h1.2]
theorem m_mx_eq {li st : Int} {cf bf cf2 bf2 : Nat → Int} {o : Nat → Nat} {n : Nat} (hx : ∀ t, t < n → cf (o t) = cf2 (o t) ∧ bf (o t) = bf2 (o t)) : ∀ g, g ≤ n → m_mx li st cf bf o g = m_mx li st cf2 bf2 o g
  | 0, _ => rfl
  | g + 1, hg => by rw [m_mx, m_mx, m_mx_eq hx g (by omega), m_ld_eq hx (g + 1) hg]
theorem s83jf {n : Nat} {rg ca bg : Int} {many it ac a5 a6 a7 a16 : Nat} {hd rw : Nat → Int} {tn : Int} {x15 : Option Value} (hn : n ≤ 24) (hca : 1 ≤ ca ∧ ca ≤ 100) (hbg : 0 ≤ bg ∧ bg ≤ ca) (hb : ∀ t, t < n → 0 ≤ rw t ∧ rw t ≤ hd t ∧ hd t ≤ 4) (hne : a5 ≠ a16 ∧ a6 ≠ a16) (ar50 : c_ar h a5 n hd) (ar60 : c_ar h a6 n rw)
    (K : ∀ (h1 : c_Hp) (th : Nat → Int) (x20 x21 x22 : Option Value), c_ch h h1 [a16] → c_ar h1 a16 n th → (∀ t, t < n → th (t) = m_lb ca (m_ld ca bg hd rw (fun t => t) t) (hd (t)) (rw (t))) → c_Ev X 83 616 [some (.retAddr 0), some (.ref 0), some (n_v ↑n), some (n_v rg), some (n_v 1), some (.ref a5), some (.ref a6), some (.ref a7), some (n_v ↑many), some (n_v ↑it), some (n_v ↑ac), some (n_v ca), some (n_v 0), some (n_v bg), some (n_v (m_mx ca bg hd rw (fun t => t) n)), x15, some (.ref a16), some (n_v tn), some (n_v (m_ld ca bg hd rw (fun t => t) n)), some (n_v ↑n), x20, x21, x22] [] h1 Q) :
  ∀ (m v : Nat) (h1 : c_Hp) (th : Nat → Int) (x20 x21 x22 : Option Value), v + m = n → c_ch h h1 [a16] → c_ar h1 a16 n th → (∀ t, t < v → th (t) = m_lb ca (m_ld ca bg hd rw (fun t => t) t) (hd (t)) (rw (t))) → c_Ev X 83 497 [some (.retAddr 0), some (.ref 0), some (n_v ↑n), some (n_v rg), some (n_v 1), some (.ref a5), some (.ref a6), some (.ref a7), some (n_v ↑many), some (n_v ↑it), some (n_v ↑ac), some (n_v ca), some (n_v 0), some (n_v bg), some (n_v (m_mx ca bg hd rw (fun t => t) v)), x15, some (.ref a16), some (n_v tn), some (n_v (m_ld ca bg hd rw (fun t => t) v)), some (n_v ↑v), x20, x21, x22] [] h1 Q
  | 0, v, h1, th, x20, x21, x22, e, hch, ar16, hx => by
    have ar5 := ar50.ch hch (by simp; omega)
    have ar6 := ar60.ch hch (by simp; omega)
    refine e_st (pc := 497) q83_497 rfl rfl ?_
    refine e_st (pc := 499) q83_499 rfl rfl ?_
    refine e_cmp true (pc := 500) q83_500 ⟨by omega, by omega⟩ ⟨by omega, by omega⟩ (n_t_ge (by omega)) ?_
    have e2 : v = n := by omega
    subst e2
    exact K h1 th x20 x21 x22 hch ar16 hx
  | m + 1, v, h0, th, x20, x21, x22, e, hch, ar16, hx => by
    have ar5 := ar50.ch hch (by simp; omega)
    have ar6 := ar60.ch hch (by simp; omega)
    have hbo : ∀ t, t < n → 0 ≤ rw (t) ∧ rw (t) ≤ hd (t) := fun t ht => by have := hb (t) (by omega); omega
    have b0 := hb (v) (by omega)
    have b1 := m_ld_b (o := (fun t => t)) hbg hbo v (by omega)
    have b2 := m_mx_b (o := (fun t => t)) hbg hbo v (by omega)
    have b3 := m_ld_b (o := (fun t => t)) hbg hbo (v + 1) (by omega)
    refine e_st (pc := 497) q83_497 rfl rfl ?_
    refine e_st (pc := 499) q83_499 rfl rfl ?_
    refine e_cmp false (pc := 500) q83_500 ⟨by omega, by omega⟩ ⟨by omega, by omega⟩ (n_f_ge (by omega)) ?_
    refine e_st (pc := 503) q83_503 rfl rfl ?_
    refine e_if true (pc := 505) q83_505 ⟨by omega, by omega⟩ (n_t_eq (by omega)) ?_
    refine e_st (pc := 517) q83_517 rfl rfl ?_
    refine e_st (pc := 519) (L2 := [some (.retAddr 0), some (.ref 0), some (n_v ↑n), some (n_v rg), some (n_v 1), some (.ref a5), some (.ref a6), some (.ref a7), some (n_v ↑many), some (n_v ↑it), some (n_v ↑ac), some (n_v ca), some (n_v 0), some (n_v bg), some (n_v (m_mx ca bg hd rw (fun t => t) v)), x15, some (.ref a16), some (n_v tn), some (n_v (m_ld ca bg hd rw (fun t => t) v)), some (n_v ↑v), some (n_v ↑v), x21, x22]) q83_519 rfl rfl ?_
    refine e_st (pc := 521) q83_521 rfl rfl ?_
    refine e_st (pc := 523) q83_523 rfl rfl ?_
    refine e_ald (pc := 525) (j := v) q83_525 ar5 (by omega) (by omega) (by omega) ?_
    refine e_st (pc := 526) q83_526 rfl rfl ?_
    refine e_st (pc := 528) q83_528 rfl rfl ?_
    refine e_ald (pc := 530) (j := v) q83_530 ar6 (by omega) (by omega) (by omega) ?_
    refine e_sub (pc := 531) q83_531 ?_
    refine e_st (pc := 532) (L2 := [some (.retAddr 0), some (.ref 0), some (n_v ↑n), some (n_v rg), some (n_v 1), some (.ref a5), some (.ref a6), some (.ref a7), some (n_v ↑many), some (n_v ↑it), some (n_v ↑ac), some (n_v ca), some (n_v 0), some (n_v bg), some (n_v (m_mx ca bg hd rw (fun t => t) v)), x15, some (.ref a16), some (n_v tn), some (n_v (m_ld ca bg hd rw (fun t => t) v)), some (n_v ↑v), some (n_v ↑v), some (n_v ((hd v) - (rw v))), x22]) q83_532 rfl rfl ?_
    refine e_st (pc := 534) q83_534 rfl rfl ?_
    refine e_st (pc := 536) q83_536 rfl rfl ?_
    refine e_st (pc := 538) q83_538 rfl rfl ?_
    refine e_ald (pc := 540) (j := v) q83_540 ar6 (by omega) (by omega) (by omega) ?_
    refine e_add (pc := 541) q83_541 ?_
    refine e_st (pc := 542) q83_542 rfl rfl ?_
    refine e_sub (pc := 544) q83_544 ?_
    refine e_st (pc := 545) (L2 := [some (.retAddr 0), some (.ref 0), some (n_v ↑n), some (n_v rg), some (n_v 1), some (.ref a5), some (.ref a6), some (.ref a7), some (n_v ↑many), some (n_v ↑it), some (n_v ↑ac), some (n_v ca), some (n_v 0), some (n_v bg), some (n_v (m_mx ca bg hd rw (fun t => t) v)), x15, some (.ref a16), some (n_v tn), some (n_v (m_ld ca bg hd rw (fun t => t) v)), some (n_v ↑v), some (n_v ↑v), some (n_v ((hd v) - (rw v))), some (n_v (((m_ld ca bg hd rw (fun t => t) v) + (rw v)) - ca))]) q83_545 rfl rfl ?_
    refine e_st (pc := 547) q83_547 rfl rfl ?_
    refine e_st (pc := 549) q83_549 rfl rfl ?_
    refine e_st (pc := 551) q83_551 rfl rfl ?_
    refine e_st (pc := 553) q83_553 rfl rfl ?_
    suffices KK : c_Ev X 83 565 [some (.retAddr 0), some (.ref 0), some (n_v ↑n), some (n_v rg), some (n_v 1), some (.ref a5), some (.ref a6), some (.ref a7), some (n_v ↑many), some (n_v ↑it), some (n_v ↑ac), some (n_v ca), some (n_v 0), some (n_v bg), some (n_v (m_mx ca bg hd rw (fun t => t) v)), x15, some (.ref a16), some (n_v tn), some (n_v (m_ld ca bg hd rw (fun t => t) v)), some (n_v ↑v), some (n_v ↑v), some (n_v ((hd v) - (rw v))), some (n_v (((m_ld ca bg hd rw (fun t => t) v) + (rw v)) - ca))] [n_v (min (m_ld ca bg hd rw (fun t => t) v) (hd (v) - rw (v))), n_v ↑v, .ref a16] h0 Q from by
      by_cases hc : (hd (v) - rw (v)) ≤ m_ld ca bg hd rw (fun t => t) v
      · refine e_cmp true (pc := 555) q83_555 ⟨by omega, by omega⟩ ⟨by omega, by omega⟩ (n_t_ge (by omega)) ?_
        refine e_st (pc := 563) q83_563 rfl rfl ?_
        rw [show min (m_ld ca bg hd rw (fun t => t) v) (hd (v) - rw (v)) = (hd (v) - rw (v)) by omega] at KK
        exact KK
      · refine e_cmp false (pc := 555) q83_555 ⟨by omega, by omega⟩ ⟨by omega, by omega⟩ (n_f_ge (by omega)) ?_
        refine e_st (pc := 558) q83_558 rfl rfl ?_
        refine e_st (pc := 560) q83_560 rfl rfl ?_
        rw [show min (m_ld ca bg hd rw (fun t => t) v) (hd (v) - rw (v)) = m_ld ca bg hd rw (fun t => t) v by omega] at KK
        exact KK
    refine e_st (pc := 565) q83_565 rfl rfl ?_
    suffices KK : c_Ev X 83 576 [some (.retAddr 0), some (.ref 0), some (n_v ↑n), some (n_v rg), some (n_v 1), some (.ref a5), some (.ref a6), some (.ref a7), some (n_v ↑many), some (n_v ↑it), some (n_v ↑ac), some (n_v ca), some (n_v 0), some (n_v bg), some (n_v (m_mx ca bg hd rw (fun t => t) v)), x15, some (.ref a16), some (n_v tn), some (n_v (m_ld ca bg hd rw (fun t => t) v)), some (n_v ↑v), some (n_v ↑v), some (n_v ((hd v) - (rw v))), some (n_v (((m_ld ca bg hd rw (fun t => t) v) + (rw v)) - ca))] [n_v (max 0 (m_ld ca bg hd rw (fun t => t) v + rw (v) - ca)), n_v (min (m_ld ca bg hd rw (fun t => t) v) (hd (v) - rw (v))), n_v ↑v, .ref a16] h0 Q from by
      by_cases hc : (m_ld ca bg hd rw (fun t => t) v + rw (v) - ca) ≤ 0
      · refine e_if true (pc := 567) q83_567 ⟨by omega, by omega⟩ (n_t_le (by omega)) ?_
        refine e_cst (v := 0) (len := 1) (pc := 575) q83_575 rfl rfl rfl ?_
        rw [show max 0 (m_ld ca bg hd rw (fun t => t) v + rw (v) - ca) = 0 by omega] at KK
        exact KK
      · refine e_if false (pc := 567) q83_567 ⟨by omega, by omega⟩ (n_f_le (by omega)) ?_
        refine e_st (pc := 570) q83_570 rfl rfl ?_
        refine e_st (pc := 572) q83_572 rfl rfl ?_
        rw [show max 0 (m_ld ca bg hd rw (fun t => t) v + rw (v) - ca) = (m_ld ca bg hd rw (fun t => t) v + rw (v) - ca) by omega] at KK
        exact KK
    refine e_add (pc := 576) q83_576 ?_
    refine e_ast (pc := 577) (j := v) q83_577 ar16 (by omega) (by omega) (by omega) (fun h1 u1 => ?_)
    have ar5 := ar5.up u1 (by omega)
    have ar6 := ar6.up u1 (by omega)
    have ar16 : c_ar h1 a16 n (fun t => if t = v then (m_lb ca (m_ld ca bg hd rw (fun t => t) v) (hd (v)) (rw (v))) else th t) := u1.2.1
    refine e_st (pc := 578) q83_578 rfl rfl ?_
    refine e_st (pc := 580) q83_580 rfl rfl ?_
    refine e_st (pc := 582) q83_582 rfl rfl ?_
    refine e_ald (pc := 584) (j := v) q83_584 ar6 (by omega) (by omega) (by omega) ?_
    refine e_st (pc := 585) q83_585 rfl rfl ?_
    refine e_st (pc := 587) q83_587 rfl rfl ?_
    refine e_aldv (pc := 589) (j := v) (v := (m_lb ca (m_ld ca bg hd rw (fun t => t) v) (hd (v)) (rw (v)))) q83_589 ar16 (by omega) (by omega) (by omega) (if_pos rfl) ?_
    refine e_sub (pc := 590) q83_590 ?_
    refine e_add (pc := 591) q83_591 ?_
    rw [show m_ld ca bg hd rw (fun t => t) v + (rw (v) - m_lb ca (m_ld ca bg hd rw (fun t => t) v) (hd (v)) (rw (v))) = m_ld ca bg hd rw (fun t => t) (v + 1) from rfl]
    refine e_st (pc := 592) (L2 := [some (.retAddr 0), some (.ref 0), some (n_v ↑n), some (n_v rg), some (n_v 1), some (.ref a5), some (.ref a6), some (.ref a7), some (n_v ↑many), some (n_v ↑it), some (n_v ↑ac), some (n_v ca), some (n_v 0), some (n_v bg), some (n_v (m_mx ca bg hd rw (fun t => t) v)), x15, some (.ref a16), some (n_v tn), some (n_v (m_ld ca bg hd rw (fun t => t) (v + 1))), some (n_v ↑v), some (n_v ↑v), some (n_v ((hd v) - (rw v))), some (n_v (((m_ld ca bg hd rw (fun t => t) v) + (rw v)) - ca))]) q83_592 rfl rfl ?_
    refine e_st (pc := 594) q83_594 rfl rfl ?_
    refine e_st (pc := 596) q83_596 rfl rfl ?_
    suffices KK : c_Ev X 83 608 [some (.retAddr 0), some (.ref 0), some (n_v ↑n), some (n_v rg), some (n_v 1), some (.ref a5), some (.ref a6), some (.ref a7), some (n_v ↑many), some (n_v ↑it), some (n_v ↑ac), some (n_v ca), some (n_v 0), some (n_v bg), some (n_v (m_mx ca bg hd rw (fun t => t) v)), x15, some (.ref a16), some (n_v tn), some (n_v (m_ld ca bg hd rw (fun t => t) (v + 1))), some (n_v ↑v), some (n_v ↑v), some (n_v ((hd v) - (rw v))), some (n_v (((m_ld ca bg hd rw (fun t => t) v) + (rw v)) - ca))] [n_v (m_mx ca bg hd rw (fun t => t) (v + 1))] h1 Q from by
      by_cases hc : m_ld ca bg hd rw (fun t => t) (v + 1) ≤ m_mx ca bg hd rw (fun t => t) v
      · refine e_cmp true (pc := 598) q83_598 ⟨by omega, by omega⟩ ⟨by omega, by omega⟩ (n_t_le (by omega)) ?_
        refine e_st (pc := 606) q83_606 rfl rfl ?_
        rw [show m_mx ca bg hd rw (fun t => t) (v + 1) = m_mx ca bg hd rw (fun t => t) v by rw [m_mx]; omega] at KK
        exact KK
      · refine e_cmp false (pc := 598) q83_598 ⟨by omega, by omega⟩ ⟨by omega, by omega⟩ (n_f_le (by omega)) ?_
        refine e_st (pc := 601) q83_601 rfl rfl ?_
        refine e_st (pc := 603) q83_603 rfl rfl ?_
        rw [show m_mx ca bg hd rw (fun t => t) (v + 1) = m_ld ca bg hd rw (fun t => t) (v + 1) by rw [m_mx]; omega] at KK
        exact KK
    refine e_st (pc := 608) (L2 := [some (.retAddr 0), some (.ref 0), some (n_v ↑n), some (n_v rg), some (n_v 1), some (.ref a5), some (.ref a6), some (.ref a7), some (n_v ↑many), some (n_v ↑it), some (n_v ↑ac), some (n_v ca), some (n_v 0), some (n_v bg), some (n_v (m_mx ca bg hd rw (fun t => t) (v + 1))), x15, some (.ref a16), some (n_v tn), some (n_v (m_ld ca bg hd rw (fun t => t) (v + 1))), some (n_v ↑v), some (n_v ↑v), some (n_v ((hd v) - (rw v))), some (n_v (((m_ld ca bg hd rw (fun t => t) v) + (rw v)) - ca))]) q83_608 rfl rfl ?_
    refine e_inc (pc := 610) (L2 := [some (.retAddr 0), some (.ref 0), some (n_v ↑n), some (n_v rg), some (n_v 1), some (.ref a5), some (.ref a6), some (.ref a7), some (n_v ↑many), some (n_v ↑it), some (n_v ↑ac), some (n_v ca), some (n_v 0), some (n_v bg), some (n_v (m_mx ca bg hd rw (fun t => t) (v + 1))), x15, some (.ref a16), some (n_v tn), some (n_v (m_ld ca bg hd rw (fun t => t) (v + 1))), some (n_v (↑v + 1)), some (n_v ↑v), some (n_v ((hd v) - (rw v))), some (n_v (((m_ld ca bg hd rw (fun t => t) v) + (rw v)) - ca))]) q83_610 rfl rfl ?_
    refine e_st (pc := 613) q83_613 rfl rfl ?_
    refine s83jf hn hca hbg hb hne ar50 ar60 K m (v + 1) h1 _ _ _ _ (by omega) (hch.up u1 (by simp)) ar16 (fun t ht => ?_)
    by_cases e2 : t = v
    · subst e2
      exact if_pos rfl
    · have e3 : ¬ (t) = (v) := by omega
      simp only [if_neg e3]
      exact hx t (by omega)
theorem s83jb {n : Nat} {rg ca bg : Int} {many it ac a5 a6 a7 a16 : Nat} {hd rw : Nat → Int} {tn : Int} {x15 : Option Value} (hn : n ≤ 24) (hca : 1 ≤ ca ∧ ca ≤ 100) (hbg : 0 ≤ bg ∧ bg ≤ ca) (hb : ∀ t, t < n → 0 ≤ rw t ∧ rw t ≤ hd t ∧ hd t ≤ 4) (hne : a5 ≠ a16 ∧ a6 ≠ a16) (ar50 : c_ar h a5 n hd) (ar60 : c_ar h a6 n rw)
    (K : ∀ (h1 : c_Hp) (th : Nat → Int) (x20 x21 x22 : Option Value), c_ch h h1 [a16] → c_ar h1 a16 n th → (∀ t, t < n → th (n - 1 - t) = m_lb ca (m_ld ca bg hd rw (fun t => n - 1 - t) t) (hd (n - 1 - t)) (rw (n - 1 - t))) → c_Ev X 83 616 [some (.retAddr 0), some (.ref 0), some (n_v ↑n), some (n_v rg), some (n_v 1), some (.ref a5), some (.ref a6), some (.ref a7), some (n_v ↑many), some (n_v ↑it), some (n_v ↑ac), some (n_v ca), some (n_v 1), some (n_v bg), some (n_v (m_mx ca bg hd rw (fun t => n - 1 - t) n)), x15, some (.ref a16), some (n_v tn), some (n_v (m_ld ca bg hd rw (fun t => n - 1 - t) n)), some (n_v ↑n), x20, x21, x22] [] h1 Q) :
  ∀ (m v : Nat) (h1 : c_Hp) (th : Nat → Int) (x20 x21 x22 : Option Value), v + m = n → c_ch h h1 [a16] → c_ar h1 a16 n th → (∀ t, t < v → th (n - 1 - t) = m_lb ca (m_ld ca bg hd rw (fun t => n - 1 - t) t) (hd (n - 1 - t)) (rw (n - 1 - t))) → c_Ev X 83 497 [some (.retAddr 0), some (.ref 0), some (n_v ↑n), some (n_v rg), some (n_v 1), some (.ref a5), some (.ref a6), some (.ref a7), some (n_v ↑many), some (n_v ↑it), some (n_v ↑ac), some (n_v ca), some (n_v 1), some (n_v bg), some (n_v (m_mx ca bg hd rw (fun t => n - 1 - t) v)), x15, some (.ref a16), some (n_v tn), some (n_v (m_ld ca bg hd rw (fun t => n - 1 - t) v)), some (n_v ↑v), x20, x21, x22] [] h1 Q
  | 0, v, h1, th, x20, x21, x22, e, hch, ar16, hx => by
    have ar5 := ar50.ch hch (by simp; omega)
    have ar6 := ar60.ch hch (by simp; omega)
    refine e_st (pc := 497) q83_497 rfl rfl ?_
    refine e_st (pc := 499) q83_499 rfl rfl ?_
    refine e_cmp true (pc := 500) q83_500 ⟨by omega, by omega⟩ ⟨by omega, by omega⟩ (n_t_ge (by omega)) ?_
    have e2 : v = n := by omega
    subst e2
    exact K h1 th x20 x21 x22 hch ar16 hx
  | m + 1, v, h0, th, x20, x21, x22, e, hch, ar16, hx => by
    have ar5 := ar50.ch hch (by simp; omega)
    have ar6 := ar60.ch hch (by simp; omega)
    have hbo : ∀ t, t < n → 0 ≤ rw (n - 1 - t) ∧ rw (n - 1 - t) ≤ hd (n - 1 - t) := fun t ht => by have := hb (n - 1 - t) (by omega); omega
    have b0 := hb (n - 1 - v) (by omega)
    have b1 := m_ld_b (o := (fun t => n - 1 - t)) hbg hbo v (by omega)
    have b2 := m_mx_b (o := (fun t => n - 1 - t)) hbg hbo v (by omega)
    have b3 := m_ld_b (o := (fun t => n - 1 - t)) hbg hbo (v + 1) (by omega)
    refine e_st (pc := 497) q83_497 rfl rfl ?_
    refine e_st (pc := 499) q83_499 rfl rfl ?_
    refine e_cmp false (pc := 500) q83_500 ⟨by omega, by omega⟩ ⟨by omega, by omega⟩ (n_f_ge (by omega)) ?_
    refine e_st (pc := 503) q83_503 rfl rfl ?_
    refine e_if false (pc := 505) q83_505 ⟨by omega, by omega⟩ (n_f_eq (by omega)) ?_
    refine e_st (pc := 508) q83_508 rfl rfl ?_
    refine e_cst (v := 1) (len := 1) (pc := 509) q83_509 rfl rfl rfl ?_
    refine e_sub (pc := 510) q83_510 ?_
    refine e_st (pc := 511) q83_511 rfl rfl ?_
    refine e_sub (pc := 513) q83_513 ?_
    refine e_st (pc := 514) q83_514 rfl rfl ?_
    refine e_st (pc := 519) (L2 := [some (.retAddr 0), some (.ref 0), some (n_v ↑n), some (n_v rg), some (n_v 1), some (.ref a5), some (.ref a6), some (.ref a7), some (n_v ↑many), some (n_v ↑it), some (n_v ↑ac), some (n_v ca), some (n_v 1), some (n_v bg), some (n_v (m_mx ca bg hd rw (fun t => n - 1 - t) v)), x15, some (.ref a16), some (n_v tn), some (n_v (m_ld ca bg hd rw (fun t => n - 1 - t) v)), some (n_v ↑v), some (n_v ((↑n - 1) - ↑v)), x21, x22]) q83_519 rfl rfl ?_
    refine e_st (pc := 521) q83_521 rfl rfl ?_
    refine e_st (pc := 523) q83_523 rfl rfl ?_
    refine e_ald (pc := 525) (j := n - 1 - v) q83_525 ar5 (by omega) (by omega) (by omega) ?_
    refine e_st (pc := 526) q83_526 rfl rfl ?_
    refine e_st (pc := 528) q83_528 rfl rfl ?_
    refine e_ald (pc := 530) (j := n - 1 - v) q83_530 ar6 (by omega) (by omega) (by omega) ?_
    refine e_sub (pc := 531) q83_531 ?_
    refine e_st (pc := 532) (L2 := [some (.retAddr 0), some (.ref 0), some (n_v ↑n), some (n_v rg), some (n_v 1), some (.ref a5), some (.ref a6), some (.ref a7), some (n_v ↑many), some (n_v ↑it), some (n_v ↑ac), some (n_v ca), some (n_v 1), some (n_v bg), some (n_v (m_mx ca bg hd rw (fun t => n - 1 - t) v)), x15, some (.ref a16), some (n_v tn), some (n_v (m_ld ca bg hd rw (fun t => n - 1 - t) v)), some (n_v ↑v), some (n_v ((↑n - 1) - ↑v)), some (n_v ((hd (n - 1 - v)) - (rw (n - 1 - v)))), x22]) q83_532 rfl rfl ?_
    refine e_st (pc := 534) q83_534 rfl rfl ?_
    refine e_st (pc := 536) q83_536 rfl rfl ?_
    refine e_st (pc := 538) q83_538 rfl rfl ?_
    refine e_ald (pc := 540) (j := n - 1 - v) q83_540 ar6 (by omega) (by omega) (by omega) ?_
    refine e_add (pc := 541) q83_541 ?_
    refine e_st (pc := 542) q83_542 rfl rfl ?_
    refine e_sub (pc := 544) q83_544 ?_
    refine e_st (pc := 545) (L2 := [some (.retAddr 0), some (.ref 0), some (n_v ↑n), some (n_v rg), some (n_v 1), some (.ref a5), some (.ref a6), some (.ref a7), some (n_v ↑many), some (n_v ↑it), some (n_v ↑ac), some (n_v ca), some (n_v 1), some (n_v bg), some (n_v (m_mx ca bg hd rw (fun t => n - 1 - t) v)), x15, some (.ref a16), some (n_v tn), some (n_v (m_ld ca bg hd rw (fun t => n - 1 - t) v)), some (n_v ↑v), some (n_v ((↑n - 1) - ↑v)), some (n_v ((hd (n - 1 - v)) - (rw (n - 1 - v)))), some (n_v (((m_ld ca bg hd rw (fun t => n - 1 - t) v) + (rw (n - 1 - v))) - ca))]) q83_545 rfl rfl ?_
    refine e_st (pc := 547) q83_547 rfl rfl ?_
    refine e_st (pc := 549) q83_549 rfl rfl ?_
    refine e_st (pc := 551) q83_551 rfl rfl ?_
    refine e_st (pc := 553) q83_553 rfl rfl ?_
    suffices KK : c_Ev X 83 565 [some (.retAddr 0), some (.ref 0), some (n_v ↑n), some (n_v rg), some (n_v 1), some (.ref a5), some (.ref a6), some (.ref a7), some (n_v ↑many), some (n_v ↑it), some (n_v ↑ac), some (n_v ca), some (n_v 1), some (n_v bg), some (n_v (m_mx ca bg hd rw (fun t => n - 1 - t) v)), x15, some (.ref a16), some (n_v tn), some (n_v (m_ld ca bg hd rw (fun t => n - 1 - t) v)), some (n_v ↑v), some (n_v ((↑n - 1) - ↑v)), some (n_v ((hd (n - 1 - v)) - (rw (n - 1 - v)))), some (n_v (((m_ld ca bg hd rw (fun t => n - 1 - t) v) + (rw (n - 1 - v))) - ca))] [n_v (min (m_ld ca bg hd rw (fun t => n - 1 - t) v) (hd (n - 1 - v) - rw (n - 1 - v))), n_v ((↑n - 1) - ↑v), .ref a16] h0 Q from by
      by_cases hc : (hd (n - 1 - v) - rw (n - 1 - v)) ≤ m_ld ca bg hd rw (fun t => n - 1 - t) v
      · refine e_cmp true (pc := 555) q83_555 ⟨by omega, by omega⟩ ⟨by omega, by omega⟩ (n_t_ge (by omega)) ?_
        refine e_st (pc := 563) q83_563 rfl rfl ?_
        rw [show min (m_ld ca bg hd rw (fun t => n - 1 - t) v) (hd (n - 1 - v) - rw (n - 1 - v)) = (hd (n - 1 - v) - rw (n - 1 - v)) by omega] at KK
        exact KK
      · refine e_cmp false (pc := 555) q83_555 ⟨by omega, by omega⟩ ⟨by omega, by omega⟩ (n_f_ge (by omega)) ?_
        refine e_st (pc := 558) q83_558 rfl rfl ?_
        refine e_st (pc := 560) q83_560 rfl rfl ?_
        rw [show min (m_ld ca bg hd rw (fun t => n - 1 - t) v) (hd (n - 1 - v) - rw (n - 1 - v)) = m_ld ca bg hd rw (fun t => n - 1 - t) v by omega] at KK
        exact KK
    refine e_st (pc := 565) q83_565 rfl rfl ?_
    suffices KK : c_Ev X 83 576 [some (.retAddr 0), some (.ref 0), some (n_v ↑n), some (n_v rg), some (n_v 1), some (.ref a5), some (.ref a6), some (.ref a7), some (n_v ↑many), some (n_v ↑it), some (n_v ↑ac), some (n_v ca), some (n_v 1), some (n_v bg), some (n_v (m_mx ca bg hd rw (fun t => n - 1 - t) v)), x15, some (.ref a16), some (n_v tn), some (n_v (m_ld ca bg hd rw (fun t => n - 1 - t) v)), some (n_v ↑v), some (n_v ((↑n - 1) - ↑v)), some (n_v ((hd (n - 1 - v)) - (rw (n - 1 - v)))), some (n_v (((m_ld ca bg hd rw (fun t => n - 1 - t) v) + (rw (n - 1 - v))) - ca))] [n_v (max 0 (m_ld ca bg hd rw (fun t => n - 1 - t) v + rw (n - 1 - v) - ca)), n_v (min (m_ld ca bg hd rw (fun t => n - 1 - t) v) (hd (n - 1 - v) - rw (n - 1 - v))), n_v ((↑n - 1) - ↑v), .ref a16] h0 Q from by
      by_cases hc : (m_ld ca bg hd rw (fun t => n - 1 - t) v + rw (n - 1 - v) - ca) ≤ 0
      · refine e_if true (pc := 567) q83_567 ⟨by omega, by omega⟩ (n_t_le (by omega)) ?_
        refine e_cst (v := 0) (len := 1) (pc := 575) q83_575 rfl rfl rfl ?_
        rw [show max 0 (m_ld ca bg hd rw (fun t => n - 1 - t) v + rw (n - 1 - v) - ca) = 0 by omega] at KK
        exact KK
      · refine e_if false (pc := 567) q83_567 ⟨by omega, by omega⟩ (n_f_le (by omega)) ?_
        refine e_st (pc := 570) q83_570 rfl rfl ?_
        refine e_st (pc := 572) q83_572 rfl rfl ?_
        rw [show max 0 (m_ld ca bg hd rw (fun t => n - 1 - t) v + rw (n - 1 - v) - ca) = (m_ld ca bg hd rw (fun t => n - 1 - t) v + rw (n - 1 - v) - ca) by omega] at KK
        exact KK
    refine e_add (pc := 576) q83_576 ?_
    refine e_ast (pc := 577) (j := n - 1 - v) q83_577 ar16 (by omega) (by omega) (by omega) (fun h1 u1 => ?_)
    have ar5 := ar5.up u1 (by omega)
    have ar6 := ar6.up u1 (by omega)
    have ar16 : c_ar h1 a16 n (fun t => if t = n - 1 - v then (m_lb ca (m_ld ca bg hd rw (fun t => n - 1 - t) v) (hd (n - 1 - v)) (rw (n - 1 - v))) else th t) := u1.2.1
    refine e_st (pc := 578) q83_578 rfl rfl ?_
    refine e_st (pc := 580) q83_580 rfl rfl ?_
    refine e_st (pc := 582) q83_582 rfl rfl ?_
    refine e_ald (pc := 584) (j := n - 1 - v) q83_584 ar6 (by omega) (by omega) (by omega) ?_
    refine e_st (pc := 585) q83_585 rfl rfl ?_
    refine e_st (pc := 587) q83_587 rfl rfl ?_
    refine e_aldv (pc := 589) (j := n - 1 - v) (v := (m_lb ca (m_ld ca bg hd rw (fun t => n - 1 - t) v) (hd (n - 1 - v)) (rw (n - 1 - v)))) q83_589 ar16 (by omega) (by omega) (by omega) (if_pos rfl) ?_
    refine e_sub (pc := 590) q83_590 ?_
    refine e_add (pc := 591) q83_591 ?_
    rw [show m_ld ca bg hd rw (fun t => n - 1 - t) v + (rw (n - 1 - v) - m_lb ca (m_ld ca bg hd rw (fun t => n - 1 - t) v) (hd (n - 1 - v)) (rw (n - 1 - v))) = m_ld ca bg hd rw (fun t => n - 1 - t) (v + 1) from rfl]
    refine e_st (pc := 592) (L2 := [some (.retAddr 0), some (.ref 0), some (n_v ↑n), some (n_v rg), some (n_v 1), some (.ref a5), some (.ref a6), some (.ref a7), some (n_v ↑many), some (n_v ↑it), some (n_v ↑ac), some (n_v ca), some (n_v 1), some (n_v bg), some (n_v (m_mx ca bg hd rw (fun t => n - 1 - t) v)), x15, some (.ref a16), some (n_v tn), some (n_v (m_ld ca bg hd rw (fun t => n - 1 - t) (v + 1))), some (n_v ↑v), some (n_v ((↑n - 1) - ↑v)), some (n_v ((hd (n - 1 - v)) - (rw (n - 1 - v)))), some (n_v (((m_ld ca bg hd rw (fun t => n - 1 - t) v) + (rw (n - 1 - v))) - ca))]) q83_592 rfl rfl ?_
    refine e_st (pc := 594) q83_594 rfl rfl ?_
    refine e_st (pc := 596) q83_596 rfl rfl ?_
    suffices KK : c_Ev X 83 608 [some (.retAddr 0), some (.ref 0), some (n_v ↑n), some (n_v rg), some (n_v 1), some (.ref a5), some (.ref a6), some (.ref a7), some (n_v ↑many), some (n_v ↑it), some (n_v ↑ac), some (n_v ca), some (n_v 1), some (n_v bg), some (n_v (m_mx ca bg hd rw (fun t => n - 1 - t) v)), x15, some (.ref a16), some (n_v tn), some (n_v (m_ld ca bg hd rw (fun t => n - 1 - t) (v + 1))), some (n_v ↑v), some (n_v ((↑n - 1) - ↑v)), some (n_v ((hd (n - 1 - v)) - (rw (n - 1 - v)))), some (n_v (((m_ld ca bg hd rw (fun t => n - 1 - t) v) + (rw (n - 1 - v))) - ca))] [n_v (m_mx ca bg hd rw (fun t => n - 1 - t) (v + 1))] h1 Q from by
      by_cases hc : m_ld ca bg hd rw (fun t => n - 1 - t) (v + 1) ≤ m_mx ca bg hd rw (fun t => n - 1 - t) v
      · refine e_cmp true (pc := 598) q83_598 ⟨by omega, by omega⟩ ⟨by omega, by omega⟩ (n_t_le (by omega)) ?_
        refine e_st (pc := 606) q83_606 rfl rfl ?_
        rw [show m_mx ca bg hd rw (fun t => n - 1 - t) (v + 1) = m_mx ca bg hd rw (fun t => n - 1 - t) v by rw [m_mx]; omega] at KK
        exact KK
      · refine e_cmp false (pc := 598) q83_598 ⟨by omega, by omega⟩ ⟨by omega, by omega⟩ (n_f_le (by omega)) ?_
        refine e_st (pc := 601) q83_601 rfl rfl ?_
        refine e_st (pc := 603) q83_603 rfl rfl ?_
        rw [show m_mx ca bg hd rw (fun t => n - 1 - t) (v + 1) = m_ld ca bg hd rw (fun t => n - 1 - t) (v + 1) by rw [m_mx]; omega] at KK
        exact KK
    refine e_st (pc := 608) (L2 := [some (.retAddr 0), some (.ref 0), some (n_v ↑n), some (n_v rg), some (n_v 1), some (.ref a5), some (.ref a6), some (.ref a7), some (n_v ↑many), some (n_v ↑it), some (n_v ↑ac), some (n_v ca), some (n_v 1), some (n_v bg), some (n_v (m_mx ca bg hd rw (fun t => n - 1 - t) (v + 1))), x15, some (.ref a16), some (n_v tn), some (n_v (m_ld ca bg hd rw (fun t => n - 1 - t) (v + 1))), some (n_v ↑v), some (n_v ((↑n - 1) - ↑v)), some (n_v ((hd (n - 1 - v)) - (rw (n - 1 - v)))), some (n_v (((m_ld ca bg hd rw (fun t => n - 1 - t) v) + (rw (n - 1 - v))) - ca))]) q83_608 rfl rfl ?_
    refine e_inc (pc := 610) (L2 := [some (.retAddr 0), some (.ref 0), some (n_v ↑n), some (n_v rg), some (n_v 1), some (.ref a5), some (.ref a6), some (.ref a7), some (n_v ↑many), some (n_v ↑it), some (n_v ↑ac), some (n_v ca), some (n_v 1), some (n_v bg), some (n_v (m_mx ca bg hd rw (fun t => n - 1 - t) (v + 1))), x15, some (.ref a16), some (n_v tn), some (n_v (m_ld ca bg hd rw (fun t => n - 1 - t) (v + 1))), some (n_v (↑v + 1)), some (n_v ((↑n - 1) - ↑v)), some (n_v ((hd (n - 1 - v)) - (rw (n - 1 - v)))), some (n_v (((m_ld ca bg hd rw (fun t => n - 1 - t) v) + (rw (n - 1 - v))) - ca))]) q83_610 rfl rfl ?_
    refine e_st (pc := 613) q83_613 rfl rfl ?_
    refine s83jb hn hca hbg hb hne ar50 ar60 K m (v + 1) h1 _ _ _ _ (by omega) (hch.up u1 (by simp)) ar16 (fun t ht => ?_)
    by_cases e2 : t = v
    · subst e2
      exact if_pos rfl
    · have e3 : ¬ (n - 1 - t) = (n - 1 - v) := by omega
      simp only [if_neg e3]
      exact hx t (by omega)
end Ms
