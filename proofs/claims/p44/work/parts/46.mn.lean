/-! The law's own step: its turns. -/
section Ms
variable {X : List Int32} {h : c_Hp} {Q : c_O × c_Hp → Prop}
theorem m_I.gw {h h2 : c_Hp} {n : Nat} {rg : Int} {many a5 a6 a7 : Nat} {hd rw : Nat → Int} {g : Nat → Nat} {kr : Nat → Nat → Int} {V : List Nat} (s : m_I h n rg many a5 a6 a7 hd rw g kr) (r : c_gw h h2 V) (hV : ∀ q ∈ V, 58 ≤ q ∧ q ≠ a5 ∧ q ≠ a6 ∧ q ≠ a7 ∧ ∀ i, i < 8 → q ≠ g i) : m_I h2 n rg many a5 a6 a7 hd rw g kr := by
  obtain ⟨h0, b1, b2, b3, b4, cf, bf, H, b5, b6, b7⟩ := s
  exact ⟨h0, b1.gw r (fun e => (hV _ e).2.1 rfl), b2.gw r (fun e => (hV _ e).2.2.1 rfl), b3.gw r (fun e => (hV _ e).2.2.2.1 rfl), fun i hi => (b4 i hi).gw r (fun e => (hV _ e).2.2.2.2 i hi rfl), cf, bf, H, b5.gw r (fun q hq => (hV q hq).1), b6, b7⟩
theorem m_I.lt {h : c_Hp} {n : Nat} {rg : Int} {many a5 a6 a7 : Nat} {hd rw : Nat → Int} {g : Nat → Nat} {kr : Nat → Nat → Int} (s : m_I h n rg many a5 a6 a7 hd rw g kr) : a5 < h.length ∧ a6 < h.length ∧ a7 < h.length ∧ ∀ i, i < 8 → g i < h.length :=
  ⟨c_at_lt s.2.1, c_at_lt s.2.2.1, c_at_lt s.2.2.2.1, fun i hi => c_at_lt (s.2.2.2.2.1 i hi)⟩
theorem m_I.rows {h : c_Hp} {n : Nat} {rg : Int} {many a5 a6 a7 : Nat} {hd rw : Nat → Int} {g : Nat → Nat} {kr : Nat → Nat → Int} (s : m_I h n rg many a5 a6 a7 hd rw g kr) : ∀ t, t < n → 0 ≤ rw t ∧ rw t ≤ hd t ∧ hd t ≤ 4 := by
  obtain ⟨-, -, -, -, -, cf, bf, H, b5, b6, -⟩ := s
  intro t ht
  have h1 := b5.1.2.2.2.1 t ht
  have h2 := b6 t ht
  omega
theorem s83tf {n : Nat} {rg ca : Int} {many it ac a5 a6 a7 N M : Nat} {hd rw : Nat → Int} {g : Nat → Nat} {kr : Nat → Nat → Int} {x12 x13 x14 x15 x16 x17 x18 x19 x20 x21 x22 : Option Value} (hI : m_I h n rg many a5 a6 a7 hd rw g kr) (bd : m_bd h N M) (hca : 1 ≤ ca ∧ ca ≤ 100) (hac : ac ≠ 4) (hac2 : ac ≤ 5)
    (K : ∀ (h1 : c_Hp) (a16 : Nat) (th : Nat → Int) (x18 x19 x20 x21 x22 : Option Value), h.length ≤ a16 → c_gw h h1 [] → m_bd h1 (N + 1) (M + 24) → c_ar h1 a16 n th → (∀ t, t < n → th (t) = m_lb ca (m_ld ca (m_s0 rg ca hd rw (fun t => t) n) hd rw (fun t => t) t) (hd (t)) (rw (t))) → c_Ev X 83 626 [some (.retAddr 0), some (.ref 0), some (n_v ↑n), some (n_v rg), some (n_v 1), some (.ref a5), some (.ref a6), some (.ref a7), some (n_v ↑many), some (n_v ↑it), some (n_v ↑ac), some (n_v ca), some (n_v 0), some (n_v (m_s0 rg ca hd rw (fun t => t) n)), some (n_v (m_mx ca (m_s0 rg ca hd rw (fun t => t) n) hd rw (fun t => t) n)), some (n_v (m_ld ca (m_s0 rg ca hd rw (fun t => t) n) hd rw (fun t => t) n)), some (.ref a16), some (n_v 2), x18, x19, x20, x21, x22] [] h1 Q) :
    c_Ev X 83 424 [some (.retAddr 0), some (.ref 0), some (n_v ↑n), some (n_v rg), some (n_v 1), some (.ref a5), some (.ref a6), some (.ref a7), some (n_v ↑many), some (n_v ↑it), some (n_v ↑ac), some (n_v ca), x12, x13, x14, x15, x16, x17, x18, x19, x20, x21, x22] [] h Q := by
  have hrow := hI.rows
  have hlt := hI.lt
  obtain ⟨⟨hn, hrg, hmany, -, -, -⟩, ar5, ar6, -, -, -⟩ := id hI
  have hb2 : ∀ t, t < n → 0 ≤ rw (t) ∧ rw (t) ≤ hd (t) := fun t ht => by have := hrow (t) (by omega); omega
  refine e_st (pc := 424) q83_424 rfl rfl ?_
  refine e_cst (v := 4) (len := 1) (pc := 426) q83_426 rfl rfl rfl ?_
  refine e_cmp true (pc := 427) q83_427 ⟨by omega, by omega⟩ ⟨by omega, by omega⟩ (n_t_ne (by omega)) ?_
  refine e_cst (v := 0) (len := 1) (pc := 434) q83_434 rfl rfl rfl ?_
  refine e_st (pc := 435) (L2 := [some (.retAddr 0), some (.ref 0), some (n_v ↑n), some (n_v rg), some (n_v 1), some (.ref a5), some (.ref a6), some (.ref a7), some (n_v ↑many), some (n_v ↑it), some (n_v ↑ac), some (n_v ca), some (n_v 0), x13, x14, x15, x16, x17, x18, x19, x20, x21, x22]) q83_435 rfl rfl ?_
  refine e_cst (v := 0) (len := 1) (pc := 437) q83_437 rfl rfl rfl ?_
  refine e_st (pc := 438) (L2 := [some (.retAddr 0), some (.ref 0), some (n_v ↑n), some (n_v rg), some (n_v 1), some (.ref a5), some (.ref a6), some (.ref a7), some (n_v ↑many), some (n_v ↑it), some (n_v ↑ac), some (n_v ca), some (n_v 0), some (n_v 0), x14, x15, x16, x17, x18, x19, x20, x21, x22]) q83_438 rfl rfl ?_
  refine e_cst (v := 0) (len := 1) (pc := 440) q83_440 rfl rfl rfl ?_
  refine e_st (pc := 441) (L2 := [some (.retAddr 0), some (.ref 0), some (n_v ↑n), some (n_v rg), some (n_v 1), some (.ref a5), some (.ref a6), some (.ref a7), some (n_v ↑many), some (n_v ↑it), some (n_v ↑ac), some (n_v ca), some (n_v 0), some (n_v 0), some (n_v 0), x15, x16, x17, x18, x19, x20, x21, x22]) q83_441 rfl rfl ?_
  refine e_cst (v := 0) (len := 1) (pc := 443) q83_443 rfl rfl rfl ?_
  refine e_st (pc := 444) (L2 := [some (.retAddr 0), some (.ref 0), some (n_v ↑n), some (n_v rg), some (n_v 1), some (.ref a5), some (.ref a6), some (.ref a7), some (n_v ↑many), some (n_v ↑it), some (n_v ↑ac), some (n_v ca), some (n_v 0), some (n_v 0), some (n_v 0), some (n_v 0), x16, x17, x18, x19, x20, x21, x22]) q83_444 rfl rfl ?_
  refine e_st (pc := 446) q83_446 rfl rfl ?_
  refine e_newa (n := n) (pc := 447) q83_447 (by omega) ?_
  have gw0 := c_gw.app h [n_arr n (fun _ => 0)]
  have ar5 := ar5.gw gw0 (by simp)
  have ar6 := ar6.gw gw0 (by simp)
  have ar16 := c_ar.new h n (fun _ => 0)
  have bd := bd.app (n := n) (f := fun _ => 0)
  obtain ⟨a16, ha16⟩ : ∃ a : Nat, a = h.length := ⟨_, rfl⟩
  rw [← ha16] at ar16 ⊢
  generalize h ++ [n_arr n (fun _ => 0)] = h0 at gw0 ar5 ar6 ar16 bd ⊢
  refine e_st (pc := 449) (L2 := [some (.retAddr 0), some (.ref 0), some (n_v ↑n), some (n_v rg), some (n_v 1), some (.ref a5), some (.ref a6), some (.ref a7), some (n_v ↑many), some (n_v ↑it), some (n_v ↑ac), some (n_v ca), some (n_v 0), some (n_v 0), some (n_v 0), some (n_v 0), some (.ref a16), x17, x18, x19, x20, x21, x22]) q83_449 rfl rfl ?_
  refine e_st (pc := 451) q83_451 rfl rfl ?_
  rcases hrg with hrg | hrg
  · subst hrg
    refine e_if true (pc := 452) q83_452 ⟨by omega, by omega⟩ (n_t_eq (by omega)) ?_
    refine e_cst (v := 1) (len := 1) (pc := 459) q83_459 rfl rfl rfl ?_
    refine e_st (pc := 460) (L2 := [some (.retAddr 0), some (.ref 0), some (n_v ↑n), some (n_v 0), some (n_v 1), some (.ref a5), some (.ref a6), some (.ref a7), some (n_v ↑many), some (n_v ↑it), some (n_v ↑ac), some (n_v ca), some (n_v 0), some (n_v 0), some (n_v 0), some (n_v 0), some (.ref a16), some (n_v 1), x18, x19, x20, x21, x22]) q83_460 rfl rfl ?_
    refine e_st (pc := 462) q83_462 rfl rfl ?_
    refine e_cst (v := 2) (len := 1) (pc := 464) q83_464 rfl rfl rfl ?_
    refine e_cmp false (pc := 465) q83_465 ⟨by omega, by omega⟩ ⟨by omega, by omega⟩ (n_f_ge (by omega)) ?_
    refine e_st (pc := 468) q83_468 rfl rfl ?_
    refine e_cst (v := 1) (len := 1) (pc := 470) q83_470 rfl rfl rfl ?_
    refine e_cmp false (pc := 471) q83_471 ⟨by omega, by omega⟩ ⟨by omega, by omega⟩ (n_f_ne (by omega)) ?_
    refine e_st (pc := 474) q83_474 rfl rfl ?_
    refine e_if true (pc := 475) q83_475 ⟨by omega, by omega⟩ (n_t_eq (by omega)) ?_
    refine e_cst (v := 0) (len := 1) (pc := 483) q83_483 rfl rfl rfl ?_
    refine e_st (pc := 484) (L2 := [some (.retAddr 0), some (.ref 0), some (n_v ↑n), some (n_v 0), some (n_v 1), some (.ref a5), some (.ref a6), some (.ref a7), some (n_v ↑many), some (n_v ↑it), some (n_v ↑ac), some (n_v ca), some (n_v 0), some (n_v 0), some (n_v 0), some (n_v 0), some (.ref a16), some (n_v 1), x18, x19, x20, x21, x22]) q83_484 rfl rfl ?_
    refine e_st (pc := 486) q83_486 rfl rfl ?_
    refine e_st (pc := 488) (L2 := [some (.retAddr 0), some (.ref 0), some (n_v ↑n), some (n_v 0), some (n_v 1), some (.ref a5), some (.ref a6), some (.ref a7), some (n_v ↑many), some (n_v ↑it), some (n_v ↑ac), some (n_v ca), some (n_v 0), some (n_v 0), some (n_v 0), some (n_v 0), some (.ref a16), some (n_v 1), some (n_v 0), x19, x20, x21, x22]) q83_488 rfl rfl ?_
    refine e_st (pc := 490) q83_490 rfl rfl ?_
    refine e_st (pc := 492) (L2 := [some (.retAddr 0), some (.ref 0), some (n_v ↑n), some (n_v 0), some (n_v 1), some (.ref a5), some (.ref a6), some (.ref a7), some (n_v ↑many), some (n_v ↑it), some (n_v ↑ac), some (n_v ca), some (n_v 0), some (n_v 0), some (n_v 0), some (n_v 0), some (.ref a16), some (n_v 1), some (n_v 0), x19, x20, x21, x22]) q83_492 rfl rfl ?_
    refine e_cst (v := 0) (len := 1) (pc := 494) q83_494 rfl rfl rfl ?_
    refine e_st (pc := 495) (L2 := [some (.retAddr 0), some (.ref 0), some (n_v ↑n), some (n_v 0), some (n_v 1), some (.ref a5), some (.ref a6), some (.ref a7), some (n_v ↑many), some (n_v ↑it), some (n_v ↑ac), some (n_v ca), some (n_v 0), some (n_v 0), some (n_v 0), some (n_v 0), some (.ref a16), some (n_v 1), some (n_v 0), some (n_v 0), x20, x21, x22]) q83_495 rfl rfl ?_
    refine s83jf (h := h0) (bg := 0) (by omega) hca ⟨by omega, by omega⟩ hrow ⟨by omega, by omega⟩ ar5 ar6 (fun h1 th1 y20 y21 y22 c1 ar16 hth => ?_) n 0 h0 _ _ _ _ (by omega) (c_ch.rf _ _) ar16 (fun t ht => by omega)
    have ar5 := ar5.ch c1 (by simp; omega)
    have ar6 := ar6.ch c1 (by simp; omega)
    refine e_st (pc := 616) q83_616 rfl rfl ?_
    refine e_st (pc := 618) (L2 := [some (.retAddr 0), some (.ref 0), some (n_v ↑n), some (n_v 0), some (n_v 1), some (.ref a5), some (.ref a6), some (.ref a7), some (n_v ↑many), some (n_v ↑it), some (n_v ↑ac), some (n_v ca), some (n_v 0), some (n_v 0), some (n_v (m_mx ca 0 hd rw (fun t => t) n)), some (n_v (m_ld ca 0 hd rw (fun t => t) n)), some (.ref a16), some (n_v 1), some (n_v (m_ld ca 0 hd rw (fun t => t) n)), some (n_v ↑n), y20, y21, y22]) q83_618 rfl rfl ?_
    refine e_inc (pc := 620) (L2 := [some (.retAddr 0), some (.ref 0), some (n_v ↑n), some (n_v 0), some (n_v 1), some (.ref a5), some (.ref a6), some (.ref a7), some (n_v ↑many), some (n_v ↑it), some (n_v ↑ac), some (n_v ca), some (n_v 0), some (n_v 0), some (n_v (m_mx ca 0 hd rw (fun t => t) n)), some (n_v (m_ld ca 0 hd rw (fun t => t) n)), some (.ref a16), some (n_v (1 + 1)), some (n_v (m_ld ca 0 hd rw (fun t => t) n)), some (n_v ↑n), y20, y21, y22]) q83_620 rfl rfl ?_
    refine e_st (pc := 623) q83_623 rfl rfl ?_
    refine e_st (pc := 462) q83_462 rfl rfl ?_
    refine e_cst (v := 2) (len := 1) (pc := 464) q83_464 rfl rfl rfl ?_
    refine e_cmp true (pc := 465) q83_465 ⟨by omega, by omega⟩ ⟨by omega, by omega⟩ (n_t_ge (by omega)) ?_
    have gx : c_gw h h1 [] := ⟨Nat.le_trans gw0.1 (by rw [c1.1]; exact Nat.le_refl _), fun q hq hw => (c1.2.2 q (by simp; omega)).trans (gw0.2 q hq hw)⟩
    have bd1 : m_bd h1 (N + 1) (M + 24) := (bd.xt (c_xt.ofch c1)).mono (by omega) (by omega)
    have hs : m_s0 0 ca hd rw (fun t => t) n = 0 := rfl
    rw [hs] at K
    exact K h1 a16 th1 _ _ _ _ _ (by omega) gx bd1 ar16 hth
  · subst hrg
    refine e_if false (pc := 452) q83_452 ⟨by omega, by omega⟩ (n_f_eq (by omega)) ?_
    refine e_cst (v := 0) (len := 1) (pc := 455) q83_455 rfl rfl rfl ?_
    refine e_st (pc := 456) q83_456 rfl rfl ?_
    refine e_st (pc := 460) (L2 := [some (.retAddr 0), some (.ref 0), some (n_v ↑n), some (n_v 1), some (n_v 1), some (.ref a5), some (.ref a6), some (.ref a7), some (n_v ↑many), some (n_v ↑it), some (n_v ↑ac), some (n_v ca), some (n_v 0), some (n_v 0), some (n_v 0), some (n_v 0), some (.ref a16), some (n_v 0), x18, x19, x20, x21, x22]) q83_460 rfl rfl ?_
    refine e_st (pc := 462) q83_462 rfl rfl ?_
    refine e_cst (v := 2) (len := 1) (pc := 464) q83_464 rfl rfl rfl ?_
    refine e_cmp false (pc := 465) q83_465 ⟨by omega, by omega⟩ ⟨by omega, by omega⟩ (n_f_ge (by omega)) ?_
    refine e_st (pc := 468) q83_468 rfl rfl ?_
    refine e_cst (v := 1) (len := 1) (pc := 470) q83_470 rfl rfl rfl ?_
    refine e_cmp true (pc := 471) q83_471 ⟨by omega, by omega⟩ ⟨by omega, by omega⟩ (n_t_ne (by omega)) ?_
    refine e_cst (v := 0) (len := 1) (pc := 483) q83_483 rfl rfl rfl ?_
    refine e_st (pc := 484) (L2 := [some (.retAddr 0), some (.ref 0), some (n_v ↑n), some (n_v 1), some (n_v 1), some (.ref a5), some (.ref a6), some (.ref a7), some (n_v ↑many), some (n_v ↑it), some (n_v ↑ac), some (n_v ca), some (n_v 0), some (n_v 0), some (n_v 0), some (n_v 0), some (.ref a16), some (n_v 0), x18, x19, x20, x21, x22]) q83_484 rfl rfl ?_
    refine e_st (pc := 486) q83_486 rfl rfl ?_
    refine e_st (pc := 488) (L2 := [some (.retAddr 0), some (.ref 0), some (n_v ↑n), some (n_v 1), some (n_v 1), some (.ref a5), some (.ref a6), some (.ref a7), some (n_v ↑many), some (n_v ↑it), some (n_v ↑ac), some (n_v ca), some (n_v 0), some (n_v 0), some (n_v 0), some (n_v 0), some (.ref a16), some (n_v 0), some (n_v 0), x19, x20, x21, x22]) q83_488 rfl rfl ?_
    refine e_st (pc := 490) q83_490 rfl rfl ?_
    refine e_st (pc := 492) (L2 := [some (.retAddr 0), some (.ref 0), some (n_v ↑n), some (n_v 1), some (n_v 1), some (.ref a5), some (.ref a6), some (.ref a7), some (n_v ↑many), some (n_v ↑it), some (n_v ↑ac), some (n_v ca), some (n_v 0), some (n_v 0), some (n_v 0), some (n_v 0), some (.ref a16), some (n_v 0), some (n_v 0), x19, x20, x21, x22]) q83_492 rfl rfl ?_
    refine e_cst (v := 0) (len := 1) (pc := 494) q83_494 rfl rfl rfl ?_
    refine e_st (pc := 495) (L2 := [some (.retAddr 0), some (.ref 0), some (n_v ↑n), some (n_v 1), some (n_v 1), some (.ref a5), some (.ref a6), some (.ref a7), some (n_v ↑many), some (n_v ↑it), some (n_v ↑ac), some (n_v ca), some (n_v 0), some (n_v 0), some (n_v 0), some (n_v 0), some (.ref a16), some (n_v 0), some (n_v 0), some (n_v 0), x20, x21, x22]) q83_495 rfl rfl ?_
    refine s83jf (h := h0) (bg := 0) (by omega) hca ⟨by omega, by omega⟩ hrow ⟨by omega, by omega⟩ ar5 ar6 (fun h1 th1 y20 y21 y22 c1 ar16 hth => ?_) n 0 h0 _ _ _ _ (by omega) (c_ch.rf _ _) ar16 (fun t ht => by omega)
    have ar5 := ar5.ch c1 (by simp; omega)
    have ar6 := ar6.ch c1 (by simp; omega)
    have hb0 := m_ld_b (li := ca) (st := 0) (cf := hd) (bf := rw) (o := (fun t => t)) (n := n) ⟨by omega, by omega⟩ hb2 n (Nat.le_refl n)
    refine e_st (pc := 616) q83_616 rfl rfl ?_
    refine e_st (pc := 618) (L2 := [some (.retAddr 0), some (.ref 0), some (n_v ↑n), some (n_v 1), some (n_v 1), some (.ref a5), some (.ref a6), some (.ref a7), some (n_v ↑many), some (n_v ↑it), some (n_v ↑ac), some (n_v ca), some (n_v 0), some (n_v 0), some (n_v (m_mx ca 0 hd rw (fun t => t) n)), some (n_v (m_ld ca 0 hd rw (fun t => t) n)), some (.ref a16), some (n_v 0), some (n_v (m_ld ca 0 hd rw (fun t => t) n)), some (n_v ↑n), y20, y21, y22]) q83_618 rfl rfl ?_
    refine e_inc (pc := 620) (L2 := [some (.retAddr 0), some (.ref 0), some (n_v ↑n), some (n_v 1), some (n_v 1), some (.ref a5), some (.ref a6), some (.ref a7), some (n_v ↑many), some (n_v ↑it), some (n_v ↑ac), some (n_v ca), some (n_v 0), some (n_v 0), some (n_v (m_mx ca 0 hd rw (fun t => t) n)), some (n_v (m_ld ca 0 hd rw (fun t => t) n)), some (.ref a16), some (n_v 1), some (n_v (m_ld ca 0 hd rw (fun t => t) n)), some (n_v ↑n), y20, y21, y22]) q83_620 rfl rfl ?_
    refine e_st (pc := 623) q83_623 rfl rfl ?_
    refine e_st (pc := 462) q83_462 rfl rfl ?_
    refine e_cst (v := 2) (len := 1) (pc := 464) q83_464 rfl rfl rfl ?_
    refine e_cmp false (pc := 465) q83_465 ⟨by omega, by omega⟩ ⟨by omega, by omega⟩ (n_f_ge (by omega)) ?_
    refine e_st (pc := 468) q83_468 rfl rfl ?_
    refine e_cst (v := 1) (len := 1) (pc := 470) q83_470 rfl rfl rfl ?_
    refine e_cmp false (pc := 471) q83_471 ⟨by omega, by omega⟩ ⟨by omega, by omega⟩ (n_f_ne (by omega)) ?_
    refine e_st (pc := 474) q83_474 rfl rfl ?_
    refine e_if false (pc := 475) q83_475 ⟨by omega, by omega⟩ (n_f_eq (by omega)) ?_
    refine e_st (pc := 478) q83_478 rfl rfl ?_
    refine e_st (pc := 480) q83_480 rfl rfl ?_
    refine e_st (pc := 484) (L2 := [some (.retAddr 0), some (.ref 0), some (n_v ↑n), some (n_v 1), some (n_v 1), some (.ref a5), some (.ref a6), some (.ref a7), some (n_v ↑many), some (n_v ↑it), some (n_v ↑ac), some (n_v ca), some (n_v 0), some (n_v (m_ld ca 0 hd rw (fun t => t) n)), some (n_v (m_mx ca 0 hd rw (fun t => t) n)), some (n_v (m_ld ca 0 hd rw (fun t => t) n)), some (.ref a16), some (n_v 1), some (n_v (m_ld ca 0 hd rw (fun t => t) n)), some (n_v ↑n), y20, y21, y22]) q83_484 rfl rfl ?_
    refine e_st (pc := 486) q83_486 rfl rfl ?_
    refine e_st (pc := 488) (L2 := [some (.retAddr 0), some (.ref 0), some (n_v ↑n), some (n_v 1), some (n_v 1), some (.ref a5), some (.ref a6), some (.ref a7), some (n_v ↑many), some (n_v ↑it), some (n_v ↑ac), some (n_v ca), some (n_v 0), some (n_v (m_ld ca 0 hd rw (fun t => t) n)), some (n_v (m_mx ca 0 hd rw (fun t => t) n)), some (n_v (m_ld ca 0 hd rw (fun t => t) n)), some (.ref a16), some (n_v 1), some (n_v (m_ld ca 0 hd rw (fun t => t) n)), some (n_v ↑n), y20, y21, y22]) q83_488 rfl rfl ?_
    refine e_st (pc := 490) q83_490 rfl rfl ?_
    refine e_st (pc := 492) (L2 := [some (.retAddr 0), some (.ref 0), some (n_v ↑n), some (n_v 1), some (n_v 1), some (.ref a5), some (.ref a6), some (.ref a7), some (n_v ↑many), some (n_v ↑it), some (n_v ↑ac), some (n_v ca), some (n_v 0), some (n_v (m_ld ca 0 hd rw (fun t => t) n)), some (n_v (m_ld ca 0 hd rw (fun t => t) n)), some (n_v (m_ld ca 0 hd rw (fun t => t) n)), some (.ref a16), some (n_v 1), some (n_v (m_ld ca 0 hd rw (fun t => t) n)), some (n_v ↑n), y20, y21, y22]) q83_492 rfl rfl ?_
    refine e_cst (v := 0) (len := 1) (pc := 494) q83_494 rfl rfl rfl ?_
    refine e_st (pc := 495) (L2 := [some (.retAddr 0), some (.ref 0), some (n_v ↑n), some (n_v 1), some (n_v 1), some (.ref a5), some (.ref a6), some (.ref a7), some (n_v ↑many), some (n_v ↑it), some (n_v ↑ac), some (n_v ca), some (n_v 0), some (n_v (m_ld ca 0 hd rw (fun t => t) n)), some (n_v (m_ld ca 0 hd rw (fun t => t) n)), some (n_v (m_ld ca 0 hd rw (fun t => t) n)), some (.ref a16), some (n_v 1), some (n_v (m_ld ca 0 hd rw (fun t => t) n)), some (n_v 0), y20, y21, y22]) q83_495 rfl rfl ?_
    refine s83jf (h := h1) (bg := m_ld ca 0 hd rw (fun t => t) n) (by omega) hca hb0 hrow ⟨by omega, by omega⟩ ar5 ar6 (fun h2 th2 y20 y21 y22 c2 ar16 hth => ?_) n 0 h1 _ _ _ _ (by omega) (c_ch.rf _ _) ar16 (fun t ht => by omega)
    have ar5 := ar5.ch c2 (by simp; omega)
    have ar6 := ar6.ch c2 (by simp; omega)
    refine e_st (pc := 616) q83_616 rfl rfl ?_
    refine e_st (pc := 618) (L2 := [some (.retAddr 0), some (.ref 0), some (n_v ↑n), some (n_v 1), some (n_v 1), some (.ref a5), some (.ref a6), some (.ref a7), some (n_v ↑many), some (n_v ↑it), some (n_v ↑ac), some (n_v ca), some (n_v 0), some (n_v (m_ld ca 0 hd rw (fun t => t) n)), some (n_v (m_mx ca (m_ld ca 0 hd rw (fun t => t) n) hd rw (fun t => t) n)), some (n_v (m_ld ca (m_ld ca 0 hd rw (fun t => t) n) hd rw (fun t => t) n)), some (.ref a16), some (n_v 1), some (n_v (m_ld ca (m_ld ca 0 hd rw (fun t => t) n) hd rw (fun t => t) n)), some (n_v ↑n), y20, y21, y22]) q83_618 rfl rfl ?_
    refine e_inc (pc := 620) (L2 := [some (.retAddr 0), some (.ref 0), some (n_v ↑n), some (n_v 1), some (n_v 1), some (.ref a5), some (.ref a6), some (.ref a7), some (n_v ↑many), some (n_v ↑it), some (n_v ↑ac), some (n_v ca), some (n_v 0), some (n_v (m_ld ca 0 hd rw (fun t => t) n)), some (n_v (m_mx ca (m_ld ca 0 hd rw (fun t => t) n) hd rw (fun t => t) n)), some (n_v (m_ld ca (m_ld ca 0 hd rw (fun t => t) n) hd rw (fun t => t) n)), some (.ref a16), some (n_v 2), some (n_v (m_ld ca (m_ld ca 0 hd rw (fun t => t) n) hd rw (fun t => t) n)), some (n_v ↑n), y20, y21, y22]) q83_620 rfl rfl ?_
    refine e_st (pc := 623) q83_623 rfl rfl ?_
    refine e_st (pc := 462) q83_462 rfl rfl ?_
    refine e_cst (v := 2) (len := 1) (pc := 464) q83_464 rfl rfl rfl ?_
    refine e_cmp true (pc := 465) q83_465 ⟨by omega, by omega⟩ ⟨by omega, by omega⟩ (n_t_ge (by omega)) ?_
    have gx : c_gw h h2 [] := ⟨Nat.le_trans gw0.1 (by rw [c2.1, c1.1]; exact Nat.le_refl _), fun q hq hw => ((c2.2.2 q (by simp; omega)).trans (c1.2.2 q (by simp; omega))).trans (gw0.2 q hq hw)⟩
    have bd1 : m_bd h2 (N + 1) (M + 24) := ((bd.xt (c_xt.ofch c1)).xt (c_xt.ofch c2)).mono (by omega) (by omega)
    have hs : m_s0 1 ca hd rw (fun t => t) n = m_ld ca 0 hd rw (fun t => t) n := rfl
    rw [hs] at K
    exact K h2 a16 th2 _ _ _ _ _ (by omega) gx bd1 ar16 hth
theorem s83tb {n : Nat} {rg ca : Int} {many it ac a5 a6 a7 N M : Nat} {hd rw : Nat → Int} {g : Nat → Nat} {kr : Nat → Nat → Int} {x12 x13 x14 x15 x16 x17 x18 x19 x20 x21 x22 : Option Value} (hI : m_I h n rg many a5 a6 a7 hd rw g kr) (bd : m_bd h N M) (hca : 1 ≤ ca ∧ ca ≤ 100) (hac : ac = 4) (hac2 : ac ≤ 5)
    (K : ∀ (h1 : c_Hp) (a16 : Nat) (th : Nat → Int) (x18 x19 x20 x21 x22 : Option Value), h.length ≤ a16 → c_gw h h1 [] → m_bd h1 (N + 1) (M + 24) → c_ar h1 a16 n th → (∀ t, t < n → th (n - 1 - t) = m_lb ca (m_ld ca (m_s0 rg ca hd rw (fun t => n - 1 - t) n) hd rw (fun t => n - 1 - t) t) (hd (n - 1 - t)) (rw (n - 1 - t))) → c_Ev X 83 626 [some (.retAddr 0), some (.ref 0), some (n_v ↑n), some (n_v rg), some (n_v 1), some (.ref a5), some (.ref a6), some (.ref a7), some (n_v ↑many), some (n_v ↑it), some (n_v ↑ac), some (n_v ca), some (n_v 1), some (n_v (m_s0 rg ca hd rw (fun t => n - 1 - t) n)), some (n_v (m_mx ca (m_s0 rg ca hd rw (fun t => n - 1 - t) n) hd rw (fun t => n - 1 - t) n)), some (n_v (m_ld ca (m_s0 rg ca hd rw (fun t => n - 1 - t) n) hd rw (fun t => n - 1 - t) n)), some (.ref a16), some (n_v 2), x18, x19, x20, x21, x22] [] h1 Q) :
    c_Ev X 83 424 [some (.retAddr 0), some (.ref 0), some (n_v ↑n), some (n_v rg), some (n_v 1), some (.ref a5), some (.ref a6), some (.ref a7), some (n_v ↑many), some (n_v ↑it), some (n_v ↑ac), some (n_v ca), x12, x13, x14, x15, x16, x17, x18, x19, x20, x21, x22] [] h Q := by
  have hrow := hI.rows
  have hlt := hI.lt
  obtain ⟨⟨hn, hrg, hmany, -, -, -⟩, ar5, ar6, -, -, -⟩ := id hI
  have hb2 : ∀ t, t < n → 0 ≤ rw (n - 1 - t) ∧ rw (n - 1 - t) ≤ hd (n - 1 - t) := fun t ht => by have := hrow (n - 1 - t) (by omega); omega
  refine e_st (pc := 424) q83_424 rfl rfl ?_
  refine e_cst (v := 4) (len := 1) (pc := 426) q83_426 rfl rfl rfl ?_
  refine e_cmp false (pc := 427) q83_427 ⟨by omega, by omega⟩ ⟨by omega, by omega⟩ (n_f_ne (by omega)) ?_
  refine e_cst (v := 1) (len := 1) (pc := 430) q83_430 rfl rfl rfl ?_
  refine e_st (pc := 431) q83_431 rfl rfl ?_
  refine e_st (pc := 435) (L2 := [some (.retAddr 0), some (.ref 0), some (n_v ↑n), some (n_v rg), some (n_v 1), some (.ref a5), some (.ref a6), some (.ref a7), some (n_v ↑many), some (n_v ↑it), some (n_v ↑ac), some (n_v ca), some (n_v 1), x13, x14, x15, x16, x17, x18, x19, x20, x21, x22]) q83_435 rfl rfl ?_
  refine e_cst (v := 0) (len := 1) (pc := 437) q83_437 rfl rfl rfl ?_
  refine e_st (pc := 438) (L2 := [some (.retAddr 0), some (.ref 0), some (n_v ↑n), some (n_v rg), some (n_v 1), some (.ref a5), some (.ref a6), some (.ref a7), some (n_v ↑many), some (n_v ↑it), some (n_v ↑ac), some (n_v ca), some (n_v 1), some (n_v 0), x14, x15, x16, x17, x18, x19, x20, x21, x22]) q83_438 rfl rfl ?_
  refine e_cst (v := 0) (len := 1) (pc := 440) q83_440 rfl rfl rfl ?_
  refine e_st (pc := 441) (L2 := [some (.retAddr 0), some (.ref 0), some (n_v ↑n), some (n_v rg), some (n_v 1), some (.ref a5), some (.ref a6), some (.ref a7), some (n_v ↑many), some (n_v ↑it), some (n_v ↑ac), some (n_v ca), some (n_v 1), some (n_v 0), some (n_v 0), x15, x16, x17, x18, x19, x20, x21, x22]) q83_441 rfl rfl ?_
  refine e_cst (v := 0) (len := 1) (pc := 443) q83_443 rfl rfl rfl ?_
  refine e_st (pc := 444) (L2 := [some (.retAddr 0), some (.ref 0), some (n_v ↑n), some (n_v rg), some (n_v 1), some (.ref a5), some (.ref a6), some (.ref a7), some (n_v ↑many), some (n_v ↑it), some (n_v ↑ac), some (n_v ca), some (n_v 1), some (n_v 0), some (n_v 0), some (n_v 0), x16, x17, x18, x19, x20, x21, x22]) q83_444 rfl rfl ?_
  refine e_st (pc := 446) q83_446 rfl rfl ?_
  refine e_newa (n := n) (pc := 447) q83_447 (by omega) ?_
  have gw0 := c_gw.app h [n_arr n (fun _ => 0)]
  have ar5 := ar5.gw gw0 (by simp)
  have ar6 := ar6.gw gw0 (by simp)
  have ar16 := c_ar.new h n (fun _ => 0)
  have bd := bd.app (n := n) (f := fun _ => 0)
  obtain ⟨a16, ha16⟩ : ∃ a : Nat, a = h.length := ⟨_, rfl⟩
  rw [← ha16] at ar16 ⊢
  generalize h ++ [n_arr n (fun _ => 0)] = h0 at gw0 ar5 ar6 ar16 bd ⊢
  refine e_st (pc := 449) (L2 := [some (.retAddr 0), some (.ref 0), some (n_v ↑n), some (n_v rg), some (n_v 1), some (.ref a5), some (.ref a6), some (.ref a7), some (n_v ↑many), some (n_v ↑it), some (n_v ↑ac), some (n_v ca), some (n_v 1), some (n_v 0), some (n_v 0), some (n_v 0), some (.ref a16), x17, x18, x19, x20, x21, x22]) q83_449 rfl rfl ?_
  refine e_st (pc := 451) q83_451 rfl rfl ?_
  rcases hrg with hrg | hrg
  · subst hrg
    refine e_if true (pc := 452) q83_452 ⟨by omega, by omega⟩ (n_t_eq (by omega)) ?_
    refine e_cst (v := 1) (len := 1) (pc := 459) q83_459 rfl rfl rfl ?_
    refine e_st (pc := 460) (L2 := [some (.retAddr 0), some (.ref 0), some (n_v ↑n), some (n_v 0), some (n_v 1), some (.ref a5), some (.ref a6), some (.ref a7), some (n_v ↑many), some (n_v ↑it), some (n_v ↑ac), some (n_v ca), some (n_v 1), some (n_v 0), some (n_v 0), some (n_v 0), some (.ref a16), some (n_v 1), x18, x19, x20, x21, x22]) q83_460 rfl rfl ?_
    refine e_st (pc := 462) q83_462 rfl rfl ?_
    refine e_cst (v := 2) (len := 1) (pc := 464) q83_464 rfl rfl rfl ?_
    refine e_cmp false (pc := 465) q83_465 ⟨by omega, by omega⟩ ⟨by omega, by omega⟩ (n_f_ge (by omega)) ?_
    refine e_st (pc := 468) q83_468 rfl rfl ?_
    refine e_cst (v := 1) (len := 1) (pc := 470) q83_470 rfl rfl rfl ?_
    refine e_cmp false (pc := 471) q83_471 ⟨by omega, by omega⟩ ⟨by omega, by omega⟩ (n_f_ne (by omega)) ?_
    refine e_st (pc := 474) q83_474 rfl rfl ?_
    refine e_if true (pc := 475) q83_475 ⟨by omega, by omega⟩ (n_t_eq (by omega)) ?_
    refine e_cst (v := 0) (len := 1) (pc := 483) q83_483 rfl rfl rfl ?_
    refine e_st (pc := 484) (L2 := [some (.retAddr 0), some (.ref 0), some (n_v ↑n), some (n_v 0), some (n_v 1), some (.ref a5), some (.ref a6), some (.ref a7), some (n_v ↑many), some (n_v ↑it), some (n_v ↑ac), some (n_v ca), some (n_v 1), some (n_v 0), some (n_v 0), some (n_v 0), some (.ref a16), some (n_v 1), x18, x19, x20, x21, x22]) q83_484 rfl rfl ?_
    refine e_st (pc := 486) q83_486 rfl rfl ?_
    refine e_st (pc := 488) (L2 := [some (.retAddr 0), some (.ref 0), some (n_v ↑n), some (n_v 0), some (n_v 1), some (.ref a5), some (.ref a6), some (.ref a7), some (n_v ↑many), some (n_v ↑it), some (n_v ↑ac), some (n_v ca), some (n_v 1), some (n_v 0), some (n_v 0), some (n_v 0), some (.ref a16), some (n_v 1), some (n_v 0), x19, x20, x21, x22]) q83_488 rfl rfl ?_
    refine e_st (pc := 490) q83_490 rfl rfl ?_
    refine e_st (pc := 492) (L2 := [some (.retAddr 0), some (.ref 0), some (n_v ↑n), some (n_v 0), some (n_v 1), some (.ref a5), some (.ref a6), some (.ref a7), some (n_v ↑many), some (n_v ↑it), some (n_v ↑ac), some (n_v ca), some (n_v 1), some (n_v 0), some (n_v 0), some (n_v 0), some (.ref a16), some (n_v 1), some (n_v 0), x19, x20, x21, x22]) q83_492 rfl rfl ?_
    refine e_cst (v := 0) (len := 1) (pc := 494) q83_494 rfl rfl rfl ?_
    refine e_st (pc := 495) (L2 := [some (.retAddr 0), some (.ref 0), some (n_v ↑n), some (n_v 0), some (n_v 1), some (.ref a5), some (.ref a6), some (.ref a7), some (n_v ↑many), some (n_v ↑it), some (n_v ↑ac), some (n_v ca), some (n_v 1), some (n_v 0), some (n_v 0), some (n_v 0), some (.ref a16), some (n_v 1), some (n_v 0), some (n_v 0), x20, x21, x22]) q83_495 rfl rfl ?_
    refine s83jb (h := h0) (bg := 0) (by omega) hca ⟨by omega, by omega⟩ hrow ⟨by omega, by omega⟩ ar5 ar6 (fun h1 th1 y20 y21 y22 c1 ar16 hth => ?_) n 0 h0 _ _ _ _ (by omega) (c_ch.rf _ _) ar16 (fun t ht => by omega)
    have ar5 := ar5.ch c1 (by simp; omega)
    have ar6 := ar6.ch c1 (by simp; omega)
    refine e_st (pc := 616) q83_616 rfl rfl ?_
    refine e_st (pc := 618) (L2 := [some (.retAddr 0), some (.ref 0), some (n_v ↑n), some (n_v 0), some (n_v 1), some (.ref a5), some (.ref a6), some (.ref a7), some (n_v ↑many), some (n_v ↑it), some (n_v ↑ac), some (n_v ca), some (n_v 1), some (n_v 0), some (n_v (m_mx ca 0 hd rw (fun t => n - 1 - t) n)), some (n_v (m_ld ca 0 hd rw (fun t => n - 1 - t) n)), some (.ref a16), some (n_v 1), some (n_v (m_ld ca 0 hd rw (fun t => n - 1 - t) n)), some (n_v ↑n), y20, y21, y22]) q83_618 rfl rfl ?_
    refine e_inc (pc := 620) (L2 := [some (.retAddr 0), some (.ref 0), some (n_v ↑n), some (n_v 0), some (n_v 1), some (.ref a5), some (.ref a6), some (.ref a7), some (n_v ↑many), some (n_v ↑it), some (n_v ↑ac), some (n_v ca), some (n_v 1), some (n_v 0), some (n_v (m_mx ca 0 hd rw (fun t => n - 1 - t) n)), some (n_v (m_ld ca 0 hd rw (fun t => n - 1 - t) n)), some (.ref a16), some (n_v (1 + 1)), some (n_v (m_ld ca 0 hd rw (fun t => n - 1 - t) n)), some (n_v ↑n), y20, y21, y22]) q83_620 rfl rfl ?_
    refine e_st (pc := 623) q83_623 rfl rfl ?_
    refine e_st (pc := 462) q83_462 rfl rfl ?_
    refine e_cst (v := 2) (len := 1) (pc := 464) q83_464 rfl rfl rfl ?_
    refine e_cmp true (pc := 465) q83_465 ⟨by omega, by omega⟩ ⟨by omega, by omega⟩ (n_t_ge (by omega)) ?_
    have gx : c_gw h h1 [] := ⟨Nat.le_trans gw0.1 (by rw [c1.1]; exact Nat.le_refl _), fun q hq hw => (c1.2.2 q (by simp; omega)).trans (gw0.2 q hq hw)⟩
    have bd1 : m_bd h1 (N + 1) (M + 24) := (bd.xt (c_xt.ofch c1)).mono (by omega) (by omega)
    have hs : m_s0 0 ca hd rw (fun t => n - 1 - t) n = 0 := rfl
    rw [hs] at K
    exact K h1 a16 th1 _ _ _ _ _ (by omega) gx bd1 ar16 hth
  · subst hrg
    refine e_if false (pc := 452) q83_452 ⟨by omega, by omega⟩ (n_f_eq (by omega)) ?_
    refine e_cst (v := 0) (len := 1) (pc := 455) q83_455 rfl rfl rfl ?_
    refine e_st (pc := 456) q83_456 rfl rfl ?_
    refine e_st (pc := 460) (L2 := [some (.retAddr 0), some (.ref 0), some (n_v ↑n), some (n_v 1), some (n_v 1), some (.ref a5), some (.ref a6), some (.ref a7), some (n_v ↑many), some (n_v ↑it), some (n_v ↑ac), some (n_v ca), some (n_v 1), some (n_v 0), some (n_v 0), some (n_v 0), some (.ref a16), some (n_v 0), x18, x19, x20, x21, x22]) q83_460 rfl rfl ?_
    refine e_st (pc := 462) q83_462 rfl rfl ?_
    refine e_cst (v := 2) (len := 1) (pc := 464) q83_464 rfl rfl rfl ?_
    refine e_cmp false (pc := 465) q83_465 ⟨by omega, by omega⟩ ⟨by omega, by omega⟩ (n_f_ge (by omega)) ?_
    refine e_st (pc := 468) q83_468 rfl rfl ?_
    refine e_cst (v := 1) (len := 1) (pc := 470) q83_470 rfl rfl rfl ?_
    refine e_cmp true (pc := 471) q83_471 ⟨by omega, by omega⟩ ⟨by omega, by omega⟩ (n_t_ne (by omega)) ?_
    refine e_cst (v := 0) (len := 1) (pc := 483) q83_483 rfl rfl rfl ?_
    refine e_st (pc := 484) (L2 := [some (.retAddr 0), some (.ref 0), some (n_v ↑n), some (n_v 1), some (n_v 1), some (.ref a5), some (.ref a6), some (.ref a7), some (n_v ↑many), some (n_v ↑it), some (n_v ↑ac), some (n_v ca), some (n_v 1), some (n_v 0), some (n_v 0), some (n_v 0), some (.ref a16), some (n_v 0), x18, x19, x20, x21, x22]) q83_484 rfl rfl ?_
    refine e_st (pc := 486) q83_486 rfl rfl ?_
    refine e_st (pc := 488) (L2 := [some (.retAddr 0), some (.ref 0), some (n_v ↑n), some (n_v 1), some (n_v 1), some (.ref a5), some (.ref a6), some (.ref a7), some (n_v ↑many), some (n_v ↑it), some (n_v ↑ac), some (n_v ca), some (n_v 1), some (n_v 0), some (n_v 0), some (n_v 0), some (.ref a16), some (n_v 0), some (n_v 0), x19, x20, x21, x22]) q83_488 rfl rfl ?_
    refine e_st (pc := 490) q83_490 rfl rfl ?_
    refine e_st (pc := 492) (L2 := [some (.retAddr 0), some (.ref 0), some (n_v ↑n), some (n_v 1), some (n_v 1), some (.ref a5), some (.ref a6), some (.ref a7), some (n_v ↑many), some (n_v ↑it), some (n_v ↑ac), some (n_v ca), some (n_v 1), some (n_v 0), some (n_v 0), some (n_v 0), some (.ref a16), some (n_v 0), some (n_v 0), x19, x20, x21, x22]) q83_492 rfl rfl ?_
    refine e_cst (v := 0) (len := 1) (pc := 494) q83_494 rfl rfl rfl ?_
    refine e_st (pc := 495) (L2 := [some (.retAddr 0), some (.ref 0), some (n_v ↑n), some (n_v 1), some (n_v 1), some (.ref a5), some (.ref a6), some (.ref a7), some (n_v ↑many), some (n_v ↑it), some (n_v ↑ac), some (n_v ca), some (n_v 1), some (n_v 0), some (n_v 0), some (n_v 0), some (.ref a16), some (n_v 0), some (n_v 0), some (n_v 0), x20, x21, x22]) q83_495 rfl rfl ?_
    refine s83jb (h := h0) (bg := 0) (by omega) hca ⟨by omega, by omega⟩ hrow ⟨by omega, by omega⟩ ar5 ar6 (fun h1 th1 y20 y21 y22 c1 ar16 hth => ?_) n 0 h0 _ _ _ _ (by omega) (c_ch.rf _ _) ar16 (fun t ht => by omega)
    have ar5 := ar5.ch c1 (by simp; omega)
    have ar6 := ar6.ch c1 (by simp; omega)
    have hb0 := m_ld_b (li := ca) (st := 0) (cf := hd) (bf := rw) (o := (fun t => n - 1 - t)) (n := n) ⟨by omega, by omega⟩ hb2 n (Nat.le_refl n)
    refine e_st (pc := 616) q83_616 rfl rfl ?_
    refine e_st (pc := 618) (L2 := [some (.retAddr 0), some (.ref 0), some (n_v ↑n), some (n_v 1), some (n_v 1), some (.ref a5), some (.ref a6), some (.ref a7), some (n_v ↑many), some (n_v ↑it), some (n_v ↑ac), some (n_v ca), some (n_v 1), some (n_v 0), some (n_v (m_mx ca 0 hd rw (fun t => n - 1 - t) n)), some (n_v (m_ld ca 0 hd rw (fun t => n - 1 - t) n)), some (.ref a16), some (n_v 0), some (n_v (m_ld ca 0 hd rw (fun t => n - 1 - t) n)), some (n_v ↑n), y20, y21, y22]) q83_618 rfl rfl ?_
    refine e_inc (pc := 620) (L2 := [some (.retAddr 0), some (.ref 0), some (n_v ↑n), some (n_v 1), some (n_v 1), some (.ref a5), some (.ref a6), some (.ref a7), some (n_v ↑many), some (n_v ↑it), some (n_v ↑ac), some (n_v ca), some (n_v 1), some (n_v 0), some (n_v (m_mx ca 0 hd rw (fun t => n - 1 - t) n)), some (n_v (m_ld ca 0 hd rw (fun t => n - 1 - t) n)), some (.ref a16), some (n_v 1), some (n_v (m_ld ca 0 hd rw (fun t => n - 1 - t) n)), some (n_v ↑n), y20, y21, y22]) q83_620 rfl rfl ?_
    refine e_st (pc := 623) q83_623 rfl rfl ?_
    refine e_st (pc := 462) q83_462 rfl rfl ?_
    refine e_cst (v := 2) (len := 1) (pc := 464) q83_464 rfl rfl rfl ?_
    refine e_cmp false (pc := 465) q83_465 ⟨by omega, by omega⟩ ⟨by omega, by omega⟩ (n_f_ge (by omega)) ?_
    refine e_st (pc := 468) q83_468 rfl rfl ?_
    refine e_cst (v := 1) (len := 1) (pc := 470) q83_470 rfl rfl rfl ?_
    refine e_cmp false (pc := 471) q83_471 ⟨by omega, by omega⟩ ⟨by omega, by omega⟩ (n_f_ne (by omega)) ?_
    refine e_st (pc := 474) q83_474 rfl rfl ?_
    refine e_if false (pc := 475) q83_475 ⟨by omega, by omega⟩ (n_f_eq (by omega)) ?_
    refine e_st (pc := 478) q83_478 rfl rfl ?_
    refine e_st (pc := 480) q83_480 rfl rfl ?_
    refine e_st (pc := 484) (L2 := [some (.retAddr 0), some (.ref 0), some (n_v ↑n), some (n_v 1), some (n_v 1), some (.ref a5), some (.ref a6), some (.ref a7), some (n_v ↑many), some (n_v ↑it), some (n_v ↑ac), some (n_v ca), some (n_v 1), some (n_v (m_ld ca 0 hd rw (fun t => n - 1 - t) n)), some (n_v (m_mx ca 0 hd rw (fun t => n - 1 - t) n)), some (n_v (m_ld ca 0 hd rw (fun t => n - 1 - t) n)), some (.ref a16), some (n_v 1), some (n_v (m_ld ca 0 hd rw (fun t => n - 1 - t) n)), some (n_v ↑n), y20, y21, y22]) q83_484 rfl rfl ?_
    refine e_st (pc := 486) q83_486 rfl rfl ?_
    refine e_st (pc := 488) (L2 := [some (.retAddr 0), some (.ref 0), some (n_v ↑n), some (n_v 1), some (n_v 1), some (.ref a5), some (.ref a6), some (.ref a7), some (n_v ↑many), some (n_v ↑it), some (n_v ↑ac), some (n_v ca), some (n_v 1), some (n_v (m_ld ca 0 hd rw (fun t => n - 1 - t) n)), some (n_v (m_mx ca 0 hd rw (fun t => n - 1 - t) n)), some (n_v (m_ld ca 0 hd rw (fun t => n - 1 - t) n)), some (.ref a16), some (n_v 1), some (n_v (m_ld ca 0 hd rw (fun t => n - 1 - t) n)), some (n_v ↑n), y20, y21, y22]) q83_488 rfl rfl ?_
    refine e_st (pc := 490) q83_490 rfl rfl ?_
    refine e_st (pc := 492) (L2 := [some (.retAddr 0), some (.ref 0), some (n_v ↑n), some (n_v 1), some (n_v 1), some (.ref a5), some (.ref a6), some (.ref a7), some (n_v ↑many), some (n_v ↑it), some (n_v ↑ac), some (n_v ca), some (n_v 1), some (n_v (m_ld ca 0 hd rw (fun t => n - 1 - t) n)), some (n_v (m_ld ca 0 hd rw (fun t => n - 1 - t) n)), some (n_v (m_ld ca 0 hd rw (fun t => n - 1 - t) n)), some (.ref a16), some (n_v 1), some (n_v (m_ld ca 0 hd rw (fun t => n - 1 - t) n)), some (n_v ↑n), y20, y21, y22]) q83_492 rfl rfl ?_
    refine e_cst (v := 0) (len := 1) (pc := 494) q83_494 rfl rfl rfl ?_
    refine e_st (pc := 495) (L2 := [some (.retAddr 0), some (.ref 0), some (n_v ↑n), some (n_v 1), some (n_v 1), some (.ref a5), some (.ref a6), some (.ref a7), some (n_v ↑many), some (n_v ↑it), some (n_v ↑ac), some (n_v ca), some (n_v 1), some (n_v (m_ld ca 0 hd rw (fun t => n - 1 - t) n)), some (n_v (m_ld ca 0 hd rw (fun t => n - 1 - t) n)), some (n_v (m_ld ca 0 hd rw (fun t => n - 1 - t) n)), some (.ref a16), some (n_v 1), some (n_v (m_ld ca 0 hd rw (fun t => n - 1 - t) n)), some (n_v 0), y20, y21, y22]) q83_495 rfl rfl ?_
    refine s83jb (h := h1) (bg := m_ld ca 0 hd rw (fun t => n - 1 - t) n) (by omega) hca hb0 hrow ⟨by omega, by omega⟩ ar5 ar6 (fun h2 th2 y20 y21 y22 c2 ar16 hth => ?_) n 0 h1 _ _ _ _ (by omega) (c_ch.rf _ _) ar16 (fun t ht => by omega)
    have ar5 := ar5.ch c2 (by simp; omega)
    have ar6 := ar6.ch c2 (by simp; omega)
    refine e_st (pc := 616) q83_616 rfl rfl ?_
    refine e_st (pc := 618) (L2 := [some (.retAddr 0), some (.ref 0), some (n_v ↑n), some (n_v 1), some (n_v 1), some (.ref a5), some (.ref a6), some (.ref a7), some (n_v ↑many), some (n_v ↑it), some (n_v ↑ac), some (n_v ca), some (n_v 1), some (n_v (m_ld ca 0 hd rw (fun t => n - 1 - t) n)), some (n_v (m_mx ca (m_ld ca 0 hd rw (fun t => n - 1 - t) n) hd rw (fun t => n - 1 - t) n)), some (n_v (m_ld ca (m_ld ca 0 hd rw (fun t => n - 1 - t) n) hd rw (fun t => n - 1 - t) n)), some (.ref a16), some (n_v 1), some (n_v (m_ld ca (m_ld ca 0 hd rw (fun t => n - 1 - t) n) hd rw (fun t => n - 1 - t) n)), some (n_v ↑n), y20, y21, y22]) q83_618 rfl rfl ?_
    refine e_inc (pc := 620) (L2 := [some (.retAddr 0), some (.ref 0), some (n_v ↑n), some (n_v 1), some (n_v 1), some (.ref a5), some (.ref a6), some (.ref a7), some (n_v ↑many), some (n_v ↑it), some (n_v ↑ac), some (n_v ca), some (n_v 1), some (n_v (m_ld ca 0 hd rw (fun t => n - 1 - t) n)), some (n_v (m_mx ca (m_ld ca 0 hd rw (fun t => n - 1 - t) n) hd rw (fun t => n - 1 - t) n)), some (n_v (m_ld ca (m_ld ca 0 hd rw (fun t => n - 1 - t) n) hd rw (fun t => n - 1 - t) n)), some (.ref a16), some (n_v 2), some (n_v (m_ld ca (m_ld ca 0 hd rw (fun t => n - 1 - t) n) hd rw (fun t => n - 1 - t) n)), some (n_v ↑n), y20, y21, y22]) q83_620 rfl rfl ?_
    refine e_st (pc := 623) q83_623 rfl rfl ?_
    refine e_st (pc := 462) q83_462 rfl rfl ?_
    refine e_cst (v := 2) (len := 1) (pc := 464) q83_464 rfl rfl rfl ?_
    refine e_cmp true (pc := 465) q83_465 ⟨by omega, by omega⟩ ⟨by omega, by omega⟩ (n_t_ge (by omega)) ?_
    have gx : c_gw h h2 [] := ⟨Nat.le_trans gw0.1 (by rw [c2.1, c1.1]; exact Nat.le_refl _), fun q hq hw => ((c2.2.2 q (by simp; omega)).trans (c1.2.2 q (by simp; omega))).trans (gw0.2 q hq hw)⟩
    have bd1 : m_bd h2 (N + 1) (M + 24) := ((bd.xt (c_xt.ofch c1)).xt (c_xt.ofch c2)).mono (by omega) (by omega)
    have hs : m_s0 1 ca hd rw (fun t => n - 1 - t) n = m_ld ca 0 hd rw (fun t => n - 1 - t) n := rfl
    rw [hs] at K
    exact K h2 a16 th2 _ _ _ _ _ (by omega) gx bd1 ar16 hth
end Ms
