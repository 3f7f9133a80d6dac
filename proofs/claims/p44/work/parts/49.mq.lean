/-! A turn of the great loop: what is done. -/
section Ms
variable {X : List Int32} {h : c_Hp} {Q : c_O × c_Hp → Prop}
theorem s83w {n : Nat} {rg : Int} {many it a5 a6 a7 N M : Nat} {hd rw : Nat → Int} {g : Nat → Nat} {kr : Nat → Nat → Int} {x10 x11 x12 x13 x14 x15 x16 x17 x18 x19 x20 x21 x22 : Option Value} (hX : X.length ≤ 260) (hit : it < 12) (hI : m_I h n rg many a5 a6 a7 hd rw g kr) (bd : m_bd h N M)
    (K : ∀ (h1 : c_Hp) (many' a6' : Nat) (rw' : Nat → Int) (g' : Nat → Nat) (kr' : Nat → Nat → Int) (y10 y11 : Int) (x12 x13 x14 x15 x16 x17 x18 x19 x20 x21 x22 : Option Value), m_I h1 n rg many' a5 a6' a7 hd rw' g' kr' → m_bd h1 (N + 9) (M + 216) → c_Ev X 83 755 [some (.retAddr 0), some (.ref 0), some (n_v ↑n), some (n_v rg), some (n_v 1), some (.ref a5), some (.ref a6'), some (.ref a7), some (n_v ↑many'), some (n_v ↑it), some (n_v y10), some (n_v y11), x12, x13, x14, x15, x16, x17, x18, x19, x20, x21, x22] [] h1 Q) :
    c_Ev X 83 296 [some (.retAddr 0), some (.ref 0), some (n_v ↑n), some (n_v rg), some (n_v 1), some (.ref a5), some (.ref a6), some (.ref a7), some (n_v ↑many), some (n_v ↑it), x10, x11, x12, x13, x14, x15, x16, x17, x18, x19, x20, x21, x22] [] h Q := by
  have hlt := hI.lt
  obtain ⟨⟨hn, hrg, hmany, h58, hdis, hg⟩, ar5, ar6, aa, ak, cf, bf, H, hW, hx, hH⟩ := id hI
  refine e_st (pc := 296) q83_296 rfl rfl ?_
  refine e_cst (v := 12) (len := 2) (pc := 298) q83_298 rfl rfl (by decide +kernel) ?_
  refine e_cmp false (pc := 300) q83_300 ⟨by omega, by omega⟩ ⟨by omega, by omega⟩ (n_f_ge (by omega)) ?_
  refine e_st (pc := 303) q83_303 rfl rfl ?_
  refine e_cst (v := 70) (len := 2) (pc := 304) q83_304 rfl rfl (by decide +kernel) ?_
  refine e_st (pc := 306) q83_306 rfl rfl ?_
  refine e_add (pc := 308) q83_308 ?_
  rw [show (70 : Int) + (it : Int) = ((70 + it : Nat) : Int) by omega]
  refine e_cst (v := 6) (len := 2) (pc := 309) q83_309 rfl rfl (by decide +kernel) ?_
  refine e_callS (pc := 311) (mz := c_m78) (L0 := [some (.retAddr 0), some (n_v ((70 + it : Nat) : Int)), some (n_v 6)]) (rest := []) q83_311 rfl rfl rfl rfl rfl rfl rfl rfl rfl ?_
  refine s78 (i := 70 + it) (n := 6) hX (by omega) (by omega) (fun ac hac => ?_)
  refine e_k (pc := 311) ?_
  refine e_st (pc := 314) (L2 := [some (.retAddr 0), some (.ref 0), some (n_v ↑n), some (n_v rg), some (n_v 1), some (.ref a5), some (.ref a6), some (.ref a7), some (n_v ↑many), some (n_v ↑it), some (n_v ↑ac), x11, x12, x13, x14, x15, x16, x17, x18, x19, x20, x21, x22]) q83_314 rfl rfl ?_
  refine e_cst (v := 1) (len := 1) (pc := 316) q83_316 rfl rfl rfl ?_
  refine e_st (pc := 317) q83_317 rfl rfl ?_
  refine e_cst (v := 90) (len := 2) (pc := 318) q83_318 rfl rfl (by decide +kernel) ?_
  refine e_st (pc := 320) q83_320 rfl rfl ?_
  refine e_add (pc := 322) q83_322 ?_
  rw [show (90 : Int) + (it : Int) = ((90 + it : Nat) : Int) by omega]
  refine e_st (pc := 323) q83_323 rfl rfl ?_
  refine e_cst (v := 110) (len := 2) (pc := 324) q83_324 rfl rfl (by decide +kernel) ?_
  refine e_st (pc := 326) q83_326 rfl rfl ?_
  refine e_add (pc := 328) q83_328 ?_
  rw [show (110 : Int) + (it : Int) = ((110 + it : Nat) : Int) by omega]
  refine e_cst (v := 2) (len := 1) (pc := 329) q83_329 rfl rfl rfl ?_
  refine e_callS (pc := 330) (mz := c_m78) (L0 := [some (.retAddr 0), some (n_v ((110 + it : Nat) : Int)), some (n_v 2)]) (rest := [n_v ((90 + it : Nat) : Int), .retAddr 0, n_v 1]) q83_330 rfl rfl rfl rfl rfl rfl rfl rfl rfl ?_
  refine s78 (i := 110 + it) (n := 2) hX (by omega) (by omega) (fun v0 hv0 => ?_)
  refine e_k (pc := 330) ?_
  suffices KK : ∀ lim : Nat, (lim = 4 ∨ lim = 99) → c_Ev X 83 342 [some (.retAddr 0), some (.ref 0), some (n_v ↑n), some (n_v rg), some (n_v 1), some (.ref a5), some (.ref a6), some (.ref a7), some (n_v ↑many), some (n_v ↑it), some (n_v ↑ac), x11, x12, x13, x14, x15, x16, x17, x18, x19, x20, x21, x22] [n_v ↑lim, n_v ((90 + it : Nat) : Int), .retAddr 0, n_v 1] h Q from by
    by_cases hc : v0 = 0
    · refine e_if false (pc := 333) q83_333 ⟨by omega, by omega⟩ (n_f_ne (by omega)) ?_
      refine e_cst (v := 4) (len := 1) (pc := 336) q83_336 rfl rfl rfl ?_
      refine e_st (pc := 337) q83_337 rfl rfl ?_
      exact KK 4 (Or.inl rfl)
    · refine e_if true (pc := 333) q83_333 ⟨by omega, by omega⟩ (n_t_ne (by omega)) ?_
      refine e_cst (v := 99) (len := 2) (pc := 340) q83_340 rfl rfl (by decide +kernel) ?_
      exact KK 99 (Or.inr rfl)
  intro lim hlim
  refine e_callS (pc := 342) (mz := c_m78) (L0 := [some (.retAddr 0), some (n_v ((90 + it : Nat) : Int)), some (n_v ↑lim)]) (rest := [n_v 1]) q83_342 rfl rfl rfl rfl rfl rfl rfl rfl rfl ?_
  refine s78 (i := 90 + it) (n := lim) hX (by omega) (by omega) (fun v1 hv1 => ?_)
  refine e_k (pc := 342) ?_
  refine e_add (pc := 345) q83_345 ?_
  obtain ⟨ca, hca0⟩ : ∃ ca : Int, ca = 1 + (v1 : Int) := ⟨_, rfl⟩
  rw [← hca0]
  refine e_st (pc := 346) (L2 := [some (.retAddr 0), some (.ref 0), some (n_v ↑n), some (n_v rg), some (n_v 1), some (.ref a5), some (.ref a6), some (.ref a7), some (n_v ↑many), some (n_v ↑it), some (n_v ↑ac), some (n_v ca), x12, x13, x14, x15, x16, x17, x18, x19, x20, x21, x22]) q83_346 rfl rfl ?_
  refine e_st (pc := 348) q83_348 rfl rfl ?_
  refine e_cst (v := 5) (len := 1) (pc := 350) q83_350 rfl rfl rfl ?_
  by_cases h5 : ac = 5
  · refine e_cmp false (pc := 351) q83_351 ⟨by omega, by omega⟩ ⟨by omega, by omega⟩ (n_f_ne (by omega)) ?_
    refine e_st (pc := 354) q83_354 rfl rfl ?_
    refine e_st (pc := 356) q83_356 rfl rfl ?_
    by_cases hm : many = 0
    · refine e_callS (pc := 357) (mz := c_m77) (L0 := [some (.ref 0), none]) (rest := [n_v 1]) q83_357 rfl rfl rfl rfl rfl rfl rfl rfl rfl ?_
      refine s77 hW (fun _ h1 x1 hW => ?_) (fun e1 => by omega)
      refine e_k (pc := 357) ?_
      refine e_st (pc := 360) q83_360 rfl rfl ?_
      refine e_if false (pc := 362) q83_362 ⟨by omega, by omega⟩ (n_f_ne (by omega)) ?_
      refine e_cst (v := -900001) (len := 2) (pc := 365) q83_365 rfl rfl (by decide +kernel) ?_
      refine e_st (pc := 367) q83_367 rfl rfl ?_
      refine e_cmp false (pc := 374) q83_374 ⟨by omega, by omega⟩ ⟨by omega, by omega⟩ (n_f_ne (by omega)) ?_
      refine e_cst (v := 1) (len := 1) (pc := 377) q83_377 rfl rfl rfl ?_
      refine e_st (pc := 378) q83_378 rfl rfl ?_
      refine e_and1 (pc := 382) q83_382 ?_
      refine e_st (pc := 383) (L2 := [some (.retAddr 0), some (.ref 0), some (n_v ↑n), some (n_v rg), some (n_v 1), some (.ref a5), some (.ref a6), some (.ref a7), some (n_v ↑many), some (n_v ↑it), some (n_v ↑ac), some (n_v ca), x12, x13, x14, x15, x16, x17, x18, x19, x20, x21, x22]) q83_383 rfl rfl ?_
      refine e_st (pc := 385) q83_385 rfl rfl ?_
      refine e_if true (pc := 387) q83_387 ⟨by omega, by omega⟩ (n_t_le (by omega)) ?_
      have hgw := x1.gw
      exact K h1 many a6 rw g kr _ _ _ _ _ _ _ _ _ _ _ _ _ ⟨⟨hn, hrg, hmany, h58, hdis, hg⟩, ar5.gw hgw (by simp), ar6.gw hgw (by simp), aa.gw hgw (by simp), fun i hi => (ak i hi).gw hgw (by simp), cf, bf, H, hW, hx, hH⟩ ((bd.xt x1).mono (by omega) (by omega))
    · refine e_callS (pc := 357) (mz := c_m77) (L0 := [some (.ref 0), none]) (rest := [n_v 1]) q83_357 rfl rfl rfl rfl rfl rfl rfl rfl rfl ?_
      refine s77 hW (fun e1 => by omega) (fun _ h1 cf2 bf2 x1 hcb hW => ?_)
      refine e_k (pc := 357) ?_
      refine e_st (pc := 360) q83_360 rfl rfl ?_
      refine e_if true (pc := 362) q83_362 ⟨by omega, by omega⟩ (n_t_ne (by omega)) ?_
      refine e_st (pc := 370) q83_370 rfl rfl ?_
      refine e_cst (v := 1) (len := 1) (pc := 372) q83_372 rfl rfl rfl ?_
      refine e_sub (pc := 373) q83_373 ?_
      refine e_cmp false (pc := 374) q83_374 ⟨by omega, by omega⟩ ⟨by omega, by omega⟩ (n_f_ne (by omega)) ?_
      refine e_cst (v := 1) (len := 1) (pc := 377) q83_377 rfl rfl rfl ?_
      refine e_st (pc := 378) q83_378 rfl rfl ?_
      refine e_and1 (pc := 382) q83_382 ?_
      refine e_st (pc := 383) (L2 := [some (.retAddr 0), some (.ref 0), some (n_v ↑n), some (n_v rg), some (n_v 1), some (.ref a5), some (.ref a6), some (.ref a7), some (n_v ↑many), some (n_v ↑it), some (n_v ↑ac), some (n_v ca), x12, x13, x14, x15, x16, x17, x18, x19, x20, x21, x22]) q83_383 rfl rfl ?_
      refine e_st (pc := 385) q83_385 rfl rfl ?_
      refine e_if false (pc := 387) q83_387 ⟨by omega, by omega⟩ (n_f_le (by omega)) ?_
      refine e_inc (pc := 390) (L2 := [some (.retAddr 0), some (.ref 0), some (n_v ↑n), some (n_v rg), some (n_v 1), some (.ref a5), some (.ref a6), some (.ref a7), some (n_v (↑many + -1)), some (n_v ↑it), some (n_v ↑ac), some (n_v ca), x12, x13, x14, x15, x16, x17, x18, x19, x20, x21, x22]) q83_390 rfl rfl ?_
      rw [show (many : Int) + -1 = ((many - 1 : Nat) : Int) by omega]
      have hgw := x1.gw
      have hlo : ∀ q, 58 ≤ q → q ∉ List.range 58 := fun q h1 h2 => by simp at h2; omega
      have ar5 := ar5.gw hgw (hlo _ (by omega))
      have ar6 := ar6.gw hgw (hlo _ (by omega))
      have aa := aa.gw hgw (hlo _ (by omega))
      have ak := fun i hi => (ak i hi).gw hgw (hlo _ (hg i hi).1)
      have bd := bd.xt x1
      refine e_cst (v := 0) (len := 1) (pc := 393) q83_393 rfl rfl rfl ?_
      refine e_st (pc := 394) (L2 := [some (.retAddr 0), some (.ref 0), some (n_v ↑n), some (n_v rg), some (n_v 1), some (.ref a5), some (.ref a6), some (.ref a7), some (n_v ((many - 1 : Nat) : Int)), some (n_v ↑it), some (n_v ↑ac), some (n_v ca), some (n_v 0), x13, x14, x15, x16, x17, x18, x19, x20, x21, x22]) q83_394 rfl rfl ?_
      obtain ⟨ca9, hca9⟩ : ∃ c : Nat, (c : Int) = ca := ⟨ca.toNat, by omega⟩
      subst hca9
      refine s83k (h := h1) (mk := many - 1) (by omega) (by omega) ⟨by omega, (hg _ (by omega)).2.2.1⟩ aa (ak _ (by omega)) (fun h2 rw2 c2 ar62 hrw2 => ?_) n 0 h1 rw (by omega) (c_ch.rf _ _) ar6 (fun q hq => by omega)
      refine e_st (pc := 421) q83_421 rfl rfl ?_
      have gw2 := (c_xt.ofch c2).gw
      refine K h2 (many - 1) a6 rw2 g kr _ _ _ _ _ _ _ _ _ _ _ _ _ ⟨⟨hn, hrg, by omega, h58, hdis, hg⟩, ar5.gw gw2 (by simp; omega), ar62, aa.gw gw2 (by simp; omega), fun i hi => (ak i hi).gw gw2 (by have := hg i hi; simp; omega), cf2, bf2, _, hW.gw gw2 (by simp; omega), fun t ht => ⟨(hcb t ht).1.trans (hx t ht).1, ?_⟩, fun j j1 j2 t ht => ?_⟩ ((bd.xt (c_xt.ofch c2)).mono (by omega) (by omega))
      · rw [(hcb t ht).2, hrw2 t ht]
        exact hH 1 (by omega) (by omega) t ht
      · rw [show many - 1 - j = many - (j + 1) by omega]
        exact hH (j + 1) (by omega) (by omega) t ht
  · refine e_cmp true (pc := 351) q83_351 ⟨by omega, by omega⟩ ⟨by omega, by omega⟩ (n_t_ne (by omega)) ?_
    by_cases h4 : ac = 4
    · refine s83tb hI bd (by omega) h4 (by omega) (fun h1 a16 th y18 y19 y20 y21 y22 l16 gw1 bd1 ar16 hth => ?_)
      exact s83vb (hI.gw gw1 (by simp)) bd1 (by omega) ar16 hth ⟨by have := bd.1; omega, by omega, by omega, by omega, fun i hi => by have := hlt.2.2.2 i hi; omega⟩ (fun h2 m2 b6 r2 g2 k2 z12 z13 z14 z15 z16 z17 z18 z19 z20 z21 z22 i2 bd2 => K h2 m2 b6 r2 g2 k2 _ _ z12 z13 z14 z15 z16 z17 z18 z19 z20 z21 z22 i2 (bd2.mono (by omega) (by omega)))
    · refine s83tf hI bd (by omega) h4 (by omega) (fun h1 a16 th y18 y19 y20 y21 y22 l16 gw1 bd1 ar16 hth => ?_)
      exact s83vf (hI.gw gw1 (by simp)) bd1 (by omega) ar16 hth ⟨by have := bd.1; omega, by omega, by omega, by omega, fun i hi => by have := hlt.2.2.2 i hi; omega⟩ (fun h2 m2 b6 r2 g2 k2 z12 z13 z14 z15 z16 z17 z18 z19 z20 z21 z22 i2 bd2 => K h2 m2 b6 r2 g2 k2 _ _ z12 z13 z14 z15 z16 z17 z18 z19 z20 z21 z22 i2 (bd2.mono (by omega) (by omega)))
end Ms
