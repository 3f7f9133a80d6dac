/-! The law, from its entry to its first loop. -/
section Ms
variable {X : List Int32} {h : c_Hp} {Q : c_O × c_Hp → Prop}
theorem s83a (hX : X.length ≤ 260) (K : ∀ (h : c_Hp) (n : Nat) (rg : Int) (a5 a6 : Nat), (1 ≤ n ∧ n ≤ 24) → (rg = 0 ∨ rg = 1) → m_St h n rg (fun _ => 1) (fun _ => 0) 0 (fun _ _ => 0) → m_bd h 100 4000 → 58 ≤ a5 → a5 < a6 → c_ar h a5 n (fun _ => 0) → c_ar h a6 n (fun _ => 0) → c_Ev X 83 120 [some (.retAddr 0), some (.ref 0), some (n_v ↑n), some (n_v rg), some (n_v 1), some (.ref a5), some (.ref a6), some (n_v 0), none, none, none, none, none, none, none, none, none, none, none, none, none, none, none] [] h Q) : c_Ev X 83 0 (c_ent [.retAddr 0] 23) [] [] Q := by
  suffices K0 : c_Ev X 83 0 [some (.retAddr 0), none, none, none, none, none, none, none, none, none, none, none, none, none, none, none, none, none, none, none, none, none, none] [] [] Q from K0
  refine e_st (pc := 0) (st2 := [.ref 0]) (h2 := [some (.inl (10, c_dfl c_ty 10 12))]) q83_0 rfl rfl ?_
  refine e_st (pc := 3) q83_3 rfl rfl ?_
  refine e_callV (pc := 4) (mz := c_m0) (a := 0) (fs := c_dfl c_ty 10 12) (L0 := [some (.ref 0)]) (rest := [.ref 0]) q83_4 rfl rfl rfl rfl rfl rfl rfl rfl rfl rfl ?_
  refine s0 (fun h0 hl0 hm0 hW => ?_)
  refine e_k0 (pc := 4) ?_
  have bd : m_bd h0 58 3000 := ⟨by omega, by omega, hm0⟩
  refine e_st (pc := 7) (L2 := [some (.retAddr 0), some (.ref 0), none, none, none, none, none, none, none, none, none, none, none, none, none, none, none, none, none, none, none, none, none]) q83_7 rfl rfl ?_
  refine e_cst (v := 1) (len := 1) (pc := 8) q83_8 rfl rfl rfl ?_
  refine e_st (pc := 9) q83_9 rfl rfl ?_
  refine e_cst (v := 0) (len := 1) (pc := 10) q83_10 rfl rfl rfl ?_
  refine e_cst (v := 24) (len := 2) (pc := 11) q83_11 rfl rfl (by decide +kernel) ?_
  refine e_callS (pc := 13) (mz := c_m78) (L0 := [some (.retAddr 0), some (n_v 0), some (n_v 24)]) (rest := [n_v 1]) q83_13 rfl rfl rfl rfl rfl rfl rfl rfl rfl ?_
  refine s78 (i := 0) (n := 24) hX (by omega) (by omega) (fun v0 hv0 => ?_)
  refine e_k (pc := 13) ?_
  refine e_add (pc := 16) q83_16 ?_
  rw [show (1 : Int) + (v0 : Int) = ((v0 + 1 : Nat) : Int) by omega]
  generalize hn : v0 + 1 = n
  refine e_st (pc := 17) (L2 := [some (.retAddr 0), some (.ref 0), some (n_v ↑n), none, none, none, none, none, none, none, none, none, none, none, none, none, none, none, none, none, none, none, none]) q83_17 rfl rfl ?_
  refine e_st (pc := 18) q83_18 rfl rfl ?_
  refine e_cst (v := 1) (len := 1) (pc := 19) q83_19 rfl rfl rfl ?_
  refine e_cst (v := 2) (len := 1) (pc := 20) q83_20 rfl rfl rfl ?_
  refine e_callS (pc := 21) (mz := c_m78) (L0 := [some (.retAddr 0), some (n_v 1), some (n_v 2)]) (rest := []) q83_21 rfl rfl rfl rfl rfl rfl rfl rfl rfl ?_
  refine s78 (i := 1) (n := 2) hX (by omega) (by omega) (fun v1 hv1 => ?_)
  refine e_k (pc := 21) ?_
  suffices KK : ∀ rg : Int, (rg = 0 ∨ rg = 1) → c_Ev X 83 32 [some (.retAddr 0), some (.ref 0), some (n_v ↑n), none, none, none, none, none, none, none, none, none, none, none, none, none, none, none, none, none, none, none, none] [n_v rg] h0 Q from by
    by_cases hc : v1 = 0
    · refine e_if false (pc := 24) q83_24 ⟨by omega, by omega⟩ (n_f_ne (by omega)) ?_
      refine e_cst (v := 1) (len := 1) (pc := 27) q83_27 rfl rfl rfl ?_
      refine e_st (pc := 28) q83_28 rfl rfl ?_
      exact KK 1 (Or.inr rfl)
    · refine e_if true (pc := 24) q83_24 ⟨by omega, by omega⟩ (n_t_ne (by omega)) ?_
      refine e_cst (v := 0) (len := 1) (pc := 31) q83_31 rfl rfl rfl ?_
      exact KK 0 (Or.inl rfl)
  intro rg hrg
  refine e_st (pc := 32) (L2 := [some (.retAddr 0), some (.ref 0), some (n_v ↑n), some (n_v rg), none, none, none, none, none, none, none, none, none, none, none, none, none, none, none, none, none, none, none]) q83_32 rfl rfl ?_
  refine e_st (pc := 33) q83_33 rfl rfl ?_
  refine e_cst (v := 61) (len := 2) (pc := 34) q83_34 rfl rfl (by decide +kernel) ?_
  refine e_cst (v := 1) (len := 1) (pc := 36) q83_36 rfl rfl rfl ?_
  refine e_cst (v := 0) (len := 1) (pc := 37) q83_37 rfl rfl rfl ?_
  refine e_callS (pc := 38) (mz := c_m69) (L0 := [some (.ref 0), some (n_v 61), some (n_v 1), some (n_v 0), none]) (rest := []) q83_38 rfl rfl rfl rfl rfl rfl rfl rfl rfl ?_
  refine s69r hW ⟨by omega, by omega⟩ ⟨by omega, by omega⟩ (Or.inl (by omega)) (fun h1 x1 hW => ?_) (Or.inl rfl)
  refine e_k (pc := 38) ?_
  have bd := bd.xt x1
  refine e_cst (v := -900001) (len := 2) (pc := 41) q83_41 rfl rfl (by decide +kernel) ?_
  refine e_cmp false (pc := 43) q83_43 ⟨by omega, by omega⟩ ⟨by omega, by omega⟩ (n_f_ne (by omega)) ?_
  refine e_st (pc := 46) q83_46 rfl rfl ?_
  refine e_cst (v := 1) (len := 1) (pc := 47) q83_47 rfl rfl rfl ?_
  refine e_cst (v := 5) (len := 1) (pc := 48) q83_48 rfl rfl rfl ?_
  refine e_cst (v := 0) (len := 1) (pc := 49) q83_49 rfl rfl rfl ?_
  refine e_callS (pc := 50) (mz := c_m69) (L0 := [some (.ref 0), some (n_v 1), some (n_v 5), some (n_v 0), none]) (rest := []) q83_50 rfl rfl rfl rfl rfl rfl rfl rfl rfl ?_
  refine s69r hW ⟨by omega, by omega⟩ ⟨by omega, by omega⟩ (Or.inr (by omega)) (fun h2 x2 hW => ?_) (Or.inl rfl)
  refine e_k (pc := 50) ?_
  have bd := bd.xt x2
  refine e_cst (v := -900001) (len := 2) (pc := 53) q83_53 rfl rfl (by decide +kernel) ?_
  refine e_cmp false (pc := 55) q83_55 ⟨by omega, by omega⟩ ⟨by omega, by omega⟩ (n_f_ne (by omega)) ?_
  refine e_st (pc := 58) q83_58 rfl rfl ?_
  refine e_st (pc := 59) q83_59 rfl rfl ?_
  refine e_cst (v := 1) (len := 1) (pc := 60) q83_60 rfl rfl rfl ?_
  refine e_st (pc := 61) q83_61 rfl rfl ?_
  refine e_callS (pc := 62) (mz := c_m69) (L0 := [some (.ref 0), some (n_v ↑n), some (n_v 1), some (n_v rg), none]) (rest := []) q83_62 rfl rfl rfl rfl rfl rfl rfl rfl rfl ?_
  refine s69 hW (b := n) (by omega) hrg (fun h3 x3 hW => ?_)
  refine e_k (pc := 62) ?_
  have bd := bd.xt x3
  refine e_cst (v := 10) (len := 2) (pc := 65) q83_65 rfl rfl (by decide +kernel) ?_
  refine e_cmp false (pc := 67) q83_67 ⟨by omega, by omega⟩ ⟨by omega, by omega⟩ (n_f_ne (by omega)) ?_
  refine e_st (pc := 70) q83_70 rfl rfl ?_
  refine e_st (pc := 71) q83_71 rfl rfl ?_
  refine e_callS (pc := 72) (mz := c_m72) (L0 := [some (.ref 0), some (n_v ↑n), none]) (rest := []) q83_72 rfl rfl rfl rfl rfl rfl rfl rfl rfl ?_
  refine s72 hW ⟨by omega, by omega⟩ (fun j e1 e2 => by omega) (fun _ h4 x4 hW => ?_)
  refine e_k (pc := 72) ?_
  have bd := bd.xt x4
  refine e_cst (v := -900001) (len := 2) (pc := 75) q83_75 rfl rfl (by decide +kernel) ?_
  refine e_cmp false (pc := 77) q83_77 ⟨by omega, by omega⟩ ⟨by omega, by omega⟩ (n_f_ne (by omega)) ?_
  refine e_st (pc := 80) q83_80 rfl rfl ?_
  refine e_callS (pc := 81) (mz := c_m77) (L0 := [some (.ref 0), none]) (rest := []) q83_81 rfl rfl rfl rfl rfl rfl rfl rfl rfl ?_
  refine s77 hW (fun _ h5 x5 hW => ?_) (fun e1 => by omega)
  refine e_k (pc := 81) ?_
  have bd := bd.xt x5
  refine e_cst (v := -900001) (len := 2) (pc := 84) q83_84 rfl rfl (by decide +kernel) ?_
  refine e_cmp false (pc := 86) q83_86 ⟨by omega, by omega⟩ ⟨by omega, by omega⟩ (n_f_ne (by omega)) ?_
  refine e_st (pc := 89) q83_89 rfl rfl ?_
  refine e_cst (v := 1) (len := 1) (pc := 90) q83_90 rfl rfl rfl ?_
  refine e_cst (v := 0) (len := 1) (pc := 91) q83_91 rfl rfl rfl ?_
  refine e_callS (pc := 92) (mz := c_m76) (L0 := [some (.ref 0), some (n_v 1), some (n_v 0), none]) (rest := []) q83_92 rfl rfl rfl rfl rfl rfl rfl rfl rfl ?_
  refine s76 hW (by omega) (by omega) (fun _ h6 x6 hW => ?_) (fun _ _ e1 => by omega) (fun j t e1 e2 e3 e4 => by omega)
  refine e_k (pc := 92) ?_
  have bd := bd.xt x6
  refine e_cst (v := -900001) (len := 2) (pc := 95) q83_95 rfl rfl (by decide +kernel) ?_
  refine e_cmp false (pc := 97) q83_97 ⟨by omega, by omega⟩ ⟨by omega, by omega⟩ (n_f_ne (by omega)) ?_
  refine e_cst (v := 1) (len := 1) (pc := 100) q83_100 rfl rfl rfl ?_
  refine e_st (pc := 101) q83_101 rfl rfl ?_
  refine e_st (pc := 105) (L2 := [some (.retAddr 0), some (.ref 0), some (n_v ↑n), some (n_v rg), some (n_v 1), none, none, none, none, none, none, none, none, none, none, none, none, none, none, none, none, none, none]) q83_105 rfl rfl ?_
  refine e_st (pc := 107) q83_107 rfl rfl ?_
  refine e_newa (n := n) (pc := 108) q83_108 (by omega) ?_
  have hW := hW.gw (c_gw.app h6 [n_arr n (fun _ => 0)]) (by simp)
  have ar5 := c_ar.new h6 n (fun _ => 0)
  have a5b := bd
  have bd := bd.app (n := n) (f := fun _ => 0)
  have a5l : h6.length < (h6 ++ [n_arr n (fun _ => 0)]).length := by simp
  generalize h6 ++ [n_arr n (fun _ => 0)] = h7 at hW ar5 bd a5l  ⊢
  obtain ⟨a5, ha5⟩ : ∃ a : Nat, a = h6.length := ⟨_, rfl⟩
  rw [← ha5] at ar5 ⊢
  have a5g : 58 ≤ a5 := by rw [ha5]; exact a5b.1
  refine e_st (pc := 110) (L2 := [some (.retAddr 0), some (.ref 0), some (n_v ↑n), some (n_v rg), some (n_v 1), some (.ref a5), none, none, none, none, none, none, none, none, none, none, none, none, none, none, none, none, none]) q83_110 rfl rfl ?_
  refine e_st (pc := 112) q83_112 rfl rfl ?_
  refine e_newa (n := n) (pc := 113) q83_113 (by omega) ?_
  have hW := hW.gw (c_gw.app h7 [n_arr n (fun _ => 0)]) (by simp)
  have ar6 := c_ar.new h7 n (fun _ => 0)
  have ar5 := ar5.gw (c_gw.app h7 [n_arr n (fun _ => 0)]) (by simp)
  have a6b := bd
  have bd := bd.app (n := n) (f := fun _ => 0)
  have a6l : h7.length < (h7 ++ [n_arr n (fun _ => 0)]).length := by simp
  generalize h7 ++ [n_arr n (fun _ => 0)] = h8 at hW ar6 bd a6l ar5 ⊢
  obtain ⟨a6, ha6⟩ : ∃ a : Nat, a = h7.length := ⟨_, rfl⟩
  rw [← ha6] at ar6 ⊢
  have a6g : 58 ≤ a6 := by rw [ha6]; exact a6b.1
  refine e_st (pc := 115) (L2 := [some (.retAddr 0), some (.ref 0), some (n_v ↑n), some (n_v rg), some (n_v 1), some (.ref a5), some (.ref a6), none, none, none, none, none, none, none, none, none, none, none, none, none, none, none, none]) q83_115 rfl rfl ?_
  refine e_cst (v := 0) (len := 1) (pc := 117) q83_117 rfl rfl rfl ?_
  refine e_st (pc := 118) (L2 := [some (.retAddr 0), some (.ref 0), some (n_v ↑n), some (n_v rg), some (n_v 1), some (.ref a5), some (.ref a6), some (n_v 0), none, none, none, none, none, none, none, none, none, none, none, none, none, none, none]) q83_118 rfl rfl ?_
  exact K h8 n rg a5 a6 (by omega) hrg hW (bd.mono (by omega) (by omega)) a5g (by omega) ar5 ar6
end Ms
