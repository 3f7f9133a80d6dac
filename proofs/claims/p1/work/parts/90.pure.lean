theorem and63 (x : Int32) : ∃ v, v < 64 ∧ x &&& 63 = Int32.ofNat v := by
  refine ⟨x.toBitVec.toNat % 64, Nat.mod_lt _ (by decide), ?_⟩
  apply Int32.toBitVec_inj.mp
  apply BitVec.eq_of_toNat_eq
  show (x.toBitVec &&& (63 : Int32).toBitVec).toNat = (BitVec.ofNat 32 (x.toBitVec.toNat % 64)).toNat
  rw [BitVec.toNat_and, BitVec.toNat_ofNat]
  have h1 : (63 : Int32).toBitVec.toNat = 2 ^ 6 - 1 := rfl
  rw [h1, Nat.and_two_pow_sub_one_eq_mod]
  have h2 : x.toBitVec.toNat % 64 < 64 := Nat.mod_lt _ (by decide)
  show x.toBitVec.toNat % 64 = x.toBitVec.toNat % 64 % 2 ^ 32
  rw [Nat.mod_eq_of_lt (Nat.lt_of_lt_of_le h2 (by decide))]
theorem c_six (a0 a1 a2 a3 a4 a5 : Int32) : c_Goal [a0, a1, a2, a3, a4, a5] := by
  obtain ⟨v, hv, e⟩ := and63 a0
  by_cases h41 : 41 ≤ v
  · obtain ⟨w, rfl⟩ := Nat.exists_eq_add_of_le h41
    exact g99 w (by omega) e
  · match v, e, h41 with
    | 0, e, _ => exact g0 e
    | 1, e, _ => exact g1 e
    | 2, e, _ => exact g2 e
    | 3, e, _ => exact g3 e
    | 4, e, _ => exact g4 e
    | 5, e, _ => exact g5 e
    | 6, e, _ => exact g6 e
    | 7, e, _ => exact g7 e
    | 8, e, _ => exact g8 e
    | 9, e, _ => exact g9 e
    | 10, e, _ => exact g10 e
    | 11, e, _ => exact g11 e
    | 12, e, _ => exact g12 e
    | 13, e, _ => exact g13 e
    | 14, e, _ => exact g14 e
    | 15, e, _ => exact g15 e
    | 16, e, _ => exact g16 e
    | 17, e, _ => exact g17 e
    | 18, e, _ => exact g18 e
    | 19, e, _ => exact g19 e
    | 20, e, _ => exact g20 e
    | 21, e, _ => exact g21 e
    | 22, e, _ => exact g22 e
    | 23, e, _ => exact g23 e
    | 24, e, _ => exact g24 e
    | 25, e, _ => exact g25 e
    | 26, e, _ => exact g26 e
    | 27, e, _ => exact g27 e
    | 28, e, _ => exact g28 e
    | 29, e, _ => exact g29 e
    | 30, e, _ => exact g30 e
    | 31, e, _ => exact g31 e
    | 32, e, _ => exact g32 e
    | 33, e, _ => exact g33 e
    | 34, e, _ => exact g34 e
    | 35, e, _ => exact g35 e
    | 36, e, _ => exact g36 e
    | 37, e, _ => exact g37 e
    | 38, e, _ => exact g38 e
    | 39, e, _ => exact g39 e
    | 40, e, _ => exact g40 e
    | n + 41, _, h => exact absurd (by omega) h
theorem c_leE0 {E : c_E} {n : Nat} (h : E.2.length = n) : c_leE (t_E n) E := by
  refine ⟨by rw [h]; exact List.length_replicate, fun j x hx hs => ?_, fun o x y v h => ?_⟩
  · have h1 : x ∈ List.replicate n Value.null := List.mem_of_getElem? hx
    rw [List.eq_of_mem_replicate h1] at hs
    cases hs
  · cases h
theorem c_of6 {X : List Int32} (hl : X.length = 6) (g : c_Goal X) : ∃ (S : Nat → Int32) (E : c_E) (n : Nat) (h : c_Hp), c_hE (fun _ => 0, S) X E ∧ c_go c_P E n c_m259 0 (c_ent [.retAddr 0] 9) [] [] = some (.inl (some (.int 1)), h) ∧ h.length ≤ 927443 ∧ c_msz h ≤ 6319727 := by
  obtain ⟨S, E, h, hE, hr, h2, h3⟩ := g
  obtain ⟨n, hn⟩ : c_Run E c_m259 0 (c_ent [.retAddr 0] 9) [] [] (.inl (some (.int 1)), h) := c_Run.pre (c_pre_E (c_leE0 (hE.1.trans hl)) t_pro) hr
  exact ⟨S, E, n, h, hE, hn, h2, h3⟩
theorem x_ixk {X : List Int32} {x : List Int32} {k : Nat} (hk : k < 6) : c_iv (c_BB X x) (.retAddr (10 + k)) = some (X.getD k 0) := by
  show (if 10 ≤ 10 + k then some (c_S X x (10 + k)) else none) = _
  rw [if_pos (by omega)]
  unfold c_S
  rw [if_pos (by omega), show 10 + k - 10 = k from by omega]
theorem c_pure : c_Pure := by
  intro X hX
  match X, hX with
  | [], _ => exact c_short (n := 0) (by decide) rfl ⟨rfl, fun j y h => by simp [t_Xs] at h⟩
  | [a0], _ => exact c_short (n := 1) (by decide) rfl ⟨rfl, fun j y h => by
      match j, h with
      | 0, h => cases h; exact x_ixk (k := 0) (by decide)
      | j + 1, h => simp [t_Xs] at h⟩
  | [a0, a1], _ => exact c_short (n := 2) (by decide) rfl ⟨rfl, fun j y h => by
      match j, h with
      | 0, h => cases h; exact x_ixk (k := 0) (by decide)
      | 1, h => cases h; exact x_ixk (k := 1) (by decide)
      | j + 2, h => simp [t_Xs] at h⟩
  | [a0, a1, a2], _ => exact c_short (n := 3) (by decide) rfl ⟨rfl, fun j y h => by
      match j, h with
      | 0, h => cases h; exact x_ixk (k := 0) (by decide)
      | 1, h => cases h; exact x_ixk (k := 1) (by decide)
      | 2, h => cases h; exact x_ixk (k := 2) (by decide)
      | j + 3, h => simp [t_Xs] at h⟩
  | [a0, a1, a2, a3], _ => exact c_short (n := 4) (by decide) rfl ⟨rfl, fun j y h => by
      match j, h with
      | 0, h => cases h; exact x_ixk (k := 0) (by decide)
      | 1, h => cases h; exact x_ixk (k := 1) (by decide)
      | 2, h => cases h; exact x_ixk (k := 2) (by decide)
      | 3, h => cases h; exact x_ixk (k := 3) (by decide)
      | j + 4, h => simp [t_Xs] at h⟩
  | [a0, a1, a2, a3, a4], _ => exact c_short (n := 5) (by decide) rfl ⟨rfl, fun j y h => by
      match j, h with
      | 0, h => cases h; exact x_ixk (k := 0) (by decide)
      | 1, h => cases h; exact x_ixk (k := 1) (by decide)
      | 2, h => cases h; exact x_ixk (k := 2) (by decide)
      | 3, h => cases h; exact x_ixk (k := 3) (by decide)
      | 4, h => cases h; exact x_ixk (k := 4) (by decide)
      | j + 5, h => simp [t_Xs] at h⟩
  | [a0, a1, a2, a3, a4, a5], _ => exact c_of6 rfl (c_six a0 a1 a2 a3 a4 a5)
  | _ :: _ :: _ :: _ :: _ :: _ :: _ :: _, h => exact absurd h (by simp only [List.length_cons]; omega)
