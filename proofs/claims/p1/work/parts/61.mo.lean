/-! ### a carrier that goes round, in numbers -/
set_option maxRecDepth 100000
def nb_l (l y : Nat) : Nat := if y = 1 then l + 1 else l - 1
def nb_f (l y : Nat) : Nat := if y = 1 then 0 else if l = 0 then 0 else 1
def nb_bit (b n i : Nat) : Nat := n / 2 ^ (b - 1 - i) % 2
def nb_ld (b n s : Nat) : Nat → Nat
  | 0 => s
  | i + 1 => nb_l (nb_ld b n s i) (nb_bit b n i)
def nb_E (b n s : Nat) : Nat → Nat
  | 0 => 0
  | i + 1 => 2 * nb_E b n s i + nb_f (nb_ld b n s i) (nb_bit b n i)
def nb_A (b n : Nat) : Nat := nb_E b n (nb_ld b n 0 b) b
def nb_pop : Nat → Nat → Nat
  | 0, _ => 0
  | f + 1, n => n % 2 + nb_pop f (n / 2)
theorem nb_bit2 (b n i : Nat) : nb_bit b n i < 2 := Nat.mod_lt _ (by decide)
theorem nb_f2 (l y : Nat) : nb_f l y < 2 := by
  unfold nb_f
  split
  · omega
  · split <;> omega
theorem nb_l_le (l y : Nat) : nb_l l y ≤ l + 1 := by
  unfold nb_l
  split <;> omega
theorem nb_ld_le (b n s : Nat) : ∀ i, nb_ld b n s i ≤ s + i
  | 0 => Nat.le_refl _
  | i + 1 => by
    have h1 := nb_ld_le b n s i
    have h2 := nb_l_le (nb_ld b n s i) (nb_bit b n i)
    show nb_l (nb_ld b n s i) (nb_bit b n i) ≤ _
    omega
theorem nb_E_lt (b n s : Nat) : ∀ i, nb_E b n s i < 2 ^ i
  | 0 => by
    show (0 : Nat) < 2 ^ 0
    decide
  | i + 1 => by
    have h1 := nb_E_lt b n s i
    have h2 := nb_f2 (nb_ld b n s i) (nb_bit b n i)
    show 2 * nb_E b n s i + nb_f (nb_ld b n s i) (nb_bit b n i) < 2 ^ (i + 1)
    rw [Nat.pow_succ]
    omega
theorem m_st : ∀ l, l < 25 → ∀ y, y < 2 → (if (1 : Int32) - Int32.ofNat y < Int32.ofNat l then (1 : Int32) - Int32.ofNat y else Int32.ofNat l) + (if (0 : Int32) < Int32.ofNat l + Int32.ofNat y - 99 then Int32.ofNat l + Int32.ofNat y - 99 else 0) = Int32.ofNat (nb_f l y) := by decide +kernel
theorem m_sl : ∀ l, l < 25 → ∀ y, y < 2 → Int32.ofNat l + (Int32.ofNat y - Int32.ofNat (nb_f l y)) = Int32.ofNat (nb_l l y) := by decide +kernel
theorem m_bit (c : Nat) (hc : c < 12) : ∀ n, n < 4096 → ((Int32.ofNat n >>> (Int32.ofNat c &&& 31)) &&& 1) = Int32.ofNat (n / 2 ^ c % 2) := by
  have h : ∀ q, q < 64 → ∀ r, r < 64 → ∀ c, c < 12 → ((Int32.ofNat (64 * q + r) >>> (Int32.ofNat c &&& 31)) &&& 1) = Int32.ofNat ((64 * q + r) / 2 ^ c % 2) := by decide +kernel
  exact nb_4096 (fun q hq r hr => h q hq r hr c hc)
theorem m_pop : ∀ n, n < 4096 → k32_33 (Int32.ofNat n) = Int32.ofNat (nb_pop 12 n) := nb_4096 (P := fun n => k32_33 (Int32.ofNat n) = Int32.ofNat (nb_pop 12 n)) (by decide +kernel)
theorem m_pople : ∀ n, n < 4096 → nb_pop 12 n ≤ 12 := nb_4096 (P := fun n => nb_pop 12 n ≤ 12) (by decide +kernel)
theorem m_ec : ∀ q, q < 64 → ∀ r, r < 64 → ∀ y, y < 2 → (Int32.ofNat (64 * q + r) <<< ((1 : Int32) &&& 31)) ||| Int32.ofNat y = Int32.ofNat (2 * (64 * q + r) + y) := by decide +kernel
theorem m_e0 : ∀ y, y < 2 → (0 : Int32) ||| Int32.ofNat y = Int32.ofNat y := by decide +kernel
theorem m_er (e y : Nat) : (2 : Int32) * Int32.ofNat e + Int32.ofNat y = Int32.ofNat (2 * e + y) := by
  rw [Int32.ofNat_add, Int32.ofNat_mul]
  rfl
theorem e_Xr {B : c_B} {o j k : Nat} {X : Value} {a : Int32} (hX : c_iv B X = some a) (h : c_hold B (o, X, .retAddr j, .retAddr k)) : c_sem o a (B.2 j) = some (B.2 k) := by
  obtain ⟨a1, b, c, h1, h2, h3, h4⟩ := h
  rw [hX] at h1
  have h6 : a = a1 := by injection h1
  rw [e_v h2, e_v h4, h6]
  exact h3
/-- one box of the carrier's way -/
theorem q_step {B : c_B} {X : Value} {y s0 s1 s2 s3 s4 s5 s6 s7 : Nat} {l yy : Nat} (hX : c_iv B X = some (Int32.ofNat l)) (hl : l < 25) (hy : B.2 y = Int32.ofNat yy) (hyy : yy < 2) (h1 : c_hold B (1, .int 1, .retAddr y, .retAddr s0)) (h2 : c_hold B (31, X, .retAddr s0, .retAddr s1)) (h3 : c_hold B (0, X, .retAddr y, .retAddr s2)) (h4 : c_hold B (1, .retAddr s2, .int 99, .retAddr s3)) (h5 : c_hold B (30, .int 0, .retAddr s3, .retAddr s4)) (h6 : c_hold B (0, .retAddr s1, .retAddr s4, .retAddr s5)) (h7 : c_hold B (1, .retAddr y, .retAddr s5, .retAddr s6)) (h8 : c_hold B (0, X, .retAddr s6, .retAddr s7)) : B.2 s5 = Int32.ofNat (nb_f l yy) ∧ B.2 s7 = Int32.ofNat (nb_l l yy) := by
  have e1 : (1 : Int32) - B.2 y = B.2 s0 := Option.some.inj (e_ir h1)
  have e2 : (if B.2 s0 < Int32.ofNat l then B.2 s0 else Int32.ofNat l) = B.2 s1 := Option.some.inj (e_Xr hX h2)
  have e3 : Int32.ofNat l + B.2 y = B.2 s2 := Option.some.inj (e_Xr hX h3)
  have e4 : B.2 s2 - 99 = B.2 s3 := Option.some.inj (e_ri h4)
  have e5 : (if (0 : Int32) < B.2 s3 then B.2 s3 else 0) = B.2 s4 := Option.some.inj (e_ir h5)
  have e6 : B.2 s1 + B.2 s4 = B.2 s5 := Option.some.inj (e_rr h6)
  have e7 : B.2 y - B.2 s5 = B.2 s6 := Option.some.inj (e_rr h7)
  have e8 : Int32.ofNat l + B.2 s6 = B.2 s7 := Option.some.inj (e_Xr hX h8)
  have f5 : B.2 s5 = Int32.ofNat (nb_f l yy) := by
    rw [← e6, ← e2, ← e5, ← e4, ← e3, ← e1, hy]
    exact m_st l hl yy hyy
  refine ⟨f5, ?_⟩
  rw [← e8, ← e7, f5, hy]
  exact m_sl l hl yy hyy
theorem q_bit {B : c_B} {s t y n c : Nat} (hs : B.2 s = Int32.ofNat n) (hn : n < 4096) (hc : c < 12) (h1 : c_hold B (7, .retAddr s, .int (Int32.ofNat c), .retAddr t)) (h2 : c_hold B (3, .retAddr t, .int 1, .retAddr y)) : B.2 y = Int32.ofNat (n / 2 ^ c % 2) := by
  have e1 : B.2 s >>> (Int32.ofNat c &&& 31) = B.2 t := Option.some.inj (e_ri h1)
  have e2 : B.2 t &&& 1 = B.2 y := Option.some.inj (e_ri h2)
  rw [← e2, ← e1, hs]
  exact m_bit c hc n hn
theorem q_ec {B : c_B} {f r s t e y : Nat} (hr : B.2 r = Int32.ofNat e) (he : e < 4096) (hf : B.2 f = Int32.ofNat y) (hy : y < 2) (h1 : c_hold B (6, .retAddr r, .int 1, .retAddr s)) (h2 : c_hold B (4, .retAddr s, .retAddr f, .retAddr t)) : B.2 t = Int32.ofNat (2 * e + y) := by
  have e1 : B.2 r <<< ((1 : Int32) &&& 31) = B.2 s := Option.some.inj (e_ri h1)
  have e2 : B.2 s ||| B.2 f = B.2 t := Option.some.inj (e_rr h2)
  rw [← e2, ← e1, hr, hf]
  have h := m_ec (e / 64) (by omega) (e % 64) (Nat.mod_lt _ (by decide)) y hy
  rw [Nat.div_add_mod] at h
  exact h
theorem q_ec0 {B : c_B} {f t y : Nat} (hf : B.2 f = Int32.ofNat y) (hy : y < 2) (h : c_hold B (4, .int 0, .retAddr f, .retAddr t)) : B.2 t = Int32.ofNat (2 * 0 + y) := by
  have e2 : (0 : Int32) ||| B.2 f = B.2 t := Option.some.inj (e_ir h)
  rw [← e2, hf, Nat.mul_zero, Nat.zero_add]
  exact m_e0 y hy
theorem q_er {B : c_B} {f r s t e y : Nat} (hr : B.2 r = Int32.ofNat e) (hf : B.2 f = Int32.ofNat y) (h1 : c_hold B (2, .int 2, .retAddr r, .retAddr s)) (h2 : c_hold B (0, .retAddr s, .retAddr f, .retAddr t)) : B.2 t = Int32.ofNat (2 * e + y) := by
  have e1 : (2 : Int32) * B.2 r = B.2 s := Option.some.inj (e_ir h1)
  have e2 : B.2 s + B.2 f = B.2 t := Option.some.inj (e_rr h2)
  rw [← e2, ← e1, hr, hf]
  exact m_er e y
theorem q_er0 {B : c_B} {f t y : Nat} (hf : B.2 f = Int32.ofNat y) (h : c_hold B (0, .int 0, .retAddr f, .retAddr t)) : B.2 t = Int32.ofNat (2 * 0 + y) := by
  have e2 : (0 : Int32) + B.2 f = B.2 t := Option.some.inj (e_ir h)
  rw [← e2, hf, Nat.mul_zero, Nat.zero_add, Int32.zero_add]
/-! ### the set of the images, the numbers taken in order -/
def nb_D (b k : Nat) : Nat → Nat → Nat
  | 0, n => if nb_pop 12 n = k then 2 ^ nb_A b n else 0
  | d + 1, n => nb_D b k d n ||| nb_D b k d (n + 2 ^ d)
def nb_S (b k : Nat) : Nat → Nat
  | 0 => 0
  | n + 1 => nb_S b k n ||| nb_D b k 0 n
theorem nb_SD (b k : Nat) : ∀ d n, nb_S b k (n + 2 ^ d) = nb_S b k n ||| nb_D b k d n
  | 0, n => rfl
  | d + 1, n => by
    rw [show n + 2 ^ (d + 1) = (n + 2 ^ d) + 2 ^ d from by rw [Nat.pow_succ]; omega, nb_SD b k d, nb_SD b k d]
    show _ = nb_S b k n ||| (nb_D b k d n ||| nb_D b k d (n + 2 ^ d))
    rw [Nat.or_assoc]
def nb_C (S : Nat) : Nat → Nat → Nat
  | 0, j => if S.testBit j then 1 else 0
  | d + 1, j => nb_C S d j + nb_C S d (j + 2 ^ d)
def nb_c (S : Nat) : Nat → Nat
  | 0 => 0
  | j + 1 => nb_c S j + nb_C S 0 j
theorem nb_cC (S : Nat) : ∀ d j, nb_c S (j + 2 ^ d) = nb_c S j + nb_C S d j
  | 0, j => rfl
  | d + 1, j => by
    rw [show j + 2 ^ (d + 1) = (j + 2 ^ d) + 2 ^ d from by rw [Nat.pow_succ]; omega, nb_cC S d, nb_cC S d]
    show _ = nb_c S j + (nb_C S d j + nb_C S d (j + 2 ^ d))
    omega
/-! ### symbols of these runs -/
def k34_f (a : List Int32) (n : Nat) (v : Nat → Int32) : Nat → Int32 := fun i => if i < 16 then a.getD (i - 10) 0 else if i = 16 then Int32.ofNat n else if i = 17 then Int32.ofNat (n + 1) else v i
def k34_B (v : Nat → Int32) : c_B := (fun _ => 0, v)
theorem k34_hx {a0 a1 a2 a3 a4 a5 : Int32} {n : Nat} {v : Nat → Int32} {D : List c_F} : x_xs.map (s_v (e_B (k34_f [a0, a1, a2, a3, a4, a5] n v) 64 D)) = [a0, a1, a2, a3, a4, a5].map Value.int := rfl
theorem k34_ag {X : List Int32} {n : Nat} {v : Nat → Int32} {D : List c_F} {hi : Nat} (h : hi ≤ 64) : ∀ i, 18 ≤ i → i < hi → (e_B (k34_f X n v) 64 D).2 i = (k34_B v).2 i := by
  intro i h1 h2
  show (if i < 64 then k34_f X n v i else _) = v i
  rw [if_pos (by omega)]
  unfold k34_f
  rw [if_neg (by omega), if_neg (by omega), if_neg (by omega)]
theorem k34_v16 {X : List Int32} {n : Nat} {v : Nat → Int32} {D : List c_F} : (e_B (k34_f X n v) 64 D).2 16 = Int32.ofNat n := rfl
def k34_bc : List c_F := [(8, .retAddr 16, .int 1, .retAddr 64), (3, .retAddr 64, .int 1431655765, .retAddr 65), (1, .retAddr 16, .retAddr 65, .retAddr 66), (3, .retAddr 66, .int 858993459, .retAddr 67), (8, .retAddr 66, .int 2, .retAddr 68), (3, .retAddr 68, .int 858993459, .retAddr 69), (0, .retAddr 67, .retAddr 69, .retAddr 70), (8, .retAddr 70, .int 4, .retAddr 71), (0, .retAddr 70, .retAddr 71, .retAddr 72), (3, .retAddr 72, .int 252645135, .retAddr 73), (8, .retAddr 73, .int 8, .retAddr 74), (0, .retAddr 73, .retAddr 74, .retAddr 75), (8, .retAddr 75, .int 16, .retAddr 76), (0, .retAddr 75, .retAddr 76, .retAddr 77), (3, .retAddr 77, .int 63, .retAddr 78)]
theorem q_bc {B : c_B} (H : ∀ f ∈ k34_bc, c_hold B f) : B.2 78 = k32_33 (B.2 16) := by
  have e0 : (Int32.toUInt32 (B.2 16) >>> (Int32.toUInt32 1 &&& Int32.toUInt32 31)).toInt32 = B.2 64 := Option.some.inj (e_ri (e_at H 0 rfl))
  have e1 : B.2 64 &&& 1431655765 = B.2 65 := Option.some.inj (e_ri (e_at H 1 rfl))
  have e2 : B.2 16 - B.2 65 = B.2 66 := Option.some.inj (e_rr (e_at H 2 rfl))
  have e3 : B.2 66 &&& 858993459 = B.2 67 := Option.some.inj (e_ri (e_at H 3 rfl))
  have e4 : (Int32.toUInt32 (B.2 66) >>> (Int32.toUInt32 2 &&& Int32.toUInt32 31)).toInt32 = B.2 68 := Option.some.inj (e_ri (e_at H 4 rfl))
  have e5 : B.2 68 &&& 858993459 = B.2 69 := Option.some.inj (e_ri (e_at H 5 rfl))
  have e6 : B.2 67 + B.2 69 = B.2 70 := Option.some.inj (e_rr (e_at H 6 rfl))
  have e7 : (Int32.toUInt32 (B.2 70) >>> (Int32.toUInt32 4 &&& Int32.toUInt32 31)).toInt32 = B.2 71 := Option.some.inj (e_ri (e_at H 7 rfl))
  have e8 : B.2 70 + B.2 71 = B.2 72 := Option.some.inj (e_rr (e_at H 8 rfl))
  have e9 : B.2 72 &&& 252645135 = B.2 73 := Option.some.inj (e_ri (e_at H 9 rfl))
  have e10 : (Int32.toUInt32 (B.2 73) >>> (Int32.toUInt32 8 &&& Int32.toUInt32 31)).toInt32 = B.2 74 := Option.some.inj (e_ri (e_at H 10 rfl))
  have e11 : B.2 73 + B.2 74 = B.2 75 := Option.some.inj (e_rr (e_at H 11 rfl))
  have e12 : (Int32.toUInt32 (B.2 75) >>> (Int32.toUInt32 16 &&& Int32.toUInt32 31)).toInt32 = B.2 76 := Option.some.inj (e_ri (e_at H 12 rfl))
  have e13 : B.2 75 + B.2 76 = B.2 77 := Option.some.inj (e_rr (e_at H 13 rfl))
  have e14 : B.2 77 &&& 63 = B.2 78 := Option.some.inj (e_ri (e_at H 14 rfl))
  rw [← e14, ← e13, ← e12, ← e11, ← e10, ← e9, ← e8, ← e7, ← e6, ← e5, ← e4, ← e3, ← e2, ← e1, ← e0]
  rfl
theorem o_neE {B : c_B} {x y : Value} {p k : Nat} (hx : c_iv B x = some (Int32.ofNat p)) (hy : c_iv B y = some (Int32.ofNat k)) (h : p = k) : c_hold B (21, x, y, .int 0) :=
  f_cmp (cd := .ne) (t := false) hx hy ((k_ne rfl rfl).trans (decide_eq_false (fun h9 => h9 (by rw [h]))))
theorem o_neN {B : c_B} {x y : Value} {p k : Nat} (hx : c_iv B x = some (Int32.ofNat p)) (hy : c_iv B y = some (Int32.ofNat k)) (hp : p < 2 ^ 31) (hk : k < 2 ^ 31) (h : p ≠ k) : c_hold B (21, x, y, .int 1) :=
  f_cmp (cd := .ne) (t := true) hx hy ((k_ne (o_toInt hp) (o_toInt hk)).trans (decide_eq_true (by omega)))
theorem o_lt1 {B : c_B} {x y : Value} {p q : Nat} (hx : c_iv B x = some (Int32.ofNat p)) (hy : c_iv B y = some (Int32.ofNat q)) (hp : p < 2 ^ 31) (hq : q < 2 ^ 31) (h : p < q) : c_hold B (22, x, y, .int 1) :=
  f_cmp (cd := .lt) (t := true) hx hy ((k_lt (o_toInt hp) (o_toInt hq)).trans (decide_eq_true (by omega)))
theorem o_lt0 {B : c_B} {x y : Value} {p q : Nat} (hx : c_iv B x = some (Int32.ofNat p)) (hy : c_iv B y = some (Int32.ofNat q)) (hp : p < 2 ^ 31) (hq : q < 2 ^ 31) (h : q ≤ p) : c_hold B (22, x, y, .int 0) :=
  f_cmp (cd := .lt) (t := false) hx hy ((k_lt (o_toInt hp) (o_toInt hq)).trans (decide_eq_false (by omega)))
theorem o_le1 {B : c_B} {x y : Value} {p q : Nat} (hx : c_iv B x = some (Int32.ofNat p)) (hy : c_iv B y = some (Int32.ofNat q)) (hp : p < 2 ^ 31) (hq : q < 2 ^ 31) (h : p ≤ q) : c_hold B (25, x, y, .int 1) :=
  f_cmp (cd := .le) (t := true) hx hy ((k_le (o_toInt hp) (o_toInt hq)).trans (decide_eq_true (by omega)))
theorem o_gt0 {B : c_B} {x y : Value} {p q : Nat} (hx : c_iv B x = some (Int32.ofNat p)) (hy : c_iv B y = some (Int32.ofNat q)) (hp : p < 2 ^ 31) (hq : q < 2 ^ 31) (h : p ≤ q) : c_hold B (24, x, y, .int 0) :=
  f_cmp (cd := .gt) (t := false) hx hy ((k_gt (o_toInt hp) (o_toInt hq)).trans (decide_eq_false (by omega)))
/-- a row's length -/
theorem q_alen {X : List Int32} {md : c_M} {pc p1 p2 p3 a N S : Nat} {L : c_Ls} {st : List Value} {H : c_Hp} {r : c_O × c_Hp} (hi : c_at pc (c_mi md) = some (.arraylength, p1, p2, p3)) (hk : c_kd (.arraylength, p1, p2, p3) = 0) (ha : a < H.length) (k : c_T X md (pc + 1) L (.int (Int32.ofNat N) :: st) (H.set a (b_c N S)) r) : c_T X md pc L (.ref a :: st) (H.set a (b_c N S)) r := by
  refine c_Run.one (F := 0) (r1 := (pc + 1, L, .int (Int32.ofNat N) :: st, H.set a (b_c N S))) ?_ k
  refine r_one hi hk ?_
  unfold c_stp
  simp only [c_dsp, x_alen]
  refine (r_alen (t := 4) (vs := b_S N S) (r_self ha) rfl).trans ?_
  rw [b_len]
  rfl
theorem q_hset (B : c_B) (h : c_Hp) (i : Nat) (c : c_Cell) : s_h B (h.set i c) = (s_h B h).set i (s_c B c) := List.map_set
theorem q_cnt {X : List Int32} {B : c_B} {xs : List Value} {md : c_M} {L K : c_Ls} {h H : c_Hp} {i n : Nat} {u : c_Cell} {c : Int32} (hx : xs.map (s_v B) = X.map Value.int) (e : c_go c_P ([], xs) n md 0 L [] (h.set i u) = some (.inl (some (.int c)), h.set i u)) (hu : s_c B u = u) (hH : s_h B h = H) (hL : s_L B L = K) : c_T X md 0 K [] (H.set i u) (.inl (some (.int c)), H.set i u) := by
  subst hH hL
  have e1 := c_go_s9 (B := B) (F := []) (E := ([], xs)) (fun _ h => nomatch h) n _ _ _ _ _ _ e
  rw [q_E hx, q_hset, hu] at e1
  exact ⟨n, e1⟩
theorem b_0 (N : Nat) : b_c N 0 = some (.inr (4, List.replicate N (.int 0))) := by
  unfold b_c b_S
  congr 3
  apply List.ext_getElem
  · rw [List.length_map, List.length_range, List.length_replicate]
  · intro i h1 h2
    rw [List.getElem_map, List.getElem_replicate, Nat.zero_testBit]
    rfl
theorem q_rep (B : c_B) (N : Nat) : s_c B (some (.inr (4, List.replicate N (.int 0)))) = some (.inr (4, List.replicate N (.int 0))) := by
  show some (Sum.inr (4, (List.replicate N (Value.int 0)).map (s_v B))) = _
  rw [List.map_replicate]
  rfl
theorem t_goal {a0 a1 a2 a3 a4 a5 : Int32} {h : c_Hp} (k : c_T [a0, a1, a2, a3, a4, a5] c_m259 38 t_L0 [] t_h0 (.inl (some (.int 1)), h)) (h1 : h.length ≤ 927443) (h2 : c_msz h ≤ 6319727) : c_Goal [a0, a1, a2, a3, a4, a5] :=
  ⟨fun _ => 0, _, h, ⟨rfl, (c_xs (B := (fun _ => 0, fun _ => 0)) rfl rfl rfl rfl rfl rfl).2, fun f hf => by cases hf⟩, k, h1, h2⟩
theorem k34_h0 (B : c_B) : s_h B t_h0 = t_h0 := rfl
theorem q_msz (h : c_Hp) : ∀ (i : Nat) (u : c_Cell), c_msz (h.set i u) ≤ c_msz h + c_sz u := by
  induction h with
  | nil => intro i u; exact Nat.zero_le _
  | cons c t ih =>
    intro i u
    have e : ∀ (d : c_Cell) (l : c_Hp), c_msz (d :: l) = c_sz d + c_msz l := fun d l => by unfold c_msz; rw [List.map_cons, List.sum_cons]
    cases i with
    | zero => rw [List.set_cons_zero, e, e]; omega
    | succ i =>
      rw [List.set_cons_succ, e, e]
      have := ih i u
      omega
theorem w_sz (S : Nat) : c_sz (w_c S) = 64 := w_len S
theorem b_sz (N S : Nat) : c_sz (b_c N S) = N := b_len N S
theorem nb_ones : ∀ k, k < 6 → nb_pop 12 (2 ^ k - 1) = k := by decide +kernel
theorem r_iretB {X : List Int32} {md : c_M} {pc p1 p2 p3 : Nat} {L : c_Ls} {h : c_Hp} (hi : c_at pc (c_mi md) = some (.ireturn, p1, p2, p3)) (hr : c_mr md = some .boolean) : c_T X md pc L [.int 1] h (.inl (some (.int 1)), h) := by
  refine ⟨1, ?_⟩
  rw [c_go_s, hi]
  show c_ret 1 md [.int 1] h = _
  unfold c_ret c_rtn
  rw [hr]
  rfl
