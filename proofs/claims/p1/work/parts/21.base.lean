/-! ### paths of the law: facts, and what they are of -/
def c_S (a x : List Int32) : Nat → Int32 := fun i => if i < 16 then a.getD (i - 10) 0 else x.getD (i - 16) 0
abbrev c_BB (a x : List Int32) : c_B := (fun _ => 0, c_S a x)
def c_Goal (X : List Int32) : Prop := ∃ (S : Nat → Int32) (E : c_E) (h : c_Hp), c_hE (fun _ => 0, S) X E ∧ c_Run E c_m259 38 t_L0 [] t_h0 (.inl (some (.int 1)), h) ∧ h.length ≤ 927443 ∧ c_msz h ≤ 6319727
noncomputable def c_end (r : Option (c_O × c_Hp)) : Bool := match r with
  | some (.inl (some (.int z)), h) => decide (z = 1) && (Nat.ble h.length 900000 && Nat.ble (c_msz h) 6000000)
  | _ => false
noncomputable def c_chk (E : c_E) (n : Nat) : Bool := c_end (c_go c_P E n c_m259 38 t_L0 [] t_h0)
theorem c_end_ok {r : Option (c_O × c_Hp)} (e : c_end r = true) : ∃ h, r = some (.inl (some (.int 1)), h) ∧ h.length ≤ 927443 ∧ c_msz h ≤ 6319727 := by
  unfold c_end at e
  split at e
  · rename_i z h
    rw [Bool.and_eq_true, Bool.and_eq_true, decide_eq_true_eq] at e
    obtain ⟨rfl, h1, h2⟩ := e
    have h3 := Nat.le_of_ble_eq_true h1
    have h4 := Nat.le_of_ble_eq_true h2
    exact ⟨h, rfl, by omega, by omega⟩
  · cases e
theorem c_of {a0 a1 a2 a3 a4 a5 : Int32} (x : List Int32) (F : List c_F) (Xs : List Value) {n : Nat} (e : c_chk (F, Xs) n = true) (hX : Xs.length = 6 ∧ ∀ j y, Xs[j]? = some y → c_iv (c_BB [a0, a1, a2, a3, a4, a5] x) y = some ([a0, a1, a2, a3, a4, a5].getD j 0)) (hF : ∀ f ∈ F, c_hold (c_BB [a0, a1, a2, a3, a4, a5] x) f) : c_Goal [a0, a1, a2, a3, a4, a5] := by
  obtain ⟨h, h1, h2, h3⟩ := c_end_ok e
  exact ⟨c_S [a0, a1, a2, a3, a4, a5] x, (F, Xs), h, ⟨hX.1, hX.2, hF⟩, ⟨n, h1⟩, h2, h3⟩
theorem c_xs {B : c_B} {v0 v1 v2 v3 v4 v5 : Value} {a0 a1 a2 a3 a4 a5 : Int32} (h0 : c_iv B v0 = some a0) (h1 : c_iv B v1 = some a1) (h2 : c_iv B v2 = some a2) (h3 : c_iv B v3 = some a3) (h4 : c_iv B v4 = some a4) (h5 : c_iv B v5 = some a5) : [v0, v1, v2, v3, v4, v5].length = 6 ∧ ∀ j y, [v0, v1, v2, v3, v4, v5][j]? = some y → c_iv B y = some ([a0, a1, a2, a3, a4, a5].getD j 0) := by
  refine ⟨rfl, fun j y hy => ?_⟩
  match j, hy with
  | 0, hy => cases hy; exact h0
  | 1, hy => cases hy; exact h1
  | 2, hy => cases hy; exact h2
  | 3, hy => cases hy; exact h3
  | 4, hy => cases hy; exact h4
  | 5, hy => cases hy; exact h5
  | j + 6, hy => simp at hy
theorem f_cmp {B : c_B} {cd : Jvm.ClassFile.Cond} {x y : Value} {a b : Int32} {t : Bool} (hx : c_iv B x = some a) (hy : c_iv B y = some b) (h : c_cmp cd a b = t) : c_hold B (c_cdn cd, x, y, .int (if t then 1 else 0)) := ⟨a, b, _, hx, hy, c_sem_cmp cd a b, by rw [h]; rfl⟩
theorem k_lt {a b : Int32} {n m : Int} (hn : a.toInt = n) (hm : b.toInt = m) : c_cmp .lt a b = decide (n < m) := by
  subst hn hm
  exact decide_eq_decide.mpr Int32.lt_iff_toInt_lt
theorem k_gt {a b : Int32} {n m : Int} (hn : a.toInt = n) (hm : b.toInt = m) : c_cmp .gt a b = decide (m < n) := by
  subst hn hm
  exact decide_eq_decide.mpr Int32.lt_iff_toInt_lt
theorem k_le {a b : Int32} {n m : Int} (hn : a.toInt = n) (hm : b.toInt = m) : c_cmp .le a b = decide (n ≤ m) := by
  subst hn hm
  exact decide_eq_decide.mpr Int32.le_iff_toInt_le
theorem k_ge {a b : Int32} {n m : Int} (hn : a.toInt = n) (hm : b.toInt = m) : c_cmp .ge a b = decide (m ≤ n) := by
  subst hn hm
  exact decide_eq_decide.mpr Int32.le_iff_toInt_le
theorem k_eq {a b : Int32} {n m : Int} (hn : a.toInt = n) (hm : b.toInt = m) : c_cmp .eq a b = decide (n = m) := by
  subst hn hm
  exact decide_eq_decide.mpr Int32.toInt_inj.symm
theorem k_ne {a b : Int32} {n m : Int} (hn : a.toInt = n) (hm : b.toInt = m) : c_cmp .ne a b = decide (¬ n = m) := by
  subst hn hm
  exact decide_eq_decide.mpr (not_congr Int32.toInt_inj.symm)
/-- the greater of 0 and 0 less a number that isn't below 0 -/
theorem f_max0 {B : c_B} {x y : Value} {a : Int32} (hx : c_iv B x = some 0) (hy : c_iv B y = some (0 - a)) (h : 0 ≤ a.toInt) : c_hold B (30, x, y, .int 0) := by
  refine ⟨0, 0 - a, 0, hx, hy, ?_, rfl⟩
  show some (if (0 : Int32) < 0 - a then 0 - a else 0) = some 0
  rw [if_neg]
  intro h1
  have h2 := Int32.lt_iff_toInt_lt.mp h1
  have h3 : (0 - a).toInt = - a.toInt := by
    rw [Int32.toInt_sub]
    have h4 : (0 : Int32).toInt = 0 := by decide
    have h5 := a.toInt_lt
    rw [h4, Int.zero_sub]
    exact Int.bmod_eq_of_le (by omega) (by omega)
  have h6 : (0 : Int32).toInt = 0 := by decide
  rw [h3, h6] at h2
  omega
/-- the lesser of 0 and a number that isn't below 0 -/
theorem f_min0 {B : c_B} {x y : Value} {a : Int32} (hx : c_iv B x = some 0) (hy : c_iv B y = some a) (h : 0 ≤ a.toInt) : c_hold B (31, x, y, .int 0) := by
  refine ⟨0, a, 0, hx, hy, ?_, rfl⟩
  show some (if a < (0 : Int32) then a else 0) = some 0
  rw [if_neg]
  intro h1
  have h2 := Int32.lt_iff_toInt_lt.mp h1
  have h6 : (0 : Int32).toInt = 0 := by decide
  rw [h6] at h2
  omega
theorem v_of {a : Int32} (lo n : Nat) (h1 : (lo : Int) ≤ a.toInt) (h2 : a.toInt < (lo : Int) + n) (h3 : lo + n < 2 ^ 31) : ∃ v, v < n ∧ a = Int32.ofNat (lo + v) := by
  refine ⟨a.toInt.toNat - lo, by omega, ?_⟩
  apply Int32.toInt_inj.mp
  have h4 : lo + (a.toInt.toNat - lo) = a.toInt.toNat := by omega
  rw [h4]
  have h5 := nI_toInt (n := a.toInt.toNat) (by omega)
  unfold nI at h5
  rw [h5]
  omega
theorem bit01 (x : Int32) : x &&& 1 = 0 ∨ x &&& 1 = 1 := by
  have h : ∀ n : Nat, n &&& 1 = n % 2 := fun n => Nat.and_one_is_mod n
  have e : (x &&& 1).toBitVec.toNat = x.toBitVec.toNat % 2 := by
    show (x.toBitVec &&& (1 : Int32).toBitVec).toNat = _
    rw [BitVec.toNat_and]
    exact h _
  rcases Nat.mod_two_eq_zero_or_one x.toBitVec.toNat with h1 | h1
  · left
    apply Int32.toBitVec_inj.mp
    apply BitVec.eq_of_toNat_eq
    rw [e, h1]; rfl
  · right
    apply Int32.toBitVec_inj.mp
    apply BitVec.eq_of_toNat_eq
    rw [e, h1]; rfl
theorem i_div {a : Int32} {n : Nat} (hn : 0 < n) (hn2 : n < 2 ^ 31) (h : 0 ≤ a.toInt) : (a / Int32.ofNat n).toInt = a.toInt / (n : Int) := by
  have h5 := nI_toInt hn2
  unfold nI at h5
  have h6 := a.toInt_lt
  rw [Int32.toInt_div, h5, Int.tdiv_eq_ediv_of_nonneg h]
  have h7 : a.toInt / (n : Int) ≤ a.toInt := Int.ediv_le_self _ h
  have h8 : 0 ≤ a.toInt / (n : Int) := Int.ediv_nonneg h (by omega)
  exact Int.bmod_eq_of_le (by omega) (by omega)
theorem i_rem {a : Int32} (h : 0 ≤ a.toInt) : (a - a / 10 * 10).toInt = a.toInt % 10 := by
  have h1 := i_div (a := a) (n := 10) (by decide) (by decide) h
  have e : Int32.ofNat 10 = 10 := by decide
  rw [e] at h1
  have h6 := a.toInt_lt
  have h10 : (10 : Int32).toInt = 10 := by decide
  have h2 : (a / 10 * 10).toInt = a.toInt / 10 * 10 := by
    rw [Int32.toInt_mul, h1, h10]
    exact Int.bmod_eq_of_le (by omega) (by omega)
  rw [Int32.toInt_sub, h2]
  have h3 : a.toInt - a.toInt / 10 * 10 = a.toInt % 10 := by omega
  rw [Int.bmod_eq_of_le (by omega) (by omega)]
  exact h3
theorem i_div10 {a : Int32} (h : 0 ≤ a.toInt) : (a / 10).toInt = a.toInt / 10 := by
  have h1 := i_div (a := a) (n := 10) (by decide) (by decide) h
  have e : Int32.ofNat 10 = 10 := by decide
  rw [e] at h1
  exact h1
theorem dig0 {a : Int32} (h1 : 0 ≤ a.toInt) (h2 : a.toInt ≤ 999) : (a / 10 / 10 - a / 10 / 10 / 10 * 10).toInt = a.toInt / 100 := by
  have e1 := i_div10 h1
  have e2 : (a / 10 / 10).toInt = a.toInt / 10 / 10 := by rw [i_div10 (by rw [e1]; omega), e1]
  rw [i_rem (by rw [e2]; omega), e2]
  omega
theorem dig100 {a : Int32} (h1 : 0 ≤ a.toInt) (h2 : a.toInt ≤ 999) : a / 100 = (a / 10 / 10 - a / 10 / 10 / 10 * 10) := by
  apply Int32.toInt_inj.mp
  rw [dig0 h1 h2]
  have h3 := i_div (a := a) (n := 100) (by decide) (by decide) h1
  have e : Int32.ofNat 100 = 100 := by decide
  rw [e] at h3
  exact h3
theorem dig1 {a : Int32} (h1 : 111 ≤ a.toInt) (h2 : a.toInt ≤ 999) : 1 ≤ (a / 10 / 10 - a / 10 / 10 / 10 * 10).toInt := by
  rw [dig0 (by omega) h2]
  omega
