/-! ### facts that tell new symbols one behind the other: their values by evaluation -/
set_option maxRecDepth 100000
def e_iv (f : Nat → Int32) (v : Value) : Int32 := (c_iv (fun _ => 0, f) v).getD 0
def e_put (f : Nat → Int32) (n : Nat) (z : Int32) : Nat → Int32 := fun i => if i = n then z else f i
/-- the values, out of the facts -/
noncomputable def e_f : List c_F → (Nat → Int32) → Nat → Nat → Int32
  | [], f, _ => f
  | g :: t, f, n => e_f t (e_put f n ((c_sem g.1 (e_iv f g.2.1) (e_iv f g.2.2.1)).getD 0)) (n + 1)
/-- a value whose symbol is known -/
def e_lt (n : Nat) : Value → Bool
  | .int _ => true
  | .retAddr i => Nat.ble 10 i && Nat.blt i n
  | _ => false
def e_rs (n : Nat) : Value → Bool
  | .retAddr i => Nat.beq i n
  | _ => false
def e_o (o : Nat) : Bool := Nat.blt o 9 || (Nat.beq o 30 || Nat.beq o 31)
def e_ok : List c_F → Nat → Bool
  | [], _ => true
  | g :: t, n => e_o g.1 && (e_lt n g.2.1 && (e_lt n g.2.2.1 && (e_rs n g.2.2.2 && e_ok t (n + 1))))
theorem e_sem {o : Nat} (h : e_o o = true) (a b : Int32) : ∃ z, c_sem o a b = some z := by
  unfold e_o at h
  match o, h with
  | 0, _ => exact ⟨_, rfl⟩
  | 1, _ => exact ⟨_, rfl⟩
  | 2, _ => exact ⟨_, rfl⟩
  | 3, _ => exact ⟨_, rfl⟩
  | 4, _ => exact ⟨_, rfl⟩
  | 5, _ => exact ⟨_, rfl⟩
  | 6, _ => exact ⟨_, rfl⟩
  | 7, _ => exact ⟨_, rfl⟩
  | 8, _ => exact ⟨_, rfl⟩
  | o + 9, h =>
    have h1 : Nat.blt (o + 9) 9 = false := by
      cases h9 : Nat.blt (o + 9) 9 with
      | false => rfl
      | true => exact absurd (Nat.blt_eq.mp h9) (by omega)
    rw [h1, Bool.false_or, Bool.or_eq_true] at h
    rcases h with h | h
    · rw [Nat.eq_of_beq_eq_true h]
      exact ⟨_, rfl⟩
    · rw [Nat.eq_of_beq_eq_true h]
      exact ⟨_, rfl⟩
theorem e_keep : ∀ (D : List c_F) (f : Nat → Int32) (n i : Nat), i < n → e_f D f n i = f i
  | [], _, _, _, _ => rfl
  | g :: t, f, n, i, h => by
    unfold e_f
    rw [e_keep t _ _ _ (by omega)]
    unfold e_put
    rw [if_neg (by omega)]
theorem e_ivk {f f2 : Nat → Int32} {n : Nat} (hf : ∀ i, i < n → f2 i = f i) {v : Value} (h : e_lt n v = true) : ∃ z, c_iv (fun _ => 0, f) v = some z ∧ c_iv (fun _ => 0, f2) v = some z := by
  cases v with
  | int z => exact ⟨z, rfl, rfl⟩
  | retAddr i =>
    unfold e_lt at h
    rw [Bool.and_eq_true] at h
    have h1 := Nat.le_of_ble_eq_true h.1
    have h2 : i < n := Nat.blt_eq.mp h.2
    refine ⟨f i, ?_, ?_⟩
    · show (if 10 ≤ i then some (f i) else none) = some (f i)
      rw [if_pos h1]
    · show (if 10 ≤ i then some (f2 i) else none) = some (f i)
      rw [if_pos h1, hf i h2]
  | _ => cases h
theorem e_F : ∀ (D : List c_F) (f : Nat → Int32) (n : Nat), 10 ≤ n → e_ok D n = true → ∀ g ∈ D, c_hold (fun _ => 0, e_f D f n) g
  | [], _, _, _, _, g, hg => nomatch hg
  | d :: t, f, n, hn, h, g, hg => by
    unfold e_ok at h
    rw [Bool.and_eq_true, Bool.and_eq_true, Bool.and_eq_true, Bool.and_eq_true] at h
    obtain ⟨ho, hx, hy, hr, ht⟩ := h
    rcases List.mem_cons.mp hg with h9 | h9
    · subst h9
      have kf : ∀ i, i < n → e_f (g :: t) f n i = f i := fun i hi => e_keep _ _ _ _ hi
      obtain ⟨z1, h1, h2⟩ := e_ivk kf hx
      obtain ⟨z2, h3, h4⟩ := e_ivk kf hy
      obtain ⟨z, hz⟩ := e_sem ho z1 z2
      refine ⟨z1, z2, z, h2, h4, hz, ?_⟩
      cases hv : g.2.2.2 with
      | retAddr i =>
        rw [hv] at hr
        have h5 : i = n := Nat.eq_of_beq_eq_true hr
        subst h5
        show (if 10 ≤ i then some (e_f (g :: t) f i i) else none) = some z
        rw [if_pos hn]
        unfold e_f
        rw [e_keep t _ _ _ (by omega)]
        unfold e_put
        rw [if_pos rfl]
        unfold e_iv
        rw [h1, h3]
        show some ((c_sem g.1 z1 z2).getD 0) = some z
        rw [hz]
        rfl
      | _ => rw [hv] at hr; cases hr
    · exact e_F t _ (n + 1) (by omega) ht g h9
/-- numbers of symbols: below n0 as f says, from there as the facts say -/
noncomputable def e_B (f : Nat → Int32) (n0 : Nat) (D : List c_F) : c_B := (fun _ => 0, fun i => if i < n0 then f i else e_f D f n0 i)
theorem e_Bf {f : Nat → Int32} {n0 : Nat} {D : List c_F} (hn : 10 ≤ n0) (h : e_ok D n0 = true) : ∀ g ∈ D, c_hold (e_B f n0 D) g := by
  have e : e_B f n0 D = (fun _ => 0, e_f D f n0) := by
    unfold e_B
    congr 1
    funext i
    by_cases h1 : i < n0
    · rw [if_pos h1, e_keep _ _ _ _ h1]
    · rw [if_neg h1]
  rw [e]
  exact e_F D f n0 hn h
/-! ### what facts say of values -/
theorem e_v {B : c_B} {i : Nat} {v : Int32} (e : c_iv B (.retAddr i) = some v) : B.2 i = v := by
  have e2 : (if 10 ≤ i then some (B.2 i) else none) = some v := e
  split at e2
  · injection e2
  · cases e2
theorem e_rr {B : c_B} {o i j k : Nat} (h : c_hold B (o, .retAddr i, .retAddr j, .retAddr k)) : c_sem o (B.2 i) (B.2 j) = some (B.2 k) := by
  obtain ⟨a, b, c, h1, h2, h3, h4⟩ := h
  rw [e_v h1, e_v h2, e_v h4]
  exact h3
theorem e_ri {B : c_B} {o i k : Nat} {b : Int32} (h : c_hold B (o, .retAddr i, .int b, .retAddr k)) : c_sem o (B.2 i) b = some (B.2 k) := by
  obtain ⟨a, b1, c, h1, h2, h3, h4⟩ := h
  have h6 : b = b1 := by injection h2
  rw [e_v h1, e_v h4, h6]
  exact h3
theorem e_ir {B : c_B} {o j k : Nat} {b : Int32} (h : c_hold B (o, .int b, .retAddr j, .retAddr k)) : c_sem o b (B.2 j) = some (B.2 k) := by
  obtain ⟨a, b1, c, h1, h2, h3, h4⟩ := h
  have h6 : b = a := by injection h1
  rw [e_v h2, e_v h4, h6]
  exact h3
theorem e_at {B : c_B} {D : List c_F} (h : ∀ f ∈ D, c_hold B f) (i : Nat) {f : c_F} (e : D[i]? = some f) : c_hold B f := h f (List.mem_of_getElem? e)
/-! ### values that agree tell alike -/
def e_vk (lo n : Nat) : Value → Bool
  | .retAddr i => Nat.blt i 10 || (Nat.ble lo i && Nat.blt i n)
  | .double d => Nat.blt d.toNat c_M0 || (Nat.ble (c_M0 + lo) d.toNat && Nat.blt d.toNat (c_M0 + n))
  | _ => true
def e_ck (lo n : Nat) : c_Cell → Bool
  | none => true
  | some (.inl q) => q.2.all (e_vk lo n)
  | some (.inr q) => q.2.all (e_vk lo n)
def e_hk (lo n : Nat) (h : c_Hp) : Bool := h.all (e_ck lo n)
theorem e_vc {B B2 : c_B} {lo n : Nat} (hB : ∀ i, lo ≤ i → i < n → B.2 i = B2.2 i) {v : Value} (h : e_vk lo n v = true) : s_v B v = s_v B2 v := by
  cases v with
  | retAddr i =>
    show (if i < 10 then Value.retAddr i else Value.int (B.2 i)) = (if i < 10 then Value.retAddr i else Value.int (B2.2 i))
    by_cases h1 : i < 10
    · rw [if_pos h1, if_pos h1]
    · unfold e_vk at h
      rw [Bool.or_eq_true, Bool.and_eq_true] at h
      rcases h with h | h
      · exact absurd (Nat.blt_eq.mp h) h1
      · rw [if_neg h1, if_neg h1, hB i (Nat.le_of_ble_eq_true h.1) (Nat.blt_eq.mp h.2)]
  | double d =>
    unfold e_vk at h
    rw [Bool.or_eq_true, Bool.and_eq_true] at h
    show (if c_M0 ≤ d.toNat then Value.long (B.2 (d.toNat - c_M0)).toInt64 else Value.double d) = (if c_M0 ≤ d.toNat then Value.long (B2.2 (d.toNat - c_M0)).toInt64 else Value.double d)
    rcases h with h | h
    · have h1 : d.toNat < c_M0 := Nat.blt_eq.mp h
      rw [if_neg (by omega), if_neg (by omega)]
    · have h1 := Nat.le_of_ble_eq_true h.1
      have h2 : d.toNat < c_M0 + n := Nat.blt_eq.mp h.2
      rw [if_pos (by omega), if_pos (by omega), hB _ (by omega) (by omega)]
  | _ => rfl
theorem e_hc {B B2 : c_B} {lo n : Nat} (hB : ∀ i, lo ≤ i → i < n → B.2 i = B2.2 i) {h : c_Hp} (e : e_hk lo n h = true) : s_h B h = s_h B2 h := by
  unfold s_h
  apply List.map_congr_left
  intro c hc
  have h1 := List.all_eq_true.mp e c hc
  match c, h1 with
  | none, _ => rfl
  | some (.inl q), h1 =>
    show some (Sum.inl (q.1, q.2.map (s_v B))) = some (Sum.inl (q.1, q.2.map (s_v B2)))
    rw [List.map_congr_left (fun v hv => e_vc hB (List.all_eq_true.mp h1 v hv))]
  | some (.inr q), h1 =>
    show some (Sum.inr (q.1, q.2.map (s_v B))) = some (Sum.inr (q.1, q.2.map (s_v B2)))
    rw [List.map_congr_left (fun v hv => e_vc hB (List.all_eq_true.mp h1 v hv))]
