/-! ### symbols put for symbols -/
def z_v (p : Nat → Value) : Value → Value
  | .retAddr i => if i < 10 then .retAddr i else p i
  | v => v
def z_c (p : Nat → Value) : c_Cell → c_Cell
  | none => none
  | some (.inl q) => some (.inl (q.1, q.2.map (z_v p)))
  | some (.inr q) => some (.inr (q.1, q.2.map (z_v p)))
def z_sy : Value → Bool
  | .int _ => true
  | .retAddr i => Nat.ble 10 i
  | _ => false
def z_is (i : Nat) : Value → Bool
  | .retAddr j => Nat.beq i j && Nat.ble 10 i
  | _ => false
def z_k (p : Nat → Value) : Value → Bool
  | .retAddr i => Nat.blt i 10 || z_sy (p i)
  | .double d => Nat.blt d.toNat c_M0 || z_is (d.toNat - c_M0) (p (d.toNat - c_M0))
  | _ => true
def z_ck (p : Nat → Value) : c_Cell → Bool
  | none => true
  | some (.inl q) => q.2.all (z_k p)
  | some (.inr q) => q.2.all (z_k p)
def z_f (B : c_B) (p : Nat → Value) : Nat → Int32 := fun i => (c_iv B (p i)).getD 0
theorem z_val (B : c_B) (p : Nat → Value) {v : Value} (h : z_k p v = true) : s_v B (z_v p v) = s_v (k34_B (z_f B p)) v := by
  cases v with
  | retAddr i =>
    by_cases h1 : i < 10
    · show s_v B (if i < 10 then Value.retAddr i else p i) = (if i < 10 then Value.retAddr i else Value.int (z_f B p i))
      rw [if_pos h1, if_pos h1]
      show (if i < 10 then Value.retAddr i else Value.int (B.2 i)) = _
      rw [if_pos h1]
    · show s_v B (if i < 10 then Value.retAddr i else p i) = (if i < 10 then Value.retAddr i else Value.int (z_f B p i))
      rw [if_neg h1, if_neg h1]
      unfold z_k at h
      rw [Bool.or_eq_true] at h
      have h2 := h.resolve_left (fun h9 => h1 (Nat.blt_eq.mp h9))
      unfold z_f
      cases hp : p i with
      | int z => rfl
      | retAddr j =>
        rw [hp] at h2
        have h3 : 10 ≤ j := Nat.le_of_ble_eq_true h2
        show (if j < 10 then Value.retAddr j else Value.int (B.2 j)) = Value.int ((if 10 ≤ j then some (B.2 j) else none).getD 0)
        rw [if_neg (by omega), if_pos h3]
        rfl
      | _ => rw [hp] at h2; cases h2
  | double d =>
    show (if c_M0 ≤ d.toNat then Value.long (B.2 (d.toNat - c_M0)).toInt64 else Value.double d) = (if c_M0 ≤ d.toNat then Value.long (z_f B p (d.toNat - c_M0)).toInt64 else Value.double d)
    unfold z_k at h
    rw [Bool.or_eq_true] at h
    by_cases h1 : c_M0 ≤ d.toNat
    · rw [if_pos h1, if_pos h1]
      have h2 := h.resolve_left (fun h9 => absurd (Nat.blt_eq.mp h9) (by omega))
      cases hp : p (d.toNat - c_M0) with
      | retAddr j =>
        rw [hp] at h2
        unfold z_is at h2
        rw [Bool.and_eq_true] at h2
        have h3 := Nat.eq_of_beq_eq_true h2.1
        have h4 := Nat.le_of_ble_eq_true h2.2
        unfold z_f
        rw [hp]
        show _ = Value.long ((if 10 ≤ j then some (B.2 j) else none).getD 0).toInt64
        rw [← h3, if_pos h4]
        rfl
      | _ => rw [hp] at h2; cases h2
    · rw [if_neg h1, if_neg h1]
  | _ => rfl
theorem z_h (B : c_B) (p : Nat → Value) {h h1 : c_Hp} (hk : h.all (z_ck p) = true) (e : h.map (z_c p) = h1) : s_h B h1 = s_h (k34_B (z_f B p)) h := by
  rw [← e]
  unfold s_h
  rw [List.map_map]
  apply List.map_congr_left
  intro c hc
  have h2 := List.all_eq_true.mp hk c hc
  match c, h2 with
  | none, _ => rfl
  | some (.inl q), h2 =>
    show some (Sum.inl (q.1, (q.2.map (z_v p)).map (s_v B))) = some (Sum.inl (q.1, q.2.map (s_v (k34_B (z_f B p)))))
    rw [show (q.2.map (z_v p)).map (s_v B) = q.2.map (s_v (k34_B (z_f B p))) from by rw [List.map_map]; exact List.map_congr_left (fun v hv => z_val B p (List.all_eq_true.mp h2 v hv))]
  | some (.inr q), h2 =>
    show some (Sum.inr (q.1, (q.2.map (z_v p)).map (s_v B))) = some (Sum.inr (q.1, q.2.map (s_v (k34_B (z_f B p)))))
    rw [show (q.2.map (z_v p)).map (s_v B) = q.2.map (s_v (k34_B (z_f B p))) from by rw [List.map_map]; exact List.map_congr_left (fun v hv => z_val B p (List.all_eq_true.mp h2 v hv))]
theorem w_0 : w_c 0 = some (.inr (1, List.replicate 64 (.long 0))) := by decide +kernel
