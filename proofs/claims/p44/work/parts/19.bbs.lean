/-! Rows of boxes that hold one ball: a list, true where a ball lies, endlessly many empty boxes behind it. -/
/-- a step of a carrier without bound that comes with c balls -/
def b_T : Nat → List Bool → List Bool
  | c, [] => List.replicate c true
  | c, true :: w => false :: b_T (c + 1) w
  | 0, false :: w => false :: b_T 0 w
  | c + 1, false :: w => true :: b_T c w
/-- the balls' places, the first box being o -/
def b_pos : Nat → List Bool → List Nat
  | _, [] => []
  | o, true :: w => o :: b_pos (o + 1) w
  | o, false :: w => b_pos (o + 1) w
/-- a round: each ball with an empty box behind it goes, with that box -/
def b_red : List Bool → List Bool
  | [] => []
  | [x] => [x]
  | true :: false :: t => b_red t
  | false :: y :: t => false :: b_red (y :: t)
  | true :: true :: t => true :: b_red (true :: t)
/-- the pairs of a round -/
def b_cnt : List Bool → Nat
  | [] => 0
  | [_] => 0
  | true :: false :: t => b_cnt t + 1
  | false :: y :: t => b_cnt (y :: t)
  | true :: true :: t => b_cnt (true :: t)
/-- the load behind a row, of a carrier without bound -/
def b_L : Nat → List Bool → Nat
  | c, [] => c
  | c, true :: w => b_L (c + 1) w
  | c, false :: w => b_L (c - 1) w
/-- falls from a ball to an empty box, the box ahead being p -/
def b_desc : Bool → List Bool → Nat
  | _, [] => 0
  | p, x :: t => (if p && !x then 1 else 0) + b_desc x t
def b_ok (w : List Bool) : Prop := w.getLast? ≠ some true
theorem b_ok_tail {x y : Bool} {t : List Bool} (h : b_ok (x :: y :: t)) : b_ok (y :: t) := by
  unfold b_ok at h ⊢
  rw [List.getLast?_cons_cons] at h
  exact h
theorem b_ok_tail2 {x y : Bool} {t : List Bool} (h : b_ok (x :: y :: t)) : b_ok t := by
  cases t with
  | nil => simp [b_ok]
  | cons z t => exact b_ok_tail (b_ok_tail h)
theorem b_L_red (w : List Bool) : ∀ c, b_L c (b_red w) = b_L c w := by
  induction w using b_red.induct with
  | case1 => intro c; simp [b_red]
  | case2 x => intro c; simp [b_red]
  | case3 t ih => intro c; simp [b_red, b_L, ih]
  | case4 y t ih => intro c; rw [b_red, b_L, ih, b_L]
  | case5 t ih => intro c; simp only [b_red, b_L, ih]
theorem b_L_ok : ∀ (w : List Bool) (c : Nat), b_L c w = 0 → b_ok w
  | [], _, _ => by simp [b_ok]
  | [x], c, h => by
    cases x
    · simp [b_ok]
    · simp [b_L] at h
  | x :: y :: t, c, h => by
    unfold b_ok
    rw [List.getLast?_cons_cons]
    cases x
    · exact b_L_ok (y :: t) (c - 1) (by rw [b_L] at h; exact h)
    · exact b_L_ok (y :: t) (c + 1) (by rw [b_L] at h; exact h)
theorem b_cnt_desc (w : List Bool) : b_cnt w = b_desc false w := by
  induction w using b_cnt.induct with
  | case1 => simp [b_cnt, b_desc]
  | case2 x => simp [b_cnt, b_desc]
  | case3 t ih => simp [b_cnt, b_desc, ih]; omega
  | case4 y t ih => rw [b_cnt, ih]; simp [b_desc]
  | case5 t ih => rw [b_cnt, ih]; simp [b_desc]
theorem b_red_len (w : List Bool) : (b_red w).length + 2 * b_cnt w = w.length := by
  induction w using b_red.induct with
  | case1 => simp [b_red, b_cnt]
  | case2 x => simp [b_red, b_cnt]
  | case3 t ih => simp [b_red, b_cnt]; omega
  | case4 y t ih => rw [b_red, b_cnt]; simp only [List.length_cons] at ih ⊢; omega
  | case5 t ih => rw [b_red, b_cnt]; simp only [List.length_cons] at ih ⊢; omega
theorem b_desc_true : ∀ (w : List Bool), b_desc true w = 0 → ∀ x ∈ w, x = true
  | [], _, x, hx => by cases hx
  | y :: t, h, x, hx => by
    cases y
    · simp [b_desc] at h
    · simp [b_desc] at h
      rcases List.mem_cons.mp hx with e | e
      · exact e
      · exact b_desc_true t h x e
theorem b_none : ∀ (w : List Bool), b_desc false w = 0 → b_ok w → ∀ x ∈ w, x = false
  | [], _, _, x, hx => by cases hx
  | false :: t, h, hk, x, hx => by
    rcases List.mem_cons.mp hx with e | e
    · exact e
    · have h2 : b_desc false t = 0 := by simpa [b_desc] using h
      refine b_none t h2 ?_ x e
      cases t with
      | nil => simp [b_ok]
      | cons y t => exact b_ok_tail hk
  | true :: t, h, hk, x, hx => by
    exfalso
    have h2 : b_desc true t = 0 := by simpa [b_desc] using h
    have h3 := b_desc_true t h2
    apply hk
    cases hl : (true :: t).getLast? with
    | none => simp at hl
    | some y =>
      have hm := List.mem_of_getLast? hl
      rcases List.mem_cons.mp hm with e | e
      · rw [e]
      · rw [h3 y e]
theorem b_pos_none : ∀ (w : List Bool) (o : Nat), (∀ x ∈ w, x = false) → b_pos o w = []
  | [], _, _ => rfl
  | x :: t, o, h => by
    have e := h x List.mem_cons_self
    subst e
    rw [b_pos]
    exact b_pos_none t _ (fun y hy => h y (List.mem_cons_of_mem _ hy))
/-! ### marks: a word that a round gives, with the pairs that went, told by their places -/
def b_P : Nat → List Bool
  | 0 => []
  | k + 1 => true :: false :: b_P k
theorem b_P_succ : ∀ k, b_P (k + 1) = b_P k ++ [true, false]
  | 0 => rfl
  | k + 1 => by
    show true :: false :: b_P (k + 1) = (true :: false :: b_P k) ++ [true, false]
    rw [b_P_succ k]
    rfl
/-- the word: pairs at their places, and one more at the end of each run -/
def b_B : Bool → List (Nat × Bool) → List Bool
  | p, [] => if p then [true, false] else []
  | p, q :: d => b_P (q.1 + if p && !q.2 then 1 else 0) ++ q.2 :: b_B q.2 d
def b_dec : Bool → Nat → List Bool → List (Nat × Bool)
  | p, k, [] => [(k - (if p then 1 else 0), false)]
  | p, k, [x] => [(k - (if p && !x then 1 else 0), x), (0, false)]
  | p, k, true :: false :: t => b_dec p (k + 1) t
  | p, k, false :: y :: t => (k - (if p then 1 else 0), false) :: b_dec false 0 (y :: t)
  | p, k, true :: true :: t => (k, true) :: b_dec true 0 (true :: t)
theorem b_dec_B (w : List Bool) : ∀ (p : Bool) (k : Nat), (p = true → k = 0 → ∃ t, w = true :: t) → b_ok w → b_B p (b_dec p k w) = b_P k ++ w ++ [false] := by
  induction w using b_red.induct with
  | case1 =>
    intro p k h _
    cases p
    · simp [b_dec, b_B]
    · rcases k with _ | k
      · obtain ⟨t, ht⟩ := h rfl rfl
        cases ht
      · simp [b_dec, b_B]
  | case2 x =>
    intro p k h hk
    cases x
    · cases p
      · simp [b_dec, b_B, b_P]
      · rcases k with _ | k
        · obtain ⟨t, ht⟩ := h rfl rfl
          cases ht
        · simp [b_dec, b_B, b_P]
    · exact (hk rfl).elim
  | case3 t ih =>
    intro p k h hk
    rw [b_dec, ih p (k + 1) (fun _ e => by cases e) (b_ok_tail2 hk), b_P_succ]
    simp
  | case4 y t ih =>
    intro p k h hk
    rw [b_dec, b_B]
    simp only
    rw [ih false 0 (fun e => by cases e) (b_ok_tail hk)]
    cases p
    · simp [b_P]
    · rcases k with _ | k
      · obtain ⟨t, ht⟩ := h rfl rfl
        cases ht
      · simp [b_P]
  | case5 t ih =>
    intro p k h hk
    rw [b_dec, b_B]
    simp only
    rw [ih true 0 (fun _ _ => ⟨t, rfl⟩) (b_ok_tail hk)]
    cases p <;> simp [b_P]
theorem b_dec_snd (w : List Bool) : ∀ (p : Bool) (k : Nat), (b_dec p k w).map (·.2) = b_red w ++ [false] := by
  induction w using b_red.induct with
  | case1 => intro p k; simp [b_dec, b_red]
  | case2 x => intro p k; simp [b_dec, b_red]
  | case3 t ih => intro p k; rw [b_dec, ih, b_red]
  | case4 y t ih => intro p k; rw [b_dec, List.map_cons, ih, b_red]; rfl
  | case5 t ih => intro p k; rw [b_dec, List.map_cons, ih, b_red]; rfl
theorem b_dec_sum (w : List Bool) : ∀ (p : Bool) (k : Nat), (p = true → k = 0 → ∃ t, w = true :: t) → b_ok w → ((b_dec p k w).map (·.1)).sum + b_desc p (b_red w ++ [false]) = k + b_cnt w := by
  induction w using b_red.induct with
  | case1 =>
    intro p k h _
    cases p
    · simp [b_dec, b_red, b_desc, b_cnt]
    · rcases k with _ | k
      · obtain ⟨t, ht⟩ := h rfl rfl
        cases ht
      · simp [b_dec, b_red, b_desc, b_cnt]
  | case2 x =>
    intro p k h hk
    cases x
    · cases p
      · simp [b_dec, b_red, b_desc, b_cnt]
      · rcases k with _ | k
        · obtain ⟨t, ht⟩ := h rfl rfl
          cases ht
        · simp [b_dec, b_red, b_desc, b_cnt]
    · exact (hk rfl).elim
  | case3 t ih =>
    intro p k h hk
    rw [b_dec, b_red, b_cnt, ih p (k + 1) (fun _ e => by cases e) (b_ok_tail2 hk)]
    omega
  | case4 y t ih =>
    intro p k h hk
    have h2 := ih false 0 (fun e => by cases e) (b_ok_tail hk)
    rw [b_dec, b_red, b_cnt, List.map_cons, List.sum_cons, List.cons_append, b_desc]
    cases p
    · simp at h2 ⊢; omega
    · rcases k with _ | k
      · obtain ⟨t, ht⟩ := h rfl rfl
        cases ht
      · simp at h2 ⊢; omega
  | case5 t ih =>
    intro p k h hk
    have h2 := ih true 0 (fun _ _ => ⟨t, rfl⟩) (b_ok_tail hk)
    rw [b_dec, b_red, b_cnt, List.map_cons, List.sum_cons, List.cons_append, b_desc]
    cases p <;> simp at h2 ⊢ <;> omega
theorem b_desc_end : ∀ (w : List Bool) (p : Bool), (w = [] → p = false) → b_ok w → b_desc p (w ++ [false]) = b_desc p w
  | [], p, h, _ => by rw [h rfl]; simp [b_desc]
  | [x], p, _, hk => by
    cases x
    · simp [b_desc]
    · exact (hk rfl).elim
  | x :: y :: t, p, _, hk => by
    show (if p && !x then 1 else 0) + b_desc x ((y :: t) ++ [false]) = (if p && !x then 1 else 0) + b_desc x (y :: t)
    rw [b_desc_end (y :: t) x (fun e => by cases e) (b_ok_tail hk)]
