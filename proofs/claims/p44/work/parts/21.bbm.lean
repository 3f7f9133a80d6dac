/-! ### what the rounds give, the runs at last, and the carriers' counts -/
/-- the pairs of the rounds, one after another -/
def b_rem : Nat → List Bool → List Nat
  | 0, _ => []
  | f + 1, u => if b_cnt u = 0 then [] else b_cnt u :: b_rem f (b_red u)
/-- the size of a wave -/
def b_sz (R : List Nat) (i : Nat) : Nat := (R.filter (fun r => decide (i < r))).length
theorem b_zero : ∀ (w : List Bool), (∀ x ∈ w, x = false) → ∀ n, b_rw n w = if n = 0 then [] else [n]
  | [], _, n => rfl
  | x :: w, h, n => by
    have hx := h x List.mem_cons_self
    subst hx
    have ih := b_zero w (fun y hy => h y (List.mem_cons_of_mem _ hy)) 0
    by_cases e : n = 0 <;> simp [b_rw, e, ih]
/-- the marks of a word: where the pairs of the first round lay -/
theorem b_marks {u : List Bool} (hk : b_L 0 u = 0) : ∃ d : List (Nat × Bool), b_B false d = u ++ [false] ∧ d.map (·.2) = b_red u ++ [false] ∧ (d.map (·.1)).sum + b_cnt (b_red u) = b_cnt u := by
  have h1 := b_L_ok u 0 hk
  have h2 := b_L_ok (b_red u) 0 (by rw [b_L_red]; exact hk)
  refine ⟨b_dec false 0 u, ?_, b_dec_snd u false 0, ?_⟩
  · rw [b_dec_B u false 0 (fun e => by cases e) h1]
    rfl
  · have h3 := b_dec_sum u false 0 (fun e => by cases e) h1
    rw [b_desc_end _ _ (fun _ => rfl) h2, ← b_cnt_desc] at h3
    omega
theorem b_cnt_red {u : List Bool} (hk : b_L 0 u = 0) : b_cnt (b_red u) ≤ b_cnt u := by
  obtain ⟨d, -, -, h⟩ := b_marks hk
  omega
theorem b_rem_le : ∀ (f : Nat) (u : List Bool), b_L 0 u = 0 → ∀ r ∈ b_rem f u, r ≤ b_cnt u
  | 0, _, _, r, h => by cases h
  | f + 1, u, hk, r, h => by
    unfold b_rem at h
    split at h
    · cases h
    · rcases List.mem_cons.mp h with e | e
      · omega
      · have := b_rem_le f (b_red u) (by rw [b_L_red]; exact hk) r e
        have := b_cnt_red hk
        omega
theorem b_sz_none {R : List Nat} {m i : Nat} (h : ∀ r ∈ R, r ≤ m) (hi : m ≤ i) : b_sz R i = 0 := by
  unfold b_sz
  rw [List.length_eq_zero_iff, List.filter_eq_nil_iff]
  intro r hr
  have := h r hr
  simp
  omega
theorem b_sz_cons (m : Nat) (R : List Nat) (i : Nat) : b_sz (m :: R) i = (if i < m then 1 else 0) + b_sz R i := by
  unfold b_sz
  by_cases h : i < m
  · simp [h]; omega
  · simp [h]
/-- the runs' lengths after as many steps as there are boxes: the waves' sizes, the smallest first -/
theorem b_runs (f : Nat) : ∀ (u : List Bool) (t : Nat), b_L 0 u = 0 → u.length ≤ f → u.length + 1 ≤ t →
    b_rl (b_it b_G t (b_pos 0 u)) = (List.range (b_cnt u)).map (fun i => b_sz (b_rem f u) (b_cnt u - 1 - i)) := by
  induction f with
  | zero =>
    intro u t hk hf ht
    have : u = [] := List.length_eq_zero_iff.mp (by omega)
    subst this
    have : ∀ t, b_it b_G t [] = [] := by
      intro t
      induction t with
      | zero => rfl
      | succ t ih => exact ih
    show b_rl (b_it b_G t []) = []
    rw [this]
    rfl
  | succ f ihf =>
    intro u t hk hf ht
    by_cases h0 : b_cnt u = 0
    · have h1 := b_none u (by rw [← b_cnt_desc]; exact h0) (b_L_ok u 0 hk)
      rw [h0, b_pos_none u 0 h1]
      have : ∀ t, b_it b_G t [] = [] := by
        intro t
        induction t with
        | zero => rfl
        | succ t ih => exact ih
      rw [this]
      rfl
    · skip
      · have hlen := b_red_len u
        have hk2 : b_L 0 (b_red u) = 0 := by rw [b_L_red]; exact hk
        have ih := ihf (b_red u) t hk2 (by omega) (by omega)
        obtain ⟨d, d1, d2, d3⟩ := b_marks hk
        rw [← b_pos_app u 0, ← d1, b_Git_B, b_rl_sh, (b_rl_rw _ 0).1]
        have e1 : b_rw 0 (b_it (b_T 0) t (d.map (·.2))) = b_rl (b_it b_G t (b_pos 0 (b_red u))) := by
          rw [d2, ← (b_rl_rw _ 0).1, ← b_Git_T, b_pos_app]
        obtain ⟨j, hj⟩ := b_Tdit_fst t d
        have hs := b_Tdit_snd t d
        have hd : d.length = (b_red u).length + 1 := by
          have := congrArg List.length d2
          simpa using this
        generalize hD : b_it (b_Td 0) t d = D at hj hs ⊢
        have hfront : ∀ q ∈ D.take d.length, q.2 = false := by
          intro q hq
          obtain ⟨i, hi1, hi2⟩ := List.mem_iff_getElem.mp hq
          rw [List.length_take] at hi1
          have h5 := b_Tit_front t 0 (d.map (·.2)) (fun i hi => by omega) i (by omega)
          rw [← hs, List.getElem?_map] at h5
          have h6 : D[i]? = some q := by
            rw [List.getElem_take] at hi2
            rw [← hi2]
            exact List.getElem?_eq_getElem (by omega)
          rw [h6] at h5
          cases hq2 : q.2
          · rfl
          · rw [Option.map_some, hq2] at h5
            exact absurd rfl h5
        have hback : ∀ q ∈ D.drop d.length, q.1 = 0 := by
          intro q hq
          have h5 : q.1 ∈ (D.map (·.1)).drop d.length := by
            rw [← List.map_drop]
            exact List.mem_map_of_mem hq
          rw [hj, List.drop_left' (by simp)] at h5
          exact (List.mem_replicate.mp h5).2
        have hsum : ((D.take d.length).map (·.1)).sum = (d.map (·.1)).sum := by
          rw [List.map_take, hj, List.take_left' (by simp)]
        have e2 : b_rw 0 (D.map (·.2)) = b_rw 0 ((D.drop d.length).map (·.2)) := by
          have : ∀ (a b : List Bool), (∀ x ∈ a, x = false) → b_rw 0 (a ++ b) = b_rw 0 b := by
            intro a
            induction a with
            | nil => intro b _; rfl
            | cons x a iha =>
              intro b h
              have hx := h x List.mem_cons_self
              subst hx
              show b_rw 0 (a ++ b) = _
              exact iha b (fun y hy => h y (List.mem_cons_of_mem _ hy))
          rw [← List.take_append_drop d.length D, List.map_append, this]
          · rw [List.take_append_drop]
          · intro x hx
            obtain ⟨q, hq1, hq2⟩ := List.mem_map.mp hx
            rw [← hq2]
            exact hfront q hq1
        rw [← List.take_append_drop d.length D, b_rw_front _ _ hfront, hsum, (b_rw_back _ hback).1, ← e2, hs, e1, ih]
        obtain ⟨m, hm⟩ : ∃ m, m = b_cnt u := ⟨_, rfl⟩
        obtain ⟨m1, hm1⟩ : ∃ m1, m1 = b_cnt (b_red u) := ⟨_, rfl⟩
        have hR : b_rem (f + 1) u = m :: b_rem f (b_red u) := by
          rw [b_rem, if_neg h0, hm]
        have hle := b_rem_le f (b_red u) hk2
        rw [← hm1] at hle d3 ⊢
        rw [← hm] at d3 ⊢
        rw [hR]
        refine List.ext_getElem? fun i => ?_
        by_cases c1 : i < (d.map (·.1)).sum
        · rw [List.getElem?_append_left (by simpa using c1), List.getElem?_replicate, if_pos c1, List.getElem?_map, List.getElem?_range (by omega), Option.map_some, b_sz_cons, if_pos (by omega), b_sz_none hle (by omega)]
        · rw [List.getElem?_append_right (by simpa using c1), List.length_replicate]
          by_cases c2 : i < m
          · rw [List.getElem?_map, List.getElem?_map, List.getElem?_range (by omega), Option.map_some, Option.map_some, List.getElem?_map, List.getElem?_range c2, Option.map_some, b_sz_cons, if_pos (by omega), show m1 - 1 - (i - (d.map (·.1)).sum) = m - 1 - i by omega, Nat.add_comm]
          · rw [List.getElem?_eq_none (by simp; omega), List.getElem?_eq_none (by simp; omega)]
/-- the balls that a carrier of capacity k picks up, coming with c -/
def b_E (k : Nat) : Nat → List Bool → Nat
  | _, [] => 0
  | c, true :: w => if c < k then 1 + b_E k (c + 1) w else b_E k c w
  | c, false :: w => b_E k (c - 1) w
theorem b_E_red (k : Nat) (w : List Bool) : ∀ c, c ≤ k → b_ok w → b_E (k + 1) c w = b_cnt w + b_E k c (b_red w) := by
  induction w using b_red.induct with
  | case1 => intro c _ _; rfl
  | case2 x =>
    intro c _ hk
    cases x
    · rfl
    · exact (hk rfl).elim
  | case3 t ih =>
    intro c hc hk
    rw [b_red, b_cnt, b_E, if_pos (by omega), b_E, Nat.add_sub_cancel, ih c hc (b_ok_tail2 hk)]
    omega
  | case4 y t ih =>
    intro c hc hk
    rw [b_red, b_cnt, b_E, ih (c - 1) (by omega) (b_ok_tail hk), b_E]
  | case5 t ih =>
    intro c hc hk
    rw [b_red, b_cnt]
    by_cases h : c < k
    · rw [b_E, if_pos (by omega), ih (c + 1) (by omega) (b_ok_tail hk), b_E, if_pos h]
      omega
    · have hck : c = k := by omega
      subst hck
      have h2 := ih c (by omega) (b_ok_tail hk)
      rw [b_E, if_pos (by omega)] at h2
      rw [b_E, if_pos (by omega), b_E, if_neg (by omega), b_E, if_neg (by omega)]
      exact h2
theorem b_E_zero : ∀ (w : List Bool) (c : Nat), b_E 0 c w = 0
  | [], _ => rfl
  | true :: w, c => by rw [b_E, if_neg (by omega), b_E_zero w]
  | false :: w, c => by rw [b_E, b_E_zero w]
theorem b_E_none : ∀ (w : List Bool) (k c : Nat), (∀ x ∈ w, x = false) → b_E k c w = 0
  | [], _, _, _ => rfl
  | x :: w, k, c, h => by
    have hx := h x List.mem_cons_self
    subst hx
    rw [b_E, b_E_none w k _ (fun y hy => h y (List.mem_cons_of_mem _ hy))]
/-- .. is the sum of the first k rounds -/
theorem b_E_sum : ∀ (f : Nat) (k : Nat) (u : List Bool), b_L 0 u = 0 → u.length ≤ f → b_E k 0 u = ((b_rem f u).take k).sum
  | f, 0, u, _, _ => by rw [b_E_zero]; simp
  | 0, k + 1, u, _, hf => by
    have : u = [] := List.length_eq_zero_iff.mp (by omega)
    subst this
    rfl
  | f + 1, k + 1, u, hk, hf => by
    unfold b_rem
    split
    · rename_i h0
      rw [b_E_none u _ _ (b_none u (by rw [← b_cnt_desc]; exact h0) (b_L_ok u 0 hk))]
      rfl
    · have := b_red_len u
      rw [b_E_red k u 0 (by omega) (b_L_ok u 0 hk), b_E_sum f k (b_red u) (by rw [b_L_red]; exact hk) (by omega)]
      simp
theorem b_sum0 : ∀ m : Nat, ((List.range m).map (fun _ => 0)).sum = 0
  | 0 => rfl
  | m + 1 => by rw [List.range_succ, List.map_append, List.sum_append, b_sum0 m]; rfl
/-- the sizes' sum, each counted up to k -/
theorem b_szsum : ∀ (f k : Nat) (u : List Bool), b_L 0 u = 0 → ∀ m, b_cnt u ≤ m → ((List.range m).map (fun i => min (b_sz (b_rem f u) i) k)).sum = ((b_rem f u).take k).sum
  | f, 0, u, _, m, _ => by
    simp
    exact b_sum0 m
  | 0, k + 1, u, _, m, _ => by
    simp [b_rem, b_sz]
    exact b_sum0 m
  | f + 1, k + 1, u, hk, m, hm => by
    unfold b_rem
    split
    · simp [b_sz]
      exact b_sum0 m
    · have ih := b_szsum f k (b_red u) (by rw [b_L_red]; exact hk) (b_cnt u) (b_cnt_red hk)
      have hz := b_rem_le f (b_red u) (by rw [b_L_red]; exact hk)
      have hc := b_cnt_red hk
      rw [List.take_succ_cons, List.sum_cons, ← ih]
      generalize b_rem f (b_red u) = R at hz ⊢
      generalize b_cnt u = n at hm hc ⊢
      have h1 : ∀ j, ((List.range (n + j)).map (fun i => min (b_sz (n :: R) i) (k + 1))).sum = ((List.range n).map (fun i => min (b_sz (n :: R) i) (k + 1))).sum := by
        intro j
        induction j with
        | zero => rfl
        | succ j ihj =>
          rw [← Nat.add_assoc, List.range_succ, List.map_append, List.sum_append, ihj, List.map_singleton, List.sum_singleton, b_sz_cons, if_neg (by omega), b_sz_none hz (by omega)]
          simp
      rw [show m = n + (m - n) by omega, h1]
      have h2 : ∀ j, j ≤ n → ((List.range j).map (fun i => min (b_sz (n :: R) i) (k + 1))).sum = j + ((List.range j).map (fun i => min (b_sz R i) k)).sum := by
        intro j
        induction j with
        | zero => intro _; rfl
        | succ j ihj =>
          intro hj
          rw [List.range_succ, List.map_append, List.sum_append, List.map_append, List.sum_append, ihj (by omega), List.map_singleton, List.sum_singleton, List.map_singleton, List.sum_singleton, b_sz_cons, if_pos (by omega)]
          omega
      exact h2 n (Nat.le_refl n)
/-- enough empty boxes behind a row -/
theorem b_L_le : ∀ (w : List Bool) (c : Nat), b_L c w ≤ c + (w.filter id).length
  | [], c => by simp [b_L]
  | true :: w, c => by
    have := b_L_le w (c + 1)
    simp [b_L]
    omega
  | false :: w, c => by
    have := b_L_le w (c - 1)
    simp [b_L]
    omega
theorem b_L_app : ∀ (w v : List Bool) (c : Nat), b_L c (w ++ v) = b_L (b_L c w) v
  | [], _, _ => rfl
  | true :: w, v, c => by rw [List.cons_append, b_L, b_L, b_L_app w]
  | false :: w, v, c => by rw [List.cons_append, b_L, b_L, b_L_app w]
theorem b_L_rep : ∀ (j c : Nat), b_L c (List.replicate j false) = c - j
  | 0, _ => rfl
  | j + 1, c => by rw [List.replicate_succ, b_L, b_L_rep j]; omega
theorem b_bal (w : List Bool) (j : Nat) (h : (w.filter id).length ≤ j) : b_L 0 (w ++ List.replicate j false) = 0 := by
  rw [b_L_app, b_L_rep]
  have := b_L_le w 0
  omega
theorem b_pos_apps : ∀ (j : Nat) (w : List Bool) (o : Nat), b_pos o (w ++ List.replicate j false) = b_pos o w
  | 0, w, o => by simp
  | j + 1, w, o => by rw [List.replicate_succ', ← List.append_assoc, b_pos_app, b_pos_apps j]
theorem b_E_app : ∀ (w : List Bool) (k c j : Nat), b_E k c (w ++ List.replicate j false) = b_E k c w
  | [], k, c, j => b_E_none _ k c (fun x hx => (List.mem_replicate.mp hx).2)
  | true :: w, k, c, j => by rw [List.cons_append, b_E, b_E, b_E_app w, b_E_app w]
  | false :: w, k, c, j => by rw [List.cons_append, b_E, b_E, b_E_app w]
