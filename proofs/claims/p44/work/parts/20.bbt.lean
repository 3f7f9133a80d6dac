/-! ### a step, of a word with marks: the marks stay at their places -/
def b_Td : Nat → List (Nat × Bool) → List (Nat × Bool)
  | c, [] => List.replicate c (0, true)
  | c, (k, true) :: d => (k, false) :: b_Td (c + 1) d
  | 0, (k, false) :: d => (k, false) :: b_Td 0 d
  | c + 1, (k, false) :: d => (k, true) :: b_Td c d
theorem b_Td_snd : ∀ (d : List (Nat × Bool)) (c : Nat), (b_Td c d).map (·.2) = b_T c (d.map (·.2))
  | [], c => by simp [b_Td, b_T]
  | (k, true) :: d, c => by simp [b_Td, b_T, b_Td_snd d]
  | (k, false) :: d, 0 => by simp [b_Td, b_T, b_Td_snd d]
  | (k, false) :: d, c + 1 => by simp [b_Td, b_T, b_Td_snd d]
theorem b_Td_fst : ∀ (d : List (Nat × Bool)) (c : Nat), ∃ j, (b_Td c d).map (·.1) = d.map (·.1) ++ List.replicate j 0
  | [], c => ⟨c, by simp [b_Td]⟩
  | (k, true) :: d, c => by
    obtain ⟨j, h⟩ := b_Td_fst d (c + 1)
    exact ⟨j, by simp [b_Td, h]⟩
  | (k, false) :: d, 0 => by
    obtain ⟨j, h⟩ := b_Td_fst d 0
    exact ⟨j, by simp [b_Td, h]⟩
  | (k, false) :: d, c + 1 => by
    obtain ⟨j, h⟩ := b_Td_fst d c
    exact ⟨j, by simp [b_Td, h]⟩
def b_Q : Nat → List Bool
  | 0 => []
  | k + 1 => false :: true :: b_Q k
theorem b_T_P : ∀ (k c : Nat) (w : List Bool), b_T c (b_P k ++ w) = b_Q k ++ b_T c w
  | 0, _, _ => rfl
  | k + 1, c, w => by
    show false :: true :: b_T c (b_P k ++ w) = _
    rw [b_T_P k c w]
    rfl
theorem b_QP : ∀ (k : Nat) (w : List Bool), false :: (b_P k ++ false :: w) = b_Q k ++ false :: false :: w
  | 0, _ => rfl
  | k + 1, w => by
    show false :: true :: (false :: (b_P k ++ false :: w)) = false :: true :: (b_Q k ++ false :: false :: w)
    rw [b_QP k w]
theorem b_QP1 : ∀ (k : Nat) (w : List Bool), false :: (b_P k ++ w) = b_Q k ++ false :: w
  | 0, _ => rfl
  | k + 1, w => by
    show false :: true :: (false :: (b_P k ++ w)) = false :: true :: (b_Q k ++ false :: w)
    rw [b_QP1 k w]
theorem b_QP2 : ∀ (k : Nat) (w : List Bool), b_P k ++ true :: w = true :: (b_Q k ++ w)
  | 0, _ => rfl
  | k + 1, w => by
    show true :: false :: (b_P k ++ true :: w) = true :: false :: true :: (b_Q k ++ w)
    rw [b_QP2 k w]
theorem b_QP3 (k : Nat) (w : List Bool) : b_P (k + 1) ++ w = true :: (b_Q k ++ false :: w) := by
  rw [b_P_succ, List.append_assoc, List.cons_append, b_QP2]
  rfl
theorem b_Q_succ : ∀ k, b_Q (k + 1) = b_Q k ++ [false, true]
  | 0 => rfl
  | k + 1 => by
    show false :: true :: b_Q (k + 1) = (false :: true :: b_Q k) ++ [false, true]
    rw [b_Q_succ k]
    rfl
theorem b_rep : ∀ (c : Nat), b_B true (List.replicate c (0, true)) = List.replicate (c + 1) true ++ [false]
  | 0 => rfl
  | c + 1 => by
    show true :: b_B true (List.replicate c (0, true)) = _
    rw [b_rep c]
    rfl
theorem b_rep0 : ∀ (c : Nat), false :: b_B false (List.replicate c (0, true)) = false :: (List.replicate c true ++ if c = 0 then [] else [true, false])
  | 0 => rfl
  | c + 1 => by
    show false :: true :: b_B true (List.replicate c (0, true)) = _
    have e : List.replicate c true ++ [true, false] = true :: (List.replicate c true ++ [false]) := by
      rw [show ([true, false] : List Bool) = [true] ++ [false] from rfl, ← List.append_assoc, ← List.replicate_succ', List.replicate_succ]
      rfl
    rw [b_rep c, if_neg (by omega), List.replicate_succ, List.cons_append, List.cons_append, e]
/-- the words of a step, said with the marks: (a) behind an empty box, (b) behind a ball of the new row -/
theorem b_step : ∀ (d : List (Nat × Bool)) (c : Nat),
    ((c = 0 → false :: b_B false (b_Td c d) = b_T c (b_B false d) ++ [false]) ∧ (1 ≤ c → false :: b_B false (b_Td c d) = b_T c (b_B true d) ++ [false])) ∧
    b_B true (b_Td c d) = true :: (b_T c (b_B false d) ++ [false])
  | [], c => by
    refine ⟨⟨fun h => ?_, fun h => ?_⟩, ?_⟩
    · subst h; rfl
    · show false :: b_B false (List.replicate c (0, true)) = false :: true :: List.replicate c true ++ [false]
      rw [b_rep0, if_neg (by omega), ← List.replicate_succ, List.replicate_succ']
      simp
    · show b_B true (List.replicate c (0, true)) = true :: (List.replicate c true ++ [false])
      rw [b_rep]
      rfl
  | (k, true) :: d, c => by
    have A := (b_step d (c + 1)).1.2 (by omega)
    refine ⟨⟨fun h => ?_, fun h => ?_⟩, ?_⟩
    · show false :: (b_P k ++ false :: b_B false (b_Td (c + 1) d)) = b_T c (b_P k ++ true :: b_B true d) ++ [false]
      rw [b_T_P, A, b_QP1]
      simp [b_T]
    · show false :: (b_P k ++ false :: b_B false (b_Td (c + 1) d)) = b_T c (b_P k ++ true :: b_B true d) ++ [false]
      rw [b_T_P, A, b_QP1]
      simp [b_T]
    · show b_P (k + 1) ++ false :: b_B false (b_Td (c + 1) d) = true :: (b_T c (b_P k ++ true :: b_B true d) ++ [false])
      rw [b_T_P, A, b_QP3]
      simp [b_T]
  | (k, false) :: d, 0 => by
    have A := (b_step d 0).1.1 rfl
    refine ⟨⟨fun h => ?_, fun h => by omega⟩, ?_⟩
    · show false :: (b_P k ++ false :: b_B false (b_Td 0 d)) = b_T 0 (b_P k ++ false :: b_B false d) ++ [false]
      rw [b_T_P, A, b_QP1]
      simp [b_T]
    · show b_P (k + 1) ++ false :: b_B false (b_Td 0 d) = true :: (b_T 0 (b_P k ++ false :: b_B false d) ++ [false])
      rw [b_T_P, A, b_QP3]
      simp [b_T]
  | (k, false) :: d, c + 1 => by
    have B := (b_step d c).2
    refine ⟨⟨fun h => by omega, fun h => ?_⟩, ?_⟩
    · show false :: (b_P k ++ true :: b_B true (b_Td c d)) = b_T (c + 1) (b_P (k + 1) ++ false :: b_B false d) ++ [false]
      rw [b_T_P, B, b_QP1, b_Q_succ]
      simp [b_T]
    · show b_P k ++ true :: b_B true (b_Td c d) = true :: (b_T (c + 1) (b_P k ++ false :: b_B false d) ++ [false])
      rw [b_T_P, B, b_QP2]
      simp [b_T]
/-! ### a step, of the balls' places -/
def b_H : Nat → Nat → List Nat → List Nat
  | c, o, [] => List.range' o c
  | c, o, p :: r => List.range' o (min c (p - o)) ++ b_H (c - min c (p - o) + 1) (p + 1) r
def b_G (ps : List Nat) : List Nat := b_H 0 0 ps
theorem b_pos_ge : ∀ (w : List Bool) (o : Nat), ∀ x ∈ b_pos o w, o ≤ x
  | [], _, x, h => by cases h
  | true :: w, o, x, h => by
    rcases List.mem_cons.mp h with e | e
    · omega
    · have := b_pos_ge w (o + 1) x e
      omega
  | false :: w, o, x, h => by
    have := b_pos_ge w (o + 1) x h
    omega
theorem b_pos_rep : ∀ (c o : Nat), b_pos o (List.replicate c true) = List.range' o c
  | 0, _ => rfl
  | c + 1, o => by
    rw [List.replicate_succ, b_pos, b_pos_rep c, List.range'_succ]
theorem b_H_skip (c o : Nat) (ps : List Nat) (h : ∀ x ∈ ps, o + 1 ≤ x) : b_H 0 o ps = b_H 0 (o + 1) ps ∧ b_H (c + 1) o ps = o :: b_H c (o + 1) ps := by
  cases ps with
  | nil => exact ⟨rfl, List.range'_succ ..⟩
  | cons p r =>
    have hp := h p List.mem_cons_self
    constructor
    · simp [b_H]
    · simp only [b_H]
      rw [show min (c + 1) (p - o) = min c (p - (o + 1)) + 1 by omega, List.range'_succ, List.cons_append]
      congr 3
      omega
theorem b_pos_T : ∀ (w : List Bool) (c o : Nat), b_pos o (b_T c w) = b_H c o (b_pos o w)
  | [], c, o => by simp [b_T, b_pos, b_H, b_pos_rep]
  | true :: w, c, o => by
    show b_pos (o + 1) (b_T (c + 1) w) = b_H c o (o :: b_pos (o + 1) w)
    rw [b_pos_T w, b_H]
    simp
  | false :: w, 0, o => by
    rw [b_T, b_pos, b_pos_T w, b_pos]
    exact ((b_H_skip 0 o _ (b_pos_ge w (o + 1))).1).symm
  | false :: w, c + 1, o => by
    rw [b_T, b_pos, b_pos_T w, b_pos]
    exact ((b_H_skip c o _ (b_pos_ge w (o + 1))).2).symm
theorem b_rng : ∀ (c o s : Nat), List.range' (o + s) c = (List.range' o c).map (· + s)
  | 0, _, _ => rfl
  | c + 1, o, s => by
    rw [List.range'_succ, List.range'_succ, List.map_cons, ← b_rng c, show o + s + 1 = o + 1 + s by omega]
theorem b_H_sh : ∀ (ps : List Nat) (c o s : Nat), b_H c (o + s) (ps.map (· + s)) = (b_H c o ps).map (· + s)
  | [], c, o, s => b_rng c o s
  | p :: r, c, o, s => by
    simp only [List.map_cons, b_H, List.map_append]
    rw [show p + s - (o + s) = p - o by omega, show p + s + 1 = p + 1 + s by omega, b_H_sh r, b_rng]
theorem b_H_0 : ∀ (ps : List Nat) (o o' : Nat), b_H 0 o ps = b_H 0 o' ps
  | [], _, _ => rfl
  | p :: r, o, o' => by simp [b_H]
theorem b_G_sh (ps : List Nat) (s : Nat) : b_G (ps.map (· + s)) = (b_G ps).map (· + s) := by
  unfold b_G
  rw [← b_H_sh, b_H_0 _ 0 (0 + s)]
theorem b_pos_sh : ∀ (w : List Bool) (o s : Nat), b_pos (o + s) w = (b_pos o w).map (· + s)
  | [], _, _ => rfl
  | true :: w, o, s => by rw [b_pos, b_pos, List.map_cons, ← b_pos_sh w, show o + s + 1 = o + 1 + s by omega]
  | false :: w, o, s => by rw [b_pos, b_pos, ← b_pos_sh w, show o + s + 1 = o + 1 + s by omega]
theorem b_pos_app : ∀ (w : List Bool) (o : Nat), b_pos o (w ++ [false]) = b_pos o w
  | [], _ => rfl
  | true :: w, o => by rw [List.cons_append, b_pos, b_pos, b_pos_app w]
  | false :: w, o => by rw [List.cons_append, b_pos, b_pos, b_pos_app w]
def b_it {α : Type} (f : α → α) : Nat → α → α
  | 0, x => x
  | n + 1, x => b_it f n (f x)
theorem b_G_T (w : List Bool) : b_G (b_pos 0 w) = b_pos 0 (b_T 0 w) := (b_pos_T w 0 0).symm
theorem b_Git_T : ∀ (t : Nat) (w : List Bool), b_it b_G t (b_pos 0 w) = b_pos 0 (b_it (b_T 0) t w)
  | 0, _ => rfl
  | t + 1, w => by
    show b_it b_G t (b_G (b_pos 0 w)) = _
    rw [b_G_T, b_Git_T t]
    rfl
theorem b_Git_sh : ∀ (t : Nat) (ps : List Nat) (s : Nat), b_it b_G t (ps.map (· + s)) = (b_it b_G t ps).map (· + s)
  | 0, _, _ => rfl
  | t + 1, ps, s => by
    show b_it b_G t (b_G (ps.map (· + s))) = _
    rw [b_G_sh, b_Git_sh t]
    rfl
/-- a step of the word told by marks -/
theorem b_G_B (d : List (Nat × Bool)) : b_G (b_pos 0 (b_B false d)) = (b_pos 0 (b_B false (b_Td 0 d))).map (· + 1) := by
  rw [b_G_T, ← b_pos_app, ← (b_step d 0).1.1 rfl, b_pos, ← b_pos_sh]
theorem b_Git_B : ∀ (t : Nat) (d : List (Nat × Bool)), b_it b_G t (b_pos 0 (b_B false d)) = (b_pos 0 (b_B false (b_it (b_Td 0) t d))).map (· + t)
  | 0, d => by simp [b_it]
  | t + 1, d => by
    show b_it b_G t (b_G (b_pos 0 (b_B false d))) = (b_pos 0 (b_B false (b_it (b_Td 0) t (b_Td 0 d)))).map (· + (t + 1))
    rw [b_G_B, b_Git_sh, b_Git_B t, List.map_map]
    congr 1
theorem b_Tdit_snd : ∀ (t : Nat) (d : List (Nat × Bool)), (b_it (b_Td 0) t d).map (·.2) = b_it (b_T 0) t (d.map (·.2))
  | 0, _ => rfl
  | t + 1, d => by
    show (b_it (b_Td 0) t (b_Td 0 d)).map (·.2) = b_it (b_T 0) t (b_T 0 (d.map (·.2)))
    rw [b_Tdit_snd t, b_Td_snd]
theorem b_Tdit_fst : ∀ (t : Nat) (d : List (Nat × Bool)), ∃ j, (b_it (b_Td 0) t d).map (·.1) = d.map (·.1) ++ List.replicate j 0
  | 0, d => ⟨0, by simp [b_it]⟩
  | t + 1, d => by
    obtain ⟨i, hi⟩ := b_Td_fst d 0
    obtain ⟨j, hj⟩ := b_Tdit_fst t (b_Td 0 d)
    refine ⟨i + j, ?_⟩
    show (b_it (b_Td 0) t (b_Td 0 d)).map (·.1) = _
    rw [hj, hi, List.append_assoc, List.replicate_append_replicate]
/-! ### the first t boxes are empty after t steps -/
theorem b_T_front : ∀ (v : List Bool) (j : Nat), (∀ i, i < j → v[i]? ≠ some true) → ∀ i, i ≤ j → (b_T 0 v)[i]? ≠ some true
  | [], j, _, i, _ => by simp [b_T]
  | true :: v, j, h, i, hi => by
    rcases j with _ | j
    · rw [show i = 0 by omega]
      simp [b_T]
    · exact absurd rfl (h 0 (by omega))
  | false :: v, j, h, i, hi => by
    rcases i with _ | i
    · simp [b_T]
    · rcases j with _ | j
      · omega
      · rw [b_T, List.getElem?_cons_succ]
        exact b_T_front v j (fun k hk => by have := h (k + 1) (by omega); rwa [List.getElem?_cons_succ] at this) i (by omega)
theorem b_Tit_front : ∀ (t j : Nat) (v : List Bool), (∀ i, i < j → v[i]? ≠ some true) → ∀ i, i < j + t → (b_it (b_T 0) t v)[i]? ≠ some true
  | 0, j, v, h, i, hi => h i (by omega)
  | t + 1, j, v, h, i, hi => b_Tit_front t (j + 1) (b_T 0 v) (fun k hk => b_T_front v j h k (by omega)) i (by omega)
/-! ### runs -/
/-- the lengths of the runs of balls, n being the length of the run at hand -/
def b_rw : Nat → List Bool → List Nat
  | n, [] => if n = 0 then [] else [n]
  | n, true :: w => b_rw (n + 1) w
  | n, false :: w => if n = 0 then b_rw 0 w else n :: b_rw 0 w
theorem b_rw_P : ∀ (k : Nat) (w : List Bool), b_rw 0 (b_P k ++ w) = List.replicate k 1 ++ b_rw 0 w
  | 0, _ => rfl
  | k + 1, w => by
    show 1 :: b_rw 0 (b_P k ++ w) = _
    rw [b_rw_P k, List.replicate_succ]
    rfl
theorem b_rw_front : ∀ (d e : List (Nat × Bool)), (∀ q ∈ d, q.2 = false) → b_rw 0 (b_B false (d ++ e)) = List.replicate (d.map (·.1)).sum 1 ++ b_rw 0 (b_B false e)
  | [], e, _ => by simp
  | (k, x) :: d, e, h => by
    have hx : x = false := h _ List.mem_cons_self
    subst hx
    show b_rw 0 (b_P k ++ false :: b_B false (d ++ e)) = _
    rw [b_rw_P, b_rw]
    simp only [if_true]
    rw [b_rw_front d e (fun q hq => h q (List.mem_cons_of_mem _ hq)), ← List.append_assoc, List.replicate_append_replicate]
    rfl
theorem b_rw_back : ∀ (e : List (Nat × Bool)), (∀ q ∈ e, q.1 = 0) → b_rw 0 (b_B false e) = (b_rw 0 (e.map (·.2))).map (· + 1) ∧ ∀ n, 1 ≤ n → b_rw n (b_B true e) = (b_rw n (e.map (·.2))).map (· + 1)
  | [], _ => ⟨rfl, fun n hn => by
    have : n ≠ 0 := by omega
    simp [b_B, b_rw, this]⟩
  | (k, x) :: e, h => by
    have hk : k = 0 := h _ List.mem_cons_self
    subst hk
    obtain ⟨i1, i2⟩ := b_rw_back e (fun q hq => h q (List.mem_cons_of_mem _ hq))
    cases x
    · refine ⟨?_, fun n hn => ?_⟩
      · show b_rw 0 (b_B false e) = _
        rw [i1]
        rfl
      · have h1 : n ≠ 0 := by omega
        show b_rw n (true :: false :: false :: b_B false e) = _
        simp [b_rw, h1, i1]
    · refine ⟨?_, fun n hn => ?_⟩
      · show b_rw 1 (b_B true e) = _
        rw [i2 1 (by omega)]
        rfl
      · show b_rw (n + 1) (b_B true e) = _
        rw [i2 (n + 1) (by omega)]
        rfl
/-- the lengths of the runs of balls at the places -/
def b_rgo : Nat → Nat → List Nat → List Nat
  | _, n, [] => [n]
  | q, n, x :: r => if q + 1 < x then n :: b_rgo x 1 r else b_rgo x (n + 1) r
def b_rl : List Nat → List Nat
  | [] => []
  | p :: r => b_rgo p 1 r
theorem b_rgo_sh : ∀ (r : List Nat) (q n s : Nat), b_rgo (q + s) n (r.map (· + s)) = b_rgo q n r
  | [], _, _, _ => rfl
  | x :: r, q, n, s => by
    simp only [List.map_cons, b_rgo]
    rw [b_rgo_sh r, b_rgo_sh r]
    by_cases h : q + 1 < x
    · rw [if_pos h, if_pos (by omega)]
    · rw [if_neg h, if_neg (by omega)]
theorem b_rl_sh (ps : List Nat) (s : Nat) : b_rl (ps.map (· + s)) = b_rl ps := by
  cases ps with
  | nil => rfl
  | cons p r => exact b_rgo_sh r p 1 s
theorem b_rl_rw : ∀ (w : List Bool) (o : Nat), b_rl (b_pos o w) = b_rw 0 w ∧ ∀ n, (b_rgo o (n + 1) (b_pos (o + 1) w) = b_rw (n + 1) w) ∧ (∀ q, q < o → b_rgo q (n + 1) (b_pos (o + 1) w) = (n + 1) :: b_rw 0 w)
  | [], o => ⟨rfl, fun n => ⟨rfl, fun q _ => rfl⟩⟩
  | true :: w, o => by
    have ih := (b_rl_rw w (o + 1)).2
    refine ⟨(b_rl_rw w o).2 0 |>.1, fun n => ⟨?_, fun q hq => ?_⟩⟩
    · show b_rgo o (n + 1) ((o + 1) :: b_pos (o + 2) w) = b_rw (n + 2) w
      rw [b_rgo, if_neg (by omega), ← (ih (n + 1)).1]
    · show b_rgo q (n + 1) ((o + 1) :: b_pos (o + 2) w) = (n + 1) :: b_rw 1 w
      rw [b_rgo, if_pos (by omega), ← (ih 0).1]
  | false :: w, o => by
    have ih := b_rl_rw w (o + 1)
    refine ⟨ih.1, fun n => ⟨?_, fun q hq => ?_⟩⟩
    · show b_rgo o (n + 1) (b_pos (o + 2) w) = (n + 1) :: b_rw 0 w
      exact (ih.2 n).2 o (by omega)
    · show b_rgo q (n + 1) (b_pos (o + 2) w) = (n + 1) :: b_rw 0 w
      exact (ih.2 n).2 q (by omega)
