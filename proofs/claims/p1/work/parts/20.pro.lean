/-! ### the law's beginning, at any script of six numbers -/
set_option maxRecDepth 100000
/-- a state, as it should be -/
noncomputable def c_eqR (x : Option c_R) (pc : Nat) (L : c_Ls) (st : List Value) (h : c_Hp) : Bool := match x with
  | some r => Nat.beq r.1 pc && (decide (r.2.1 = L) && (decide (r.2.2.1 = st) && decide (r.2.2.2 = h)))
  | none => false
theorem c_eqR_ok {x : Option c_R} {pc : Nat} {L : c_Ls} {st : List Value} {h : c_Hp} (e : c_eqR x pc L st h = true) : x = some (pc, L, st, h) := by
  unfold c_eqR at e
  split at e
  · rename_i r
    obtain ⟨a, b, c, d⟩ := r
    rw [Bool.and_eq_true, Bool.and_eq_true, Bool.and_eq_true] at e
    have h1 := Nat.eq_of_beq_eq_true e.1
    have h2 := of_decide_eq_true e.2.1
    have h3 := of_decide_eq_true e.2.2.1
    have h4 := of_decide_eq_true e.2.2.2
    simp only at h1 h2 h3 h4
    rw [h1, h2, h3, h4]
  · cases e
def t_h0 : c_Hp := [some (.inl (10, [.ref 1, .ref 4, .ref 23, .ref 25, .ref 28, .ref 31, .ref 34, .ref 37, .ref 39, .ref 41, .ref 52, .ref 55])),
  some (.inl (6, [.ref 2, .ref 3, .int 10, .int 0])),
  some (.inr (0, List.replicate 60 (.int 1))),
  some (.inr (0, List.replicate 60 (.int 0))),
  some (.inl (4, [.ref 5, .ref 14, .int 0, .int 0])),
  some (.inr (2, [.ref 6, .ref 7, .ref 8, .ref 9, .ref 10, .ref 11, .ref 12, .ref 13])),
  some (.inr (0, List.replicate 60 (.int 0))),
  some (.inr (0, List.replicate 60 (.int 0))),
  some (.inr (0, List.replicate 60 (.int 0))),
  some (.inr (0, List.replicate 60 (.int 0))),
  some (.inr (0, List.replicate 60 (.int 0))),
  some (.inr (0, List.replicate 60 (.int 0))),
  some (.inr (0, List.replicate 60 (.int 0))),
  some (.inr (0, List.replicate 60 (.int 0))),
  some (.inr (2, [.ref 15, .ref 16, .ref 17, .ref 18, .ref 19, .ref 20, .ref 21, .ref 22])),
  some (.inr (0, List.replicate 60 (.int 0))),
  some (.inr (0, List.replicate 60 (.int 0))),
  some (.inr (0, List.replicate 60 (.int 0))),
  some (.inr (0, List.replicate 60 (.int 0))),
  some (.inr (0, List.replicate 60 (.int 0))),
  some (.inr (0, List.replicate 60 (.int 0))),
  some (.inr (0, List.replicate 60 (.int 0))),
  some (.inr (0, List.replicate 60 (.int 0))),
  some (.inl (0, [.ref 24, .int 0])),
  some (.inr (0, List.replicate 60 (.int 0))),
  some (.inl (3, [.ref 26, .ref 27, .int 0])),
  some (.inr (0, List.replicate 120 (.int 0))),
  some (.inr (0, List.replicate 60 (.int 0))),
  some (.inl (7, [.ref 29, .ref 30, .int 0, .int 0])),
  some (.inr (0, List.replicate 60 (.int 0))),
  some (.inr (0, List.replicate 60 (.int 0))),
  some (.inl (8, [.ref 32, .ref 33])),
  some (.inr (0, [.int 0, .int 0, .int 0])),
  some (.inr (0, [.int 0, .int 0, .int 0])),
  some (.inl (1, [.ref 35, .ref 36, .int 0])),
  some (.inr (0, List.replicate 5 (.int 0))),
  some (.inr (0, List.replicate 5 (.int 0))),
  some (.inl (9, [.ref 38, .int 0])),
  some (.inr (0, List.replicate 6 (.int 0))),
  some (.inl (2, [.ref 40])),
  some (.inr (1, List.replicate 64 (.long 0))),
  some (.inl (5, [.ref 42, .ref 51])),
  some (.inr (2, [.ref 43, .ref 44, .ref 45, .ref 46, .ref 47, .ref 48, .ref 49, .ref 50])),
  some (.inr (0, List.replicate 6 (.int 0))),
  some (.inr (0, List.replicate 6 (.int 0))),
  some (.inr (0, List.replicate 6 (.int 0))),
  some (.inr (0, List.replicate 6 (.int 0))),
  some (.inr (0, List.replicate 6 (.int 0))),
  some (.inr (0, List.replicate 6 (.int 0))),
  some (.inr (0, List.replicate 6 (.int 0))),
  some (.inr (0, List.replicate 6 (.int 0))),
  some (.inr (0, List.replicate 6 (.int 0))),
  some (.inl (6, [.ref 53, .ref 54, .int 1, .int 0])),
  some (.inr (0, List.replicate 60 (.int 0))),
  some (.inr (0, List.replicate 60 (.int 0))),
  some (.inl (6, [.ref 56, .ref 57, .int 1, .int 0])),
  some (.inr (0, List.replicate 60 (.int 0))),
  some (.inr (0, List.replicate 60 (.int 0))),
  some (.inl (11, [.ref 59, .ref 60, .int 0, .ref 61, .ref 62, .ref 63, .ref 64, .int 0, .ref 65, .int 0, .ref 66, .int 0, .int 0])),
  some (.inr (0, List.replicate 10 (.int 1))),
  some (.inr (0, List.replicate 10 (.int 0))),
  some (.inl (12, [.int 0, .retAddr 1, .int 0])),
  some (.inl (12, [.int 0, .retAddr 1, .int 0])),
  some (.inr (0, List.replicate 5 (.int 0))),
  some (.inr (0, List.replicate 5 (.int 0))),
  some (.inr (0, List.replicate 6 (.int 0))),
  some (.inr (2, [.ref 67, .ref 68, .ref 69, .ref 70, .ref 71, .ref 72, .ref 73, .ref 74])),
  some (.inr (0, List.replicate 6 (.int 0))),
  some (.inr (0, List.replicate 6 (.int 0))),
  some (.inr (0, List.replicate 6 (.int 0))),
  some (.inr (0, List.replicate 6 (.int 0))),
  some (.inr (0, List.replicate 6 (.int 0))),
  some (.inr (0, List.replicate 6 (.int 0))),
  some (.inr (0, List.replicate 6 (.int 0))),
  some (.inr (0, List.replicate 6 (.int 0))),
  some (.inr (1, [.long 0])),
  some (.inr (5, [.double 0]))]
def t_L0 : c_Ls := [some (.retAddr 0), some (.ref 0), some (.ref 58), some (.ref 75), some (.ref 76), some (.int 0), none, none, none]
noncomputable def t_E : Nat → c_E := fun n => ([], List.replicate n .null)
theorem t_pro : c_pre (t_E 6) 5000 c_m259 22 0 (c_ent [.retAddr 0] 9) [] [] = some (38, t_L0, [], t_h0) := c_eqR_ok (by decide +kernel)
