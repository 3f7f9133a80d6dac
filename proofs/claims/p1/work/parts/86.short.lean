set_option maxRecDepth 100000
noncomputable def t_Xs : Nat → List Value := fun n => [.retAddr 10, .retAddr 11, .retAddr 12, .retAddr 13, .retAddr 14, .retAddr 15].take n
theorem q_short : ∀ n, n < 6 → c_end (c_go c_P ([], t_Xs n) 1500 c_m259 0 (c_ent [.retAddr 0] 9) [] []) = true := by decide +kernel
theorem c_short {X : List Int32} {n : Nat} (hn : n < 6) (hl : X.length = n) (hX : (t_Xs n).length = n ∧ ∀ j y, (t_Xs n)[j]? = some y → c_iv (c_BB X []) y = some (X.getD j 0)) : ∃ (S : Nat → Int32) (E : c_E) (n : Nat) (h : c_Hp), c_hE (fun _ => 0, S) X E ∧ c_go c_P E n c_m259 0 (c_ent [.retAddr 0] 9) [] [] = some (.inl (some (.int 1)), h) ∧ h.length ≤ 927443 ∧ c_msz h ≤ 6319727 := by
  obtain ⟨h, h1, h2, h3⟩ := c_end_ok (q_short n hn)
  exact ⟨c_S X [], ([], t_Xs n), 1500, h, ⟨by rw [hl]; exact hX.1, hX.2, fun _ h => nomatch h⟩, h1, h2, h3⟩
