set_option maxRecDepth 100000
def k34_2_D : List c_F := [(8, .retAddr 16, .int 1, .retAddr 64), (3, .retAddr 64, .int 1431655765, .retAddr 65), (1, .retAddr 16, .retAddr 65, .retAddr 66), (3, .retAddr 66, .int 858993459, .retAddr 67), (8, .retAddr 66, .int 2, .retAddr 68), (3, .retAddr 68, .int 858993459, .retAddr 69), (0, .retAddr 67, .retAddr 69, .retAddr 70), (8, .retAddr 70, .int 4, .retAddr 71), (0, .retAddr 70, .retAddr 71, .retAddr 72), (3, .retAddr 72, .int 252645135, .retAddr 73), (8, .retAddr 73, .int 8, .retAddr 74), (0, .retAddr 73, .retAddr 74, .retAddr 75), (8, .retAddr 75, .int 16, .retAddr 76), (0, .retAddr 75, .retAddr 76, .retAddr 77), (3, .retAddr 77, .int 63, .retAddr 78), (7, .retAddr 16, .int 1, .retAddr 79), (3, .retAddr 79, .int 1, .retAddr 80), (7, .retAddr 16, .int 0, .retAddr 81), (3, .retAddr 81, .int 1, .retAddr 82), (1, .int 1, .retAddr 80, .retAddr 83), (31, .int 0, .retAddr 83, .retAddr 84), (0, .int 0, .retAddr 80, .retAddr 85), (1, .retAddr 85, .int 99, .retAddr 86), (30, .int 0, .retAddr 86, .retAddr 87), (0, .retAddr 84, .retAddr 87, .retAddr 88), (1, .retAddr 80, .retAddr 88, .retAddr 89), (0, .int 0, .retAddr 89, .retAddr 90), (30, .int 0, .retAddr 90, .retAddr 91), (1, .int 1, .retAddr 82, .retAddr 92), (31, .retAddr 90, .retAddr 92, .retAddr 93), (0, .retAddr 90, .retAddr 82, .retAddr 94), (1, .retAddr 94, .int 99, .retAddr 95), (30, .int 0, .retAddr 95, .retAddr 96), (0, .retAddr 93, .retAddr 96, .retAddr 97), (1, .retAddr 82, .retAddr 97, .retAddr 98), (0, .retAddr 90, .retAddr 98, .retAddr 99), (30, .retAddr 91, .retAddr 99, .retAddr 100), (31, .retAddr 99, .retAddr 83, .retAddr 101), (0, .retAddr 99, .retAddr 80, .retAddr 102), (1, .retAddr 102, .int 99, .retAddr 103), (30, .int 0, .retAddr 103, .retAddr 104), (0, .retAddr 101, .retAddr 104, .retAddr 105), (1, .retAddr 80, .retAddr 105, .retAddr 106), (0, .retAddr 99, .retAddr 106, .retAddr 107), (30, .retAddr 99, .retAddr 107, .retAddr 108), (31, .retAddr 107, .retAddr 92, .retAddr 109), (0, .retAddr 107, .retAddr 82, .retAddr 110), (1, .retAddr 110, .int 99, .retAddr 111), (30, .int 0, .retAddr 111, .retAddr 112), (0, .retAddr 109, .retAddr 112, .retAddr 113), (1, .retAddr 82, .retAddr 113, .retAddr 114), (0, .retAddr 107, .retAddr 114, .retAddr 115), (30, .retAddr 108, .retAddr 115, .retAddr 116), (4, .int 0, .retAddr 105, .retAddr 117), (6, .retAddr 117, .int 1, .retAddr 118), (4, .retAddr 118, .retAddr 113, .retAddr 119), (0, .int 0, .retAddr 105, .retAddr 120), (2, .int 2, .retAddr 120, .retAddr 121), (0, .retAddr 121, .retAddr 113, .retAddr 122)]
theorem k34_2_ok : e_ok k34_2_D 64 = true := by decide +kernel
theorem k34_2_W {B : c_B} {n : Nat} (H : ∀ f ∈ k34_2_D, c_hold B f) (hs : B.2 16 = Int32.ofNat n) (hn : n < 4096) : B.2 78 = Int32.ofNat (nb_pop 12 n) ∧ B.2 99 = Int32.ofNat (nb_ld 2 n 0 2) ∧ B.2 115 = Int32.ofNat (nb_ld 2 n (nb_ld 2 n 0 2) 2) ∧ B.2 119 = Int32.ofNat (nb_A 2 n) ∧ B.2 122 = Int32.ofNat (nb_A 2 n) := by
  have y0 : B.2 80 = Int32.ofNat (nb_bit 2 n 0) := q_bit (c := 1) hs hn (by decide) (e_at H 15 rfl) (e_at H 16 rfl)
  have y1 : B.2 82 = Int32.ofNat (nb_bit 2 n 1) := q_bit (c := 0) hs hn (by decide) (e_at H 17 rfl) (e_at H 18 rfl)
  have c0_0 : B.2 88 = Int32.ofNat (nb_f (nb_ld 2 n 0 0) (nb_bit 2 n 0)) ∧ B.2 90 = Int32.ofNat (nb_ld 2 n 0 1) := q_step (X := .int 0) (l := nb_ld 2 n 0 0) rfl (by have h1 := nb_ld_le 2 n 0 2; have h2 := nb_ld_le 2 n 0 0; omega) y0 (nb_bit2 _ _ _) (e_at H 19 rfl) (e_at H 20 rfl) (e_at H 21 rfl) (e_at H 22 rfl) (e_at H 23 rfl) (e_at H 24 rfl) (e_at H 25 rfl) (e_at H 26 rfl)
  have c0_1 : B.2 97 = Int32.ofNat (nb_f (nb_ld 2 n 0 1) (nb_bit 2 n 1)) ∧ B.2 99 = Int32.ofNat (nb_ld 2 n 0 2) := q_step (X := .retAddr 90) (l := nb_ld 2 n 0 1) (congrArg some c0_0.2) (by have h1 := nb_ld_le 2 n 0 2; have h2 := nb_ld_le 2 n 0 1; omega) y1 (nb_bit2 _ _ _) (e_at H 28 rfl) (e_at H 29 rfl) (e_at H 30 rfl) (e_at H 31 rfl) (e_at H 32 rfl) (e_at H 33 rfl) (e_at H 34 rfl) (e_at H 35 rfl)
  have c1_0 : B.2 105 = Int32.ofNat (nb_f (nb_ld 2 n (nb_ld 2 n 0 2) 0) (nb_bit 2 n 0)) ∧ B.2 107 = Int32.ofNat (nb_ld 2 n (nb_ld 2 n 0 2) 1) := q_step (X := .retAddr 99) (l := nb_ld 2 n (nb_ld 2 n 0 2) 0) (congrArg some c0_1.2) (by have h1 := nb_ld_le 2 n 0 2; have h2 := nb_ld_le 2 n (nb_ld 2 n 0 2) 0; omega) y0 (nb_bit2 _ _ _) (e_at H 19 rfl) (e_at H 37 rfl) (e_at H 38 rfl) (e_at H 39 rfl) (e_at H 40 rfl) (e_at H 41 rfl) (e_at H 42 rfl) (e_at H 43 rfl)
  have c1_1 : B.2 113 = Int32.ofNat (nb_f (nb_ld 2 n (nb_ld 2 n 0 2) 1) (nb_bit 2 n 1)) ∧ B.2 115 = Int32.ofNat (nb_ld 2 n (nb_ld 2 n 0 2) 2) := q_step (X := .retAddr 107) (l := nb_ld 2 n (nb_ld 2 n 0 2) 1) (congrArg some c1_0.2) (by have h1 := nb_ld_le 2 n 0 2; have h2 := nb_ld_le 2 n (nb_ld 2 n 0 2) 1; omega) y1 (nb_bit2 _ _ _) (e_at H 28 rfl) (e_at H 45 rfl) (e_at H 46 rfl) (e_at H 47 rfl) (e_at H 48 rfl) (e_at H 49 rfl) (e_at H 50 rfl) (e_at H 51 rfl)
  have d0 : B.2 117 = Int32.ofNat (nb_E 2 n (nb_ld 2 n 0 2) 1) := q_ec0 c1_0.1 (nb_f2 _ _) (e_at H 53 rfl)
  have d1 : B.2 119 = Int32.ofNat (nb_E 2 n (nb_ld 2 n 0 2) 2) := q_ec d0 (Nat.lt_of_lt_of_le (nb_E_lt _ _ _ _) (by decide)) c1_1.1 (nb_f2 _ _) (e_at H 54 rfl) (e_at H 55 rfl)
  have r0 : B.2 120 = Int32.ofNat (nb_E 2 n (nb_ld 2 n 0 2) 1) := q_er0 c1_0.1 (e_at H 56 rfl)
  have r1 : B.2 122 = Int32.ofNat (nb_E 2 n (nb_ld 2 n 0 2) 2) := q_er r0 c1_1.1 (e_at H 57 rfl) (e_at H 58 rfl)
  refine ⟨?_, c0_1.2, c1_1.2, d1, r1⟩
  rw [q_bc (fun f hf => H f (List.mem_of_mem_take (show f ∈ k34_2_D.take 15 from hf))), hs]
  exact m_pop n hn
theorem k34_2_rt : ∀ n, n < 4 → 2 * nb_pop 12 n < 2 → nb_ld 2 n (nb_ld 2 n 0 2) 2 = nb_ld 2 n 0 2 := by
  intro n hn
  have h : ∀ q, q < 2 → ∀ r, r < 2 → 2 * nb_pop 12 (2 * q + r) < 2 → nb_ld 2 (2 * q + r) (nb_ld 2 (2 * q + r) 0 2) 2 = nb_ld 2 (2 * q + r) 0 2 := by decide +kernel
  have h1 := h (n / 2) (by omega) (n % 2) (Nat.mod_lt _ (by decide))
  rw [Nat.div_add_mod] at h1
  exact h1
def k34_2_hs : c_Hp := [some (.inl (10, [.ref 1, .ref 4, .ref 23, .ref 25, .ref 28, .ref 31, .ref 34, .ref 37, .ref 39, .ref 41, .ref 52, .ref 55])),
  some (.inl (6, [.ref 2, .ref 3, .int 10, .int 0])),
  some (.inr (0, List.replicate 60 (.int 1))),
  some (.inr (0, List.replicate 60 (.int 0))),
  some (.inl (4, [.ref 5, .ref 14, .int 0, .int 0])),
  some (.inr (2, [.ref 6, .ref 7, .ref 8, .ref 9, .ref 10, .ref 11, .ref 12, .ref 13])),
  some (.inr (0, List.replicate 60 (.int 0))),
  some (.inr (0, List.replicate 60 (.int 0))),
  some (.inr (0, List.replicate 60 (.int 0))),
  some (.inr (0, List.replicate 60 (.int 0))),
  some (.inr (0, List.replicate 60 (.int 0))),
  some (.inr (0, List.replicate 60 (.int 0))),
  some (.inr (0, List.replicate 60 (.int 0))),
  some (.inr (0, List.replicate 60 (.int 0))),
  some (.inr (2, [.ref 15, .ref 16, .ref 17, .ref 18, .ref 19, .ref 20, .ref 21, .ref 22])),
  some (.inr (0, List.replicate 60 (.int 0))),
  some (.inr (0, List.replicate 60 (.int 0))),
  some (.inr (0, List.replicate 60 (.int 0))),
  some (.inr (0, List.replicate 60 (.int 0))),
  some (.inr (0, List.replicate 60 (.int 0))),
  some (.inr (0, List.replicate 60 (.int 0))),
  some (.inr (0, List.replicate 60 (.int 0))),
  some (.inr (0, List.replicate 60 (.int 0))),
  some (.inl (0, [.ref 24, .retAddr 18])),
  some (.inr (0, ([.retAddr 22, .retAddr 23] ++ (List.replicate 58 (.int 0))))),
  some (.inl (3, [.ref 26, .ref 27, .int 0])),
  some (.inr (0, List.replicate 120 (.int 0))),
  some (.inr (0, List.replicate 60 (.int 0))),
  some (.inl (7, [.ref 29, .ref 30, .int 0, .int 0])),
  some (.inr (0, List.replicate 60 (.int 0))),
  some (.inr (0, List.replicate 60 (.int 0))),
  some (.inl (8, [.ref 32, .ref 33])),
  some (.inr (0, [.int 0, .int 0, .int 0])),
  some (.inr (0, [.int 0, .int 0, .int 0])),
  some (.inl (1, [.ref 35, .ref 36, .int 0])),
  some (.inr (0, List.replicate 5 (.int 0))),
  some (.inr (0, List.replicate 5 (.int 0))),
  some (.inl (9, [.ref 38, .int 0])),
  some (.inr (0, List.replicate 6 (.int 0))),
  some (.inl (2, [.ref 40])),
  none,
  some (.inl (5, [.ref 42, .ref 51])),
  some (.inr (2, [.ref 43, .ref 44, .ref 45, .ref 46, .ref 47, .ref 48, .ref 49, .ref 50])),
  some (.inr (0, List.replicate 6 (.int 0))),
  some (.inr (0, List.replicate 6 (.int 0))),
  some (.inr (0, List.replicate 6 (.int 0))),
  some (.inr (0, List.replicate 6 (.int 0))),
  some (.inr (0, List.replicate 6 (.int 0))),
  some (.inr (0, List.replicate 6 (.int 0))),
  some (.inr (0, List.replicate 6 (.int 0))),
  some (.inr (0, List.replicate 6 (.int 0))),
  some (.inr (0, List.replicate 6 (.int 0))),
  some (.inl (6, [.ref 53, .ref 54, .retAddr 19, .retAddr 20])),
  some (.inr (0, List.replicate 60 (.retAddr 21))),
  some (.inr (0, ([.retAddr 22, .retAddr 23] ++ (List.replicate 58 (.int 0))))),
  some (.inl (6, [.ref 56, .ref 57, .int 1, .int 0])),
  some (.inr (0, List.replicate 60 (.int 0))),
  some (.inr (0, List.replicate 60 (.int 0))),
  some (.inl (11, [.ref 59, .ref 60, .int 0, .ref 61, .ref 62, .ref 63, .ref 64, .int 0, .ref 65, .int 0, .ref 66, .int 0, .int 0])),
  some (.inr (0, List.replicate 10 (.int 1))),
  some (.inr (0, List.replicate 10 (.int 0))),
  some (.inl (12, [.int 0, .retAddr 1, .int 0])),
  some (.inl (12, [.int 0, .retAddr 1, .int 0])),
  some (.inr (0, List.replicate 5 (.int 0))),
  some (.inr (0, List.replicate 5 (.int 0))),
  some (.inr (0, List.replicate 6 (.int 0))),
  some (.inr (2, [.ref 67, .ref 68, .ref 69, .ref 70, .ref 71, .ref 72, .ref 73, .ref 74])),
  some (.inr (0, List.replicate 6 (.int 0))),
  some (.inr (0, List.replicate 6 (.int 0))),
  some (.inr (0, List.replicate 6 (.int 0))),
  some (.inr (0, List.replicate 6 (.int 0))),
  some (.inr (0, List.replicate 6 (.int 0))),
  some (.inr (0, List.replicate 6 (.int 0))),
  some (.inr (0, List.replicate 6 (.int 0))),
  some (.inr (0, List.replicate 6 (.int 0))),
  some (.inr (1, [.long 0])),
  some (.inr (5, [.double 0]))]
def k34_2_hs1 : c_Hp := [some (.inl (10, [.ref 1, .ref 4, .ref 23, .ref 25, .ref 28, .ref 31, .ref 34, .ref 37, .ref 39, .ref 41, .ref 52, .ref 55])),
  some (.inl (6, [.ref 2, .ref 3, .int 10, .int 0])),
  some (.inr (0, List.replicate 60 (.int 1))),
  some (.inr (0, List.replicate 60 (.int 0))),
  some (.inl (4, [.ref 5, .ref 14, .int 0, .int 0])),
  some (.inr (2, [.ref 6, .ref 7, .ref 8, .ref 9, .ref 10, .ref 11, .ref 12, .ref 13])),
  some (.inr (0, List.replicate 60 (.int 0))),
  some (.inr (0, List.replicate 60 (.int 0))),
  some (.inr (0, List.replicate 60 (.int 0))),
  some (.inr (0, List.replicate 60 (.int 0))),
  some (.inr (0, List.replicate 60 (.int 0))),
  some (.inr (0, List.replicate 60 (.int 0))),
  some (.inr (0, List.replicate 60 (.int 0))),
  some (.inr (0, List.replicate 60 (.int 0))),
  some (.inr (2, [.ref 15, .ref 16, .ref 17, .ref 18, .ref 19, .ref 20, .ref 21, .ref 22])),
  some (.inr (0, List.replicate 60 (.int 0))),
  some (.inr (0, List.replicate 60 (.int 0))),
  some (.inr (0, List.replicate 60 (.int 0))),
  some (.inr (0, List.replicate 60 (.int 0))),
  some (.inr (0, List.replicate 60 (.int 0))),
  some (.inr (0, List.replicate 60 (.int 0))),
  some (.inr (0, List.replicate 60 (.int 0))),
  some (.inr (0, List.replicate 60 (.int 0))),
  some (.inl (0, [.ref 24, .retAddr 116])),
  some (.inr (0, ([.retAddr 105, .retAddr 113] ++ (List.replicate 58 (.int 0))))),
  some (.inl (3, [.ref 26, .ref 27, .int 0])),
  some (.inr (0, List.replicate 120 (.int 0))),
  some (.inr (0, List.replicate 60 (.int 0))),
  some (.inl (7, [.ref 29, .ref 30, .int 0, .int 0])),
  some (.inr (0, List.replicate 60 (.int 0))),
  some (.inr (0, List.replicate 60 (.int 0))),
  some (.inl (8, [.ref 32, .ref 33])),
  some (.inr (0, [.int 0, .int 0, .int 0])),
  some (.inr (0, [.int 0, .int 0, .int 0])),
  some (.inl (1, [.ref 35, .ref 36, .int 0])),
  some (.inr (0, List.replicate 5 (.int 0))),
  some (.inr (0, List.replicate 5 (.int 0))),
  some (.inl (9, [.ref 38, .int 0])),
  some (.inr (0, List.replicate 6 (.int 0))),
  some (.inl (2, [.ref 40])),
  none,
  some (.inl (5, [.ref 42, .ref 51])),
  some (.inr (2, [.ref 43, .ref 44, .ref 45, .ref 46, .ref 47, .ref 48, .ref 49, .ref 50])),
  some (.inr (0, List.replicate 6 (.int 0))),
  some (.inr (0, List.replicate 6 (.int 0))),
  some (.inr (0, List.replicate 6 (.int 0))),
  some (.inr (0, List.replicate 6 (.int 0))),
  some (.inr (0, List.replicate 6 (.int 0))),
  some (.inr (0, List.replicate 6 (.int 0))),
  some (.inr (0, List.replicate 6 (.int 0))),
  some (.inr (0, List.replicate 6 (.int 0))),
  some (.inr (0, List.replicate 6 (.int 0))),
  some (.inl (6, [.ref 53, .ref 54, .int 2, .int 1])),
  some (.inr (0, List.replicate 60 (.int 1))),
  some (.inr (0, ([.retAddr 105, .retAddr 113] ++ (List.replicate 58 (.int 0))))),
  some (.inl (6, [.ref 56, .ref 57, .int 1, .int 0])),
  some (.inr (0, List.replicate 60 (.int 0))),
  some (.inr (0, List.replicate 60 (.int 0))),
  some (.inl (11, [.ref 59, .ref 60, .int 0, .ref 61, .ref 62, .ref 63, .ref 64, .int 0, .ref 65, .int 0, .ref 66, .int 0, .int 0])),
  some (.inr (0, List.replicate 10 (.int 1))),
  some (.inr (0, List.replicate 10 (.int 0))),
  some (.inl (12, [.int 0, .retAddr 1, .int 0])),
  some (.inl (12, [.int 0, .retAddr 1, .int 0])),
  some (.inr (0, List.replicate 5 (.int 0))),
  some (.inr (0, List.replicate 5 (.int 0))),
  some (.inr (0, List.replicate 6 (.int 0))),
  some (.inr (2, [.ref 67, .ref 68, .ref 69, .ref 70, .ref 71, .ref 72, .ref 73, .ref 74])),
  some (.inr (0, List.replicate 6 (.int 0))),
  some (.inr (0, List.replicate 6 (.int 0))),
  some (.inr (0, List.replicate 6 (.int 0))),
  some (.inr (0, List.replicate 6 (.int 0))),
  some (.inr (0, List.replicate 6 (.int 0))),
  some (.inr (0, List.replicate 6 (.int 0))),
  some (.inr (0, List.replicate 6 (.int 0))),
  some (.inr (0, List.replicate 6 (.int 0))),
  some (.inr (1, [.long 0])),
  some (.inr (5, [.double 0]))]
def k34_2_rs0 : c_Hp := [some (.inl (10, [.ref 1, .ref 4, .ref 23, .ref 25, .ref 28, .ref 31, .ref 34, .ref 37, .ref 39, .ref 41, .ref 52, .ref 55])),
  some (.inl (6, [.ref 2, .ref 3, .int 10, .int 0])),
  some (.inr (0, List.replicate 60 (.int 1))),
  some (.inr (0, List.replicate 60 (.int 0))),
  some (.inl (4, [.ref 5, .ref 14, .int 0, .int 0])),
  some (.inr (2, [.ref 6, .ref 7, .ref 8, .ref 9, .ref 10, .ref 11, .ref 12, .ref 13])),
  some (.inr (0, List.replicate 60 (.int 0))),
  some (.inr (0, List.replicate 60 (.int 0))),
  some (.inr (0, List.replicate 60 (.int 0))),
  some (.inr (0, List.replicate 60 (.int 0))),
  some (.inr (0, List.replicate 60 (.int 0))),
  some (.inr (0, List.replicate 60 (.int 0))),
  some (.inr (0, List.replicate 60 (.int 0))),
  some (.inr (0, List.replicate 60 (.int 0))),
  some (.inr (2, [.ref 15, .ref 16, .ref 17, .ref 18, .ref 19, .ref 20, .ref 21, .ref 22])),
  some (.inr (0, List.replicate 60 (.int 0))),
  some (.inr (0, List.replicate 60 (.int 0))),
  some (.inr (0, List.replicate 60 (.int 0))),
  some (.inr (0, List.replicate 60 (.int 0))),
  some (.inr (0, List.replicate 60 (.int 0))),
  some (.inr (0, List.replicate 60 (.int 0))),
  some (.inr (0, List.replicate 60 (.int 0))),
  some (.inr (0, List.replicate 60 (.int 0))),
  some (.inl (0, [.ref 24, .retAddr 18])),
  some (.inr (0, ([.retAddr 22, .retAddr 23] ++ (List.replicate 58 (.int 0))))),
  some (.inl (3, [.ref 26, .ref 27, .int 0])),
  some (.inr (0, List.replicate 120 (.int 0))),
  some (.inr (0, List.replicate 60 (.int 0))),
  some (.inl (7, [.ref 29, .ref 30, .int 0, .int 0])),
  some (.inr (0, List.replicate 60 (.int 0))),
  some (.inr (0, List.replicate 60 (.int 0))),
  some (.inl (8, [.ref 32, .ref 33])),
  some (.inr (0, [.int 0, .int 0, .int 0])),
  some (.inr (0, [.int 0, .int 0, .int 0])),
  some (.inl (1, [.ref 35, .ref 36, .int 0])),
  some (.inr (0, List.replicate 5 (.int 0))),
  some (.inr (0, List.replicate 5 (.int 0))),
  some (.inl (9, [.ref 38, .int 0])),
  some (.inr (0, List.replicate 6 (.int 0))),
  some (.inl (2, [.ref 40])),
  none,
  some (.inl (5, [.ref 42, .ref 51])),
  some (.inr (2, [.ref 43, .ref 44, .ref 45, .ref 46, .ref 47, .ref 48, .ref 49, .ref 50])),
  some (.inr (0, List.replicate 6 (.int 0))),
  some (.inr (0, List.replicate 6 (.int 0))),
  some (.inr (0, List.replicate 6 (.int 0))),
  some (.inr (0, List.replicate 6 (.int 0))),
  some (.inr (0, List.replicate 6 (.int 0))),
  some (.inr (0, List.replicate 6 (.int 0))),
  some (.inr (0, List.replicate 6 (.int 0))),
  some (.inr (0, List.replicate 6 (.int 0))),
  some (.inr (0, List.replicate 6 (.int 0))),
  some (.inl (6, [.ref 53, .ref 54, .retAddr 19, .retAddr 20])),
  some (.inr (0, List.replicate 60 (.retAddr 21))),
  some (.inr (0, ([.retAddr 22, .retAddr 23] ++ (List.replicate 58 (.int 0))))),
  some (.inl (6, [.ref 56, .ref 57, .int 1, .int 0])),
  some (.inr (0, List.replicate 60 (.int 0))),
  some (.inr (0, List.replicate 60 (.int 0))),
  some (.inl (11, [.ref 59, .ref 60, .int 0, .ref 61, .ref 62, .ref 63, .ref 64, .int 0, .ref 65, .int 0, .ref 66, .retAddr 34, .int 0])),
  some (.inr (0, List.replicate 10 (.int 1))),
  some (.inr (0, List.replicate 10 (.int 0))),
  some (.inl (12, [.int 0, .retAddr 1, .int 0])),
  some (.inl (12, [.int 0, .retAddr 1, .int 0])),
  some (.inr (0, List.replicate 5 (.int 0))),
  some (.inr (0, List.replicate 5 (.int 0))),
  some (.inr (0, List.replicate 6 (.int 0))),
  some (.inr (2, [.ref 67, .ref 68, .ref 69, .ref 70, .ref 71, .ref 72, .ref 73, .ref 74])),
  some (.inr (0, List.replicate 6 (.int 0))),
  some (.inr (0, List.replicate 6 (.int 0))),
  some (.inr (0, List.replicate 6 (.int 0))),
  some (.inr (0, List.replicate 6 (.int 0))),
  some (.inr (0, List.replicate 6 (.int 0))),
  some (.inr (0, List.replicate 6 (.int 0))),
  some (.inr (0, List.replicate 6 (.int 0))),
  some (.inr (0, List.replicate 6 (.int 0))),
  some (.inr (1, [.double (UInt64.ofNat (c_M0 + 35))])),
  some (.inr (5, [.double 0])),
  none,
  some (.inr (0, [.int 1, .int 1]))]
def k34_2_rs0a : c_Hp := [some (.inl (10, [.ref 1, .ref 4, .ref 23, .ref 25, .ref 28, .ref 31, .ref 34, .ref 37, .ref 39, .ref 41, .ref 52, .ref 55])),
  some (.inl (6, [.ref 2, .ref 3, .int 10, .int 0])),
  some (.inr (0, List.replicate 60 (.int 1))),
  some (.inr (0, List.replicate 60 (.int 0))),
  some (.inl (4, [.ref 5, .ref 14, .int 0, .int 0])),
  some (.inr (2, [.ref 6, .ref 7, .ref 8, .ref 9, .ref 10, .ref 11, .ref 12, .ref 13])),
  some (.inr (0, List.replicate 60 (.int 0))),
  some (.inr (0, List.replicate 60 (.int 0))),
  some (.inr (0, List.replicate 60 (.int 0))),
  some (.inr (0, List.replicate 60 (.int 0))),
  some (.inr (0, List.replicate 60 (.int 0))),
  some (.inr (0, List.replicate 60 (.int 0))),
  some (.inr (0, List.replicate 60 (.int 0))),
  some (.inr (0, List.replicate 60 (.int 0))),
  some (.inr (2, [.ref 15, .ref 16, .ref 17, .ref 18, .ref 19, .ref 20, .ref 21, .ref 22])),
  some (.inr (0, List.replicate 60 (.int 0))),
  some (.inr (0, List.replicate 60 (.int 0))),
  some (.inr (0, List.replicate 60 (.int 0))),
  some (.inr (0, List.replicate 60 (.int 0))),
  some (.inr (0, List.replicate 60 (.int 0))),
  some (.inr (0, List.replicate 60 (.int 0))),
  some (.inr (0, List.replicate 60 (.int 0))),
  some (.inr (0, List.replicate 60 (.int 0))),
  some (.inl (0, [.ref 24, .retAddr 18])),
  some (.inr (0, ([.retAddr 22, .retAddr 23] ++ (List.replicate 58 (.int 0))))),
  some (.inl (3, [.ref 26, .ref 27, .int 0])),
  some (.inr (0, List.replicate 120 (.int 0))),
  some (.inr (0, List.replicate 60 (.int 0))),
  some (.inl (7, [.ref 29, .ref 30, .int 0, .int 0])),
  some (.inr (0, List.replicate 60 (.int 0))),
  some (.inr (0, List.replicate 60 (.int 0))),
  some (.inl (8, [.ref 32, .ref 33])),
  some (.inr (0, [.int 0, .int 0, .int 0])),
  some (.inr (0, [.int 0, .int 0, .int 0])),
  some (.inl (1, [.ref 35, .ref 36, .int 0])),
  some (.inr (0, List.replicate 5 (.int 0))),
  some (.inr (0, List.replicate 5 (.int 0))),
  some (.inl (9, [.ref 38, .int 0])),
  some (.inr (0, List.replicate 6 (.int 0))),
  some (.inl (2, [.ref 40])),
  none,
  some (.inl (5, [.ref 42, .ref 51])),
  some (.inr (2, [.ref 43, .ref 44, .ref 45, .ref 46, .ref 47, .ref 48, .ref 49, .ref 50])),
  some (.inr (0, List.replicate 6 (.int 0))),
  some (.inr (0, List.replicate 6 (.int 0))),
  some (.inr (0, List.replicate 6 (.int 0))),
  some (.inr (0, List.replicate 6 (.int 0))),
  some (.inr (0, List.replicate 6 (.int 0))),
  some (.inr (0, List.replicate 6 (.int 0))),
  some (.inr (0, List.replicate 6 (.int 0))),
  some (.inr (0, List.replicate 6 (.int 0))),
  some (.inr (0, List.replicate 6 (.int 0))),
  some (.inl (6, [.ref 53, .ref 54, .retAddr 19, .retAddr 20])),
  some (.inr (0, List.replicate 60 (.retAddr 21))),
  some (.inr (0, ([.retAddr 22, .retAddr 23] ++ (List.replicate 58 (.int 0))))),
  some (.inl (6, [.ref 56, .ref 57, .int 1, .int 0])),
  some (.inr (0, List.replicate 60 (.int 0))),
  some (.inr (0, List.replicate 60 (.int 0))),
  some (.inl (11, [.ref 59, .ref 60, .int 0, .ref 61, .ref 62, .ref 63, .ref 64, .int 0, .ref 65, .int 0, .ref 66, .retAddr 116, .int 0])),
  some (.inr (0, List.replicate 10 (.int 1))),
  some (.inr (0, List.replicate 10 (.int 0))),
  some (.inl (12, [.int 0, .retAddr 1, .int 0])),
  some (.inl (12, [.int 0, .retAddr 1, .int 0])),
  some (.inr (0, List.replicate 5 (.int 0))),
  some (.inr (0, List.replicate 5 (.int 0))),
  some (.inr (0, List.replicate 6 (.int 0))),
  some (.inr (2, [.ref 67, .ref 68, .ref 69, .ref 70, .ref 71, .ref 72, .ref 73, .ref 74])),
  some (.inr (0, List.replicate 6 (.int 0))),
  some (.inr (0, List.replicate 6 (.int 0))),
  some (.inr (0, List.replicate 6 (.int 0))),
  some (.inr (0, List.replicate 6 (.int 0))),
  some (.inr (0, List.replicate 6 (.int 0))),
  some (.inr (0, List.replicate 6 (.int 0))),
  some (.inr (0, List.replicate 6 (.int 0))),
  some (.inr (0, List.replicate 6 (.int 0))),
  some (.inr (1, [.double (UInt64.ofNat (c_M0 + 35))])),
  some (.inr (5, [.double 0])),
  none,
  some (.inr (0, [.int 1, .int 1]))]
def k34_2_lv : c_Hp := [some (.inr (0, [.retAddr 36, .retAddr 37])),
  some (.inr (0, [.retAddr 48, .retAddr 49]))]
def k34_2_nw : c_Hp := [some (.inr (0, [.retAddr 88, .retAddr 97])),
  some (.inr (0, [.retAddr 105, .retAddr 113]))]
def k34_2_rs1 : c_Hp := [some (.inl (10, [.ref 1, .ref 4, .ref 23, .ref 25, .ref 28, .ref 31, .ref 34, .ref 37, .ref 39, .ref 41, .ref 52, .ref 55])),
  some (.inl (6, [.ref 2, .ref 3, .int 10, .int 0])),
  some (.inr (0, List.replicate 60 (.int 1))),
  some (.inr (0, List.replicate 60 (.int 0))),
  some (.inl (4, [.ref 5, .ref 14, .int 0, .int 0])),
  some (.inr (2, [.ref 6, .ref 7, .ref 8, .ref 9, .ref 10, .ref 11, .ref 12, .ref 13])),
  some (.inr (0, List.replicate 60 (.int 0))),
  some (.inr (0, List.replicate 60 (.int 0))),
  some (.inr (0, List.replicate 60 (.int 0))),
  some (.inr (0, List.replicate 60 (.int 0))),
  some (.inr (0, List.replicate 60 (.int 0))),
  some (.inr (0, List.replicate 60 (.int 0))),
  some (.inr (0, List.replicate 60 (.int 0))),
  some (.inr (0, List.replicate 60 (.int 0))),
  some (.inr (2, [.ref 15, .ref 16, .ref 17, .ref 18, .ref 19, .ref 20, .ref 21, .ref 22])),
  some (.inr (0, List.replicate 60 (.int 0))),
  some (.inr (0, List.replicate 60 (.int 0))),
  some (.inr (0, List.replicate 60 (.int 0))),
  some (.inr (0, List.replicate 60 (.int 0))),
  some (.inr (0, List.replicate 60 (.int 0))),
  some (.inr (0, List.replicate 60 (.int 0))),
  some (.inr (0, List.replicate 60 (.int 0))),
  some (.inr (0, List.replicate 60 (.int 0))),
  some (.inl (0, [.ref 24, .retAddr 18])),
  some (.inr (0, ([.retAddr 22, .retAddr 23] ++ (List.replicate 58 (.int 0))))),
  some (.inl (3, [.ref 26, .ref 27, .int 0])),
  some (.inr (0, List.replicate 120 (.int 0))),
  some (.inr (0, List.replicate 60 (.int 0))),
  some (.inl (7, [.ref 29, .ref 30, .int 0, .int 0])),
  some (.inr (0, List.replicate 60 (.int 0))),
  some (.inr (0, List.replicate 60 (.int 0))),
  some (.inl (8, [.ref 32, .ref 33])),
  some (.inr (0, [.int 0, .int 0, .int 0])),
  some (.inr (0, [.int 0, .int 0, .int 0])),
  some (.inl (1, [.ref 35, .ref 36, .int 0])),
  some (.inr (0, List.replicate 5 (.int 0))),
  some (.inr (0, List.replicate 5 (.int 0))),
  some (.inl (9, [.ref 38, .int 0])),
  some (.inr (0, List.replicate 6 (.int 0))),
  some (.inl (2, [.ref 40])),
  none,
  some (.inl (5, [.ref 42, .ref 51])),
  some (.inr (2, [.ref 43, .ref 44, .ref 45, .ref 46, .ref 47, .ref 48, .ref 49, .ref 50])),
  some (.inr (0, List.replicate 6 (.int 0))),
  some (.inr (0, List.replicate 6 (.int 0))),
  some (.inr (0, List.replicate 6 (.int 0))),
  some (.inr (0, List.replicate 6 (.int 0))),
  some (.inr (0, List.replicate 6 (.int 0))),
  some (.inr (0, List.replicate 6 (.int 0))),
  some (.inr (0, List.replicate 6 (.int 0))),
  some (.inr (0, List.replicate 6 (.int 0))),
  some (.inr (0, List.replicate 6 (.int 0))),
  some (.inl (6, [.ref 53, .ref 54, .retAddr 19, .retAddr 20])),
  some (.inr (0, List.replicate 60 (.retAddr 21))),
  some (.inr (0, ([.retAddr 22, .retAddr 23] ++ (List.replicate 58 (.int 0))))),
  some (.inl (6, [.ref 56, .ref 57, .int 1, .int 0])),
  some (.inr (0, List.replicate 60 (.int 0))),
  some (.inr (0, List.replicate 60 (.int 0))),
  some (.inl (11, [.ref 59, .ref 60, .int 0, .ref 61, .ref 62, .ref 63, .ref 64, .int 0, .ref 65, .int 0, .ref 66, .retAddr 34, .int 0])),
  some (.inr (0, List.replicate 10 (.int 1))),
  some (.inr (0, List.replicate 10 (.int 0))),
  some (.inl (12, [.int 0, .retAddr 1, .int 0])),
  some (.inl (12, [.int 0, .retAddr 1, .int 0])),
  some (.inr (0, List.replicate 5 (.int 0))),
  some (.inr (0, List.replicate 5 (.int 0))),
  some (.inr (0, List.replicate 6 (.int 0))),
  some (.inr (2, [.ref 67, .ref 68, .ref 69, .ref 70, .ref 71, .ref 72, .ref 73, .ref 74])),
  some (.inr (0, List.replicate 6 (.int 0))),
  some (.inr (0, List.replicate 6 (.int 0))),
  some (.inr (0, List.replicate 6 (.int 0))),
  some (.inr (0, List.replicate 6 (.int 0))),
  some (.inr (0, List.replicate 6 (.int 0))),
  some (.inr (0, List.replicate 6 (.int 0))),
  some (.inr (0, List.replicate 6 (.int 0))),
  some (.inr (0, List.replicate 6 (.int 0))),
  some (.inr (1, [.double (UInt64.ofNat (c_M0 + 35))])),
  some (.inr (5, [.double 0])),
  none,
  some (.inr (0, [.int 1, .int 1])),
  some (.inr (0, [.retAddr 36, .retAddr 37])),
  some (.inr (0, [.retAddr 48, .retAddr 49]))]
def k34_2_rs1a : c_Hp := [some (.inl (10, [.ref 1, .ref 4, .ref 23, .ref 25, .ref 28, .ref 31, .ref 34, .ref 37, .ref 39, .ref 41, .ref 52, .ref 55])),
  some (.inl (6, [.ref 2, .ref 3, .int 10, .int 0])),
  some (.inr (0, List.replicate 60 (.int 1))),
  some (.inr (0, List.replicate 60 (.int 0))),
  some (.inl (4, [.ref 5, .ref 14, .int 0, .int 0])),
  some (.inr (2, [.ref 6, .ref 7, .ref 8, .ref 9, .ref 10, .ref 11, .ref 12, .ref 13])),
  some (.inr (0, List.replicate 60 (.int 0))),
  some (.inr (0, List.replicate 60 (.int 0))),
  some (.inr (0, List.replicate 60 (.int 0))),
  some (.inr (0, List.replicate 60 (.int 0))),
  some (.inr (0, List.replicate 60 (.int 0))),
  some (.inr (0, List.replicate 60 (.int 0))),
  some (.inr (0, List.replicate 60 (.int 0))),
  some (.inr (0, List.replicate 60 (.int 0))),
  some (.inr (2, [.ref 15, .ref 16, .ref 17, .ref 18, .ref 19, .ref 20, .ref 21, .ref 22])),
  some (.inr (0, List.replicate 60 (.int 0))),
  some (.inr (0, List.replicate 60 (.int 0))),
  some (.inr (0, List.replicate 60 (.int 0))),
  some (.inr (0, List.replicate 60 (.int 0))),
  some (.inr (0, List.replicate 60 (.int 0))),
  some (.inr (0, List.replicate 60 (.int 0))),
  some (.inr (0, List.replicate 60 (.int 0))),
  some (.inr (0, List.replicate 60 (.int 0))),
  some (.inl (0, [.ref 24, .retAddr 18])),
  some (.inr (0, ([.retAddr 22, .retAddr 23] ++ (List.replicate 58 (.int 0))))),
  some (.inl (3, [.ref 26, .ref 27, .int 0])),
  some (.inr (0, List.replicate 120 (.int 0))),
  some (.inr (0, List.replicate 60 (.int 0))),
  some (.inl (7, [.ref 29, .ref 30, .int 0, .int 0])),
  some (.inr (0, List.replicate 60 (.int 0))),
  some (.inr (0, List.replicate 60 (.int 0))),
  some (.inl (8, [.ref 32, .ref 33])),
  some (.inr (0, [.int 0, .int 0, .int 0])),
  some (.inr (0, [.int 0, .int 0, .int 0])),
  some (.inl (1, [.ref 35, .ref 36, .int 0])),
  some (.inr (0, List.replicate 5 (.int 0))),
  some (.inr (0, List.replicate 5 (.int 0))),
  some (.inl (9, [.ref 38, .int 0])),
  some (.inr (0, List.replicate 6 (.int 0))),
  some (.inl (2, [.ref 40])),
  none,
  some (.inl (5, [.ref 42, .ref 51])),
  some (.inr (2, [.ref 43, .ref 44, .ref 45, .ref 46, .ref 47, .ref 48, .ref 49, .ref 50])),
  some (.inr (0, List.replicate 6 (.int 0))),
  some (.inr (0, List.replicate 6 (.int 0))),
  some (.inr (0, List.replicate 6 (.int 0))),
  some (.inr (0, List.replicate 6 (.int 0))),
  some (.inr (0, List.replicate 6 (.int 0))),
  some (.inr (0, List.replicate 6 (.int 0))),
  some (.inr (0, List.replicate 6 (.int 0))),
  some (.inr (0, List.replicate 6 (.int 0))),
  some (.inr (0, List.replicate 6 (.int 0))),
  some (.inl (6, [.ref 53, .ref 54, .retAddr 19, .retAddr 20])),
  some (.inr (0, List.replicate 60 (.retAddr 21))),
  some (.inr (0, ([.retAddr 22, .retAddr 23] ++ (List.replicate 58 (.int 0))))),
  some (.inl (6, [.ref 56, .ref 57, .int 1, .int 0])),
  some (.inr (0, List.replicate 60 (.int 0))),
  some (.inr (0, List.replicate 60 (.int 0))),
  some (.inl (11, [.ref 59, .ref 60, .int 0, .ref 61, .ref 62, .ref 63, .ref 64, .int 0, .ref 65, .int 0, .ref 66, .retAddr 116, .int 0])),
  some (.inr (0, List.replicate 10 (.int 1))),
  some (.inr (0, List.replicate 10 (.int 0))),
  some (.inl (12, [.int 0, .retAddr 1, .int 0])),
  some (.inl (12, [.int 0, .retAddr 1, .int 0])),
  some (.inr (0, List.replicate 5 (.int 0))),
  some (.inr (0, List.replicate 5 (.int 0))),
  some (.inr (0, List.replicate 6 (.int 0))),
  some (.inr (2, [.ref 67, .ref 68, .ref 69, .ref 70, .ref 71, .ref 72, .ref 73, .ref 74])),
  some (.inr (0, List.replicate 6 (.int 0))),
  some (.inr (0, List.replicate 6 (.int 0))),
  some (.inr (0, List.replicate 6 (.int 0))),
  some (.inr (0, List.replicate 6 (.int 0))),
  some (.inr (0, List.replicate 6 (.int 0))),
  some (.inr (0, List.replicate 6 (.int 0))),
  some (.inr (0, List.replicate 6 (.int 0))),
  some (.inr (0, List.replicate 6 (.int 0))),
  some (.inr (1, [.double (UInt64.ofNat (c_M0 + 35))])),
  some (.inr (5, [.double 0])),
  none,
  some (.inr (0, [.int 1, .int 1])),
  some (.inr (0, [.retAddr 36, .retAddr 37])),
  some (.inr (0, [.retAddr 48, .retAddr 49])),
  some (.inr (0, [.retAddr 88, .retAddr 97])),
  some (.inr (0, [.retAddr 105, .retAddr 113]))]
def k34_2_ra0 : c_Hp := [some (.inl (10, [.ref 1, .ref 4, .ref 23, .ref 25, .ref 28, .ref 31, .ref 34, .ref 37, .ref 39, .ref 41, .ref 52, .ref 55])),
  some (.inl (6, [.ref 2, .ref 3, .int 10, .int 0])),
  some (.inr (0, List.replicate 60 (.int 1))),
  some (.inr (0, List.replicate 60 (.int 0))),
  some (.inl (4, [.ref 5, .ref 14, .int 0, .int 0])),
  some (.inr (2, [.ref 6, .ref 7, .ref 8, .ref 9, .ref 10, .ref 11, .ref 12, .ref 13])),
  some (.inr (0, List.replicate 60 (.int 0))),
  some (.inr (0, List.replicate 60 (.int 0))),
  some (.inr (0, List.replicate 60 (.int 0))),
  some (.inr (0, List.replicate 60 (.int 0))),
  some (.inr (0, List.replicate 60 (.int 0))),
  some (.inr (0, List.replicate 60 (.int 0))),
  some (.inr (0, List.replicate 60 (.int 0))),
  some (.inr (0, List.replicate 60 (.int 0))),
  some (.inr (2, [.ref 15, .ref 16, .ref 17, .ref 18, .ref 19, .ref 20, .ref 21, .ref 22])),
  some (.inr (0, List.replicate 60 (.int 0))),
  some (.inr (0, List.replicate 60 (.int 0))),
  some (.inr (0, List.replicate 60 (.int 0))),
  some (.inr (0, List.replicate 60 (.int 0))),
  some (.inr (0, List.replicate 60 (.int 0))),
  some (.inr (0, List.replicate 60 (.int 0))),
  some (.inr (0, List.replicate 60 (.int 0))),
  some (.inr (0, List.replicate 60 (.int 0))),
  some (.inl (0, [.ref 24, .retAddr 18])),
  some (.inr (0, ([.retAddr 22, .retAddr 23] ++ (List.replicate 58 (.int 0))))),
  some (.inl (3, [.ref 26, .ref 27, .int 0])),
  some (.inr (0, List.replicate 120 (.int 0))),
  some (.inr (0, List.replicate 60 (.int 0))),
  some (.inl (7, [.ref 29, .ref 30, .int 0, .int 0])),
  some (.inr (0, List.replicate 60 (.int 0))),
  some (.inr (0, List.replicate 60 (.int 0))),
  some (.inl (8, [.ref 32, .ref 33])),
  some (.inr (0, [.int 0, .int 0, .int 0])),
  some (.inr (0, [.int 0, .int 0, .int 0])),
  some (.inl (1, [.ref 35, .ref 36, .int 0])),
  some (.inr (0, List.replicate 5 (.int 0))),
  some (.inr (0, List.replicate 5 (.int 0))),
  some (.inl (9, [.ref 38, .int 0])),
  some (.inr (0, List.replicate 6 (.int 0))),
  some (.inl (2, [.ref 40])),
  none,
  some (.inl (5, [.ref 42, .ref 51])),
  some (.inr (2, [.ref 43, .ref 44, .ref 45, .ref 46, .ref 47, .ref 48, .ref 49, .ref 50])),
  some (.inr (0, List.replicate 6 (.int 0))),
  some (.inr (0, List.replicate 6 (.int 0))),
  some (.inr (0, List.replicate 6 (.int 0))),
  some (.inr (0, List.replicate 6 (.int 0))),
  some (.inr (0, List.replicate 6 (.int 0))),
  some (.inr (0, List.replicate 6 (.int 0))),
  some (.inr (0, List.replicate 6 (.int 0))),
  some (.inr (0, List.replicate 6 (.int 0))),
  some (.inr (0, List.replicate 6 (.int 0))),
  some (.inl (6, [.ref 53, .ref 54, .retAddr 19, .retAddr 20])),
  some (.inr (0, List.replicate 60 (.retAddr 21))),
  some (.inr (0, ([.retAddr 22, .retAddr 23] ++ (List.replicate 58 (.int 0))))),
  some (.inl (6, [.ref 56, .ref 57, .int 1, .int 0])),
  some (.inr (0, List.replicate 60 (.int 0))),
  some (.inr (0, List.replicate 60 (.int 0))),
  some (.inl (11, [.ref 59, .ref 60, .int 0, .ref 61, .ref 62, .ref 63, .ref 64, .int 0, .ref 65, .int 0, .ref 66, .retAddr 116, .int 0])),
  some (.inr (0, List.replicate 10 (.int 1))),
  some (.inr (0, List.replicate 10 (.int 0))),
  some (.inl (12, [.int 0, .retAddr 1, .int 0])),
  some (.inl (12, [.int 0, .retAddr 1, .int 0])),
  some (.inr (0, List.replicate 5 (.int 0))),
  some (.inr (0, List.replicate 5 (.int 0))),
  some (.inr (0, List.replicate 6 (.int 0))),
  some (.inr (2, [.ref 67, .ref 68, .ref 69, .ref 70, .ref 71, .ref 72, .ref 73, .ref 74])),
  some (.inr (0, List.replicate 6 (.int 0))),
  some (.inr (0, List.replicate 6 (.int 0))),
  some (.inr (0, List.replicate 6 (.int 0))),
  some (.inr (0, List.replicate 6 (.int 0))),
  some (.inr (0, List.replicate 6 (.int 0))),
  some (.inr (0, List.replicate 6 (.int 0))),
  some (.inr (0, List.replicate 6 (.int 0))),
  some (.inr (0, List.replicate 6 (.int 0))),
  some (.inr (1, [.double (UInt64.ofNat (c_M0 + 35))])),
  some (.inr (5, [.double 0])),
  none,
  some (.inr (0, [.int 1, .int 1])),
  some (.inr (0, [.retAddr 88, .retAddr 97])),
  some (.inr (0, [.retAddr 105, .retAddr 113]))]
theorem k34_2_hsk : e_hk 18 34 k34_2_hs = true := by decide +kernel
theorem k34_2_rsk : e_hk 18 60 k34_2_rs0 = true := by decide +kernel
theorem k34_2_lvk : e_hk 18 60 k34_2_lv = true := by decide +kernel
theorem k34_2_m : c_pre (((23, .retAddr 16, .int 4, .int 0) :: (0, .retAddr 16, .int 1, .retAddr 17) :: (21, .retAddr 78, .retAddr 12, .int 1) :: k34_2_D), x_xs) 103 c_m35 11 41 [some (.ref 0), some (.int 2), some (.retAddr 12), some (.retAddr 16)] [] k34_2_hs = some (41, [some (.ref 0), some (.int 2), some (.retAddr 12), some (.retAddr 17)], [], k34_2_hs) := c_eqR_ok (by decide +kernel)
theorem k34_2_h : c_pre (((23, .retAddr 16, .int 4, .int 0) :: (21, .retAddr 78, .retAddr 12, .int 0) :: (21, .retAddr 115, .retAddr 99, .int 0) :: k34_2_D), x_xs) 1660 c_m35 25 41 [some (.ref 0), some (.int 2), some (.retAddr 12), some (.retAddr 16)] [] k34_2_hs = some (87, [some (.ref 0), some (.int 2), some (.retAddr 12), some (.retAddr 16)], [.retAddr 119, .ref 39], k34_2_hs1) := c_eqR_ok (by decide +kernel)
theorem k34_2_n : c_pre ([(0, .retAddr 16, .int 1, .retAddr 17)], x_xs) 50 c_m35 2 90 [some (.ref 0), some (.int 2), some (.retAddr 12), some (.retAddr 16)] [] k34_2_hs1 = some (41, [some (.ref 0), some (.int 2), some (.retAddr 12), some (.retAddr 17)], [], k34_2_hs1) := c_eqR_ok (by decide +kernel)
theorem k34_2_e : c_pre ([], x_xs) 50 c_m35 7 41 [some (.ref 0), some (.int 2), some (.retAddr 12), some (.int 4)] [] k34_2_hs = some (100, [some (.ref 0), some (.int 2), some (.retAddr 12), some (.int 4)], [.ref 39], k34_2_hs) := c_eqR_ok (by decide +kernel)
theorem k34_2_ce : c_callee c_m35 87 [.retAddr 119, .ref 39] k34_2_hs1 = some (149, [some (.ref 39), some (.retAddr 119), none], []) := c_eqC_ok (by decide +kernel)
def k34_2_q1 : Nat → Value := fun i => ([.retAddr 116, .int 2, .int 1, .int 1, .retAddr 105, .retAddr 113, .retAddr 24, .retAddr 25, .retAddr 26, .retAddr 27, .retAddr 28, .retAddr 29, .retAddr 30, .retAddr 31, .retAddr 32, .retAddr 33, .retAddr 34, .retAddr 35, .retAddr 36, .retAddr 37, .retAddr 38, .retAddr 39, .retAddr 40, .retAddr 41, .retAddr 42, .retAddr 43, .retAddr 44, .retAddr 45, .retAddr 46, .retAddr 47, .retAddr 48, .retAddr 49, .retAddr 50, .retAddr 51, .retAddr 52, .retAddr 53, .retAddr 54, .retAddr 55, .retAddr 56, .retAddr 57, .retAddr 58, .retAddr 59, .retAddr 60, .retAddr 61, .retAddr 62, .retAddr 63][i - 18]?).getD (.retAddr i)
def k34_2_v (B : c_B) : Nat → Int32 := z_f B k34_2_q1
theorem k34_2_h1 (B : c_B) : s_h B k34_2_hs1 = s_h (k34_B (k34_2_v B)) k34_2_hs := z_h B k34_2_q1 (by decide +kernel) (by decide +kernel)
theorem k34_2_39 (B : c_B) : c_nth (s_h B k34_2_hs1) 39 = some (some (.inl (2, [.ref 40]))) := rfl
theorem k34_2_c {a0 a3 a4 a5 : Int32} {k n S : Nat} (hk : 2 * k < 2) (hn : n < 4) (v : Nat → Int32) : ∃ v2 : Nat → Int32, ∀ r, c_T [a0, Int32.ofNat 2, Int32.ofNat k, a3, a4, a5] c_m35 41 [some (.ref 0), some (.int 2), some (.int (Int32.ofNat k)), some (.int (Int32.ofNat (n + 1)))] [] ((s_h (k34_B v2) k34_2_hs).set 40 (w_c (S ||| nb_D 2 k 0 n))) r → c_T [a0, Int32.ofNat 2, Int32.ofNat k, a3, a4, a5] c_m35 41 [some (.ref 0), some (.int 2), some (.int (Int32.ofNat k)), some (.int (Int32.ofNat n))] [] ((s_h (k34_B v) k34_2_hs).set 40 (w_c S)) r := by
  have H := e_Bf (f := k34_f [a0, Int32.ofNat 2, Int32.ofNat k, a3, a4, a5] n v) (n0 := 64) (D := k34_2_D) (by decide) k34_2_ok
  obtain ⟨V0, V1, V2, V3, V4⟩ := k34_2_W H (n := n) rfl (by omega)
  have hH : s_h (e_B (k34_f [a0, Int32.ofNat 2, Int32.ofNat k, a3, a4, a5] n v) 64 k34_2_D) k34_2_hs = s_h (k34_B v) k34_2_hs := e_hc (k34_ag (by decide)) k34_2_hsk
  have p12 := m_pople n (by omega)
  by_cases hp : nb_pop 12 n = k
  · have hm := k34_2_rt n hn (by omega)
    have hD : nb_D 2 k 0 n = 2 ^ nb_A 2 n := if_pos hp
    have hA : nb_A 2 n < 4096 := Nat.lt_of_lt_of_le (nb_E_lt _ _ _ _) (by decide)
    refine ⟨k34_2_v (e_B (k34_f [a0, Int32.ofNat 2, Int32.ofNat k, a3, a4, a5] n v) 64 k34_2_D), fun r kk => ?_⟩
    rw [hD] at kk
    have F1 : ∀ f ∈ (((23, .retAddr 16, .int 4, .int 0) :: (21, .retAddr 78, .retAddr 12, .int 0) :: (21, .retAddr 115, .retAddr 99, .int 0) :: k34_2_D) : List c_F), c_hold (e_B (k34_f [a0, Int32.ofNat 2, Int32.ofNat k, a3, a4, a5] n v) 64 k34_2_D) f := (List.forall_mem_cons.mpr ⟨o_ge (i := n) (s := 4) rfl rfl (by omega) (by decide) (by omega), (List.forall_mem_cons.mpr ⟨o_neE (congrArg some V0) rfl hp, (List.forall_mem_cons.mpr ⟨o_neE (congrArg some V2) (congrArg some V1) hm, H⟩)⟩)⟩)
    have F2 : ∀ f ∈ ([(0, .retAddr 16, .int 1, .retAddr 17)] : List c_F), c_hold (e_B (k34_f [a0, Int32.ofNat 2, Int32.ofNat k, a3, a4, a5] n v) 64 k34_2_D) f := (List.forall_mem_cons.mpr ⟨o_inc (i := n) rfl rfl, (fun _ h => nomatch h)⟩)
    have hc : c_callee c_m35 87 [.int ((e_B (k34_f [a0, Int32.ofNat 2, Int32.ofNat k, a3, a4, a5] n v) 64 k34_2_D).2 119), .ref 39] (s_h (e_B (k34_f [a0, Int32.ofNat 2, Int32.ofNat k, a3, a4, a5] n v) 64 k34_2_D) k34_2_hs1) = some (149, [some (.ref 39), some (.int ((e_B (k34_f [a0, Int32.ofNat 2, Int32.ofNat k, a3, a4, a5] n v) 64 k34_2_D).2 119)), none], []) := c_callee_s k34_2_ce
    have hq := q_put (X := [a0, Int32.ofNat 2, Int32.ofNat k, a3, a4, a5]) (S := S) hA (k34_2_39 (e_B (k34_f [a0, Int32.ofNat 2, Int32.ofNat k, a3, a4, a5] n v) 64 k34_2_D)) (by rw [s_lenH]; decide)
    refine q_pre k34_hx F1 k34_2_h rfl rfl rfl rfl rfl hH rfl ?_
    refine c_Run.call (mz := c_m149) (v := none) (h1 := (s_h (e_B (k34_f [a0, Int32.ofNat 2, Int32.ofNat k, a3, a4, a5] n v) 64 k34_2_D) k34_2_hs1).set 40 (w_c (S ||| 2 ^ nb_A 2 n))) (c_callee_p (s_nth_none rfl) hc) rfl ?_ (q_pre k34_hx F2 k34_2_n rfl rfl rfl rfl rfl rfl (k34_2_h1 _) kk)
    rw [V3]
    exact hq
  · have hD : nb_D 2 k 0 n = 0 := if_neg hp
    refine ⟨v, fun r kk => ?_⟩
    rw [hD, Nat.or_zero] at kk
    have F1 : ∀ f ∈ (((23, .retAddr 16, .int 4, .int 0) :: (0, .retAddr 16, .int 1, .retAddr 17) :: (21, .retAddr 78, .retAddr 12, .int 1) :: k34_2_D) : List c_F), c_hold (e_B (k34_f [a0, Int32.ofNat 2, Int32.ofNat k, a3, a4, a5] n v) 64 k34_2_D) f := (List.forall_mem_cons.mpr ⟨o_ge (i := n) (s := 4) rfl rfl (by omega) (by decide) (by omega), (List.forall_mem_cons.mpr ⟨o_inc (i := n) rfl rfl, (List.forall_mem_cons.mpr ⟨o_neN (congrArg some V0) rfl (by omega) (by omega) hp, H⟩)⟩)⟩)
    exact q_pre k34_hx F1 k34_2_m rfl rfl rfl rfl rfl hH hH kk
theorem k34_2_cl {a0 a3 a4 a5 : Int32} {k : Nat} (hk : 2 * k < 2) : ∀ j n, n + j = 4 → ∀ v : Nat → Int32, ∃ v2 : Nat → Int32, ∀ r, c_T [a0, Int32.ofNat 2, Int32.ofNat k, a3, a4, a5] c_m35 41 [some (.ref 0), some (.int 2), some (.int (Int32.ofNat k)), some (.int (Int32.ofNat 4))] [] ((s_h (k34_B v2) k34_2_hs).set 40 (w_c (nb_S 2 k 4))) r → c_T [a0, Int32.ofNat 2, Int32.ofNat k, a3, a4, a5] c_m35 41 [some (.ref 0), some (.int 2), some (.int (Int32.ofNat k)), some (.int (Int32.ofNat n))] [] ((s_h (k34_B v) k34_2_hs).set 40 (w_c (nb_S 2 k n))) r
  | 0, n, e, v => by
    have e0 : n = 4 := by omega
    subst e0
    exact ⟨v, fun r k => k⟩
  | j + 1, n, e, v => by
    obtain ⟨v1, h1⟩ := k34_2_c (a0 := a0) (a3 := a3) (a4 := a4) (a5 := a5) (n := n) (S := nb_S 2 k n) hk (by omega) v
    obtain ⟨v2, h2⟩ := k34_2_cl (a0 := a0) (a3 := a3) (a4 := a4) (a5 := a5) hk j (n + 1) (by omega) v1
    exact ⟨v2, fun r k => h1 r (h2 r k)⟩
theorem k34_2_m0 : c_pre (((23, .retAddr 16, .int 4, .int 0) :: (0, .retAddr 16, .int 1, .retAddr 17) :: (21, .retAddr 78, .retAddr 12, .int 1) :: k34_2_D), x_xs) 103 c_m130 11 71 [some (.ref 58), some (.int 2), some (.retAddr 12), some (.ref 77), some (.ref 78), some (.retAddr 16), none, none, none, none] [] k34_2_rs0 = some (71, [some (.ref 58), some (.int 2), some (.retAddr 12), some (.ref 77), some (.ref 78), some (.retAddr 17), none, none, none, none], [], k34_2_rs0) := c_eqR_ok (by decide +kernel)
theorem k34_2_m1 : c_pre (((23, .retAddr 16, .int 4, .int 0) :: (0, .retAddr 16, .int 1, .retAddr 17) :: (21, .retAddr 78, .retAddr 12, .int 1) :: k34_2_D), x_xs) 103 c_m130 11 71 [some (.ref 58), some (.int 2), some (.retAddr 12), some (.ref 77), some (.ref 78), some (.retAddr 16), some (.retAddr 61), some (.ref 80), some (.retAddr 62), none] [] k34_2_rs1 = some (71, [some (.ref 58), some (.int 2), some (.retAddr 12), some (.ref 77), some (.ref 78), some (.retAddr 17), some (.retAddr 61), some (.ref 80), some (.retAddr 62), none], [], k34_2_rs1) := c_eqR_ok (by decide +kernel)
theorem k34_2_a0 : c_pre (((23, .retAddr 16, .int 4, .int 0) :: (21, .retAddr 78, .retAddr 12, .int 0) :: k34_2_D), x_xs) 477 c_m130 35 71 [some (.ref 58), some (.int 2), some (.retAddr 12), some (.ref 77), some (.ref 78), some (.retAddr 16), none, none, none, none] [] k34_2_rs0 = some (136, [some (.ref 58), some (.int 2), some (.retAddr 12), some (.ref 77), some (.ref 78), some (.retAddr 16), some (.retAddr 99), some (.ref 80), some (.retAddr 115), none], [.retAddr 122, .ref 77, .retAddr 122, .ref 77], k34_2_ra0) := c_eqR_ok (by decide +kernel)
theorem k34_2_a1 : c_pre (((23, .retAddr 16, .int 4, .int 0) :: (21, .retAddr 78, .retAddr 12, .int 0) :: k34_2_D), x_xs) 477 c_m130 35 71 [some (.ref 58), some (.int 2), some (.retAddr 12), some (.ref 77), some (.ref 78), some (.retAddr 16), some (.retAddr 61), some (.ref 80), some (.retAddr 62), none] [] k34_2_rs1 = some (136, [some (.ref 58), some (.int 2), some (.retAddr 12), some (.ref 77), some (.ref 78), some (.retAddr 16), some (.retAddr 99), some (.ref 82), some (.retAddr 115), none], [.retAddr 122, .ref 77, .retAddr 122, .ref 77], k34_2_rs1a) := c_eqR_ok (by decide +kernel)
theorem k34_2_b0 : c_pre ([(21, .retAddr 115, .retAddr 99, .int 0), (4, .retAddr 63, .int 1, .int 1)], x_xs) 50 c_m130 6 137 [some (.ref 58), some (.int 2), some (.retAddr 12), some (.ref 77), some (.ref 78), some (.retAddr 16), some (.retAddr 99), some (.ref 80), some (.retAddr 115), none] [.retAddr 63, .retAddr 122, .ref 77] k34_2_ra0 = some (150, [some (.ref 58), some (.int 2), some (.retAddr 12), some (.ref 77), some (.ref 78), some (.retAddr 16), some (.retAddr 99), some (.ref 80), some (.retAddr 115), none], [.int 1, .retAddr 122, .ref 77], k34_2_ra0) := c_eqR_ok (by decide +kernel)
theorem k34_2_b1 : c_pre ([(21, .retAddr 115, .retAddr 99, .int 0), (4, .retAddr 63, .int 1, .int 1)], x_xs) 50 c_m130 6 137 [some (.ref 58), some (.int 2), some (.retAddr 12), some (.ref 77), some (.ref 78), some (.retAddr 16), some (.retAddr 99), some (.ref 82), some (.retAddr 115), none] [.retAddr 63, .retAddr 122, .ref 77] k34_2_rs1a = some (150, [some (.ref 58), some (.int 2), some (.retAddr 12), some (.ref 77), some (.ref 78), some (.retAddr 16), some (.retAddr 99), some (.ref 82), some (.retAddr 115), none], [.int 1, .retAddr 122, .ref 77], k34_2_rs1a) := c_eqR_ok (by decide +kernel)
theorem k34_2_c0 : c_pre ([(0, .retAddr 16, .int 1, .retAddr 17)], x_xs) 50 c_m130 2 151 [some (.ref 58), some (.int 2), some (.retAddr 12), some (.ref 77), some (.ref 78), some (.retAddr 16), some (.retAddr 99), some (.ref 80), some (.retAddr 115), none] [] k34_2_ra0 = some (71, [some (.ref 58), some (.int 2), some (.retAddr 12), some (.ref 77), some (.ref 78), some (.retAddr 17), some (.retAddr 99), some (.ref 80), some (.retAddr 115), none], [], k34_2_ra0) := c_eqR_ok (by decide +kernel)
theorem k34_2_c1 : c_pre ([(0, .retAddr 16, .int 1, .retAddr 17)], x_xs) 50 c_m130 2 151 [some (.ref 58), some (.int 2), some (.retAddr 12), some (.ref 77), some (.ref 78), some (.retAddr 16), some (.retAddr 99), some (.ref 82), some (.retAddr 115), none] [] k34_2_rs1a = some (71, [some (.ref 58), some (.int 2), some (.retAddr 12), some (.ref 77), some (.ref 78), some (.retAddr 17), some (.retAddr 99), some (.ref 82), some (.retAddr 115), none], [], k34_2_rs1a) := c_eqR_ok (by decide +kernel)
def k34_2_q2 : Nat → Value := fun i => ([.retAddr 18, .retAddr 19, .retAddr 20, .retAddr 21, .retAddr 22, .retAddr 23, .retAddr 24, .retAddr 25, .retAddr 26, .retAddr 27, .retAddr 28, .retAddr 29, .retAddr 30, .retAddr 31, .retAddr 32, .retAddr 33, .retAddr 116, .retAddr 35, .retAddr 88, .retAddr 97, .retAddr 38, .retAddr 39, .retAddr 40, .retAddr 41, .retAddr 42, .retAddr 43, .retAddr 44, .retAddr 45, .retAddr 46, .retAddr 47, .retAddr 105, .retAddr 113, .retAddr 50, .retAddr 51, .retAddr 52, .retAddr 53, .retAddr 54, .retAddr 55, .retAddr 56, .retAddr 57, .retAddr 58, .retAddr 59, .retAddr 60, .retAddr 99, .retAddr 115, .retAddr 63][i - 18]?).getD (.retAddr i)
def k34_2_vr (B : c_B) : Nat → Int32 := z_f B k34_2_q2
theorem k34_2_r1 (B : c_B) : s_h B k34_2_rs0a = s_h (k34_B (k34_2_vr B)) k34_2_rs0 := z_h B k34_2_q2 (by decide +kernel) (by decide +kernel)
theorem k34_2_r2 (B : c_B) : s_h B k34_2_nw = s_h (k34_B (k34_2_vr B)) k34_2_lv := z_h B k34_2_q2 (by decide +kernel) (by decide +kernel)
theorem k34_2_tl (B : c_B) : m_told (s_h B k34_2_lv) := fun _ => rfl
theorem k34_2_rs0g (d : Nat) : k34_2_rs0.map (g_c 79 d) = k34_2_rs0 := rfl
theorem k34_2_rs0ag (d : Nat) : k34_2_rs0a.map (g_c 79 d) = k34_2_rs0a := rfl
theorem k34_2_lvg (d : Nat) : k34_2_lv.map (g_c 79 d) = k34_2_lv := rfl
theorem k34_2_nwg (d : Nat) : k34_2_nw.map (g_c 79 d) = k34_2_nw := rfl
theorem k34_2_g0 (B : c_B) : s_h B (g_h 79 [] k34_2_rs0) = s_h B k34_2_rs0 := by
  rw [show k34_2_rs0 = k34_2_rs0 ++ [] from (List.append_nil _).symm, g_h_s (show k34_2_rs0.length = 79 from rfl), k34_2_rs0g]
  rfl
theorem k34_2_g0a (B : c_B) : s_h B (g_h 79 [] k34_2_ra0) = s_h (k34_B (k34_2_vr B)) k34_2_rs0 ++ s_h (k34_B (k34_2_vr B)) k34_2_lv := by
  rw [show k34_2_ra0 = k34_2_rs0a ++ k34_2_nw from rfl, g_h_s (show k34_2_rs0a.length = 79 from rfl), k34_2_rs0ag, k34_2_nwg, List.nil_append, m_app, k34_2_r1, k34_2_r2]
theorem k34_2_g1 (B : c_B) {G : c_Hp} (hG : m_told G) : s_h B (g_h 79 G k34_2_rs1) = s_h B k34_2_rs0 ++ (G ++ s_h B k34_2_lv) := by
  rw [show k34_2_rs1 = k34_2_rs0 ++ k34_2_lv from rfl, g_h_s (show k34_2_rs0.length = 79 from rfl), k34_2_rs0g, k34_2_lvg, m_app, m_app, hG B]
theorem k34_2_g1a (B : c_B) {G : c_Hp} (hG : m_told G) : s_h B (g_h 79 G k34_2_rs1a) = s_h (k34_B (k34_2_vr B)) k34_2_rs0 ++ ((G ++ s_h B k34_2_lv) ++ s_h (k34_B (k34_2_vr B)) k34_2_lv) := by
  have e : k34_2_rs1a = k34_2_rs0a ++ (k34_2_lv ++ k34_2_nw) := rfl
  rw [e, g_h_s (show k34_2_rs0a.length = 79 from rfl), k34_2_rs0ag, List.map_append, k34_2_lvg, k34_2_nwg, m_app, m_app, m_app, hG B, k34_2_r1, k34_2_r2, List.append_assoc]
theorem k34_2_R1 {a0 a3 a4 a5 : Int32} {k n S : Nat} {u : c_Cell} (hk : 2 * k < 2) (hn : n < 4) (v : Nat → Int32) (G : c_Hp) (hG : m_told G) : ∃ (v2 : Nat → Int32) (G2 : c_Hp), m_told G2 ∧ G2.length ≤ G.length + 2 ∧ c_msz G2 ≤ c_msz G + 4 ∧ v2 35 = v 35 ∧ ∀ r, c_T [a0, Int32.ofNat 2, Int32.ofNat k, a3, a4, a5] c_m130 71 [some (.ref 58), some (.int 2), some (.int (Int32.ofNat k)), some (.ref 77), some (.ref 78), some (.int (Int32.ofNat (n + 1))), some (.int (v2 61)), some (.ref (80 + (G2).length)), some (.int (v2 62)), none] [] (((s_h (k34_B v2) k34_2_rs0 ++ (G2 ++ s_h (k34_B v2) k34_2_lv)).set 40 u).set 77 (b_c 4 (S ||| nb_D 2 k 0 n))) r → c_T [a0, Int32.ofNat 2, Int32.ofNat k, a3, a4, a5] c_m130 71 [some (.ref 58), some (.int 2), some (.int (Int32.ofNat k)), some (.ref 77), some (.ref 78), some (.int (Int32.ofNat n)), some (.int (v 61)), some (.ref (80 + (G).length)), some (.int (v 62)), none] [] (((s_h (k34_B v) k34_2_rs0 ++ (G ++ s_h (k34_B v) k34_2_lv)).set 40 u).set 77 (b_c 4 (S))) r := by
  let z : Int32 := if S.testBit (nb_A 2 n) then 1 else 0
  let w : Nat → Int32 := fun i => if i = 63 then z else v i
  have hw : ∀ i, i < 60 → w i = v i := fun i h => by show (if i = 63 then z else v i) = v i; rw [if_neg (by omega)]
  have H := e_Bf (f := k34_f [a0, Int32.ofNat 2, Int32.ofNat k, a3, a4, a5] n w) (n0 := 64) (D := k34_2_D) (by decide) k34_2_ok
  obtain ⟨V0, V1, V2, V3, V4⟩ := k34_2_W H (n := n) rfl (by omega)
  have hg : ∀ i, 18 ≤ i → i < 60 → (e_B (k34_f [a0, Int32.ofNat 2, Int32.ofNat k, a3, a4, a5] n w) 64 k34_2_D).2 i = (k34_B v).2 i := fun i h1 h2 => (k34_ag (hi := 60) (by decide) i h1 h2).trans (hw i h2)
  have hH : s_h (e_B (k34_f [a0, Int32.ofNat 2, Int32.ofNat k, a3, a4, a5] n w) 64 k34_2_D) k34_2_rs0 = s_h (k34_B v) k34_2_rs0 := e_hc hg k34_2_rsk
  have hL : s_h (e_B (k34_f [a0, Int32.ofNat 2, Int32.ofNat k, a3, a4, a5] n w) 64 k34_2_D) k34_2_lv = s_h (k34_B v) k34_2_lv := e_hc hg k34_2_lvk
  have p12 := m_pople n (by omega)
  have hA : nb_A 2 n < 4 := nb_E_lt _ _ _ _
  have a1 := k34_2_g1 (e_B (k34_f [a0, Int32.ofNat 2, Int32.ofNat k, a3, a4, a5] n w) 64 k34_2_D) hG
  rw [hH, hL] at a1
  by_cases hp : nb_pop 12 n = k
  ·
    have hm := k34_2_rt n hn (by omega)
    have hD : nb_D 2 k 0 n = 2 ^ nb_A 2 n := if_pos hp
    have hz : c_hold (e_B (k34_f [a0, Int32.ofNat 2, Int32.ofNat k, a3, a4, a5] n w) 64 k34_2_D) (4, .retAddr 63, .int 1, .int 1) := ⟨z, 1, 1, rfl, rfl, (by show some (z ||| 1) = some 1; show some ((if S.testBit (nb_A 2 n) then (1 : Int32) else 0) ||| 1) = some 1; cases S.testBit (nb_A 2 n) <;> decide), rfl⟩
    have F1 : ∀ f ∈ (((23, .retAddr 16, .int 4, .int 0) :: (21, .retAddr 78, .retAddr 12, .int 0) :: k34_2_D) : List c_F), c_hold (e_B (k34_f [a0, Int32.ofNat 2, Int32.ofNat k, a3, a4, a5] n w) 64 k34_2_D) f := (List.forall_mem_cons.mpr ⟨o_ge (i := n) (s := 4) rfl rfl (by omega) (by decide) (by omega), (List.forall_mem_cons.mpr ⟨o_neE (congrArg some V0) rfl hp, H⟩)⟩)
    have F2 : ∀ f ∈ ([(21, .retAddr 115, .retAddr 99, .int 0), (4, .retAddr 63, .int 1, .int 1)] : List c_F), c_hold (e_B (k34_f [a0, Int32.ofNat 2, Int32.ofNat k, a3, a4, a5] n w) 64 k34_2_D) f := (List.forall_mem_cons.mpr ⟨o_neE (congrArg some V2) (congrArg some V1) hm, (List.forall_mem_cons.mpr ⟨hz, (fun _ h => nomatch h)⟩)⟩)
    have F3 : ∀ f ∈ ([(0, .retAddr 16, .int 1, .retAddr 17)] : List c_F), c_hold (e_B (k34_f [a0, Int32.ofNat 2, Int32.ofNat k, a3, a4, a5] n w) 64 k34_2_D) f := (List.forall_mem_cons.mpr ⟨o_inc (i := n) rfl rfl, (fun _ h => nomatch h)⟩)
    have a2 := k34_2_g1a (e_B (k34_f [a0, Int32.ofNat 2, Int32.ofNat k, a3, a4, a5] n w) 64 k34_2_D) hG
    rw [hL] at a2
    refine ⟨k34_2_vr (e_B (k34_f [a0, Int32.ofNat 2, Int32.ofNat k, a3, a4, a5] n w) 64 k34_2_D), G ++ s_h (k34_B v) k34_2_lv, fun B3 => by rw [m_app, hG B3, k34_2_tl _ B3], by rw [List.length_append, s_lenH]; exact Nat.le_refl _, by rw [m_szapp, m_szs]; exact Nat.le_refl _, rfl, fun r kk => ?_⟩
    rw [hD] at kk
    have hl : 77 < ((s_h (e_B (k34_f [a0, Int32.ofNat 2, Int32.ofNat k, a3, a4, a5] n w) 64 k34_2_D) (g_h 79 G k34_2_rs1a)).set 40 u).length := by
      rw [List.length_set, s_lenH, g_lenH (by decide)]
      exact Nat.lt_of_lt_of_le (by decide : 77 < k34_2_rs1a.length) (Nat.le_add_right _ _)
    have e82 : g_p 79 G.length 82 = 80 + (G ++ s_h (k34_B v) k34_2_lv).length := by
      rw [List.length_append, s_lenH]
      unfold g_p
      rw [if_neg (by decide), show k34_2_lv.length = 2 from rfl]
      omega
    refine q_preg (i := 40) (j := 77) (G := G) (n := 79) (K := [some (.ref 58), some (.int 2), some (.int (Int32.ofNat k)), some (.ref 77), some (.ref 78), some (.int (Int32.ofNat n)), some (.int (v 61)), some (.ref (80 + (G).length)), some (.int (v 62)), none]) k34_hx F1 k34_2_a1 (by decide) (by decide) (by decide) (by decide) rfl rfl ?_ rfl rfl rfl a1 rfl ?_
    · show [some (Value.ref 58), some (.int 2), some (.int (Int32.ofNat k)), some (.ref 77), some (.ref 78), some (.int (Int32.ofNat n)), some (.int (w 61)), some (.ref (g_p 79 G.length 80)), some (.int (w 62)), none] = _
      rw [show g_p 79 G.length 80 = 80 + G.length from by unfold g_p; rw [if_neg (by decide)]]
      rfl
    · show c_T _ _ _ _ [.int ((e_B (k34_f [a0, Int32.ofNat 2, Int32.ofNat k, a3, a4, a5] n w) 64 k34_2_D).2 122), .ref 77, .int ((e_B (k34_f [a0, Int32.ofNat 2, Int32.ofNat k, a3, a4, a5] n w) 64 k34_2_D).2 122), .ref 77] _ _
      rw [V4]
      refine q_bald (p1 := 0) (p2 := 0) (p3 := 0) (by decide +kernel) rfl hl hA (by decide) ?_
      have kb : c_T [a0, Int32.ofNat 2, Int32.ofNat k, a3, a4, a5] c_m130 137 (s_L (e_B (k34_f [a0, Int32.ofNat 2, Int32.ofNat k, a3, a4, a5] n w) 64 k34_2_D) (g_L 79 G.length [some (.ref 58), some (.int 2), some (.retAddr 12), some (.ref 77), some (.ref 78), some (.retAddr 16), some (.retAddr 99), some (.ref 82), some (.retAddr 115), none])) (s_st (e_B (k34_f [a0, Int32.ofNat 2, Int32.ofNat k, a3, a4, a5] n w) 64 k34_2_D) (g_st 79 G.length [.retAddr 63, .retAddr 122, .ref 77])) (((s_h (e_B (k34_f [a0, Int32.ofNat 2, Int32.ofNat k, a3, a4, a5] n w) 64 k34_2_D) (g_h 79 G k34_2_rs1a)).set 40 u).set 77 (b_c 4 S)) r := by
        refine q_preg (i := 40) (j := 77) (G := G) (n := 79) k34_hx F2 k34_2_b1 (by decide) (by decide) (by decide) (by decide) rfl rfl rfl rfl rfl rfl rfl rfl ?_
        show c_T _ _ _ _ [.int 1, .int ((e_B (k34_f [a0, Int32.ofNat 2, Int32.ofNat k, a3, a4, a5] n w) 64 k34_2_D).2 122), .ref 77] _ _
        rw [V4]
        refine q_bast (p1 := 0) (p2 := 0) (p3 := 0) (by decide +kernel) rfl hl hA (by decide) ?_
        refine q_preg (i := 40) (j := 77) (G := G) (n := 79) (K1 := [some (.ref 58), some (.int 2), some (.int (Int32.ofNat k)), some (.ref 77), some (.ref 78), some (.int (Int32.ofNat (n + 1))), some (.int (k34_2_vr (e_B (k34_f [a0, Int32.ofNat 2, Int32.ofNat k, a3, a4, a5] n w) 64 k34_2_D) 61)), some (.ref (80 + (G ++ s_h (k34_B v) k34_2_lv).length)), some (.int (k34_2_vr (e_B (k34_f [a0, Int32.ofNat 2, Int32.ofNat k, a3, a4, a5] n w) 64 k34_2_D) 62)), none]) k34_hx F3 k34_2_c1 (by decide) (by decide) (by decide) (by decide) rfl rfl rfl ?_ rfl rfl rfl a2 kk
        rw [← e82]
        rfl
      have e9 : s_st (e_B (k34_f [a0, Int32.ofNat 2, Int32.ofNat k, a3, a4, a5] n w) 64 k34_2_D) (g_st 79 G.length [.retAddr 63, .retAddr 122, .ref 77]) = [.int (if S.testBit (nb_A 2 n) then 1 else 0), .int (Int32.ofNat (nb_A 2 n)), .ref 77] := by
        show [Value.int z, .int ((e_B (k34_f [a0, Int32.ofNat 2, Int32.ofNat k, a3, a4, a5] n w) 64 k34_2_D).2 122), .ref 77] = _
        rw [V4]
      rw [e9] at kb
      exact kb
  · have hD : nb_D 2 k 0 n = 0 := if_neg hp
    refine ⟨v, G, hG, Nat.le_add_right _ _, Nat.le_add_right _ _, rfl, fun r kk => ?_⟩
    rw [hD, Nat.or_zero] at kk
    have F1 : ∀ f ∈ (((23, .retAddr 16, .int 4, .int 0) :: (0, .retAddr 16, .int 1, .retAddr 17) :: (21, .retAddr 78, .retAddr 12, .int 1) :: k34_2_D) : List c_F), c_hold (e_B (k34_f [a0, Int32.ofNat 2, Int32.ofNat k, a3, a4, a5] n w) 64 k34_2_D) f := (List.forall_mem_cons.mpr ⟨o_ge (i := n) (s := 4) rfl rfl (by omega) (by decide) (by omega), (List.forall_mem_cons.mpr ⟨o_inc (i := n) rfl rfl, (List.forall_mem_cons.mpr ⟨o_neN (congrArg some V0) rfl (by omega) (by omega) hp, H⟩)⟩)⟩)
    have e80 : g_p 79 G.length 80 = 80 + G.length := by unfold g_p; rw [if_neg (by decide)]
    refine q_preg (i := 40) (j := 77) (G := G) (n := 79) (K := [some (.ref 58), some (.int 2), some (.int (Int32.ofNat k)), some (.ref 77), some (.ref 78), some (.int (Int32.ofNat n)), some (.int (v 61)), some (.ref (80 + (G).length)), some (.int (v 62)), none]) (K1 := [some (.ref 58), some (.int 2), some (.int (Int32.ofNat k)), some (.ref 77), some (.ref 78), some (.int (Int32.ofNat (n + 1))), some (.int (v 61)), some (.ref (80 + (G).length)), some (.int (v 62)), none]) k34_hx F1 k34_2_m1 (by decide) (by decide) (by decide) (by decide) rfl rfl ?_ ?_ rfl rfl a1 a1 kk
    · rw [← e80]
      rfl
    · rw [← e80]
      rfl
theorem k34_2_R0 {a0 a3 a4 a5 : Int32} {k n S : Nat} {u : c_Cell} (hk : 2 * k < 2) (hn : n < 4) (v : Nat → Int32) : (nb_pop 12 n = k → ∃ v2 : Nat → Int32, v2 35 = v 35 ∧ ∀ r, c_T [a0, Int32.ofNat 2, Int32.ofNat k, a3, a4, a5] c_m130 71 [some (.ref 58), some (.int 2), some (.int (Int32.ofNat k)), some (.ref 77), some (.ref 78), some (.int (Int32.ofNat (n + 1))), some (.int (v2 61)), some (.ref (80 + (([] : c_Hp)).length)), some (.int (v2 62)), none] [] (((s_h (k34_B v2) k34_2_rs0 ++ s_h (k34_B v2) k34_2_lv).set 40 u).set 77 (b_c 4 (S ||| nb_D 2 k 0 n))) r → c_T [a0, Int32.ofNat 2, Int32.ofNat k, a3, a4, a5] c_m130 71 [some (.ref 58), some (.int 2), some (.int (Int32.ofNat k)), some (.ref 77), some (.ref 78), some (.int (Int32.ofNat n)), none, none, none, none] [] (((s_h (k34_B v) k34_2_rs0).set 40 u).set 77 (b_c 4 (S))) r) ∧ (nb_pop 12 n ≠ k → ∀ r, c_T [a0, Int32.ofNat 2, Int32.ofNat k, a3, a4, a5] c_m130 71 [some (.ref 58), some (.int 2), some (.int (Int32.ofNat k)), some (.ref 77), some (.ref 78), some (.int (Int32.ofNat (n + 1))), none, none, none, none] [] (((s_h (k34_B v) k34_2_rs0).set 40 u).set 77 (b_c 4 (S))) r → c_T [a0, Int32.ofNat 2, Int32.ofNat k, a3, a4, a5] c_m130 71 [some (.ref 58), some (.int 2), some (.int (Int32.ofNat k)), some (.ref 77), some (.ref 78), some (.int (Int32.ofNat n)), none, none, none, none] [] (((s_h (k34_B v) k34_2_rs0).set 40 u).set 77 (b_c 4 (S))) r) := by
  let z : Int32 := if S.testBit (nb_A 2 n) then 1 else 0
  let w : Nat → Int32 := fun i => if i = 63 then z else v i
  have hw : ∀ i, i < 60 → w i = v i := fun i h => by show (if i = 63 then z else v i) = v i; rw [if_neg (by omega)]
  have H := e_Bf (f := k34_f [a0, Int32.ofNat 2, Int32.ofNat k, a3, a4, a5] n w) (n0 := 64) (D := k34_2_D) (by decide) k34_2_ok
  obtain ⟨V0, V1, V2, V3, V4⟩ := k34_2_W H (n := n) rfl (by omega)
  have hg : ∀ i, 18 ≤ i → i < 60 → (e_B (k34_f [a0, Int32.ofNat 2, Int32.ofNat k, a3, a4, a5] n w) 64 k34_2_D).2 i = (k34_B v).2 i := fun i h1 h2 => (k34_ag (hi := 60) (by decide) i h1 h2).trans (hw i h2)
  have hH : s_h (e_B (k34_f [a0, Int32.ofNat 2, Int32.ofNat k, a3, a4, a5] n w) 64 k34_2_D) k34_2_rs0 = s_h (k34_B v) k34_2_rs0 := e_hc hg k34_2_rsk
  have hL : s_h (e_B (k34_f [a0, Int32.ofNat 2, Int32.ofNat k, a3, a4, a5] n w) 64 k34_2_D) k34_2_lv = s_h (k34_B v) k34_2_lv := e_hc hg k34_2_lvk
  have p12 := m_pople n (by omega)
  have hA : nb_A 2 n < 4 := nb_E_lt _ _ _ _
  have a1 := k34_2_g0 (e_B (k34_f [a0, Int32.ofNat 2, Int32.ofNat k, a3, a4, a5] n w) 64 k34_2_D)
  rw [hH] at a1
  refine ⟨fun hp => ?_, fun hp r kk => ?_⟩
  ·
    have hm := k34_2_rt n hn (by omega)
    have hD : nb_D 2 k 0 n = 2 ^ nb_A 2 n := if_pos hp
    have hz : c_hold (e_B (k34_f [a0, Int32.ofNat 2, Int32.ofNat k, a3, a4, a5] n w) 64 k34_2_D) (4, .retAddr 63, .int 1, .int 1) := ⟨z, 1, 1, rfl, rfl, (by show some (z ||| 1) = some 1; show some ((if S.testBit (nb_A 2 n) then (1 : Int32) else 0) ||| 1) = some 1; cases S.testBit (nb_A 2 n) <;> decide), rfl⟩
    have F1 : ∀ f ∈ (((23, .retAddr 16, .int 4, .int 0) :: (21, .retAddr 78, .retAddr 12, .int 0) :: k34_2_D) : List c_F), c_hold (e_B (k34_f [a0, Int32.ofNat 2, Int32.ofNat k, a3, a4, a5] n w) 64 k34_2_D) f := (List.forall_mem_cons.mpr ⟨o_ge (i := n) (s := 4) rfl rfl (by omega) (by decide) (by omega), (List.forall_mem_cons.mpr ⟨o_neE (congrArg some V0) rfl hp, H⟩)⟩)
    have F2 : ∀ f ∈ ([(21, .retAddr 115, .retAddr 99, .int 0), (4, .retAddr 63, .int 1, .int 1)] : List c_F), c_hold (e_B (k34_f [a0, Int32.ofNat 2, Int32.ofNat k, a3, a4, a5] n w) 64 k34_2_D) f := (List.forall_mem_cons.mpr ⟨o_neE (congrArg some V2) (congrArg some V1) hm, (List.forall_mem_cons.mpr ⟨hz, (fun _ h => nomatch h)⟩)⟩)
    have F3 : ∀ f ∈ ([(0, .retAddr 16, .int 1, .retAddr 17)] : List c_F), c_hold (e_B (k34_f [a0, Int32.ofNat 2, Int32.ofNat k, a3, a4, a5] n w) 64 k34_2_D) f := (List.forall_mem_cons.mpr ⟨o_inc (i := n) rfl rfl, (fun _ h => nomatch h)⟩)
    have a2 := k34_2_g0a (e_B (k34_f [a0, Int32.ofNat 2, Int32.ofNat k, a3, a4, a5] n w) 64 k34_2_D)
    refine ⟨k34_2_vr (e_B (k34_f [a0, Int32.ofNat 2, Int32.ofNat k, a3, a4, a5] n w) 64 k34_2_D), rfl, fun r kk => ?_⟩
    rw [hD] at kk
    have hl : 77 < ((s_h (e_B (k34_f [a0, Int32.ofNat 2, Int32.ofNat k, a3, a4, a5] n w) 64 k34_2_D) (g_h 79 [] k34_2_ra0)).set 40 u).length := by
      rw [List.length_set, s_lenH, g_lenH (by decide)]
      exact Nat.lt_of_lt_of_le (by decide : 77 < k34_2_ra0.length) (Nat.le_add_right _ _)
    refine q_preg (i := 40) (j := 77) (G := []) (n := 79) k34_hx F1 k34_2_a0 (by decide) (by decide) (by decide) (by decide) rfl rfl rfl rfl rfl rfl a1 rfl ?_
    show c_T _ _ _ _ [.int ((e_B (k34_f [a0, Int32.ofNat 2, Int32.ofNat k, a3, a4, a5] n w) 64 k34_2_D).2 122), .ref 77, .int ((e_B (k34_f [a0, Int32.ofNat 2, Int32.ofNat k, a3, a4, a5] n w) 64 k34_2_D).2 122), .ref 77] _ _
    rw [V4]
    refine q_bald (p1 := 0) (p2 := 0) (p3 := 0) (by decide +kernel) rfl hl hA (by decide) ?_
    have kb : c_T [a0, Int32.ofNat 2, Int32.ofNat k, a3, a4, a5] c_m130 137 (s_L (e_B (k34_f [a0, Int32.ofNat 2, Int32.ofNat k, a3, a4, a5] n w) 64 k34_2_D) (g_L 79 0 [some (.ref 58), some (.int 2), some (.retAddr 12), some (.ref 77), some (.ref 78), some (.retAddr 16), some (.retAddr 99), some (.ref 80), some (.retAddr 115), none])) (s_st (e_B (k34_f [a0, Int32.ofNat 2, Int32.ofNat k, a3, a4, a5] n w) 64 k34_2_D) (g_st 79 0 [.retAddr 63, .retAddr 122, .ref 77])) (((s_h (e_B (k34_f [a0, Int32.ofNat 2, Int32.ofNat k, a3, a4, a5] n w) 64 k34_2_D) (g_h 79 [] k34_2_ra0)).set 40 u).set 77 (b_c 4 S)) r := by
      refine q_preg (i := 40) (j := 77) (G := []) (n := 79) k34_hx F2 k34_2_b0 (by decide) (by decide) (by decide) (by decide) rfl rfl rfl rfl rfl rfl rfl rfl ?_
      show c_T _ _ _ _ [.int 1, .int ((e_B (k34_f [a0, Int32.ofNat 2, Int32.ofNat k, a3, a4, a5] n w) 64 k34_2_D).2 122), .ref 77] _ _
      rw [V4]
      refine q_bast (p1 := 0) (p2 := 0) (p3 := 0) (by decide +kernel) rfl hl hA (by decide) ?_
      exact q_preg (i := 40) (j := 77) (G := []) (n := 79) k34_hx F3 k34_2_c0 (by decide) (by decide) (by decide) (by decide) rfl rfl rfl rfl rfl rfl rfl a2 kk
    have e9 : s_st (e_B (k34_f [a0, Int32.ofNat 2, Int32.ofNat k, a3, a4, a5] n w) 64 k34_2_D) (g_st 79 0 [.retAddr 63, .retAddr 122, .ref 77]) = [.int (if S.testBit (nb_A 2 n) then 1 else 0), .int (Int32.ofNat (nb_A 2 n)), .ref 77] := by
      show [Value.int z, .int ((e_B (k34_f [a0, Int32.ofNat 2, Int32.ofNat k, a3, a4, a5] n w) 64 k34_2_D).2 122), .ref 77] = _
      rw [V4]
    rw [e9] at kb
    exact kb
  · have F1 : ∀ f ∈ (((23, .retAddr 16, .int 4, .int 0) :: (0, .retAddr 16, .int 1, .retAddr 17) :: (21, .retAddr 78, .retAddr 12, .int 1) :: k34_2_D) : List c_F), c_hold (e_B (k34_f [a0, Int32.ofNat 2, Int32.ofNat k, a3, a4, a5] n w) 64 k34_2_D) f := (List.forall_mem_cons.mpr ⟨o_ge (i := n) (s := 4) rfl rfl (by omega) (by decide) (by omega), (List.forall_mem_cons.mpr ⟨o_inc (i := n) rfl rfl, (List.forall_mem_cons.mpr ⟨o_neN (congrArg some V0) rfl (by omega) (by omega) hp, H⟩)⟩)⟩)
    exact q_preg (i := 40) (j := 77) (G := []) (n := 79) k34_hx F1 k34_2_m0 (by decide) (by decide) (by decide) (by decide) rfl rfl rfl rfl rfl rfl a1 a1 kk
theorem k34_2_p : c_pre ([], x_xs) 50 c_m130 10 71 [some (.ref 58), some (.int 2), some (.retAddr 12), some (.ref 77), some (.ref 78), some (.int 4), some (.retAddr 61), some (.ref 80), some (.retAddr 62), none] [] k34_2_rs1 = some (165, [some (.ref 58), some (.int 2), some (.retAddr 12), some (.ref 77), some (.ref 78), some (.int 0), some (.ref 77), some (.ref 80), some (.retAddr 62), none], [.ref 77], k34_2_rs1) := c_eqR_ok (by decide +kernel)
theorem k34_2_p2 : c_pre ([], x_xs) 50 c_m130 3 166 [some (.ref 58), some (.int 2), some (.retAddr 12), some (.ref 77), some (.ref 78), some (.int 0), some (.ref 77), some (.ref 80), some (.retAddr 62), none] [.int 4] k34_2_rs1 = some (171, [some (.ref 58), some (.int 2), some (.retAddr 12), some (.ref 77), some (.ref 78), some (.int 0), some (.ref 77), some (.int 4), some (.int 0), none], [], k34_2_rs1) := c_eqR_ok (by decide +kernel)
theorem k34_2_tx : c_pre ([(23, .retAddr 16, .int 4, .int 0)], x_xs) 50 c_m130 5 171 [some (.ref 58), some (.int 2), some (.retAddr 12), some (.ref 77), some (.ref 78), some (.retAddr 60), some (.ref 77), some (.int 4), some (.retAddr 16), none] [] k34_2_rs1 = some (182, [some (.ref 58), some (.int 2), some (.retAddr 12), some (.ref 77), some (.ref 78), some (.retAddr 60), some (.ref 77), some (.int 4), some (.retAddr 16), none], [.retAddr 16, .ref 77], k34_2_rs1) := c_eqR_ok (by decide +kernel)
theorem k34_2_tx0 : c_pre ([(0, .retAddr 60, .int 0, .retAddr 60), (0, .retAddr 16, .int 1, .retAddr 17)], x_xs) 50 c_m130 9 183 [some (.ref 58), some (.int 2), some (.retAddr 12), some (.ref 77), some (.ref 78), some (.retAddr 60), some (.ref 77), some (.int 4), some (.retAddr 16), none] [.int 0] k34_2_rs1 = some (171, [some (.ref 58), some (.int 2), some (.retAddr 12), some (.ref 77), some (.ref 78), some (.retAddr 60), some (.ref 77), some (.int 4), some (.retAddr 17), some (.int 0)], [], k34_2_rs1) := c_eqR_ok (by decide +kernel)
theorem k34_2_tx1 : c_pre ([(0, .retAddr 60, .int 1, .retAddr 64), (0, .retAddr 16, .int 1, .retAddr 17)], x_xs) 50 c_m130 10 183 [some (.ref 58), some (.int 2), some (.retAddr 12), some (.ref 77), some (.ref 78), some (.retAddr 60), some (.ref 77), some (.int 4), some (.retAddr 16), none] [.int 1] k34_2_rs1 = some (171, [some (.ref 58), some (.int 2), some (.retAddr 12), some (.ref 77), some (.ref 78), some (.retAddr 64), some (.ref 77), some (.int 4), some (.retAddr 17), some (.int 1)], [], k34_2_rs1) := c_eqR_ok (by decide +kernel)
theorem k34_2_ty : c_pre ([(23, .retAddr 16, .int 4, .int 0)], x_xs) 50 c_m130 5 171 [some (.ref 58), some (.int 2), some (.retAddr 12), some (.ref 77), some (.ref 78), some (.retAddr 60), some (.ref 77), some (.int 4), some (.retAddr 16), some (.retAddr 62)] [] k34_2_rs1 = some (182, [some (.ref 58), some (.int 2), some (.retAddr 12), some (.ref 77), some (.ref 78), some (.retAddr 60), some (.ref 77), some (.int 4), some (.retAddr 16), some (.retAddr 62)], [.retAddr 16, .ref 77], k34_2_rs1) := c_eqR_ok (by decide +kernel)
theorem k34_2_ty0 : c_pre ([(0, .retAddr 60, .int 0, .retAddr 60), (0, .retAddr 16, .int 1, .retAddr 17)], x_xs) 50 c_m130 9 183 [some (.ref 58), some (.int 2), some (.retAddr 12), some (.ref 77), some (.ref 78), some (.retAddr 60), some (.ref 77), some (.int 4), some (.retAddr 16), some (.retAddr 62)] [.int 0] k34_2_rs1 = some (171, [some (.ref 58), some (.int 2), some (.retAddr 12), some (.ref 77), some (.ref 78), some (.retAddr 60), some (.ref 77), some (.int 4), some (.retAddr 17), some (.int 0)], [], k34_2_rs1) := c_eqR_ok (by decide +kernel)
theorem k34_2_ty1 : c_pre ([(0, .retAddr 60, .int 1, .retAddr 64), (0, .retAddr 16, .int 1, .retAddr 17)], x_xs) 50 c_m130 10 183 [some (.ref 58), some (.int 2), some (.retAddr 12), some (.ref 77), some (.ref 78), some (.retAddr 60), some (.ref 77), some (.int 4), some (.retAddr 16), some (.retAddr 62)] [.int 1] k34_2_rs1 = some (171, [some (.ref 58), some (.int 2), some (.retAddr 12), some (.ref 77), some (.ref 78), some (.retAddr 64), some (.ref 77), some (.int 4), some (.retAddr 17), some (.int 1)], [], k34_2_rs1) := c_eqR_ok (by decide +kernel)
theorem k34_2_tz : c_pre ([], x_xs) 50 c_m130 4 171 [some (.ref 58), some (.int 2), some (.retAddr 12), some (.ref 77), some (.ref 78), some (.retAddr 60), some (.ref 77), some (.int 4), some (.int 4), some (.retAddr 62)] [] k34_2_rs1 = some (208, [some (.ref 58), some (.int 2), some (.retAddr 12), some (.ref 77), some (.ref 78), some (.retAddr 60), some (.ref 77), some (.int 4), some (.int 4), some (.retAddr 62)], [.retAddr 60], k34_2_rs1) := c_eqR_ok (by decide +kernel)
theorem k34_2_kt {a0 a3 a4 a5 : Int32} {k i m S : Nat} {u : c_Cell} {G : c_Hp} (v : Nat → Int32) (hG : m_told G) (hi : i < 4) (o : Option Value) (ho : o = none ∨ ∃ y, o = some (.int y)) {r : c_O × c_Hp} (kk : c_T [a0, Int32.ofNat 2, Int32.ofNat k, a3, a4, a5] c_m130 171 [some (.ref 58), some (.int 2), some (.int (Int32.ofNat k)), some (.ref 77), some (.ref 78), some (.int (Int32.ofNat (m + nb_C S 0 i))), some (.ref 77), some (.int 4), some (.int (Int32.ofNat (i + 1))), some (.int (if S.testBit i then 1 else 0))] [] (((s_h (k34_B v) k34_2_rs0 ++ (G ++ s_h (k34_B v) k34_2_lv)).set 40 u).set 77 (b_c 4 (S))) r) : c_T [a0, Int32.ofNat 2, Int32.ofNat k, a3, a4, a5] c_m130 171 [some (.ref 58), some (.int 2), some (.int (Int32.ofNat k)), some (.ref 77), some (.ref 78), some (.int (Int32.ofNat m)), some (.ref 77), some (.int 4), some (.int (Int32.ofNat i)), o] [] (((s_h (k34_B v) k34_2_rs0 ++ (G ++ s_h (k34_B v) k34_2_lv)).set 40 u).set 77 (b_c 4 (S))) r := by
  have hT : ∀ y : Int32, (o = none ∨ o = some (.int y)) → c_T [a0, Int32.ofNat 2, Int32.ofNat k, a3, a4, a5] c_m130 171 [some (.ref 58), some (.int 2), some (.int (Int32.ofNat k)), some (.ref 77), some (.ref 78), some (.int (Int32.ofNat m)), some (.ref 77), some (.int 4), some (.int (Int32.ofNat i)), o] [] (((s_h (k34_B v) k34_2_rs0 ++ (G ++ s_h (k34_B v) k34_2_lv)).set 40 u).set 77 (b_c 4 (S))) r := by
    intro y hy
    let w : Nat → Int32 := fun j => if j = 60 then Int32.ofNat m else if j = 62 then y else v j
    have hw : ∀ i, i < 60 → w i = v i := fun i h => by show (if i = 60 then _ else if i = 62 then _ else _) = _; rw [if_neg (by omega), if_neg (by omega)]
    have H := e_Bf (f := k34_f [a0, Int32.ofNat 2, Int32.ofNat k, a3, a4, a5] i w) (n0 := 64) (D := [(0, .retAddr 60, .int 1, .retAddr 64)]) (by decide) (by decide +kernel)
    have h64 : (e_B (k34_f [a0, Int32.ofNat 2, Int32.ofNat k, a3, a4, a5] i w) 64 [(0, .retAddr 60, .int 1, .retAddr 64)]).2 60 + 1 = (e_B (k34_f [a0, Int32.ofNat 2, Int32.ofNat k, a3, a4, a5] i w) 64 [(0, .retAddr 60, .int 1, .retAddr 64)]).2 64 := Option.some.inj (e_ri (e_at H 0 rfl))
    have h65 : (e_B (k34_f [a0, Int32.ofNat 2, Int32.ofNat k, a3, a4, a5] i w) 64 [(0, .retAddr 60, .int 1, .retAddr 64)]).2 64 = Int32.ofNat (m + 1) := by
      rw [← h64, Int32.ofNat_add]
      rfl
    have hg : ∀ j, 18 ≤ j → j < 60 → (e_B (k34_f [a0, Int32.ofNat 2, Int32.ofNat k, a3, a4, a5] i w) 64 [(0, .retAddr 60, .int 1, .retAddr 64)]).2 j = (k34_B v).2 j := fun j h1 h2 => (k34_ag (hi := 60) (by decide) j h1 h2).trans (hw j h2)
    have a1 := k34_2_g1 (e_B (k34_f [a0, Int32.ofNat 2, Int32.ofNat k, a3, a4, a5] i w) 64 [(0, .retAddr 60, .int 1, .retAddr 64)]) hG
    rw [e_hc hg k34_2_rsk, e_hc hg k34_2_lvk] at a1
    have hcN : c_hold (e_B (k34_f [a0, Int32.ofNat 2, Int32.ofNat k, a3, a4, a5] i w) 64 [(0, .retAddr 60, .int 1, .retAddr 64)]) (23, .retAddr 16, .int 4, .int 0) := o_ge (i := i) (s := 4) rfl rfl (by omega) (by decide) (by omega)
    have hcI : c_hold (e_B (k34_f [a0, Int32.ofNat 2, Int32.ofNat k, a3, a4, a5] i w) 64 [(0, .retAddr 60, .int 1, .retAddr 64)]) (0, .retAddr 16, .int 1, .retAddr 17) := o_inc (i := i) rfl rfl
    have hf0 : c_hold (e_B (k34_f [a0, Int32.ofNat 2, Int32.ofNat k, a3, a4, a5] i w) 64 [(0, .retAddr 60, .int 1, .retAddr 64)]) (0, .retAddr 60, .int 0, .retAddr 60) := ⟨Int32.ofNat m, 0, Int32.ofNat m, rfl, rfl, congrArg some (Int32.add_zero _), rfl⟩
    have hf1 : c_hold (e_B (k34_f [a0, Int32.ofNat 2, Int32.ofNat k, a3, a4, a5] i w) 64 [(0, .retAddr 60, .int 1, .retAddr 64)]) (0, .retAddr 60, .int 1, .retAddr 64) := e_at H 0 rfl
    have FN : ∀ f ∈ ([(23, .retAddr 16, .int 4, .int 0)] : List c_F), c_hold (e_B (k34_f [a0, Int32.ofNat 2, Int32.ofNat k, a3, a4, a5] i w) 64 [(0, .retAddr 60, .int 1, .retAddr 64)]) f := List.forall_mem_cons.mpr ⟨hcN, fun _ h => nomatch h⟩
    have FA : ∀ f ∈ ([(0, .retAddr 60, .int 0, .retAddr 60), (0, .retAddr 16, .int 1, .retAddr 17)] : List c_F), c_hold (e_B (k34_f [a0, Int32.ofNat 2, Int32.ofNat k, a3, a4, a5] i w) 64 [(0, .retAddr 60, .int 1, .retAddr 64)]) f := List.forall_mem_cons.mpr ⟨hf0, List.forall_mem_cons.mpr ⟨hcI, fun _ h => nomatch h⟩⟩
    have FB : ∀ f ∈ ([(0, .retAddr 60, .int 1, .retAddr 64), (0, .retAddr 16, .int 1, .retAddr 17)] : List c_F), c_hold (e_B (k34_f [a0, Int32.ofNat 2, Int32.ofNat k, a3, a4, a5] i w) 64 [(0, .retAddr 60, .int 1, .retAddr 64)]) f := List.forall_mem_cons.mpr ⟨hf1, List.forall_mem_cons.mpr ⟨hcI, fun _ h => nomatch h⟩⟩
    have hl : 77 < ((s_h (k34_B v) k34_2_rs0 ++ (G ++ s_h (k34_B v) k34_2_lv)).set 40 u).length := by
      rw [List.length_set, List.length_append, s_lenH]
      exact Nat.lt_of_lt_of_le (by decide : 77 < k34_2_rs0.length) (Nat.le_add_right _ _)
    have e0 : nb_C S 0 i = if S.testBit i then 1 else 0 := rfl
    rcases hy with hy | hy
    · subst hy
      refine q_preg (i := 40) (j := 77) (G := G) (n := 79) (K := [some (.ref 58), some (.int 2), some (.int (Int32.ofNat k)), some (.ref 77), some (.ref 78), some (.int (Int32.ofNat m)), some (.ref 77), some (.int 4), some (.int (Int32.ofNat i)), none]) (K1 := [some (.ref 58), some (.int 2), some (.int (Int32.ofNat k)), some (.ref 77), some (.ref 78), some (.int (Int32.ofNat m)), some (.ref 77), some (.int 4), some (.int (Int32.ofNat i)), none]) (t1 := [.int (Int32.ofNat i), .ref 77]) k34_hx FN k34_2_tx (by decide) (by decide) (by decide) (by decide) rfl rfl rfl rfl rfl rfl a1 a1 ?_
      refine q_bald (p1 := 0) (p2 := 0) (p3 := 0) (by decide +kernel) rfl hl hi (by decide) ?_
      cases hb : S.testBit i with
      | false =>
        rw [e0, hb] at kk
        exact q_preg (i := 40) (j := 77) (G := G) (n := 79) k34_hx FA k34_2_tx0 (by decide) (by decide) (by decide) (by decide) rfl rfl rfl rfl rfl rfl a1 a1 kk
      | true =>
        rw [e0, hb] at kk
        refine q_preg (i := 40) (j := 77) (G := G) (n := 79) (K1 := [some (.ref 58), some (.int 2), some (.int (Int32.ofNat k)), some (.ref 77), some (.ref 78), some (.int (Int32.ofNat (m + 1))), some (.ref 77), some (.int 4), some (.int (Int32.ofNat (i + 1))), some (.int 1)]) k34_hx FB k34_2_tx1 (by decide) (by decide) (by decide) (by decide) rfl rfl rfl ?_ rfl rfl a1 a1 kk
        rw [← h65]
        rfl
    · subst hy
      refine q_preg (i := 40) (j := 77) (G := G) (n := 79) (K := [some (.ref 58), some (.int 2), some (.int (Int32.ofNat k)), some (.ref 77), some (.ref 78), some (.int (Int32.ofNat m)), some (.ref 77), some (.int 4), some (.int (Int32.ofNat i)), some (.int y)]) (K1 := [some (.ref 58), some (.int 2), some (.int (Int32.ofNat k)), some (.ref 77), some (.ref 78), some (.int (Int32.ofNat m)), some (.ref 77), some (.int 4), some (.int (Int32.ofNat i)), some (.int y)]) (t1 := [.int (Int32.ofNat i), .ref 77]) k34_hx FN k34_2_ty (by decide) (by decide) (by decide) (by decide) rfl rfl rfl rfl rfl rfl a1 a1 ?_
      refine q_bald (p1 := 0) (p2 := 0) (p3 := 0) (by decide +kernel) rfl hl hi (by decide) ?_
      cases hb : S.testBit i with
      | false =>
        rw [e0, hb] at kk
        exact q_preg (i := 40) (j := 77) (G := G) (n := 79) k34_hx FA k34_2_ty0 (by decide) (by decide) (by decide) (by decide) rfl rfl rfl rfl rfl rfl a1 a1 kk
      | true =>
        rw [e0, hb] at kk
        refine q_preg (i := 40) (j := 77) (G := G) (n := 79) (K1 := [some (.ref 58), some (.int 2), some (.int (Int32.ofNat k)), some (.ref 77), some (.ref 78), some (.int (Int32.ofNat (m + 1))), some (.ref 77), some (.int 4), some (.int (Int32.ofNat (i + 1))), some (.int 1)]) k34_hx FB k34_2_ty1 (by decide) (by decide) (by decide) (by decide) rfl rfl rfl ?_ rfl rfl a1 a1 kk
        rw [← h65]
        rfl
  rcases ho with h | ⟨y, h⟩
  · exact hT 0 (Or.inl h)
  · exact hT y (Or.inr h)
theorem k34_2_kl {a0 a3 a4 a5 : Int32} {k S : Nat} {u : c_Cell} {G : c_Hp} (v : Nat → Int32) (hG : m_told G) : ∀ j i, i + j = 4 → ∀ o : Option Value, (o = none ∨ ∃ y, o = some (.int y)) → (i < 4 ∨ ∃ y, o = some (.int y)) → c_T [a0, Int32.ofNat 2, Int32.ofNat k, a3, a4, a5] c_m130 171 [some (.ref 58), some (.int 2), some (.int (Int32.ofNat k)), some (.ref 77), some (.ref 78), some (.int (Int32.ofNat (nb_c S i))), some (.ref 77), some (.int 4), some (.int (Int32.ofNat i)), o] [] (((s_h (k34_B v) k34_2_rs0 ++ (G ++ s_h (k34_B v) k34_2_lv)).set 40 u).set 77 (b_c 4 (S))) (.inl (some (.int (Int32.ofNat (nb_c S 4)))), (((s_h (k34_B v) k34_2_rs0 ++ (G ++ s_h (k34_B v) k34_2_lv)).set 40 u).set 77 (b_c 4 (S))))
  | 0, i, e, o, ho, hz => by
    have e0 : i = 4 := by omega
    subst e0
    obtain ⟨y, hy⟩ := hz.resolve_left (Nat.lt_irrefl _)
    subst hy
    let w : Nat → Int32 := fun j => if j = 60 then Int32.ofNat (nb_c S 4) else if j = 62 then y else v j
    have hw : ∀ i, i < 60 → w i = v i := fun i h => by show (if i = 60 then _ else if i = 62 then _ else _) = _; rw [if_neg (by omega), if_neg (by omega)]
    have hg : ∀ j, 18 ≤ j → j < 60 → (e_B (k34_f [a0, Int32.ofNat 2, Int32.ofNat k, a3, a4, a5] 0 w) 64 [(0, .retAddr 60, .int 1, .retAddr 64)]).2 j = (k34_B v).2 j := fun j h1 h2 => (k34_ag (hi := 60) (by decide) j h1 h2).trans (hw j h2)
    have a1 := k34_2_g1 (e_B (k34_f [a0, Int32.ofNat 2, Int32.ofNat k, a3, a4, a5] 0 w) 64 [(0, .retAddr 60, .int 1, .retAddr 64)]) hG
    rw [e_hc hg k34_2_rsk, e_hc hg k34_2_lvk] at a1
    exact q_preg (i := 40) (j := 77) (G := G) (n := 79) (B := (e_B (k34_f [a0, Int32.ofNat 2, Int32.ofNat k, a3, a4, a5] 0 w) 64 [(0, .retAddr 60, .int 1, .retAddr 64)])) (F := []) k34_hx (fun _ h => nomatch h) k34_2_tz (by decide) (by decide) (by decide) (by decide) rfl rfl rfl rfl rfl rfl a1 a1 (r_iret (p1 := 0) (p2 := 0) (p3 := 0) (by decide +kernel) rfl)
  | j + 1, i, e, o, ho, hz => by
    refine k34_2_kt v hG (by omega) o ho ?_
    exact k34_2_kl v hG j (i + 1) (by omega) _ (Or.inr ⟨_, rfl⟩) (Or.inr ⟨_, rfl⟩)
theorem k34_2_L1 {a0 a3 a4 a5 : Int32} {k : Nat} {u : c_Cell} (hk : 2 * k < 2) : ∀ j n, n + j = 4 → ∀ (v : Nat → Int32) (G : c_Hp), m_told G → ∃ (v2 : Nat → Int32) (G2 : c_Hp), m_told G2 ∧ G2.length ≤ G.length + 2 * j ∧ c_msz G2 ≤ c_msz G + 4 * j ∧ v2 35 = v 35 ∧ ∀ r, c_T [a0, Int32.ofNat 2, Int32.ofNat k, a3, a4, a5] c_m130 71 [some (.ref 58), some (.int 2), some (.int (Int32.ofNat k)), some (.ref 77), some (.ref 78), some (.int (Int32.ofNat 4)), some (.int (v2 61)), some (.ref (80 + (G2).length)), some (.int (v2 62)), none] [] (((s_h (k34_B v2) k34_2_rs0 ++ (G2 ++ s_h (k34_B v2) k34_2_lv)).set 40 u).set 77 (b_c 4 (nb_S 2 k 4))) r → c_T [a0, Int32.ofNat 2, Int32.ofNat k, a3, a4, a5] c_m130 71 [some (.ref 58), some (.int 2), some (.int (Int32.ofNat k)), some (.ref 77), some (.ref 78), some (.int (Int32.ofNat n)), some (.int (v 61)), some (.ref (80 + (G).length)), some (.int (v 62)), none] [] (((s_h (k34_B v) k34_2_rs0 ++ (G ++ s_h (k34_B v) k34_2_lv)).set 40 u).set 77 (b_c 4 (nb_S 2 k n))) r
  | 0, n, e, v, G, hG => by
    have e0 : n = 4 := by omega
    subst e0
    exact ⟨v, G, hG, Nat.le_refl _, Nat.le_refl _, rfl, fun r k => k⟩
  | j + 1, n, e, v, G, hG => by
    obtain ⟨v1, G1, g1, l1, m1, t1, h1⟩ := k34_2_R1 (a0 := a0) (a3 := a3) (a4 := a4) (a5 := a5) (n := n) (S := nb_S 2 k n) (u := u) hk (by omega) v G hG
    obtain ⟨v2, G2, g2, l2, m2, t2, h2⟩ := k34_2_L1 (a0 := a0) (a3 := a3) (a4 := a4) (a5 := a5) (u := u) hk j (n + 1) (by omega) v1 G1 g1
    exact ⟨v2, G2, g2, by omega, by omega, t2.trans t1, fun r k => h1 r (h2 r k)⟩
theorem k34_2_L0 {a0 a3 a4 a5 : Int32} {k : Nat} {u : c_Cell} (hk : 2 * k < 2) (hk6 : k < 6) : ∀ j n, n + j = 4 → n ≤ 2 ^ k - 1 → ∀ (v : Nat → Int32), ∃ (v2 : Nat → Int32) (G2 : c_Hp), m_told G2 ∧ G2.length ≤ 2 * j ∧ c_msz G2 ≤ 4 * j ∧ v2 35 = v 35 ∧ ∀ r, c_T [a0, Int32.ofNat 2, Int32.ofNat k, a3, a4, a5] c_m130 71 [some (.ref 58), some (.int 2), some (.int (Int32.ofNat k)), some (.ref 77), some (.ref 78), some (.int (Int32.ofNat 4)), some (.int (v2 61)), some (.ref (80 + (G2).length)), some (.int (v2 62)), none] [] (((s_h (k34_B v2) k34_2_rs0 ++ (G2 ++ s_h (k34_B v2) k34_2_lv)).set 40 u).set 77 (b_c 4 (nb_S 2 k 4))) r → c_T [a0, Int32.ofNat 2, Int32.ofNat k, a3, a4, a5] c_m130 71 [some (.ref 58), some (.int 2), some (.int (Int32.ofNat k)), some (.ref 77), some (.ref 78), some (.int (Int32.ofNat n)), none, none, none, none] [] (((s_h (k34_B v) k34_2_rs0).set 40 u).set 77 (b_c 4 (nb_S 2 k n))) r
  | 0, n, e, hn, v => by
    have h1 : 2 ^ k ≤ 2 ^ 2 := Nat.pow_le_pow_right (by decide) (by omega)
    have h2 : (2 : Nat) ^ 2 = 4 := by decide
    have h3 : 0 < 2 ^ k := Nat.pow_pos (by decide)
    omega
  | j + 1, n, e, hn, v => by
    obtain ⟨h1, h2⟩ := k34_2_R0 (a0 := a0) (a3 := a3) (a4 := a4) (a5 := a5) (n := n) (S := nb_S 2 k n) (u := u) hk (by omega) v
    by_cases hp : nb_pop 12 n = k
    · obtain ⟨v1, t1, h1⟩ := h1 hp
      obtain ⟨v2, G2, g2, l2, m2, t2, h3⟩ := k34_2_L1 (a0 := a0) (a3 := a3) (a4 := a4) (a5 := a5) (u := u) hk j (n + 1) (by omega) v1 [] (fun _ => rfl)
      exact ⟨v2, G2, g2, by rw [List.length_nil] at l2; omega, by rw [show c_msz [] = 0 from rfl] at m2; omega, t2.trans t1, fun r k => h1 r (h3 r k)⟩
    · have hne : n ≠ 2 ^ k - 1 := fun h => hp (by rw [h]; exact nb_ones k hk6)
      obtain ⟨v2, G2, g2, l2, m2, t2, h3⟩ := k34_2_L0 (a0 := a0) (a3 := a3) (a4 := a4) (a5 := a5) (u := u) hk hk6 j (n + 1) (by omega) (by omega) v
      refine ⟨v2, G2, g2, by omega, by omega, t2, fun r kk => h2 hp r ?_⟩
      have h4 := h3 r kk
      rw [show nb_S 2 k (n + 1) = nb_S 2 k n from by show _ ||| nb_D 2 k 0 n = _; rw [show nb_D 2 k 0 n = 0 from if_neg hp, Nat.or_zero]] at h4
      exact h4
theorem k34_2_ref {a0 a3 a4 a5 : Int32} {k : Nat} {u : c_Cell} (hk : 2 * k < 2) (hk6 : k < 6) (v : Nat → Int32) : ∃ (v2 : Nat → Int32) (G2 : c_Hp), m_told G2 ∧ G2.length ≤ 8 ∧ c_msz G2 ≤ 16 ∧ v2 35 = v 35 ∧ c_T [a0, Int32.ofNat 2, Int32.ofNat k, a3, a4, a5] c_m130 71 [some (.ref 58), some (.int 2), some (.int (Int32.ofNat k)), some (.ref 77), some (.ref 78), some (.int (Int32.ofNat 0)), none, none, none, none] [] (((s_h (k34_B v) k34_2_rs0).set 40 u).set 77 (b_c 4 (0))) (.inl (some (.int (Int32.ofNat (nb_c (nb_S 2 k 4) 4)))), (((s_h (k34_B v2) k34_2_rs0 ++ (G2 ++ s_h (k34_B v2) k34_2_lv)).set 40 u).set 77 (b_c 4 (nb_S 2 k 4)))) := by
  obtain ⟨v2, G2, g2, l2, m2, t2, h3⟩ := k34_2_L0 (a0 := a0) (a3 := a3) (a4 := a4) (a5 := a5) (u := u) hk hk6 4 0 rfl (Nat.zero_le _) v
  refine ⟨v2, G2, g2, l2, m2, t2, h3 _ ?_⟩
  have hg : ∀ j, 18 ≤ j → j < 60 → (e_B (k34_f [a0, Int32.ofNat 2, Int32.ofNat k, a3, a4, a5] 0 v2) 64 []).2 j = (k34_B v2).2 j := k34_ag (hi := 60) (by decide)
  have a1 := k34_2_g1 (e_B (k34_f [a0, Int32.ofNat 2, Int32.ofNat k, a3, a4, a5] 0 v2) 64 []) g2
  rw [e_hc hg k34_2_rsk, e_hc hg k34_2_lvk] at a1
  have e80 : g_p 79 G2.length 80 = 80 + G2.length := by unfold g_p; rw [if_neg (by decide)]
  have hl : 77 < ((s_h (k34_B v2) k34_2_rs0 ++ (G2 ++ s_h (k34_B v2) k34_2_lv)).set 40 u).length := by
    rw [List.length_set, List.length_append, s_lenH]
    exact Nat.lt_of_lt_of_le (by decide : 77 < k34_2_rs0.length) (Nat.le_add_right _ _)
  refine q_preg (i := 40) (j := 77) (G := G2) (n := 79) (B := (e_B (k34_f [a0, Int32.ofNat 2, Int32.ofNat k, a3, a4, a5] 0 v2) 64 [])) (F := []) (K := [some (.ref 58), some (.int 2), some (.int (Int32.ofNat k)), some (.ref 77), some (.ref 78), some (.int (Int32.ofNat 4)), some (.int (v2 61)), some (.ref (80 + (G2).length)), some (.int (v2 62)), none]) k34_hx (fun _ h => nomatch h) k34_2_p (by decide) (by decide) (by decide) (by decide) rfl rfl (by rw [← e80]; rfl) rfl rfl rfl a1 a1 ?_
  refine q_alen (p1 := 0) (p2 := 0) (p3 := 0) (by decide +kernel) rfl hl ?_
  refine q_preg (i := 40) (j := 77) (G := G2) (n := 79) (B := (e_B (k34_f [a0, Int32.ofNat 2, Int32.ofNat k, a3, a4, a5] 0 v2) 64 [])) (F := []) k34_hx (fun _ h => nomatch h) k34_2_p2 (by decide) (by decide) (by decide) (by decide) rfl rfl rfl rfl rfl rfl a1 a1 ?_
  exact k34_2_kl v2 g2 4 0 rfl none (Or.inl rfl) (Or.inl (by decide))
def k34_2_xs : List Value := [.retAddr 10, .int 2, .retAddr 12, .retAddr 13, .retAddr 14, .retAddr 15]
def k34_2_hs7 : c_Hp := [some (.inl (10, [.ref 1, .ref 4, .ref 23, .ref 25, .ref 28, .ref 31, .ref 34, .ref 37, .ref 39, .ref 41, .ref 52, .ref 55])),
  some (.inl (6, [.ref 2, .ref 3, .int 10, .int 0])),
  some (.inr (0, List.replicate 60 (.int 1))),
  some (.inr (0, List.replicate 60 (.int 0))),
  some (.inl (4, [.ref 5, .ref 14, .int 0, .int 0])),
  some (.inr (2, [.ref 6, .ref 7, .ref 8, .ref 9, .ref 10, .ref 11, .ref 12, .ref 13])),
  some (.inr (0, List.replicate 60 (.int 0))),
  some (.inr (0, List.replicate 60 (.int 0))),
  some (.inr (0, List.replicate 60 (.int 0))),
  some (.inr (0, List.replicate 60 (.int 0))),
  some (.inr (0, List.replicate 60 (.int 0))),
  some (.inr (0, List.replicate 60 (.int 0))),
  some (.inr (0, List.replicate 60 (.int 0))),
  some (.inr (0, List.replicate 60 (.int 0))),
  some (.inr (2, [.ref 15, .ref 16, .ref 17, .ref 18, .ref 19, .ref 20, .ref 21, .ref 22])),
  some (.inr (0, List.replicate 60 (.int 0))),
  some (.inr (0, List.replicate 60 (.int 0))),
  some (.inr (0, List.replicate 60 (.int 0))),
  some (.inr (0, List.replicate 60 (.int 0))),
  some (.inr (0, List.replicate 60 (.int 0))),
  some (.inr (0, List.replicate 60 (.int 0))),
  some (.inr (0, List.replicate 60 (.int 0))),
  some (.inr (0, List.replicate 60 (.int 0))),
  some (.inl (0, [.ref 24, .retAddr 18])),
  some (.inr (0, ([.retAddr 22, .retAddr 23] ++ (List.replicate 58 (.int 0))))),
  some (.inl (3, [.ref 26, .ref 27, .int 0])),
  some (.inr (0, List.replicate 120 (.int 0))),
  some (.inr (0, List.replicate 60 (.int 0))),
  some (.inl (7, [.ref 29, .ref 30, .int 0, .int 0])),
  some (.inr (0, List.replicate 60 (.int 0))),
  some (.inr (0, List.replicate 60 (.int 0))),
  some (.inl (8, [.ref 32, .ref 33])),
  some (.inr (0, [.int 0, .int 0, .int 0])),
  some (.inr (0, [.int 0, .int 0, .int 0])),
  some (.inl (1, [.ref 35, .ref 36, .int 0])),
  some (.inr (0, List.replicate 5 (.int 0))),
  some (.inr (0, List.replicate 5 (.int 0))),
  some (.inl (9, [.ref 38, .int 0])),
  some (.inr (0, List.replicate 6 (.int 0))),
  some (.inl (2, [.ref 40])),
  none,
  some (.inl (5, [.ref 42, .ref 51])),
  some (.inr (2, [.ref 43, .ref 44, .ref 45, .ref 46, .ref 47, .ref 48, .ref 49, .ref 50])),
  some (.inr (0, List.replicate 6 (.int 0))),
  some (.inr (0, List.replicate 6 (.int 0))),
  some (.inr (0, List.replicate 6 (.int 0))),
  some (.inr (0, List.replicate 6 (.int 0))),
  some (.inr (0, List.replicate 6 (.int 0))),
  some (.inr (0, List.replicate 6 (.int 0))),
  some (.inr (0, List.replicate 6 (.int 0))),
  some (.inr (0, List.replicate 6 (.int 0))),
  some (.inr (0, List.replicate 6 (.int 0))),
  some (.inl (6, [.ref 53, .ref 54, .retAddr 19, .retAddr 20])),
  some (.inr (0, List.replicate 60 (.retAddr 21))),
  some (.inr (0, ([.retAddr 22, .retAddr 23] ++ (List.replicate 58 (.int 0))))),
  some (.inl (6, [.ref 56, .ref 57, .int 1, .int 0])),
  some (.inr (0, List.replicate 60 (.int 0))),
  some (.inr (0, List.replicate 60 (.int 0))),
  some (.inl (11, [.ref 59, .ref 60, .int 0, .ref 61, .ref 62, .ref 63, .ref 64, .int 0, .ref 65, .int 0, .ref 66, .int 0, .int 0])),
  some (.inr (0, List.replicate 10 (.int 1))),
  some (.inr (0, List.replicate 10 (.int 0))),
  some (.inl (12, [.int 0, .retAddr 1, .int 0])),
  some (.inl (12, [.int 0, .retAddr 1, .int 0])),
  some (.inr (0, List.replicate 5 (.int 0))),
  some (.inr (0, List.replicate 5 (.int 0))),
  some (.inr (0, List.replicate 6 (.int 0))),
  some (.inr (2, [.ref 67, .ref 68, .ref 69, .ref 70, .ref 71, .ref 72, .ref 73, .ref 74])),
  some (.inr (0, List.replicate 6 (.int 0))),
  some (.inr (0, List.replicate 6 (.int 0))),
  some (.inr (0, List.replicate 6 (.int 0))),
  some (.inr (0, List.replicate 6 (.int 0))),
  some (.inr (0, List.replicate 6 (.int 0))),
  some (.inr (0, List.replicate 6 (.int 0))),
  some (.inr (0, List.replicate 6 (.int 0))),
  some (.inr (0, List.replicate 6 (.int 0))),
  some (.inr (1, [.double (UInt64.ofNat (c_M0 + 35))])),
  some (.inr (5, [.double 0]))]
def k34_2_rs0n : c_Hp := [some (.inl (10, [.ref 1, .ref 4, .ref 23, .ref 25, .ref 28, .ref 31, .ref 34, .ref 37, .ref 39, .ref 41, .ref 52, .ref 55])),
  some (.inl (6, [.ref 2, .ref 3, .int 10, .int 0])),
  some (.inr (0, List.replicate 60 (.int 1))),
  some (.inr (0, List.replicate 60 (.int 0))),
  some (.inl (4, [.ref 5, .ref 14, .int 0, .int 0])),
  some (.inr (2, [.ref 6, .ref 7, .ref 8, .ref 9, .ref 10, .ref 11, .ref 12, .ref 13])),
  some (.inr (0, List.replicate 60 (.int 0))),
  some (.inr (0, List.replicate 60 (.int 0))),
  some (.inr (0, List.replicate 60 (.int 0))),
  some (.inr (0, List.replicate 60 (.int 0))),
  some (.inr (0, List.replicate 60 (.int 0))),
  some (.inr (0, List.replicate 60 (.int 0))),
  some (.inr (0, List.replicate 60 (.int 0))),
  some (.inr (0, List.replicate 60 (.int 0))),
  some (.inr (2, [.ref 15, .ref 16, .ref 17, .ref 18, .ref 19, .ref 20, .ref 21, .ref 22])),
  some (.inr (0, List.replicate 60 (.int 0))),
  some (.inr (0, List.replicate 60 (.int 0))),
  some (.inr (0, List.replicate 60 (.int 0))),
  some (.inr (0, List.replicate 60 (.int 0))),
  some (.inr (0, List.replicate 60 (.int 0))),
  some (.inr (0, List.replicate 60 (.int 0))),
  some (.inr (0, List.replicate 60 (.int 0))),
  some (.inr (0, List.replicate 60 (.int 0))),
  some (.inl (0, [.ref 24, .retAddr 18])),
  some (.inr (0, ([.retAddr 22, .retAddr 23] ++ (List.replicate 58 (.int 0))))),
  some (.inl (3, [.ref 26, .ref 27, .int 0])),
  some (.inr (0, List.replicate 120 (.int 0))),
  some (.inr (0, List.replicate 60 (.int 0))),
  some (.inl (7, [.ref 29, .ref 30, .int 0, .int 0])),
  some (.inr (0, List.replicate 60 (.int 0))),
  some (.inr (0, List.replicate 60 (.int 0))),
  some (.inl (8, [.ref 32, .ref 33])),
  some (.inr (0, [.int 0, .int 0, .int 0])),
  some (.inr (0, [.int 0, .int 0, .int 0])),
  some (.inl (1, [.ref 35, .ref 36, .int 0])),
  some (.inr (0, List.replicate 5 (.int 0))),
  some (.inr (0, List.replicate 5 (.int 0))),
  some (.inl (9, [.ref 38, .int 0])),
  some (.inr (0, List.replicate 6 (.int 0))),
  some (.inl (2, [.ref 40])),
  none,
  some (.inl (5, [.ref 42, .ref 51])),
  some (.inr (2, [.ref 43, .ref 44, .ref 45, .ref 46, .ref 47, .ref 48, .ref 49, .ref 50])),
  some (.inr (0, List.replicate 6 (.int 0))),
  some (.inr (0, List.replicate 6 (.int 0))),
  some (.inr (0, List.replicate 6 (.int 0))),
  some (.inr (0, List.replicate 6 (.int 0))),
  some (.inr (0, List.replicate 6 (.int 0))),
  some (.inr (0, List.replicate 6 (.int 0))),
  some (.inr (0, List.replicate 6 (.int 0))),
  some (.inr (0, List.replicate 6 (.int 0))),
  some (.inr (0, List.replicate 6 (.int 0))),
  some (.inl (6, [.ref 53, .ref 54, .retAddr 19, .retAddr 20])),
  some (.inr (0, List.replicate 60 (.retAddr 21))),
  some (.inr (0, ([.retAddr 22, .retAddr 23] ++ (List.replicate 58 (.int 0))))),
  some (.inl (6, [.ref 56, .ref 57, .int 1, .int 0])),
  some (.inr (0, List.replicate 60 (.int 0))),
  some (.inr (0, List.replicate 60 (.int 0))),
  some (.inl (11, [.ref 59, .ref 60, .int 0, .ref 61, .ref 62, .ref 63, .ref 64, .int 0, .ref 65, .int 0, .ref 66, .int 0, .int 0])),
  some (.inr (0, List.replicate 10 (.int 1))),
  some (.inr (0, List.replicate 10 (.int 0))),
  some (.inl (12, [.int 0, .retAddr 1, .int 0])),
  some (.inl (12, [.int 0, .retAddr 1, .int 0])),
  some (.inr (0, List.replicate 5 (.int 0))),
  some (.inr (0, List.replicate 5 (.int 0))),
  some (.inr (0, List.replicate 6 (.int 0))),
  some (.inr (2, [.ref 67, .ref 68, .ref 69, .ref 70, .ref 71, .ref 72, .ref 73, .ref 74])),
  some (.inr (0, List.replicate 6 (.int 0))),
  some (.inr (0, List.replicate 6 (.int 0))),
  some (.inr (0, List.replicate 6 (.int 0))),
  some (.inr (0, List.replicate 6 (.int 0))),
  some (.inr (0, List.replicate 6 (.int 0))),
  some (.inr (0, List.replicate 6 (.int 0))),
  some (.inr (0, List.replicate 6 (.int 0))),
  some (.inr (0, List.replicate 6 (.int 0))),
  some (.inr (1, [.double (UInt64.ofNat (c_M0 + 35))])),
  some (.inr (5, [.double 0])),
  none,
  some (.inr (0, [.int 1, .int 1]))]
theorem k34_2_A1 : c_pre ([(3, .retAddr 10, .int 63, .int 34)], k34_2_xs) 100 c_m259 18 38 [some (.retAddr 0), some (.ref 0), some (.ref 58), some (.ref 75), some (.ref 76), some (.int 0), none, none, none] [] t_h0 = some (2255, [some (.retAddr 0), some (.ref 0), some (.ref 58), some (.ref 75), some (.ref 76), some (.int 0), none, none, none], [.ref 75, .retAddr 12, .int 2, .ref 0], t_h0) := c_eqR_ok (by decide +kernel)
theorem k34_2_A2 : c_pre ([], k34_2_xs) 100 c_m222 5 0 [some (.ref 0), some (.int 2), some (.retAddr 12), some (.ref 75), none] [] t_h0 = some (5, [some (.ref 0), some (.int 2), some (.retAddr 12), some (.ref 75), none], [.retAddr 12, .int 2, .ref 0, .int 0, .ref 75], t_h0) := c_eqR_ok (by decide +kernel)
theorem k34_2_A3 : c_pre ([(22, .retAddr 12, .int 0, .int 0), (25, .retAddr 12, .int 12, .int 1), (2, .retAddr 12, .int 2, .retAddr 64), (22, .retAddr 64, .int 2, .int 1)], k34_2_xs) 672 c_m35 18 0 [some (.ref 0), some (.int 2), some (.retAddr 12), none] [] t_h0 = some (41, [some (.ref 0), some (.int 2), some (.retAddr 12), some (.int 0)], [], t_h0) := c_eqR_ok (by decide +kernel)
theorem k34_2_A4 : c_pre ([], k34_2_xs) 100 c_m222 4 8 [some (.ref 0), some (.int 2), some (.retAddr 12), some (.ref 75), none] [.retAddr 35, .int 0, .ref 75] k34_2_hs = some (22, [some (.ref 0), some (.int 2), some (.retAddr 12), some (.ref 75), none], [.int 0], k34_2_hs7) := c_eqR_ok (by decide +kernel)
theorem k34_2_A5 : c_pre ([], k34_2_xs) 100 c_m259 12 2258 [some (.retAddr 0), some (.ref 0), some (.ref 58), some (.ref 75), some (.ref 76), some (.int 0), none, none, none] [.int 0] k34_2_hs7 = some (2273, [some (.retAddr 0), some (.ref 0), some (.ref 58), some (.ref 75), some (.ref 76), some (.int 0), some (.int 0), none, none], [.retAddr 12, .int 2, .ref 58], k34_2_hs7) := c_eqR_ok (by decide +kernel)
theorem k34_2_A6 : c_pre ([(22, .retAddr 12, .int 0, .int 0), (24, .retAddr 12, .int 12, .int 0), (2, .int 2, .retAddr 12, .retAddr 64), (22, .retAddr 64, .int 2, .int 1)], k34_2_xs) 153 c_m130 36 0 [some (.ref 58), some (.int 2), some (.retAddr 12), none, none, none, none, none, none, none] [] k34_2_hs7 = some (71, [some (.ref 58), some (.int 2), some (.retAddr 12), some (.ref 77), some (.ref 78), some (.int 0), none, none, none, none], [], (k34_2_rs0n.set 77 (some (.inr (4, List.replicate 4 (.int 0)))))) := c_eqR_ok (by decide +kernel)
theorem k34_2_A7 : c_pre ([], k34_2_xs) 100 c_m259 24 2276 [some (.retAddr 0), some (.ref 0), some (.ref 58), some (.ref 75), some (.ref 76), some (.int 0), some (.int 0), none, none] [.retAddr 35] k34_2_rs1 = some (2569, [some (.retAddr 0), some (.ref 0), some (.ref 58), some (.ref 75), some (.ref 76), some (.int 6), some (.int 0), some (.retAddr 35), none], [.int 1], k34_2_rs1) := c_eqR_ok (by decide +kernel)
theorem k34_2_C1 : c_callee c_m259 2255 [.ref 75, .retAddr 12, .int 2, .ref 0] t_h0 = some (222, [some (.ref 0), some (.int 2), some (.retAddr 12), some (.ref 75), none], []) := c_eqC_ok (by decide +kernel)
theorem k34_2_C2 : c_callee c_m222 5 [.retAddr 12, .int 2, .ref 0, .int 0, .ref 75] t_h0 = some (35, [some (.ref 0), some (.int 2), some (.retAddr 12), none], [.int 0, .ref 75]) := c_eqC_ok (by decide +kernel)
theorem k34_2_C3 : c_callee c_m259 2273 [.retAddr 12, .int 2, .ref 58] k34_2_hs7 = some (130, [some (.ref 58), some (.int 2), some (.retAddr 12), none, none, none, none, none, none, none], []) := c_eqC_ok (by decide +kernel)
theorem k34_2_C4 : c_callee c_m35 100 [.ref 39] k34_2_hs = some (150, [some (.ref 39), none, none, none, none, none, none], []) := c_eqC_ok (by decide +kernel)
theorem k34_2_h7k : e_hk 18 36 k34_2_hs7 = true := by decide +kernel
def k34_2_v0 : Nat → Int32 := fun i => if i = 19 then 1 else 0
theorem k34_2_z0 : t_h0 = (s_h (k34_B k34_2_v0) k34_2_hs).set 40 (some (.inr (1, List.replicate 64 (.long 0)))) := rfl
def k34_2_q3 : Nat → Value := fun i => ([.retAddr 18, .retAddr 19, .retAddr 20, .retAddr 21, .retAddr 22, .retAddr 23, .retAddr 24, .retAddr 25, .retAddr 26, .retAddr 27, .retAddr 28, .retAddr 29, .retAddr 30, .retAddr 31, .retAddr 32, .retAddr 33, .int 0, .retAddr 35, .retAddr 36, .retAddr 37, .retAddr 38, .retAddr 39, .retAddr 40, .retAddr 41, .retAddr 42, .retAddr 43, .retAddr 44, .retAddr 45, .retAddr 46, .retAddr 47, .retAddr 48, .retAddr 49, .retAddr 50, .retAddr 51, .retAddr 52, .retAddr 53, .retAddr 54, .retAddr 55, .retAddr 56, .retAddr 57, .retAddr 58, .retAddr 59, .retAddr 60, .retAddr 61, .retAddr 62, .retAddr 63][i - 18]?).getD (.retAddr i)
theorem k34_2_rn (B : c_B) : s_h B k34_2_rs0n = s_h (k34_B (z_f B k34_2_q3)) k34_2_rs0 := z_h B k34_2_q3 (by decide +kernel) (by decide +kernel)
theorem k34_2_xx {a0 a3 a4 a5 : Int32} {k : Nat} {v : Nat → Int32} {D : List c_F} : k34_2_xs.map (s_v (e_B (k34_f [a0, Int32.ofNat 2, Int32.ofNat k, a3, a4, a5] 0 v) 64 D)) = [a0, Int32.ofNat 2, Int32.ofNat k, a3, a4, a5].map Value.int := rfl
theorem k34_2_FA {a0 a3 a4 a5 : Int32} {k c : Nat} {v1 : Nat → Int32} (hk : 2 * k < 2) (hk6 : k < 6) (hcnt : ∀ v : Nat → Int32, c_T [a0, Int32.ofNat 2, Int32.ofNat k, a3, a4, a5] c_m150 0 [some (.ref 39), none, none, none, none, none, none] [] ((s_h (k34_B v) k34_2_hs).set 40 (w_c (nb_S 2 k 4))) (.inl (some (.int (Int32.ofNat c))), (s_h (k34_B v) k34_2_hs).set 40 (w_c (nb_S 2 k 4)))) (hcl : ∀ r, c_T [a0, Int32.ofNat 2, Int32.ofNat k, a3, a4, a5] c_m35 41 [some (.ref 0), some (.int 2), some (.int (Int32.ofNat k)), some (.int (Int32.ofNat 4))] [] ((s_h (k34_B v1) k34_2_hs).set 40 (w_c (nb_S 2 k 4))) r → c_T [a0, Int32.ofNat 2, Int32.ofNat k, a3, a4, a5] c_m35 41 [some (.ref 0), some (.int 2), some (.int (Int32.ofNat k)), some (.int (Int32.ofNat 0))] [] ((s_h (k34_B k34_2_v0) k34_2_hs).set 40 (w_c (nb_S 2 k 0))) r) : c_T [a0, Int32.ofNat 2, Int32.ofNat k, a3, a4, a5] c_m35 0 [some (.ref 0), some (.int 2), some (.int (Int32.ofNat k)), none] [] t_h0 (.inl (some (.int (Int32.ofNat c))), (s_h (k34_B v1) k34_2_hs).set 40 (w_c (nb_S 2 k 4))) := by
  have H := e_Bf (f := k34_f [a0, Int32.ofNat 2, Int32.ofNat k, a3, a4, a5] 0 k34_2_v0) (n0 := 64) (D := [(2, .retAddr 12, .int 2, .retAddr 64)]) (by decide) (by decide +kernel)
  have h64 : (e_B (k34_f [a0, Int32.ofNat 2, Int32.ofNat k, a3, a4, a5] 0 k34_2_v0) 64 [(2, .retAddr 12, .int 2, .retAddr 64)]).2 64 = Int32.ofNat (2 * k) := by
    have h1 : (e_B (k34_f [a0, Int32.ofNat 2, Int32.ofNat k, a3, a4, a5] 0 k34_2_v0) 64 [(2, .retAddr 12, .int 2, .retAddr 64)]).2 12 * 2 = (e_B (k34_f [a0, Int32.ofNat 2, Int32.ofNat k, a3, a4, a5] 0 k34_2_v0) 64 [(2, .retAddr 12, .int 2, .retAddr 64)]).2 64 := Option.some.inj (e_ri (e_at H 0 rfl))
    rw [← h1, Nat.mul_comm, Int32.ofNat_mul]
    rfl
  have F1 : ∀ f ∈ ([(22, .retAddr 12, .int 0, .int 0), (25, .retAddr 12, .int 12, .int 1), (2, .retAddr 12, .int 2, .retAddr 64), (22, .retAddr 64, .int 2, .int 1)] : List c_F), c_hold (e_B (k34_f [a0, Int32.ofNat 2, Int32.ofNat k, a3, a4, a5] 0 k34_2_v0) 64 [(2, .retAddr 12, .int 2, .retAddr 64)]) f := (List.forall_mem_cons.mpr ⟨o_lt0 (p := k) (q := 0) rfl rfl (by omega) (by decide) (by omega), (List.forall_mem_cons.mpr ⟨o_le1 (p := k) (q := 12) rfl rfl (by omega) (by decide) (by omega), (List.forall_mem_cons.mpr ⟨e_at H 0 rfl, (List.forall_mem_cons.mpr ⟨o_lt1 (p := 2 * k) (q := 2) (congrArg some h64) rfl (by omega) (by decide) hk, (fun _ h => nomatch h)⟩)⟩)⟩)⟩)
  have hH : s_h (e_B (k34_f [a0, Int32.ofNat 2, Int32.ofNat k, a3, a4, a5] 0 v1) 64 []) k34_2_hs = s_h (k34_B v1) k34_2_hs := e_hc (k34_ag (by decide)) k34_2_hsk
  refine q_pre0 (B := (e_B (k34_f [a0, Int32.ofNat 2, Int32.ofNat k, a3, a4, a5] 0 k34_2_v0) 64 [(2, .retAddr 12, .int 2, .retAddr 64)])) (K1 := [some (.ref 0), some (.int 2), some (.int (Int32.ofNat k)), some (.int (Int32.ofNat 0))]) (t1 := []) k34_2_xx F1 k34_2_A3 rfl rfl rfl rfl (k34_h0 _) (k34_h0 _) ?_
  rw [k34_2_z0, ← w_0]
  refine hcl _ ?_
  refine q_pre (B := (e_B (k34_f [a0, Int32.ofNat 2, Int32.ofNat k, a3, a4, a5] 0 v1) 64 [])) (F := []) (K1 := [some (.ref 0), some (.int 2), some (.int (Int32.ofNat k)), some (.int (Int32.ofNat 4))]) (t1 := [.ref 39]) k34_hx (fun _ h => nomatch h) k34_2_e rfl rfl rfl rfl rfl hH hH ?_
  have hc : c_callee c_m35 100 [.ref 39] (s_h (e_B (k34_f [a0, Int32.ofNat 2, Int32.ofNat k, a3, a4, a5] 0 v1) 64 []) k34_2_hs) = some (150, [some (.ref 39), none, none, none, none, none, none], []) := c_callee_s (B := (e_B (k34_f [a0, Int32.ofNat 2, Int32.ofNat k, a3, a4, a5] 0 v1) 64 [])) k34_2_C4
  rw [hH] at hc
  refine c_Run.call (c_callee_p (s_nth_none rfl) hc) rfl (hcnt v1) ?_
  exact r_iret (p1 := 0) (p2 := 0) (p3 := 0) (by decide +kernel) rfl
theorem k34_2_FB {a0 a3 a4 a5 : Int32} {k c : Nat} {v1 v3 : Nat → Int32} (h3 : v3 35 = Int32.ofNat c) (h31 : ∀ i, i < 34 → v3 i = v1 i) (hA : c_T [a0, Int32.ofNat 2, Int32.ofNat k, a3, a4, a5] c_m35 0 [some (.ref 0), some (.int 2), some (.int (Int32.ofNat k)), none] [] t_h0 (.inl (some (.int (Int32.ofNat c))), (s_h (k34_B v1) k34_2_hs).set 40 (w_c (nb_S 2 k 4)))) : c_T [a0, Int32.ofNat 2, Int32.ofNat k, a3, a4, a5] c_m222 0 [some (.ref 0), some (.int 2), some (.int (Int32.ofNat k)), some (.ref 75), none] [] t_h0 (.inl (some (.int 0)), (s_h (k34_B v3) k34_2_hs7).set 40 (w_c (nb_S 2 k 4))) := by
  have hgl : ∀ j, 18 ≤ j → j < 34 → (e_B (k34_f [a0, Int32.ofNat 2, Int32.ofNat k, a3, a4, a5] 0 v3) 64 []).2 j = (k34_B v1).2 j := fun j h1 h2 => (k34_ag (hi := 34) (by decide) j h1 h2).trans (h31 j h2)
  have hg7 : s_h (e_B (k34_f [a0, Int32.ofNat 2, Int32.ofNat k, a3, a4, a5] 0 v3) 64 []) k34_2_hs7 = s_h (k34_B v3) k34_2_hs7 := e_hc (k34_ag (by decide)) k34_2_h7k
  refine q_pre0 (B := (e_B (k34_f [a0, Int32.ofNat 2, Int32.ofNat k, a3, a4, a5] 0 k34_2_v0) 64 [])) (F := []) (K1 := [some (.ref 0), some (.int 2), some (.int (Int32.ofNat k)), some (.ref 75), none]) (t1 := [.int (Int32.ofNat k), .int 2, .ref 0, .int 0, .ref 75]) k34_2_xx (fun _ h => nomatch h) k34_2_A2 rfl rfl rfl rfl (k34_h0 _) (k34_h0 _) ?_
  have hc : c_callee c_m222 5 [.int (Int32.ofNat k), .int 2, .ref 0, .int 0, .ref 75] (s_h (e_B (k34_f [a0, Int32.ofNat 2, Int32.ofNat k, a3, a4, a5] 0 k34_2_v0) 64 []) t_h0) = some (35, [some (.ref 0), some (.int 2), some (.int (Int32.ofNat k)), none], [.int 0, .ref 75]) := c_callee_s (B := (e_B (k34_f [a0, Int32.ofNat 2, Int32.ofNat k, a3, a4, a5] 0 k34_2_v0) 64 [])) k34_2_C2
  rw [k34_h0] at hc
  refine c_Run.call hc rfl hA ?_
  refine q_pre (B := (e_B (k34_f [a0, Int32.ofNat 2, Int32.ofNat k, a3, a4, a5] 0 v3) 64 [])) (F := []) (t1 := [.int 0]) k34_2_xx (fun _ h => nomatch h) k34_2_A4 rfl rfl rfl (by show [Value.int (v3 35), .int 0, .ref 75] = _; rw [h3]; rfl) rfl (e_hc hgl k34_2_hsk) hg7 ?_
  exact r_iret (p1 := 0) (p2 := 0) (p3 := 0) (by decide +kernel) rfl
theorem k34_2_FR {a0 a3 a4 a5 : Int32} {k c : Nat} {v3 v4 v2 : Nat → Int32} {G2 : c_Hp} (hk : 2 * k < 2) (hk6 : k < 6) (e4 : v4 = z_f (e_B (k34_f [a0, Int32.ofNat 2, Int32.ofNat k, a3, a4, a5] 0 v3) 64 [(2, .int 2, .retAddr 12, .retAddr 64)]) k34_2_q3) (href : c_T [a0, Int32.ofNat 2, Int32.ofNat k, a3, a4, a5] c_m130 71 [some (.ref 58), some (.int 2), some (.int (Int32.ofNat k)), some (.ref 77), some (.ref 78), some (.int (Int32.ofNat 0)), none, none, none, none] [] (((s_h (k34_B v4) k34_2_rs0).set 40 (w_c (nb_S 2 k 4))).set 77 (b_c 4 (0))) (.inl (some (.int (Int32.ofNat c))), (((s_h (k34_B v2) k34_2_rs0 ++ (G2 ++ s_h (k34_B v2) k34_2_lv)).set 40 (w_c (nb_S 2 k 4))).set 77 (b_c 4 (nb_S 2 k 4))))) : c_T [a0, Int32.ofNat 2, Int32.ofNat k, a3, a4, a5] c_m130 0 [some (.ref 58), some (.int 2), some (.int (Int32.ofNat k)), none, none, none, none, none, none, none] [] ((s_h (k34_B v3) k34_2_hs7).set 40 (w_c (nb_S 2 k 4))) (.inl (some (.int (Int32.ofNat c))), (((s_h (k34_B v2) k34_2_rs0 ++ (G2 ++ s_h (k34_B v2) k34_2_lv)).set 40 (w_c (nb_S 2 k 4))).set 77 (b_c 4 (nb_S 2 k 4)))) := by
  have H := e_Bf (f := k34_f [a0, Int32.ofNat 2, Int32.ofNat k, a3, a4, a5] 0 v3) (n0 := 64) (D := [(2, .int 2, .retAddr 12, .retAddr 64)]) (by decide) (by decide +kernel)
  have h64 : (e_B (k34_f [a0, Int32.ofNat 2, Int32.ofNat k, a3, a4, a5] 0 v3) 64 [(2, .int 2, .retAddr 12, .retAddr 64)]).2 64 = Int32.ofNat (2 * k) := by
    have h1 : 2 * (e_B (k34_f [a0, Int32.ofNat 2, Int32.ofNat k, a3, a4, a5] 0 v3) 64 [(2, .int 2, .retAddr 12, .retAddr 64)]).2 12 = (e_B (k34_f [a0, Int32.ofNat 2, Int32.ofNat k, a3, a4, a5] 0 v3) 64 [(2, .int 2, .retAddr 12, .retAddr 64)]).2 64 := Option.some.inj (e_ir (e_at H 0 rfl))
    rw [← h1, Int32.ofNat_mul]
    rfl
  have F1 : ∀ f ∈ ([(22, .retAddr 12, .int 0, .int 0), (24, .retAddr 12, .int 12, .int 0), (2, .int 2, .retAddr 12, .retAddr 64), (22, .retAddr 64, .int 2, .int 1)] : List c_F), c_hold (e_B (k34_f [a0, Int32.ofNat 2, Int32.ofNat k, a3, a4, a5] 0 v3) 64 [(2, .int 2, .retAddr 12, .retAddr 64)]) f := (List.forall_mem_cons.mpr ⟨o_lt0 (p := k) (q := 0) rfl rfl (by omega) (by decide) (by omega), (List.forall_mem_cons.mpr ⟨o_gt0 (p := k) (q := 12) rfl rfl (by omega) (by decide) (by omega), (List.forall_mem_cons.mpr ⟨e_at H 0 rfl, (List.forall_mem_cons.mpr ⟨o_lt1 (p := 2 * k) (q := 2) (congrArg some h64) rfl (by omega) (by decide) hk, (fun _ h => nomatch h)⟩)⟩)⟩)⟩)
  have hh : s_h (e_B (k34_f [a0, Int32.ofNat 2, Int32.ofNat k, a3, a4, a5] 0 v3) 64 [(2, .int 2, .retAddr 12, .retAddr 64)]) k34_2_hs7 = s_h (k34_B v3) k34_2_hs7 := e_hc (k34_ag (by decide)) k34_2_h7k
  refine q_pre (B := (e_B (k34_f [a0, Int32.ofNat 2, Int32.ofNat k, a3, a4, a5] 0 v3) 64 [(2, .int 2, .retAddr 12, .retAddr 64)])) (K1 := [some (.ref 58), some (.int 2), some (.int (Int32.ofNat k)), some (.ref 77), some (.ref 78), some (.int (Int32.ofNat 0)), none, none, none, none]) (t1 := []) k34_2_xx F1 k34_2_A6 rfl rfl rfl rfl rfl hh rfl ?_
  rw [q_hset, q_rep, k34_2_rn, ← b_0, List.set_comm _ _ (by decide), ← e4]
  exact href
theorem k34_2_FL {a0 a3 a4 a5 : Int32} {k c : Nat} {v3 v2 : Nat → Int32} {G2 : c_Hp} (h0 : a0 &&& 63 = 34) (hG : m_told G2) (h35 : v2 35 = Int32.ofNat c) (hB : c_T [a0, Int32.ofNat 2, Int32.ofNat k, a3, a4, a5] c_m222 0 [some (.ref 0), some (.int 2), some (.int (Int32.ofNat k)), some (.ref 75), none] [] t_h0 (.inl (some (.int 0)), (s_h (k34_B v3) k34_2_hs7).set 40 (w_c (nb_S 2 k 4)))) (hR : c_T [a0, Int32.ofNat 2, Int32.ofNat k, a3, a4, a5] c_m130 0 [some (.ref 58), some (.int 2), some (.int (Int32.ofNat k)), none, none, none, none, none, none, none] [] ((s_h (k34_B v3) k34_2_hs7).set 40 (w_c (nb_S 2 k 4))) (.inl (some (.int (Int32.ofNat c))), (((s_h (k34_B v2) k34_2_rs0 ++ (G2 ++ s_h (k34_B v2) k34_2_lv)).set 40 (w_c (nb_S 2 k 4))).set 77 (b_c 4 (nb_S 2 k 4))))) : c_T [a0, Int32.ofNat 2, Int32.ofNat k, a3, a4, a5] c_m259 38 t_L0 [] t_h0 (.inl (some (.int 1)), (((s_h (k34_B v2) k34_2_rs0 ++ (G2 ++ s_h (k34_B v2) k34_2_lv)).set 40 (w_c (nb_S 2 k 4))).set 77 (b_c 4 (nb_S 2 k 4)))) := by
  have F1 : ∀ f ∈ ([(3, .retAddr 10, .int 63, .int 34)] : List c_F), c_hold (e_B (k34_f [a0, Int32.ofNat 2, Int32.ofNat k, a3, a4, a5] 0 k34_2_v0) 64 []) f := List.forall_mem_cons.mpr ⟨⟨a0, 63, 34, rfl, rfl, congrArg some h0, rfl⟩, fun _ h => nomatch h⟩
  have hg7 : s_h (e_B (k34_f [a0, Int32.ofNat 2, Int32.ofNat k, a3, a4, a5] 0 v3) 64 []) k34_2_hs7 = s_h (k34_B v3) k34_2_hs7 := e_hc (k34_ag (by decide)) k34_2_h7k
  refine q_pre0 (B := (e_B (k34_f [a0, Int32.ofNat 2, Int32.ofNat k, a3, a4, a5] 0 k34_2_v0) 64 [])) (K1 := [some (.retAddr 0), some (.ref 0), some (.ref 58), some (.ref 75), some (.ref 76), some (.int 0), none, none, none]) (t1 := [.ref 75, .int (Int32.ofNat k), .int 2, .ref 0]) k34_2_xx F1 k34_2_A1 rfl rfl rfl rfl (k34_h0 _) (k34_h0 _) ?_
  have hc : c_callee c_m259 2255 [.ref 75, .int (Int32.ofNat k), .int 2, .ref 0] (s_h (e_B (k34_f [a0, Int32.ofNat 2, Int32.ofNat k, a3, a4, a5] 0 k34_2_v0) 64 []) t_h0) = some (222, [some (.ref 0), some (.int 2), some (.int (Int32.ofNat k)), some (.ref 75), none], []) := c_callee_s (B := (e_B (k34_f [a0, Int32.ofNat 2, Int32.ofNat k, a3, a4, a5] 0 k34_2_v0) 64 [])) k34_2_C1
  rw [k34_h0] at hc
  refine c_Run.call hc rfl hB ?_
  refine q_pre (B := (e_B (k34_f [a0, Int32.ofNat 2, Int32.ofNat k, a3, a4, a5] 0 v3) 64 [])) (F := []) (K1 := [some (.retAddr 0), some (.ref 0), some (.ref 58), some (.ref 75), some (.ref 76), some (.int 0), some (.int 0), none, none]) (t1 := [.int (Int32.ofNat k), .int 2, .ref 58]) k34_2_xx (fun _ h => nomatch h) k34_2_A5 rfl rfl rfl rfl rfl hg7 hg7 ?_
  have hc : c_callee c_m259 2273 [.int (Int32.ofNat k), .int 2, .ref 58] (s_h (e_B (k34_f [a0, Int32.ofNat 2, Int32.ofNat k, a3, a4, a5] 0 v3) 64 []) k34_2_hs7) = some (130, [some (.ref 58), some (.int 2), some (.int (Int32.ofNat k)), none, none, none, none, none, none, none], []) := c_callee_s (B := (e_B (k34_f [a0, Int32.ofNat 2, Int32.ofNat k, a3, a4, a5] 0 v3) 64 [])) k34_2_C3
  rw [hg7] at hc
  refine c_Run.call (c_callee_p (s_nth_none rfl) hc) rfl hR ?_
  have hg : ∀ j, 18 ≤ j → j < 60 → (e_B (k34_f [a0, Int32.ofNat 2, Int32.ofNat k, a3, a4, a5] 0 v2) 64 []).2 j = (k34_B v2).2 j := k34_ag (hi := 60) (by decide)
  have a1 := k34_2_g1 (e_B (k34_f [a0, Int32.ofNat 2, Int32.ofNat k, a3, a4, a5] 0 v2) 64 []) hG
  rw [e_hc hg k34_2_rsk, e_hc hg k34_2_lvk] at a1
  refine q_preg (i := 40) (j := 77) (G := G2) (n := 79) (B := (e_B (k34_f [a0, Int32.ofNat 2, Int32.ofNat k, a3, a4, a5] 0 v2) 64 [])) (F := []) (t1 := [.int 1]) k34_2_xx (fun _ h => nomatch h) k34_2_A7 (by decide) (by decide) (by decide) (by decide) rfl rfl rfl rfl (by show [Value.int (v2 35)] = _; rw [h35]; rfl) rfl a1 a1 ?_
  exact r_iretB (p1 := 0) (p2 := 0) (p3 := 0) (by decide +kernel) rfl
theorem k34_2_all {a0 a3 a4 a5 : Int32} {k c : Nat} (hk : 2 * k < 2) (hk6 : k < 6) (h0 : a0 &&& 63 = 34) (hcnt : ∀ v : Nat → Int32, c_T [a0, Int32.ofNat 2, Int32.ofNat k, a3, a4, a5] c_m150 0 [some (.ref 39), none, none, none, none, none, none] [] ((s_h (k34_B v) k34_2_hs).set 40 (w_c (nb_S 2 k 4))) (.inl (some (.int (Int32.ofNat c))), (s_h (k34_B v) k34_2_hs).set 40 (w_c (nb_S 2 k 4)))) (hC : nb_c (nb_S 2 k 4) 4 = c) : c_Goal [a0, Int32.ofNat 2, Int32.ofNat k, a3, a4, a5] := by
  obtain ⟨v1, hcl⟩ := k34_2_cl (a0 := a0) (a3 := a3) (a4 := a4) (a5 := a5) hk 4 0 rfl k34_2_v0
  have hA := k34_2_FA (a0 := a0) (a3 := a3) (a4 := a4) (a5 := a5) hk hk6 hcnt hcl
  have hB := k34_2_FB (a0 := a0) (a3 := a3) (a4 := a4) (a5 := a5) (v3 := fun i => if i = 35 then Int32.ofNat c else v1 i) (if_pos rfl) (fun i h => if_neg (by omega)) hA
  obtain ⟨v4, e4⟩ : ∃ v4 : Nat → Int32, v4 = z_f (e_B (k34_f [a0, Int32.ofNat 2, Int32.ofNat k, a3, a4, a5] 0 (fun i => if i = 35 then Int32.ofNat c else v1 i)) 64 [(2, .int 2, .retAddr 12, .retAddr 64)]) k34_2_q3 := ⟨_, rfl⟩
  have h45 : v4 35 = Int32.ofNat c := by
    rw [e4]
    rfl
  obtain ⟨v2, G2, hG, hl, hm, h35, href⟩ := k34_2_ref (a0 := a0) (a3 := a3) (a4 := a4) (a5 := a5) (u := (w_c (nb_S 2 k 4))) hk hk6 v4
  rw [hC] at href
  have hR := k34_2_FR (a0 := a0) (a3 := a3) (a4 := a4) (a5 := a5) hk hk6 e4 href
  refine t_goal (k34_2_FL h0 hG (h35.trans h45) hB hR) ?_ ?_
  · rw [List.length_set, List.length_set, List.length_append, List.length_append, s_lenH, s_lenH, show k34_2_rs0.length = 79 from rfl, show k34_2_lv.length = 2 from rfl]
    omega
  · refine Nat.le_trans (q_msz _ _ _) ?_
    refine Nat.le_trans (Nat.add_le_add_right (q_msz _ _ _) _) ?_
    rw [m_szapp, m_szapp, m_szs, m_szs, w_sz, b_sz, show c_msz k34_2_rs0 = 1954 from by decide +kernel, show c_msz k34_2_lv = 4 from by decide +kernel]
    omega
