set_option maxRecDepth 100000
theorem k28_R07 {a0 l a2 a3 a4 a5 : Int32} {v : Int32} : m_to [a0, l, a2, a3, a4, a5] c_m123 (t_h1 (.long v.toInt64)) 35 [some (.ref 58), some (.int l), some (.int 0), some (.int 7), some (.int (Int32.ofNat 0))] 35 [some (.ref 58), some (.int l), some (.int 0), some (.int 7), some (.int (Int32.ofNat 128))] 256 1792 :=
  (k28r7_all0 128 0 rfl)
theorem k28_R17 {a0 l a2 a3 a4 a5 : Int32} {v : Int32} (h : (∀ m, 0 ≤ m → m < 128 → k28c7_P l m)) : m_to [a0, l, a2, a3, a4, a5] c_m123 (t_h1 (.long v.toInt64)) 35 [some (.ref 58), some (.int l), some (.int 1), some (.int 7), some (.int (Int32.ofNat 0))] 35 [some (.ref 58), some (.int l), some (.int 1), some (.int 7), some (.int (Int32.ofNat 128))] 256 1792 :=
  (k28r7_all1 h 128 0 rfl)
theorem k28_RF7 {a0 l a2 a3 a4 a5 : Int32} {v : Int32} (h : ¬ ((∀ m, 0 ≤ m → m < 128 → k28c7_P l m))) : m_to [a0, l, a2, a3, a4, a5] c_m123 (t_h1 (.long v.toInt64)) 35 [some (.ref 58), some (.int l), some (.int 1), some (.int 7), some (.int (Int32.ofNat 0))] 35 [some (.ref 58), some (.int l), some (.int 0), some (.int 7), some (.int (Int32.ofNat 128))] 256 1792 :=
  k28r7_allf 128 0 rfl h
theorem k28_R06 {a0 l a2 a3 a4 a5 : Int32} {v : Int32} : m_to [a0, l, a2, a3, a4, a5] c_m123 (t_h1 (.long v.toInt64)) 35 [some (.ref 58), some (.int l), some (.int 0), some (.int 6), some (.int (Int32.ofNat 0))] 35 [some (.ref 58), some (.int l), some (.int 0), some (.int 7), some (.int (Int32.ofNat 128))] 384 2560 :=
  (k28r6_all0 64 0 rfl).trans ((k28r6_e0s).trans k28_R07)
theorem k28_R16 {a0 l a2 a3 a4 a5 : Int32} {v : Int32} (h : (∀ m, 0 ≤ m → m < 64 → k28c6_P l m) ∧ (∀ m, 0 ≤ m → m < 128 → k28c7_P l m)) : m_to [a0, l, a2, a3, a4, a5] c_m123 (t_h1 (.long v.toInt64)) 35 [some (.ref 58), some (.int l), some (.int 1), some (.int 6), some (.int (Int32.ofNat 0))] 35 [some (.ref 58), some (.int l), some (.int 1), some (.int 7), some (.int (Int32.ofNat 128))] 384 2560 :=
  (k28r6_all1 h.1 64 0 rfl).trans ((k28r6_e1s).trans (k28_R17 h.2))
theorem k28_RF6 {a0 l a2 a3 a4 a5 : Int32} {v : Int32} (h : ¬ ((∀ m, 0 ≤ m → m < 64 → k28c6_P l m) ∧ (∀ m, 0 ≤ m → m < 128 → k28c7_P l m))) : m_to [a0, l, a2, a3, a4, a5] c_m123 (t_h1 (.long v.toInt64)) 35 [some (.ref 58), some (.int l), some (.int 1), some (.int 6), some (.int (Int32.ofNat 0))] 35 [some (.ref 58), some (.int l), some (.int 0), some (.int 7), some (.int (Int32.ofNat 128))] 384 2560 := by
  by_cases h1 : ∀ m, 0 ≤ m → m < 64 → k28c6_P l m
  · exact (k28r6_all1 h1 64 0 rfl).trans ((k28r6_e1s).trans (k28_RF7 (fun h2 => h ⟨h1, h2⟩)))
  · exact (k28r6_allf 64 0 rfl h1).trans ((k28r6_e0s).trans k28_R07)
theorem k28_R05 {a0 l a2 a3 a4 a5 : Int32} {v : Int32} : m_to [a0, l, a2, a3, a4, a5] c_m123 (t_h1 (.long v.toInt64)) 35 [some (.ref 58), some (.int l), some (.int 0), some (.int 5), some (.int (Int32.ofNat 0))] 35 [some (.ref 58), some (.int l), some (.int 0), some (.int 7), some (.int (Int32.ofNat 128))] 448 2880 :=
  (k28r5_all0 32 0 rfl).trans ((k28r5_e0s).trans k28_R06)
theorem k28_R15 {a0 l a2 a3 a4 a5 : Int32} {v : Int32} (h : (∀ m, 0 ≤ m → m < 32 → k28c5_P l m) ∧ (∀ m, 0 ≤ m → m < 64 → k28c6_P l m) ∧ (∀ m, 0 ≤ m → m < 128 → k28c7_P l m)) : m_to [a0, l, a2, a3, a4, a5] c_m123 (t_h1 (.long v.toInt64)) 35 [some (.ref 58), some (.int l), some (.int 1), some (.int 5), some (.int (Int32.ofNat 0))] 35 [some (.ref 58), some (.int l), some (.int 1), some (.int 7), some (.int (Int32.ofNat 128))] 448 2880 :=
  (k28r5_all1 h.1 32 0 rfl).trans ((k28r5_e1s).trans (k28_R16 h.2))
theorem k28_RF5 {a0 l a2 a3 a4 a5 : Int32} {v : Int32} (h : ¬ ((∀ m, 0 ≤ m → m < 32 → k28c5_P l m) ∧ (∀ m, 0 ≤ m → m < 64 → k28c6_P l m) ∧ (∀ m, 0 ≤ m → m < 128 → k28c7_P l m))) : m_to [a0, l, a2, a3, a4, a5] c_m123 (t_h1 (.long v.toInt64)) 35 [some (.ref 58), some (.int l), some (.int 1), some (.int 5), some (.int (Int32.ofNat 0))] 35 [some (.ref 58), some (.int l), some (.int 0), some (.int 7), some (.int (Int32.ofNat 128))] 448 2880 := by
  by_cases h1 : ∀ m, 0 ≤ m → m < 32 → k28c5_P l m
  · exact (k28r5_all1 h1 32 0 rfl).trans ((k28r5_e1s).trans (k28_RF6 (fun h2 => h ⟨h1, h2⟩)))
  · exact (k28r5_allf 32 0 rfl h1).trans ((k28r5_e0s).trans k28_R06)
theorem k28_R04 {a0 l a2 a3 a4 a5 : Int32} {v : Int32} : m_to [a0, l, a2, a3, a4, a5] c_m123 (t_h1 (.long v.toInt64)) 35 [some (.ref 58), some (.int l), some (.int 0), some (.int 4), some (.int (Int32.ofNat 0))] 35 [some (.ref 58), some (.int l), some (.int 0), some (.int 7), some (.int (Int32.ofNat 128))] 480 3008 :=
  (k28r4_all0 16 0 rfl).trans ((k28r4_e0s).trans k28_R05)
theorem k28_R14 {a0 l a2 a3 a4 a5 : Int32} {v : Int32} (h : (∀ m, 0 ≤ m → m < 16 → k28c4_P l m) ∧ (∀ m, 0 ≤ m → m < 32 → k28c5_P l m) ∧ (∀ m, 0 ≤ m → m < 64 → k28c6_P l m) ∧ (∀ m, 0 ≤ m → m < 128 → k28c7_P l m)) : m_to [a0, l, a2, a3, a4, a5] c_m123 (t_h1 (.long v.toInt64)) 35 [some (.ref 58), some (.int l), some (.int 1), some (.int 4), some (.int (Int32.ofNat 0))] 35 [some (.ref 58), some (.int l), some (.int 1), some (.int 7), some (.int (Int32.ofNat 128))] 480 3008 :=
  (k28r4_all1 h.1 16 0 rfl).trans ((k28r4_e1s).trans (k28_R15 h.2))
theorem k28_RF4 {a0 l a2 a3 a4 a5 : Int32} {v : Int32} (h : ¬ ((∀ m, 0 ≤ m → m < 16 → k28c4_P l m) ∧ (∀ m, 0 ≤ m → m < 32 → k28c5_P l m) ∧ (∀ m, 0 ≤ m → m < 64 → k28c6_P l m) ∧ (∀ m, 0 ≤ m → m < 128 → k28c7_P l m))) : m_to [a0, l, a2, a3, a4, a5] c_m123 (t_h1 (.long v.toInt64)) 35 [some (.ref 58), some (.int l), some (.int 1), some (.int 4), some (.int (Int32.ofNat 0))] 35 [some (.ref 58), some (.int l), some (.int 0), some (.int 7), some (.int (Int32.ofNat 128))] 480 3008 := by
  by_cases h1 : ∀ m, 0 ≤ m → m < 16 → k28c4_P l m
  · exact (k28r4_all1 h1 16 0 rfl).trans ((k28r4_e1s).trans (k28_RF5 (fun h2 => h ⟨h1, h2⟩)))
  · exact (k28r4_allf 16 0 rfl h1).trans ((k28r4_e0s).trans k28_R05)
theorem k28_R03 {a0 l a2 a3 a4 a5 : Int32} {v : Int32} : m_to [a0, l, a2, a3, a4, a5] c_m123 (t_h1 (.long v.toInt64)) 35 [some (.ref 58), some (.int l), some (.int 0), some (.int 3), some (.int (Int32.ofNat 0))] 35 [some (.ref 58), some (.int l), some (.int 0), some (.int 7), some (.int (Int32.ofNat 128))] 496 3056 :=
  (k28r3_all0 8 0 rfl).trans ((k28r3_e0s).trans k28_R04)
theorem k28_R13 {a0 l a2 a3 a4 a5 : Int32} {v : Int32} (h : (∀ m, 0 ≤ m → m < 8 → k28c3_P l m) ∧ (∀ m, 0 ≤ m → m < 16 → k28c4_P l m) ∧ (∀ m, 0 ≤ m → m < 32 → k28c5_P l m) ∧ (∀ m, 0 ≤ m → m < 64 → k28c6_P l m) ∧ (∀ m, 0 ≤ m → m < 128 → k28c7_P l m)) : m_to [a0, l, a2, a3, a4, a5] c_m123 (t_h1 (.long v.toInt64)) 35 [some (.ref 58), some (.int l), some (.int 1), some (.int 3), some (.int (Int32.ofNat 0))] 35 [some (.ref 58), some (.int l), some (.int 1), some (.int 7), some (.int (Int32.ofNat 128))] 496 3056 :=
  (k28r3_all1 h.1 8 0 rfl).trans ((k28r3_e1s).trans (k28_R14 h.2))
theorem k28_RF3 {a0 l a2 a3 a4 a5 : Int32} {v : Int32} (h : ¬ ((∀ m, 0 ≤ m → m < 8 → k28c3_P l m) ∧ (∀ m, 0 ≤ m → m < 16 → k28c4_P l m) ∧ (∀ m, 0 ≤ m → m < 32 → k28c5_P l m) ∧ (∀ m, 0 ≤ m → m < 64 → k28c6_P l m) ∧ (∀ m, 0 ≤ m → m < 128 → k28c7_P l m))) : m_to [a0, l, a2, a3, a4, a5] c_m123 (t_h1 (.long v.toInt64)) 35 [some (.ref 58), some (.int l), some (.int 1), some (.int 3), some (.int (Int32.ofNat 0))] 35 [some (.ref 58), some (.int l), some (.int 0), some (.int 7), some (.int (Int32.ofNat 128))] 496 3056 := by
  by_cases h1 : ∀ m, 0 ≤ m → m < 8 → k28c3_P l m
  · exact (k28r3_all1 h1 8 0 rfl).trans ((k28r3_e1s).trans (k28_RF4 (fun h2 => h ⟨h1, h2⟩)))
  · exact (k28r3_allf 8 0 rfl h1).trans ((k28r3_e0s).trans k28_R04)
