/-! ### cells that a run doesn't look at: the first n cells may be anything -/
def c_hd (n : Nat) (t : c_Hp) : c_Hp := List.replicate n none ++ t
section Hide
variable {n : Nat} {t u : c_Hp}
theorem hd_nth {a : Nat} {x : (Nat × List Value) ⊕ (Nat × List Value)} (h : c_nth (c_hd n t) a = some (some x)) : n ≤ a ∧ c_nth t (a - n) = some (some x) := by
  rw [c_nth_eq] at h ⊢
  unfold c_hd at h
  by_cases e : a < n
  · rw [List.getElem?_append_left (by rw [List.length_replicate]; exact e), List.getElem?_replicate, if_pos e] at h
    cases h
  · rw [List.getElem?_append_right (by rw [List.length_replicate]; omega), List.length_replicate] at h
    exact ⟨by omega, h⟩
theorem hu_nth (hu : u.length = n) {a : Nat} (ha : n ≤ a) : c_nth (u ++ t) a = c_nth t (a - n) := by
  rw [c_nth_eq, c_nth_eq, List.getElem?_append_right (by omega), hu]
theorem hu_upd (hu : u.length = n) {a : Nat} (ha : n ≤ a) (x : c_Cell) : c_upd (u ++ t) a x = u ++ c_upd t (a - n) x := by
  rw [c_upd_eq, c_upd_eq, List.set_append_right _ _ (by omega), hu]
theorem hd_len : (List.replicate n (none : c_Cell)).length = n := List.length_replicate
theorem hd_fs {a k : Nat} {fs : List Value} (h : c_fs (c_hd n t) a k = some fs) : n ≤ a ∧ ∀ u : c_Hp, u.length = n → c_fs (u ++ t) a k = some fs := by
  unfold c_fs at h ⊢
  split at h
  · rename_i q hq
    obtain ⟨h1, h2⟩ := hd_nth hq
    refine ⟨h1, fun u hu => ?_⟩
    rw [hu_nth hu h1, h2]
    exact h
  · cases h
theorem hd_vs {a k : Nat} {fs : List Value} (h : c_vs (c_hd n t) a k = some fs) : n ≤ a ∧ ∀ u : c_Hp, u.length = n → c_vs (u ++ t) a k = some fs := by
  unfold c_vs at h ⊢
  split at h
  · rename_i q hq
    obtain ⟨h1, h2⟩ := hd_nth hq
    refine ⟨h1, fun u hu => ?_⟩
    rw [hu_nth hu h1, h2]
    exact h
  · cases h
/-- a step that goes alike whatever stands in the first n cells -/
def c_al9 (n : Nat) (t : c_Hp) (f : c_Hp → Option c_R) : Prop := ∀ r, f (c_hd n t) = some r → ∃ t1, r.2.2.2 = c_hd n t1 ∧ ∀ u : c_Hp, u.length = n → f (u ++ t) = some (r.1, r.2.1, r.2.2.1, u ++ t1)
/-- .. as it doesn't look at cells at all -/
theorem al_thru {f : c_Hp → Option c_R} (h : ∀ h h' : c_Hp, f h' = (f h).map (fun r => (r.1, r.2.1, r.2.2.1, h'))) : c_al9 n t f := by
  intro r hr
  have h1 := h (c_hd n t) (c_hd n t)
  rw [hr] at h1
  simp only [Option.map_some, Option.some.injEq] at h1
  refine ⟨t, by rw [h1], fun u hu => ?_⟩
  rw [h (c_hd n t) (u ++ t), hr]
  rfl
theorem al_app {f : c_Hp → Option c_R} {pc : Nat} {L : c_Ls} {st : List Value} {x : c_Cell} (h : ∀ h, f h = some (pc, L, .ref h.length :: st, h ++ [x])) : c_al9 n t f := by
  intro r hr
  rw [h] at hr
  cases hr
  refine ⟨t ++ [x], by unfold c_hd; rw [List.append_assoc], fun u hu => ?_⟩
  rw [h]
  simp only [c_hd, List.length_append, List.length_replicate, hu, List.append_assoc]
section Steps
variable {E : c_E} {q : c_I} {pc i m o : Nat} {k : Value → Bool} {L : c_Ls} {st : List Value}
theorem al_load : c_al9 n t (fun h => c_load k L i m pc st h) := al_thru fun h h' => by
  unfold c_load
  split
  · split <;> rfl
  · rfl
theorem al_store : c_al9 n t (fun h => c_store k L i m pc st h) := al_thru fun h h' => by
  unfold c_store
  split
  · split
    · split <;> rfl
    · rfl
  · rfl
theorem al_store2 : c_al9 n t (fun h => c_store2 k L i m pc st h) := al_thru fun h h' => by
  unfold c_store2
  split
  · split
    · split <;> rfl
    · rfl
  · rfl
theorem al_b2 {f : Int32 → Int32 → Option Int32} : c_al9 n t (fun h => c_b2 E o f m pc L st h) := al_thru fun h h' => by
  unfold c_b2
  split
  · split <;> rfl
  · rfl
theorem al_br {cd : Jvm.ClassFile.Cond} {x y : Value} : c_al9 n t (fun h => c_br E cd m x y pc L st h) := al_thru fun h h' => by
  unfold c_br
  split
  · split <;> rfl
  · rfl
theorem al_getf : c_al9 n t (fun h => c_getf q pc L st h) := by
  intro r hr
  simp only at hr
  unfold c_getf at hr
  split at hr
  · rename_i a t9
    split at hr
    · cases hr
    · rename_i h5
      split at hr
      · rename_i fs hfs
        obtain ⟨h1, h2⟩ := hd_fs hfs
        split at hr
        · rename_i v hv
          cases hr
          refine ⟨t, rfl, fun u hu => ?_⟩
          show c_getf q pc L _ _ = _
          unfold c_getf
          simp only [h5, h2 u hu, hv]
        · cases hr
      · cases hr
  · split at hr
    · rename_i h5
      cases hr
      refine ⟨t, rfl, fun u hu => ?_⟩
      show c_getf q pc L _ _ = _
      unfold c_getf
      simp only [h5, if_true]
    · cases hr
  · cases hr
theorem al_putf : c_al9 n t (fun h => c_putf q pc L st h) := by
  intro r hr
  simp only at hr
  unfold c_putf at hr
  split at hr
  · rename_i v a t9
    split at hr
    · rename_i fs hfs
      obtain ⟨h1, h2⟩ := hd_fs hfs
      split at hr
      · rename_i hok
        split at hr
        · rename_i hlt
          cases hr
          refine ⟨c_upd t (a - n) (some (.inl (q.2.1, c_upd fs q.2.2.1 v))), hu_upd hd_len h1 _, fun u hu => ?_⟩
          show c_putf q pc L _ _ = _
          unfold c_putf
          simp only [h2 u hu, hok, hlt, if_true, hu_upd hu h1]
        · cases hr
      · cases hr
    · cases hr
  · cases hr
theorem al_ald : c_al9 n t (fun h => c_ald m k pc L st h) := by
  intro r hr
  simp only at hr
  unfold c_ald at hr
  split at hr
  · rename_i i9 a t9
    split at hr
    · rename_i vs hvs
      obtain ⟨h1, h2⟩ := hd_vs hvs
      split at hr
      · rename_i j hj
        split at hr
        · rename_i v hv
          split at hr
          · rename_i hk
            cases hr
            refine ⟨t, rfl, fun u hu => ?_⟩
            show c_ald m k pc L _ _ = _
            unfold c_ald
            simp only [h2 u hu, hj, hv, hk]
          · cases hr
        · cases hr
      · cases hr
    · cases hr
  · cases hr
theorem al_iald : c_al9 n t (fun h => c_iald E pc L st h) := by
  intro r hr
  simp only at hr
  unfold c_iald at hr
  split at hr
  · rename_i i9 t9
    refine al_thru (f := fun h => c_iald E pc L (.int i9 :: .retAddr 0 :: t9) h) (fun h h' => ?_) r (by unfold c_iald; exact hr)
    unfold c_iald
    simp only
    split
    · split
      · split <;> rfl
      · rfl
    · rfl
  · rename_i h9
    obtain ⟨t1, g1, g2⟩ := al_ald r hr
    refine ⟨t1, g1, fun u hu => ?_⟩
    show c_iald E pc L st _ = _
    unfold c_iald
    split
    · rename_i i9 t9
      exact absurd rfl (h9 i9 t9)
    · exact g2 u hu
theorem al_aald : c_al9 n t (fun h => c_aald q pc L st h) := by
  intro r hr
  simp only at hr
  unfold c_aald at hr
  split at hr
  · rename_i i9 t9
    refine al_thru (f := fun h => c_aald q pc L (.int i9 :: .retAddr 3 :: t9) h) (fun h h' => ?_) r (by unfold c_aald; exact hr)
    unfold c_aald
    simp only
    split <;> rfl
  · rename_i h9
    have key : ∃ t1, r.2.2.2 = c_hd n t1 ∧ ∀ u : c_Hp, u.length = n → (if q.2.1 = 2 then c_ald 2 c_rf pc L st (u ++ t) else if q.2.1 = 3 then c_ald 3 c_rn pc L st (u ++ t) else none) = some (r.1, r.2.1, r.2.2.1, u ++ t1) := by
      split at hr
      · rename_i h2
        obtain ⟨t1, g1, g2⟩ := al_ald r hr
        exact ⟨t1, g1, fun u hu => by rw [if_pos h2]; exact g2 u hu⟩
      · rename_i h2
        split at hr
        · rename_i h3
          obtain ⟨t1, g1, g2⟩ := al_ald r hr
          exact ⟨t1, g1, fun u hu => by rw [if_neg h2, if_pos h3]; exact g2 u hu⟩
        · cases hr
    obtain ⟨t1, g1, g2⟩ := key
    refine ⟨t1, g1, fun u hu => ?_⟩
    show c_aald q pc L st _ = _
    unfold c_aald
    split
    · rename_i i9 t9
      exact absurd rfl (h9 i9 t9)
    · exact g2 u hu
theorem al_ast {kh : c_Hp → Value → Bool} (hk : ∀ v, kh (c_hd n t) v = true → ∀ u : c_Hp, u.length = n → kh (u ++ t) v = true) : c_al9 n t (fun h => c_ast m (kh h) pc L st h) := by
  intro r hr
  simp only at hr
  unfold c_ast at hr
  split at hr
  · rename_i x i9 a t9
    split at hr
    · rename_i vs hvs
      obtain ⟨h1, h2⟩ := hd_vs hvs
      split at hr
      · rename_i j hj
        split at hr
        · rename_i hok
          cases hr
          refine ⟨c_upd t (a - n) (some (.inr (m, c_upd vs j x))), hu_upd hd_len h1 _, fun u hu => ?_⟩
          show c_ast m (kh (u ++ t)) pc L _ _ = _
          unfold c_ast
          simp only [h2 u hu, hj, hk _ hok u hu, if_true, hu_upd hu h1]
        · cases hr
      · cases hr
    · cases hr
  · cases hr
theorem al_ok3 : ∀ v, c_ok3 (c_hd n t) v = true → ∀ u : c_Hp, u.length = n → c_ok3 (u ++ t) v = true := by
  intro v hv u hu
  unfold c_ok3 at hv ⊢
  split at hv
  · obtain ⟨ws, hws⟩ := Option.isSome_iff_exists.mp hv
    rw [(hd_vs hws).2 u hu]
    rfl
  · exact hv
  · rfl
  · cases hv
theorem al_aast : c_al9 n t (fun h => c_aast q pc L st h) := by
  intro r hr
  simp only at hr
  unfold c_aast at hr
  split at hr
  · rename_i h3
    obtain ⟨t1, g1, g2⟩ := al_ast (kh := c_ok3) al_ok3 r hr
    refine ⟨t1, g1, fun u hu => ?_⟩
    show c_aast q pc L st _ = _
    unfold c_aast
    rw [if_pos h3]
    exact g2 u hu
  · cases hr
theorem al_alen : c_al9 n t (fun h => c_alen E q pc L st h) := by
  intro r hr
  simp only at hr
  unfold c_alen at hr
  split at hr
  · rename_i a t9
    split at hr
    · rename_i vs hvs
      obtain ⟨h1, h2⟩ := hd_nth hvs
      split at hr
      · rename_i h6
        rw [c_nrm_eq] at hr
        cases hr
        refine ⟨t, rfl, fun u hu => ?_⟩
        show c_alen E q pc L _ _ = _
        unfold c_alen
        simp only [hu_nth hu h1, h2, h6, if_true, c_nrm_eq]
      · cases hr
    · cases hr
  · cases hr
    exact ⟨t, rfl, fun u hu => rfl⟩
  · cases hr
    exact ⟨t, rfl, fun u hu => rfl⟩
  · cases hr
theorem al_newa : c_al9 n t (fun h => c_newa q pc m L st h) := by
  intro r hr
  simp only at hr
  unfold c_newa at hr
  split at hr
  · rename_i n9 t9
    split at hr
    · cases hr
    · rename_i h1
      split at hr
      · rename_i h2
        cases hr
        refine ⟨t ++ [some (.inr (q.2.1, List.replicate n9.toNatClampNeg (defaultValue (c_tag q.2.1))))], by unfold c_hd; rw [List.append_assoc], fun u hu => ?_⟩
        show c_newa q pc m L _ _ = _
        unfold c_newa
        simp only [h1, h2, if_true, if_false, c_hd, List.length_append, List.length_replicate, hu, List.append_assoc]
      · cases hr
  · cases hr
theorem al_mnew : c_al9 n t (fun h => c_mnew pc L st h) := by
  intro r hr
  simp only at hr
  unfold c_mnew at hr
  split at hr
  · rename_i k9 n9 t9
    split at hr
    · cases hr
    · rename_i h1
      split at hr
      · cases hr
      · rename_i h2
        split at hr
        · rename_i h3
          split at hr
          · rename_i h4
            cases hr
            refine ⟨(t ++ [some (.inr (2, (List.range n9.toNatClampNeg).map (fun j => Value.ref ((c_hd n t).length + 1 + j))))]) ++ List.replicate n9.toNatClampNeg (some (.inr (0, List.replicate k9.toNatClampNeg (Value.int 0)))), by unfold c_hd; simp only [List.append_assoc], fun u hu => ?_⟩
            have hl : (c_hd n t).length = (u ++ t).length := by simp [c_hd, hu]
            show c_mnew pc L _ _ = _
            unfold c_mnew
            simp only [h1, h2, h3, h4, if_true, if_false]
            rw [hl]
            simp only [List.append_assoc]
          · cases hr
        · cases hr
  · cases hr
theorem al_cast : c_al9 n t (fun h => c_cast q pc L st h) := by
  intro r hr
  simp only at hr
  unfold c_cast at hr
  split at hr
  · rename_i a t9
    split at hr
    · rename_i h0
      split at hr
      · rename_i vs hvs
        cases hr
        refine ⟨t, rfl, fun u hu => ?_⟩
        show c_cast q pc L _ _ = _
        unfold c_cast
        simp only [h0, (hd_vs hvs).2 u hu, if_true]
      · cases hr
    · cases hr
  · split at hr
    · rename_i h1
      cases hr
      refine ⟨t, rfl, fun u hu => ?_⟩
      show c_cast q pc L _ _ = _
      unfold c_cast
      simp only [h1, if_true]
    · cases hr
  · cases hr
theorem al_cpy {kh : c_Hp → Value → Bool} (hk : ∀ v, kh (c_hd n t) v = true → ∀ u : c_Hp, u.length = n → kh (u ++ t) v = true) {sp dp m9 : Int32} {a a2 : Nat} {t9 : List Value} : c_al9 n t (fun h => c_cpy m (kh h) sp dp m9 a a2 pc L t9 h) := by
  intro r hr
  simp only at hr
  unfold c_cpy at hr
  split at hr
  · rename_i vs ws hvs hws
    obtain ⟨h1, h2⟩ := hd_vs hvs
    obtain ⟨h3, h4⟩ := hd_vs hws
    split at hr
    · cases hr
    · rename_i g1
      split at hr
      · cases hr
      · rename_i g2
        split at hr
        · cases hr
        · rename_i g3
          split at hr
          · rename_i g4
            split at hr
            · rename_i g5
              split at hr
              · rename_i g6
                split at hr
                · rename_i g7
                  cases hr
                  refine ⟨c_upd t (a2 - n) (some (.inr (m, c_lay vs ws sp.toNatClampNeg dp.toNatClampNeg m9.toNatClampNeg))), hu_upd hd_len h3 _, fun u hu => ?_⟩
                  have g8 : ((vs.drop sp.toNatClampNeg).take m9.toNatClampNeg).all (kh (u ++ t)) = true := List.all_eq_true.mpr fun v hv => hk v (List.all_eq_true.mp g6 v hv) u hu
                  show c_cpy m (kh (u ++ t)) sp dp m9 a a2 pc L _ _ = _
                  unfold c_cpy
                  simp only [h2 u hu, h4 u hu, g1, g2, g3, g4, g5, g8, g7, if_true, if_false, hu_upd hu h3]
                · cases hr
              · cases hr
            · cases hr
          · cases hr
  · cases hr
end Steps
end Hide
