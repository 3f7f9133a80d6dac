/-! ### a cell that a run doesn't look at may hold anything -/
section Poi
variable {n : Nat} {t : c_Hp}
theorem pd_nth (hh : c_nth t n = some none) {a : Nat} {x : (Nat × List Value) ⊕ (Nat × List Value)} (h : c_nth t a = some (some x)) : a ≠ n ∧ ∀ u : c_Cell, c_nth (t.set n u) a = some (some x) := by
  have h1 : a ≠ n := by
    intro e
    subst e
    rw [hh] at h
    cases h
  refine ⟨h1, fun u => ?_⟩
  rw [c_nth_eq] at h ⊢
  rw [List.getElem?_set_ne (fun e => h1 e.symm)]
  exact h
theorem pu_n (hh : c_nth t n = some none) {a : Nat} (ha : a ≠ n) {x : c_Cell} : c_nth (c_upd t a x) n = some none := by
  rw [c_nth_eq] at hh ⊢
  rw [c_upd_eq, List.getElem?_set_ne ha]
  exact hh
theorem pu_upd {a : Nat} (ha : a ≠ n) {x u : c_Cell} : c_upd (t.set n u) a x = (c_upd t a x).set n u := by
  rw [c_upd_eq, c_upd_eq, List.set_comm _ _ (fun e => ha e.symm)]
theorem pa_lt (hh : c_nth t n = some none) : n < t.length := by
  rw [c_nth_eq] at hh
  exact (List.getElem?_eq_some_iff.mp hh).1
theorem pa_n (hh : c_nth t n = some none) {l : c_Hp} : c_nth (t ++ l) n = some none := by
  have h1 := pa_lt hh
  rw [c_nth_eq] at hh ⊢
  rw [List.getElem?_append_left h1]
  exact hh
theorem pa_set (hh : c_nth t n = some none) {l : c_Hp} {u : c_Cell} : (t ++ l).set n u = t.set n u ++ l := List.set_append_left _ _ (pa_lt hh)
theorem pd_fs (hh : c_nth t n = some none) {a k : Nat} {fs : List Value} (h : c_fs t a k = some fs) : a ≠ n ∧ ∀ u : c_Cell, c_fs (t.set n u) a k = some fs := by
  unfold c_fs at h ⊢
  split at h
  · rename_i q hq
    obtain ⟨h1, h2⟩ := pd_nth hh hq
    refine ⟨h1, fun u => ?_⟩
    rw [h2 u]
    exact h
  · cases h
theorem pd_vs (hh : c_nth t n = some none) {a k : Nat} {fs : List Value} (h : c_vs t a k = some fs) : a ≠ n ∧ ∀ u : c_Cell, c_vs (t.set n u) a k = some fs := by
  unfold c_vs at h ⊢
  split at h
  · rename_i q hq
    obtain ⟨h1, h2⟩ := pd_nth hh hq
    refine ⟨h1, fun u => ?_⟩
    rw [h2 u]
    exact h
  · cases h
/-- a step that goes alike whatever stands in cell n -/
def p_al9 (n : Nat) (t : c_Hp) (f : c_Hp → Option c_R) : Prop := c_nth t n = some none → ∀ r, f t = some r → c_nth r.2.2.2 n = some none ∧ ∀ u : c_Cell, f (t.set n u) = some (r.1, r.2.1, r.2.2.1, r.2.2.2.set n u)
/-- .. as it doesn't look at cells at all -/
theorem pl_thru {f : c_Hp → Option c_R} (h : ∀ h h' : c_Hp, f h' = (f h).map (fun r => (r.1, r.2.1, r.2.2.1, h'))) : p_al9 n t f := by
  intro hh r hr
  have h1 := h t t
  rw [hr] at h1
  simp only [Option.map_some, Option.some.injEq] at h1
  have h2 : r.2.2.2 = t := by rw [h1]
  refine ⟨by rw [h2]; exact hh, fun u => ?_⟩
  rw [h t (t.set n u), hr, h2]
  rfl
theorem pl_app {f : c_Hp → Option c_R} {pc : Nat} {L : c_Ls} {st : List Value} {x : c_Cell} (h : ∀ h, f h = some (pc, L, .ref h.length :: st, h ++ [x])) : p_al9 n t f := by
  intro hh r hr
  rw [h] at hr
  cases hr
  refine ⟨pa_n hh, fun u => ?_⟩
  rw [h]
  simp only [List.length_set, pa_set hh]
section PSteps
variable {E : c_E} {q : c_I} {pc i m o : Nat} {k : Value → Bool} {L : c_Ls} {st : List Value}
theorem pl_load : p_al9 n t (fun h => c_load k L i m pc st h) := pl_thru fun h h' => by
  unfold c_load
  split
  · split <;> rfl
  · rfl
theorem pl_store : p_al9 n t (fun h => c_store k L i m pc st h) := pl_thru fun h h' => by
  unfold c_store
  split
  · split
    · split <;> rfl
    · rfl
  · rfl
theorem pl_store2 : p_al9 n t (fun h => c_store2 k L i m pc st h) := pl_thru fun h h' => by
  unfold c_store2
  split
  · split
    · split <;> rfl
    · rfl
  · rfl
theorem pl_b2 {f : Int32 → Int32 → Option Int32} : p_al9 n t (fun h => c_b2 E o f m pc L st h) := pl_thru fun h h' => by
  unfold c_b2
  split
  · split <;> rfl
  · rfl
theorem pl_br {cd : Jvm.ClassFile.Cond} {x y : Value} : p_al9 n t (fun h => c_br E cd m x y pc L st h) := pl_thru fun h h' => by
  unfold c_br
  split
  · split <;> rfl
  · rfl
theorem pl_getf : p_al9 n t (fun h => c_getf q pc L st h) := by
  intro hh r hr
  simp only at hr
  unfold c_getf at hr
  split at hr
  · rename_i a t9
    split at hr
    · cases hr
    · rename_i h5
      split at hr
      · rename_i fs hfs
        obtain ⟨h1, h2⟩ := pd_fs hh hfs
        split at hr
        · rename_i v hv
          cases hr
          refine ⟨hh, fun u => ?_⟩
          show c_getf q pc L _ _ = _
          unfold c_getf
          simp only [h5, h2 u, hv]
        · cases hr
      · cases hr
  · split at hr
    · rename_i h5
      cases hr
      refine ⟨hh, fun u => ?_⟩
      show c_getf q pc L _ _ = _
      unfold c_getf
      simp only [h5, if_true]
    · cases hr
  · cases hr
theorem pl_putf : p_al9 n t (fun h => c_putf q pc L st h) := by
  intro hh r hr
  simp only at hr
  unfold c_putf at hr
  split at hr
  · rename_i v a t9
    split at hr
    · rename_i fs hfs
      obtain ⟨h1, h2⟩ := pd_fs hh hfs
      split at hr
      · rename_i hok
        split at hr
        · rename_i hlt
          cases hr
          refine ⟨pu_n hh h1, fun u => ?_⟩
          show c_putf q pc L _ _ = _
          unfold c_putf
          simp only [h2 u, hok, hlt, if_true, pu_upd h1]
        · cases hr
      · cases hr
    · cases hr
  · cases hr
theorem pl_ald : p_al9 n t (fun h => c_ald m k pc L st h) := by
  intro hh r hr
  simp only at hr
  unfold c_ald at hr
  split at hr
  · rename_i i9 a t9
    split at hr
    · rename_i vs hvs
      obtain ⟨h1, h2⟩ := pd_vs hh hvs
      split at hr
      · rename_i j hj
        split at hr
        · rename_i v hv
          split at hr
          · rename_i hk
            cases hr
            refine ⟨hh, fun u => ?_⟩
            show c_ald m k pc L _ _ = _
            unfold c_ald
            simp only [h2 u, hj, hv, hk]
          · cases hr
        · cases hr
      · cases hr
    · cases hr
  · cases hr
theorem pl_iald : p_al9 n t (fun h => c_iald E pc L st h) := by
  intro hh r hr
  simp only at hr
  unfold c_iald at hr
  split at hr
  · rename_i i9 t9
    refine pl_thru (f := fun h => c_iald E pc L (.int i9 :: .retAddr 0 :: t9) h) (fun h h' => ?_) hh r (by unfold c_iald; exact hr)
    unfold c_iald
    simp only
    split
    · split
      · split <;> rfl
      · rfl
    · rfl
  · rename_i h9
    obtain ⟨g1, g2⟩ := pl_ald hh r hr
    refine ⟨g1, fun u => ?_⟩
    show c_iald E pc L st _ = _
    unfold c_iald
    split
    · rename_i i9 t9
      exact absurd rfl (h9 i9 t9)
    · exact g2 u
theorem pl_aald : p_al9 n t (fun h => c_aald q pc L st h) := by
  intro hh r hr
  simp only at hr
  unfold c_aald at hr
  split at hr
  · rename_i i9 t9
    refine pl_thru (f := fun h => c_aald q pc L (.int i9 :: .retAddr 3 :: t9) h) (fun h h' => ?_) hh r (by unfold c_aald; exact hr)
    unfold c_aald
    simp only
    split <;> rfl
  · rename_i h9
    have key : c_nth r.2.2.2 n = some none ∧ ∀ u : c_Cell, (if q.2.1 = 2 then c_ald 2 c_rf pc L st (t.set n u) else if q.2.1 = 3 then c_ald 3 c_rn pc L st (t.set n u) else none) = some (r.1, r.2.1, r.2.2.1, r.2.2.2.set n u) := by
      split at hr
      · rename_i h2
        obtain ⟨g1, g2⟩ := pl_ald hh r hr
        exact ⟨g1, fun u => by rw [if_pos h2]; exact g2 u⟩
      · rename_i h2
        split at hr
        · rename_i h3
          obtain ⟨g1, g2⟩ := pl_ald hh r hr
          exact ⟨g1, fun u => by rw [if_neg h2, if_pos h3]; exact g2 u⟩
        · cases hr
    obtain ⟨g1, g2⟩ := key
    refine ⟨g1, fun u => ?_⟩
    show c_aald q pc L st _ = _
    unfold c_aald
    split
    · rename_i i9 t9
      exact absurd rfl (h9 i9 t9)
    · exact g2 u
theorem pl_ast {kh : c_Hp → Value → Bool} (hk : ∀ v, kh t v = true → ∀ u : c_Cell, kh (t.set n u) v = true) : p_al9 n t (fun h => c_ast m (kh h) pc L st h) := by
  intro hh r hr
  simp only at hr
  unfold c_ast at hr
  split at hr
  · rename_i x i9 a t9
    split at hr
    · rename_i vs hvs
      obtain ⟨h1, h2⟩ := pd_vs hh hvs
      split at hr
      · rename_i j hj
        split at hr
        · rename_i hok
          cases hr
          refine ⟨pu_n hh h1, fun u => ?_⟩
          show c_ast m (kh (t.set n u)) pc L _ _ = _
          unfold c_ast
          simp only [h2 u, hj, hk _ hok u, if_true, pu_upd h1]
        · cases hr
      · cases hr
    · cases hr
  · cases hr
theorem pl_ok3 (hh : c_nth t n = some none) : ∀ v, c_ok3 t v = true → ∀ u : c_Cell, c_ok3 (t.set n u) v = true := by
  intro v hv u
  unfold c_ok3 at hv ⊢
  split at hv
  · obtain ⟨ws, hws⟩ := Option.isSome_iff_exists.mp hv
    rw [(pd_vs hh hws).2 u]
    rfl
  · exact hv
  · rfl
  · cases hv
theorem pl_aast : p_al9 n t (fun h => c_aast q pc L st h) := by
  intro hh r hr
  simp only at hr
  unfold c_aast at hr
  split at hr
  · rename_i h3
    obtain ⟨g1, g2⟩ := pl_ast (kh := c_ok3) (pl_ok3 hh) hh r hr
    refine ⟨g1, fun u => ?_⟩
    show c_aast q pc L st _ = _
    unfold c_aast
    rw [if_pos h3]
    exact g2 u
  · cases hr
theorem pl_alen : p_al9 n t (fun h => c_alen E q pc L st h) := by
  intro hh r hr
  simp only at hr
  unfold c_alen at hr
  split at hr
  · rename_i a t9
    split at hr
    · rename_i vs hvs
      obtain ⟨h1, h2⟩ := pd_nth hh hvs
      split at hr
      · rename_i h6
        rw [c_nrm_eq] at hr
        cases hr
        refine ⟨hh, fun u => ?_⟩
        show c_alen E q pc L _ _ = _
        unfold c_alen
        simp only [h2 u, h6, if_true, c_nrm_eq]
      · cases hr
    · cases hr
  · cases hr
    exact ⟨hh, fun u => rfl⟩
  · cases hr
    exact ⟨hh, fun u => rfl⟩
  · cases hr
theorem pl_newa : p_al9 n t (fun h => c_newa q pc m L st h) := by
  intro hh r hr
  simp only at hr
  unfold c_newa at hr
  split at hr
  · rename_i n9 t9
    split at hr
    · cases hr
    · rename_i h1
      split at hr
      · rename_i h2
        cases hr
        refine ⟨pa_n hh, fun u => ?_⟩
        show c_newa q pc m L _ _ = _
        unfold c_newa
        simp only [h1, h2, if_true, if_false, List.length_set, pa_set hh]
      · cases hr
  · cases hr
theorem pl_mnew : p_al9 n t (fun h => c_mnew pc L st h) := by
  intro hh r hr
  simp only at hr
  unfold c_mnew at hr
  split at hr
  · rename_i k9 n9 t9
    split at hr
    · cases hr
    · rename_i h1
      split at hr
      · cases hr
      · rename_i h2
        split at hr
        · rename_i h3
          split at hr
          · rename_i h4
            cases hr
            refine ⟨by rw [List.append_assoc]; exact pa_n hh, fun u => ?_⟩
            show c_mnew pc L _ _ = _
            unfold c_mnew
            simp only [h1, h2, h3, h4, if_true, if_false, List.length_set, List.append_assoc, pa_set hh]
          · cases hr
        · cases hr
  · cases hr
theorem pl_cast : p_al9 n t (fun h => c_cast q pc L st h) := by
  intro hh r hr
  simp only at hr
  unfold c_cast at hr
  split at hr
  · rename_i a t9
    split at hr
    · rename_i h0
      split at hr
      · rename_i vs hvs
        cases hr
        refine ⟨hh, fun u => ?_⟩
        show c_cast q pc L _ _ = _
        unfold c_cast
        simp only [h0, (pd_vs hh hvs).2 u, if_true]
      · cases hr
    · cases hr
  · split at hr
    · rename_i h1
      cases hr
      refine ⟨hh, fun u => ?_⟩
      show c_cast q pc L _ _ = _
      unfold c_cast
      simp only [h1, if_true]
    · cases hr
  · cases hr
theorem pl_cpy {kh : c_Hp → Value → Bool} (hk : ∀ v, kh t v = true → ∀ u : c_Cell, kh (t.set n u) v = true) {sp dp m9 : Int32} {a a2 : Nat} {t9 : List Value} : p_al9 n t (fun h => c_cpy m (kh h) sp dp m9 a a2 pc L t9 h) := by
  intro hh r hr
  simp only at hr
  unfold c_cpy at hr
  split at hr
  · rename_i vs ws hvs hws
    obtain ⟨h1, h2⟩ := pd_vs hh hvs
    obtain ⟨h3, h4⟩ := pd_vs hh hws
    split at hr
    · cases hr
    · rename_i g1
      split at hr
      · cases hr
      · rename_i g2
        split at hr
        · cases hr
        · rename_i g3
          split at hr
          · rename_i g4
            split at hr
            · rename_i g5
              split at hr
              · rename_i g6
                split at hr
                · rename_i g7
                  cases hr
                  refine ⟨pu_n hh h3, fun u => ?_⟩
                  have g8 : ((vs.drop sp.toNatClampNeg).take m9.toNatClampNeg).all (kh (t.set n u)) = true := List.all_eq_true.mpr fun v hv => hk v (List.all_eq_true.mp g6 v hv) u
                  show c_cpy m (kh (t.set n u)) sp dp m9 a a2 pc L _ _ = _
                  unfold c_cpy
                  simp only [h2 u, h4 u, g1, g2, g3, g4, g5, g8, g7, if_true, if_false, pu_upd h3]
                · cases hr
              · cases hr
            · cases hr
          · cases hr
  · cases hr
end PSteps
end Poi
