/-- a value here, as the machine has it: places from base on, the script at b -/
def c_v (base b : Nat) : Value → Value
  | .ref i => .ref (base + i)
  | .retAddr _ => .ref b
  | v => v
theorem c_v_cat (base b : Nat) (v : Value) : (c_v base b v).category = v.category := by cases v <;> rfl
theorem c_v_cats (base b : Nat) (l : List Value) : ((l.map (c_v base b)).map fun v => v.category) = l.map fun v => v.category := by
  rw [List.map_map]
  exact List.map_congr_left fun v _ => c_v_cat base b v
def c_cell (D : va_G) (A : Nat → ClassId) (base b i : Nat) (x : (Nat × List Value) ⊕ (Nat × List Value)) (H : Heap) : Prop := match x with
  | .inl q => ∃ r : vw_C, c_cl[q.1]? = some r ∧ q.2.length = r.2.2 ∧ t_OB (base + i) (D.1 q.1) r.2.2 (D.2 q.1) H (vp_V (q.2.map (c_v base b)))
  | .inr q => q.1 < 3 ∧ H[base + i]? = some (arrV (A q.1) q.2.length (vp_V (q.2.map (c_v base b))))
def c_HR (D : va_G) (A : Nat → ClassId) (H0 : Heap) (base b : Nat) (h : c_Hp) (H : Heap) : Prop :=
  base = H0.size ∧ H.size = base + h.length ∧ (∀ q, q < base → H[q]? = H0[q]?) ∧ ∀ i x, h[i]? = some (some x) → c_cell D A base b i x H
def c_LR (base b : Nat) (ls : Array Slot) (nL : Nat) (L : c_Ls) : Prop := L.length = nL ∧ ls.size = nL ∧ lv_wf ls ∧ ∀ (i : Nat) (v : Value), L[i]? = some (some v) → ls[i]? = some (.val (c_v base b v))
theorem c_cell.kept {D : va_G} {A : Nat → ClassId} {base b i : Nat} {x : (Nat × List Value) ⊕ (Nat × List Value)} {H H1 : Heap} (h : c_cell D A base b i x H) (hq : H1[base + i]? = H[base + i]?) : c_cell D A base b i x H1 := by
  rcases x with q | q
  · obtain ⟨r, h1, h2, h3⟩ := h
    exact ⟨r, h1, h2, h3.kept hq⟩
  · exact ⟨h.1, by rw [hq]; exact h.2⟩
theorem c_HR.lt {D : va_G} {A : Nat → ClassId} {H0 : Heap} {base b : Nat} {h : c_Hp} {H : Heap} (R : c_HR D A H0 base b h H) {i : Nat} (hi : i < h.length) : base + i < H.size := by
  rw [R.2.1]; omega
theorem c_HR.set {D : va_G} {A : Nat → ClassId} {H0 : Heap} {base b : Nat} {h : c_Hp} {H H1 : Heap} (R : c_HR D A H0 base b h H) {i : Nat} {x : (Nat × List Value) ⊕ (Nat × List Value)} (hz : H1.size = H.size) (ho : ∀ q, q ≠ base + i → H1[q]? = H[q]?) (hx : c_cell D A base b i x H1) : c_HR D A H0 base b (h.set i (some x)) H1 := by
  obtain ⟨r1, r2, r3, r4⟩ := R
  refine ⟨r1, by rw [hz, r2, List.length_set], fun q hq => by rw [ho q (by omega)]; exact r3 q hq, fun j y hy => ?_⟩
  by_cases e : j = i
  · subst e
    rw [List.getElem?_set] at hy
    simp only [if_true] at hy
    split at hy
    · cases hy; exact hx
    · cases hy
  · rw [List.getElem?_set_ne (fun z => e z.symm)] at hy
    exact (r4 j y hy).kept (ho _ (by omega))
theorem c_HR.push {D : va_G} {A : Nat → ClassId} {H0 : Heap} {base b : Nat} {h : c_Hp} {H H1 : Heap} (R : c_HR D A H0 base b h H) {x : c_Cell} (hz : H1.size = H.size + 1) (ho : ∀ q, q < H.size → H1[q]? = H[q]?) (hx : ∀ y, x = some y → c_cell D A base b h.length y H1) : c_HR D A H0 base b (h ++ [x]) H1 := by
  obtain ⟨r1, r2, r3, r4⟩ := R
  refine ⟨r1, by rw [hz, r2, List.length_append]; rfl, fun q hq => by rw [ho q (by omega)]; exact r3 q hq, fun j y hy => ?_⟩
  by_cases e : j < h.length
  · rw [List.getElem?_append_left e] at hy
    exact (r4 j y hy).kept (ho _ (by rw [r2]; omega))
  · rw [List.getElem?_append_right (by omega)] at hy
    have e2 : j = h.length := by
      have := (List.getElem?_eq_some_iff.mp hy).1
      simp at this
      omega
    subst e2
    rw [Nat.sub_self] at hy
    exact hx y (by simpa using hy)
theorem c_LR.at {base b : Nat} {ls : Array Slot} {nL : Nat} {L : c_Ls} (h : c_LR base b ls nL L) {i : Nat} {v : Value} (hi : L[i]? = some (some v)) : ls[i]? = some (.val (c_v base b v)) := h.2.2.2 i v hi
def c_al (base b : Nat) (L : c_Ls) : List (Nat × Value) := (List.range L.length).filterMap (fun i => match L[i]? with
  | some (some v) => some (i, c_v base b v)
  | _ => none)
theorem c_al_mem {base b : Nat} {L : c_Ls} {i : Nat} {v : Value} (h : L[i]? = some (some v)) : (i, c_v base b v) ∈ c_al base b L := by
  unfold c_al
  refine List.mem_filterMap.mpr ⟨i, List.mem_range.mpr (List.getElem?_eq_some_iff.mp h).1, ?_⟩
  rw [h]
theorem c_al_of {base b : Nat} {L : c_Ls} {q : Nat × Value} (h : q ∈ c_al base b L) : ∃ v, L[q.1]? = some (some v) ∧ q.2 = c_v base b v := by
  unfold c_al at h
  obtain ⟨i, -, hi⟩ := List.mem_filterMap.mp h
  split at hi
  · rename_i v hv
    cases hi
    exact ⟨v, hv, rfl⟩
  · cases hi
theorem c_LR.has {base b : Nat} {ls : Array Slot} {nL : Nat} {L : c_Ls} (h : c_LR base b ls nL L) : lv_has ls nL (c_al base b L) := by
  refine ⟨h.2.1, h.2.2.1, fun q hq => ?_⟩
  obtain ⟨v, h1, h2⟩ := c_al_of hq
  rw [h2]
  exact h.2.2.2 _ _ h1
theorem c_clr_len (L : c_Ls) (i : Nat) : (c_clr L i).length = L.length := by
  unfold c_clr
  split
  · rfl
  · split
    · split
      · simp
      · rfl
    · rfl
theorem c_set_len (L : c_Ls) (i : Nat) (v : Value) : (c_set L i v).length = L.length := by
  unfold c_set
  rw [List.length_set, c_clr_len]
theorem c_clr_get {L : c_Ls} {i j : Nat} {w : Value} (hj : j ≠ i) (h : (c_clr L i)[j]? = some (some w)) : L[j]? = some (some w) ∧ ¬ (j + 1 = i ∧ w.category = 2) := by
  unfold c_clr at h
  cases i with
  | zero => exact ⟨h, fun q => by omega⟩
  | succ k =>
    simp only at h
    by_cases e : j = k
    · subst e
      cases hk : L[j]? with
      | none => rw [hk] at h; simp only at h; rw [hk] at h; cases h
      | some o =>
        cases o with
        | none => rw [hk] at h; simp only at h; rw [hk] at h; cases h
        | some u =>
          rw [hk] at h
          simp only at h
          split at h
          · rw [List.getElem?_set] at h
            simp only [if_true] at h
            split at h <;> cases h
          · rename_i hc
            rw [hk] at h
            cases h
            exact ⟨rfl, fun q => hc q.2⟩
    · have e2 : L[j]? = some (some w) := by
        split at h
        · split at h
          · rw [List.getElem?_set_ne (fun z => e z.symm)] at h; exact h
          · exact h
        · exact h
      exact ⟨e2, fun q => e (by omega)⟩
/-- behind a store -/
theorem c_LR.stored {base b : Nat} {ls ls' : Array Slot} {nL : Nat} {L : c_Ls} (h : c_LR base b ls nL L) {i : Nat} {v : Value} (hi : i < nL) (h' : lv_has ls' nL ((i, c_v base b v) :: (c_al base b L).filter (fun q => !(q.1 == i) && !(q.1 + 1 == i && q.2.category == 2)))) : c_LR base b ls' nL (c_set L i v) := by
  refine ⟨by rw [c_set_len]; exact h.1, h'.1, h'.2.1, fun j w hw => ?_⟩
  by_cases e : j = i
  · subst e
    unfold c_set at hw
    rw [List.getElem?_set] at hw
    simp only [if_true] at hw
    split at hw
    · cases hw
      exact h'.2.2 _ List.mem_cons_self
    · cases hw
  · unfold c_set at hw
    rw [List.getElem?_set_ne (fun z => e z.symm)] at hw
    obtain ⟨h1, h2⟩ := c_clr_get e hw
    refine h'.2.2 (j, c_v base b w) (List.mem_cons_of_mem _ (List.mem_filter.mpr ⟨c_al_mem h1, ?_⟩))
    have e3 : (c_v base b w).category = w.category := c_v_cat base b w
    simp only [e3]
    by_cases e4 : j + 1 = i
    · have e5 : ¬ w.category = 2 := fun z => h2 ⟨e4, z⟩
      simp [e, e5]
    · simp [e, e4]
theorem c_LR.forgot {base b : Nat} {ls : Array Slot} {nL : Nat} {L : c_Ls} (h : c_LR base b ls nL L) (i : Nat) : c_LR base b ls nL (L.set i none) := by
  refine ⟨by rw [List.length_set]; exact h.1, h.2.1, h.2.2.1, fun j w hw => ?_⟩
  rw [List.getElem?_set] at hw
  split at hw
  · split at hw <;> cases hw
  · exact h.2.2.2 j w hw
theorem c_okv_ok {t : FieldType} {v : Value} {base b : Nat} (h : c_okv t v = true) : narrow t (c_v base b v) = c_v base b v ∧ fits t (c_v base b v) = true := by
  unfold c_okv at h
  rw [Bool.and_eq_true, decide_eq_true_eq] at h
  obtain ⟨h1, h2⟩ := h
  cases v <;> first | exact ⟨h2, h1⟩ | (cases t <;> first | exact ⟨rfl, rfl⟩ | (simp [fits] at h1))
theorem c_fs_ok {h : c_Hp} {a k : Nat} {fs : List Value} (e : c_fs h a k = some fs) : h[a]? = some (some (.inl (k, fs))) := by
  unfold c_fs at e
  split at e
  · rename_i q hq
    split at e
    · rename_i hk
      cases e
      obtain ⟨k1, f1⟩ := q
      cases hk
      exact hq
    · cases e
  · cases e
theorem c_vs_ok {h : c_Hp} {a k : Nat} {vs : List Value} (e : c_vs h a k = some vs) : h[a]? = some (some (.inr (k, vs))) := by
  unfold c_vs at e
  split at e
  · rename_i q hq
    split at e
    · rename_i hk
      cases e
      obtain ⟨k1, f1⟩ := q
      cases hk
      exact hq
    · cases e
  · cases e
theorem c_ix_ok {i : Int32} {n j : Nat} (e : c_ix i n = some j) : ¬ i < 0 ∧ i.toNatClampNeg = j ∧ j < n := by
  unfold c_ix at e
  split at e
  · cases e
  · split at e
    · cases e; exact ⟨by assumption, rfl, by assumption⟩
    · cases e
