abbrev c_B : Type := (Nat → Nat) × (Nat → Int32)
/-- a value here, as the machine has it: places from base on, old cells and unknown numbers by B -/
def c_v (base : Nat) (B : c_B) : Value → Value
  | .ref i => .ref (base + i)
  | .retAddr i => if i < 10 then .ref (B.1 i) else .int (B.2 i)
  | .double d => if c_M0 ≤ d.toNat then .long (B.2 (d.toNat - c_M0)).toInt64 else .double d
  | v => v
theorem c_v_r (base : Nat) (B : c_B) (i : Nat) : c_v base B (.retAddr i) = if i < 10 then .ref (B.1 i) else .int (B.2 i) := rfl
theorem c_v_d (base : Nat) (B : c_B) (d : UInt64) : c_v base B (.double d) = if c_M0 ≤ d.toNat then .long (B.2 (d.toNat - c_M0)).toInt64 else .double d := rfl
theorem c_v_cat (base : Nat) (B : c_B) (v : Value) : (c_v base B v).category = v.category := by
  cases v <;> try rfl
  · rw [c_v_d]; split <;> rfl
  · rw [c_v_r]; split <;> rfl
theorem c_v_cats (base : Nat) (B : c_B) (l : List Value) : ((l.map (c_v base B)).map fun v => v.category) = l.map fun v => v.category := by
  rw [List.map_map]
  exact List.map_congr_left fun v _ => c_v_cat base B v
def c_iv (B : c_B) : Value → Option Int32
  | .int x => some x
  | .retAddr i => if 10 ≤ i then some (B.2 i) else none
  | _ => none
theorem c_iv_v {base : Nat} {B : c_B} {v : Value} {a : Int32} (h : c_iv B v = some a) : c_v base B v = .int a := by
  cases v <;> simp only [c_iv] at h <;> try (cases h; done)
  · cases h; rfl
  · rename_i i
    split at h
    · rename_i h9
      cases h
      rw [c_v_r, if_neg (by omega)]
    · cases h
theorem c_sy_iv {B : c_B} {v : Value} (h : c_sy v = true) : ∃ a, c_iv B v = some a := by
  cases v <;> simp only [c_sy] at h <;> try (cases h; done)
  · exact ⟨_, rfl⟩
  · rename_i i
    exact ⟨B.2 i, by show (if 10 ≤ i then some (B.2 i) else none) = _; rw [if_pos (Nat.le_of_ble_eq_true h)]⟩
theorem c_sy_v {base : Nat} {B : c_B} {v : Value} (h : c_sy v = true) : ∃ a, c_v base B v = .int a := by
  obtain ⟨a, h1⟩ := c_sy_iv (B := B) h
  exact ⟨a, c_iv_v h1⟩
theorem c_rf_v {base : Nat} {B : c_B} {v : Value} (h : c_rf v = true) : ∃ a, c_v base B v = .ref a := by
  cases v <;> simp only [c_rf] at h <;> try (cases h; done)
  · exact ⟨_, rfl⟩
  · rename_i i
    exact ⟨B.1 i, by rw [c_v_r, if_pos (Nat.blt_eq.mp h)]⟩
theorem c_lg_v {base : Nat} {B : c_B} {v : Value} (h : c_lg v = true) : ∃ a, c_v base B v = .long a := by
  cases v <;> simp only [c_lg] at h <;> try (cases h; done)
  · exact ⟨_, rfl⟩
  · exact ⟨_, by rw [c_v_d, if_pos (Nat.le_of_ble_eq_true h)]⟩
theorem c_db_v {base : Nat} {B : c_B} {v : Value} (h : c_db v = true) : ∃ a, c_v base B v = .double a := by
  cases v <;> simp only [c_db] at h <;> try (cases h; done)
  exact ⟨_, by rw [c_v_d, if_neg (Nat.not_le.mpr (Nat.blt_eq.mp h))]⟩
theorem c_fl_v {base : Nat} {B : c_B} {v : Value} (h : c_fl v = true) : ∃ a, c_v base B v = .float a := by
  cases v <;> simp only [c_fl] at h <;> try (cases h; done)
  exact ⟨_, rfl⟩
/-- a fact holds -/
def c_hold (B : c_B) (f : c_F) : Prop := ∃ a b z, c_iv B f.2.1 = some a ∧ c_iv B f.2.2.1 = some b ∧ c_sem f.1 a b = some z ∧ c_iv B f.2.2.2 = some z
theorem c_veq_eq {x y : Value} (h : c_veq x y = true) : x = y := by
  cases x <;> cases y <;> simp only [c_veq] at h <;> first | (cases h; done) | (rw [of_decide_eq_true h]; done) | (rw [Nat.eq_of_beq_eq_true h])
theorem c_lk_ok : ∀ {l : List c_F} {o : Nat} {x y v : Value}, c_lk l o x y = some v → ∃ f ∈ l, f.1 = o ∧ f.2.1 = x ∧ f.2.2.1 = y ∧ f.2.2.2 = v
  | [], _, _, _, _, h => by simp [c_lk] at h
  | f :: r, o, x, y, v, h => by
    unfold c_lk at h
    split at h
    · rename_i h9
      rw [Bool.and_eq_true, Bool.and_eq_true] at h9
      cases h
      exact ⟨f, List.mem_cons_self, Nat.eq_of_beq_eq_true h9.1, c_veq_eq h9.2.1, c_veq_eq h9.2.2, rfl⟩
    · obtain ⟨g, h1, h2⟩ := c_lk_ok h
      exact ⟨g, List.mem_cons_of_mem _ h1, h2⟩
theorem c_opf_ok {B : c_B} {E : c_E} (hE : ∀ f ∈ E.1, c_hold B f) {o : Nat} {x y v : Value} (h : c_opf E o x y = some v) : ∃ a b z, c_iv B x = some a ∧ c_iv B y = some b ∧ c_sem o a b = some z ∧ c_iv B v = some z := by
  unfold c_opf at h
  split at h
  · rename_i w hw
    split at h
    · cases h
      obtain ⟨f, h1, rfl, rfl, rfl, rfl⟩ := c_lk_ok hw
      exact hE f h1
    · cases h
  · cases h
theorem c_op_ok {B : c_B} {E : c_E} (hE : ∀ f ∈ E.1, c_hold B f) {o : Nat} {f : Int32 → Int32 → Option Int32} (hf : c_sem o = f) {x y v : Value} (h : c_op E o f x y = some v) : ∃ a b z, c_iv B x = some a ∧ c_iv B y = some b ∧ f a b = some z ∧ c_iv B v = some z := by
  subst hf
  unfold c_op at h
  split at h
  · rename_i a
    split at h
    · rename_i b
      unfold c_opn at h
      split at h
      · rename_i z hz
        rw [c_nrm_eq] at h
        cases h
        exact ⟨a, b, z, rfl, rfl, hz, rfl⟩
      · cases h
    · exact c_opf_ok hE h
  · exact c_opf_ok hE h
theorem c_sem_cmp (cd : Jvm.ClassFile.Cond) (a b : Int32) : c_sem (c_cdn cd) a b = some (if c_cmp cd a b then 1 else 0) := by
  cases cd <;> rfl
theorem c_one_ok {B : c_B} {E : c_E} (hE : ∀ f ∈ E.1, c_hold B f) {cd : Jvm.ClassFile.Cond} {x y : Value} {t : Bool} (h : c_one (c_opf E (c_cdn cd) x y) = some t) : ∃ a b, c_iv B x = some a ∧ c_iv B y = some b ∧ c_cmp cd a b = t := by
  unfold c_one at h
  split at h
  · rename_i z hz
    cases h
    obtain ⟨a, b, z2, h1, h2, h3, h4⟩ := c_opf_ok hE hz
    refine ⟨a, b, h1, h2, ?_⟩
    rw [c_sem_cmp] at h3
    have e : z = z2 := Option.some.inj h4
    have e2 : (if c_cmp cd a b = true then (1 : Int32) else 0) = z2 := Option.some.inj h3
    rw [e, ← e2]
    cases c_cmp cd a b <;> decide
  · cases h
theorem c_brb_ok {B : c_B} {E : c_E} (hE : ∀ f ∈ E.1, c_hold B f) {cd : Jvm.ClassFile.Cond} {x y : Value} {t : Bool} (h : c_brb E cd x y = some t) : ∃ a b, c_iv B x = some a ∧ c_iv B y = some b ∧ c_cmp cd a b = t := by
  unfold c_brb at h
  split at h
  · split at h
    · cases h; exact ⟨_, _, rfl, rfl, rfl⟩
    · exact c_one_ok hE h
  · exact c_one_ok hE h
def c_cell (D : va_G) (A : Nat → ClassId) (base : Nat) (B : c_B) (i : Nat) (x : (Nat × List Value) ⊕ (Nat × List Value)) (H : Heap) : Prop := match x with
  | .inl q => ∃ r : vw_C, c_cl[q.1]? = some r ∧ q.2.length = r.2.2 ∧ t_OB (base + i) (D.1 q.1) r.2.2 (D.2 q.1) H (vp_V (q.2.map (c_v base B)))
  | .inr q => q.1 < 6 ∧ H[base + i]? = some (arrV (A q.1) q.2.length (vp_V (q.2.map (c_v base B))))
def c_HR (D : va_G) (A : Nat → ClassId) (H0 : Heap) (base : Nat) (B : c_B) (h : c_Hp) (H : Heap) : Prop :=
  base = H0.size ∧ H.size = base + h.length ∧ (∀ q, q < base → H[q]? = H0[q]?) ∧ ∀ i x, h[i]? = some (some x) → c_cell D A base B i x H
def c_LR (base : Nat) (B : c_B) (ls : Array Slot) (nL : Nat) (L : c_Ls) : Prop := L.length = nL ∧ ls.size = nL ∧ lv_wf ls ∧ ∀ (i : Nat) (v : Value), L[i]? = some (some v) → ls[i]? = some (.val (c_v base B v))
theorem c_cell.kept {D : va_G} {A : Nat → ClassId} {base : Nat} {B : c_B} {i : Nat} {x : (Nat × List Value) ⊕ (Nat × List Value)} {H H1 : Heap} (h : c_cell D A base B i x H) (hq : H1[base + i]? = H[base + i]?) : c_cell D A base B i x H1 := by
  rcases x with q | q
  · obtain ⟨r, h1, h2, h3⟩ := h
    exact ⟨r, h1, h2, h3.kept hq⟩
  · exact ⟨h.1, by rw [hq]; exact h.2⟩
theorem c_HR.lt {D : va_G} {A : Nat → ClassId} {H0 : Heap} {base : Nat} {B : c_B} {h : c_Hp} {H : Heap} (R : c_HR D A H0 base B h H) {i : Nat} (hi : i < h.length) : base + i < H.size := by
  rw [R.2.1]; omega
theorem c_HR.set {D : va_G} {A : Nat → ClassId} {H0 : Heap} {base : Nat} {B : c_B} {h : c_Hp} {H H1 : Heap} (R : c_HR D A H0 base B h H) {i : Nat} {x : (Nat × List Value) ⊕ (Nat × List Value)} (hz : H1.size = H.size) (ho : ∀ q, q ≠ base + i → H1[q]? = H[q]?) (hx : c_cell D A base B i x H1) : c_HR D A H0 base B (h.set i (some x)) H1 := by
  obtain ⟨r1, r2, r3, r4⟩ := R
  refine ⟨r1, by rw [hz, r2, List.length_set], fun q hq => by rw [ho q (by omega)]; exact r3 q hq, fun j y hy => ?_⟩
  by_cases e : j = i
  · subst e
    rw [List.getElem?_set] at hy
    simp only [if_true] at hy
    split at hy
    · cases hy; exact hx
    · cases hy
  · rw [List.getElem?_set_ne (fun z => e z.symm)] at hy
    exact (r4 j y hy).kept (ho _ (by omega))
theorem c_HR.push {D : va_G} {A : Nat → ClassId} {H0 : Heap} {base : Nat} {B : c_B} {h : c_Hp} {H H1 : Heap} (R : c_HR D A H0 base B h H) {x : c_Cell} (hz : H1.size = H.size + 1) (ho : ∀ q, q < H.size → H1[q]? = H[q]?) (hx : ∀ y, x = some y → c_cell D A base B h.length y H1) : c_HR D A H0 base B (h ++ [x]) H1 := by
  obtain ⟨r1, r2, r3, r4⟩ := R
  refine ⟨r1, by rw [hz, r2, List.length_append]; rfl, fun q hq => by rw [ho q (by omega)]; exact r3 q hq, fun j y hy => ?_⟩
  by_cases e : j < h.length
  · rw [List.getElem?_append_left e] at hy
    exact (r4 j y hy).kept (ho _ (by rw [r2]; omega))
  · rw [List.getElem?_append_right (by omega)] at hy
    have e2 : j = h.length := by
      have := (List.getElem?_eq_some_iff.mp hy).1
      simp at this
      omega
    subst e2
    rw [Nat.sub_self] at hy
    exact hx y (by simpa using hy)
theorem c_LR.at {base : Nat} {B : c_B} {ls : Array Slot} {nL : Nat} {L : c_Ls} (h : c_LR base B ls nL L) {i : Nat} {v : Value} (hi : L[i]? = some (some v)) : ls[i]? = some (.val (c_v base B v)) := h.2.2.2 i v hi
def c_al (base : Nat) (B : c_B) (L : c_Ls) : List (Nat × Value) := (List.range L.length).filterMap (fun i => match L[i]? with
  | some (some v) => some (i, c_v base B v)
  | _ => none)
theorem c_al_mem {base : Nat} {B : c_B} {L : c_Ls} {i : Nat} {v : Value} (h : L[i]? = some (some v)) : (i, c_v base B v) ∈ c_al base B L := by
  unfold c_al
  refine List.mem_filterMap.mpr ⟨i, List.mem_range.mpr (List.getElem?_eq_some_iff.mp h).1, ?_⟩
  rw [h]
theorem c_al_of {base : Nat} {B : c_B} {L : c_Ls} {q : Nat × Value} (h : q ∈ c_al base B L) : ∃ v, L[q.1]? = some (some v) ∧ q.2 = c_v base B v := by
  unfold c_al at h
  obtain ⟨i, -, hi⟩ := List.mem_filterMap.mp h
  split at hi
  · rename_i v hv
    cases hi
    exact ⟨v, hv, rfl⟩
  · cases hi
theorem c_LR.has {base : Nat} {B : c_B} {ls : Array Slot} {nL : Nat} {L : c_Ls} (h : c_LR base B ls nL L) : lv_has ls nL (c_al base B L) := by
  refine ⟨h.2.1, h.2.2.1, fun q hq => ?_⟩
  obtain ⟨v, h1, h2⟩ := c_al_of hq
  rw [h2]
  exact h.2.2.2 _ _ h1
theorem c_clr_len (L : c_Ls) (i : Nat) : (c_clr L i).length = L.length := by
  unfold c_clr
  simp only [c_nth_eq, c_upd_eq]
  split
  · rfl
  · split
    · split
      · simp
      · rfl
    · rfl
theorem c_set_len (L : c_Ls) (i : Nat) (v : Value) : (c_set L i v).length = L.length := by
  unfold c_set
  rw [c_upd_eq, List.length_set, c_clr_len]
theorem c_clr_get {L : c_Ls} {i j : Nat} {w : Value} (hj : j ≠ i) (h : (c_clr L i)[j]? = some (some w)) : L[j]? = some (some w) ∧ ¬ (j + 1 = i ∧ w.category = 2) := by
  unfold c_clr at h
  simp only [c_nth_eq, c_upd_eq] at h
  cases i with
  | zero => exact ⟨h, fun q => by omega⟩
  | succ k =>
    simp only at h
    by_cases e : j = k
    · subst e
      cases hk : L[j]? with
      | none => rw [hk] at h; simp only at h; rw [hk] at h; cases h
      | some o =>
        cases o with
        | none => rw [hk] at h; simp only at h; rw [hk] at h; cases h
        | some u =>
          rw [hk] at h
          simp only at h
          split at h
          · rw [List.getElem?_set] at h
            simp only [if_true] at h
            split at h <;> cases h
          · rename_i hc
            rw [hk] at h
            cases h
            exact ⟨rfl, fun q => hc q.2⟩
    · have e2 : L[j]? = some (some w) := by
        split at h
        · split at h
          · rw [List.getElem?_set_ne (fun z => e z.symm)] at h; exact h
          · exact h
        · exact h
      exact ⟨e2, fun q => e (by omega)⟩
/-- behind a store -/
theorem c_LR.stored {base : Nat} {B : c_B} {ls ls' : Array Slot} {nL : Nat} {L : c_Ls} (h : c_LR base B ls nL L) {i : Nat} {v : Value} (hi : i < nL) (h' : lv_has ls' nL ((i, c_v base B v) :: (c_al base B L).filter (fun q => !(q.1 == i) && !(q.1 + 1 == i && q.2.category == 2)))) : c_LR base B ls' nL (c_set L i v) := by
  refine ⟨by rw [c_set_len]; exact h.1, h'.1, h'.2.1, fun j w hw => ?_⟩
  by_cases e : j = i
  · subst e
    unfold c_set at hw
    rw [c_upd_eq, List.getElem?_set] at hw
    simp only [if_true] at hw
    split at hw
    · cases hw
      exact h'.2.2 _ List.mem_cons_self
    · cases hw
  · unfold c_set at hw
    rw [c_upd_eq, List.getElem?_set_ne (fun z => e z.symm)] at hw
    obtain ⟨h1, h2⟩ := c_clr_get e hw
    refine h'.2.2 (j, c_v base B w) (List.mem_cons_of_mem _ (List.mem_filter.mpr ⟨c_al_mem h1, ?_⟩))
    have e3 : (c_v base B w).category = w.category := c_v_cat base B w
    simp only [e3]
    by_cases e4 : j + 1 = i
    · have e5 : ¬ w.category = 2 := fun z => h2 ⟨e4, z⟩
      simp [e, e5]
    · simp [e, e4]
theorem c_LR.forgot {base : Nat} {B : c_B} {ls : Array Slot} {nL : Nat} {L : c_Ls} (h : c_LR base B ls nL L) (i : Nat) : c_LR base B ls nL (L.set i none) := by
  refine ⟨by rw [List.length_set]; exact h.1, h.2.1, h.2.2.1, fun j w hw => ?_⟩
  rw [List.getElem?_set] at hw
  split at hw
  · split at hw <;> cases hw
  · exact h.2.2.2 j w hw
theorem c_set2_len (L : c_Ls) (i : Nat) (v : Value) : (c_set2 L i v).length = L.length := by
  unfold c_set2
  rw [c_upd_eq, c_upd_eq, List.length_set, List.length_set, c_clr_len]
theorem c_LR.stored2 {base : Nat} {B : c_B} {ls ls' : Array Slot} {nL : Nat} {L : c_Ls} (h : c_LR base B ls nL L) {i : Nat} {v : Value} (hi : i + 1 < nL) (h' : lv_has ls' nL ((i, c_v base B v) :: (c_al base B L).filter (fun q => !(q.1 == i) && (!(q.1 == i + 1) && !(q.1 + 1 == i && q.2.category == 2))))) : c_LR base B ls' nL (c_set2 L i v) := by
  refine ⟨by rw [c_set2_len]; exact h.1, h'.1, h'.2.1, fun j w hw => ?_⟩
  unfold c_set2 at hw
  rw [c_upd_eq, c_upd_eq] at hw
  by_cases e : j = i
  · subst e
    rw [List.getElem?_set] at hw
    simp only [if_true] at hw
    split at hw
    · cases hw
      exact h'.2.2 _ List.mem_cons_self
    · cases hw
  · rw [List.getElem?_set_ne (fun z => e z.symm)] at hw
    by_cases e6 : j = i + 1
    · subst e6
      rw [List.getElem?_set] at hw
      simp only [if_true] at hw
      split at hw <;> cases hw
    · rw [List.getElem?_set_ne (fun z => e6 z.symm)] at hw
      obtain ⟨h1, h2⟩ := c_clr_get e hw
      refine h'.2.2 (j, c_v base B w) (List.mem_cons_of_mem _ (List.mem_filter.mpr ⟨c_al_mem h1, ?_⟩))
      have e3 : (c_v base B w).category = w.category := c_v_cat base B w
      simp only [e3]
      by_cases e4 : j + 1 = i
      · have e5 : ¬ w.category = 2 := fun z => h2 ⟨e4, z⟩
        simp [e, e5, e6]
      · simp [e, e4, e6]
theorem c_isR_spec {t : FieldType} (h : c_isR t = true) (a : Nat) : narrow t (.ref a) = .ref a ∧ fits t (.ref a) = true := by
  cases t <;> simp only [c_isR] at h <;> first | (cases h; done) | exact ⟨rfl, rfl⟩
theorem c_isR_null {t : FieldType} (h : c_isR t = true) : narrow t .null = .null ∧ fits t .null = true := by
  cases t <;> simp only [c_isR] at h <;> first | (cases h; done) | exact ⟨rfl, rfl⟩
theorem c_okv_ok {t : FieldType} {v : Value} {base : Nat} {B : c_B} (h : c_okv t v = true) : narrow t (c_v base B v) = c_v base B v ∧ fits t (c_v base B v) = true := by
  unfold c_okv at h
  split at h
  · rw [Bool.and_eq_true, decide_eq_true_eq] at h
    exact ⟨h.2, h.1⟩
  · exact c_isR_null h
  · exact c_isR_spec h _
  · rename_i i
    split at h
    · rename_i h9
      have e : c_v base B (.retAddr i) = .ref (B.1 i) := by rw [c_v_r, if_pos h9]
      rw [e]
      exact c_isR_spec h _
    · rename_i h9
      have e : c_v base B (.retAddr i) = .int (B.2 i) := by rw [c_v_r, if_neg h9]
      rw [e, of_decide_eq_true h]
      exact ⟨rfl, rfl⟩
  · cases h
theorem c_fs_ok {h : c_Hp} {a k : Nat} {fs : List Value} (e : c_fs h a k = some fs) : h[a]? = some (some (.inl (k, fs))) := by
  unfold c_fs at e
  rw [c_nth_eq] at e
  split at e
  · rename_i q hq
    split at e
    · rename_i hk
      cases e
      obtain ⟨k1, f1⟩ := q
      cases Nat.eq_of_beq_eq_true hk
      exact hq
    · cases e
  · cases e
theorem c_vs_ok {h : c_Hp} {a k : Nat} {vs : List Value} (e : c_vs h a k = some vs) : h[a]? = some (some (.inr (k, vs))) := by
  unfold c_vs at e
  rw [c_nth_eq] at e
  split at e
  · rename_i q hq
    split at e
    · rename_i hk
      cases e
      obtain ⟨k1, f1⟩ := q
      cases Nat.eq_of_beq_eq_true hk
      exact hq
    · cases e
  · cases e
theorem c_ix_ok {i : Int32} {n j : Nat} (e : c_ix i n = some j) : ¬ i < 0 ∧ i.toNatClampNeg = j ∧ j < n := by
  unfold c_ix at e
  split at e
  · rename_i h1
    split at e
    · rename_i h2
      cases e
      have h3 := Nat.blt_eq.mp h1
      have h4 := Nat.blt_eq.mp h2
      have h5 : i.toInt = (i.toBitVec.toNat : Int) := by
        show i.toBitVec.toInt = _
        rw [BitVec.toInt_eq_toNat_cond, if_pos (by omega)]
      refine ⟨fun q => ?_, ?_, h4⟩
      · have h6 := Int32.lt_iff_toInt_lt.mp q
        rw [h5] at h6
        have h7 : (0 : Int32).toInt = 0 := by decide
        omega
      · show i.toInt.toNat = _
        rw [h5]; rfl
    · cases e
  · cases e
