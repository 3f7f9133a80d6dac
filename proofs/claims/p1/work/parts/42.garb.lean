/-! ### cells that nothing looks at may stand between: a run goes alike -/
def g_p (n d i : Nat) : Nat := if i < n then i else i + d
def g_v (n d : Nat) : Value → Value
  | .ref i => .ref (g_p n d i)
  | v => v
def g_st (n d : Nat) (st : List Value) : List Value := st.map (g_v n d)
def g_L (n d : Nat) (L : c_Ls) : c_Ls := L.map (Option.map (g_v n d))
def g_c (n d : Nat) : c_Cell → c_Cell
  | none => none
  | some (.inl q) => some (.inl (q.1, g_st n d q.2))
  | some (.inr q) => some (.inr (q.1, g_st n d q.2))
def g_h (n : Nat) (G : c_Hp) (h : c_Hp) : c_Hp := (h.take n).map (g_c n G.length) ++ (G ++ (h.drop n).map (g_c n G.length))
def g_r (n : Nat) (G : c_Hp) (r : c_R) : c_R := (r.1, g_L n G.length r.2.1, g_st n G.length r.2.2.1, g_h n G r.2.2.2)
def g_o (n d : Nat) : c_O → c_O
  | .inl v => .inl (v.map (g_v n d))
  | .inr X => .inr X
section Garb
variable {n d : Nat} {G : c_Hp} {E : c_E} {q : c_I} {pc i o m k9 : Nat} {L : c_Ls} {st : List Value} {h : c_Hp} {r : c_R} {v : Value} {k : Value → Bool}
theorem g_v_cat (n d : Nat) (v : Value) : (g_v n d v).category = v.category := by
  cases v <;> rfl
theorem g_sy (h : c_sy v = true) : g_v n d v = v := by
  cases v <;> first | rfl | (simp only [c_sy] at h; cases h)
theorem g_syk : ∀ v, c_sy v = true → c_sy (g_v n d v) = true := fun v h => by rw [g_sy h]; exact h
theorem g_rfk : ∀ v, c_rf v = true → c_rf (g_v n d v) = true := fun v h => by
  cases v <;> first | rfl | exact h
theorem g_lg : ∀ v, c_lg v = true → c_lg (g_v n d v) = true := fun v h => by
  cases v <;> first | exact h | (simp only [c_lg] at h; cases h)
theorem g_dbk : ∀ v, c_db v = true → c_db (g_v n d v) = true := fun v h => by
  cases v <;> first | exact h | (simp only [c_db] at h; cases h)
theorem g_flk : ∀ v, c_fl v = true → c_fl (g_v n d v) = true := fun v h => by
  cases v <;> first | exact h | (simp only [c_fl] at h; cases h)
theorem g_b01 : ∀ v, c_b01 v = true → c_b01 (g_v n d v) = true := fun v h => by
  cases v <;> first | exact h | (simp only [c_b01] at h; cases h)
theorem g_rn : ∀ v, c_rn v = true → c_rn (g_v n d v) = true := fun v h => by
  cases v <;> first | rfl | exact h
theorem g_nthL : c_nth (g_L n d L) i = (c_nth L i).map (Option.map (g_v n d)) := s_nth _ _ _
theorem g_updL {o : Option Value} : c_upd (g_L n d L) i (o.map (g_v n d)) = g_L n d (c_upd L i o) := s_upd _ _ _ _
theorem g_lenL : (g_L n d L).length = L.length := List.length_map _
theorem g_lenH (hn : n ≤ h.length) : (g_h n G h).length = h.length + G.length := by
  unfold g_h
  rw [List.length_append, List.length_append, List.length_map, List.length_map, List.length_take, List.length_drop]
  omega
theorem g_lenP (hn : n ≤ h.length) : (g_h n G h).length = g_p n G.length h.length := by
  rw [g_lenH hn]
  unfold g_p
  rw [if_neg (by omega)]
theorem g_nthH (hn : n ≤ h.length) {c : c_Cell} (e : c_nth h i = some c) : c_nth (g_h n G h) (g_p n G.length i) = some (g_c n G.length c) := by
  rw [c_nth_eq] at e ⊢
  have hi : i < h.length := (List.getElem?_eq_some_iff.mp e).1
  have l1 : ((h.take n).map (g_c n G.length)).length = n := by rw [List.length_map, List.length_take]; omega
  unfold g_h g_p
  split
  · rename_i h1
    rw [List.getElem?_append_left (by rw [l1]; exact h1), List.getElem?_map, List.getElem?_take, if_pos h1, e]
    rfl
  · rename_i h1
    rw [List.getElem?_append_right (by rw [l1]; omega), l1, List.getElem?_append_right (by omega), List.getElem?_map, List.getElem?_drop, show n + (i + G.length - n - G.length) = i from by omega, e]
    rfl
theorem g_updH (hn : n ≤ h.length) (x : c_Cell) : c_upd (g_h n G h) (g_p n G.length i) (g_c n G.length x) = g_h n G (c_upd h i x) := by
  rw [c_upd_eq, c_upd_eq]
  have l1 : ((h.take n).map (g_c n G.length)).length = n := by rw [List.length_map, List.length_take]; omega
  unfold g_h g_p
  split
  · rename_i h1
    rw [List.set_append_left _ _ (by rw [l1]; exact h1), List.take_set, List.map_set, List.drop_set_of_lt h1]
  · rename_i h1
    rw [List.set_append_right _ _ (by rw [l1]; omega), l1, List.set_append_right _ _ (by omega), List.take_set_of_le (by omega), List.drop_set, if_neg h1, List.map_set, show i + G.length - n - G.length = i - n from by omega]
theorem g_app (hn : n ≤ h.length) (x : c_Hp) : g_h n G (h ++ x) = g_h n G h ++ x.map (g_c n G.length) := by
  unfold g_h
  rw [List.take_append_of_le_length hn, List.drop_append_of_le_length hn, List.map_append]
  simp only [List.append_assoc]
theorem g_app1 (hn : n ≤ h.length) {x : c_Cell} (hx : g_c n G.length x = x) : g_h n G h ++ [x] = g_h n G (h ++ [x]) := by
  rw [g_app hn]
  show _ = _ ++ [g_c n G.length x]
  rw [hx]
theorem g_clr : ∀ (i : Nat) (L : c_Ls), c_clr (g_L n d L) i = g_L n d (c_clr L i)
  | 0, _ => rfl
  | j + 1, L => by
    show (match c_nth (g_L n d L) j with
      | some (some w) => if w.category = 2 then c_upd (g_L n d L) j none else g_L n d L
      | _ => g_L n d L) = g_L n d (match c_nth L j with
      | some (some w) => if w.category = 2 then c_upd L j none else L
      | _ => L)
    rw [g_nthL]
    cases c_nth L j with
    | none => rfl
    | some o =>
      cases o with
      | none => rfl
      | some w =>
        simp only [Option.map_some, g_v_cat]
        split
        · exact g_updL (o := none)
        · rfl
theorem g_set : c_set (g_L n d L) i (g_v n d v) = g_L n d (c_set L i v) := by
  unfold c_set
  rw [g_clr]
  exact g_updL (o := some v)
theorem g_set2 : c_set2 (g_L n d L) i (g_v n d v) = g_L n d (c_set2 L i v) := by
  unfold c_set2
  rw [g_clr]
  exact (congrArg (fun l => c_upd l i (some (g_v n d v))) (g_updL (o := none))).trans (g_updL (o := some v))
theorem g_fs (hn : n ≤ h.length) {a k : Nat} {fs : List Value} (e : c_fs h a k = some fs) : c_fs (g_h n G h) (g_p n G.length a) k = some (g_st n G.length fs) := by
  unfold c_fs at e ⊢
  split at e
  · rename_i q hq
    rw [g_nthH hn hq]
    split at e
    · rename_i h9
      cases e
      show (match Nat.beq q.1 k with
        | true => some (g_st n G.length q.2)
        | false => none) = _
      simp only [h9]
    · cases e
  · cases e
theorem g_vs (hn : n ≤ h.length) {a k : Nat} {fs : List Value} (e : c_vs h a k = some fs) : c_vs (g_h n G h) (g_p n G.length a) k = some (g_st n G.length fs) := by
  unfold c_vs at e ⊢
  split at e
  · rename_i q hq
    rw [g_nthH hn hq]
    split at e
    · rename_i h9
      cases e
      show (match Nat.beq q.1 k with
        | true => some (g_st n G.length q.2)
        | false => none) = _
      simp only [h9]
    · cases e
  · cases e
theorem g_sum8 {t : List Value} : c_sum8 (g_st n d t) = c_sum8 t := by
  unfold c_sum8 g_st
  rw [List.map_map, show ((fun v : Value => v.category) ∘ g_v n d) = (fun v => v.category) from funext fun v => g_v_cat n d v]
theorem g_lenS {t : List Value} : (g_st n d t).length = t.length := List.length_map _
theorem g_load (hk : ∀ v, k v = true → k (g_v n G.length v) = true) (e : c_load k L i m pc st h = some r) : c_load k (g_L n G.length L) i m pc (g_st n G.length st) (g_h n G h) = some (g_r n G r) := by
  unfold c_load at e ⊢
  rw [g_nthL]
  split at e
  · rename_i v hv
    rw [hv]
    split at e
    · rename_i h9
      cases e
      simp only [Option.map_some, hk v h9]
      rfl
    · cases e
  · cases e
theorem g_store (hk : ∀ v, k v = true → k (g_v n G.length v) = true) (e : c_store k L i m pc st h = some r) : c_store k (g_L n G.length L) i m pc (g_st n G.length st) (g_h n G h) = some (g_r n G r) := by
  unfold c_store at e
  split at e
  · rename_i v t9
    split at e
    · rename_i h9
      split at e
      · rename_i h8
        cases e
        show c_store k (g_L n G.length L) i m pc (g_v n G.length v :: g_st n G.length t9) (g_h n G h) = _
        unfold c_store
        simp only [hk v h9, g_lenL, h8, g_set]
        rfl
      · cases e
    · cases e
  · cases e
theorem g_store2 (hk : ∀ v, k v = true → k (g_v n G.length v) = true) (e : c_store2 k L i m pc st h = some r) : c_store2 k (g_L n G.length L) i m pc (g_st n G.length st) (g_h n G h) = some (g_r n G r) := by
  unfold c_store2 at e
  split at e
  · rename_i v t9
    split at e
    · rename_i h9
      split at e
      · rename_i h8
        cases e
        show c_store2 k (g_L n G.length L) i m pc (g_v n G.length v :: g_st n G.length t9) (g_h n G h) = _
        unfold c_store2
        simp only [hk v h9, g_lenL, h8, g_set2, if_true]
        rfl
      · cases e
    · cases e
  · cases e
theorem g_veq {x y : Value} (e : c_veq x y = true) : g_v n d y = y := by
  cases y <;> first | rfl | (cases x <;> (simp only [c_veq] at e; cases e))
theorem g_lk : ∀ {l : List c_F} {o : Nat} {x y v : Value}, c_lk l o x y = some v → g_v n d x = x ∧ g_v n d y = y
  | [], _, _, _, _, h => by simp [c_lk] at h
  | f :: r, o, x, y, v, h => by
    unfold c_lk at h
    split at h
    · rename_i h9
      rw [Bool.and_eq_true, Bool.and_eq_true] at h9
      exact ⟨g_veq h9.2.1, g_veq h9.2.2⟩
    · exact g_lk h
theorem g_opf {x y : Value} (e : c_opf E o x y = some v) : g_v n d x = x ∧ g_v n d y = y ∧ g_v n d v = v := by
  unfold c_opf at e
  split at e
  · rename_i w hw
    split at e
    · rename_i hs
      cases e
      obtain ⟨h1, h2⟩ := g_lk (n := n) (d := d) hw
      exact ⟨h1, h2, g_sy hs⟩
    · cases e
  · cases e
theorem g_op {f : Int32 → Int32 → Option Int32} {x y : Value} (e : c_op E o f x y = some v) : g_v n d x = x ∧ g_v n d y = y ∧ g_v n d v = v := by
  unfold c_op at e
  split at e
  · split at e
    · unfold c_opn at e
      split at e
      · rw [c_nrm_eq] at e
        cases e
        exact ⟨rfl, rfl, rfl⟩
      · cases e
    · exact g_opf e
  · exact g_opf e
theorem g_brb {cd : Jvm.ClassFile.Cond} {x y : Value} {t : Bool} (e : c_brb E cd x y = some t) : g_v n d x = x ∧ g_v n d y = y := by
  have h1 : ∀ x y : Value, c_one (c_opf E (c_cdn cd) x y) = some t → g_v n d x = x ∧ g_v n d y = y := fun x y e => by
    cases h9 : c_opf E (c_cdn cd) x y with
    | none => rw [h9] at e; cases e
    | some v =>
      obtain ⟨g1, g2, -⟩ := g_opf (n := n) (d := d) h9
      exact ⟨g1, g2⟩
  unfold c_brb at e
  split at e
  · split at e
    · exact ⟨rfl, rfl⟩
    · exact h1 _ _ e
  · exact h1 _ _ e
theorem g_b2 {f : Int32 → Int32 → Option Int32} (e : c_b2 E o f m pc L st h = some r) : c_b2 E o f m pc (g_L n G.length L) (g_st n G.length st) (g_h n G h) = some (g_r n G r) := by
  unfold c_b2 at e
  split at e
  · rename_i y x t9
    split at e
    · rename_i v hv
      cases e
      obtain ⟨g1, g2, g3⟩ := g_op (n := n) (d := G.length) hv
      show c_b2 E o f m pc _ (g_v n G.length y :: g_v n G.length x :: g_st n G.length t9) _ = some (pc + m, _, g_v n G.length v :: g_st n G.length t9, _)
      rw [g1, g2, g3]
      unfold c_b2
      simp only [hv]
    · cases e
  · cases e
theorem g_br {cd : Jvm.ClassFile.Cond} {x y : Value} (e : c_br E cd m x y pc L st h = some r) : c_br E cd m (g_v n G.length x) (g_v n G.length y) pc (g_L n G.length L) (g_st n G.length st) (g_h n G h) = some (g_r n G r) := by
  unfold c_br at e
  split at e
  · rename_i z hz
    obtain ⟨g1, g2⟩ := g_brb (n := n) (d := G.length) hz
    rw [g1, g2]
    unfold c_br
    simp only [hz]
    split at e <;> (cases e; rfl)
  · cases e
theorem g_getf (hn : n ≤ h.length) (e : c_getf q pc L st h = some r) : c_getf q pc (g_L n G.length L) (g_st n G.length st) (g_h n G h) = some (g_r n G r) := by
  unfold c_getf at e
  split at e
  · rename_i a t9
    split at e
    · cases e
    · rename_i h5
      split at e
      · rename_i fs hfs
        split at e
        · rename_i v hv
          cases e
          show c_getf q pc _ (.ref (g_p n G.length a) :: g_st n G.length t9) _ = _
          unfold c_getf
          have h2 : c_nth (g_st n G.length fs) q.2.2.1 = some (g_v n G.length v) := by unfold g_st; rw [s_nth, hv]; rfl
          simp only [h5, g_fs hn hfs, h2]
          rfl
        · cases e
      · cases e
  · rename_i t9
    split at e
    · rename_i h5
      cases e
      show c_getf q pc _ (.retAddr 2 :: g_st n G.length t9) _ = _
      unfold c_getf
      simp only [h5, if_true]
      rfl
    · cases e
  · cases e
theorem g_okv {t : FieldType} (e : c_okv t v = true) : c_okv t (g_v n d v) = true := by
  cases v <;> exact e
theorem g_updS {vs : List Value} {j : Nat} : c_upd (g_st n d vs) j (g_v n d v) = g_st n d (c_upd vs j v) := s_upd _ _ _ _
theorem g_putf (hn : n ≤ h.length) (e : c_putf q pc L st h = some r) : c_putf q pc (g_L n G.length L) (g_st n G.length st) (g_h n G h) = some (g_r n G r) := by
  unfold c_putf at e
  split at e
  · rename_i v a t9
    split at e
    · rename_i fs hfs
      split at e
      · rename_i hok
        split at e
        · rename_i hlt
          cases e
          show c_putf q pc _ (g_v n G.length v :: .ref (g_p n G.length a) :: g_st n G.length t9) _ = _
          unfold c_putf
          simp only [g_fs hn hfs, g_okv hok, g_lenS, hlt, if_true, g_updS]
          exact congrArg (fun x => some (pc + 3, g_L n G.length L, g_st n G.length t9, x)) (g_updH hn (some (.inl (q.2.1, c_upd fs q.2.2.1 v))))
        · cases e
      · cases e
    · cases e
  · cases e
theorem g_ald (hn : n ≤ h.length) (hk : ∀ v, k v = true → k (g_v n G.length v) = true) (e : c_ald m k pc L st h = some r) : ∃ (j : Int32) (a : Nat) (t9 : List Value), st = .int j :: .ref a :: t9 ∧ c_ald m k pc (g_L n G.length L) (.int j :: .ref (g_p n G.length a) :: g_st n G.length t9) (g_h n G h) = some (g_r n G r) := by
  unfold c_ald at e
  split at e
  · rename_i i9 a t9
    split at e
    · rename_i vs hvs
      split at e
      · rename_i j hj
        split at e
        · rename_i v hv
          split at e
          · rename_i h9
            cases e
            refine ⟨_, _, _, rfl, ?_⟩
            unfold c_ald
            have h2 : c_nth (g_st n G.length vs) j = some (g_v n G.length v) := by unfold g_st; rw [s_nth, hv]; rfl
            simp only [g_vs hn hvs, g_lenS, hj, h2, hk v h9]
            rfl
          · cases e
        · cases e
      · cases e
    · cases e
  · cases e
theorem g_ald2 (hn : n ≤ h.length) (hk : ∀ v, k v = true → k (g_v n G.length v) = true) (e : c_ald m k pc L st h = some r) : c_ald m k pc (g_L n G.length L) (g_st n G.length st) (g_h n G h) = some (g_r n G r) := by
  obtain ⟨j, a, t9, rfl, h1⟩ := g_ald (G := G) hn hk e
  exact h1
theorem g_iald (hn : n ≤ h.length) (e : c_iald E pc L st h = some r) : c_iald E pc (g_L n G.length L) (g_st n G.length st) (g_h n G h) = some (g_r n G r) := by
  unfold c_iald at e
  split at e
  · rename_i i9 t9
    split at e
    · rename_i j hj
      split at e
      · rename_i x hx
        split at e
        · rename_i hs
          cases e
          show c_iald E pc _ (.int i9 :: .retAddr 0 :: g_st n G.length t9) _ = some (pc + 1, _, g_v n G.length x :: g_st n G.length t9, _)
          rw [g_sy hs]
          unfold c_iald
          simp only [hj, hx, hs, if_true]
        · cases e
      · cases e
    · cases e
  · obtain ⟨j, a, t9, rfl, h1⟩ := g_ald (G := G) hn g_syk e
    exact h1
theorem g_aald (hn : n ≤ h.length) (e : c_aald q pc L st h = some r) : c_aald q pc (g_L n G.length L) (g_st n G.length st) (g_h n G h) = some (g_r n G r) := by
  unfold c_aald at e
  split at e
  · rename_i i9 t9
    split at e
    · rename_i h1
      cases e
      show c_aald q pc _ (.int i9 :: .retAddr 3 :: g_st n G.length t9) _ = _
      unfold c_aald
      simp only [h1, if_true]
      rfl
    · cases e
  · split at e
    · rename_i h2
      obtain ⟨j, a, t9, rfl, h1⟩ := g_ald (G := G) hn g_rfk e
      show c_aald q pc _ (.int j :: .ref (g_p n G.length a) :: g_st n G.length t9) _ = _
      unfold c_aald
      simp only [h2, if_true]
      exact h1
    · rename_i h2
      split at e
      · rename_i h3
        obtain ⟨j, a, t9, rfl, h1⟩ := g_ald (G := G) hn g_rn e
        show c_aald q pc _ (.int j :: .ref (g_p n G.length a) :: g_st n G.length t9) _ = _
        unfold c_aald
        simp only [h2, h3, if_true, if_false]
        exact h1
      · cases e
theorem g_ast (hn : n ≤ h.length) {kh : c_Hp → Value → Bool} (hk : ∀ v, kh h v = true → kh (g_h n G h) (g_v n G.length v) = true) (e : c_ast m (kh h) pc L st h = some r) : c_ast m (kh (g_h n G h)) pc (g_L n G.length L) (g_st n G.length st) (g_h n G h) = some (g_r n G r) := by
  unfold c_ast at e
  split at e
  · rename_i x i9 a t9
    split at e
    · rename_i vs hvs
      split at e
      · rename_i j hj
        split at e
        · rename_i hok
          cases e
          show c_ast m (kh (g_h n G h)) pc _ (g_v n G.length x :: .int i9 :: .ref (g_p n G.length a) :: g_st n G.length t9) _ = _
          unfold c_ast
          simp only [g_vs hn hvs, g_lenS, hj, hk x hok, if_true, g_updS]
          exact congrArg (fun x => some (pc + 1, g_L n G.length L, g_st n G.length t9, x)) (g_updH hn (some (.inr (m, c_upd vs j x))))
        · cases e
      · cases e
    · cases e
  · cases e
theorem g_ok3 (hn : n ≤ h.length) : ∀ v, c_ok3 h v = true → c_ok3 (g_h n G h) (g_v n G.length v) = true := by
  intro v hv
  unfold c_ok3 at hv
  split at hv
  · rename_i a
    obtain ⟨ws, hws⟩ := Option.isSome_iff_exists.mp hv
    show (c_vs (g_h n G h) (g_p n G.length a) 0).isSome = true
    rw [g_vs hn hws]
    rfl
  · exact hv
  · rfl
  · cases hv
theorem g_aast (hn : n ≤ h.length) (e : c_aast q pc L st h = some r) : c_aast q pc (g_L n G.length L) (g_st n G.length st) (g_h n G h) = some (g_r n G r) := by
  unfold c_aast at e ⊢
  split at e
  · rename_i h3
    rw [if_pos h3]
    exact g_ast hn (kh := c_ok3) (g_ok3 hn) e
  · cases e
theorem g_alen (hn : n ≤ h.length) (e : c_alen E q pc L st h = some r) : c_alen E q pc (g_L n G.length L) (g_st n G.length st) (g_h n G h) = some (g_r n G r) := by
  unfold c_alen at e
  split at e
  · rename_i a t9
    split at e
    · rename_i vs hvs
      split at e
      · rename_i h6
        rw [c_nrm_eq] at e
        cases e
        show c_alen _ q pc _ (.ref (g_p n G.length a) :: g_st n G.length t9) _ = _
        unfold c_alen
        have h1 : c_nth (g_h n G h) (g_p n G.length a) = some (some (.inr (vs.1, g_st n G.length vs.2))) := g_nthH hn hvs
        simp only [h1, h6, if_true, c_nrm_eq, g_lenS]
        rfl
      · cases e
    · cases e
  · cases e; rfl
  · cases e; rfl
  · cases e
theorem g_dv (n d : Nat) (t : FieldType) : g_v n d (defaultValue t) = defaultValue t := by
  cases t <;> rfl
theorem g_rep (v : Value) (hv : g_v n d v = v) (m : Nat) : g_st n d (List.replicate m v) = List.replicate m v := by
  unfold g_st
  rw [List.map_replicate, hv]
theorem g_newa (hn : n ≤ h.length) (e : c_newa q pc m L st h = some r) : c_newa q pc m (g_L n G.length L) (g_st n G.length st) (g_h n G h) = some (g_r n G r) := by
  unfold c_newa at e
  split at e
  · rename_i n9 t9
    split at e
    · cases e
    · rename_i h1
      split at e
      · rename_i h2
        cases e
        show c_newa q pc m _ (.int n9 :: g_st n G.length t9) _ = _
        unfold c_newa
        have h3 : g_c n G.length (some (.inr (q.2.1, List.replicate n9.toNatClampNeg (defaultValue (c_tag q.2.1))))) = some (.inr (q.2.1, List.replicate n9.toNatClampNeg (defaultValue (c_tag q.2.1)))) := by
          show some (Sum.inr (q.2.1, g_st n G.length (List.replicate n9.toNatClampNeg (defaultValue (c_tag q.2.1))))) = _
          rw [g_rep _ (g_dv _ _ _)]
        simp only [h1, h2, if_true, if_false, g_app1 hn h3, g_lenP hn]
        rfl
      · cases e
  · cases e
theorem g_mnew (hn : n ≤ h.length) (e : c_mnew pc L st h = some r) : c_mnew pc (g_L n G.length L) (g_st n G.length st) (g_h n G h) = some (g_r n G r) := by
  unfold c_mnew at e
  split at e
  · rename_i k9 n9 t9
    split at e
    · cases e
    · rename_i h1
      split at e
      · cases e
      · rename_i h2
        split at e
        · rename_i h3
          split at e
          · rename_i h4
            cases e
            show c_mnew pc _ (.int k9 :: .int n9 :: g_st n G.length t9) _ = _
            unfold c_mnew
            simp only [h1, h2, h3, h4, if_true, if_false]
            have g1 : g_h n G ((h ++ [some (.inr (2, (List.range n9.toNatClampNeg).map (fun j => Value.ref (h.length + 1 + j))))]) ++ List.replicate n9.toNatClampNeg (some (.inr (0, List.replicate k9.toNatClampNeg (Value.int 0))))) = (g_h n G h ++ [some (.inr (2, (List.range n9.toNatClampNeg).map (fun j => Value.ref ((g_h n G h).length + 1 + j))))]) ++ List.replicate n9.toNatClampNeg (some (.inr (0, List.replicate k9.toNatClampNeg (Value.int 0)))) := by
              rw [List.append_assoc, g_app hn, List.map_append, List.map_replicate, ← List.append_assoc]
              have e1 : g_c n G.length (some (.inr (0, List.replicate k9.toNatClampNeg (Value.int 0)))) = some (.inr (0, List.replicate k9.toNatClampNeg (Value.int 0))) := by
                show some (Sum.inr (0, g_st n G.length (List.replicate k9.toNatClampNeg (Value.int 0)))) = _
                rw [g_rep _ rfl]
              have e2 : [some (Sum.inr (2, (List.range n9.toNatClampNeg).map (fun j => Value.ref (h.length + 1 + j))))].map (g_c n G.length) = [some (Sum.inr (2, (List.range n9.toNatClampNeg).map (fun j => Value.ref ((g_h n G h).length + 1 + j))))] := by
                show [some (Sum.inr (2, g_st n G.length ((List.range n9.toNatClampNeg).map (fun j => Value.ref (h.length + 1 + j)))))] = _
                unfold g_st
                rw [List.map_map]
                have e3 : (g_v n G.length ∘ fun j => Value.ref (h.length + 1 + j)) = fun j => Value.ref ((g_h n G h).length + 1 + j) := by
                  funext j
                  show Value.ref (g_p n G.length (h.length + 1 + j)) = Value.ref ((g_h n G h).length + 1 + j)
                  have e4 : g_p n G.length (h.length + 1 + j) = (g_h n G h).length + 1 + j := by
                    have e5 : ¬ h.length + 1 + j < n := by omega
                    rw [g_lenH hn]
                    unfold g_p
                    rw [if_neg e5]
                    omega
                  rw [e4]
                rw [e3]
              rw [e1, e2]
            show _ = some (pc + 4, g_L n G.length L, Value.ref (g_p n G.length h.length) :: g_st n G.length t9, _)
            rw [g1, ← g_lenP hn]
          · cases e
        · cases e
  · cases e
theorem g_cast (hn : n ≤ h.length) (e : c_cast q pc L st h = some r) : c_cast q pc (g_L n G.length L) (g_st n G.length st) (g_h n G h) = some (g_r n G r) := by
  unfold c_cast at e
  split at e
  · rename_i a t9
    split at e
    · rename_i h0
      split at e
      · rename_i vs hvs
        cases e
        show c_cast q pc _ (.ref (g_p n G.length a) :: g_st n G.length t9) _ = _
        unfold c_cast
        simp only [h0, g_vs hn hvs, if_true]
        rfl
      · cases e
    · cases e
  · rename_i t9
    split at e
    · rename_i h1
      cases e
      show c_cast q pc _ (.retAddr 2 :: g_st n G.length t9) _ = _
      unfold c_cast
      simp only [h1, if_true]
      rfl
    · cases e
  · cases e
theorem g_lay {vs ws : List Value} {a b c : Nat} : c_lay (g_st n d vs) (g_st n d ws) a b c = g_st n d (c_lay vs ws a b c) := by
  unfold c_lay g_st
  rw [List.map_append, List.map_append, List.map_take, List.map_take, List.map_drop, List.map_drop]
theorem g_cpy (hn : n ≤ h.length) {kh : c_Hp → Value → Bool} (hk : ∀ v, kh h v = true → kh (g_h n G h) (g_v n G.length v) = true) {sp dp m9 : Int32} {a a2 : Nat} {t9 : List Value} (e : c_cpy m (kh h) sp dp m9 a a2 pc L t9 h = some r) : c_cpy m (kh (g_h n G h)) sp dp m9 (g_p n G.length a) (g_p n G.length a2) pc (g_L n G.length L) (g_st n G.length t9) (g_h n G h) = some (g_r n G r) := by
  unfold c_cpy at e
  split at e
  · rename_i vs ws hvs hws
    split at e
    · cases e
    · rename_i g1
      split at e
      · cases e
      · rename_i g2
        split at e
        · cases e
        · rename_i g3
          split at e
          · rename_i g4
            split at e
            · rename_i g5
              split at e
              · rename_i g6
                split at e
                · rename_i g7
                  cases e
                  have g8 : (((g_st n G.length vs).drop sp.toNatClampNeg).take m9.toNatClampNeg).all (kh (g_h n G h)) = true := by
                    unfold g_st
                    rw [← List.map_drop, ← List.map_take]
                    refine List.all_eq_true.mpr fun v hv => ?_
                    obtain ⟨w, hw, rfl⟩ := List.mem_map.mp hv
                    exact hk w (List.all_eq_true.mp g6 w hw)
                  have g9 : c_sum8 (g_st n G.length t9) = true := by
                    rw [g_sum8]
                    exact g7
                  unfold c_cpy
                  simp only [g_vs hn hvs, g_vs hn hws, g1, g2, g3, g_lenS, g4, g5, g8, g9, if_true, if_false, g_lay]
                  exact congrArg (fun x => some (pc + 3, g_L n G.length L, g_st n G.length t9, x)) (g_updH hn (some (.inr (m, c_lay vs ws sp.toNatClampNeg dp.toNatClampNeg m9.toNatClampNeg))))
                · cases e
              · cases e
            · cases e
          · cases e
  · cases e
end Garb
