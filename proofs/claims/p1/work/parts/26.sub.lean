/-! ### numbers that aren't known, told: a run goes alike where they are ints -/
def s_v (B : c_B) : Value → Value
  | .retAddr i => if i < 10 then .retAddr i else .int (B.2 i)
  | .double d => if c_M0 ≤ d.toNat then .long (B.2 (d.toNat - c_M0)).toInt64 else .double d
  | v => v
def s_L (B : c_B) (L : c_Ls) : c_Ls := L.map (Option.map (s_v B))
def s_c (B : c_B) : c_Cell → c_Cell
  | none => none
  | some (.inl q) => some (.inl (q.1, q.2.map (s_v B)))
  | some (.inr q) => some (.inr (q.1, q.2.map (s_v B)))
def s_h (B : c_B) (h : c_Hp) : c_Hp := h.map (s_c B)
def s_st (B : c_B) (st : List Value) : List Value := st.map (s_v B)
def s_r (B : c_B) (r : c_R) : c_R := (r.1, s_L B r.2.1, s_st B r.2.2.1, s_h B r.2.2.2)
def s_E (B : c_B) (F : List c_F) (E : c_E) : c_E := (F, E.2.map (s_v B))
def s_o (B : c_B) : c_O → c_O
  | .inl v => .inl (v.map (s_v B))
  | .inr X => .inr X
section Sub
variable {B : c_B} {F : List c_F} {E : c_E} {q : c_I} {pc i n o m : Nat} {L : c_Ls} {st : List Value} {h : c_Hp} {r : c_R} {v : Value} {k : Value → Bool}
theorem s_v_r (B : c_B) (i : Nat) : s_v B (.retAddr i) = if i < 10 then .retAddr i else .int (B.2 i) := rfl
theorem s_v_d (B : c_B) (d : UInt64) : s_v B (.double d) = if c_M0 ≤ d.toNat then .long (B.2 (d.toNat - c_M0)).toInt64 else .double d := rfl
theorem s_v_cat (B : c_B) (v : Value) : (s_v B v).category = v.category := by
  cases v <;> try rfl
  · rw [s_v_d]; split <;> rfl
  · rw [s_v_r]; split <;> rfl
theorem s_iv {a : Int32} (h : c_iv B v = some a) : s_v B v = .int a := by
  cases v <;> simp only [c_iv] at h <;> try (cases h; done)
  · cases h; rfl
  · rename_i i
    split at h
    · rename_i h9
      cases h
      rw [s_v_r, if_neg (by omega)]
    · cases h
theorem s_sy : ∀ v, c_sy v = true → c_sy (s_v B v) = true := fun v h => by
  obtain ⟨a, h1⟩ := c_sy_iv (B := B) h
  rw [s_iv h1]
  rfl
theorem s_rf {v : Value} (h : c_rf v = true) : s_v B v = v := by
  cases v <;> simp only [c_rf] at h <;> try (cases h; done)
  · rfl
  · rw [s_v_r, if_pos (Nat.blt_eq.mp h)]
theorem s_rfk : ∀ v, c_rf v = true → c_rf (s_v B v) = true := fun v h => by rw [s_rf h]; exact h
theorem s_lg : ∀ v, c_lg v = true → c_lg (s_v B v) = true := fun v h => by
  cases v <;> simp only [c_lg] at h <;> try (cases h; done)
  · rfl
  · rw [s_v_d, if_pos (Nat.le_of_ble_eq_true h)]; rfl
theorem s_dbk : ∀ v, c_db v = true → c_db (s_v B v) = true := fun v h => by
  cases v <;> simp only [c_db] at h <;> try (cases h; done)
  rw [s_v_d, if_neg (Nat.not_le.mpr (Nat.blt_eq.mp h))]
  exact h
theorem s_flk : ∀ v, c_fl v = true → c_fl (s_v B v) = true := fun v h => by
  cases v <;> simp only [c_fl] at h <;> try (cases h; done)
  rfl
theorem s_b01 : ∀ v, c_b01 v = true → c_b01 (s_v B v) = true := fun v h => by
  cases v <;> simp only [c_b01] at h <;> try (cases h; done)
  exact h
theorem s_rn : ∀ v, c_rn v = true → c_rn (s_v B v) = true := fun v h => by
  unfold c_rn at h
  split at h
  · rfl
  · rw [s_rf h]
    unfold c_rn
    split
    · rfl
    · exact h
theorem s_nth {α β : Type} (f : α → β) (l : List α) (i : Nat) : c_nth (l.map f) i = (c_nth l i).map f := by rw [c_nth_eq, c_nth_eq, List.getElem?_map]
theorem s_upd {α β : Type} (f : α → β) (l : List α) (i : Nat) (v : α) : c_upd (l.map f) i (f v) = (c_upd l i v).map f := by rw [c_upd_eq, c_upd_eq, List.map_set]
theorem s_nthL : c_nth (s_L B L) i = (c_nth L i).map (Option.map (s_v B)) := s_nth _ _ _
theorem s_nthH : c_nth (s_h B h) i = (c_nth h i).map (s_c B) := s_nth _ _ _
theorem s_updL {o : Option Value} : c_upd (s_L B L) i (o.map (s_v B)) = s_L B (c_upd L i o) := s_upd _ _ _ _
theorem s_updH {x : c_Cell} : c_upd (s_h B h) i (s_c B x) = s_h B (c_upd h i x) := s_upd _ _ _ _
theorem s_lenL : (s_L B L).length = L.length := List.length_map _
theorem s_lenH : (s_h B h).length = h.length := List.length_map _
theorem s_clr : ∀ (i : Nat) (L : c_Ls), c_clr (s_L B L) i = s_L B (c_clr L i)
  | 0, _ => rfl
  | j + 1, L => by
    show (match c_nth (s_L B L) j with
      | some (some w) => if w.category = 2 then c_upd (s_L B L) j none else s_L B L
      | _ => s_L B L) = s_L B (match c_nth L j with
      | some (some w) => if w.category = 2 then c_upd L j none else L
      | _ => L)
    rw [s_nthL]
    cases c_nth L j with
    | none => rfl
    | some o =>
      cases o with
      | none => rfl
      | some w =>
        simp only [Option.map_some, s_v_cat]
        split
        · exact s_updL (o := none)
        · rfl
theorem s_set : c_set (s_L B L) i (s_v B v) = s_L B (c_set L i v) := by
  unfold c_set
  rw [s_clr]
  exact s_updL (o := some v)
theorem s_set2 : c_set2 (s_L B L) i (s_v B v) = s_L B (c_set2 L i v) := by
  unfold c_set2
  rw [s_clr]
  exact (congrArg (fun l => c_upd l i (some (s_v B v))) (s_updL (o := none))).trans (s_updL (o := some v))
theorem s_fs {a k : Nat} {fs : List Value} (e : c_fs h a k = some fs) : c_fs (s_h B h) a k = some (fs.map (s_v B)) := by
  unfold c_fs at e ⊢
  rw [s_nthH]
  split at e
  · rename_i q hq
    rw [hq]
    split at e
    · rename_i h9
      cases e
      show (match Nat.beq q.1 k with
        | true => some (q.2.map (s_v B))
        | false => none) = _
      simp only [h9]
    · cases e
  · cases e
theorem s_vs {a k : Nat} {fs : List Value} (e : c_vs h a k = some fs) : c_vs (s_h B h) a k = some (fs.map (s_v B)) := by
  unfold c_vs at e ⊢
  rw [s_nthH]
  split at e
  · rename_i q hq
    rw [hq]
    split at e
    · rename_i h9
      cases e
      show (match Nat.beq q.1 k with
        | true => some (q.2.map (s_v B))
        | false => none) = _
      simp only [h9]
    · cases e
  · cases e
theorem s_sum8 {t : List Value} : c_sum8 (t.map (s_v B)) = c_sum8 t := by
  unfold c_sum8
  rw [List.map_map, show ((fun v : Value => v.category) ∘ s_v B) = (fun v => v.category) from funext fun v => s_v_cat B v]
theorem s_load (hk : ∀ v, k v = true → k (s_v B v) = true) (e : c_load k L i n pc st h = some r) : c_load k (s_L B L) i n pc (s_st B st) (s_h B h) = some (s_r B r) := by
  unfold c_load at e ⊢
  rw [s_nthL]
  split at e
  · rename_i v hv
    rw [hv]
    split at e
    · rename_i h9
      cases e
      simp only [Option.map_some, hk v h9]
      rfl
    · cases e
  · cases e
theorem s_store (hk : ∀ v, k v = true → k (s_v B v) = true) (e : c_store k L i n pc st h = some r) : c_store k (s_L B L) i n pc (s_st B st) (s_h B h) = some (s_r B r) := by
  unfold c_store at e
  split at e
  · rename_i v t9
    split at e
    · rename_i h9
      split at e
      · rename_i h8
        cases e
        show c_store k (s_L B L) i n pc (s_v B v :: s_st B t9) (s_h B h) = _
        unfold c_store
        simp only [hk v h9, s_lenL, h8, s_set]
        rfl
      · cases e
    · cases e
  · cases e
theorem s_store2 (hk : ∀ v, k v = true → k (s_v B v) = true) (e : c_store2 k L i n pc st h = some r) : c_store2 k (s_L B L) i n pc (s_st B st) (s_h B h) = some (s_r B r) := by
  unfold c_store2 at e
  split at e
  · rename_i v t9
    split at e
    · rename_i h9
      split at e
      · rename_i h8
        cases e
        show c_store2 k (s_L B L) i n pc (s_v B v :: s_st B t9) (s_h B h) = _
        unfold c_store2
        simp only [hk v h9, s_lenL, h8, s_set2, if_true]
        rfl
      · cases e
    · cases e
  · cases e
theorem s_op (hE : ∀ f ∈ E.1, c_hold B f) {f : Int32 → Int32 → Option Int32} (hf : c_sem o = f) {E' : c_E} {x y : Value} (e : c_op E o f x y = some v) : c_op E' o f (s_v B x) (s_v B y) = some (s_v B v) := by
  obtain ⟨a, b, z, h1, h2, h3, h4⟩ := c_op_ok hE hf e
  rw [s_iv h1, s_iv h2, s_iv h4]
  show c_opn (f a b) = _
  rw [h3]
  show c_nrm z (fun w => some (Value.int w)) = _
  rw [c_nrm_eq]
theorem s_b2 (hE : ∀ f ∈ E.1, c_hold B f) {f : Int32 → Int32 → Option Int32} (hf : c_sem o = f) {E' : c_E} (e : c_b2 E o f n pc L st h = some r) : c_b2 E' o f n pc (s_L B L) (s_st B st) (s_h B h) = some (s_r B r) := by
  unfold c_b2 at e
  split at e
  · rename_i y x t9
    split at e
    · rename_i v hv
      cases e
      show c_b2 E' o f n pc _ (s_v B y :: s_v B x :: s_st B t9) _ = _
      unfold c_b2
      simp only [s_op hE hf hv]
      rfl
    · cases e
  · cases e
theorem s_br (hE : ∀ f ∈ E.1, c_hold B f) {E' : c_E} {cd : Jvm.ClassFile.Cond} {x y : Value} (e : c_br E cd n x y pc L st h = some r) : c_br E' cd n (s_v B x) (s_v B y) pc (s_L B L) (s_st B st) (s_h B h) = some (s_r B r) := by
  unfold c_br at e
  split at e
  · rename_i z hz
    obtain ⟨a, b, h1, h2, h3⟩ := c_brb_ok hE hz
    rw [s_iv h1, s_iv h2]
    have h4 : c_brb E' cd (.int a) (.int b) = some z := congrArg some h3
    unfold c_br
    simp only [h4]
    split at e <;> (cases e; rfl)
  · cases e
theorem s_getf (e : c_getf q pc L st h = some r) : c_getf q pc (s_L B L) (s_st B st) (s_h B h) = some (s_r B r) := by
  unfold c_getf at e
  split at e
  · rename_i a t9
    split at e
    · cases e
    · rename_i h5
      split at e
      · rename_i fs hfs
        split at e
        · rename_i v hv
          cases e
          show c_getf q pc _ (.ref a :: s_st B t9) _ = _
          unfold c_getf
          simp only [h5, s_fs hfs, s_nth, hv, Option.map_some]
          rfl
        · cases e
      · cases e
  · rename_i t9
    split at e
    · rename_i h5
      cases e
      show c_getf q pc _ (.retAddr 2 :: s_st B t9) _ = _
      unfold c_getf
      simp only [h5, if_true]
      rfl
    · cases e
  · cases e
theorem s_okv {t : FieldType} (e : c_okv t v = true) : c_okv t (s_v B v) = true := by
  cases v <;> try (exact e)
  · simp only [c_okv] at e; cases e
  · rename_i i
    rw [s_v_r]
    simp only [c_okv] at e
    split at e
    · rename_i h9
      rw [if_pos h9]
      show (if i < 10 then c_isR t else decide (t = .int)) = true
      rw [if_pos h9]
      exact e
    · rename_i h9
      rw [if_neg h9]
      rw [of_decide_eq_true e]
      show (fits .int (.int (B.2 i)) && decide (narrow .int (.int (B.2 i)) = .int (B.2 i))) = true
      rw [Bool.and_eq_true]
      exact ⟨rfl, decide_eq_true rfl⟩
theorem s_putf (e : c_putf q pc L st h = some r) : c_putf q pc (s_L B L) (s_st B st) (s_h B h) = some (s_r B r) := by
  unfold c_putf at e
  split at e
  · rename_i v a t9
    split at e
    · rename_i fs hfs
      split at e
      · rename_i hok
        split at e
        · rename_i hlt
          cases e
          show c_putf q pc _ (s_v B v :: .ref a :: s_st B t9) _ = _
          unfold c_putf
          simp only [s_fs hfs, s_okv hok, List.length_map, hlt, if_true, s_upd]
          exact congrArg (fun x => some (pc + 3, s_L B L, s_st B t9, x)) (s_updH (x := some (.inl (q.2.1, c_upd fs q.2.2.1 v))))
        · cases e
      · cases e
    · cases e
  · cases e
theorem s_ald (hk : ∀ v, k v = true → k (s_v B v) = true) (e : c_ald m k pc L st h = some r) : ∃ (j : Int32) (a : Nat) (t9 : List Value), st = .int j :: .ref a :: t9 ∧ c_ald m k pc (s_L B L) (.int j :: .ref a :: s_st B t9) (s_h B h) = some (s_r B r) := by
  unfold c_ald at e
  split at e
  · rename_i i9 a t9
    split at e
    · rename_i vs hvs
      split at e
      · rename_i j hj
        split at e
        · rename_i v hv
          split at e
          · rename_i h9
            cases e
            refine ⟨_, _, _, rfl, ?_⟩
            unfold c_ald
            simp only [s_vs hvs, List.length_map, hj, s_nth, hv, Option.map_some, hk v h9]
            rfl
          · cases e
        · cases e
      · cases e
    · cases e
  · cases e
theorem s_ald2 (hk : ∀ v, k v = true → k (s_v B v) = true) (e : c_ald m k pc L st h = some r) : c_ald m k pc (s_L B L) (s_st B st) (s_h B h) = some (s_r B r) := by
  obtain ⟨j, a, t9, rfl, h1⟩ := s_ald (B := B) hk e
  exact h1
theorem s_iald (e : c_iald E pc L st h = some r) : c_iald (s_E B F E) pc (s_L B L) (s_st B st) (s_h B h) = some (s_r B r) := by
  unfold c_iald at e
  split at e
  · rename_i i9 t9
    split at e
    · rename_i j hj
      split at e
      · rename_i x hx
        split at e
        · rename_i hs
          cases e
          show c_iald (s_E B F E) pc _ (.int i9 :: .retAddr 0 :: s_st B t9) _ = _
          unfold c_iald
          have h1 : (s_E B F E).2.length = E.2.length := List.length_map _
          have h2 : c_nth (s_E B F E).2 j = some (s_v B x) := by
            show c_nth (E.2.map (s_v B)) j = _
            rw [s_nth, hx]; rfl
          simp only [h1, hj, h2, s_sy x hs, if_true]
          rfl
        · cases e
      · cases e
    · cases e
  · obtain ⟨j, a, t9, rfl, h1⟩ := s_ald (B := B) s_sy e
    exact h1
theorem s_aald (e : c_aald q pc L st h = some r) : c_aald q pc (s_L B L) (s_st B st) (s_h B h) = some (s_r B r) := by
  unfold c_aald at e
  split at e
  · rename_i i9 t9
    split at e
    · rename_i h1
      cases e
      show c_aald q pc _ (.int i9 :: .retAddr 3 :: s_st B t9) _ = _
      unfold c_aald
      simp only [h1, if_true]
      rfl
    · cases e
  · split at e
    · rename_i h2
      obtain ⟨j, a, t9, rfl, h1⟩ := s_ald (B := B) s_rfk e
      show c_aald q pc _ (.int j :: .ref a :: s_st B t9) _ = _
      unfold c_aald
      simp only [h2, if_true]
      exact h1
    · rename_i h2
      split at e
      · rename_i h3
        obtain ⟨j, a, t9, rfl, h1⟩ := s_ald (B := B) s_rn e
        show c_aald q pc _ (.int j :: .ref a :: s_st B t9) _ = _
        unfold c_aald
        simp only [h2, h3, if_true, if_false]
        exact h1
      · cases e
theorem s_ast {kh : c_Hp → Value → Bool} (hk : ∀ v, kh h v = true → kh (s_h B h) (s_v B v) = true) (e : c_ast m (kh h) pc L st h = some r) : c_ast m (kh (s_h B h)) pc (s_L B L) (s_st B st) (s_h B h) = some (s_r B r) := by
  unfold c_ast at e
  split at e
  · rename_i x i9 a t9
    split at e
    · rename_i vs hvs
      split at e
      · rename_i j hj
        split at e
        · rename_i hok
          cases e
          show c_ast m (kh (s_h B h)) pc _ (s_v B x :: .int i9 :: .ref a :: s_st B t9) _ = _
          unfold c_ast
          simp only [s_vs hvs, List.length_map, hj, hk x hok, if_true, s_upd]
          exact congrArg (fun x => some (pc + 1, s_L B L, s_st B t9, x)) (s_updH (x := some (.inr (m, c_upd vs j x))))
        · cases e
      · cases e
    · cases e
  · cases e
theorem s_ok3 : ∀ v, c_ok3 h v = true → c_ok3 (s_h B h) (s_v B v) = true := by
  intro v hv
  unfold c_ok3 at hv
  split at hv
  · rename_i a
    obtain ⟨ws, hws⟩ := Option.isSome_iff_exists.mp hv
    show (c_vs (s_h B h) a 0).isSome = true
    rw [s_vs hws]
    rfl
  · rename_i i
    have h1 := Nat.eq_of_beq_eq_true hv
    subst h1
    rfl
  · rfl
  · cases hv
theorem s_aast (e : c_aast q pc L st h = some r) : c_aast q pc (s_L B L) (s_st B st) (s_h B h) = some (s_r B r) := by
  unfold c_aast at e ⊢
  split at e
  · rename_i h3
    rw [if_pos h3]
    exact s_ast (kh := c_ok3) s_ok3 e
  · cases e
theorem s_alen (e : c_alen E q pc L st h = some r) : c_alen (s_E B F E) q pc (s_L B L) (s_st B st) (s_h B h) = some (s_r B r) := by
  unfold c_alen at e
  split at e
  · rename_i a t9
    split at e
    · rename_i vs hvs
      split at e
      · rename_i h6
        rw [c_nrm_eq] at e
        cases e
        show c_alen _ q pc _ (.ref a :: s_st B t9) _ = _
        unfold c_alen
        have h1 : c_nth (s_h B h) a = some (some (.inr (vs.1, vs.2.map (s_v B)))) := by rw [s_nthH, hvs]; rfl
        simp only [h1, h6, if_true, c_nrm_eq, List.length_map]
        rfl
      · cases e
    · cases e
  · rename_i t9
    cases e
    have h1 : (s_E B F E).2.length = E.2.length := List.length_map _
    show some (pc + 1, s_L B L, Value.int (Int32.ofNat (s_E B F E).2.length) :: s_st B t9, s_h B h) = _
    rw [h1]
    rfl
  · cases e
    rfl
  · cases e
theorem s_dv (B : c_B) (t : FieldType) : s_v B (defaultValue t) = defaultValue t := by
  cases t <;> rfl
theorem s_app {x : c_Cell} (hx : s_c B x = x) : s_h B h ++ [x] = s_h B (h ++ [x]) := by
  unfold s_h
  rw [List.map_append]
  show _ = _ ++ [s_c B x]
  rw [hx]
theorem s_rep (B : c_B) (v : Value) (hv : s_v B v = v) (n : Nat) : (List.replicate n v).map (s_v B) = List.replicate n v := by
  rw [List.map_replicate, hv]
theorem s_newa (e : c_newa q pc m L st h = some r) : c_newa q pc m (s_L B L) (s_st B st) (s_h B h) = some (s_r B r) := by
  unfold c_newa at e
  split at e
  · rename_i n9 t9
    split at e
    · cases e
    · rename_i h1
      split at e
      · rename_i h2
        cases e
        show c_newa q pc m _ (.int n9 :: s_st B t9) _ = _
        unfold c_newa
        have h3 : s_c B (some (.inr (q.2.1, List.replicate n9.toNatClampNeg (defaultValue (c_tag q.2.1))))) = some (.inr (q.2.1, List.replicate n9.toNatClampNeg (defaultValue (c_tag q.2.1)))) := by
          show some (Sum.inr (q.2.1, (List.replicate n9.toNatClampNeg (defaultValue (c_tag q.2.1))).map (s_v B))) = _
          rw [s_rep B _ (s_dv B _)]
        simp only [h1, h2, if_true, if_false, s_app h3, s_lenH]
        rfl
      · cases e
  · cases e
theorem s_mnew (e : c_mnew pc L st h = some r) : c_mnew pc (s_L B L) (s_st B st) (s_h B h) = some (s_r B r) := by
  unfold c_mnew at e
  split at e
  · rename_i k9 n9 t9
    split at e
    · cases e
    · rename_i h1
      split at e
      · cases e
      · rename_i h2
        split at e
        · rename_i h3
          split at e
          · rename_i h4
            cases e
            show c_mnew pc _ (.int k9 :: .int n9 :: s_st B t9) _ = _
            unfold c_mnew
            simp only [h1, h2, h3, h4, if_true, if_false, s_lenH]
            have g1 : ∀ (x y : c_Hp), s_h B (x ++ y) = s_h B x ++ s_h B y := fun x y => List.map_append
            have g2 : s_h B (List.replicate n9.toNatClampNeg (some (.inr (0, List.replicate k9.toNatClampNeg (Value.int 0))))) = List.replicate n9.toNatClampNeg (some (.inr (0, List.replicate k9.toNatClampNeg (Value.int 0)))) := by
              unfold s_h
              rw [List.map_replicate]
              show List.replicate _ (some (Sum.inr (0, (List.replicate k9.toNatClampNeg (Value.int 0)).map (s_v B)))) = _
              rw [s_rep B _ rfl]
            have g3 : s_h B [some (.inr (2, (List.range n9.toNatClampNeg).map (fun j => Value.ref (h.length + 1 + j))))] = [some (.inr (2, (List.range n9.toNatClampNeg).map (fun j => Value.ref (h.length + 1 + j))))] := by
              show [some (Sum.inr (2, ((List.range n9.toNatClampNeg).map (fun j => Value.ref (h.length + 1 + j))).map (s_v B)))] = _
              rw [List.map_map]
              rfl
            unfold s_r
            simp only [g1, g2, g3]
            rfl
          · cases e
        · cases e
  · cases e
theorem s_cast (e : c_cast q pc L st h = some r) : c_cast q pc (s_L B L) (s_st B st) (s_h B h) = some (s_r B r) := by
  unfold c_cast at e
  split at e
  · rename_i a t9
    split at e
    · rename_i h0
      split at e
      · rename_i vs hvs
        cases e
        show c_cast q pc _ (.ref a :: s_st B t9) _ = _
        unfold c_cast
        simp only [h0, s_vs hvs, if_true]
        rfl
      · cases e
    · cases e
  · rename_i t9
    split at e
    · rename_i h1
      cases e
      show c_cast q pc _ (.retAddr 2 :: s_st B t9) _ = _
      unfold c_cast
      simp only [h1, if_true]
      rfl
    · cases e
  · cases e
theorem s_lay {vs ws : List Value} {a b c : Nat} : c_lay (vs.map (s_v B)) (ws.map (s_v B)) a b c = (c_lay vs ws a b c).map (s_v B) := by
  unfold c_lay
  rw [List.map_append, List.map_append, List.map_take, List.map_take, List.map_drop, List.map_drop]
theorem s_cpy {kh : c_Hp → Value → Bool} (hk : ∀ v, kh h v = true → kh (s_h B h) (s_v B v) = true) {sp dp m9 : Int32} {a a2 : Nat} {t9 : List Value} (e : c_cpy m (kh h) sp dp m9 a a2 pc L t9 h = some r) : c_cpy m (kh (s_h B h)) sp dp m9 a a2 pc (s_L B L) (s_st B t9) (s_h B h) = some (s_r B r) := by
  unfold c_cpy at e
  split at e
  · rename_i vs ws hvs hws
    split at e
    · cases e
    · rename_i g1
      split at e
      · cases e
      · rename_i g2
        split at e
        · cases e
        · rename_i g3
          split at e
          · rename_i g4
            split at e
            · rename_i g5
              split at e
              · rename_i g6
                split at e
                · rename_i g7
                  cases e
                  have g8 : (((vs.map (s_v B)).drop sp.toNatClampNeg).take m9.toNatClampNeg).all (kh (s_h B h)) = true := by
                    rw [← List.map_drop, ← List.map_take]
                    refine List.all_eq_true.mpr fun v hv => ?_
                    obtain ⟨w, hw, rfl⟩ := List.mem_map.mp hv
                    exact hk w (List.all_eq_true.mp g6 w hw)
                  have g9 : c_sum8 (s_st B t9) = true := by
                    unfold s_st
                    rw [s_sum8]
                    exact g7
                  unfold c_cpy
                  simp only [s_vs hvs, s_vs hws, g1, g2, g3, List.length_map, g4, g5, g8, g9, if_true, if_false, s_lay]
                  exact congrArg (fun x => some (pc + 3, s_L B L, s_st B t9, x)) (s_updH (x := some (.inr (m, c_lay vs ws sp.toNatClampNeg dp.toNatClampNeg m9.toNatClampNeg))))
                · cases e
              · cases e
            · cases e
          · cases e
  · cases e
end Sub
