def c_exn : Nat → String × List String
  | 0 => ("java/lang/IllegalArgumentException", ["java/lang/RuntimeException", "java/lang/Exception"])
  | 1 => ("java/lang/IndexOutOfBoundsException", ["java/lang/RuntimeException", "java/lang/Exception"])
  | 2 => ("java/lang/UnsupportedOperationException", ["java/lang/RuntimeException", "java/lang/Exception"])
  | 3 => ("java/util/NoSuchElementException", ["java/lang/RuntimeException", "java/lang/Exception"])
  | 4 => ("java/lang/IllegalStateException", ["java/lang/RuntimeException", "java/lang/Exception"])
  | _ => ("java/lang/ArithmeticException", ["java/lang/RuntimeException", "java/lang/Exception"])
/-- a constructor with a text that hands on to its superclass's -/
def c_exx (jx : Nat) : ByteArray := ⟨#[0x2a, 0x2b, 0xb7, 0, jx.toUInt8, 0xb1]⟩
/-- the index by which it does so -/
def c_exj : Nat → Nat
  | 3 => 13
  | _ => 7
def c_at9 (own : String) (ic k : Nat) : List Cond := c_atX own ic (c_exn k).1 (c_exj k) (c_exx (c_exj k)) (c_exn k).2
def c_ats : List Cond → List Nat → Bool
  | [], _ => true
  | w :: r, i :: j => (c_w i w || c_n i w) && vx_ot w && c_ats r j
  | _ :: _, [] => false
theorem c_ats_ok : ∀ {ws : List Cond} {j : List Nat}, c_ats ws j = true → ∀ w ∈ ws, (w ∈ lw_tbl ∧ (goodWord w = true ∨ c_ng w = true)) ∧ vx_ot w = true
  | w :: r, i :: j, h, x, hx => by
    unfold c_ats at h
    simp only [Bool.and_eq_true, Bool.or_eq_true] at h
    rcases List.mem_cons.mp hx with e | e
    · subst e
      exact ⟨h.1.1.elim (fun z => ⟨(c_w_ok z).1, Or.inl (c_w_ok z).2⟩) (fun z => ⟨(c_n_ok z).1, Or.inr (c_n_ok z).2⟩), h.1.2⟩
    · exact c_ats_ok h.2 x e
  | _ :: _, [], h, _, _ => by cases h
  | [], _, _, _, hx => by cases hx
/-- a throw at pc: new, dup, ldc, invokespecial, athrow -/
def c_okT (own : String) (cc : ByteArray) (F R : Nat) (pc : Nat) (q : c_I) (ix : List Nat) : Bool :=
  match q.1, lw_tbl[ix.getD 2 0]? with
  | .new ik, some (.stringRef own2 is _) =>
    decide (own2 = own) && decide (decode cc pc = .ok (.new ik, 3)) && decide (decode cc (pc + 3) = .ok (.dup, 1)) && c_w (ix.getD 0 0) (.classLink own ik (c_exn q.2.1).1) && c_w (ix.getD 1 0) (.initialized (c_exn q.2.1).1) &&
    Bundle.fit (c_exn q.2.1).1 && (c_exn q.2.1).2.all Bundle.fit && c_ats (c_at9 own (ix.getD 3 0) q.2.1) (ix.drop 5) &&
    (Cond.classLink own ik (c_exn q.2.1).1 :: Cond.initialized (c_exn q.2.1).1 :: []).all vx_ot &&
    (if ix.getD 4 0 = 0 then decide (decode cc (pc + 4) = .ok (.ldc is, 2)) && decide (decode cc (pc + 6) = .ok (.invokespecial (ix.getD 3 0), 3)) && decide (decode cc (pc + 9) = .ok (.athrow, 1))
      else decide (decode cc (pc + 4) = .ok (.ldc_w is, 3)) && decide (decode cc (pc + 7) = .ok (.invokespecial (ix.getD 3 0), 3)) && decide (decode cc (pc + 10) = .ok (.athrow, 1))) &&
    decide ((c_exn q.2.1).2.length + 3 < F) && decide (8 + (13 * ((c_exn q.2.1).2.length + 1) + 43) ≤ R) &&
    (decide (decode (c_exx (c_exj q.2.1)) 0 = .ok (.aload_n 0, 1)) && decide (decode (c_exx (c_exj q.2.1)) 1 = .ok (.aload_n 1, 1)) && decide (decode (c_exx (c_exj q.2.1)) 2 = .ok (.invokespecial (c_exj q.2.1), 3)) && decide (decode (c_exx (c_exj q.2.1)) 5 = .ok (.return_, 1)))
  | _, _ => false
noncomputable def c_cw (md : c_M) : Cond := if (c_mh md).isEmpty then .code (c_my md) (c_mc md) (c_mL md) (c_mr md) else .codeWith (c_my md) (c_mc md) (c_mL md) (c_mr md) (c_mh md)
noncomputable def c_ws (md : c_M) : List Cond := c_cw md :: lw_tbl.filter goodWord
/-- a call of mz, from a method of the class own with F frames and the room R -/
noncomputable def c_okC (own : String) (cc : ByteArray) (F R : Nat) (mz : c_M) (pc : Nat) (q : c_I) (ix : List Nat) : Bool :=
  decide (c_mF mz + 1 ≤ F) && decide (8 + (c_mL mz + 11) + c_mR mz ≤ R) && decide ((c_my mz).cls ≠ "java/lang/invoke/MethodHandle") && decide ((c_my mz).cls ≠ "java/lang/invoke/VarHandle") &&
  decide ((parseMethodDescriptor (c_my mz).desc).map (fun d => d.parameters.length) = some q.2.2.1) && c_w (ix.getD 0 0) (.initialized (c_my mz).cls) && !decide ((c_my mz).name = "law") &&
  (match q.1 with
  | .invokestatic i => decide (decode cc pc = .ok (.invokestatic i, 3)) && c_w (ix.getD 2 0) (.static (c_my mz)) && (if q.2.2.2 = 0 then c_w (ix.getD 1 0) (.methodLink own i (c_my mz)) else c_n (ix.getD 1 0) (.methodLinkNest own i (c_my mz) c_host) && (c_mh mz).isEmpty)
  | .invokevirtual i => decide (decode cc pc = .ok (.invokevirtual i, 3)) && (c_mh mz).isEmpty && (if c_mk mz = 100 then decide ((c_my mz).cls = "java/lang/Integer") else decide ((c_cl[c_mk mz]?).map (fun r => r.1) = some (c_my mz).cls)) && c_w (ix.getD 2 0) (.instanceMethod (c_my mz)) && c_w (ix.getD 3 0) (.selects (c_my mz).cls (c_my mz) (c_my mz)) && (if q.2.2.2 = 2 then c_w (ix.getD 1 0) (.methodLink own i (c_my mz)) else c_n (ix.getD 1 0) (.methodLinkNest own i (c_my mz) c_host))
  | .invokespecial i => decide (decode cc pc = .ok (.invokespecial i, 3)) && (c_mh mz).isEmpty && decide (c_mr mz = none) && decide ((c_my mz).name = "<init>") && c_w (ix.getD 2 0) (.instanceMethod (c_my mz)) && (if q.2.2.2 = 4 then c_w (ix.getD 1 0) (.methodLink own i (c_my mz)) else c_n (ix.getD 1 0) (.methodLinkNest own i (c_my mz) c_host))
  | _ => false)
/-- a catch -/
noncomputable def c_okH (md : c_M) (w : Nat × Nat × Nat × Nat × Nat) : Bool :=
  match (tableOf (c_mh md))[w.2.2.1]? with
  | none => false
  | some x => ((tableOf (c_mh md)).take w.2.2.1).all (fun z => !covers z w.1 || (decide (z.catchType ≠ 0) && c_NC.any (fun v => decide (v.1 = (c_exn w.2.1).1) && decide (Cond.classLink (c_my md).cls z.catchType v.2 ∈ lw_tbl) && goodWord (Cond.classLink (c_my md).cls z.catchType v.2)))) &&
    covers x w.1 && decide (x.catchType ≠ 0) && decide (Cond.classLink (c_my md).cls x.catchType (c_exn w.2.1).1 ∈ lw_tbl) && goodWord (Cond.classLink (c_my md).cls x.catchType (c_exn w.2.1).1) && decide (Cond.castable (c_exn w.2.1).1 (c_exn w.2.1).1 ∈ lw_tbl) &&
    decide (x.handlerPc = ((c_mh md).getD w.2.2.1 (0, 0, 0, 0)).2.2.1) && decide (w.2.2.2.1 < c_mL md) &&
    (if w.2.2.2.2 = 1 then (match decode (c_mc md) x.handlerPc with
      | .ok (.astore_n n, 1) => decide (n.val = w.2.2.2.1)
      | _ => false) else decide (w.2.2.2.2 = 2) && decide (decode (c_mc md) x.handlerPc = .ok (.astore w.2.2.2.1, 2)))
noncomputable def c_okQ (P : List (List c_M)) (md : c_M) (pc : Nat) (q : c_I) (ix : List Nat) : Bool := match c_kd q with
  | 0 => c_okI (c_my md).cls (c_mc md) (decide ((c_my md).name = "<init>")) (c_mF md) (c_mR md) pc q ix
  | 1 => decide (decode (c_mc md) pc = .ok (.ireturn, 1))
  | 2 => decide (decode (c_mc md) pc = .ok (.return_, 1))
  | 3 => decide (decode (c_mc md) pc = .ok (.areturn, 1))
  | 6 => decide (decode (c_mc md) pc = .ok (.lreturn, 1))
  | 7 => decide (decode (c_mc md) pc = .ok (.dreturn, 1))
  | 4 => match c_pm P q.2.1 with
    | some mz => c_okC (c_my md).cls (c_mc md) (c_mF md) (c_mR md) mz pc q ix
    | none => false
  | 5 => c_okT (c_my md).cls (c_mc md) (c_mF md) (c_mR md) pc q ix
  | _ => false
noncomputable def c_okL (P : List (List c_M)) (md : c_M) : List (Nat × c_I) → List (List Nat) → Bool
  | [], _ => true
  | q :: r, i => c_okQ P md q.1 q.2 (i.headD []) && c_okL P md r i.tail
noncomputable def c_okM (P : List (List c_M)) (md : c_M) (ixs : List (List Nat)) : Bool :=
  plainFor (c_my md) && (c_mx md).all (c_okH md) && c_okL P md (c_mi md).flatten ixs
theorem c_okL_at {P : List (List c_M)} {md : c_M} {pc : Nat} {q : c_I} : ∀ (l : List (Nat × c_I)) (i : List (List Nat)), c_okL P md l i = true → (pc, q) ∈ l → ∃ ix, c_okQ P md pc q ix = true
  | [], _, _, h => by cases h
  | z :: r, i, ok, h => by
    unfold c_okL at ok
    rw [Bool.and_eq_true] at ok
    rcases List.mem_cons.mp h with e | e
    · subst e
      exact ⟨_, ok.1⟩
    · exact c_okL_at r _ ok.2 e
theorem c_fd_mem {pc : Nat} {q : c_I} : ∀ (l : List (Nat × c_I)), c_fd pc l = some q → (pc, q) ∈ l
  | [], h => by cases h
  | z :: r, h => by
    unfold c_fd at h
    split at h
    · rename_i e
      cases h
      have e2 : z.1 = pc := Nat.eq_of_beq_eq_true e
      subst e2
      exact List.mem_cons_self
    · exact List.mem_cons_of_mem _ (c_fd_mem r h)
theorem c_at_mem {pc : Nat} {q : c_I} {l : List (List (Nat × c_I))} (h : c_at pc l = some q) : (pc, q) ∈ l.flatten := by
  unfold c_at at h
  rw [c_nth_eq] at h
  split at h
  · rename_i r hr
    exact List.mem_flatten.mpr ⟨r, List.mem_of_getElem? hr, c_fd_mem r h⟩
  · cases h
theorem c_cat_mem {pc E : Nat} {w : Nat × Nat × Nat} : ∀ l : List (Nat × Nat × Nat × Nat × Nat), c_cat pc E l = some w → (pc, E, w) ∈ l
  | [], h => by cases h
  | z :: r, h => by
    unfold c_cat at h
    split at h
    · rename_i e
      rw [Bool.and_eq_true] at e
      cases h
      have e2 := Nat.eq_of_beq_eq_true e.1
      have e3 := Nat.eq_of_beq_eq_true e.2
      subst e2 e3
      exact List.mem_cons_self
    · exact List.mem_cons_of_mem _ (c_cat_mem r h)
section Ent
variable {base : Nat} {B : c_B}
theorem c_ent_args : ∀ (as : List Value) (o i : Nat) (v : Value), (as.flatMap (fun v => if v.category = 2 then [some v, none] else [some v]))[i]? = some (some v) → (o + i, c_v base B v) ∈ lv_args o (as.map (c_v base B))
  | [], o, i, v, h => by simp at h
  | a :: t, o, i, v, h => by
    simp only [List.flatMap_cons] at h
    simp only [List.map_cons, lv_args]
    rw [c_v_cat]
    by_cases e : a.category = 2
    · simp only [e, if_true] at h ⊢
      match i, h with
      | 0, h =>
        simp at h
        subst h
        exact List.mem_cons_self
      | 1, h => simp at h
      | j + 2, h =>
        have h2 : (t.flatMap (fun v => if v.category = 2 then [some v, none] else [some v]))[j]? = some (some v) := by simpa using h
        have := c_ent_args t (o + 2) j v h2
        rw [show o + (j + 2) = o + 2 + j by omega]
        exact List.mem_cons_of_mem _ this
    · simp only [e, if_false] at h ⊢
      match i, h with
      | 0, h =>
        simp at h
        subst h
        exact List.mem_cons_self
      | j + 1, h =>
        have h2 : (t.flatMap (fun v => if v.category = 2 then [some v, none] else [some v]))[j]? = some (some v) := by simpa using h
        have := c_ent_args t (o + 1) j v h2
        rw [show o + (j + 1) = o + 1 + j by omega]
        exact List.mem_cons_of_mem _ this
theorem c_ent_len (as : List Value) : (as.flatMap (fun v => if v.category = 2 then [some v, none] else [some v])).length = (lg_sl (as.map (c_v base B))).length := by
  induction as with
  | nil => rfl
  | cons a t ih =>
    simp only [List.flatMap_cons, List.length_append, List.map_cons, lg_sl, ih, c_v_cat]
    by_cases e : a.category = 2 <;> simp [e]
theorem c_ent_LR {as : List Value} {n : Nat} (h : (c_ent as n).length = n) : c_LR base B ((lg_sl (as.map (c_v base B)) ++ List.replicate (n - (lg_sl (as.map (c_v base B))).length) Slot.unset).toArray) n (c_ent as n) := by
  have hl : (as.flatMap (fun v => if v.category = 2 then [some v, none] else [some v])).length ≤ n := by
    unfold c_ent at h
    simp only [List.length_append, List.length_replicate] at h
    omega
  have hv := lv_entry (as.map (c_v base B)) (n := n) (by rw [← c_ent_len]; exact hl)
  refine ⟨h, hv.1, hv.2.1, fun i v hi => ?_⟩
  unfold c_ent at hi
  simp only at hi
  by_cases e : i < (as.flatMap (fun v => if v.category = 2 then [some v, none] else [some v])).length
  · rw [List.getElem?_append_left e] at hi
    have := c_ent_args (base := base) (B := B) as 0 i v hi
    rw [Nat.zero_add] at this
    exact hv.2.2 _ this
  · rw [List.getElem?_append_right (by omega), List.getElem?_replicate] at hi
    split at hi <;> cases hi
theorem c_LR.lost {ls ls' : Array Slot} {nL : Nat} {L : c_Ls} (h : c_LR base B ls nL L) {i : Nat} {v : Value} (hc : v.category = 1) (h' : lv_has ls' nL ((i, v) :: (c_al base B L).filter (fun q => !(q.1 == i) && !(q.1 + 1 == i && q.2.category == 2)))) : c_LR base B ls' nL (c_upd (c_clr L i) i none) := by
  rw [c_upd_eq]
  refine ⟨by rw [List.length_set, c_clr_len]; exact h.1, h'.1, h'.2.1, fun j w hw => ?_⟩
  by_cases e : j = i
  · subst e
    rw [List.getElem?_set] at hw
    simp only [if_true] at hw
    split at hw <;> cases hw
  · rw [List.getElem?_set_ne (fun z => e z.symm)] at hw
    obtain ⟨h1, h2⟩ := c_clr_get e hw
    refine h'.2.2 (j, c_v base B w) (List.mem_cons_of_mem _ (List.mem_filter.mpr ⟨c_al_mem h1, ?_⟩))
    have e3 : (c_v base B w).category = w.category := c_v_cat base B w
    simp only [e3]
    by_cases e4 : j + 1 = i
    · have e5 : ¬ w.category = 2 := fun z => h2 ⟨e4, z⟩
      simp [e, e5]
    · simp [e, e4]
end Ent
