/-! ### more fuel, more facts; runs in pieces -/
theorem c_go_more {P : List (List c_M)} {E : c_E} : ∀ (n : Nat) (md : c_M) (pc : Nat) (L : c_Ls) (st : List Value) (h : c_Hp) (r : c_O × c_Hp), c_go P E n md pc L st h = some r → c_go P E (n + 1) md pc L st h = some r
  | 0, _, _, _, _, _, _, e => by cases e
  | n + 1, md, pc, L, st, h, r, e => by
    rw [c_go_s] at e ⊢
    unfold c_trq at e ⊢
    cases h2 : c_at pc (c_mi md) with
    | none => rw [h2] at e; cases e
    | some q =>
      rw [h2] at e
      simp only at e ⊢
      unfold c_trn at e ⊢
      split at e
      · unfold c_nxt at e ⊢
        split at e
        · exact c_go_more n _ _ _ _ _ _ e
        · cases e
      · unfold c_inv at e ⊢
        split at e
        · rename_i mz hmz
          unfold c_cll at e ⊢
          split at e
          · rename_i ar har
            cases h6 : c_go P E n mz 0 (c_ent ar.1 (c_mL mz)) [] h with
            | none => rw [h6] at e; cases e
            | some r1 =>
              rw [h6] at e
              rw [c_go_more n _ _ _ _ _ _ h6]
              obtain ⟨o, h1⟩ := r1
              cases o with
              | inl v => exact c_go_more n _ _ _ _ _ _ e
              | inr X =>
                unfold c_aft at e ⊢
                simp only at e ⊢
                unfold c_catch at e ⊢
                split at e
                · exact c_go_more n _ _ _ _ _ _ e
                · exact e
          · cases e
        · cases e
      · exact e
      · exact e
theorem c_go_up {P : List (List c_M)} {E : c_E} {md : c_M} {pc : Nat} {L : c_Ls} {st : List Value} {h : c_Hp} {r : c_O × c_Hp} {n m : Nat} (hm : n ≤ m) (e : c_go P E n md pc L st h = some r) : c_go P E m md pc L st h = some r := by
  induction m with
  | zero =>
    have : n = 0 := by omega
    subst this
    exact e
  | succ m ih =>
    by_cases h9 : n = m + 1
    · subst h9; exact e
    · exact c_go_more _ _ _ _ _ _ _ (ih (by omega))
/-- E' tells all that E tells -/
def c_leE (E E' : c_E) : Prop := E.2.length = E'.2.length ∧ (∀ (j : Nat) (x : Value), E.2[j]? = some x → c_sy x = true → E'.2[j]? = some x) ∧ ∀ (o : Nat) (x y v : Value), c_lk E.1 o x y = some v → c_lk E'.1 o x y = some v
section MonoE
variable {E E' : c_E} {q : c_I} {pc i n o : Nat} {L : c_Ls} {st : List Value} {h : c_Hp} {r : c_R}
theorem c_opf_E (H : c_leE E E') {x y v : Value} (e : c_opf E o x y = some v) : c_opf E' o x y = some v := by
  unfold c_opf at e ⊢
  split at e
  · rename_i w hw
    rw [H.2.2 _ _ _ _ hw]
    exact e
  · cases e
theorem c_op_E (H : c_leE E E') {f : Int32 → Int32 → Option Int32} {x y v : Value} (e : c_op E o f x y = some v) : c_op E' o f x y = some v := by
  unfold c_op at e ⊢
  split at e
  · split at e
    · exact e
    · exact c_opf_E H e
  · exact c_opf_E H e
theorem c_one_E (H : c_leE E E') {x y : Value} {t : Bool} (e : c_one (c_opf E o x y) = some t) : c_one (c_opf E' o x y) = some t := by
  cases h9 : c_opf E o x y with
  | none => rw [h9] at e; cases e
  | some v => rw [h9] at e; rw [c_opf_E H h9]; exact e
theorem c_brb_E (H : c_leE E E') {cd : Jvm.ClassFile.Cond} {x y : Value} {t : Bool} (e : c_brb E cd x y = some t) : c_brb E' cd x y = some t := by
  unfold c_brb at e ⊢
  split at e
  · split at e
    · exact e
    · exact c_one_E H e
  · exact c_one_E H e
theorem c_br_E (H : c_leE E E') {cd : Jvm.ClassFile.Cond} {x y : Value} (e : c_br E cd n x y pc L st h = some r) : c_br E' cd n x y pc L st h = some r := by
  unfold c_br at e ⊢
  split at e
  · rename_i z hz
    rw [c_brb_E H hz]
    exact e
  · cases e
theorem c_b2_E (H : c_leE E E') {f : Int32 → Int32 → Option Int32} (e : c_b2 E o f n pc L st h = some r) : c_b2 E' o f n pc L st h = some r := by
  unfold c_b2 at e ⊢
  split at e
  · split at e
    · rename_i v hv
      simp only [c_op_E H hv]
      exact e
    · cases e
  · cases e
theorem c_iald_E (H : c_leE E E') (e : c_iald E pc L st h = some r) : c_iald E' pc L st h = some r := by
  unfold c_iald at e ⊢
  split at e
  · simp only [c_nth_eq] at e ⊢
    rw [← H.1]
    split at e
    · split at e
      · rename_i x hx
        split at e
        · rename_i hs
          rw [H.2.1 _ _ hx hs]
          simp only [hs, if_true]
          exact e
        · cases e
      · cases e
    · cases e
  · exact e
theorem c_alen_E (H : c_leE E E') (e : c_alen E q pc L st h = some r) : c_alen E' q pc L st h = some r := by
  unfold c_alen at e ⊢
  rw [← H.1]
  exact e
theorem c_call1_E (H : c_leE E E') (e : c_call1 E q pc L st h = some r) : c_call1 E' q pc L st h = some r := by
  unfold c_call1 at e ⊢
  split at e
  · exact e
  · split at e
    · split at e
      · rename_i hs
        simp only [hs, if_true]
        split at e
        · rename_i v hv
          simp only [c_op_E H hv]
          exact e
        · cases e
      · cases e
    · cases e
  · split at e
    · split at e
      · rename_i hs
        simp only [hs, if_true]
        split at e
        · rename_i v hv
          simp only [c_op_E H hv]
          exact e
        · cases e
      · cases e
    · cases e
  · exact e
  · exact e
  · exact e
  · exact e
  · cases e
set_option maxHeartbeats 1000000 in
theorem c_stp_E (H : c_leE E E') (e : c_stp E q pc L st h = some r) : c_stp E' q pc L st h = some r := by
  unfold c_stp at e ⊢
  generalize q.1 = i at e ⊢
  cases i
  case iadd => exact c_b2_E H e
  case isub => exact c_b2_E H e
  case imul => exact c_b2_E H e
  case iand => exact c_b2_E H e
  case ior => exact c_b2_E H e
  case ixor => exact c_b2_E H e
  case ishl => exact c_b2_E H e
  case ishr => exact c_b2_E H e
  case iushr => exact c_b2_E H e
  case irem => exact c_b2_E H e
  case idiv => exact c_b2_E H e
  case if_icmp cd off =>
    simp only [c_dsp, x_icmp] at e ⊢
    split at e
    · exact c_br_E H e
    · cases e
  case ifCond cd off =>
    simp only [c_dsp, x_if] at e ⊢
    split at e
    · exact c_br_E H e
    · cases e
  case iaload => exact c_iald_E H e
  case iinc i m =>
    simp only [c_dsp, x_iinc] at e ⊢
    split at e
    · split at e
      · rename_i w hw
        rw [c_op_E H hw]
        exact e
      · cases e
    · cases e
  case arraylength => exact c_alen_E (q := q) H e
  case invokespecial i => exact c_call1_E H e
  case invokestatic i => exact c_call1_E H e
  case invokevirtual i => exact c_call1_E H e
  case fconst n =>
    simp only [c_dsp] at e ⊢
    split at e
    · rename_i h9
      rw [if_pos h9]; exact e
    · cases e
  case dconst n =>
    simp only [c_dsp] at e ⊢
    split at e
    · rename_i h9
      rw [if_pos h9]; exact e
    · cases e
  all_goals exact e
end MonoE
theorem c_go_E {P : List (List c_M)} {E E' : c_E} (H : c_leE E E') : ∀ (n : Nat) (md : c_M) (pc : Nat) (L : c_Ls) (st : List Value) (h : c_Hp) (r : c_O × c_Hp), c_go P E n md pc L st h = some r → c_go P E' n md pc L st h = some r
  | 0, _, _, _, _, _, _, e => by cases e
  | n + 1, md, pc, L, st, h, r, e => by
    rw [c_go_s] at e ⊢
    unfold c_trq at e ⊢
    cases h2 : c_at pc (c_mi md) with
    | none => rw [h2] at e; cases e
    | some q =>
      rw [h2] at e
      simp only at e ⊢
      unfold c_trn at e ⊢
      split at e
      · unfold c_nxt at e ⊢
        split at e
        · rename_i r1 hr1
          rw [c_stp_E H hr1]
          exact c_go_E H n _ _ _ _ _ _ e
        · cases e
      · unfold c_inv at e ⊢
        split at e
        · rename_i mz hmz
          unfold c_cll at e ⊢
          split at e
          · rename_i ar har
            cases h6 : c_go P E n mz 0 (c_ent ar.1 (c_mL mz)) [] h with
            | none => rw [h6] at e; cases e
            | some r1 =>
              rw [h6] at e
              rw [c_go_E H n _ _ _ _ _ _ h6]
              obtain ⟨o, h1⟩ := r1
              cases o with
              | inl v => exact c_go_E H n _ _ _ _ _ _ e
              | inr X =>
                unfold c_aft at e ⊢
                simp only at e ⊢
                unfold c_catch at e ⊢
                split at e
                · exact c_go_E H n _ _ _ _ _ _ e
                · exact e
          · cases e
        · cases e
      · exact e
      · exact e
/-- a frame comes to its end -/
def c_Run (E : c_E) (md : c_M) (pc : Nat) (L : c_Ls) (st : List Value) (h : c_Hp) (r : c_O × c_Hp) : Prop := ∃ n, c_go c_P E n md pc L st h = some r
/-- what a call's end makes of the frame that called -/
noncomputable def c_bak (md : c_M) (pc : Nat) (L : c_Ls) (rest : List Value) (r : Option (c_O × c_Hp)) : Option c_R := match r with
  | some (.inl v, h1) => some (pc + 3, L, v.toList ++ rest, h1)
  | some (.inr X, h1) => match c_cat pc X (c_mx md) with
    | some w => some (((c_mh md).getD w.1 (0, 0, 0, 0)).2.2.1 + w.2.2, c_upd (c_clr L w.2.1) w.2.1 none, [], h1)
    | none => none
  | none => none
/-- one instruction of a frame, a call with all that it runs (F: fuel for it) -/
noncomputable def c_one1 (E : c_E) (F : Nat) (md : c_M) (pc : Nat) (L : c_Ls) (st : List Value) (h : c_Hp) : Option c_R := match c_at pc (c_mi md) with
  | some q => match c_kd q with
    | 0 => c_stp E q pc L st h
    | 4 => match c_pm c_P q.2.1 with
      | some mz => match c_prt mz q st h with
        | some ar => c_bak md pc L ar.2 (c_go c_P E F mz 0 (c_ent ar.1 (c_mL mz)) [] h)
        | none => none
      | none => none
    | _ => none
  | none => none
/-- m instructions of a frame -/
noncomputable def c_pre (E : c_E) (F : Nat) (md : c_M) (m : Nat) : Nat → c_Ls → List Value → c_Hp → Option c_R := Nat.rec (fun pc L st h => some (pc, L, st, h)) (fun _ f pc L st h => match c_one1 E F md pc L st h with
  | some r => f r.1 r.2.1 r.2.2.1 r.2.2.2
  | none => none) m
theorem c_Run.one {E : c_E} {F : Nat} {md : c_M} {pc : Nat} {L : c_Ls} {st : List Value} {h : c_Hp} {r1 : c_R} {r : c_O × c_Hp} (e : c_one1 E F md pc L st h = some r1) (k : c_Run E md r1.1 r1.2.1 r1.2.2.1 r1.2.2.2 r) : c_Run E md pc L st h r := by
  obtain ⟨n, hn⟩ := k
  refine ⟨max n F + 1, ?_⟩
  have hn2 := c_go_up (Nat.le_max_left n F) hn
  rw [c_go_s]
  unfold c_one1 at e
  split at e
  · rename_i q hq
    rw [hq]
    unfold c_trq
    simp only
    unfold c_trn
    split at e
    · rename_i hk
      rw [hk]
      simp only
      rw [e]
      exact hn2
    · rename_i hk
      rw [hk]
      simp only
      split at e
      · rename_i mz hmz
        rw [hmz]
        unfold c_inv
        simp only
        split at e
        · rename_i ar har
          rw [har]
          unfold c_cll
          simp only
          unfold c_bak at e
          split at e
          · rename_i v h1 hgo
            cases e
            rw [c_go_up (Nat.le_max_right n F) hgo]
            exact hn2
          · rename_i X h1 hgo
            split at e
            · rename_i w hw
              cases e
              rw [c_go_up (Nat.le_max_right n F) hgo]
              unfold c_aft
              simp only
              rw [hw]
              exact hn2
            · cases e
          · cases e
        · cases e
      · cases e
    · cases e
  · cases e
theorem c_Run.pre {E : c_E} {F : Nat} {md : c_M} {r : c_O × c_Hp} : ∀ {m pc : Nat} {L : c_Ls} {st : List Value} {h : c_Hp} {r1 : c_R} (_ : c_pre E F md m pc L st h = some r1) (_ : c_Run E md r1.1 r1.2.1 r1.2.2.1 r1.2.2.2 r), c_Run E md pc L st h r
  | 0, _, _, _, _, _, e, k => by cases e; exact k
  | m + 1, pc, L, st, h, r1, e, k => by
    have e2 : (match c_one1 E F md pc L st h with
      | some r => c_pre E F md m r.1 r.2.1 r.2.2.1 r.2.2.2
      | none => none) = some r1 := e
    split at e2
    · rename_i r2 hr2
      exact c_Run.one hr2 (c_Run.pre e2 k)
    · cases e2
theorem c_Run.E {E E' : c_E} (H : c_leE E E') {md : c_M} {pc : Nat} {L : c_Ls} {st : List Value} {h : c_Hp} {r : c_O × c_Hp} (k : c_Run E md pc L st h r) : c_Run E' md pc L st h r := by
  obtain ⟨n, hn⟩ := k
  exact ⟨n, c_go_E H n _ _ _ _ _ _ hn⟩
/-- the same pieces with other facts -/
theorem c_one1_E {E E' : c_E} (H : c_leE E E') {F : Nat} {md : c_M} {pc : Nat} {L : c_Ls} {st : List Value} {h : c_Hp} {r1 : c_R} (e : c_one1 E F md pc L st h = some r1) : c_one1 E' F md pc L st h = some r1 := by
  unfold c_one1 at e ⊢
  split at e
  · split at e
    · exact c_stp_E H e
    · split at e
      · rename_i mz hmz
        split at e
        · rename_i ar har
          cases h6 : c_go c_P E F mz 0 (c_ent ar.1 (c_mL mz)) [] h with
          | none => rw [h6] at e; cases e
          | some r2 =>
            rw [h6] at e
            rw [c_go_E H _ _ _ _ _ _ _ h6]
            exact e
        · cases e
      · cases e
    · cases e
  · cases e
theorem c_pre_E {E E' : c_E} (H : c_leE E E') {F : Nat} {md : c_M} : ∀ {m pc : Nat} {L : c_Ls} {st : List Value} {h : c_Hp} {r1 : c_R} (_ : c_pre E F md m pc L st h = some r1), c_pre E' F md m pc L st h = some r1
  | 0, _, _, _, _, _, e => e
  | m + 1, pc, L, st, h, r1, e => by
    have e2 : (match c_one1 E F md pc L st h with
      | some r => c_pre E F md m r.1 r.2.1 r.2.2.1 r.2.2.2
      | none => none) = some r1 := e
    show (match c_one1 E' F md pc L st h with
      | some r => c_pre E' F md m r.1 r.2.1 r.2.2.1 r.2.2.2
      | none => none) = some r1
    split at e2
    · rename_i r2 hr2
      rw [c_one1_E H hr2]
      exact c_pre_E H e2
    · cases e2
