section Poi2
variable {n : Nat} {t : c_Hp} {E : c_E} {q : c_I} {pc : Nat} {L : c_Ls} {st : List Value}
theorem pl_call1 : p_al9 n t (fun h => c_call1 E q pc L st h) := by
  unfold c_call1
  split
  · refine pl_thru fun h h' => ?_
    split
    · split <;> rfl
    · rfl
  · refine pl_thru fun h h' => ?_
    split
    · split
      · split <;> rfl
      · rfl
    · rfl
  · refine pl_thru fun h h' => ?_
    split
    · split
      · split <;> rfl
      · rfl
    · rfl
  · intro hh r hr
    simp only at hr
    split at hr
    · rename_i a t9
      split at hr
      · rename_i vs hvs
        split at hr
        · rename_i h1
          split at hr
          · rename_i h2
            cases hr
            refine ⟨pa_n hh, fun u => ?_⟩
            simp only [(pd_vs hh hvs).2 u, h1, h2, if_true, List.length_set, pa_set hh]
          · cases hr
        · cases hr
      · cases hr
    · cases hr
  · refine pl_thru fun h h' => ?_
    split
    · split <;> rfl
    · rfl
  · intro hh r hr
    simp only at hr
    split at hr
    · rename_i a t9
      split at hr
      · rename_i vs hvs
        split at hr
        · rename_i h1
          cases hr
          refine ⟨hh, fun u => ?_⟩
          simp only [(pd_vs hh hvs).2 u, h1, if_true]
        · cases hr
      · cases hr
    · cases hr
  · intro hh r hr
    simp only at hr
    split at hr
    · rename_i m9 dp a2 sp a t9
      split at hr
      · rename_i vs hvs
        obtain ⟨g1, g2⟩ := pl_cpy (kh := fun _ => c_sy) (fun v hv u => hv) hh r hr
        refine ⟨g1, fun u => ?_⟩
        simp only [(pd_vs hh hvs).2 u]
        exact g2 u
      · obtain ⟨g1, g2⟩ := pl_cpy (kh := c_ok3) (pl_ok3 hh) hh r hr
        refine ⟨g1, fun u => ?_⟩
        have g3 := g2 u
        have g4 : ∃ ws, c_vs (t.set n u) a 3 = some ws := by
          simp only at g3
          unfold c_cpy at g3
          split at g3
          · rename_i ws _ hws _
            exact ⟨ws, hws⟩
          · cases g3
        obtain ⟨ws, hws⟩ := g4
        simp only [vs_tag hws]
        exact g3
    · cases hr
  · intro hh r hr
    cases hr
set_option maxHeartbeats 1000000 in
theorem pl_stp : p_al9 n t (fun h => c_stp E q pc L st h) := by
  unfold c_stp
  generalize q.1 = i
  cases i
  case getfield i => exact pl_getf
  case putfield i => exact pl_putf
  case iaload => exact pl_iald
  case laload => exact pl_ald
  case baload => exact pl_ald
  case aaload => exact pl_aald
  case iastore => exact pl_ast (kh := fun _ => c_sy) (fun v hv u => hv)
  case lastore => exact pl_ast (kh := fun _ => c_lg) (fun v hv u => hv)
  case bastore => exact pl_ast (kh := fun _ => c_b01) (fun v hv u => hv)
  case aastore => exact pl_aast
  case arraylength => exact pl_alen (q := q)
  case new i => exact pl_app (fun h => rfl)
  case newarray i => exact pl_newa
  case anewarray i => exact pl_newa
  case multianewarray i d => exact pl_mnew
  case checkcast i => exact pl_cast
  case invokespecial i => exact pl_call1
  case invokestatic i => exact pl_call1
  case invokevirtual i => exact pl_call1
  case iload_n k => exact pl_load
  case iload k => exact pl_load
  case lload_n k => exact pl_load
  case lload k => exact pl_load
  case fload_n k => exact pl_load
  case fload k => exact pl_load
  case aload_n k => exact pl_load
  case aload k => exact pl_load
  case istore_n k => exact pl_store
  case istore k => exact pl_store
  case fstore_n k => exact pl_store
  case fstore k => exact pl_store
  case astore_n k => exact pl_store
  case astore k => exact pl_store
  case lstore_n k => exact pl_store2
  case lstore k => exact pl_store2
  case dstore k => exact pl_store2
  case iadd => exact pl_b2
  case isub => exact pl_b2
  case imul => exact pl_b2
  case iand => exact pl_b2
  case ior => exact pl_b2
  case ixor => exact pl_b2
  case ishl => exact pl_b2
  case ishr => exact pl_b2
  case iushr => exact pl_b2
  case irem => exact pl_b2
  case idiv => exact pl_b2
  case if_icmp cd off =>
    simp only [c_dsp]
    unfold x_icmp
    split
    · exact pl_br
    · intro hh r hr; cases hr
  case ifCond cd off =>
    simp only [c_dsp]
    unfold x_if
    split
    · exact pl_br
    · intro hh r hr; cases hr
  case iinc i m =>
    refine pl_thru fun h h' => ?_
    simp only [c_dsp, x_iinc]
    split
    · split <;> rfl
    · rfl
  case fconst m =>
    refine pl_thru fun h h' => ?_
    simp only [c_dsp]
    split <;> rfl
  case dconst m =>
    refine pl_thru fun h h' => ?_
    simp only [c_dsp]
    split <;> rfl
  case ldc m =>
    refine pl_thru fun h h' => ?_
    simp only [c_dsp, x_ldc]
    split
    · rfl
    · split
      · split <;> rfl
      · rfl
  case ldc_w m =>
    refine pl_thru fun h h' => ?_
    simp only [c_dsp, x_ldc]
    split
    · rfl
    · split
      · split <;> rfl
      · rfl
  case ldc2_w m =>
    refine pl_thru fun h h' => ?_
    simp only [c_dsp, x_ldc2]
    split <;> rfl
  case ladd => exact pl_thru fun h h' => by simp only [c_dsp, x_l2, c_l2]; split <;> rfl
  case lsub => exact pl_thru fun h h' => by simp only [c_dsp, x_l2, c_l2]; split <;> rfl
  case lmul => exact pl_thru fun h h' => by simp only [c_dsp, x_l2, c_l2]; split <;> rfl
  case land => exact pl_thru fun h h' => by simp only [c_dsp, x_l2, c_l2]; split <;> rfl
  case lor => exact pl_thru fun h h' => by simp only [c_dsp, x_l2, c_l2]; split <;> rfl
  case lshl => exact pl_thru fun h h' => by simp only [c_dsp, x_ls, c_ls]; split <;> rfl
  case lushr => exact pl_thru fun h h' => by simp only [c_dsp, x_ls, c_ls]; split <;> rfl
  case lcmp =>
    refine pl_thru fun h h' => ?_
    simp only [c_dsp, x_lcmp]
    split
    · rfl
    · split <;> rfl
    · rfl
  case i2l =>
    refine pl_thru fun h h' => ?_
    simp only [c_dsp, x_i2l]
    split
    · rfl
    · split <;> rfl
    · rfl
  case l2i => exact pl_thru fun h h' => by simp only [c_dsp, x_l2i]; split <;> rfl
  case if_acmp cd off =>
    refine pl_thru fun h h' => ?_
    simp only [c_dsp, x_acmp]
    split
    · split <;> rfl
    · rfl
  case ifnull off => exact pl_thru fun h h' => by simp only [c_dsp, x_ifn]; split <;> rfl
  case ifnonnull off => exact pl_thru fun h h' => by simp only [c_dsp, x_ifn]; split <;> rfl
  case tableswitch d lo hi offs =>
    refine pl_thru fun h h' => ?_
    simp only [c_dsp, x_tab]
    split
    · split <;> rfl
    · rfl
  case dup =>
    refine pl_thru fun h h' => ?_
    simp only [c_dsp, x_dup]
    split
    · split <;> rfl
    · rfl
  case dup_x1 =>
    refine pl_thru fun h h' => ?_
    simp only [c_dsp, x_dupx1]
    split
    · split
      · split <;> rfl
      · rfl
    · rfl
  case dup2 =>
    refine pl_thru fun h h' => ?_
    simp only [c_dsp, x_dup2]
    split
    · split
      · split <;> rfl
      · rfl
    · rfl
  case pop =>
    refine pl_thru fun h h' => ?_
    simp only [c_dsp, x_pop]
    split
    · split <;> rfl
    · rfl
  case i2f => exact pl_thru fun h h' => by simp only [c_dsp, x_i2f]; split <;> rfl
  case fdiv =>
    refine pl_thru fun h h' => ?_
    simp only [c_dsp, x_fdiv, c_f2]
    split
    · split <;> rfl
    · rfl
  case fcmp op => exact pl_thru fun h h' => by simp only [c_dsp, x_fcmp, c_f2]; split <;> rfl
  case getstatic i => exact pl_thru fun h h' => by simp only [c_dsp, x_gets]; split <;> rfl
  all_goals exact pl_thru fun h h' => rfl
theorem pd_prt (hh : c_nth t n = some none) {md : c_M} {ar : List Value × List Value} (e : c_prt md q st t = some ar) : ∀ u : c_Cell, c_prt md q st (t.set n u) = some ar := by
  intro u
  unfold c_prt at e ⊢
  simp only at e ⊢
  split at e
  · cases e
  · rename_i h1
    rw [if_neg h1]
    split at e
    · rename_i h2
      rw [if_pos h2]
      split at e
      · rename_i h3
        rw [if_pos ?_]
        · exact e
        · unfold c_rcv at h3 ⊢
          split at h3
          · rename_i h4
            rw [if_pos h4]
          · rename_i h4
            rw [if_neg h4]
            split at h3
            · split at h3
              · rename_i h5
                rw [if_pos h5]
              · rename_i h5
                rw [if_neg h5]
                obtain ⟨fs, hfs⟩ := Option.isSome_iff_exists.mp h3
                rw [(pd_fs hh hfs).2 u]
                rfl
            · exact h3
            · cases h3
      · cases e
    · cases e
end Poi2
theorem c_go_p {P : List (List c_M)} {E : c_E} {n : Nat} : ∀ (m : Nat) (md : c_M) (pc : Nat) (L : c_Ls) (st : List Value) (t : c_Hp) (r : c_O × c_Hp), c_nth t n = some none → c_go P E m md pc L st t = some r → c_nth r.2 n = some none ∧ ∀ u : c_Cell, c_go P E m md pc L st (t.set n u) = some (r.1, r.2.set n u)
  | 0, _, _, _, _, _, _, _, e => by cases e
  | m + 1, md, pc, L, st, t, r, hh, e => by
    rw [c_go_s] at e
    unfold c_trq at e
    cases h2 : c_at pc (c_mi md) with
    | none => rw [h2] at e; cases e
    | some q =>
      rw [h2] at e
      simp only at e
      unfold c_trn at e
      split at e
      · rename_i hk
        unfold c_nxt at e
        split at e
        · rename_i r1 hr1
          obtain ⟨g1, g2⟩ := pl_stp hh r1 hr1
          obtain ⟨f1, f2⟩ := c_go_p m _ _ _ _ _ _ g1 e
          refine ⟨f1, fun u => ?_⟩
          rw [c_go_s, h2]
          unfold c_trq
          simp only
          unfold c_trn
          rw [hk]
          simp only
          rw [show c_stp E q pc L st (t.set n u) = _ from g2 u]
          exact f2 u
        · cases e
      · rename_i hk
        unfold c_inv at e
        split at e
        · rename_i mz hmz
          unfold c_cll at e
          split at e
          · rename_i ar har
            have har2 := pd_prt hh har
            cases h6 : c_go P E m mz 0 (c_ent ar.1 (c_mL mz)) [] t with
            | none => rw [h6] at e; cases e
            | some r1 =>
              rw [h6] at e
              obtain ⟨g1, g2⟩ := c_go_p m _ _ _ _ _ _ hh h6
              obtain ⟨o, h1⟩ := r1
              simp only at g1 g2
              have fin : c_nth r.2 n = some none → (∀ u : c_Cell, c_aft (c_go P E m) md pc L ar.2 (some (o, h1.set n u)) = some (r.1, r.2.set n u)) → c_nth r.2 n = some none ∧ ∀ u : c_Cell, c_go P E (m + 1) md pc L st (t.set n u) = some (r.1, r.2.set n u) := by
                intro f1 f2
                refine ⟨f1, fun u => ?_⟩
                rw [c_go_s, h2]
                unfold c_trq
                simp only
                unfold c_trn
                rw [hk]
                simp only
                unfold c_inv
                rw [hmz]
                simp only
                unfold c_cll
                rw [har2 u]
                simp only
                rw [g2 u]
                exact f2 u
              cases o with
              | inl v =>
                obtain ⟨f1, f2⟩ := c_go_p m _ _ _ _ _ _ g1 e
                exact fin f1 f2
              | inr X =>
                unfold c_aft at e
                simp only at e
                unfold c_catch at e
                split at e
                · rename_i w hw
                  obtain ⟨f1, f2⟩ := c_go_p m _ _ _ _ _ _ g1 e
                  refine fin f1 fun u => ?_
                  unfold c_aft
                  simp only
                  rw [hw]
                  exact f2 u
                · rename_i hw
                  split at e
                  · rename_i he
                    cases e
                    refine fin g1 fun u => ?_
                    unfold c_aft
                    simp only
                    rw [hw]
                    unfold c_catch
                    simp only
                    rw [if_pos he]
                  · cases e
          · cases e
        · cases e
      · rename_i hk
        unfold c_thr at e
        split at e
        · rename_i he
          cases e
          refine ⟨pa_n hh, fun u => ?_⟩
          rw [c_go_s, h2]
          unfold c_trq
          simp only
          unfold c_trn
          rw [hk]
          simp only
          unfold c_thr
          rw [if_pos he, pa_set hh]
        · cases e
      · rename_i k0 g0 g4 g5
        unfold c_ret at e
        split at e
        · rename_i v hv
          cases e
          refine ⟨hh, fun u => ?_⟩
          rw [c_go_s, h2]
          unfold c_trq
          simp only
          unfold c_trn
          split
          · rename_i hk; exact absurd hk g0
          · rename_i hk; exact absurd hk g4
          · rename_i hk; exact absurd hk g5
          · unfold c_ret
            rw [hv]
        · cases e
theorem c_one1_p {E : c_E} {F n : Nat} {md : c_M} {pc : Nat} {L : c_Ls} {st : List Value} {t : c_Hp} {r1 : c_R} (hh : c_nth t n = some none) (e : c_one1 E F md pc L st t = some r1) : c_nth r1.2.2.2 n = some none ∧ ∀ u : c_Cell, c_one1 E F md pc L st (t.set n u) = some (r1.1, r1.2.1, r1.2.2.1, r1.2.2.2.set n u) := by
  unfold c_one1 at e ⊢
  split at e
  · rename_i q hq
    try simp only [hq]
    split at e
    · rename_i hk
      try simp only [hk]
      exact pl_stp hh r1 e
    · rename_i hk
      try simp only [hk]
      split at e
      · rename_i mz hmz
        try simp only [hmz]
        split at e
        · rename_i ar har
          cases h6 : c_go c_P E F mz 0 (c_ent ar.1 (c_mL mz)) [] t with
          | none => rw [h6] at e; cases e
          | some r2 =>
            rw [h6] at e
            obtain ⟨g1, g2⟩ := c_go_p F _ _ _ _ _ _ hh h6
            obtain ⟨o, h1⟩ := r2
            have har2 := pd_prt hh har
            unfold c_bak at e ⊢
            cases o with
            | inl v =>
              cases e
              refine ⟨g1, fun u => ?_⟩
              rw [har2 u]
              simp only
              rw [g2 u]
            | inr X =>
              simp only at e
              split at e
              · rename_i w hw
                cases e
                refine ⟨g1, fun u => ?_⟩
                rw [har2 u]
                simp only
                rw [g2 u]
                simp only [hw]
              · cases e
        · cases e
      · cases e
    · cases e
  · cases e
theorem c_pre_p {E : c_E} {F n : Nat} {md : c_M} : ∀ {m pc : Nat} {L : c_Ls} {st : List Value} {t : c_Hp} {r1 : c_R} (_ : c_nth t n = some none) (_ : c_pre E F md m pc L st t = some r1), c_nth r1.2.2.2 n = some none ∧ ∀ u : c_Cell, c_pre E F md m pc L st (t.set n u) = some (r1.1, r1.2.1, r1.2.2.1, r1.2.2.2.set n u)
  | 0, pc, L, st, t, r1, hh, e => by cases e; exact ⟨hh, fun u => rfl⟩
  | m + 1, pc, L, st, t, r1, hh, e => by
    have e2 : (match c_one1 E F md pc L st t with
      | some r => c_pre E F md m r.1 r.2.1 r.2.2.1 r.2.2.2
      | none => none) = some r1 := e
    split at e2
    · rename_i r2 hr2
      obtain ⟨g1, g2⟩ := c_one1_p hh hr2
      obtain ⟨f1, f2⟩ := c_pre_p g1 e2
      refine ⟨f1, fun u => ?_⟩
      show (match c_one1 E F md pc L st (t.set n u) with
        | some r => c_pre E F md m r.1 r.2.1 r.2.2.1 r.2.2.2
        | none => none) = _
      rw [g2 u]
      exact f2 u
    · cases e2
