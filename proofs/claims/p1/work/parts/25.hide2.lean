section Hide2
variable {n : Nat} {t : c_Hp} {E : c_E} {q : c_I} {pc : Nat} {L : c_Ls} {st : List Value}
theorem vs_tag {h : c_Hp} {a : Nat} {vs : List Value} (e : c_vs h a 3 = some vs) : c_vs h a 0 = none := by
  have h1 := c_vs_ok e
  unfold c_vs
  rw [c_nth_eq, h1]
  rfl
theorem al_call1 : c_al9 n t (fun h => c_call1 E q pc L st h) := by
  unfold c_call1
  split
  · refine al_thru fun h h' => ?_
    split
    · split <;> rfl
    · rfl
  · refine al_thru fun h h' => ?_
    split
    · split
      · split <;> rfl
      · rfl
    · rfl
  · refine al_thru fun h h' => ?_
    split
    · split
      · split <;> rfl
      · rfl
    · rfl
  · intro r hr
    simp only at hr
    split at hr
    · rename_i a t9
      split at hr
      · rename_i vs hvs
        split at hr
        · rename_i h1
          split at hr
          · rename_i h2
            cases hr
            refine ⟨t ++ [some (.inr (0, vs))], by unfold c_hd; rw [List.append_assoc], fun u hu => ?_⟩
            simp only [(hd_vs hvs).2 u hu, h1, h2, if_true, c_hd, List.length_append, List.length_replicate, hu, List.append_assoc]
          · cases hr
        · cases hr
      · cases hr
    · cases hr
  · refine al_thru fun h h' => ?_
    split
    · split <;> rfl
    · rfl
  · intro r hr
    simp only at hr
    split at hr
    · rename_i a t9
      split at hr
      · rename_i vs hvs
        split at hr
        · rename_i h1
          cases hr
          refine ⟨t, rfl, fun u hu => ?_⟩
          simp only [(hd_vs hvs).2 u hu, h1, if_true]
        · cases hr
      · cases hr
    · cases hr
  · intro r hr
    simp only at hr
    split at hr
    · rename_i m9 dp a2 sp a t9
      split at hr
      · rename_i vs hvs
        obtain ⟨t1, g1, g2⟩ := al_cpy (kh := fun _ => c_sy) (fun v hv u hu => hv) r hr
        refine ⟨t1, g1, fun u hu => ?_⟩
        simp only [(hd_vs hvs).2 u hu]
        exact g2 u hu
      · obtain ⟨t1, g1, g2⟩ := al_cpy (kh := c_ok3) al_ok3 r hr
        refine ⟨t1, g1, fun u hu => ?_⟩
        have g3 := g2 u hu
        have g4 : ∃ ws, c_vs (u ++ t) a 3 = some ws := by
          simp only at g3
          unfold c_cpy at g3
          split at g3
          · rename_i ws _ hws _
            exact ⟨ws, hws⟩
          · cases g3
        obtain ⟨ws, hws⟩ := g4
        simp only [vs_tag hws]
        exact g3
    · cases hr
  · intro r hr
    cases hr
set_option maxHeartbeats 1000000 in
theorem al_stp : c_al9 n t (fun h => c_stp E q pc L st h) := by
  unfold c_stp
  generalize q.1 = i
  cases i
  case getfield i => exact al_getf
  case putfield i => exact al_putf
  case iaload => exact al_iald
  case laload => exact al_ald
  case baload => exact al_ald
  case aaload => exact al_aald
  case iastore => exact al_ast (kh := fun _ => c_sy) (fun v hv u hu => hv)
  case lastore => exact al_ast (kh := fun _ => c_lg) (fun v hv u hu => hv)
  case bastore => exact al_ast (kh := fun _ => c_b01) (fun v hv u hu => hv)
  case aastore => exact al_aast
  case arraylength => exact al_alen (q := q)
  case new i => exact al_app (fun h => rfl)
  case newarray i => exact al_newa
  case anewarray i => exact al_newa
  case multianewarray i d => exact al_mnew
  case checkcast i => exact al_cast
  case invokespecial i => exact al_call1
  case invokestatic i => exact al_call1
  case invokevirtual i => exact al_call1
  case iload_n k => exact al_load
  case iload k => exact al_load
  case lload_n k => exact al_load
  case lload k => exact al_load
  case fload_n k => exact al_load
  case fload k => exact al_load
  case aload_n k => exact al_load
  case aload k => exact al_load
  case istore_n k => exact al_store
  case istore k => exact al_store
  case fstore_n k => exact al_store
  case fstore k => exact al_store
  case astore_n k => exact al_store
  case astore k => exact al_store
  case lstore_n k => exact al_store2
  case lstore k => exact al_store2
  case dstore k => exact al_store2
  case iadd => exact al_b2
  case isub => exact al_b2
  case imul => exact al_b2
  case iand => exact al_b2
  case ior => exact al_b2
  case ixor => exact al_b2
  case ishl => exact al_b2
  case ishr => exact al_b2
  case iushr => exact al_b2
  case irem => exact al_b2
  case idiv => exact al_b2
  case if_icmp cd off =>
    simp only [c_dsp]
    unfold x_icmp
    split
    · exact al_br
    · intro r hr; cases hr
  case ifCond cd off =>
    simp only [c_dsp]
    unfold x_if
    split
    · exact al_br
    · intro r hr; cases hr
  case iinc i m =>
    refine al_thru fun h h' => ?_
    simp only [c_dsp, x_iinc]
    split
    · split <;> rfl
    · rfl
  case fconst m =>
    refine al_thru fun h h' => ?_
    simp only [c_dsp]
    split <;> rfl
  case dconst m =>
    refine al_thru fun h h' => ?_
    simp only [c_dsp]
    split <;> rfl
  case ldc m =>
    refine al_thru fun h h' => ?_
    simp only [c_dsp, x_ldc]
    split
    · rfl
    · split
      · split <;> rfl
      · rfl
  case ldc_w m =>
    refine al_thru fun h h' => ?_
    simp only [c_dsp, x_ldc]
    split
    · rfl
    · split
      · split <;> rfl
      · rfl
  case ldc2_w m =>
    refine al_thru fun h h' => ?_
    simp only [c_dsp, x_ldc2]
    split <;> rfl
  case ladd => exact al_thru fun h h' => by simp only [c_dsp, x_l2, c_l2]; split <;> rfl
  case lsub => exact al_thru fun h h' => by simp only [c_dsp, x_l2, c_l2]; split <;> rfl
  case lmul => exact al_thru fun h h' => by simp only [c_dsp, x_l2, c_l2]; split <;> rfl
  case land => exact al_thru fun h h' => by simp only [c_dsp, x_l2, c_l2]; split <;> rfl
  case lor => exact al_thru fun h h' => by simp only [c_dsp, x_l2, c_l2]; split <;> rfl
  case lshl => exact al_thru fun h h' => by simp only [c_dsp, x_ls, c_ls]; split <;> rfl
  case lushr => exact al_thru fun h h' => by simp only [c_dsp, x_ls, c_ls]; split <;> rfl
  case lcmp =>
    refine al_thru fun h h' => ?_
    simp only [c_dsp, x_lcmp]
    split
    · rfl
    · split <;> rfl
    · rfl
  case i2l =>
    refine al_thru fun h h' => ?_
    simp only [c_dsp, x_i2l]
    split
    · rfl
    · split <;> rfl
    · rfl
  case l2i => exact al_thru fun h h' => by simp only [c_dsp, x_l2i]; split <;> rfl
  case if_acmp cd off =>
    refine al_thru fun h h' => ?_
    simp only [c_dsp, x_acmp]
    split
    · split <;> rfl
    · rfl
  case ifnull off => exact al_thru fun h h' => by simp only [c_dsp, x_ifn]; split <;> rfl
  case ifnonnull off => exact al_thru fun h h' => by simp only [c_dsp, x_ifn]; split <;> rfl
  case tableswitch d lo hi offs =>
    refine al_thru fun h h' => ?_
    simp only [c_dsp, x_tab]
    split
    · split <;> rfl
    · rfl
  case dup =>
    refine al_thru fun h h' => ?_
    simp only [c_dsp, x_dup]
    split
    · split <;> rfl
    · rfl
  case dup_x1 =>
    refine al_thru fun h h' => ?_
    simp only [c_dsp, x_dupx1]
    split
    · split
      · split <;> rfl
      · rfl
    · rfl
  case dup2 =>
    refine al_thru fun h h' => ?_
    simp only [c_dsp, x_dup2]
    split
    · split
      · split <;> rfl
      · rfl
    · rfl
  case pop =>
    refine al_thru fun h h' => ?_
    simp only [c_dsp, x_pop]
    split
    · split <;> rfl
    · rfl
  case i2f => exact al_thru fun h h' => by simp only [c_dsp, x_i2f]; split <;> rfl
  case fdiv =>
    refine al_thru fun h h' => ?_
    simp only [c_dsp, x_fdiv, c_f2]
    split
    · split <;> rfl
    · rfl
  case fcmp op => exact al_thru fun h h' => by simp only [c_dsp, x_fcmp, c_f2]; split <;> rfl
  case getstatic i => exact al_thru fun h h' => by simp only [c_dsp, x_gets]; split <;> rfl
  all_goals exact al_thru fun h h' => rfl
theorem hd_prt {md : c_M} {ar : List Value × List Value} (e : c_prt md q st (c_hd n t) = some ar) : ∀ u : c_Hp, u.length = n → c_prt md q st (u ++ t) = some ar := by
  intro u hu
  unfold c_prt at e ⊢
  simp only at e ⊢
  split at e
  · cases e
  · rename_i h1
    rw [if_neg h1]
    split at e
    · rename_i h2
      rw [if_pos h2]
      split at e
      · rename_i h3
        rw [if_pos ?_]
        · exact e
        · unfold c_rcv at h3 ⊢
          split at h3
          · rename_i h4
            rw [if_pos h4]
          · rename_i h4
            rw [if_neg h4]
            split at h3
            · split at h3
              · rename_i h5
                rw [if_pos h5]
              · rename_i h5
                rw [if_neg h5]
                obtain ⟨fs, hfs⟩ := Option.isSome_iff_exists.mp h3
                rw [(hd_fs hfs).2 u hu]
                rfl
            · exact h3
            · cases h3
      · cases e
    · cases e
end Hide2
theorem c_go_h {P : List (List c_M)} {E : c_E} {n : Nat} : ∀ (m : Nat) (md : c_M) (pc : Nat) (L : c_Ls) (st : List Value) (t : c_Hp) (r : c_O × c_Hp), c_go P E m md pc L st (c_hd n t) = some r → ∃ t1, r.2 = c_hd n t1 ∧ ∀ u : c_Hp, u.length = n → c_go P E m md pc L st (u ++ t) = some (r.1, u ++ t1)
  | 0, _, _, _, _, _, _, e => by cases e
  | m + 1, md, pc, L, st, t, r, e => by
    rw [c_go_s] at e
    unfold c_trq at e
    cases h2 : c_at pc (c_mi md) with
    | none => rw [h2] at e; cases e
    | some q =>
      rw [h2] at e
      simp only at e
      unfold c_trn at e
      split at e
      · rename_i hk
        unfold c_nxt at e
        split at e
        · rename_i r1 hr1
          obtain ⟨t1, g1, g2⟩ := al_stp r1 hr1
          rw [g1] at e
          obtain ⟨t2, f1, f2⟩ := c_go_h m _ _ _ _ _ _ e
          refine ⟨t2, f1, fun u hu => ?_⟩
          rw [c_go_s, h2]
          unfold c_trq
          simp only
          unfold c_trn
          rw [hk]
          simp only
          rw [show c_stp E q pc L st (u ++ t) = _ from g2 u hu]
          exact f2 u hu
        · cases e
      · rename_i hk
        unfold c_inv at e
        split at e
        · rename_i mz hmz
          unfold c_cll at e
          split at e
          · rename_i ar har
            have har2 := hd_prt har
            cases h6 : c_go P E m mz 0 (c_ent ar.1 (c_mL mz)) [] (c_hd n t) with
            | none => rw [h6] at e; cases e
            | some r1 =>
              rw [h6] at e
              obtain ⟨t1, g1, g2⟩ := c_go_h m _ _ _ _ _ _ h6
              obtain ⟨o, h1⟩ := r1
              simp only at g1 g2
              subst g1
              have fin : ∀ (t2 : c_Hp), r.2 = c_hd n t2 → (∀ u : c_Hp, u.length = n → c_aft (c_go P E m) md pc L ar.2 (some (o, u ++ t1)) = some (r.1, u ++ t2)) → ∃ t1, r.2 = c_hd n t1 ∧ ∀ u : c_Hp, u.length = n → c_go P E (m + 1) md pc L st (u ++ t) = some (r.1, u ++ t1) := by
                intro t2 f1 f2
                refine ⟨t2, f1, fun u hu => ?_⟩
                rw [c_go_s, h2]
                unfold c_trq
                simp only
                unfold c_trn
                rw [hk]
                simp only
                unfold c_inv
                rw [hmz]
                simp only
                unfold c_cll
                rw [har2 u hu]
                simp only
                rw [g2 u hu]
                exact f2 u hu
              cases o with
              | inl v =>
                obtain ⟨t2, f1, f2⟩ := c_go_h m _ _ _ _ _ _ e
                exact fin t2 f1 f2
              | inr X =>
                unfold c_aft at e
                simp only at e
                unfold c_catch at e
                split at e
                · rename_i w hw
                  obtain ⟨t2, f1, f2⟩ := c_go_h m _ _ _ _ _ _ e
                  refine fin t2 f1 fun u hu => ?_
                  unfold c_aft
                  simp only
                  rw [hw]
                  exact f2 u hu
                · rename_i hw
                  split at e
                  · rename_i he
                    cases e
                    refine fin t1 rfl fun u hu => ?_
                    unfold c_aft
                    simp only
                    rw [hw]
                    unfold c_catch
                    simp only
                    rw [if_pos he]
                  · cases e
          · cases e
        · cases e
      · rename_i hk
        unfold c_thr at e
        split at e
        · rename_i he
          cases e
          refine ⟨t ++ [none], by unfold c_hd; rw [List.append_assoc], fun u hu => ?_⟩
          rw [c_go_s, h2]
          unfold c_trq
          simp only
          unfold c_trn
          rw [hk]
          simp only
          unfold c_thr
          rw [if_pos he, List.append_assoc]
        · cases e
      · rename_i k0 g0 g4 g5
        unfold c_ret at e
        split at e
        · rename_i v hv
          cases e
          refine ⟨t, rfl, fun u hu => ?_⟩
          rw [c_go_s, h2]
          unfold c_trq
          simp only
          unfold c_trn
          split
          · rename_i hk; exact absurd hk g0
          · rename_i hk; exact absurd hk g4
          · rename_i hk; exact absurd hk g5
          · unfold c_ret
            rw [hv]
        · cases e
