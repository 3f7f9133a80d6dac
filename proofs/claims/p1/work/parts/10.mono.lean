def c_le (h h2 : c_Hp) : Prop := h.length ≤ h2.length ∧ c_msz h ≤ c_msz h2
theorem c_le.rf (h : c_Hp) : c_le h h := ⟨Nat.le_refl _, Nat.le_refl _⟩
theorem c_le.tr {h h2 h3 : c_Hp} (a : c_le h h2) (b : c_le h2 h3) : c_le h h3 := ⟨Nat.le_trans a.1 b.1, Nat.le_trans a.2 b.2⟩
theorem c_le.app (h h2 : c_Hp) : c_le h (h ++ h2) := ⟨by simp, by rw [c_msz_app2]; exact Nat.le_add_right _ _⟩
theorem c_le.st {h : c_Hp} {a : Nat} {x y : c_Cell} (hx : h[a]? = some x) (e : c_sz x = c_sz y) : c_le h (h.set a y) := ⟨by simp, by rw [c_msz_set hx e]; exact Nat.le_refl _⟩
section Mono
variable {E : c_E} {q : c_I} {pc i n o : Nat} {k : Value → Bool} {L : c_Ls} {st : List Value} {h : c_Hp} {r : c_R}
theorem c_load_le (e : c_load k L i n pc st h = some r) : c_le h r.2.2.2 := by
  unfold c_load at e
  repeat' (split at e)
  all_goals first | (cases e; done) | (cases e; exact c_le.rf _)
theorem c_store_le (e : c_store k L i n pc st h = some r) : c_le h r.2.2.2 := by
  unfold c_store at e
  repeat' (split at e)
  all_goals first | (cases e; done) | (cases e; exact c_le.rf _)
theorem c_store2_le (e : c_store2 k L i n pc st h = some r) : c_le h r.2.2.2 := by
  unfold c_store2 at e
  repeat' (split at e)
  all_goals first | (cases e; done) | (cases e; exact c_le.rf _)
theorem c_b2_le {f : Int32 → Int32 → Option Int32} (e : c_b2 E o f n pc L st h = some r) : c_le h r.2.2.2 := by
  unfold c_b2 at e
  repeat' (split at e)
  all_goals first | (cases e; done) | (cases e; exact c_le.rf _)
theorem c_br_le {cd : Jvm.ClassFile.Cond} {x y : Value} (e : c_br E cd n x y pc L st h = some r) : c_le h r.2.2.2 := by
  unfold c_br at e
  repeat' (split at e)
  all_goals first | (cases e; done) | (cases e; exact c_le.rf _)
theorem c_getf_le (e : c_getf q pc L st h = some r) : c_le h r.2.2.2 := by
  unfold c_getf at e
  repeat' (split at e)
  all_goals first | (cases e; done) | (cases e; exact c_le.rf _)
theorem c_putf_le (e : c_putf q pc L st h = some r) : c_le h r.2.2.2 := by
  unfold c_putf at e
  split at e
  · split at e
    · rename_i fs hfs
      split at e
      · split at e
        · rw [c_upd_eq, c_upd_eq] at e
          cases e
          exact c_le.st (c_fs_ok hfs) (by simp [c_sz])
        · cases e
      · cases e
    · cases e
  · cases e
theorem c_ald_le (e : c_ald n k pc L st h = some r) : c_le h r.2.2.2 := by
  unfold c_ald at e
  repeat' (split at e)
  all_goals first | (cases e; done) | (cases e; exact c_le.rf _)
theorem c_iald_le (e : c_iald E pc L st h = some r) : c_le h r.2.2.2 := by
  unfold c_iald at e
  split at e
  · repeat' (split at e)
    all_goals first | (cases e; done) | (cases e; exact c_le.rf _)
  · exact c_ald_le e
theorem c_aald_le (e : c_aald q pc L st h = some r) : c_le h r.2.2.2 := by
  unfold c_aald at e
  split at e
  · split at e
    · cases e; exact c_le.rf _
    · cases e
  · split at e
    · exact c_ald_le e
    · split at e
      · exact c_ald_le e
      · cases e
theorem c_ast_le (e : c_ast n k pc L st h = some r) : c_le h r.2.2.2 := by
  unfold c_ast at e
  split at e
  · split at e
    · rename_i vs hvs
      split at e
      · split at e
        · rw [c_upd_eq, c_upd_eq] at e
          cases e
          exact c_le.st (c_vs_ok hvs) (by simp [c_sz])
        · cases e
      · cases e
    · cases e
  · cases e
theorem c_aast_le (e : c_aast q pc L st h = some r) : c_le h r.2.2.2 := by
  unfold c_aast at e
  split at e
  · exact c_ast_le e
  · cases e
theorem c_alen_le (e : c_alen E q pc L st h = some r) : c_le h r.2.2.2 := by
  unfold c_alen at e
  simp only [c_nrm_eq] at e
  repeat' (split at e)
  all_goals first | (cases e; done) | (cases e; exact c_le.rf _)
theorem c_newa_le (e : c_newa q pc n L st h = some r) : c_le h r.2.2.2 := by
  unfold c_newa at e
  repeat' (split at e)
  all_goals first | (cases e; done) | (cases e; exact c_le.app _ _)
theorem c_mnew_le (e : c_mnew pc L st h = some r) : c_le h r.2.2.2 := by
  unfold c_mnew at e
  repeat' (split at e)
  all_goals first | (cases e; done) | (cases e; exact (c_le.app _ _).tr (c_le.app _ _))
theorem c_cast_le (e : c_cast q pc L st h = some r) : c_le h r.2.2.2 := by
  unfold c_cast at e
  repeat' (split at e)
  all_goals first | (cases e; done) | (cases e; exact c_le.rf _)
theorem c_cpy_le {sp dp m : Int32} {a a2 : Nat} {t : List Value} (e : c_cpy n k sp dp m a a2 pc L t h = some r) : c_le h r.2.2.2 := by
  unfold c_cpy at e
  split at e
  · rename_i vs ws hvs hws
    split at e
    · cases e
    · split at e
      · cases e
      · split at e
        · cases e
        · split at e
          · rename_i h4
            split at e
            · rename_i h5
              split at e
              · split at e
                · rw [c_upd_eq] at e
                  cases e
                  exact c_le.st (c_vs_ok hws) (by simp [c_sz, c_lay_len h4 h5])
                · cases e
              · cases e
            · cases e
          · cases e
  · cases e
theorem c_call1_le (e : c_call1 E q pc L st h = some r) : c_le h r.2.2.2 := by
  unfold c_call1 at e
  split at e
  · repeat' (split at e)
    all_goals first | (cases e; done) | (cases e; exact c_le.rf _)
  · repeat' (split at e)
    all_goals first | (cases e; done) | (cases e; exact c_le.rf _)
  · repeat' (split at e)
    all_goals first | (cases e; done) | (cases e; exact c_le.rf _)
  · repeat' (split at e)
    all_goals first | (cases e; done) | (cases e; exact c_le.app _ _)
  · repeat' (split at e)
    all_goals first | (cases e; done) | (cases e; exact c_le.rf _)
  · repeat' (split at e)
    all_goals first | (cases e; done) | (cases e; exact c_le.rf _)
  · split at e
    · split at e
      · exact c_cpy_le e
      · exact c_cpy_le e
    · cases e
  · cases e
set_option maxHeartbeats 4000000 in
theorem c_stp_le (e : c_stp E q pc L st h = some r) : c_le h r.2.2.2 := by
  unfold c_stp at e
  cases hq : q.1
  case putfield i => simp only [c_dsp, hq] at e; exact c_putf_le e
  case getfield i => simp only [c_dsp, hq] at e; exact c_getf_le e
  case iaload => simp only [c_dsp, hq] at e; exact c_iald_le e
  case laload => simp only [c_dsp, hq] at e; exact c_ald_le e
  case baload => simp only [c_dsp, hq] at e; exact c_ald_le e
  case aaload => simp only [c_dsp, hq] at e; exact c_aald_le e
  case iastore => simp only [c_dsp, hq] at e; exact c_ast_le e
  case lastore => simp only [c_dsp, hq] at e; exact c_ast_le e
  case bastore => simp only [c_dsp, hq] at e; exact c_ast_le e
  case aastore => simp only [c_dsp, hq] at e; exact c_aast_le e
  case arraylength => simp only [c_dsp, hq] at e; exact c_alen_le e
  case new i => simp only [c_dsp, hq, x_new] at e; cases e; exact c_le.app _ _
  case newarray t => simp only [c_dsp, hq] at e; exact c_newa_le e
  case anewarray t => simp only [c_dsp, hq] at e; exact c_newa_le e
  case multianewarray i d => simp only [c_dsp, hq] at e; exact c_mnew_le e
  case checkcast i => simp only [c_dsp, hq] at e; exact c_cast_le e
  case invokespecial i => simp only [c_dsp, hq] at e; exact c_call1_le e
  case invokestatic i => simp only [c_dsp, hq] at e; exact c_call1_le e
  case invokevirtual i => simp only [c_dsp, hq] at e; exact c_call1_le e
  case iload_n n => simp only [c_dsp, hq] at e; exact c_load_le e
  case iload n => simp only [c_dsp, hq] at e; exact c_load_le e
  case lload_n n => simp only [c_dsp, hq] at e; exact c_load_le e
  case lload n => simp only [c_dsp, hq] at e; exact c_load_le e
  case fload_n n => simp only [c_dsp, hq] at e; exact c_load_le e
  case fload n => simp only [c_dsp, hq] at e; exact c_load_le e
  case aload_n n => simp only [c_dsp, hq] at e; exact c_load_le e
  case aload n => simp only [c_dsp, hq] at e; exact c_load_le e
  case istore_n n => simp only [c_dsp, hq] at e; exact c_store_le e
  case istore n => simp only [c_dsp, hq] at e; exact c_store_le e
  case fstore_n n => simp only [c_dsp, hq] at e; exact c_store_le e
  case fstore n => simp only [c_dsp, hq] at e; exact c_store_le e
  case astore_n n => simp only [c_dsp, hq] at e; exact c_store_le e
  case astore n => simp only [c_dsp, hq] at e; exact c_store_le e
  case lstore_n n => simp only [c_dsp, hq] at e; exact c_store2_le e
  case lstore n => simp only [c_dsp, hq] at e; exact c_store2_le e
  case dstore n => simp only [c_dsp, hq] at e; exact c_store2_le e
  case if_icmp cd off =>
    simp only [c_dsp, hq, x_icmp] at e
    split at e
    · exact c_br_le e
    · cases e
  case ifCond cd off =>
    simp only [c_dsp, hq, x_if] at e
    split at e
    · exact c_br_le e
    · cases e
  case iadd => simp only [c_dsp, hq] at e; exact c_b2_le e
  case isub => simp only [c_dsp, hq] at e; exact c_b2_le e
  case imul => simp only [c_dsp, hq] at e; exact c_b2_le e
  case iand => simp only [c_dsp, hq] at e; exact c_b2_le e
  case ior => simp only [c_dsp, hq] at e; exact c_b2_le e
  case ixor => simp only [c_dsp, hq] at e; exact c_b2_le e
  case ishl => simp only [c_dsp, hq] at e; exact c_b2_le e
  case ishr => simp only [c_dsp, hq] at e; exact c_b2_le e
  case iushr => simp only [c_dsp, hq] at e; exact c_b2_le e
  case irem => simp only [c_dsp, hq] at e; exact c_b2_le e
  case idiv => simp only [c_dsp, hq] at e; exact c_b2_le e
  case iinc i n =>
    simp only [c_dsp, hq, x_iinc] at e
    split at e
    · split at e
      · cases e; exact c_le.rf _
      · cases e
    · cases e
  case fconst n =>
    simp only [c_dsp, hq] at e
    split at e
    · cases e; exact c_le.rf _
    · cases e
  case dconst n =>
    simp only [c_dsp, hq] at e
    split at e
    · cases e; exact c_le.rf _
    · cases e
  case ldc i =>
    simp only [c_dsp, hq, x_ldc] at e
    repeat' (split at e)
    all_goals first | (cases e; done) | (cases e; exact c_le.rf _)
  case ldc_w i =>
    simp only [c_dsp, hq, x_ldc] at e
    repeat' (split at e)
    all_goals first | (cases e; done) | (cases e; exact c_le.rf _)
  case ldc2_w i =>
    simp only [c_dsp, hq, x_ldc2] at e
    repeat' (split at e)
    all_goals first | (cases e; done) | (cases e; exact c_le.rf _)
  case ladd =>
    simp only [c_dsp, hq, x_l2, c_l2] at e
    repeat' (split at e)
    all_goals first | (cases e; done) | (cases e; exact c_le.rf _)
  case lsub =>
    simp only [c_dsp, hq, x_l2, c_l2] at e
    repeat' (split at e)
    all_goals first | (cases e; done) | (cases e; exact c_le.rf _)
  case lmul =>
    simp only [c_dsp, hq, x_l2, c_l2] at e
    repeat' (split at e)
    all_goals first | (cases e; done) | (cases e; exact c_le.rf _)
  case land =>
    simp only [c_dsp, hq, x_l2, c_l2] at e
    repeat' (split at e)
    all_goals first | (cases e; done) | (cases e; exact c_le.rf _)
  case lor =>
    simp only [c_dsp, hq, x_l2, c_l2] at e
    repeat' (split at e)
    all_goals first | (cases e; done) | (cases e; exact c_le.rf _)
  case lshl =>
    simp only [c_dsp, hq, x_ls, c_ls] at e
    repeat' (split at e)
    all_goals first | (cases e; done) | (cases e; exact c_le.rf _)
  case lushr =>
    simp only [c_dsp, hq, x_ls, c_ls] at e
    repeat' (split at e)
    all_goals first | (cases e; done) | (cases e; exact c_le.rf _)
  case lcmp =>
    simp only [c_dsp, hq, x_lcmp] at e
    repeat' (split at e)
    all_goals first | (cases e; done) | (cases e; exact c_le.rf _)
  case i2l =>
    simp only [c_dsp, hq, x_i2l] at e
    repeat' (split at e)
    all_goals first | (cases e; done) | (cases e; exact c_le.rf _)
  case l2i =>
    simp only [c_dsp, hq, x_l2i] at e
    repeat' (split at e)
    all_goals first | (cases e; done) | (cases e; exact c_le.rf _)
  case if_acmp cd off =>
    simp only [c_dsp, hq, x_acmp] at e
    repeat' (split at e)
    all_goals first | (cases e; done) | (cases e; exact c_le.rf _)
  case ifnull off =>
    simp only [c_dsp, hq, x_ifn] at e
    repeat' (split at e)
    all_goals first | (cases e; done) | (cases e; exact c_le.rf _)
  case ifnonnull off =>
    simp only [c_dsp, hq, x_ifn] at e
    repeat' (split at e)
    all_goals first | (cases e; done) | (cases e; exact c_le.rf _)
  case tableswitch d lo hi offs =>
    simp only [c_dsp, hq, x_tab] at e
    repeat' (split at e)
    all_goals first | (cases e; done) | (cases e; exact c_le.rf _)
  case dup =>
    simp only [c_dsp, hq, x_dup] at e
    repeat' (split at e)
    all_goals first | (cases e; done) | (cases e; exact c_le.rf _)
  case dup_x1 =>
    simp only [c_dsp, hq, x_dupx1] at e
    repeat' (split at e)
    all_goals first | (cases e; done) | (cases e; exact c_le.rf _)
  case dup2 =>
    simp only [c_dsp, hq, x_dup2] at e
    repeat' (split at e)
    all_goals first | (cases e; done) | (cases e; exact c_le.rf _)
  case pop =>
    simp only [c_dsp, hq, x_pop] at e
    repeat' (split at e)
    all_goals first | (cases e; done) | (cases e; exact c_le.rf _)
  case i2f =>
    simp only [c_dsp, hq, x_i2f] at e
    repeat' (split at e)
    all_goals first | (cases e; done) | (cases e; exact c_le.rf _)
  case fdiv =>
    simp only [c_dsp, hq, x_fdiv, c_f2] at e
    repeat' (split at e)
    all_goals first | (cases e; done) | (cases e; exact c_le.rf _)
  case fcmp op =>
    simp only [c_dsp, hq, x_fcmp, c_f2] at e
    repeat' (split at e)
    all_goals first | (cases e; done) | (cases e; exact c_le.rf _)
  case getstatic i =>
    simp only [c_dsp, hq, x_gets] at e
    repeat' (split at e)
    all_goals first | (cases e; done) | (cases e; exact c_le.rf _)
  all_goals first
    | (simp only [c_dsp, hq, x_no] at e; cases e; done)
    | (simp only [c_dsp, hq, x_push, x_goto] at e; cases e; exact c_le.rf _)
end Mono
theorem c_go_s (P : List (List c_M)) (E : c_E) (n : Nat) (md : c_M) (pc : Nat) (L : c_Ls) (st : List Value) (h : c_Hp) : c_go P E (n + 1) md pc L st h = c_trq P E (c_go P E n) md pc L st h (c_at pc (c_mi md)) := rfl
theorem c_go_le {P : List (List c_M)} {E : c_E} : ∀ (n : Nat) (md : c_M) (pc : Nat) (L : c_Ls) (st : List Value) (h : c_Hp) (r : c_O × c_Hp), c_go P E n md pc L st h = some r → c_le h r.2
  | 0, _, _, _, _, _, _, e => by cases e
  | n + 1, md, pc, L, st, h, r, e => by
    rw [c_go_s] at e
    unfold c_trq at e
    split at e
    · rename_i q hq
      unfold c_trn at e
      split at e
      · unfold c_nxt at e
        split at e
        · rename_i r1 hr1
          exact (c_stp_le hr1).tr (c_go_le n _ _ _ _ _ _ e)
        · cases e
      · unfold c_inv at e
        split at e
        · rename_i mz hmz
          unfold c_cll at e
          split at e
          · rename_i ar har
            unfold c_aft at e
            split at e
            · rename_i v h1 e2
              exact (c_go_le n _ _ _ _ _ _ e2).tr (c_go_le n _ _ _ _ _ _ e)
            · rename_i X h1 e2
              unfold c_catch at e
              split at e
              · exact (c_go_le n _ _ _ _ _ _ e2).tr (c_go_le n _ _ _ _ _ _ e)
              · split at e
                · cases e
                  exact c_go_le n _ _ _ _ _ _ e2
                · cases e
            · cases e
          · cases e
        · cases e
      · unfold c_thr at e
        split at e
        · cases e
          exact c_le.app _ _
        · cases e
      · unfold c_ret at e
        split at e
        · cases e
          exact c_le.rf _
        · cases e
    · cases e
