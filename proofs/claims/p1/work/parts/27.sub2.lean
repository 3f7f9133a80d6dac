section Sub2
variable {B : c_B} {F : List c_F} {E : c_E} {q : c_I} {pc n : Nat} {L : c_Ls} {st : List Value} {h : c_Hp} {r : c_R}
theorem s_nvs {a : Nat} (e : c_vs h a 0 = none) : c_vs (s_h B h) a 0 = none := by
  unfold c_vs at e ⊢
  rw [s_nthH]
  cases h1 : c_nth h a with
  | none => rfl
  | some x =>
    rw [h1] at e
    cases x with
    | none => rfl
    | some y =>
      cases y with
      | inl q => rfl
      | inr q =>
        simp only [Option.map_some, s_c] at e ⊢
        cases h2 : Nat.beq q.1 0 with
        | true => rw [h2] at e; cases e
        | false => rfl
theorem s_call1 (hE : ∀ f ∈ E.1, c_hold B f) (e : c_call1 E q pc L st h = some r) : c_call1 (s_E B F E) q pc (s_L B L) (s_st B st) (s_h B h) = some (s_r B r) := by
  have s8 : ∀ t : List Value, c_sum8 (s_st B t) = c_sum8 t := fun t => s_sum8
  unfold c_call1 at e ⊢
  split at e
  · split at e
    · rename_i a t9
      split at e
      · rename_i h1
        cases e
        show (if c_sum8 (s_st B t9) then some (pc + 3, s_L B L, s_st B t9, s_h B h) else none) = _
        rw [s8, if_pos h1]
        rfl
      · cases e
    · cases e
  · split at e
    · rename_i y x t9
      split at e
      · rename_i h1
        split at e
        · rename_i v hv
          cases e
          show (if c_sum8 (s_st B t9) then match c_op (s_E B F E) 30 m_max (s_v B x) (s_v B y) with
            | some v => some (pc + 3, s_L B L, v :: s_st B t9, s_h B h)
            | none => none
            else none) = _
          rw [s8, if_pos h1]
          have h2 : c_op (s_E B F E) 30 m_max (s_v B x) (s_v B y) = some (s_v B v) := s_op hE rfl hv
          simp only [h2]
          rfl
        · cases e
      · cases e
    · cases e
  · split at e
    · rename_i y x t9
      split at e
      · rename_i h1
        split at e
        · rename_i v hv
          cases e
          show (if c_sum8 (s_st B t9) then match c_op (s_E B F E) 31 m_min (s_v B x) (s_v B y) with
            | some v => some (pc + 3, s_L B L, v :: s_st B t9, s_h B h)
            | none => none
            else none) = _
          rw [s8, if_pos h1]
          have h2 : c_op (s_E B F E) 31 m_min (s_v B x) (s_v B y) = some (s_v B v) := s_op hE rfl hv
          simp only [h2]
          rfl
        · cases e
      · cases e
    · cases e
  · split at e
    · rename_i a t9
      split at e
      · rename_i vs hvs
        split at e
        · rename_i h1
          split at e
          · rename_i h2
            cases e
            have h3 : (vs.map (s_v B)).all c_sy = true := by
              refine List.all_eq_true.mpr fun v hv => ?_
              obtain ⟨w, hw, rfl⟩ := List.mem_map.mp hv
              exact s_sy w (List.all_eq_true.mp h2 w hw)
            show (match c_vs (s_h B h) a 0 with
              | some vs => if c_sum8 (s_st B t9) then if vs.all c_sy then some (pc + 3, s_L B L, Value.ref (s_h B h).length :: s_st B t9, s_h B h ++ [some (Sum.inr (0, vs))]) else none else none
              | none => none) = _
            simp only [s_vs hvs, s8, h1, h3, if_true, s_lenH]
            have h4 : s_h B (h ++ [some (.inr (0, vs))]) = s_h B h ++ [some (.inr (0, vs.map (s_v B)))] := by
              unfold s_h
              rw [List.map_append]
              rfl
            unfold s_r
            simp only [h4]
            rfl
          · cases e
        · cases e
      · cases e
    · cases e
  · split at e
    · rename_i x t9
      split at e
      · rename_i h1
        cases e
        show (if c_sum8 (s_st B t9) then some (pc + 3, s_L B L, Value.int x.toInt32 :: s_st B t9, s_h B h) else none) = _
        rw [s8, if_pos h1]
        rfl
      · cases e
    · cases e
  · split at e
    · rename_i a t9
      split at e
      · rename_i vs hvs
        split at e
        · rename_i h1
          cases e
          show (match c_vs (s_h B h) a 3 with
            | some _ => if c_sum8 (s_st B t9) then some (pc + 3, s_L B L, Value.retAddr 4 :: s_st B t9, s_h B h) else none
            | none => none) = _
          simp only [s_vs hvs, s8, h1, if_true]
          rfl
        · cases e
      · cases e
    · cases e
  · split at e
    · rename_i m9 dp a2 sp a t9
      show (match c_vs (s_h B h) a 0 with
        | some _ => c_cpy 0 c_sy sp dp m9 a a2 pc (s_L B L) (s_st B t9) (s_h B h)
        | none => c_cpy 3 (c_ok3 (s_h B h)) sp dp m9 a a2 pc (s_L B L) (s_st B t9) (s_h B h)) = _
      split at e
      · rename_i vs hvs
        simp only [s_vs hvs]
        exact s_cpy (kh := fun _ => c_sy) (fun v hv => s_sy v hv) e
      · rename_i hvs
        simp only [s_nvs hvs]
        exact s_cpy (kh := c_ok3) s_ok3 e
    · cases e
  · cases e
theorem s_dfl (k n : Nat) : (c_dfl k n).map (s_v B) = c_dfl k n := by
  unfold c_dfl
  rw [List.map_map]
  exact List.map_congr_left fun j _ => s_dv B _
theorem s_acmp {x y : Value} {z : Bool} (e : c_acmp x y = some z) : c_acmp (s_v B x) (s_v B y) = some z := by
  unfold c_acmp at e
  split at e
  · rename_i i j
    split at e
    · rename_i h1
      rw [Bool.and_eq_true] at h1
      have h2 : i < 10 := Nat.blt_eq.mp h1.1
      have h3 := Nat.eq_of_beq_eq_true h1.2
      subst h3
      rw [s_v_r, if_pos h2]
      show (if Nat.blt i 10 && Nat.beq i i then some true else none) = _
      rw [if_pos (by rw [Bool.and_eq_true]; exact h1)]
      exact e
    · cases e
  · rename_i a i
    split at e
    · rename_i h1
      have h2 : i < 4 := Nat.blt_eq.mp h1
      rw [s_v_r, if_pos (by omega)]
      show (if Nat.blt i 4 then some false else none) = _
      rw [if_pos h1]
      exact e
    · cases e
  · cases e
/-- a step that looks at the stack's first value alone, one told -/
theorem s_lcmp (e : x_lcmp E q pc L st h = some r) : x_lcmp (s_E B F E) q pc (s_L B L) (s_st B st) (s_h B h) = some (s_r B r) := by
  unfold x_lcmp at e
  split at e
  · cases e; rfl
  · rename_i y x t9
    split at e
    · rename_i h1
      cases e
      rw [Bool.and_eq_true] at h1
      have h2 : c_M0 ≤ x.toNat := Nat.le_of_ble_eq_true h1.1
      have h3 := Nat.eq_of_beq_eq_true h1.2
      have h4 : s_v B (.double x) = .long (B.2 (x.toNat - c_M0)).toInt64 := by rw [s_v_d, if_pos h2]
      have h5 : s_v B (.double y) = .long (B.2 (x.toNat - c_M0)).toInt64 := by rw [s_v_d, ← h3, if_pos h2]
      show x_lcmp _ q pc _ (s_v B (.double y) :: s_v B (.double x) :: s_st B t9) _ = _
      rw [h4, h5]
      show some (pc + 1, s_L B L, Value.int (lg_cmp (B.2 (x.toNat - c_M0)).toInt64 (B.2 (x.toNat - c_M0)).toInt64) :: s_st B t9, s_h B h) = _
      have h6 : ∀ z : Int64, lg_cmp z z = 0 := fun z => by unfold lg_cmp; simp
      rw [h6]
      rfl
    · cases e
  · cases e
theorem s_i2l (e : x_i2l E q pc L st h = some r) : x_i2l (s_E B F E) q pc (s_L B L) (s_st B st) (s_h B h) = some (s_r B r) := by
  unfold x_i2l at e
  split at e
  · cases e; rfl
  · rename_i i t9
    split at e
    · rename_i h1
      cases e
      rw [Bool.and_eq_true] at h1
      have h2 : 10 ≤ i := Nat.le_of_ble_eq_true h1.1
      have h3 : i ≤ 1000 := Nat.le_of_ble_eq_true h1.2
      have h4 : (UInt64.ofNat (c_M0 + i)).toNat = c_M0 + i := by
        rw [UInt64.toNat_ofNat']
        unfold c_M0
        omega
      have h5 : s_v B (.double (UInt64.ofNat (c_M0 + i))) = .long (B.2 i).toInt64 := by
        rw [s_v_d, h4, if_pos (by omega), show c_M0 + i - c_M0 = i from by omega]
      show x_i2l _ q pc _ (s_v B (.retAddr i) :: s_st B t9) _ = some (pc + 1, s_L B L, s_v B (.double (UInt64.ofNat (c_M0 + i))) :: s_st B t9, s_h B h)
      rw [h5, s_v_r, if_neg (by omega)]
      rfl
    · cases e
  · cases e
set_option maxHeartbeats 2000000 in
theorem s_stp (hE : ∀ f ∈ E.1, c_hold B f) (e : c_stp E q pc L st h = some r) : c_stp (s_E B F E) q pc (s_L B L) (s_st B st) (s_h B h) = some (s_r B r) := by
  have cat : ∀ v : Value, (s_v B v).category = v.category := s_v_cat B
  unfold c_stp at e ⊢
  generalize q.1 = i at e ⊢
  cases i
  case getfield i => exact s_getf e
  case putfield i => exact s_putf e
  case iaload => exact s_iald e
  case laload => exact s_ald2 s_lg e
  case baload => exact s_ald2 s_b01 e
  case aaload => exact s_aald e
  case iastore => exact s_ast (kh := fun _ => c_sy) (fun v hv => s_sy v hv) e
  case lastore => exact s_ast (kh := fun _ => c_lg) (fun v hv => s_lg v hv) e
  case bastore => exact s_ast (kh := fun _ => c_b01) (fun v hv => s_b01 v hv) e
  case aastore => exact s_aast e
  case arraylength => exact s_alen (q := q) e
  case new i =>
    simp only [c_dsp, x_new] at e ⊢
    cases e
    have h3 : s_c B (some (.inl (q.2.1, c_dfl q.2.1 (c_nf q.2.1)))) = some (.inl (q.2.1, c_dfl q.2.1 (c_nf q.2.1))) := by
      show some (Sum.inl (q.2.1, (c_dfl q.2.1 (c_nf q.2.1)).map (s_v B))) = _
      rw [s_dfl]
    rw [s_app h3, s_lenH]
    rfl
  case newarray i => exact s_newa e
  case anewarray i => exact s_newa e
  case multianewarray i d => exact s_mnew e
  case checkcast i => exact s_cast e
  case invokespecial i => exact s_call1 hE e
  case invokestatic i => exact s_call1 hE e
  case invokevirtual i => exact s_call1 hE e
  case iload_n k => exact s_load s_sy e
  case iload k => exact s_load s_sy e
  case lload_n k => exact s_load s_lg e
  case lload k => exact s_load s_lg e
  case fload_n k => exact s_load s_flk e
  case fload k => exact s_load s_flk e
  case aload_n k => exact s_load s_rfk e
  case aload k => exact s_load s_rfk e
  case istore_n k => exact s_store s_sy e
  case istore k => exact s_store s_sy e
  case fstore_n k => exact s_store s_flk e
  case fstore k => exact s_store s_flk e
  case astore_n k => exact s_store s_rfk e
  case astore k => exact s_store s_rfk e
  case lstore_n k => exact s_store2 s_lg e
  case lstore k => exact s_store2 s_lg e
  case dstore k => exact s_store2 s_dbk e
  case iadd => exact s_b2 hE rfl e
  case isub => exact s_b2 hE rfl e
  case imul => exact s_b2 hE rfl e
  case iand => exact s_b2 hE rfl e
  case ior => exact s_b2 hE rfl e
  case ixor => exact s_b2 hE rfl e
  case ishl => exact s_b2 hE rfl e
  case ishr => exact s_b2 hE rfl e
  case iushr => exact s_b2 hE rfl e
  case irem => exact s_b2 hE rfl e
  case idiv => exact s_b2 hE rfl e
  case if_icmp cd off =>
    simp only [c_dsp, x_icmp] at e
    split at e
    · exact s_br hE e
    · cases e
  case ifCond cd off =>
    simp only [c_dsp, x_if] at e
    split at e
    · exact s_br hE e
    · cases e
  case iinc i m =>
    simp only [c_dsp, x_iinc] at e ⊢
    rw [s_nthL]
    split at e
    · rename_i v hv
      split at e
      · rename_i w hw
        cases e
        have h1 : c_op (s_E B F E) 0 m_add (s_v B v) (.int (Int32.ofInt m)) = some (s_v B w) := s_op hE rfl hw
        rw [hv]
        simp only [Option.map_some, h1]
        exact congrArg (fun y => some (pc + 3, y, s_st B st, s_h B h)) (s_set (v := w))
      · cases e
    · cases e
  case fconst m =>
    simp only [c_dsp] at e ⊢
    split at e
    · rename_i h1
      rw [if_pos h1]
      cases e
      rfl
    · cases e
  case dconst m =>
    simp only [c_dsp] at e ⊢
    split at e
    · rename_i h1
      rw [if_pos h1]
      cases e
      rfl
    · cases e
  case ldc m =>
    simp only [c_dsp, x_ldc] at e ⊢
    split at e
    · rename_i h1
      rw [if_pos h1]
      cases e
      rfl
    · rename_i h1
      rw [if_neg h1]
      split at e
      · rename_i h2
        rw [if_pos h2]
        split at e
        · rename_i h3
          rw [if_pos h3]
          cases e
          rfl
        · cases e
      · cases e
  case ldc_w m =>
    simp only [c_dsp, x_ldc] at e ⊢
    split at e
    · rename_i h1
      rw [if_pos h1]
      cases e
      rfl
    · rename_i h1
      rw [if_neg h1]
      split at e
      · rename_i h2
        rw [if_pos h2]
        split at e
        · rename_i h3
          rw [if_pos h3]
          cases e
          rfl
        · cases e
      · cases e
  case ldc2_w m =>
    simp only [c_dsp, x_ldc2] at e ⊢
    split at e
    · rename_i h1
      rw [if_pos h1]
      cases e
      rfl
    · cases e
  case ladd => simp only [c_dsp, x_l2, c_l2] at e; split at e; · cases e; rfl
               · cases e
  case lsub => simp only [c_dsp, x_l2, c_l2] at e; split at e; · cases e; rfl
               · cases e
  case lmul => simp only [c_dsp, x_l2, c_l2] at e; split at e; · cases e; rfl
               · cases e
  case land => simp only [c_dsp, x_l2, c_l2] at e; split at e; · cases e; rfl
               · cases e
  case lor => simp only [c_dsp, x_l2, c_l2] at e; split at e; · cases e; rfl
              · cases e
  case lshl => simp only [c_dsp, x_ls, c_ls] at e; split at e; · cases e; rfl
               · cases e
  case lushr => simp only [c_dsp, x_ls, c_ls] at e; split at e; · cases e; rfl
                · cases e
  case lcmp => exact s_lcmp (E := E) (F := F) (q := q) e
  case i2l => exact s_i2l (E := E) (F := F) (q := q) e
  case l2i => simp only [c_dsp, x_l2i] at e; split at e; · cases e; rfl
              · cases e
  case if_acmp cd off =>
    simp only [c_dsp, x_acmp] at e
    split at e
    · rename_i y x t9
      split at e
      · rename_i z hz
        cases e
        show (match c_acmp (s_v B x) (s_v B y) with
          | some z => some (if z = decide (cd = Jvm.ClassFile.ACond.eq) then q.2.1 else pc + 3, s_L B L, s_st B t9, s_h B h)
          | none => none) = _
        rw [s_acmp hz]
        rfl
      · cases e
    · cases e
  case ifnull off => simp only [c_dsp, x_ifn] at e; split at e; · cases e; rfl
                     · cases e
  case ifnonnull off => simp only [c_dsp, x_ifn] at e; split at e; · cases e; rfl
                        · cases e
  case goto off => simp only [c_dsp, x_goto] at e; cases e; rfl
  case tableswitch d lo hi offs =>
    simp only [c_dsp, x_tab] at e
    split at e
    · rename_i x t9
      show (match c_sw offs.toList lo x with
        | some o => some (((pc : Int) + o).toNat, s_L B L, s_st B t9, s_h B h)
        | none => some (((pc : Int) + d).toNat, s_L B L, s_st B t9, s_h B h)) = _
      split at e
      · rename_i o ho
        cases e
        rw [ho]
        rfl
      · rename_i ho
        cases e
        rw [ho]
        rfl
    · cases e
  case dup =>
    simp only [c_dsp, x_dup] at e
    split at e
    · rename_i v t9
      split at e
      · rename_i h1
        cases e
        show (if (s_v B v).category = 1 then some (pc + 1, s_L B L, s_v B v :: s_v B v :: s_st B t9, s_h B h) else none) = _
        rw [cat, if_pos h1]
        rfl
      · cases e
    · cases e
  case dup_x1 =>
    simp only [c_dsp, x_dupx1] at e
    split at e
    · rename_i v w t9
      split at e
      · rename_i h1
        split at e
        · rename_i h2
          cases e
          show (if (s_v B v).category = 1 then if (s_v B w).category = 1 then some (pc + 1, s_L B L, s_v B v :: s_v B w :: s_v B v :: s_st B t9, s_h B h) else none else none) = _
          rw [cat, cat, if_pos h1, if_pos h2]
          rfl
        · cases e
      · cases e
    · cases e
  case dup2 =>
    simp only [c_dsp, x_dup2] at e
    split at e
    · rename_i v w t9
      split at e
      · rename_i h1
        split at e
        · rename_i h2
          cases e
          show (if (s_v B v).category = 1 then if (s_v B w).category = 1 then some (pc + 1, s_L B L, s_v B v :: s_v B w :: s_v B v :: s_v B w :: s_st B t9, s_h B h) else none else none) = _
          rw [cat, cat, if_pos h1, if_pos h2]
          rfl
        · cases e
      · cases e
    · cases e
  case pop =>
    simp only [c_dsp, x_pop] at e
    split at e
    · rename_i v t9
      split at e
      · rename_i h1
        cases e
        show (if (s_v B v).category = 1 then some (pc + 1, s_L B L, s_st B t9, s_h B h) else none) = _
        rw [cat, if_pos h1]
        rfl
      · cases e
    · cases e
  case i2f => simp only [c_dsp, x_i2f] at e; split at e; · cases e; rfl
              · cases e
  case fdiv =>
    simp only [c_dsp, x_fdiv, c_f2] at e
    split at e
    · rename_i y x t9
      split at e
      · rename_i h1
        cases e
        show (if c_nn (FP.fdiv x y) then some (pc + 1, s_L B L, Value.float (FP.fdiv x y) :: s_st B t9, s_h B h) else none) = _
        rw [if_pos h1]
        rfl
      · cases e
    · cases e
  case fcmp op => simp only [c_dsp, x_fcmp, c_f2] at e; split at e; · cases e; rfl
                  · cases e
  case getstatic i =>
    simp only [c_dsp, x_gets] at e ⊢
    split at e
    · cases e; rfl
    · cases e; rfl
    · cases e; rfl
    · cases e
  case iconst n => simp only [c_dsp, x_push] at e; cases e; rfl
  case bipush n => simp only [c_dsp, x_push] at e; cases e; rfl
  case sipush n => simp only [c_dsp, x_push] at e; cases e; rfl
  case lconst n => simp only [c_dsp, x_push] at e; cases e; rfl
  case aconst_null => simp only [c_dsp, x_push] at e; cases e; rfl
  all_goals (simp only [c_dsp, x_no] at e; cases e)
theorem s_ent (B : c_B) (as : List Value) (n : Nat) : c_ent (s_st B as) n = s_L B (c_ent as n) := by
  have h1 : ∀ l : List Value, (s_st B l).flatMap (fun v => if v.category = 2 then [some v, none] else [some v]) = s_L B (l.flatMap (fun v => if v.category = 2 then [some v, none] else [some v])) := by
    intro l
    induction l with
    | nil => rfl
    | cons v t ih =>
      show (s_v B v :: s_st B t).flatMap _ = _
      rw [List.flatMap_cons, List.flatMap_cons, ih, s_v_cat]
      unfold s_L
      rw [List.map_append]
      split <;> rfl
  unfold c_ent
  simp only [h1, s_lenL]
  unfold s_L
  rw [List.map_append, List.map_replicate]
  rfl
theorem s_prt {md : c_M} {ar : List Value × List Value} (e : c_prt md q st h = some ar) : c_prt md q (s_st B st) (s_h B h) = some (s_st B ar.1, s_st B ar.2) := by
  have h0 : (s_st B st).length = st.length := List.length_map _
  have h1 : ((s_st B st).take (c_cn q)).reverse = s_st B (st.take (c_cn q)).reverse := by
    unfold s_st
    rw [← List.map_take, ← List.map_reverse]
  have h2 : (s_st B st).drop (c_cn q) = s_st B (st.drop (c_cn q)) := by
    unfold s_st
    rw [← List.map_drop]
  unfold c_prt at e ⊢
  simp only [h0, h1, h2] at e ⊢
  split at e
  · cases e
  · rename_i g1
    rw [if_neg g1]
    split at e
    · rename_i g2
      rw [if_pos (by unfold s_st; rw [s_sum8]; exact g2)]
      split at e
      · rename_i g3
        rw [if_pos ?_]
        · rw [s_ent, s_lenL]
          split at e
          · rename_i g4
            rw [if_pos g4]
            cases e
            rfl
          · cases e
        · generalize (st.take (c_cn q)).reverse = as at g3
          unfold c_rcv at g3 ⊢
          split at g3
          · rename_i g4
            rw [if_pos g4]
          · rename_i g4
            rw [if_neg g4]
            split at g3
            · rename_i a t9
              show (if c_isI q then true else (c_fs (s_h B h) a (c_mk md)).isSome) = true
              split at g3
              · rename_i g5
                rw [if_pos g5]
              · rename_i g5
                rw [if_neg g5]
                obtain ⟨fs, hfs⟩ := Option.isSome_iff_exists.mp g3
                rw [s_fs hfs]
                rfl
            · exact g3
            · cases g3
      · cases e
    · cases e
theorem s_rtn {md : c_M} {k : Nat} {v : Option Value} (e : c_rtn md k st = some v) : c_rtn md k (s_st B st) = some (v.map (s_v B)) := by
  unfold c_rtn at e
  split at e
  · show (match k, c_mr md with
      | 2, none => some none
      | _, _ => none) = _
    split at e
    · rename_i h1
      cases e
      rw [h1]
      rfl
    · cases e
  · rename_i v0
    show c_rtn md k [s_v B v0] = _
    unfold c_rtn
    simp only
    split at e
    · rename_i t ht
      split at e
      · rename_i x
        split at e
        · rename_i h1
          cases e
          show (if narrow t (.int x) = .int x then some (some (Value.int x)) else none) = _
          rw [if_pos h1]
          rfl
        · cases e
      · rename_i i
        split at e
        · rename_i h1
          cases e
          rw [Bool.and_eq_true] at h1
          have h2 : 10 ≤ i := Nat.le_of_ble_eq_true h1.1
          have h3 : t = .int := of_decide_eq_true h1.2
          have h4 : s_v B (.retAddr i) = .int (B.2 i) := by rw [s_v_r, if_neg (by omega)]
          rw [h4]
          simp only [Option.map_some, h4]
          rw [h3]
          exact if_pos rfl
        · cases e
      · cases e
    · rename_i t ht
      split at e
      · rename_i h1
        cases e
        rw [Bool.and_eq_true] at h1
        rw [s_rf h1.2, if_pos (by rw [Bool.and_eq_true]; exact h1)]
        simp only [Option.map_some, s_rf h1.2]
      · cases e
    · rename_i t ht
      split at e
      · rename_i h1
        cases e
        rw [Bool.and_eq_true] at h1
        rw [if_pos (by rw [Bool.and_eq_true]; exact ⟨h1.1, s_lg v0 h1.2⟩)]
        rfl
      · cases e
    · rename_i t ht
      split at e
      · rename_i h1
        cases e
        rw [Bool.and_eq_true] at h1
        rw [if_pos (by rw [Bool.and_eq_true]; exact ⟨h1.1, s_dbk v0 h1.2⟩)]
        rfl
      · cases e
    · cases e
  · cases e
end Sub2
theorem s_tl {B : c_B} {v : Option Value} {rest : List Value} : s_st B (v.toList ++ rest) = (v.map (s_v B)).toList ++ s_st B rest := by
  cases v <;> rfl
theorem c_go_s9 {P : List (List c_M)} {B : c_B} {F : List c_F} {E : c_E} (hE : ∀ f ∈ E.1, c_hold B f) : ∀ (m : Nat) (md : c_M) (pc : Nat) (L : c_Ls) (st : List Value) (h : c_Hp) (r : c_O × c_Hp), c_go P E m md pc L st h = some r → c_go P (s_E B F E) m md pc (s_L B L) (s_st B st) (s_h B h) = some (s_o B r.1, s_h B r.2)
  | 0, _, _, _, _, _, _, e => by cases e
  | m + 1, md, pc, L, st, h, r, e => by
    rw [c_go_s] at e ⊢
    unfold c_trq at e ⊢
    cases h2 : c_at pc (c_mi md) with
    | none => rw [h2] at e; cases e
    | some q =>
      rw [h2] at e
      simp only at e ⊢
      unfold c_trn at e ⊢
      split at e
      · unfold c_nxt at e ⊢
        split at e
        · rename_i r1 hr1
          rw [s_stp hE hr1]
          exact c_go_s9 hE m _ _ _ _ _ _ e
        · cases e
      · unfold c_inv at e ⊢
        split at e
        · rename_i mz hmz
          unfold c_cll at e ⊢
          split at e
          · rename_i ar har
            rw [s_prt har]
            simp only
            rw [s_ent]
            cases h6 : c_go P E m mz 0 (c_ent ar.1 (c_mL mz)) [] h with
            | none => rw [h6] at e; cases e
            | some r1 =>
              rw [h6] at e
              have h7 := c_go_s9 (F := F) hE m _ _ _ _ _ _ h6
              rw [show ([] : List Value) = s_st B [] from rfl, h7]
              obtain ⟨o, h1⟩ := r1
              cases o with
              | inl v =>
                have h8 := c_go_s9 (F := F) hE m _ _ _ _ _ _ e
                rw [s_tl] at h8
                exact h8
              | inr X =>
                unfold c_aft at e ⊢
                simp only [s_o] at e ⊢
                unfold c_catch at e ⊢
                split at e
                · rename_i w hw
                  have h8 := c_go_s9 (F := F) hE m _ _ _ _ _ _ e
                  rw [← s_updL (o := none), ← s_clr] at h8
                  exact h8
                · rename_i hw
                  split at e
                  · rename_i he
                    cases e
                    rw [if_pos he]
                  · cases e
          · cases e
        · cases e
      · unfold c_thr at e ⊢
        split at e
        · rename_i he
          cases e
          rw [if_pos (by
            rw [Bool.and_eq_true] at he ⊢
            exact ⟨he.1, by unfold s_st; rw [s_sum8]; exact he.2⟩)]
          rw [s_app (x := none) rfl]
          rfl
        · cases e
      · rename_i k0 g0 g4 g5
        unfold c_ret at e ⊢
        split at e
        · rename_i v hv
          cases e
          rw [s_rtn hv]
          rfl
        · cases e
theorem c_one1_s {B : c_B} {F : List c_F} {E : c_E} (hE : ∀ f ∈ E.1, c_hold B f) {M : Nat} {md : c_M} {pc : Nat} {L : c_Ls} {st : List Value} {h : c_Hp} {r1 : c_R} (e : c_one1 E M md pc L st h = some r1) : c_one1 (s_E B F E) M md pc (s_L B L) (s_st B st) (s_h B h) = some (s_r B r1) := by
  unfold c_one1 at e ⊢
  split at e
  · split at e
    · exact s_stp hE e
    · split at e
      · rename_i mz hmz
        split at e
        · rename_i ar har
          rw [s_prt har]
          simp only
          rw [s_ent]
          cases h6 : c_go c_P E M mz 0 (c_ent ar.1 (c_mL mz)) [] h with
          | none => rw [h6] at e; cases e
          | some r2 =>
            rw [h6] at e
            have h7 := c_go_s9 (F := F) hE M _ _ _ _ _ _ h6
            rw [show ([] : List Value) = s_st B [] from rfl, h7]
            obtain ⟨o, h1⟩ := r2
            unfold c_bak at e ⊢
            cases o with
            | inl v =>
              simp only [s_o] at e ⊢
              cases e
              rw [← s_tl]
              rfl
            | inr X =>
              simp only [s_o] at e ⊢
              split at e
              · rename_i w hw
                cases e
                rw [s_clr]
                exact congrArg (fun x => some (_, x, _, _)) (s_updL (o := none))
              · cases e
        · cases e
      · cases e
    · cases e
  · cases e
theorem c_pre_s {B : c_B} {F : List c_F} {E : c_E} (hE : ∀ f ∈ E.1, c_hold B f) {M : Nat} {md : c_M} : ∀ {m pc : Nat} {L : c_Ls} {st : List Value} {h : c_Hp} {r1 : c_R} (_ : c_pre E M md m pc L st h = some r1), c_pre (s_E B F E) M md m pc (s_L B L) (s_st B st) (s_h B h) = some (s_r B r1)
  | 0, _, _, _, _, _, e => by cases e; rfl
  | m + 1, pc, L, st, h, r1, e => by
    have e2 : (match c_one1 E M md pc L st h with
      | some r => c_pre E M md m r.1 r.2.1 r.2.2.1 r.2.2.2
      | none => none) = some r1 := e
    show (match c_one1 (s_E B F E) M md pc (s_L B L) (s_st B st) (s_h B h) with
      | some r => c_pre (s_E B F E) M md m r.1 r.2.1 r.2.2.1 r.2.2.2
      | none => none) = some (s_r B r1)
    split at e2
    · rename_i r2 hr2
      rw [c_one1_s hE hr2]
      exact c_pre_s hE e2
    · cases e2
