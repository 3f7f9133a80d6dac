section Garb2
variable {n : Nat} {G : c_Hp} {E : c_E} {q : c_I} {pc : Nat} {L : c_Ls} {st : List Value} {h : c_Hp} {r : c_R}
theorem g_c3 (hn : n ≤ h.length) {a : Nat} {vs : List Value} (e : c_vs h a 3 = some vs) : c_vs (g_h n G h) (g_p n G.length a) 0 = none := vs_tag (g_vs hn e)
theorem g_call1 (hn : n ≤ h.length) (e : c_call1 E q pc L st h = some r) : c_call1 E q pc (g_L n G.length L) (g_st n G.length st) (g_h n G h) = some (g_r n G r) := by
  have s8 : ∀ t : List Value, c_sum8 (g_st n G.length t) = c_sum8 t := fun t => g_sum8
  unfold c_call1 at e ⊢
  split at e
  · split at e
    · rename_i a t9
      split at e
      · rename_i h1
        cases e
        show (if c_sum8 (g_st n G.length t9) then some (pc + 3, g_L n G.length L, g_st n G.length t9, g_h n G h) else none) = _
        rw [s8, if_pos h1]
        rfl
      · cases e
    · cases e
  · split at e
    · rename_i y x t9
      split at e
      · rename_i h1
        split at e
        · rename_i v hv
          cases e
          obtain ⟨g1, g2, g3⟩ := g_op (n := n) (d := G.length) hv
          show (if c_sum8 (g_st n G.length t9) then match c_op E 30 m_max (g_v n G.length x) (g_v n G.length y) with
            | some v => some (pc + 3, g_L n G.length L, v :: g_st n G.length t9, g_h n G h)
            | none => none
            else none) = some (pc + 3, g_L n G.length L, g_v n G.length v :: g_st n G.length t9, g_h n G h)
          rw [s8, if_pos h1, g1, g2, g3]
          simp only [hv]
        · cases e
      · cases e
    · cases e
  · split at e
    · rename_i y x t9
      split at e
      · rename_i h1
        split at e
        · rename_i v hv
          cases e
          obtain ⟨g1, g2, g3⟩ := g_op (n := n) (d := G.length) hv
          show (if c_sum8 (g_st n G.length t9) then match c_op E 31 m_min (g_v n G.length x) (g_v n G.length y) with
            | some v => some (pc + 3, g_L n G.length L, v :: g_st n G.length t9, g_h n G h)
            | none => none
            else none) = some (pc + 3, g_L n G.length L, g_v n G.length v :: g_st n G.length t9, g_h n G h)
          rw [s8, if_pos h1, g1, g2, g3]
          simp only [hv]
        · cases e
      · cases e
    · cases e
  · split at e
    · rename_i a t9
      split at e
      · rename_i vs hvs
        split at e
        · rename_i h1
          split at e
          · rename_i h2
            cases e
            have h3 : (g_st n G.length vs).all c_sy = true := by
              refine List.all_eq_true.mpr fun v hv => ?_
              obtain ⟨w, hw, rfl⟩ := List.mem_map.mp hv
              exact g_syk w (List.all_eq_true.mp h2 w hw)
            show (match c_vs (g_h n G h) (g_p n G.length a) 0 with
              | some vs => if c_sum8 (g_st n G.length t9) then if vs.all c_sy then some (pc + 3, g_L n G.length L, Value.ref (g_h n G h).length :: g_st n G.length t9, g_h n G h ++ [some (Sum.inr (0, vs))]) else none else none
              | none => none) = some (pc + 3, g_L n G.length L, Value.ref (g_p n G.length h.length) :: g_st n G.length t9, g_h n G (h ++ [some (.inr (0, vs))]))
            simp only [g_vs hn hvs, s8, h1, h3, if_true, ← g_lenP hn]
            rw [g_app hn]
            rfl
          · cases e
        · cases e
      · cases e
    · cases e
  · split at e
    · rename_i x t9
      split at e
      · rename_i h1
        cases e
        show (if c_sum8 (g_st n G.length t9) then some (pc + 3, g_L n G.length L, Value.int x.toInt32 :: g_st n G.length t9, g_h n G h) else none) = _
        rw [s8, if_pos h1]
        rfl
      · cases e
    · cases e
  · split at e
    · rename_i a t9
      split at e
      · rename_i vs hvs
        split at e
        · rename_i h1
          cases e
          show (match c_vs (g_h n G h) (g_p n G.length a) 3 with
            | some _ => if c_sum8 (g_st n G.length t9) then some (pc + 3, g_L n G.length L, Value.retAddr 4 :: g_st n G.length t9, g_h n G h) else none
            | none => none) = _
          simp only [g_vs hn hvs, s8, h1, if_true]
          rfl
        · cases e
      · cases e
    · cases e
  · split at e
    · rename_i m9 dp a2 sp a t9
      show (match c_vs (g_h n G h) (g_p n G.length a) 0 with
        | some _ => c_cpy 0 c_sy sp dp m9 (g_p n G.length a) (g_p n G.length a2) pc (g_L n G.length L) (g_st n G.length t9) (g_h n G h)
        | none => c_cpy 3 (c_ok3 (g_h n G h)) sp dp m9 (g_p n G.length a) (g_p n G.length a2) pc (g_L n G.length L) (g_st n G.length t9) (g_h n G h)) = _
      split at e
      · rename_i vs hvs
        simp only [g_vs hn hvs]
        exact g_cpy hn (kh := fun _ => c_sy) (fun v hv => g_syk v hv) e
      · rename_i hvs
        have g4 : ∃ ws, c_vs h a 3 = some ws := by
          unfold c_cpy at e
          split at e
          · rename_i ws _ hws _
            exact ⟨ws, hws⟩
          · cases e
        obtain ⟨ws, hws⟩ := g4
        simp only [g_c3 hn hws]
        exact g_cpy hn (kh := c_ok3) (g_ok3 hn) e
    · cases e
  · cases e
theorem g_dfl (d k m : Nat) : g_st n d (c_dfl k m) = c_dfl k m := by
  unfold c_dfl g_st
  rw [List.map_map]
  exact List.map_congr_left fun j _ => g_dv n d _
theorem g_acmp {d : Nat} {x y : Value} {z : Bool} (e : c_acmp x y = some z) : c_acmp (g_v n d x) (g_v n d y) = some z := by
  unfold c_acmp at e
  split at e
  · exact e
  · exact e
  · cases e
set_option maxHeartbeats 2000000 in
theorem g_stp (hn : n ≤ h.length) (e : c_stp E q pc L st h = some r) : c_stp E q pc (g_L n G.length L) (g_st n G.length st) (g_h n G h) = some (g_r n G r) := by
  have cat : ∀ v : Value, (g_v n G.length v).category = v.category := g_v_cat n G.length
  unfold c_stp at e ⊢
  generalize q.1 = i at e ⊢
  cases i
  case getfield i => exact g_getf hn e
  case putfield i => exact g_putf hn e
  case iaload => exact g_iald hn e
  case laload => exact g_ald2 hn g_lg e
  case baload => exact g_ald2 hn g_b01 e
  case aaload => exact g_aald hn e
  case iastore => exact g_ast hn (kh := fun _ => c_sy) (fun v hv => g_syk v hv) e
  case lastore => exact g_ast hn (kh := fun _ => c_lg) (fun v hv => g_lg v hv) e
  case bastore => exact g_ast hn (kh := fun _ => c_b01) (fun v hv => g_b01 v hv) e
  case aastore => exact g_aast hn e
  case arraylength => exact g_alen (q := q) hn e
  case new i =>
    simp only [c_dsp, x_new] at e ⊢
    cases e
    have h3 : g_c n G.length (some (.inl (q.2.1, c_dfl q.2.1 (c_nf q.2.1)))) = some (.inl (q.2.1, c_dfl q.2.1 (c_nf q.2.1))) := by
      show some (Sum.inl (q.2.1, g_st n G.length (c_dfl q.2.1 (c_nf q.2.1)))) = _
      rw [g_dfl]
    rw [g_app1 hn h3, g_lenP hn]
    rfl
  case newarray i => exact g_newa hn e
  case anewarray i => exact g_newa hn e
  case multianewarray i d => exact g_mnew hn e
  case checkcast i => exact g_cast hn e
  case invokespecial i => exact g_call1 hn e
  case invokestatic i => exact g_call1 hn e
  case invokevirtual i => exact g_call1 hn e
  case iload_n k => exact g_load g_syk e
  case iload k => exact g_load g_syk e
  case lload_n k => exact g_load g_lg e
  case lload k => exact g_load g_lg e
  case fload_n k => exact g_load g_flk e
  case fload k => exact g_load g_flk e
  case aload_n k => exact g_load g_rfk e
  case aload k => exact g_load g_rfk e
  case istore_n k => exact g_store g_syk e
  case istore k => exact g_store g_syk e
  case fstore_n k => exact g_store g_flk e
  case fstore k => exact g_store g_flk e
  case astore_n k => exact g_store g_rfk e
  case astore k => exact g_store g_rfk e
  case lstore_n k => exact g_store2 g_lg e
  case lstore k => exact g_store2 g_lg e
  case dstore k => exact g_store2 g_dbk e
  case iadd => exact g_b2 e
  case isub => exact g_b2 e
  case imul => exact g_b2 e
  case iand => exact g_b2 e
  case ior => exact g_b2 e
  case ixor => exact g_b2 e
  case ishl => exact g_b2 e
  case ishr => exact g_b2 e
  case iushr => exact g_b2 e
  case irem => exact g_b2 e
  case idiv => exact g_b2 e
  case if_icmp cd off =>
    simp only [c_dsp, x_icmp] at e
    split at e
    · exact g_br e
    · cases e
  case ifCond cd off =>
    simp only [c_dsp, x_if] at e
    split at e
    · exact g_br e
    · cases e
  case iinc i m =>
    simp only [c_dsp, x_iinc] at e ⊢
    rw [g_nthL]
    split at e
    · rename_i v hv
      split at e
      · rename_i w hw
        cases e
        obtain ⟨g1, g2, g3⟩ := g_op (n := n) (d := G.length) hw
        rw [hv]
        simp only [Option.map_some, g1, hw]
        have g4 := g_set (n := n) (d := G.length) (L := L) (i := i) (v := w)
        rw [g3] at g4
        exact congrArg (fun y => some (pc + 3, y, g_st n G.length st, g_h n G h)) g4
      · cases e
    · cases e
  case fconst m =>
    simp only [c_dsp] at e ⊢
    split at e
    · rename_i h1
      rw [if_pos h1]
      cases e
      rfl
    · cases e
  case dconst m =>
    simp only [c_dsp] at e ⊢
    split at e
    · rename_i h1
      rw [if_pos h1]
      cases e
      rfl
    · cases e
  case ldc m =>
    simp only [c_dsp, x_ldc] at e ⊢
    split at e
    · rename_i h1
      rw [if_pos h1]
      cases e
      rfl
    · rename_i h1
      rw [if_neg h1]
      split at e
      · rename_i h2
        rw [if_pos h2]
        split at e
        · rename_i h3
          rw [if_pos h3]
          cases e
          rfl
        · cases e
      · cases e
  case ldc_w m =>
    simp only [c_dsp, x_ldc] at e ⊢
    split at e
    · rename_i h1
      rw [if_pos h1]
      cases e
      rfl
    · rename_i h1
      rw [if_neg h1]
      split at e
      · rename_i h2
        rw [if_pos h2]
        split at e
        · rename_i h3
          rw [if_pos h3]
          cases e
          rfl
        · cases e
      · cases e
  case ldc2_w m =>
    simp only [c_dsp, x_ldc2] at e ⊢
    split at e
    · rename_i h1
      rw [if_pos h1]
      cases e
      rfl
    · cases e
  case ladd => simp only [c_dsp, x_l2, c_l2] at e; split at e; · cases e; rfl
               · cases e
  case lsub => simp only [c_dsp, x_l2, c_l2] at e; split at e; · cases e; rfl
               · cases e
  case lmul => simp only [c_dsp, x_l2, c_l2] at e; split at e; · cases e; rfl
               · cases e
  case land => simp only [c_dsp, x_l2, c_l2] at e; split at e; · cases e; rfl
               · cases e
  case lor => simp only [c_dsp, x_l2, c_l2] at e; split at e; · cases e; rfl
              · cases e
  case lshl => simp only [c_dsp, x_ls, c_ls] at e; split at e; · cases e; rfl
               · cases e
  case lushr => simp only [c_dsp, x_ls, c_ls] at e; split at e; · cases e; rfl
                · cases e
  case lcmp =>
    simp only [c_dsp, x_lcmp] at e ⊢
    split at e
    · cases e; rfl
    · rename_i y x t9
      split at e
      · rename_i h1
        cases e
        show (if Nat.ble c_M0 x.toNat && Nat.beq x.toNat y.toNat then some (pc + 1, g_L n G.length L, Value.int 0 :: g_st n G.length t9, g_h n G h) else none) = _
        rw [if_pos h1]
        rfl
      · cases e
    · cases e
  case i2l =>
    simp only [c_dsp, x_i2l] at e ⊢
    split at e
    · cases e; rfl
    · rename_i i t9
      split at e
      · rename_i h1
        cases e
        show (if Nat.ble 10 i && Nat.ble i 1000 then some (pc + 1, g_L n G.length L, Value.double (UInt64.ofNat (c_M0 + i)) :: g_st n G.length t9, g_h n G h) else none) = _
        rw [if_pos h1]
        rfl
      · cases e
    · cases e
  case l2i => simp only [c_dsp, x_l2i] at e; split at e; · cases e; rfl
              · cases e
  case if_acmp cd off =>
    simp only [c_dsp, x_acmp] at e
    split at e
    · rename_i y x t9
      split at e
      · rename_i z hz
        cases e
        show (match c_acmp (g_v n G.length x) (g_v n G.length y) with
          | some z => some (if z = decide (cd = Jvm.ClassFile.ACond.eq) then q.2.1 else pc + 3, g_L n G.length L, g_st n G.length t9, g_h n G h)
          | none => none) = _
        rw [g_acmp hz]
        rfl
      · cases e
    · cases e
  case ifnull off => simp only [c_dsp, x_ifn] at e; split at e; · cases e; rfl
                     · cases e
  case ifnonnull off => simp only [c_dsp, x_ifn] at e; split at e; · cases e; rfl
                        · cases e
  case goto off => simp only [c_dsp, x_goto] at e; cases e; rfl
  case tableswitch d lo hi offs =>
    simp only [c_dsp, x_tab] at e
    split at e
    · rename_i x t9
      show (match c_sw offs.toList lo x with
        | some o => some (((pc : Int) + o).toNat, g_L n G.length L, g_st n G.length t9, g_h n G h)
        | none => some (((pc : Int) + d).toNat, g_L n G.length L, g_st n G.length t9, g_h n G h)) = _
      split at e
      · rename_i o ho
        cases e
        rw [ho]
        rfl
      · rename_i ho
        cases e
        rw [ho]
        rfl
    · cases e
  case dup =>
    simp only [c_dsp, x_dup] at e
    split at e
    · rename_i v t9
      split at e
      · rename_i h1
        cases e
        show (if (g_v n G.length v).category = 1 then some (pc + 1, g_L n G.length L, g_v n G.length v :: g_v n G.length v :: g_st n G.length t9, g_h n G h) else none) = _
        rw [cat, if_pos h1]
        rfl
      · cases e
    · cases e
  case dup_x1 =>
    simp only [c_dsp, x_dupx1] at e
    split at e
    · rename_i v w t9
      split at e
      · rename_i h1
        split at e
        · rename_i h2
          cases e
          show (if (g_v n G.length v).category = 1 then if (g_v n G.length w).category = 1 then some (pc + 1, g_L n G.length L, g_v n G.length v :: g_v n G.length w :: g_v n G.length v :: g_st n G.length t9, g_h n G h) else none else none) = _
          rw [cat, cat, if_pos h1, if_pos h2]
          rfl
        · cases e
      · cases e
    · cases e
  case dup2 =>
    simp only [c_dsp, x_dup2] at e
    split at e
    · rename_i v w t9
      split at e
      · rename_i h1
        split at e
        · rename_i h2
          cases e
          show (if (g_v n G.length v).category = 1 then if (g_v n G.length w).category = 1 then some (pc + 1, g_L n G.length L, g_v n G.length v :: g_v n G.length w :: g_v n G.length v :: g_v n G.length w :: g_st n G.length t9, g_h n G h) else none else none) = _
          rw [cat, cat, if_pos h1, if_pos h2]
          rfl
        · cases e
      · cases e
    · cases e
  case pop =>
    simp only [c_dsp, x_pop] at e
    split at e
    · rename_i v t9
      split at e
      · rename_i h1
        cases e
        show (if (g_v n G.length v).category = 1 then some (pc + 1, g_L n G.length L, g_st n G.length t9, g_h n G h) else none) = _
        rw [cat, if_pos h1]
        rfl
      · cases e
    · cases e
  case i2f => simp only [c_dsp, x_i2f] at e; split at e; · cases e; rfl
              · cases e
  case fdiv =>
    simp only [c_dsp, x_fdiv, c_f2] at e
    split at e
    · rename_i y x t9
      split at e
      · rename_i h1
        cases e
        show (if c_nn (FP.fdiv x y) then some (pc + 1, g_L n G.length L, Value.float (FP.fdiv x y) :: g_st n G.length t9, g_h n G h) else none) = _
        rw [if_pos h1]
        rfl
      · cases e
    · cases e
  case fcmp op => simp only [c_dsp, x_fcmp, c_f2] at e; split at e; · cases e; rfl
                  · cases e
  case getstatic i =>
    simp only [c_dsp, x_gets] at e ⊢
    split at e
    · cases e; rfl
    · cases e; rfl
    · cases e; rfl
    · cases e
  case iconst n => simp only [c_dsp, x_push] at e; cases e; rfl
  case bipush n => simp only [c_dsp, x_push] at e; cases e; rfl
  case sipush n => simp only [c_dsp, x_push] at e; cases e; rfl
  case lconst n => simp only [c_dsp, x_push] at e; cases e; rfl
  case aconst_null => simp only [c_dsp, x_push] at e; cases e; rfl
  all_goals (simp only [c_dsp, x_no] at e; cases e)
theorem g_ent (n d : Nat) (as : List Value) (m : Nat) : c_ent (g_st n d as) m = g_L n d (c_ent as m) := by
  have h1 : ∀ l : List Value, (g_st n d l).flatMap (fun v => if v.category = 2 then [some v, none] else [some v]) = g_L n d (l.flatMap (fun v => if v.category = 2 then [some v, none] else [some v])) := by
    intro l
    induction l with
    | nil => rfl
    | cons v t ih =>
      show (g_v n d v :: g_st n d t).flatMap _ = _
      rw [List.flatMap_cons, List.flatMap_cons, ih, g_v_cat]
      unfold g_L
      rw [List.map_append]
      split <;> rfl
  unfold c_ent
  simp only [h1, g_lenL]
  unfold g_L
  rw [List.map_append, List.map_replicate]
  rfl
theorem g_prt (hn : n ≤ h.length) {md : c_M} {ar : List Value × List Value} (e : c_prt md q st h = some ar) : c_prt md q (g_st n G.length st) (g_h n G h) = some (g_st n G.length ar.1, g_st n G.length ar.2) := by
  have h0 : (g_st n G.length st).length = st.length := g_lenS
  have h1 : ((g_st n G.length st).take (c_cn q)).reverse = g_st n G.length (st.take (c_cn q)).reverse := by
    unfold g_st
    rw [← List.map_take, ← List.map_reverse]
  have h2 : (g_st n G.length st).drop (c_cn q) = g_st n G.length (st.drop (c_cn q)) := by
    unfold g_st
    rw [← List.map_drop]
  unfold c_prt at e ⊢
  simp only [h0, h1, h2] at e ⊢
  split at e
  · cases e
  · rename_i g1
    rw [if_neg g1]
    split at e
    · rename_i g2
      rw [if_pos (by rw [g_sum8]; exact g2)]
      split at e
      · rename_i g3
        rw [if_pos ?_]
        · rw [g_ent, g_lenL]
          split at e
          · rename_i g4
            rw [if_pos g4]
            cases e
            rfl
          · cases e
        · generalize (st.take (c_cn q)).reverse = as at g3
          unfold c_rcv at g3 ⊢
          split at g3
          · rename_i g4
            rw [if_pos g4]
          · rename_i g4
            rw [if_neg g4]
            split at g3
            · rename_i a t9
              show (if c_isI q then true else (c_fs (g_h n G h) (g_p n G.length a) (c_mk md)).isSome) = true
              split at g3
              · rename_i g5
                rw [if_pos g5]
              · rename_i g5
                rw [if_neg g5]
                obtain ⟨fs, hfs⟩ := Option.isSome_iff_exists.mp g3
                rw [g_fs hn hfs]
                rfl
            · exact g3
            · cases g3
      · cases e
    · cases e
theorem g_rtn {d : Nat} {md : c_M} {k : Nat} {v : Option Value} (e : c_rtn md k st = some v) : c_rtn md k (g_st n d st) = some (v.map (g_v n d)) := by
  unfold c_rtn at e
  split at e
  · show (match k, c_mr md with
      | 2, none => some none
      | _, _ => none) = _
    split at e
    · rename_i h1
      cases e
      rw [h1]
      rfl
    · cases e
  · rename_i v0
    show c_rtn md k [g_v n d v0] = _
    unfold c_rtn
    simp only
    split at e
    · rename_i t ht
      split at e
      · split at e
        · rename_i h1
          cases e
          exact if_pos h1
        · cases e
      · split at e
        · rename_i h1
          cases e
          exact if_pos h1
        · cases e
      · cases e
    · rename_i t ht
      split at e
      · rename_i h1
        cases e
        rw [Bool.and_eq_true] at h1
        rw [if_pos (by rw [Bool.and_eq_true]; exact ⟨h1.1, g_rfk v0 h1.2⟩)]
        rfl
      · cases e
    · rename_i t ht
      split at e
      · rename_i h1
        cases e
        rw [Bool.and_eq_true] at h1
        rw [if_pos (by rw [Bool.and_eq_true]; exact ⟨h1.1, g_lg v0 h1.2⟩)]
        rfl
      · cases e
    · rename_i t ht
      split at e
      · rename_i h1
        cases e
        rw [Bool.and_eq_true] at h1
        rw [if_pos (by rw [Bool.and_eq_true]; exact ⟨h1.1, g_dbk v0 h1.2⟩)]
        rfl
      · cases e
    · cases e
  · cases e
end Garb2
theorem g_tl {n d : Nat} {v : Option Value} {rest : List Value} : g_st n d (v.toList ++ rest) = (v.map (g_v n d)).toList ++ g_st n d rest := by
  cases v <;> rfl
theorem c_go_g {P : List (List c_M)} {n : Nat} {G : c_Hp} {E : c_E} : ∀ (m : Nat) (md : c_M) (pc : Nat) (L : c_Ls) (st : List Value) (h : c_Hp) (r : c_O × c_Hp), n ≤ h.length → c_go P E m md pc L st h = some r → c_go P E m md pc (g_L n G.length L) (g_st n G.length st) (g_h n G h) = some (g_o n G.length r.1, g_h n G r.2)
  | 0, _, _, _, _, _, _, _, e => by cases e
  | m + 1, md, pc, L, st, h, r, hn, e => by
    rw [c_go_s] at e ⊢
    unfold c_trq at e ⊢
    cases h2 : c_at pc (c_mi md) with
    | none => rw [h2] at e; cases e
    | some q =>
      rw [h2] at e
      simp only at e ⊢
      unfold c_trn at e ⊢
      split at e
      · unfold c_nxt at e ⊢
        split at e
        · rename_i r1 hr1
          rw [g_stp hn hr1]
          exact c_go_g m _ _ _ _ _ _ (Nat.le_trans hn (c_stp_le hr1).1) e
        · cases e
      · unfold c_inv at e ⊢
        split at e
        · rename_i mz hmz
          unfold c_cll at e ⊢
          split at e
          · rename_i ar har
            rw [g_prt hn har]
            simp only
            rw [g_ent]
            cases h6 : c_go P E m mz 0 (c_ent ar.1 (c_mL mz)) [] h with
            | none => rw [h6] at e; cases e
            | some r1 =>
              rw [h6] at e
              have h7 := c_go_g (G := G) m _ _ _ _ _ _ hn h6
              have hn2 : n ≤ r1.2.length := Nat.le_trans hn (c_go_le _ _ _ _ _ _ _ h6).1
              rw [show ([] : List Value) = g_st n G.length [] from rfl, h7]
              obtain ⟨o, h1⟩ := r1
              cases o with
              | inl v =>
                have h8 := c_go_g (G := G) m _ _ _ _ _ _ hn2 e
                rw [g_tl] at h8
                exact h8
              | inr X =>
                unfold c_aft at e ⊢
                simp only [g_o] at e ⊢
                unfold c_catch at e ⊢
                split at e
                · rename_i w hw
                  have h8 := c_go_g (G := G) m _ _ _ _ _ _ hn2 e
                  rw [← g_updL (o := none), ← g_clr] at h8
                  exact h8
                · rename_i hw
                  split at e
                  · rename_i he
                    cases e
                    rw [if_pos he]
                  · cases e
          · cases e
        · cases e
      · unfold c_thr at e ⊢
        split at e
        · rename_i he
          cases e
          rw [if_pos (by
            rw [Bool.and_eq_true] at he ⊢
            exact ⟨he.1, by rw [g_sum8]; exact he.2⟩)]
          rw [g_app1 hn (x := none) rfl]
          rfl
        · cases e
      · rename_i k0 g0 g4 g5
        unfold c_ret at e ⊢
        split at e
        · rename_i v hv
          cases e
          rw [g_rtn hv]
          rfl
        · cases e
theorem c_one1_le {E : c_E} {M : Nat} {md : c_M} {pc : Nat} {L : c_Ls} {st : List Value} {h : c_Hp} {r1 : c_R} (e : c_one1 E M md pc L st h = some r1) : h.length ≤ r1.2.2.2.length := by
  unfold c_one1 at e
  split at e
  · split at e
    · exact (c_stp_le e).1
    · split at e
      · rename_i mz hmz
        split at e
        · rename_i ar har
          cases h6 : c_go c_P E M mz 0 (c_ent ar.1 (c_mL mz)) [] h with
          | none => rw [h6] at e; cases e
          | some r2 =>
            rw [h6] at e
            have h7 := (c_go_le _ _ _ _ _ _ _ h6).1
            obtain ⟨o, h1⟩ := r2
            unfold c_bak at e
            cases o with
            | inl v => cases e; exact h7
            | inr X =>
              simp only at e
              split at e
              · cases e; exact h7
              · cases e
        · cases e
      · cases e
    · cases e
  · cases e
theorem c_one1_g {n : Nat} {G : c_Hp} {E : c_E} {M : Nat} {md : c_M} {pc : Nat} {L : c_Ls} {st : List Value} {h : c_Hp} {r1 : c_R} (hn : n ≤ h.length) (e : c_one1 E M md pc L st h = some r1) : c_one1 E M md pc (g_L n G.length L) (g_st n G.length st) (g_h n G h) = some (g_r n G r1) := by
  unfold c_one1 at e ⊢
  split at e
  · split at e
    · exact g_stp hn e
    · split at e
      · rename_i mz hmz
        split at e
        · rename_i ar har
          rw [g_prt hn har]
          simp only
          rw [g_ent]
          cases h6 : c_go c_P E M mz 0 (c_ent ar.1 (c_mL mz)) [] h with
          | none => rw [h6] at e; cases e
          | some r2 =>
            rw [h6] at e
            have h7 := c_go_g (G := G) M _ _ _ _ _ _ hn h6
            rw [show ([] : List Value) = g_st n G.length [] from rfl, h7]
            obtain ⟨o, h1⟩ := r2
            unfold c_bak at e ⊢
            cases o with
            | inl v =>
              simp only [g_o] at e ⊢
              cases e
              rw [← g_tl]
              rfl
            | inr X =>
              simp only [g_o] at e ⊢
              split at e
              · rename_i w hw
                cases e
                rw [g_clr]
                exact congrArg (fun x => some (_, x, _, _)) (g_updL (o := none))
              · cases e
        · cases e
      · cases e
    · cases e
  · cases e
theorem c_pre_g {n : Nat} {G : c_Hp} {E : c_E} {M : Nat} {md : c_M} : ∀ {m pc : Nat} {L : c_Ls} {st : List Value} {h : c_Hp} {r1 : c_R} (_ : n ≤ h.length) (_ : c_pre E M md m pc L st h = some r1), c_pre E M md m pc (g_L n G.length L) (g_st n G.length st) (g_h n G h) = some (g_r n G r1)
  | 0, _, _, _, _, _, _, e => by cases e; rfl
  | m + 1, pc, L, st, h, r1, hn, e => by
    have e2 : (match c_one1 E M md pc L st h with
      | some r => c_pre E M md m r.1 r.2.1 r.2.2.1 r.2.2.2
      | none => none) = some r1 := e
    show (match c_one1 E M md pc (g_L n G.length L) (g_st n G.length st) (g_h n G h) with
      | some r => c_pre E M md m r.1 r.2.1 r.2.2.1 r.2.2.2
      | none => none) = some (g_r n G r1)
    split at e2
    · rename_i r2 hr2
      rw [c_one1_g hn hr2]
      exact c_pre_g (Nat.le_trans hn (c_one1_le hr2)) e2
    · cases e2
