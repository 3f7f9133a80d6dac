section Sim1
variable {p : Program} {l : Launch} {e : Env} {R : Room} {s : State} {m : MethodId} {args : Array Value} {below : List Frame} {meth : Method} {c : Code} {Q : State → Prop}
variable {D : va_G} {A : Nat → ClassId} {H0 : Heap} {base nL n0 z0 F Rl : Nat} {B : c_B} {X : List Int32} {E : c_E} {y : MethodName} {cc : ByteArray} {ini : Bool} {pc : Nat} {q : c_I} {ix : List Nat} {L : c_Ls} {st : List Value} {h : c_Hp} {r : c_R}
set_option maxHeartbeats 4000000 in
theorem c_sim1 (C : c_ctx p l R s m args meth c D A H0 base B X E y cc nL F Rl) (hini : ini = true → y.name = "<init>") (ok : c_okI y.cls cc ini F Rl pc q ix = true) (h0 : c_kd q = 0) (e1 : c_stp E q pc L st h = some r) (hr1 : r.2.2.2.length ≤ n0 + R.cells) (hr2 : c_msz r.2.2.2 ≤ z0 + R.slots) (k : c_K p l e R s m args below meth c Q D A H0 base B nL n0 z0 r.1 r.2.1 r.2.2.1 r.2.2.2) : c_K p l e R s m args below meth c Q D A H0 base B nL n0 z0 pc L st h := by
  unfold c_okI at ok
  rw [Bool.and_eq_true] at ok
  obtain ⟨hd, ok⟩ := ok
  have C2 := C
  obtain ⟨hx, hb, hml, hown, hts, -, -, -, -, -, -, -, -, -, hold, hE⟩ := C2
  unfold c_stp at e1
  cases hq : q.1

  case iconst n =>
    simp only [hq, decide_eq_true_eq] at hd
    simp only [c_dsp, hq, x_push] at e1
    cases e1
    intro H locs cells slots ls hH hL hlo hc hs
    exact lv_iconst hx hb hd rfl (k H locs cells slots ls hH hL hlo hc hs)
  case bipush n =>
    simp only [hq, decide_eq_true_eq] at hd
    simp only [c_dsp, hq, x_push] at e1
    cases e1
    intro H locs cells slots ls hH hL hlo hc hs
    exact lv_bipush hx hb hd rfl (k H locs cells slots ls hH hL hlo hc hs)
  case sipush n =>
    simp only [hq, decide_eq_true_eq] at hd
    simp only [c_dsp, hq, x_push] at e1
    cases e1
    intro H locs cells slots ls hH hL hlo hc hs
    exact lv_sipush hx hb hd rfl (k H locs cells slots ls hH hL hlo hc hs)
  case lconst n =>
    simp only [hq, decide_eq_true_eq] at hd
    simp only [c_dsp, hq, x_push] at e1
    cases e1
    intro H locs cells slots ls hH hL hlo hc hs
    exact lv_lconst hx hb hd rfl (k H locs cells slots ls hH hL hlo hc hs)
  case aconst_null =>
    simp only [hq, decide_eq_true_eq] at hd
    simp only [c_dsp, hq, x_push] at e1
    cases e1
    intro H locs cells slots ls hH hL hlo hc hs
    exact lv_null hx hb hd (k H locs cells slots ls hH hL hlo hc hs)
  case ldc i =>
    simp only [hq, decide_eq_true_eq] at hd
    simp only [c_dsp, hq, x_ldc] at e1
    unfold c_okJ at ok
    simp only [hq] at ok
    split at e1
    · rename_i h9
      rw [if_pos h9] at ok
      obtain ⟨w1, w2⟩ := c_w_ok ok
      cases e1
      intro H locs cells slots ls hH hL hlo hc hs
      exact lv_ldc hx hb hown (hts _ w1 w2) hd (k H locs cells slots ls hH hL hlo hc hs)
    · rename_i h9
      rw [if_neg h9] at ok
      obtain ⟨w1, w2⟩ := c_w_ok ok
      split at e1
      · simp only [if_true] at e1
        cases e1
        intro H locs cells slots ls hH hL hlo hc hs
        obtain ⟨-, -, -, -, hM, -⟩ := hold
        exact va_ldcM hx hb hown (hts _ w1 w2) hM hd (k H locs cells slots ls hH hL hlo hc hs)
      · cases e1
  case ldc_w i =>
    simp only [hq, decide_eq_true_eq] at hd
    simp only [c_dsp, hq, x_ldc] at e1
    unfold c_okJ at ok
    simp only [hq] at ok
    obtain ⟨w1, w2⟩ := c_w_ok ok
    split at e1
    · cases e1
      intro H locs cells slots ls hH hL hlo hc hs
      exact lv_ldcw hx hb hown (hts _ w1 w2) hd (k H locs cells slots ls hH hL hlo hc hs)
    · split at e1
      · rw [if_neg (by decide)] at e1; cases e1
      · cases e1
  case ldc2_w i =>
    simp only [hq, decide_eq_true_eq] at hd
    simp only [c_dsp, hq, x_ldc2] at e1
    unfold c_okJ at ok
    simp only [hq] at ok
    obtain ⟨w1, w2⟩ := c_w_ok ok
    split at e1
    · cases e1
      intro H locs cells slots ls hH hL hlo hc hs
      exact lv_ldc2 hx hb hown (hts _ w1 w2) hd (k H locs cells slots ls hH hL hlo hc hs)
    · cases e1
  case fconst n =>
    simp only [hq, decide_eq_true_eq] at hd
    simp only [c_dsp, hq] at e1
    split at e1
    · rename_i h9
      subst h9
      cases e1
      intro H locs cells slots ls hH hL hlo hc hs
      exact lv_fconst0 hx hb hd (k H locs cells slots ls hH hL hlo hc hs)
    · cases e1
  case dconst n =>
    simp only [hq, decide_eq_true_eq] at hd
    simp only [c_dsp, hq] at e1
    split at e1
    · rename_i h9
      subst h9
      cases e1
      intro H locs cells slots ls hH hL hlo hc hs
      exact lv_dconst0 hx hb hd (k H locs cells slots ls hH hL hlo hc hs)
    · cases e1
  case iload_n n =>
    simp only [hq, decide_eq_true_eq] at hd
    simp only [c_dsp, hq, x_load] at e1
    exact c_iload_n hx hb hd e1 k
  case iload i =>
    simp only [hq, decide_eq_true_eq] at hd
    simp only [c_dsp, hq, x_load] at e1
    exact c_iload_i hx hb hd e1 k
  case lload_n n =>
    simp only [hq, decide_eq_true_eq] at hd
    simp only [c_dsp, hq, x_load] at e1
    exact c_lload_n hx hb hd e1 k
  case lload i =>
    simp only [hq, decide_eq_true_eq] at hd
    simp only [c_dsp, hq, x_load] at e1
    exact c_lload_i hx hb hd e1 k
  case fload_n n =>
    simp only [hq, decide_eq_true_eq] at hd
    simp only [c_dsp, hq, x_load] at e1
    exact c_fload_n hx hb hd e1 k
  case fload i =>
    simp only [hq, decide_eq_true_eq] at hd
    simp only [c_dsp, hq, x_load] at e1
    exact c_fload_i hx hb hd e1 k
  case aload_n n =>
    simp only [hq, decide_eq_true_eq] at hd
    simp only [c_dsp, hq, x_load] at e1
    exact c_aload_n hx hb hd e1 k
  case aload i =>
    simp only [hq, decide_eq_true_eq] at hd
    simp only [c_dsp, hq, x_load] at e1
    exact c_aload_i hx hb hd e1 k
  case istore_n n =>
    simp only [hq, decide_eq_true_eq] at hd
    simp only [c_dsp, hq, x_store] at e1
    exact c_istore_n hx hb hd e1 k
  case istore i =>
    simp only [hq, decide_eq_true_eq] at hd
    simp only [c_dsp, hq, x_store] at e1
    exact c_istore_i hx hb hd e1 k
  case fstore_n n =>
    simp only [hq, decide_eq_true_eq] at hd
    simp only [c_dsp, hq, x_store] at e1
    exact c_fstore_n hx hb hd e1 k
  case fstore i =>
    simp only [hq, decide_eq_true_eq] at hd
    simp only [c_dsp, hq, x_store] at e1
    exact c_fstore_i hx hb hd e1 k
  case astore_n n =>
    simp only [hq, decide_eq_true_eq] at hd
    simp only [c_dsp, hq, x_store] at e1
    exact c_astore_n hx hb hd e1 k
  case astore i =>
    simp only [hq, decide_eq_true_eq] at hd
    simp only [c_dsp, hq, x_store] at e1
    exact c_astore_i hx hb hd e1 k
  case lstore_n n =>
    simp only [hq, decide_eq_true_eq] at hd
    simp only [c_dsp, hq, x_store2] at e1
    exact c_lstore_n hx hb hd e1 k
  case lstore i =>
    simp only [hq, decide_eq_true_eq] at hd
    simp only [c_dsp, hq, x_store2] at e1
    exact c_lstore_i hx hb hd e1 k
  case dstore i =>
    simp only [hq, decide_eq_true_eq] at hd
    simp only [c_dsp, hq, x_store2] at e1
    exact c_dstore_i hx hb hd e1 k
  case iinc i n =>
    simp only [hq, decide_eq_true_eq] at hd
    simp only [c_dsp, hq, x_iinc] at e1
    rw [c_nth_eq] at e1
    split at e1
    · rename_i v hv
      split at e1
      · rename_i w hw
        cases e1
        obtain ⟨a, b9, z, g1, g2, g3, g4⟩ := c_op_ok hE.2.2 rfl hw
        cases g2
        cases g3
        exact c_iinc_i hx hb hd hv g1 g4 k
      · cases e1
    · cases e1
  case iadd =>
    simp only [hq, decide_eq_true_eq] at hd
    simp only [c_dsp, hq, x_b2] at e1
    obtain ⟨u, v, t, w, a, b9, z, rfl, g1, g2, g3, g4, rfl⟩ := c_b2_ok (cc := cc) (base := base) (o := 0) hE rfl e1
    intro H locs cells slots ls hH hL hlo hc hs
    have k9 := k H locs cells slots ls hH hL hlo hc hs
    rw [List.map_cons, g4] at k9
    rw [List.map_cons, List.map_cons, g1, g2]
    cases g3
    exact lv_iadd hx hb hd k9
  case isub =>
    simp only [hq, decide_eq_true_eq] at hd
    simp only [c_dsp, hq, x_b2] at e1
    obtain ⟨u, v, t, w, a, b9, z, rfl, g1, g2, g3, g4, rfl⟩ := c_b2_ok (cc := cc) (base := base) (o := 1) hE rfl e1
    intro H locs cells slots ls hH hL hlo hc hs
    have k9 := k H locs cells slots ls hH hL hlo hc hs
    rw [List.map_cons, g4] at k9
    rw [List.map_cons, List.map_cons, g1, g2]
    cases g3
    exact lv_isub hx hb hd k9
  case imul =>
    simp only [hq, decide_eq_true_eq] at hd
    simp only [c_dsp, hq, x_b2] at e1
    obtain ⟨u, v, t, w, a, b9, z, rfl, g1, g2, g3, g4, rfl⟩ := c_b2_ok (cc := cc) (base := base) (o := 2) hE rfl e1
    intro H locs cells slots ls hH hL hlo hc hs
    have k9 := k H locs cells slots ls hH hL hlo hc hs
    rw [List.map_cons, g4] at k9
    rw [List.map_cons, List.map_cons, g1, g2]
    cases g3
    exact lv_imul hx hb hd k9
  case iand =>
    simp only [hq, decide_eq_true_eq] at hd
    simp only [c_dsp, hq, x_b2] at e1
    obtain ⟨u, v, t, w, a, b9, z, rfl, g1, g2, g3, g4, rfl⟩ := c_b2_ok (cc := cc) (base := base) (o := 3) hE rfl e1
    intro H locs cells slots ls hH hL hlo hc hs
    have k9 := k H locs cells slots ls hH hL hlo hc hs
    rw [List.map_cons, g4] at k9
    rw [List.map_cons, List.map_cons, g1, g2]
    cases g3
    exact lv_iand hx hb hd k9
  case ior =>
    simp only [hq, decide_eq_true_eq] at hd
    simp only [c_dsp, hq, x_b2] at e1
    obtain ⟨u, v, t, w, a, b9, z, rfl, g1, g2, g3, g4, rfl⟩ := c_b2_ok (cc := cc) (base := base) (o := 4) hE rfl e1
    intro H locs cells slots ls hH hL hlo hc hs
    have k9 := k H locs cells slots ls hH hL hlo hc hs
    rw [List.map_cons, g4] at k9
    rw [List.map_cons, List.map_cons, g1, g2]
    cases g3
    exact lv_ior hx hb hd k9
  case ixor =>
    simp only [hq, decide_eq_true_eq] at hd
    simp only [c_dsp, hq, x_b2] at e1
    obtain ⟨u, v, t, w, a, b9, z, rfl, g1, g2, g3, g4, rfl⟩ := c_b2_ok (cc := cc) (base := base) (o := 5) hE rfl e1
    intro H locs cells slots ls hH hL hlo hc hs
    have k9 := k H locs cells slots ls hH hL hlo hc hs
    rw [List.map_cons, g4] at k9
    rw [List.map_cons, List.map_cons, g1, g2]
    cases g3
    exact lv_ixor hx hb hd k9
  case ishl =>
    simp only [hq, decide_eq_true_eq] at hd
    simp only [c_dsp, hq, x_b2] at e1
    obtain ⟨u, v, t, w, a, b9, z, rfl, g1, g2, g3, g4, rfl⟩ := c_b2_ok (cc := cc) (base := base) (o := 6) hE rfl e1
    intro H locs cells slots ls hH hL hlo hc hs
    have k9 := k H locs cells slots ls hH hL hlo hc hs
    rw [List.map_cons, g4] at k9
    rw [List.map_cons, List.map_cons, g1, g2]
    cases g3
    exact lv_ishl hx hb hd k9
  case ishr =>
    simp only [hq, decide_eq_true_eq] at hd
    simp only [c_dsp, hq, x_b2] at e1
    obtain ⟨u, v, t, w, a, b9, z, rfl, g1, g2, g3, g4, rfl⟩ := c_b2_ok (cc := cc) (base := base) (o := 7) hE rfl e1
    intro H locs cells slots ls hH hL hlo hc hs
    have k9 := k H locs cells slots ls hH hL hlo hc hs
    rw [List.map_cons, g4] at k9
    rw [List.map_cons, List.map_cons, g1, g2]
    cases g3
    exact lv_ishr hx hb hd k9
  case iushr =>
    simp only [hq, decide_eq_true_eq] at hd
    simp only [c_dsp, hq, x_b2] at e1
    obtain ⟨u, v, t, w, a, b9, z, rfl, g1, g2, g3, g4, rfl⟩ := c_b2_ok (cc := cc) (base := base) (o := 8) hE rfl e1
    intro H locs cells slots ls hH hL hlo hc hs
    have k9 := k H locs cells slots ls hH hL hlo hc hs
    rw [List.map_cons, g4] at k9
    rw [List.map_cons, List.map_cons, g1, g2]
    cases g3
    exact lv_iushr hx hb hd rfl k9
  case irem =>
    simp only [hq, decide_eq_true_eq] at hd
    simp only [c_dsp, hq, x_b2] at e1
    obtain ⟨u, v, t, w, a, b9, z, rfl, g1, g2, g3, g4, rfl⟩ := c_b2_ok (cc := cc) (base := base) (o := 9) hE rfl e1
    intro H locs cells slots ls hH hL hlo hc hs
    have k9 := k H locs cells slots ls hH hL hlo hc hs
    rw [List.map_cons, g4] at k9
    rw [List.map_cons, List.map_cons, g1, g2]
    change m_rem a b9 = some z at g3
    unfold m_rem at g3
    split at g3
    · cases g3
    · rename_i hz
      cases g3
      exact lv_irem hx hb hd hz k9
  case idiv =>
    simp only [hq, decide_eq_true_eq] at hd
    simp only [c_dsp, hq, x_b2] at e1
    obtain ⟨u, v, t, w, a, b9, z, rfl, g1, g2, g3, g4, rfl⟩ := c_b2_ok (cc := cc) (base := base) (o := 10) hE rfl e1
    intro H locs cells slots ls hH hL hlo hc hs
    have k9 := k H locs cells slots ls hH hL hlo hc hs
    rw [List.map_cons, g4] at k9
    rw [List.map_cons, List.map_cons, g1, g2]
    change m_div a b9 = some z at g3
    unfold m_div at g3
    split at g3
    · cases g3
    · rename_i hz
      cases g3
      exact lv_idiv hx hb hd hz k9
  case ladd =>
    simp only [hq, decide_eq_true_eq] at hd
    simp only [c_dsp, hq, x_l2] at e1
    unfold c_l2 at e1
    split at e1
    · cases e1
      exact fun H locs cells slots ls hH hL hlo hc hs => lv_ladd hx hb hd (k H locs cells slots ls hH hL hlo hc hs)
    · cases e1
  case lsub =>
    simp only [hq, decide_eq_true_eq] at hd
    simp only [c_dsp, hq, x_l2] at e1
    unfold c_l2 at e1
    split at e1
    · cases e1
      exact fun H locs cells slots ls hH hL hlo hc hs => lv_lsub hx hb hd (k H locs cells slots ls hH hL hlo hc hs)
    · cases e1
  case lmul =>
    simp only [hq, decide_eq_true_eq] at hd
    simp only [c_dsp, hq, x_l2] at e1
    unfold c_l2 at e1
    split at e1
    · cases e1
      exact fun H locs cells slots ls hH hL hlo hc hs => lv_lmul hx hb hd (k H locs cells slots ls hH hL hlo hc hs)
    · cases e1
  case land =>
    simp only [hq, decide_eq_true_eq] at hd
    simp only [c_dsp, hq, x_l2] at e1
    unfold c_l2 at e1
    split at e1
    · cases e1
      exact fun H locs cells slots ls hH hL hlo hc hs => lv_land hx hb hd (k H locs cells slots ls hH hL hlo hc hs)
    · cases e1
  case lor =>
    simp only [hq, decide_eq_true_eq] at hd
    simp only [c_dsp, hq, x_l2] at e1
    unfold c_l2 at e1
    split at e1
    · cases e1
      exact fun H locs cells slots ls hH hL hlo hc hs => lv_lor hx hb hd (k H locs cells slots ls hH hL hlo hc hs)
    · cases e1
  case lshl =>
    simp only [hq, decide_eq_true_eq] at hd
    simp only [c_dsp, hq, x_ls] at e1
    unfold c_ls at e1
    split at e1
    · cases e1
      exact fun H locs cells slots ls hH hL hlo hc hs => lv_lshl hx hb hd rfl (k H locs cells slots ls hH hL hlo hc hs)
    · cases e1
  case lushr =>
    simp only [hq, decide_eq_true_eq] at hd
    simp only [c_dsp, hq, x_ls] at e1
    unfold c_ls at e1
    split at e1
    · cases e1
      exact fun H locs cells slots ls hH hL hlo hc hs => lv_lushr hx hb hd rfl (k H locs cells slots ls hH hL hlo hc hs)
    · cases e1
  case lcmp =>
    simp only [hq, decide_eq_true_eq] at hd
    simp only [c_dsp, hq, x_lcmp] at e1
    split at e1
    · cases e1
      exact fun H locs cells slots ls hH hL hlo hc hs => W.lcmp hx hb hd (k H locs cells slots ls hH hL hlo hc hs)
    · rename_i y9 x9 t
      split at e1
      · rename_i h9
        cases e1
        rw [Bool.and_eq_true] at h9
        have e2 := Nat.eq_of_beq_eq_true h9.2
        have e3 : x9 = y9 := UInt64.toNat_inj.mp e2
        subst e3
        intro H locs cells slots ls hH hL hlo hc hs
        have e4 : c_v base B (.double x9) = .long (B.2 (x9.toNat - c_M0)).toInt64 := by rw [c_v_d, if_pos (Nat.le_of_ble_eq_true h9.1)]
        rw [List.map_cons, List.map_cons, e4]
        refine W.lcmp hx hb hd ?_
        have k9 := k H locs cells slots ls hH hL hlo hc hs
        have e5 : ∀ a : Int64, lg_cmp a a = 0 := fun a => by unfold lg_cmp; rw [if_neg (by simp)]; simp
        rw [e5]
        exact k9
      · cases e1
    · cases e1
  case i2l =>
    simp only [hq, decide_eq_true_eq] at hd
    simp only [c_dsp, hq, x_i2l] at e1
    split at e1
    · cases e1
      exact fun H locs cells slots ls hH hL hlo hc hs => lv_i2l hx hb hd rfl (k H locs cells slots ls hH hL hlo hc hs)
    · rename_i i9 t
      split at e1
      · rename_i h9
        cases e1
        rw [Bool.and_eq_true] at h9
        have h10 := Nat.le_of_ble_eq_true h9.1
        have h11 := Nat.le_of_ble_eq_true h9.2
        intro H locs cells slots ls hH hL hlo hc hs
        have e4 : c_v base B (.retAddr i9) = .int (B.2 i9) := by rw [c_v_r, if_neg (by omega)]
        have e6 : (UInt64.ofNat (c_M0 + i9)).toNat = c_M0 + i9 := by rw [UInt64.toNat_ofNat', Nat.mod_eq_of_lt (by unfold c_M0; omega)]
        have e5 : c_v base B (.double (UInt64.ofNat (c_M0 + i9))) = .long (B.2 i9).toInt64 := by rw [c_v_d, e6, if_pos (Nat.le_add_right _ _), Nat.add_sub_cancel_left]
        have k9 := k H locs cells slots ls hH hL hlo hc hs
        rw [List.map_cons, e5] at k9
        rw [List.map_cons, e4]
        exact lv_i2l hx hb hd rfl k9
      · cases e1
    · cases e1
  case l2i =>
    simp only [hq, decide_eq_true_eq] at hd
    simp only [c_dsp, hq, x_l2i] at e1
    split at e1
    · cases e1
      exact fun H locs cells slots ls hH hL hlo hc hs => lv_l2i hx hb hd rfl (k H locs cells slots ls hH hL hlo hc hs)
    · cases e1
  case if_icmp cd off =>
    simp only [hq, decide_eq_true_eq] at hd
    simp only [c_dsp, hq, x_icmp] at e1
    unfold c_okJ at ok
    simp only [hq, decide_eq_true_eq] at ok
    split at e1
    · obtain ⟨a, b9, g1, g2, g3, rfl⟩ := c_br_i (base := base) hE hx hb e1
      intro H locs cells slots ls hH hL hlo hc hs
      rw [List.map_cons, List.map_cons, g1, g2]
      exact c_icmp hx hb hd ok (k H locs cells slots ls hH hL hlo hc hs)
    · cases e1
  case ifCond cd off =>
    simp only [hq, decide_eq_true_eq] at hd
    simp only [c_dsp, hq, x_if] at e1
    unfold c_okJ at ok
    simp only [hq, decide_eq_true_eq] at ok
    split at e1
    · obtain ⟨a, b9, g1, g2, g3, rfl⟩ := c_br_i (base := base) hE hx hb e1
      intro H locs cells slots ls hH hL hlo hc hs
      cases g3
      rw [List.map_cons, g1]
      exact c_if hx hb hd ok (k H locs cells slots ls hH hL hlo hc hs)
    · cases e1
  case if_acmp cd off =>
    simp only [hq, decide_eq_true_eq] at hd
    simp only [c_dsp, hq, x_acmp] at e1
    unfold c_okJ at ok
    simp only [hq, decide_eq_true_eq] at ok
    split at e1
    · rename_i y9 x9 t
      split at e1
      · rename_i z hz
        cases e1
        intro H locs cells slots ls hH hL hlo hc hs
        obtain ⟨-, -, -, -, -, hlt⟩ := hold
        have key : ∃ a b9, c_v base B x9 = va_rf (some a) ∧ c_v base B y9 = va_rf (some b9) ∧ (z = true ↔ some a = some b9) := by
          unfold c_acmp at hz
          split at hz
          · split at hz
            · rename_i h9
              cases hz
              rw [Bool.and_eq_true] at h9
              have e2 := Nat.eq_of_beq_eq_true h9.2
              subst e2
              have e3 := Nat.blt_eq.mp h9.1
              exact ⟨_, _, by rw [c_v_r, if_pos e3]; rfl, by rw [c_v_r, if_pos e3]; rfl, by simp⟩
            · cases hz
          · rename_i i9 j9
            split at hz
            · rename_i h9
              cases hz
              have e3 := Nat.blt_eq.mp h9
              have e4 := hlt _ e3
              refine ⟨_, _, rfl, by rw [c_v_r, if_pos (by omega)]; rfl, ?_⟩
              simp only [Option.some.injEq, Bool.false_eq_true, false_iff]
              omega
            · cases hz
          · cases hz
        obtain ⟨a, b9, g1, g2, g3⟩ := key
        rw [List.map_cons, List.map_cons, g1, g2]
        have k9 := k H locs cells slots ls hH hL hlo hc hs
        cases cd
        · refine lv_acmp_eq hx hb hd ok (fun e9 => ?_) (fun e9 => ?_)
          · rw [g3.mpr e9] at k9; exact k9
          · have e8 : z = false := by cases z; rfl; exact absurd (g3.mp rfl) e9
            rw [e8] at k9; exact k9
        · refine lv_acmp_ne hx hb hd ok (fun e9 => ?_) (fun e9 => ?_)
          · have e8 : z = false := by cases z; rfl; exact absurd (g3.mp rfl) e9
            rw [e8] at k9; exact k9
          · rw [g3.mpr e9] at k9; exact k9
      · cases e1
    · cases e1
  case ifnull off =>
    simp only [hq, decide_eq_true_eq] at hd
    simp only [c_dsp, hq, x_ifn] at e1
    split at e1
    · cases e1
      exact fun H locs cells slots ls hH hL hlo hc hs => lv_ifnull hx hb hd (k H locs cells slots ls hH hL hlo hc hs)
    · cases e1
  case ifnonnull off =>
    simp only [hq, decide_eq_true_eq] at hd
    simp only [c_dsp, hq, x_ifn] at e1
    unfold c_okJ at ok
    simp only [hq, decide_eq_true_eq] at ok
    split at e1
    · cases e1
      exact fun H locs cells slots ls hH hL hlo hc hs => lv_ifnonnull hx hb hd ok (k H locs cells slots ls hH hL hlo hc hs)
    · cases e1
  case goto off =>
    simp only [hq, decide_eq_true_eq] at hd
    simp only [c_dsp, hq, x_goto] at e1
    cases e1
    unfold c_okJ at ok
    simp only [hq, decide_eq_true_eq] at ok
    exact fun H locs cells slots ls hH hL hlo hc hs => lv_goto hx hb hd ok (k H locs cells slots ls hH hL hlo hc hs)
  case tableswitch d lo hi offs =>
    simp only [c_dsp, hq, x_tab] at e1
    unfold c_okJ at ok
    simp only [hq, Bool.and_eq_true, decide_eq_true_eq] at ok
    obtain ⟨⟨o1, o2⟩, o3⟩ := ok
    simp only [hq] at hd
    split at hd
    · rename_i d2 lo2 hi2 offs2 len hdec
      simp only [Bool.and_eq_true, decide_eq_true_eq] at hd
      obtain ⟨⟨⟨rfl, rfl⟩, rfl⟩, e9⟩ := hd
      split at e1
      · rename_i x9 t
        unfold c_sw at e1
        by_cases h1 : x9.toInt < lo
        · rw [if_pos h1] at e1
          cases e1
          exact fun H locs cells slots ls hH hL hlo hc hs => lv_tableOut hx hb hdec (Or.inl h1) (Int.toNat_of_nonneg o1).symm (k H locs cells slots ls hH hL hlo hc hs)
        · rw [if_neg h1, c_nth_eq] at e1
          split at e1
          · rename_i o9 ho
            cases e1
            have h3 := (List.getElem?_eq_some_iff.mp ho).1
            have h4 : 0 ≤ (pc : Int) + o9 := of_decide_eq_true (List.all_eq_true.mp o2 _ (List.mem_of_getElem? ho))
            exact fun H locs cells slots ls hH hL hlo hc hs => lv_tableIn hx hb hdec h1 (by omega) (by rw [← Array.getElem?_toList, ← e9]; exact ho) (Int.toNat_of_nonneg h4).symm (k H locs cells slots ls hH hL hlo hc hs)
          · rename_i ho
            cases e1
            have h3 := List.getElem?_eq_none_iff.mp ho
            exact fun H locs cells slots ls hH hL hlo hc hs => lv_tableOut hx hb hdec (Or.inr (by omega)) (Int.toNat_of_nonneg o1).symm (k H locs cells slots ls hH hL hlo hc hs)
      · cases e1
    · cases hd
  case dup =>
    simp only [hq, decide_eq_true_eq] at hd
    simp only [c_dsp, hq, x_dup] at e1
    split at e1
    · split at e1
      · rename_i v t hcat
        cases e1
        exact fun H locs cells slots ls hH hL hlo hc hs => lv_dup hx hb hd (by rw [c_v_cat]; exact hcat) (k H locs cells slots ls hH hL hlo hc hs)
      · cases e1
    · cases e1
  case dup_x1 =>
    simp only [hq, decide_eq_true_eq] at hd
    simp only [c_dsp, hq, x_dupx1] at e1
    split at e1
    · split at e1
      · rename_i v w t hcat
        split at e1
        · rename_i hcat2
          cases e1
          exact fun H locs cells slots ls hH hL hlo hc hs => lv_dup_x1 hx hb hd (by rw [c_v_cat]; exact hcat) (by rw [c_v_cat]; exact hcat2) (k H locs cells slots ls hH hL hlo hc hs)
        · cases e1
      · cases e1
    · cases e1
  case dup2 =>
    simp only [hq, decide_eq_true_eq] at hd
    simp only [c_dsp, hq, x_dup2] at e1
    split at e1
    · split at e1
      · rename_i v w t hcat
        split at e1
        · rename_i hcat2
          cases e1
          exact fun H locs cells slots ls hH hL hlo hc hs => lv_dup2_11 hx hb hd (by rw [c_v_cat]; exact hcat) (by rw [c_v_cat]; exact hcat2) (k H locs cells slots ls hH hL hlo hc hs)
        · cases e1
      · cases e1
    · cases e1
  case pop =>
    simp only [hq, decide_eq_true_eq] at hd
    simp only [c_dsp, hq, x_pop] at e1
    split at e1
    · split at e1
      · rename_i v t hcat
        cases e1
        exact fun H locs cells slots ls hH hL hlo hc hs => lv_pop hx hb hd (by rw [c_v_cat]; exact hcat) (k H locs cells slots ls hH hL hlo hc hs)
      · cases e1
    · cases e1
  case i2f =>
    simp only [hq, decide_eq_true_eq] at hd
    simp only [c_dsp, hq, x_i2f] at e1
    split at e1
    · cases e1
      exact fun H locs cells slots ls hH hL hlo hc hs => lv_i2f hx hb hd (k H locs cells slots ls hH hL hlo hc hs)
    · cases e1
  case fdiv =>
    simp only [hq, decide_eq_true_eq] at hd
    simp only [c_dsp, hq, x_fdiv] at e1
    unfold c_f2 at e1
    split at e1
    · simp only at e1
      split at e1
      · rename_i hz
        cases e1
        exact fun H locs cells slots ls hH hL hlo hc hs => lv_fdiv hx hb hd (by unfold c_nn at hz; unfold vf_n32; exact of_decide_eq_true hz) (k H locs cells slots ls hH hL hlo hc hs)
      · cases e1
    · cases e1
  case fcmp op =>
    simp only [hq, decide_eq_true_eq] at hd
    simp only [c_dsp, hq, x_fcmp] at e1
    unfold c_f2 at e1
    split at e1
    · cases e1
      exact fun H locs cells slots ls hH hL hlo hc hs => lv_fcmp hx hb hd (k H locs cells slots ls hH hL hlo hc hs)
    · cases e1
  case getfield i =>
    simp only [hq, decide_eq_true_eq] at hd
    simp only [c_dsp, hq, x_getf] at e1
    exact c_getf_i C hq hd ok e1 k
  case putfield i =>
    simp only [hq, decide_eq_true_eq] at hd
    simp only [c_dsp, hq, x_putf] at e1
    exact c_putf_i C hini hq hd ok e1 k
  case getstatic i =>
    simp only [hq, decide_eq_true_eq] at hd
    simp only [c_dsp, hq, x_gets] at e1
    unfold c_okJ at ok
    simp only [hq] at ok
    split at e1
    · rename_i h9
      simp only [h9] at ok
      obtain ⟨w1, w2⟩ := c_w_ok ok
      cases e1
      exact fun H locs cells slots ls hH hL hlo hc hs => c_gets_i C hold.2.1 (hts _ w1 w2) hd (hH.S hlo) (k H locs cells slots ls hH hL hlo hc hs)
    · rename_i h9
      simp only [h9] at ok
      obtain ⟨w1, w2⟩ := c_w_ok ok
      cases e1
      exact fun H locs cells slots ls hH hL hlo hc hs => c_gets_i C hold.1.1 (hts _ w1 w2) hd (hH.S hlo) (k H locs cells slots ls hH hL hlo hc hs)
    · rename_i h9
      simp only [h9] at ok
      obtain ⟨w1, w2⟩ := c_w_ok ok
      cases e1
      exact fun H locs cells slots ls hH hL hlo hc hs => c_gets_i C hold.2.2.1.1 (hts _ w1 w2) hd (hH.S hlo) (k H locs cells slots ls hH hL hlo hc hs)
    · cases e1
  case iaload =>
    simp only [hq, decide_eq_true_eq] at hd
    simp only [c_dsp, hq, x_iald] at e1
    exact c_iald_i C hd e1 k
  case laload =>
    simp only [hq, decide_eq_true_eq] at hd
    simp only [c_dsp, hq, x_ald] at e1
    exact c_lald0_i C hd e1 k
  case baload =>
    simp only [hq, decide_eq_true_eq] at hd
    simp only [c_dsp, hq, x_ald] at e1
    exact c_zald0_i C hd e1 k
  case aaload =>
    simp only [hq, decide_eq_true_eq] at hd
    simp only [c_dsp, hq, x_aald] at e1
    exact c_aald_i C hd e1 k
  case iastore =>
    simp only [hq, decide_eq_true_eq] at hd
    simp only [c_dsp, hq, x_ast] at e1
    exact c_iast_i C hd e1 k
  case lastore =>
    simp only [hq, decide_eq_true_eq] at hd
    simp only [c_dsp, hq, x_ast] at e1
    exact c_last_i C hd e1 k
  case bastore =>
    simp only [hq, decide_eq_true_eq] at hd
    simp only [c_dsp, hq, x_ast] at e1
    exact c_zast_i C hd e1 k
  case aastore =>
    simp only [hq, decide_eq_true_eq] at hd
    simp only [c_dsp, hq, x_aast] at e1
    exact c_aast_i C hq hd ok e1 k
  case arraylength =>
    simp only [hq, decide_eq_true_eq] at hd
    simp only [c_dsp, hq, x_alen] at e1
    exact c_alen_i C hd e1 k
  case new i =>
    simp only [hq, decide_eq_true_eq] at hd
    simp only [c_dsp, hq, x_new] at e1
    cases e1
    have h9 : ¬ q.2.2.2 = 1 := fun z => by simp [c_kd, c_kd0, c_kd9, hq, z] at h0
    simp only [List.length_append, List.length_cons, List.length_nil, c_msz_app, c_sz, c_dfl, List.length_map, List.length_range] at hr1 hr2
    exact c_new_i C hq h9 hd ok (by omega) (by omega) k
  case newarray t =>
    simp only [hq, decide_eq_true_eq] at hd
    simp only [c_dsp, hq, x_newa] at e1
    exact c_newa_i C hq hd ok e1 hr1 hr2 k
  case anewarray i =>
    simp only [hq, decide_eq_true_eq] at hd
    simp only [c_dsp, hq, x_newa] at e1
    exact c_anew_i C hq hd ok e1 hr1 hr2 k
  case multianewarray i d =>
    simp only [hq, decide_eq_true_eq] at hd
    simp only [c_dsp, hq, x_mnew] at e1
    exact c_mnew_i C hq hd ok e1 hr1 hr2 k
  case checkcast i =>
    simp only [hq, decide_eq_true_eq] at hd
    simp only [c_dsp, hq, x_cast] at e1
    exact c_cast_i C hq hd ok e1 k
  case invokespecial i =>
    simp only [hq, decide_eq_true_eq] at hd
    simp only [c_dsp, hq, x_call] at e1
    have h9 : ¬ q.2.2.2 < 6 := fun z => by simp [c_kd, c_kd0, c_kd9, hq, Nat.blt_eq.mpr z] at h0
    have h6 : q.2.2.2 = 6 := by
      unfold c_okJ at ok
      simp only [hq] at ok
      by_cases z : q.2.2.2 = 6
      · exact z
      · rw [if_neg z, decide_eq_true_eq] at ok; exact absurd ok h9
    exact c_special_i C hq h6 hd ok e1 k
  case invokestatic i =>
    simp only [hq, decide_eq_true_eq] at hd
    simp only [c_dsp, hq, x_call] at e1
    have h9 : ¬ q.2.2.2 < 6 := fun z => by simp [c_kd, c_kd0, c_kd9, hq, Nat.blt_eq.mpr z] at h0
    exact c_static_i C hq hd h9 ok e1 hr1 hr2 k
  case invokevirtual i =>
    simp only [hq, decide_eq_true_eq] at hd
    simp only [c_dsp, hq, x_call] at e1
    have h9 : ¬ q.2.2.2 < 6 := fun z => by simp [c_kd, c_kd0, c_kd9, hq, Nat.blt_eq.mpr z] at h0
    exact c_virtual_i C hq hd h9 ok e1 hr1 hr2 k
  all_goals (simp only [c_dsp, hq, x_no] at e1; cases e1)
end Sim1
