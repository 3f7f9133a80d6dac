section Sim1
variable {p : Program} {l : Launch} {e : Env} {R : Room} {s : State} {m : MethodId} {args : Array Value} {below : List Frame} {meth : Method} {c : Code} {Q : State → Prop}
variable {D : va_G} {A : Nat → ClassId} {H0 : Heap} {base b nL n0 z0 F Rl : Nat} {X : List Int32} {y : MethodName} {cc : ByteArray} {ini : Bool} {pc : Nat} {q : c_I} {ix : List Nat} {L : c_Ls} {st : List Value} {h : c_Hp} {r : c_R}
set_option maxHeartbeats 4000000 in
theorem c_sim1 (C : c_ctx p l R s m args meth c D A H0 base b X y cc nL F Rl) (hini : ini = true → y.name = "<init>") (ok : c_okI y.cls cc ini F Rl pc q ix = true) (h0 : c_kd q = 0) (e1 : c_stp c_ty c_nf X q pc L st h = some r) (hr1 : r.2.2.2.length ≤ n0 + R.cells) (hr2 : c_msz r.2.2.2 ≤ z0 + R.slots) (k : c_K p l e R s m args below meth c Q D A H0 base b nL n0 z0 r.1 r.2.1 r.2.2.1 r.2.2.2) : c_K p l e R s m args below meth c Q D A H0 base b nL n0 z0 pc L st h := by
  unfold c_okI at ok
  rw [Bool.and_eq_true, decide_eq_true_eq] at ok
  obtain ⟨hd, ok⟩ := ok
  have C2 := C
  obtain ⟨hx, hb, hml, hown, hts, -⟩ := C2
  cases hq : q.1

  case iconst n =>
    rw [hq] at hd
    simp only [c_stp, hq] at e1
    cases e1
    intro H locs cells slots ls hH hL hlo hc hs
    exact lv_iconst hx hb hd rfl (k H locs cells slots ls hH hL hlo hc hs)
  case bipush n =>
    rw [hq] at hd
    simp only [c_stp, hq] at e1
    cases e1
    intro H locs cells slots ls hH hL hlo hc hs
    exact lv_bipush hx hb hd rfl (k H locs cells slots ls hH hL hlo hc hs)
  case sipush n =>
    rw [hq] at hd
    simp only [c_stp, hq] at e1
    cases e1
    intro H locs cells slots ls hH hL hlo hc hs
    exact lv_sipush hx hb hd rfl (k H locs cells slots ls hH hL hlo hc hs)
  case ldc i =>
    rw [hq] at hd
    simp only [c_stp, hq] at e1
    unfold c_okJ at ok
    simp only [hq] at ok
    split at e1
    · rename_i h9
      rw [if_pos h9] at ok
      obtain ⟨w1, w2⟩ := c_w_ok ok
      cases e1
      intro H locs cells slots ls hH hL hlo hc hs
      exact lv_ldc hx hb hown (hts _ w1 w2) hd (k H locs cells slots ls hH hL hlo hc hs)
    · rename_i h9
      rw [if_neg h9] at ok
      obtain ⟨w1, w2⟩ := c_w_ok ok
      cases e1
      intro H locs cells slots ls hH hL hlo hc hs
      exact lv_ldcf hx hb hown (hts _ w1 w2) hd (k H locs cells slots ls hH hL hlo hc hs)
  case ldc_w i =>
    rw [hq] at hd
    simp only [c_stp, hq] at e1
    unfold c_okJ at ok
    simp only [hq] at ok
    split at e1
    · rename_i h9
      rw [if_pos h9] at ok
      obtain ⟨w1, w2⟩ := c_w_ok ok
      cases e1
      intro H locs cells slots ls hH hL hlo hc hs
      exact lv_ldcw hx hb hown (hts _ w1 w2) hd (k H locs cells slots ls hH hL hlo hc hs)
    · rename_i h9
      rw [if_neg h9] at ok
      obtain ⟨w1, w2⟩ := c_w_ok ok
      cases e1
      intro H locs cells slots ls hH hL hlo hc hs
      exact c_ldcwf hx hb hown (hts _ w1 w2) hd (k H locs cells slots ls hH hL hlo hc hs)
  case fconst n =>
    rw [hq] at hd
    simp only [c_stp, hq] at e1
    match n, hd, e1 with
    | 0, hd, e1 => cases e1; exact fun H locs cells slots ls hH hL hlo hc hs => lv_fconst0 hx hb hd (k H locs cells slots ls hH hL hlo hc hs)
    | 1, hd, e1 => cases e1; exact fun H locs cells slots ls hH hL hlo hc hs => lv_fconst1 hx hb hd (k H locs cells slots ls hH hL hlo hc hs)
    | 2, hd, e1 => cases e1; exact fun H locs cells slots ls hH hL hlo hc hs => lv_fconst2 hx hb hd (k H locs cells slots ls hH hL hlo hc hs)
  case iload_n n =>
    rw [hq] at hd
    simp only [c_stp, hq] at e1
    exact c_iload_n hx hb hd e1 k
  case iload i =>
    rw [hq] at hd
    simp only [c_stp, hq] at e1
    exact c_iload_i hx hb hd e1 k
  case fload_n n =>
    rw [hq] at hd
    simp only [c_stp, hq] at e1
    exact c_fload_n hx hb hd e1 k
  case fload i =>
    rw [hq] at hd
    simp only [c_stp, hq] at e1
    exact c_fload_i hx hb hd e1 k
  case aload_n n =>
    rw [hq] at hd
    simp only [c_stp, hq] at e1
    exact c_aload_n hx hb hd e1 k
  case aload i =>
    rw [hq] at hd
    simp only [c_stp, hq] at e1
    exact c_aload_i hx hb hd e1 k
  case istore_n n =>
    rw [hq] at hd
    simp only [c_stp, hq] at e1
    exact c_istore_n hx hb hd e1 k
  case istore i =>
    rw [hq] at hd
    simp only [c_stp, hq] at e1
    exact c_istore_i hx hb hd e1 k
  case fstore_n n =>
    rw [hq] at hd
    simp only [c_stp, hq] at e1
    exact c_fstore_n hx hb hd e1 k
  case fstore i =>
    rw [hq] at hd
    simp only [c_stp, hq] at e1
    exact c_fstore_i hx hb hd e1 k
  case astore_n n =>
    rw [hq] at hd
    simp only [c_stp, hq] at e1
    exact c_astore_n hx hb hd e1 k
  case astore i =>
    rw [hq] at hd
    simp only [c_stp, hq] at e1
    exact c_astore_i hx hb hd e1 k
  case iinc i n =>
    rw [hq] at hd
    simp only [c_stp, hq] at e1
    split at e1
    · rename_i x hv
      cases e1
      exact c_iinc_i hx hb hd hv k
    · cases e1
  case iadd =>
    rw [hq] at hd
    simp only [c_stp, hq] at e1
    obtain ⟨x, z, t, rfl, e2⟩ := c_s2_ok e1
    cases e2
    intro H locs cells slots ls hH hL hlo hc hs
    exact lv_iadd hx hb hd (k H locs cells slots ls hH hL hlo hc hs)
  case isub =>
    rw [hq] at hd
    simp only [c_stp, hq] at e1
    obtain ⟨x, z, t, rfl, e2⟩ := c_s2_ok e1
    cases e2
    intro H locs cells slots ls hH hL hlo hc hs
    exact lv_isub hx hb hd (k H locs cells slots ls hH hL hlo hc hs)
  case imul =>
    rw [hq] at hd
    simp only [c_stp, hq] at e1
    obtain ⟨x, z, t, rfl, e2⟩ := c_s2_ok e1
    cases e2
    intro H locs cells slots ls hH hL hlo hc hs
    exact lv_imul hx hb hd (k H locs cells slots ls hH hL hlo hc hs)
  case iand =>
    rw [hq] at hd
    simp only [c_stp, hq] at e1
    obtain ⟨x, z, t, rfl, e2⟩ := c_s2_ok e1
    cases e2
    intro H locs cells slots ls hH hL hlo hc hs
    exact lv_iand hx hb hd (k H locs cells slots ls hH hL hlo hc hs)
  case ior =>
    rw [hq] at hd
    simp only [c_stp, hq] at e1
    obtain ⟨x, z, t, rfl, e2⟩ := c_s2_ok e1
    cases e2
    intro H locs cells slots ls hH hL hlo hc hs
    exact lv_ior hx hb hd (k H locs cells slots ls hH hL hlo hc hs)
  case ixor =>
    rw [hq] at hd
    simp only [c_stp, hq] at e1
    obtain ⟨x, z, t, rfl, e2⟩ := c_s2_ok e1
    cases e2
    intro H locs cells slots ls hH hL hlo hc hs
    exact lv_ixor hx hb hd (k H locs cells slots ls hH hL hlo hc hs)
  case ishl =>
    rw [hq] at hd
    simp only [c_stp, hq] at e1
    obtain ⟨x, z, t, rfl, e2⟩ := c_s2_ok e1
    cases e2
    intro H locs cells slots ls hH hL hlo hc hs
    exact lv_ishl hx hb hd (k H locs cells slots ls hH hL hlo hc hs)
  case ishr =>
    rw [hq] at hd
    simp only [c_stp, hq] at e1
    obtain ⟨x, z, t, rfl, e2⟩ := c_s2_ok e1
    cases e2
    intro H locs cells slots ls hH hL hlo hc hs
    exact lv_ishr hx hb hd (k H locs cells slots ls hH hL hlo hc hs)
  case iushr =>
    rw [hq] at hd
    simp only [c_stp, hq] at e1
    obtain ⟨x, z, t, rfl, e2⟩ := c_s2_ok e1
    cases e2
    intro H locs cells slots ls hH hL hlo hc hs
    exact lv_iushr hx hb hd rfl (k H locs cells slots ls hH hL hlo hc hs)
  case irem =>
    rw [hq] at hd
    simp only [c_stp, hq] at e1
    obtain ⟨x, z, t, rfl, e2⟩ := c_s2_ok e1
    split at e2
    · cases e2
    · rename_i hz
      cases e2
      intro H locs cells slots ls hH hL hlo hc hs
      exact lv_irem hx hb hd hz (k H locs cells slots ls hH hL hlo hc hs)
  case idiv =>
    rw [hq] at hd
    simp only [c_stp, hq] at e1
    obtain ⟨x, z, t, rfl, e2⟩ := c_s2_ok e1
    split at e2
    · cases e2
    · rename_i hz
      cases e2
      intro H locs cells slots ls hH hL hlo hc hs
      exact lv_idiv hx hb hd hz (k H locs cells slots ls hH hL hlo hc hs)
  case if_icmp cd off =>
    rw [hq] at hd
    simp only [c_stp, hq] at e1
    obtain ⟨x, z, t, rfl, e2⟩ := c_s2_ok e1
    cases e2
    unfold c_okJ at ok
    simp only [hq, decide_eq_true_eq] at ok
    exact c_icmp hx hb hd ok k
  case ifCond cd off =>
    rw [hq] at hd
    simp only [c_stp, hq] at e1
    obtain ⟨x, t, rfl, e2⟩ := c_s1_ok e1
    cases e2
    unfold c_okJ at ok
    simp only [hq, decide_eq_true_eq] at ok
    exact c_if hx hb hd ok k
  case goto off =>
    rw [hq] at hd
    simp only [c_stp, hq] at e1
    cases e1
    unfold c_okJ at ok
    simp only [hq, decide_eq_true_eq] at ok
    exact fun H locs cells slots ls hH hL hlo hc hs => lv_goto hx hb hd ok (k H locs cells slots ls hH hL hlo hc hs)
  case dup =>
    rw [hq] at hd
    simp only [c_stp, hq] at e1
    split at e1
    · split at e1
      · rename_i v t hcat
        cases e1
        exact fun H locs cells slots ls hH hL hlo hc hs => lv_dup hx hb hd (by rw [c_v_cat]; exact hcat) (k H locs cells slots ls hH hL hlo hc hs)
      · cases e1
    · cases e1
  case pop =>
    rw [hq] at hd
    simp only [c_stp, hq] at e1
    split at e1
    · split at e1
      · rename_i v t hcat
        cases e1
        exact fun H locs cells slots ls hH hL hlo hc hs => lv_pop hx hb hd (by rw [c_v_cat]; exact hcat) (k H locs cells slots ls hH hL hlo hc hs)
      · cases e1
    · cases e1
  case i2f =>
    rw [hq] at hd
    simp only [c_stp, hq] at e1
    obtain ⟨x, t, rfl, e2⟩ := c_s1_ok e1
    cases e2
    exact fun H locs cells slots ls hH hL hlo hc hs => lv_i2f hx hb hd (k H locs cells slots ls hH hL hlo hc hs)
  case f2i =>
    rw [hq] at hd
    simp only [c_stp, hq] at e1
    obtain ⟨x, t, rfl, e2⟩ := c_f1_ok e1
    cases e2
    exact fun H locs cells slots ls hH hL hlo hc hs => lv_f2i hx hb hd (k H locs cells slots ls hH hL hlo hc hs)
  case fmul =>
    rw [hq] at hd
    simp only [c_stp, hq] at e1
    obtain ⟨x, z, t, rfl, e2⟩ := c_f2_ok e1
    split at e2
    · rename_i hz
      cases e2
      exact fun H locs cells slots ls hH hL hlo hc hs => lv_fmul hx hb hd (by unfold c_nn at hz; unfold vf_n32; exact of_decide_eq_true hz) (k H locs cells slots ls hH hL hlo hc hs)
    · cases e2
  case fdiv =>
    rw [hq] at hd
    simp only [c_stp, hq] at e1
    obtain ⟨x, z, t, rfl, e2⟩ := c_f2_ok e1
    split at e2
    · rename_i hz
      cases e2
      exact fun H locs cells slots ls hH hL hlo hc hs => lv_fdiv hx hb hd (by unfold c_nn at hz; unfold vf_n32; exact of_decide_eq_true hz) (k H locs cells slots ls hH hL hlo hc hs)
    · cases e2
  case fsub =>
    rw [hq] at hd
    simp only [c_stp, hq] at e1
    obtain ⟨x, z, t, rfl, e2⟩ := c_f2_ok e1
    split at e2
    · rename_i hz
      cases e2
      exact fun H locs cells slots ls hH hL hlo hc hs => lv_fsub hx hb hd (by unfold c_nn at hz; unfold vf_n32; exact of_decide_eq_true hz) (k H locs cells slots ls hH hL hlo hc hs)
    · cases e2
  case fcmp op =>
    rw [hq] at hd
    simp only [c_stp, hq] at e1
    obtain ⟨x, z, t, rfl, e2⟩ := c_f2_ok e1
    cases e2
    exact fun H locs cells slots ls hH hL hlo hc hs => lv_fcmp hx hb hd (k H locs cells slots ls hH hL hlo hc hs)
  case getfield i =>
    rw [hq] at hd
    simp only [c_stp, hq] at e1
    exact c_getf_i C hq hd ok e1 k
  case putfield i =>
    rw [hq] at hd
    simp only [c_stp, hq] at e1
    exact c_putf_i C hini hq hd ok e1 k
  case iaload =>
    rw [hq] at hd
    simp only [c_stp, hq] at e1
    exact c_iald_i C hd e1 k
  case iastore =>
    rw [hq] at hd
    simp only [c_stp, hq] at e1
    exact c_iast_i C hd e1 k
  case aaload =>
    rw [hq] at hd
    simp only [c_stp, hq] at e1
    exact c_aald_i C hd e1 k
  case aastore =>
    rw [hq] at hd
    simp only [c_stp, hq] at e1
    exact c_aast_i C hd e1 k
  case arraylength =>
    rw [hq] at hd
    simp only [c_stp, hq] at e1
    exact c_alen_i C hq hd ok e1 k
  case new i =>
    rw [hq] at hd
    simp only [c_stp, hq] at e1
    cases e1
    have h9 : ¬ q.2.2.2 = 1 := fun z => by simp [c_kd, hq, z] at h0
    simp only [List.length_append, List.length_cons, List.length_nil, c_msz_app, c_sz, c_dfl, List.length_map, List.length_range] at hr1 hr2
    exact c_new_i C hq h9 hd ok (by omega) (by omega) k
  case newarray t =>
    rw [hq] at hd
    simp only [c_stp, hq] at e1
    exact c_newa_i C hq hd ok e1 hr1 hr2 k
  case multianewarray i d =>
    rw [hq] at hd
    simp only [c_stp, hq] at e1
    exact c_mnew_i C hq hd ok e1 hr1 hr2 k
  case checkcast i =>
    rw [hq] at hd
    simp only [c_stp, hq] at e1
    exact c_cast_i C hq hd ok e1 k
  case invokespecial i =>
    rw [hq] at hd
    simp only [c_stp, hq] at e1
    have h9 : ¬ q.2.2.2 < 6 := fun z => by simp [c_kd, hq, z] at h0
    have h6 : q.2.2.2 = 6 := by
      unfold c_okJ at ok
      simp only [hq] at ok
      by_cases z : q.2.2.2 = 6
      · exact z
      · rw [if_neg z, decide_eq_true_eq] at ok; exact absurd ok h9
    exact c_special_i C hq h6 hd ok e1 k
  case invokestatic i =>
    rw [hq] at hd
    simp only [c_stp, hq] at e1
    have h9 : ¬ q.2.2.2 < 6 := fun z => by simp [c_kd, hq, z] at h0
    exact c_static_i C hq hd h9 ok e1 hr1 hr2 k
  case invokevirtual i =>
    rw [hq] at hd
    simp only [c_stp, hq] at e1
    have h9 : ¬ q.2.2.2 < 6 := fun z => by simp [c_kd, hq, z] at h0
    exact c_virtual_i C hq hd h9 ok e1 hr1 hr2 k
  all_goals (simp only [c_stp, hq] at e1; cases e1)
end Sim1
