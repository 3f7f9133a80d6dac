def c_le (h h2 : c_Hp) : Prop := h.length ≤ h2.length ∧ c_msz h ≤ c_msz h2
theorem c_le.rf (h : c_Hp) : c_le h h := ⟨Nat.le_refl _, Nat.le_refl _⟩
theorem c_le.tr {h h2 h3 : c_Hp} (a : c_le h h2) (b : c_le h2 h3) : c_le h h3 := ⟨Nat.le_trans a.1 b.1, Nat.le_trans a.2 b.2⟩
theorem c_le.app (h h2 : c_Hp) : c_le h (h ++ h2) := ⟨by simp, by rw [c_msz_app2]; exact Nat.le_add_right _ _⟩
theorem c_le.st {h : c_Hp} {a : Nat} {x y : c_Cell} (hx : h[a]? = some x) (e : c_sz x = c_sz y) : c_le h (h.set a y) := ⟨by simp, by rw [c_msz_set hx e]; exact Nat.le_refl _⟩
section Mono
variable {X : List Int32} {q : c_I} {pc i n : Nat} {L : c_Ls} {st : List Value} {h : c_Hp} {r : c_R}
theorem c_iload_le (e : c_iload L i n pc st h = some r) : r.2.2.2 = h := by
  unfold c_iload at e
  split at e <;> cases e
  rfl
theorem c_fload_le (e : c_fload L i n pc st h = some r) : r.2.2.2 = h := by
  unfold c_fload at e
  split at e <;> cases e
  rfl
theorem c_aload_le (e : c_aload L i n pc st h = some r) : r.2.2.2 = h := by
  unfold c_aload at e
  split at e <;> cases e <;> rfl
theorem c_istore_le (e : c_istore L i n pc st h = some r) : r.2.2.2 = h := by
  unfold c_istore at e
  split at e
  · split at e <;> cases e
    rfl
  · cases e
theorem c_fstore_le (e : c_fstore L i n pc st h = some r) : r.2.2.2 = h := by
  unfold c_fstore at e
  split at e
  · split at e <;> cases e
    rfl
  · cases e
theorem c_astore_le (e : c_astore L i n pc st h = some r) : r.2.2.2 = h := by
  unfold c_astore at e
  split at e
  · split at e <;> cases e
    rfl
  · cases e
theorem c_getf_le (e : c_getf q pc L st h = some r) : r.2.2.2 = h := by
  unfold c_getf at e
  split at e
  · split at e
    · split at e <;> cases e
      rfl
    · cases e
  · cases e
theorem c_putf_le (e : c_putf c_ty q pc L st h = some r) : c_le h r.2.2.2 := by
  unfold c_putf at e
  split at e
  · split at e
    · rename_i fs hfs
      split at e
      · split at e <;> cases e
        exact c_le.st (c_fs_ok hfs) (by simp [c_sz])
      · cases e
    · cases e
  · cases e
theorem c_iald_le (e : c_iald X pc L st h = some r) : r.2.2.2 = h := by
  unfold c_iald at e
  split at e
  · split at e
    · split at e
      · split at e <;> cases e
        rfl
      · cases e
    · cases e
  · split at e
    · split at e <;> cases e
      rfl
    · cases e
  · cases e
theorem c_aald_le (e : c_aald pc L st h = some r) : r.2.2.2 = h := by
  unfold c_aald at e
  split at e
  · split at e
    · split at e
      · split at e <;> cases e
        rfl
      · cases e
    · cases e
  · cases e
theorem c_iast_le (e : c_iast pc L st h = some r) : c_le h r.2.2.2 := by
  unfold c_iast at e
  split at e
  · split at e
    · rename_i vs hvs
      split at e <;> cases e
      exact c_le.st (c_vs_ok hvs) (by simp [c_sz])
    · cases e
  · cases e
theorem c_aast_le (e : c_aast pc L st h = some r) : c_le h r.2.2.2 := by
  unfold c_aast at e
  split at e
  · split at e
    · rename_i vs hvs
      split at e
      · split at e <;> cases e
        exact c_le.st (c_vs_ok hvs) (by simp [c_sz])
      · cases e
    · cases e
  · cases e
theorem c_alen_le (e : c_alen X q pc L st h = some r) : r.2.2.2 = h := by
  unfold c_alen at e
  split at e
  · split at e <;> cases e
    rfl
  · cases e; rfl
  · cases e
theorem c_newa_le (e : c_newa q pc L st h = some r) : c_le h r.2.2.2 := by
  unfold c_newa at e
  split at e
  · split at e
    · cases e
    · split at e <;> cases e
      exact c_le.app _ _
  · cases e
theorem c_mnew_le (e : c_mnew pc L st h = some r) : c_le h r.2.2.2 := by
  unfold c_mnew at e
  split at e
  · split at e
    · cases e
    · split at e
      · cases e
      · split at e
        · split at e <;> cases e
          exact (c_le.app _ _).tr (c_le.app _ _)
        · cases e
  · cases e
theorem c_cast_le (e : c_cast q pc L st h = some r) : r.2.2.2 = h := by
  unfold c_cast at e
  split at e
  · split at e <;> cases e
    rfl
  · cases e
theorem c_call1_le (e : c_call1 q pc L st h = some r) : c_le h r.2.2.2 := by
  unfold c_call1 at e
  split at e
  · split at e
    · split at e <;> cases e
      exact c_le.rf _
    · cases e
  · split at e
    · split at e <;> cases e
      exact c_le.rf _
    · cases e
  · split at e
    · split at e <;> cases e
      exact c_le.rf _
    · cases e
  · split at e
    · split at e
      · split at e
        · split at e <;> cases e
          exact c_le.app _ _
        · cases e
      · cases e
    · cases e
  · split at e
    · split at e <;> cases e
      exact c_le.rf _
    · cases e
  · cases e
theorem c_le.of {h h2 : c_Hp} (e : h2 = h) : c_le h h2 := by rw [e]; exact c_le.rf _
set_option maxHeartbeats 4000000 in
theorem c_stp_le (e : c_stp c_ty c_nf X q pc L st h = some r) : c_le h r.2.2.2 := by
  cases hq : q.1
  case putfield i => simp only [c_stp, hq] at e; exact c_putf_le e
  case getfield i => simp only [c_stp, hq] at e; exact .of (c_getf_le e)
  case iaload => simp only [c_stp, hq] at e; exact .of (c_iald_le e)
  case iastore => simp only [c_stp, hq] at e; exact c_iast_le e
  case aaload => simp only [c_stp, hq] at e; exact .of (c_aald_le e)
  case aastore => simp only [c_stp, hq] at e; exact c_aast_le e
  case arraylength => simp only [c_stp, hq] at e; exact .of (c_alen_le e)
  case new i => simp only [c_stp, hq] at e; cases e; exact c_le.app _ _
  case newarray t => simp only [c_stp, hq] at e; exact c_newa_le e
  case multianewarray i d => simp only [c_stp, hq] at e; exact c_mnew_le e
  case checkcast i => simp only [c_stp, hq] at e; exact .of (c_cast_le e)
  case invokespecial i => simp only [c_stp, hq] at e; exact c_call1_le e
  case invokestatic i => simp only [c_stp, hq] at e; exact c_call1_le e
  case invokevirtual i => simp only [c_stp, hq] at e; exact c_call1_le e
  case iload_n n => simp only [c_stp, hq] at e; exact .of (c_iload_le e)
  case iload n => simp only [c_stp, hq] at e; exact .of (c_iload_le e)
  case fload_n n => simp only [c_stp, hq] at e; exact .of (c_fload_le e)
  case fload n => simp only [c_stp, hq] at e; exact .of (c_fload_le e)
  case aload_n n => simp only [c_stp, hq] at e; exact .of (c_aload_le e)
  case aload n => simp only [c_stp, hq] at e; exact .of (c_aload_le e)
  case istore_n n => simp only [c_stp, hq] at e; exact .of (c_istore_le e)
  case istore n => simp only [c_stp, hq] at e; exact .of (c_istore_le e)
  case fstore_n n => simp only [c_stp, hq] at e; exact .of (c_fstore_le e)
  case fstore n => simp only [c_stp, hq] at e; exact .of (c_fstore_le e)
  case astore_n n => simp only [c_stp, hq] at e; exact .of (c_astore_le e)
  case astore n => simp only [c_stp, hq] at e; exact .of (c_astore_le e)
  case fconst n =>
    match n, hq with
    | 0, hq => simp only [c_stp, hq] at e; cases e; exact c_le.rf _
    | 1, hq => simp only [c_stp, hq] at e; cases e; exact c_le.rf _
    | 2, hq => simp only [c_stp, hq] at e; cases e; exact c_le.rf _
  all_goals first
    | (simp only [c_stp, hq] at e; cases e; exact c_le.rf _)
    | (simp only [c_stp, hq] at e; cases e; done)
    | (simp only [c_stp, hq] at e; obtain ⟨x, z, t, rfl, e2⟩ := c_s2_ok e; cases e2; exact c_le.rf _)
    | (simp only [c_stp, hq] at e; obtain ⟨x, t, rfl, e2⟩ := c_s1_ok e; cases e2; exact c_le.rf _)
    | (simp only [c_stp, hq] at e; obtain ⟨x, z, t, rfl, e2⟩ := c_f2_ok e; cases e2; exact c_le.rf _)
    | (simp only [c_stp, hq] at e; obtain ⟨x, t, rfl, e2⟩ := c_f1_ok e; cases e2; exact c_le.rf _)
    | (simp only [c_stp, hq] at e; obtain ⟨x, z, t, rfl, e2⟩ := c_s2_ok e; split at e2 <;> cases e2; exact c_le.rf _)
    | (simp only [c_stp, hq] at e; obtain ⟨x, z, t, rfl, e2⟩ := c_f2_ok e; split at e2 <;> cases e2; exact c_le.rf _)
    | (simp only [c_stp, hq] at e; split at e <;> cases e <;> exact c_le.rf _)
    | (simp only [c_stp, hq] at e; split at e; split at e <;> cases e; exact c_le.rf _; cases e)
end Mono
theorem c_go_le {P : List c_M} {X : List Int32} : ∀ (n k pc : Nat) (L : c_Ls) (st : List Value) (h : c_Hp) (r : c_O × c_Hp), c_go P c_ty c_nf X n k pc L st h = some r → c_le h r.2
  | 0, _, _, _, _, _, _, e => by simp [c_go] at e
  | n + 1, k, pc, L, st, h, r, e => by
    simp only [c_go] at e
    split at e
    · cases e
    · split at e
      · cases e
      · split at e
        · split at e
          · rename_i r1 hr1
            exact (c_stp_le hr1).tr (c_go_le n _ _ _ _ _ _ e)
          · cases e
        · split at e
          · split at e <;> cases e
            exact c_le.rf _
          · cases e
        · split at e <;> cases e
          exact c_le.rf _
        · split at e
          · cases e
          · split at e
            · cases e
            · split at e
              · rename_i v h1 e2
                exact (c_go_le n _ _ _ _ _ _ e2).tr (c_go_le n _ _ _ _ _ _ e)
              · rename_i E h1 e2
                split at e
                · exact (c_go_le n _ _ _ _ _ _ e2).tr (c_go_le n _ _ _ _ _ _ e)
                · split at e <;> cases e
                  exact c_go_le n _ _ _ _ _ _ e2
              · cases e
        · split at e <;> cases e
          exact c_le.app _ _
        · cases e
