/-! ### runs in stages, frames within frames; numbers told -/
noncomputable def c_callee (md : c_M) (pc : Nat) (st : List Value) (h : c_Hp) : Option (Nat × c_Ls × List Value) := match c_at pc (c_mi md) with
  | some q => match c_kd q with
    | 4 => match c_pm c_P q.2.1 with
      | some mz => match c_prt mz q st h with
        | some ar => some (q.2.1, c_ent ar.1 (c_mL mz), ar.2)
        | none => none
      | none => none
    | _ => none
  | none => none
noncomputable def c_eqC (x : Option (Nat × c_Ls × List Value)) (k : Nat) (L : c_Ls) (st : List Value) : Bool := match x with
  | some r => Nat.beq r.1 k && (decide (r.2.1 = L) && decide (r.2.2 = st))
  | none => false
theorem c_eqC_ok {x : Option (Nat × c_Ls × List Value)} {k : Nat} {L : c_Ls} {st : List Value} (e : c_eqC x k L st = true) : x = some (k, L, st) := by
  unfold c_eqC at e
  split at e
  · rename_i r
    obtain ⟨a, b, c⟩ := r
    rw [Bool.and_eq_true, Bool.and_eq_true] at e
    have h1 := Nat.eq_of_beq_eq_true e.1
    have h2 := of_decide_eq_true e.2.1
    have h3 := of_decide_eq_true e.2.2
    simp only at h1 h2 h3
    rw [h1, h2, h3]
  · cases e
/-- a frame's end, as it should be -/
noncomputable def c_eqO (x : Option (c_O × c_Hp)) (v : Option Value) (h : c_Hp) : Bool := match x with
  | some (.inl w, h1) => decide (w = v) && decide (h1 = h)
  | _ => false
theorem c_eqO_ok {x : Option (c_O × c_Hp)} {v : Option Value} {h : c_Hp} (e : c_eqO x v h = true) : x = some (.inl v, h) := by
  unfold c_eqO at e
  split at e
  · rename_i w h1
    rw [Bool.and_eq_true] at e
    rw [of_decide_eq_true e.1, of_decide_eq_true e.2]
  · cases e
theorem c_Run.call {E : c_E} {md mz : c_M} {pc k : Nat} {L L2 : c_Ls} {st rest : List Value} {h h1 : c_Hp} {v : Option Value} {r : c_O × c_Hp} (hc : c_callee md pc st h = some (k, L2, rest)) (hm : c_pm c_P k = some mz) (g : c_Run E mz 0 L2 [] h (.inl v, h1)) (kk : c_Run E md (pc + 3) L (v.toList ++ rest) h1 r) : c_Run E md pc L st h r := by
  obtain ⟨n, hn⟩ := g
  refine c_Run.one (F := n) (r1 := (pc + 3, L, v.toList ++ rest, h1)) ?_ kk
  unfold c_callee at hc
  unfold c_one1
  split at hc
  · rename_i q hq
    rw [hq]
    simp only
    split at hc
    · rename_i hk
      rw [hk]
      simp only
      split at hc
      · rename_i mz2 hmz
        split at hc
        · rename_i ar har
          cases hc
          rw [hmz] at hm
          cases hm
          rw [hmz]
          simp only
          rw [har]
          simp only
          rw [hn]
          rfl
        · cases hc
      · cases hc
    · cases hc
  · cases hc
theorem c_callee_s {B : c_B} {md : c_M} {pc k : Nat} {L2 : c_Ls} {st rest : List Value} {h : c_Hp} (e : c_callee md pc st h = some (k, L2, rest)) : c_callee md pc (s_st B st) (s_h B h) = some (k, s_L B L2, s_st B rest) := by
  unfold c_callee at e ⊢
  split at e
  · split at e
    · split at e
      · split at e
        · rename_i ar har
          cases e
          rw [s_prt har]
          simp only
          rw [s_ent]
        · cases e
      · cases e
    · cases e
  · cases e
/-- a run with its numbers told -/
def x_Run (B : c_B) (xs : List Value) (md : c_M) (pc : Nat) (L : c_Ls) (st : List Value) (h : c_Hp) (r : c_O × c_Hp) : Prop := c_Run (s_E B [] ([], xs)) md pc (s_L B L) (s_st B st) (s_h B h) r
theorem x_Run.pre {B : c_B} {xs : List Value} {F : List c_F} {M : Nat} {md : c_M} {m pc : Nat} {L : c_Ls} {st : List Value} {h : c_Hp} {r1 : c_R} {r : c_O × c_Hp} (hF : ∀ f ∈ F, c_hold B f) (e : c_pre (F, xs) M md m pc L st h = some r1) (k : x_Run B xs md r1.1 r1.2.1 r1.2.2.1 r1.2.2.2 r) : x_Run B xs md pc L st h r :=
  c_Run.pre (c_pre_s (F := []) (E := (F, xs)) hF e) k
theorem x_Run.fin {B : c_B} {xs : List Value} {F : List c_F} {n : Nat} {md : c_M} {pc : Nat} {L : c_Ls} {st : List Value} {h h1 : c_Hp} {v : Option Value} (hF : ∀ f ∈ F, c_hold B f) (e : c_go c_P (F, xs) n md pc L st h = some (.inl v, h1)) : x_Run B xs md pc L st h (.inl (v.map (s_v B)), s_h B h1) :=
  ⟨n, c_go_s9 (F := []) (E := (F, xs)) hF n _ _ _ _ _ _ e⟩
theorem x_Run.call {B : c_B} {xs : List Value} {md mz : c_M} {pc k : Nat} {L L2 : c_Ls} {st rest : List Value} {h h1 : c_Hp} {v : Option Value} {r : c_O × c_Hp} (hc : c_callee md pc st h = some (k, L2, rest)) (hm : c_pm c_P k = some mz) (g : x_Run B xs mz 0 L2 [] h (.inl (v.map (s_v B)), s_h B h1)) (kk : x_Run B xs md (pc + 3) L (v.toList ++ rest) h1 r) : x_Run B xs md pc L st h r := by
  refine c_Run.call (c_callee_s hc) hm g ?_
  rw [← s_tl]
  exact kk
def x_xs : List Value := [.retAddr 10, .retAddr 11, .retAddr 12, .retAddr 13, .retAddr 14, .retAddr 15]
theorem x_goal {a0 a1 a2 a3 a4 a5 : Int32} {x : List Int32} {h : c_Hp} (k : x_Run (c_BB [a0, a1, a2, a3, a4, a5] x) x_xs c_m259 38 t_L0 [] t_h0 (.inl (some (.int 1)), h)) (h1 : h.length ≤ 927443) (h2 : c_msz h ≤ 6319727) : c_Goal [a0, a1, a2, a3, a4, a5] := by
  have e1 : s_L (c_BB [a0, a1, a2, a3, a4, a5] x) t_L0 = t_L0 := rfl
  have e2 : s_h (c_BB [a0, a1, a2, a3, a4, a5] x) t_h0 = t_h0 := rfl
  have e3 : s_E (c_BB [a0, a1, a2, a3, a4, a5] x) [] ([], x_xs) = ([], [.int a0, .int a1, .int a2, .int a3, .int a4, .int a5]) := rfl
  unfold x_Run at k
  rw [e1, e2, e3] at k
  exact ⟨fun _ => 0, _, h, ⟨rfl, (c_xs (B := (fun _ => 0, fun _ => 0)) rfl rfl rfl rfl rfl rfl).2, fun f hf => by cases hf⟩, k, h1, h2⟩
theorem s_h_len {B : c_B} {h : c_Hp} : (s_h B h).length = h.length := s_lenH
theorem s_msz (B : c_B) : ∀ h : c_Hp, c_msz (s_h B h) = c_msz h
  | [] => rfl
  | c :: t => by
    have ih := s_msz B t
    unfold c_msz s_h at ih ⊢
    rw [List.map_cons, List.map_cons, List.map_cons, List.sum_cons, List.sum_cons, ih]
    have h1 : c_sz (s_c B c) = c_sz c := by
      cases c with
      | none => rfl
      | some y => cases y <;> exact List.length_map _
    rw [h1]
