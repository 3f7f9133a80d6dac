/-! ### garbage: told runs -/
theorem x_Run.preg {B : c_B} {xs : List Value} {F : List c_F} {M n : Nat} (G : c_Hp) {md : c_M} {m pc : Nat} {L : c_Ls} {st : List Value} {h : c_Hp} {r1 : c_R} {r : c_O × c_Hp} (hF : ∀ f ∈ F, c_hold B f) (hn : n ≤ h.length) (e : c_pre (F, xs) M md m pc L st h = some r1) (k : x_Run B xs md r1.1 (g_L n G.length r1.2.1) (g_st n G.length r1.2.2.1) (g_h n G r1.2.2.2) r) : x_Run B xs md pc (g_L n G.length L) (g_st n G.length st) (g_h n G h) r :=
  x_Run.pre hF (c_pre_g hn e) k
theorem x_Run.fing {B : c_B} {xs : List Value} {F : List c_F} {n M : Nat} (G : c_Hp) {md : c_M} {pc : Nat} {L : c_Ls} {st : List Value} {h h1 : c_Hp} {v : Option Value} (hF : ∀ f ∈ F, c_hold B f) (hn : n ≤ h.length) (e : c_go c_P (F, xs) M md pc L st h = some (.inl v, h1)) : x_Run B xs md pc (g_L n G.length L) (g_st n G.length st) (g_h n G h) (.inl ((v.map (g_v n G.length)).map (s_v B)), s_h B (g_h n G h1)) :=
  x_Run.fin hF (c_go_g M _ _ _ _ _ _ hn e)
def c_T (X : List Int32) (md : c_M) (pc : Nat) (L : c_Ls) (st : List Value) (h : c_Hp) (r : c_O × c_Hp) : Prop := c_Run ([], X.map Value.int) md pc L st h r
theorem c_T.x {a0 a1 a2 a3 a4 a5 : Int32} {x : List Int32} {md : c_M} {pc : Nat} {L L1 : c_Ls} {st st1 : List Value} {h h1 : c_Hp} {r : c_O × c_Hp} (k : c_T [a0, a1, a2, a3, a4, a5] md pc L1 st1 h1 r) (eL : s_L (c_BB [a0, a1, a2, a3, a4, a5] x) L = L1) (es : s_st (c_BB [a0, a1, a2, a3, a4, a5] x) st = st1) (eh : s_h (c_BB [a0, a1, a2, a3, a4, a5] x) h = h1) : x_Run (c_BB [a0, a1, a2, a3, a4, a5] x) x_xs md pc L st h r := by
  subst eL es eh
  exact k
theorem x_Run.t {a0 a1 a2 a3 a4 a5 : Int32} {x : List Int32} {md : c_M} {pc : Nat} {L L1 : c_Ls} {st st1 : List Value} {h h1 : c_Hp} {r r1 : c_O × c_Hp} (k : x_Run (c_BB [a0, a1, a2, a3, a4, a5] x) x_xs md pc L st h r) (eL : s_L (c_BB [a0, a1, a2, a3, a4, a5] x) L = L1) (es : s_st (c_BB [a0, a1, a2, a3, a4, a5] x) st = st1) (eh : s_h (c_BB [a0, a1, a2, a3, a4, a5] x) h = h1) (er : r = r1) : c_T [a0, a1, a2, a3, a4, a5] md pc L1 st1 h1 r1 := by
  subst eL es eh er
  exact k
theorem g_msz (n : Nat) (G h : c_Hp) : c_msz (g_h n G h) = c_msz h + c_msz G := by
  have h1 : ∀ (d : Nat) (l : c_Hp), c_msz (l.map (g_c n d)) = c_msz l := by
    intro d l
    induction l with
    | nil => rfl
    | cons c t ih =>
      unfold c_msz at ih ⊢
      rw [List.map_cons, List.map_cons, List.map_cons, List.sum_cons, List.sum_cons, ih]
      have h2 : c_sz (g_c n d c) = c_sz c := by
        cases c with
        | none => rfl
        | some y => cases y <;> exact List.length_map _
      rw [h2]
  have h3 : ∀ a b : c_Hp, c_msz (a ++ b) = c_msz a + c_msz b := fun a b => by unfold c_msz; rw [List.map_append, List.sum_append]
  have h4 := h3 (h.take n) (h.drop n)
  rw [List.take_append_drop] at h4
  unfold g_h
  rw [h3, h3, h1, h1]
  omega
/-- k copies of a few cells -/
def t_G (c : c_Hp) (k : Nat) : c_Hp := (List.replicate k c).flatten
theorem t_G_s (c : c_Hp) (k : Nat) : t_G c (k + 1) = t_G c k ++ c := by
  unfold t_G
  rw [List.replicate_succ', List.flatten_append]
  simp
theorem t_G_l (c : c_Hp) (k : Nat) : (t_G c k).length = k * c.length := by
  unfold t_G
  rw [List.length_flatten, List.map_replicate, List.sum_replicate_nat]
theorem t_G_m (c : c_Hp) : ∀ k : Nat, c_msz (t_G c k) = k * c_msz c
  | 0 => by rw [Nat.zero_mul]; rfl
  | k + 1 => by
    have h3 : ∀ a b : c_Hp, c_msz (a ++ b) = c_msz a + c_msz b := fun a b => by unfold c_msz; rw [List.map_append, List.sum_append]
    rw [t_G_s, h3, t_G_m c k, Nat.succ_mul]
theorem t_G_b (B : c_B) {c : c_Hp} (hc : s_h B c = c) : ∀ k : Nat, s_h B (t_G c k) = t_G c k
  | 0 => rfl
  | k + 1 => by
    have h1 : ∀ a b : c_Hp, s_h B (a ++ b) = s_h B a ++ s_h B b := fun a b => List.map_append
    rw [t_G_s, h1, t_G_b B hc k, hc]
theorem g_h_s {lo t : c_Hp} {n : Nat} (hn : lo.length = n) (G : c_Hp) : g_h n G (lo ++ t) = lo.map (g_c n G.length) ++ (G ++ t.map (g_c n G.length)) := by
  unfold g_h
  rw [List.take_left' hn, List.drop_left' hn]
theorem o_toInt {k : Nat} (h : k < 2 ^ 31) : (Int32.ofNat k).toInt = (k : Int) := by
  have h5 := nI_toInt h
  unfold nI at h5
  exact h5
theorem o_ge {B : c_B} {x y : Value} {i s : Nat} (hx : c_iv B x = some (Int32.ofNat i)) (hy : c_iv B y = some (Int32.ofNat s)) (h1 : i < 2 ^ 31) (h2 : s < 2 ^ 31) (h : i < s) : c_hold B (23, x, y, .int 0) :=
  f_cmp (cd := .ge) (t := false) hx hy ((k_ge (o_toInt h1) (o_toInt h2)).trans (decide_eq_false (by omega)))
theorem o_ge1 {B : c_B} {x y : Value} {i s : Nat} (hx : c_iv B x = some (Int32.ofNat i)) (hy : c_iv B y = some (Int32.ofNat s)) (h1 : i < 2 ^ 31) (h2 : s < 2 ^ 31) (h : s ≤ i) : c_hold B (23, x, y, .int 1) :=
  f_cmp (cd := .ge) (t := true) hx hy ((k_ge (o_toInt h1) (o_toInt h2)).trans (decide_eq_true (by omega)))
theorem o_inc {B : c_B} {x y : Value} {i : Nat} (hx : c_iv B x = some (Int32.ofNat i)) (hy : c_iv B y = some (Int32.ofNat (i + 1))) : c_hold B (0, x, .int 1, y) := by
  refine ⟨Int32.ofNat i, 1, Int32.ofNat (i + 1), hx, rfl, ?_, hy⟩
  show some (Int32.ofNat i + 1) = _
  rw [Int32.ofNat_add]
  rfl
/-! ### a callee that throws -/
noncomputable def c_catS (md : c_M) (pc X : Nat) (L : c_Ls) : Option (Nat × c_Ls) := match c_cat pc X (c_mx md) with
  | some w => some (((c_mh md).getD w.1 (0, 0, 0, 0)).2.2.1 + w.2.2, c_upd (c_clr L w.2.1) w.2.1 none)
  | none => none
noncomputable def c_eqS (x : Option (Nat × c_Ls)) (k : Nat) (L : c_Ls) : Bool := match x with
  | some r => Nat.beq r.1 k && decide (r.2 = L)
  | none => false
theorem c_eqS_ok {x : Option (Nat × c_Ls)} {k : Nat} {L : c_Ls} (e : c_eqS x k L = true) : x = some (k, L) := by
  unfold c_eqS at e
  split at e
  · rename_i r
    obtain ⟨a, b⟩ := r
    rw [Bool.and_eq_true] at e
    have h1 := Nat.eq_of_beq_eq_true e.1
    have h2 := of_decide_eq_true e.2
    simp only at h1 h2
    rw [h1, h2]
  · cases e
noncomputable def c_eqX (x : Option (c_O × c_Hp)) (v : Nat) (h : c_Hp) : Bool := match x with
  | some (.inr w, h1) => Nat.beq w v && decide (h1 = h)
  | _ => false
theorem c_eqX_ok {x : Option (c_O × c_Hp)} {v : Nat} {h : c_Hp} (e : c_eqX x v h = true) : x = some (.inr v, h) := by
  unfold c_eqX at e
  split at e
  · rename_i w h1
    rw [Bool.and_eq_true] at e
    rw [Nat.eq_of_beq_eq_true e.1, of_decide_eq_true e.2]
  · cases e
theorem c_Run.callx {E : c_E} {md mz : c_M} {pc k X : Nat} {L L2 : c_Ls} {st rest : List Value} {h h1 : c_Hp} {w : Nat × c_Ls} {r : c_O × c_Hp} (hc : c_callee md pc st h = some (k, L2, rest)) (hm : c_pm c_P k = some mz) (g : c_Run E mz 0 L2 [] h (.inr X, h1)) (hw : c_catS md pc X L = some w) (kk : c_Run E md w.1 w.2 [] h1 r) : c_Run E md pc L st h r := by
  obtain ⟨n, hn⟩ := g
  refine c_Run.one (F := n) (r1 := (w.1, w.2, [], h1)) ?_ kk
  unfold c_callee at hc
  unfold c_one1
  split at hc
  · rename_i q hq
    rw [hq]
    simp only
    split at hc
    · rename_i hk
      rw [hk]
      simp only
      split at hc
      · rename_i mz2 hmz
        split at hc
        · rename_i ar har
          cases hc
          rw [hmz] at hm
          cases hm
          rw [hmz]
          simp only
          rw [har]
          simp only
          rw [hn]
          unfold c_bak
          simp only
          unfold c_catS at hw
          split at hw
          · rename_i w9 hw9
            cases hw
            rw [hw9]
          · cases hw
        · cases hc
      · cases hc
    · cases hc
  · cases hc
theorem c_catS_s {B : c_B} {md : c_M} {pc X : Nat} {L : c_Ls} {w : Nat × c_Ls} (e : c_catS md pc X L = some w) : c_catS md pc X (s_L B L) = some (w.1, s_L B w.2) := by
  unfold c_catS at e ⊢
  split at e
  · cases e
    rw [s_clr]
    exact congrArg (fun x => some (_, x)) (s_updL (o := none))
  · cases e
theorem x_Run.callx {B : c_B} {xs : List Value} {md mz : c_M} {pc k X : Nat} {L L2 : c_Ls} {st rest : List Value} {h h1 : c_Hp} {w : Nat × c_Ls} {r : c_O × c_Hp} (hc : c_callee md pc st h = some (k, L2, rest)) (hm : c_pm c_P k = some mz) (g : x_Run B xs mz 0 L2 [] h (.inr X, s_h B h1)) (hw : c_catS md pc X L = some w) (kk : x_Run B xs md w.1 w.2 [] h1 r) : x_Run B xs md pc L st h r :=
  c_Run.callx (c_callee_s hc) hm g (c_catS_s hw) kk
theorem x_Run.finx {B : c_B} {xs : List Value} {F : List c_F} {n : Nat} {md : c_M} {pc X : Nat} {L : c_Ls} {st : List Value} {h h1 : c_Hp} (hF : ∀ f ∈ F, c_hold B f) (e : c_go c_P (F, xs) n md pc L st h = some (.inr X, h1)) : x_Run B xs md pc L st h (.inr X, s_h B h1) :=
  ⟨n, c_go_s9 (F := []) (E := (F, xs)) hF n _ _ _ _ _ _ e⟩
