/-! THE CLAIM OUT OF ONE WALK OF THE LAW'S BODY. Your part is whole_start (and what it stands on); all else here is the same for every law, but numbers. -/
def R_law : String := "BoxballHallLaw"
def lw_P (b : Addr) (xs : List Int32) (args : Array Value) (s : State) : Prop := args = #[.ref b] ∧ s.IntsAt b xs ∧ xs.length ≤ 260 ∧ (Jvm.Cond.and given_1 narrow_1).before args s = true
/-- what a walk over the start with the record d0 says of its end, said of the start itself -/
theorem lw_closed {s t : State} {o : Outcome} {d0 : Drawn} {L : List Loc} {k n : Nat} (hd0 : s.drawn.sameBut d0 lw_cs) (hv : ∃ v, o = .returned v) (hW : (s.setDrawn d0).WarmedH t.vm) (hs : (s.setDrawn d0).sameButNew ({ t with vm := s.vm } : State) L k n) : State.butDraws s t lw_cs (fun t1 => Framed s o t1 L k n) := by
  have h2 : t.drawn = d0 := congrArg State.drawn hs.1
  refine ⟨⟨hv, hW, State.sameButNew.setDrawn hs s.drawn⟩, ?_, by decide⟩
  rw [h2]
  exact hd0
def lw_Q (_ : Array Value) (s : State) (o : Outcome) (t : State) : Prop := o = .returned (some (.int 1)) ∧ State.butDraws s t lw_cs (fun t1 => Framed s o t1 [] 600258 7292778)
def lw_Z (below : List Frame) (a : Array Value) (s : State) : State → Prop := fun t => ∃ o, t.status = .running ∧ Ended t below o ∧ lw_Q a s o t
/-- the law's own end, with 1 on the stack, nothing written that was there before, its room as the claim has it; d0: the record of draws at this point (at the entry s.drawn: begin with 'refine W.base ?_' and 'have hd0 := Drawn.sameBut.refl s.drawn lw_cs') -/
theorem lw_ret {p : Program} {l : Launch} {e : Env} {s : State} {m : MethodId} {below : List Frame} {meth : Method} {c : Code} {b : Nat} {d0 : Drawn} (hd0 : s.drawn.sameBut d0 lw_cs) (hx : p.tables.exec = Jvm.exec) (hb : c.code = code) (hr : meth.sig.returnType = ret) (hlocks : meth.locks = false) {pc : Nat} {H : Heap} {ls : Array Slot} (hdg : decode code pc = .ok (.ireturn, 1)) : W p l e room_1 (s.setDrawn d0) m #[Value.ref b] below meth c H [] 600258 7292778 (lw_Z below #[Value.ref b] s) (F0 m pc ls [.int 1]) := by
  intro T hT X
  obtain ⟨fs, hret, hrun, hended, hW, hframe⟩ := X.leave (v := some (.int 1)) (hlocks := hlocks) (fun h => by rw [hr] at h; cases h)
  have hmeth' : T.vm.method? m = some meth := X.method'
  refine ⟨T.setFrames fs, ?_, .returned (some (.int 1)), hrun, hended, rfl, lw_closed hd0 ⟨_, rfl⟩ hW hframe⟩
  jvm_step X.here [X.here.top, hx, hb, hdg, hmeth', hr, ret, narrow_b1]
  (try refine ⟨rfl, ?_⟩); (try refine ⟨rfl, ?_⟩)
  first | (intro acts; rw [hret _ acts rfl rfl rfl]) | rw [hret _ _ rfl rfl rfl]
  exact Steps.refl _
/-- what holds at the law's entry: the machine, the code, the tables' words (any of lw_tbl by 'hts w (by decide +kernel)'), the script of L ints xs at the cell b, what the Statement gives of the start (any of its parts by flat_of_before) -/
def lw_At (p : Program) (s : State) (m : MethodId) (meth : Method) (c : Code) (b L : Nat) (xs : Nat → Int32) : Prop :=
  p.tables.exec = Jvm.exec ∧ c.code = code ∧ meth.sig.returnType = ret ∧ c.maxLocals = 23 ∧ s.vm.findClass R_law = some m.cls ∧ (∀ w ∈ lw_tbl, w.before #[Value.ref b] s = true) ∧ va_X b L xs s s.heap ∧ b < s.heap.size ∧ meth.locks = false ∧ (Jvm.Cond.and given_1 narrow_1).before #[Value.ref b] s = true

/-- what is to be shown of the small machine: on every script the law comes to 1, within the room -/
def c_Pure : Prop := ∀ X : List Int32, X.length ≤ 260 → ∃ (n : Nat) (h : c_Hp), c_go c_P c_ty c_nf X n 83 0 (c_ent [.retAddr 0] 23) [] [] = some (.inl (some (.int 1)), h) ∧ h.length ≤ 600258 ∧ c_msz h ≤ 7292778
set_option maxRecDepth 100000 in
theorem c_inst : ∀ (k : Nat) (q : vw_C), c_cl[k]? = some q → Cond.instantiable q.1 q.2.2 ∈ lw_tbl
  | 0, q, h => by cases h; decide +kernel
  | 1, q, h => by cases h; decide +kernel
  | 2, q, h => by cases h; decide +kernel
  | 3, q, h => by cases h; decide +kernel
  | 4, q, h => by cases h; decide +kernel
  | 5, q, h => by cases h; decide +kernel
  | 6, q, h => by cases h; decide +kernel
  | 7, q, h => by cases h; decide +kernel
  | 8, q, h => by cases h; decide +kernel
  | 9, q, h => by cases h; decide +kernel
  | 10, q, h => by cases h; decide +kernel
  | k + 11, q, h => by simp [c_cl] at h
theorem c_arr {s : State} {c : ClassId} {k : Class} {comp : ClassId} {ty : FieldType} (hk : s.vm.classes[c]? = some k) (hd : k.kind = .array comp ty) : ArrOfT s c ty := by
  intro n z
  simp [State.isArrayOf, arrV, hk, hd]
set_option maxRecDepth 100000 in
theorem c_strs : lw_tbl.all (fun w => match w with
  | .stringRef o i _ => decide ((Cond.exactly (.string o i) "java/lang/String") ∈ flatC (Jvm.Cond.and given_1 narrow_1))
  | _ => true) = true := by decide +kernel
set_option maxRecDepth 100000 in
theorem c_ncs : c_NC.all (fun q => decide ((Cond.not (.castable q.1 q.2)) ∈ flatC (Jvm.Cond.and given_1 narrow_1))) = true := by decide +kernel
set_option maxRecDepth 100000 in
theorem c_at_i : Cond.arrayClass .int ∈ lw_tbl := by decide +kernel
set_option maxRecDepth 100000 in
theorem c_at_l : Cond.arrayClass .long ∈ lw_tbl := by decide +kernel
set_option maxRecDepth 100000 in
theorem c_at_ii : Cond.arrayOver (.array .int) ∈ lw_tbl := by decide +kernel
set_option maxRecDepth 100000 in
theorem c_st_w : Cond.laysStatic Bundle.tN "UNASSIGNED_STACK" Bundle.steD ∈ lw_tbl ∧ Cond.laysStatic Bundle.tN "SUPPRESSED_SENTINEL" Bundle.listD ∈ lw_tbl ∧ Cond.initialized Bundle.tN ∈ lw_tbl := by decide +kernel
set_option maxRecDepth 100000 in
theorem c_st_r : Cond.isRef (.static Bundle.tN "UNASSIGNED_STACK" Bundle.steD) ∈ flatC (Jvm.Cond.and given_1 narrow_1) ∧ Cond.isRef (.static Bundle.tN "SUPPRESSED_SENTINEL" Bundle.listD) ∈ flatC (Jvm.Cond.and given_1 narrow_1) := by decide +kernel
/-- what is so at the law's entry -/
theorem c_fac0 {s : State} {b : Nat} (hts : ∀ w ∈ lw_tbl, w.before #[Value.ref b] s = true) (hgv : (Jvm.Cond.and given_1 narrow_1).before #[Value.ref b] s = true) : ∃ (D : va_G) (A : Nat → ClassId), c_Fac D A s := by
  have hs := flat_of_before _ hgv
  have h0 : ∀ k : Nat, ∃ q : ClassId × (Nat → Nat), ∀ r : vw_C, c_cl[k]? = some r → u_Kn s r.1 r.2.1 r.2.2 q.1 q.2 := by
    intro k
    cases hk : c_cl[k]? with
    | none => exact ⟨(0, fun _ => 0), fun r h => by cases h⟩
    | some r =>
      obtain ⟨cC, iS, h⟩ := u_known (C := r.1) (T := r.2.1) (N := r.2.2) (n := r.2.2) hts (c_cl_ok k r hk).1 (hts _ (c_inst k r hk))
      exact ⟨(cC, iS), fun r2 h2 => by cases h2; exact h⟩
  obtain ⟨d, hd⟩ := Classical.axiomOfChoice h0
  obtain ⟨ci, ki, coi, fi, gi, di⟩ := Cond.arrayClass_spec (first := s) (o := none) (idx := []) (hts _ c_at_i)
  obtain ⟨cl, kl, col, fl, gl, dl⟩ := Cond.arrayClass_spec (first := s) (o := none) (idx := []) (hts _ c_at_l)
  obtain ⟨comp, c2, k2, f1, g2, d2, f2⟩ := Cond.arrayOver_specA (first := s) (o := none) (idx := []) (hts _ c_at_ii)
  refine ⟨(fun k => (d k).1, fun k => (d k).2), fun t => if t = 0 then ci else if t = 1 then cl else c2, ⟨fun k q h => hd k q h, fun k q h => by simp at h⟩, ?_, ?_, ?_, ?_, ?_⟩
  · intro t ht
    rcases (show t = 0 ∨ t = 1 ∨ t = 2 by omega) with rfl | rfl | rfl
    · exact ⟨c_arr gi di, fi⟩
    · exact ⟨c_arr gl dl, fl⟩
    · exact ⟨c_arr g2 d2, f2⟩
  · intro w hw hn
    exact va_Nw.of (c_ng_on hn) (hts w hw)
  · intro own k tx hk
    have h1 := List.all_eq_true.mp c_strs _ hk
    simp only [decide_eq_true_eq] at h1
    obtain ⟨a, c, cA, kA, q1, -⟩ := Cond.exactly_spec (args := #[Value.ref b]) (first := s) (o := none) (s := s) (idx := []) (t := .string own k) (cls := "java/lang/String") (hs _ h1)
    exact ⟨a, vk_R.of (hts _ hk) q1⟩
  · intro q hq
    have h1 := List.all_eq_true.mp c_ncs q hq
    simp only [decide_eq_true_eq] at h1
    exact va_Nc.of (hs _ h1)
  · have h1 := hts _ c_at_ii
    simp only [Cond.before, Cond.holds, Cond.value] at h1 ⊢
    exact h1
set_option maxHeartbeats 1000000 in
theorem c_start (hpure : c_Pure) {p : Program} {e : Env} {s : State} {m : MethodId} {below : List Frame} {meth : Method} {c : Code} (l : Launch) (hflags : l.flags = flags0) {b L : Nat} {xs : Nat → Int32} (hL : L ≤ 260) (C0 : lw_At p s m meth c b L xs) : W p l e room_1 s m #[Value.ref b] below meth c s.heap [] 0 0 (lw_Z below #[Value.ref b] s) (entryFrame m ([Value.ref b] : List Value).toArray 23) := by
  obtain ⟨hx, hb, hr, hml, hown, hts, hX, hbl, hlocks, hgv⟩ := id C0
  have hs := flat_of_before _ hgv
  have hl : l.stackTraces = false := by unfold Launch.stackTraces; rw [hflags]; decide +kernel
  obtain ⟨X, hXl, hXg⟩ : ∃ X : List Int32, X.length = L ∧ ∀ j, j < L → X.getD j 0 = xs j := ⟨(List.range L).map xs, by simp, fun j hj => by simp [List.getD, hj]⟩
  obtain ⟨n, h, hgo, hb1, hb2⟩ := hpure X (by omega)
  obtain ⟨D, A, hF⟩ := c_fac0 hts hgv
  have hA : ∀ a : Nat, a < s.heap.size → ¬ s.heap.size ≤ a := fun a ha => Nat.not_le.mpr ha
  have hU := vx_Zqof (A := fun q => s.heap.size ≤ q) (hts _ c_st_w.1) (hts _ c_st_w.2.2) (hs _ c_st_r.1) hA
  have hN := vx_Zqof (A := fun q => s.heap.size ≤ q) (hts _ c_st_w.2.1) (hts _ c_st_w.2.2) (hs _ c_st_r.2) hA
  have hX2 : va_X b X.length (fun j => X.getD j 0) s s.heap := by
    obtain ⟨scr, x1, x2, x3, x4, x5⟩ := hX
    exact ⟨scr, x1, x2, x3, by rw [x4, hXl], fun j hj => by rw [x5 j (by omega)]; show _ = some (Value.int (X.getD j 0)); rw [hXg j (by omega)]⟩
  have hent : (c_ent [Value.retAddr 0] 23).length = 23 := by decide +kernel
  have hLR := c_ent_LR (base := s.heap.size) (b := b) hent
  rw [lg_entry_eq]
  have hd0 := Drawn.sameBut.refl s.drawn lw_cs
  refine W.base ?_
  have K := c_sim (D := D) (A := A) (H0 := s.heap) (base := s.heap.size) (b := b) (X := X) hl c_okAll n 83 c_m83 0 (c_ent [.retAddr 0] 23) [] [] _ rfl hgo p e room_1 s m #[Value.ref b] below meth c (lw_Z below #[Value.ref b] s) 0 0
    ⟨hx, hb, hml, hown, fun w hw _ => hts w hw, hF, hlocks, fun h => absurd h (by decide), by decide, by decide, hl, ⟨hX2, hbl⟩, hU, hN⟩ (Or.inl rfl)
    (by
      intro v hv pc H locs cells slots ls hcase hHR hlo hc hsl
      cases hv
      refine W.widen (k := 600258) (n := 7292778) (by simp only at hc; omega) (by simp only at hsl; omega) ?_
      refine va_forget hlo ?_
      rcases hcase with ⟨x, t, -, hdg, -⟩ | ⟨h9, -⟩
      · exact lw_ret hd0 hx hb hr hlocks hdg
      · cases h9)
    (by intro E h9 he; cases he)
    (by intro E he; cases he)
    (by show h.length ≤ 0 + 600258; omega) (by show c_msz h ≤ 0 + 7292778; omega)
  exact K s.heap [] 0 0 _ ⟨rfl, rfl, fun _ _ => rfl, fun i x h => by simp at h⟩ hLR (fun z hz => by cases hz) rfl rfl
