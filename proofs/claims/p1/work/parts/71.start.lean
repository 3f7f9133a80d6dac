/-! THE CLAIM OUT OF ONE WALK OF THE LAW'S BODY. Your part is whole_start (and what it stands on); all else here is the same for every law, but numbers. -/
def R_law : String := "BoxballHallLaw"
def lw_P (b : Addr) (xs : List Int32) (args : Array Value) (s : State) : Prop := args = #[.ref b] ∧ s.IntsAt b xs ∧ xs.length ≤ 6 ∧ (Jvm.Cond.and given_1 narrow_1).before args s = true
/-- what a walk over the start with the record d0 says of its end, said of the start itself -/
theorem lw_closed {s t : State} {o : Outcome} {d0 : Drawn} {L : List Loc} {k n : Nat} (hd0 : s.drawn.sameBut d0 lw_cs) (hv : ∃ v, o = .returned v) (hW : (s.setDrawn d0).WarmedH t.vm) (hs : (s.setDrawn d0).sameButNew ({ t with vm := s.vm } : State) L k n) : State.butDraws s t lw_cs (fun t1 => Framed s o t1 L k n) := by
  have h2 : t.drawn = d0 := congrArg State.drawn hs.1
  refine ⟨⟨hv, hW, State.sameButNew.setDrawn hs s.drawn⟩, ?_, by decide⟩
  rw [h2]
  exact hd0
def lw_Q (_ : Array Value) (s : State) (o : Outcome) (t : State) : Prop := o = .returned (some (.int 1)) ∧ State.butDraws s t lw_cs (fun t1 => Framed s o t1 [] 927443 6319727)
def lw_Z (below : List Frame) (a : Array Value) (s : State) : State → Prop := fun t => ∃ o, t.status = .running ∧ Ended t below o ∧ lw_Q a s o t
/-- the law's own end, with 1 on the stack, nothing written that was there before, its room as the claim has it; d0: the record of draws at this point (at the entry s.drawn: begin with 'refine W.base ?_' and 'have hd0 := Drawn.sameBut.refl s.drawn lw_cs') -/
theorem lw_ret {p : Program} {l : Launch} {e : Env} {s : State} {m : MethodId} {below : List Frame} {meth : Method} {c : Code} {b : Nat} {d0 : Drawn} (hd0 : s.drawn.sameBut d0 lw_cs) (hx : p.tables.exec = Jvm.exec) (hb : c.code = code) (hr : meth.sig.returnType = ret) (hlocks : meth.locks = false) {pc : Nat} {H : Heap} {ls : Array Slot} (hdg : decode code pc = .ok (.ireturn, 1)) : W p l e room_1 (s.setDrawn d0) m #[Value.ref b] below meth c H [] 927443 6319727 (lw_Z below #[Value.ref b] s) (F0 m pc ls [.int 1]) := by
  intro T hT X
  obtain ⟨fs, hret, hrun, hended, hW, hframe⟩ := X.leave (v := some (.int 1)) (hlocks := hlocks) (fun h => by rw [hr] at h; cases h)
  have hmeth' : T.vm.method? m = some meth := X.method'
  refine ⟨T.setFrames fs, ?_, .returned (some (.int 1)), hrun, hended, rfl, lw_closed hd0 ⟨_, rfl⟩ hW hframe⟩
  jvm_step X.here [X.here.top, hx, hb, hdg, hmeth', hr, ret, narrow_b1]
  (try refine ⟨rfl, ?_⟩); (try refine ⟨rfl, ?_⟩)
  first | (intro acts; rw [hret _ acts rfl rfl rfl]) | rw [hret _ _ rfl rfl rfl]
  exact Steps.refl _
/-- what holds at the law's entry: the machine, the code, the tables' words (any of lw_tbl by 'hts w (by decide +kernel)'), the script of L ints xs at the cell b, what the Statement gives of the start (any of its parts by flat_of_before) -/
def lw_At (p : Program) (s : State) (m : MethodId) (meth : Method) (c : Code) (b L : Nat) (xs : Nat → Int32) : Prop :=
  p.tables.exec = Jvm.exec ∧ c.code = code ∧ meth.sig.returnType = ret ∧ c.maxLocals = 9 ∧ s.vm.findClass R_law = some m.cls ∧ (∀ w ∈ lw_tbl, w.before #[Value.ref b] s = true) ∧ va_X b L xs s s.heap ∧ b < s.heap.size ∧ meth.locks = false ∧ (Jvm.Cond.and given_1 narrow_1).before #[Value.ref b] s = true
theorem c_iv_B (f g : Nat → Nat) (S : Nat → Int32) (v : Value) : c_iv (f, S) v = c_iv (g, S) v := by cases v <;> rfl
theorem c_hE_B {f g : Nat → Nat} {S : Nat → Int32} {X : List Int32} {E : c_E} (h : c_hE (f, S) X E) : c_hE (g, S) X E := by
  obtain ⟨h1, h2, h3⟩ := h
  refine ⟨h1, fun j x hx => by rw [← c_iv_B f g]; exact h2 j x hx, fun q hq => ?_⟩
  obtain ⟨a, b, z, g1, g2, g3, g4⟩ := h3 q hq
  exact ⟨a, b, z, by rw [← c_iv_B f g]; exact g1, by rw [← c_iv_B f g]; exact g2, g3, by rw [← c_iv_B f g]; exact g4⟩
/-- what is to be shown of the small machine: on every script the law comes to 1, within the room -/
def c_Pure : Prop := ∀ X : List Int32, X.length ≤ 6 → ∃ (S : Nat → Int32) (E : c_E) (n : Nat) (h : c_Hp), c_hE (fun _ => 0, S) X E ∧ c_go c_P E n c_m259 0 (c_ent [.retAddr 0] 9) [] [] = some (.inl (some (.int 1)), h) ∧ h.length ≤ 927443 ∧ c_msz h ≤ 6319727
set_option maxRecDepth 100000 in
theorem c_inst : ∀ (k : Nat) (q : vw_C), c_cl[k]? = some q → Cond.instantiable q.1 q.2.2 ∈ lw_tbl
  | 0, q, h => by cases h; decide +kernel
  | 1, q, h => by cases h; decide +kernel
  | 2, q, h => by cases h; decide +kernel
  | 3, q, h => by cases h; decide +kernel
  | 4, q, h => by cases h; decide +kernel
  | 5, q, h => by cases h; decide +kernel
  | 6, q, h => by cases h; decide +kernel
  | 7, q, h => by cases h; decide +kernel
  | 8, q, h => by cases h; decide +kernel
  | 9, q, h => by cases h; decide +kernel
  | 10, q, h => by cases h; decide +kernel
  | 11, q, h => by cases h; decide +kernel
  | 12, q, h => by cases h; decide +kernel
  | k + 13, q, h => by simp [c_cl] at h
theorem c_arr {s : State} {c : ClassId} {k : Class} {comp : ClassId} {ty : FieldType} (hk : s.vm.classes[c]? = some k) (hd : k.kind = .array comp ty) : ArrOfT s c ty := by
  intro n z
  simp [State.isArrayOf, arrV, hk, hd]
set_option maxRecDepth 100000 in
theorem c_strs : lw_tbl.all (fun w => match w with
  | .stringRef o i _ => decide ((Cond.exactly (.string o i) "java/lang/String") ∈ flatC (Jvm.Cond.and given_1 narrow_1))
  | _ => true) = true := by decide +kernel
set_option maxRecDepth 100000 in
theorem c_ncs : c_NC.all (fun q => decide ((Cond.not (.castable q.1 q.2)) ∈ flatC (Jvm.Cond.and given_1 narrow_1))) = true := by decide +kernel
set_option maxRecDepth 100000 in
theorem c_at_i : Cond.arrayClass .int ∈ lw_tbl ∧ Cond.arrayClass .long ∈ lw_tbl ∧ Cond.arrayClass .boolean ∈ lw_tbl ∧ Cond.arrayClass .double ∈ lw_tbl := by decide +kernel
set_option maxRecDepth 100000 in
theorem c_at_ii : Cond.arrayOver (.array .int) ∈ lw_tbl ∧ Cond.arrayOver (.object "java/lang/Object") ∈ lw_tbl := by decide +kernel
set_option maxRecDepth 100000 in
theorem c_st_w : Cond.laysStatic Bundle.tN "UNASSIGNED_STACK" Bundle.steD ∈ lw_tbl ∧ Cond.laysStatic Bundle.tN "SUPPRESSED_SENTINEL" Bundle.listD ∈ lw_tbl ∧ Cond.initialized Bundle.tN ∈ lw_tbl := by decide +kernel
set_option maxRecDepth 100000 in
theorem c_st_r : Cond.isRef (.static Bundle.tN "UNASSIGNED_STACK" Bundle.steD) ∈ flatC (Jvm.Cond.and given_1 narrow_1) ∧ Cond.isRef (.static Bundle.tN "SUPPRESSED_SENTINEL" Bundle.listD) ∈ flatC (Jvm.Cond.and given_1 narrow_1) := by decide +kernel
def c_tE : Term := .static "java/util/ArrayList" "DEFAULTCAPACITY_EMPTY_ELEMENTDATA" "[Ljava/lang/Object;"
def c_tC : Term := .static "java/lang/Integer$IntegerCache" "cache" "[Ljava/lang/Integer;"
set_option maxRecDepth 100000 in
theorem c_ol_w : Cond.laysStatic "java/util/ArrayList" "DEFAULTCAPACITY_EMPTY_ELEMENTDATA" "[Ljava/lang/Object;" ∈ lw_tbl ∧ Cond.initialized "java/util/ArrayList" ∈ lw_tbl ∧ Cond.laysStatic "java/lang/Integer$IntegerCache" "high" "I" ∈ lw_tbl ∧ Cond.laysStatic "java/lang/Integer$IntegerCache" "cache" "[Ljava/lang/Integer;" ∈ lw_tbl ∧ Cond.initialized "java/lang/Integer$IntegerCache" ∈ lw_tbl := by decide +kernel
set_option maxRecDepth 100000 in
theorem c_ol_r : Cond.arrayOf c_tE (.object "java/lang/Object") ∈ flatC (Jvm.Cond.and given_1 narrow_1) ∧ Cond.eq (.length c_tE) (.int 0) ∈ flatC (Jvm.Cond.and given_1 narrow_1) ∧ Cond.eq (.static "java/lang/Integer$IntegerCache" "high" "I") (.int 127) ∈ flatC (Jvm.Cond.and given_1 narrow_1) ∧ Cond.arrayOf c_tC (.object "java/lang/Integer") ∈ flatC (Jvm.Cond.and given_1 narrow_1) ∧ Cond.eq (.length c_tC) (.int 256) ∈ flatC (Jvm.Cond.and given_1 narrow_1) ∧
    Cond.all c_tC (.and (.exactly (.elem c_tC (.index 0)) "java/lang/Integer") (.eq (.field (.elem c_tC (.index 0)) "java/lang/Integer" "value" "I") (.sub (.index 0) (.int 128)))) ∈ flatC (Jvm.Cond.and given_1 narrow_1) ∧ Cond.isRef (.mirror "[Ljava/lang/Object;") ∈ flatC (Jvm.Cond.and given_1 narrow_1) := by decide +kernel
/-- the old cells at the law's entry -/
theorem c_old0 {s : State} {b : Nat} (S : Nat → Int32) (hb : b < s.heap.size) (hts : ∀ w ∈ lw_tbl, w.before #[Value.ref b] s = true) (hgv : (Jvm.Cond.and given_1 narrow_1).before #[Value.ref b] s = true) : ∃ f : Nat → Nat, f 0 = b ∧ c_Old s.heap.size (f, S) s.heap s := by
  have hs := flat_of_before _ hgv
  obtain ⟨w1, w2, w3, w4, w5⟩ := c_ol_w
  obtain ⟨r1, r2, r3, r4, r5, r6, r7⟩ := c_ol_r
  have hA : ∀ a : Nat, a < s.heap.size → ¬ s.heap.size ≤ a := fun a ha => Nat.not_le.mpr ha
  obtain ⟨t1, e1, T1⟩ := va_Tof (tm := c_tE) (N := 0) (f := fun _ => .null) (A := fun q => s.heap.size ≤ q) (by decide) (hs _ r1) (va_eqt (hs _ r2)) (fun j hj => absurd hj (Nat.not_lt_zero j)) hA
  have hl3 : (Term.length c_tC).eval #[Value.ref b] s none [] s = some (.int (Int32.ofNat 256)) := va_eqt (hs _ r5)
  obtain ⟨ad, hC, hel⟩ := vb_Cof (A := fun q => s.heap.size ≤ q) (st := c_tC) rfl hl3 (hs _ r6) hA
  obtain ⟨t3, e3, T3⟩ := va_Tof (tm := c_tC) (N := 256) (f := fun j => .ref (ad j)) (A := fun q => s.heap.size ≤ q) (by decide) (hs _ r4) hl3 (fun j hj => hel j hj) hA
  obtain ⟨mi, hM⟩ := va_Mi.of (hs _ r7)
  have z1 : t1 < s.heap.size := by obtain ⟨cell, g1, -⟩ := T1; exact (Array.getElem?_eq_some_iff.mp g1).1
  have z3 : t3 < s.heap.size := by obtain ⟨cell, g1, -⟩ := T3; exact (Array.getElem?_eq_some_iff.mp g1).1
  have z2 : ad 128 < s.heap.size := by obtain ⟨cell, g1, -⟩ := hC.1 128 (by decide); exact (Array.getElem?_eq_some_iff.mp g1).1
  refine ⟨fun i => if i = 0 then b else if i = 1 then t1 else if i = 2 then ad 128 else if i = 3 then t3 else mi, rfl, ⟨va_Zref (hts _ w1) (hts _ w2) e1 hA, _, T1⟩, va_Zof (hts _ w3) (hts _ w5) (va_eqi (hs _ r3)) hA, ⟨va_Zref (hts _ w4) (hts _ w5) e3 hA, _, T3, rfl⟩, ⟨hC.1 128 (by decide), ?_⟩, hM, fun i hi => ?_⟩
  · have h9 := hC.2 128 (by decide)
    have e9 : (Value.int (vb_c 128)) = .int 0 := by decide
    rw [← e9]
    exact h9
  · rcases (show i = 0 ∨ i = 1 ∨ i = 2 ∨ i = 3 by omega) with rfl | rfl | rfl | rfl
    · exact hb
    · exact z1
    · exact z2
    · exact z3
/-- what is so at the law's entry -/
theorem c_fac0 {s : State} {b : Nat} (hts : ∀ w ∈ lw_tbl, w.before #[Value.ref b] s = true) (hgv : (Jvm.Cond.and given_1 narrow_1).before #[Value.ref b] s = true) : ∃ (D : va_G) (A : Nat → ClassId), c_Fac D A s := by
  have hs := flat_of_before _ hgv
  have h0 : ∀ k : Nat, ∃ q : ClassId × (Nat → Nat), ∀ r : vw_C, c_cl[k]? = some r → u_Kn s r.1 r.2.1 r.2.2 q.1 q.2 := by
    intro k
    cases hk : c_cl[k]? with
    | none => exact ⟨(0, fun _ => 0), fun r h => by cases h⟩
    | some r =>
      obtain ⟨cC, iS, h⟩ := u_known (C := r.1) (T := r.2.1) (N := r.2.2) (n := r.2.2) hts (c_cl_ok k r hk).1 (hts _ (c_inst k r hk))
      exact ⟨(cC, iS), fun r2 h2 => by cases h2; exact h⟩
  obtain ⟨d, hd⟩ := Classical.axiomOfChoice h0
  obtain ⟨ci, ki, coi, fi, gi, di⟩ := Cond.arrayClass_spec (first := s) (o := none) (idx := []) (hts _ c_at_i.1)
  obtain ⟨cl, kl, col, fl, gl, dl⟩ := Cond.arrayClass_spec (first := s) (o := none) (idx := []) (hts _ c_at_i.2.1)
  obtain ⟨cz, kz, coz, fz, gz, dz⟩ := Cond.arrayClass_spec (first := s) (o := none) (idx := []) (hts _ c_at_i.2.2.1)
  obtain ⟨cd, kd, cod, fd, gd, dd⟩ := Cond.arrayClass_spec (first := s) (o := none) (idx := []) (hts _ c_at_i.2.2.2)
  obtain ⟨comp, c2, k2, f1, g2, d2, f2⟩ := Cond.arrayOver_specA (first := s) (o := none) (idx := []) (hts _ c_at_ii.1)
  have hO : va_AO "java/lang/Object" s := va_AO.of (A := #[Value.ref b]) (hts _ c_at_ii.2)
  obtain ⟨comp3, c3, k3, f31, -, g3, d3, f32⟩ := Cond.arrayOver_spec hO
  refine ⟨(fun k => (d k).1, fun k => (d k).2), fun t => if t = 0 then ci else if t = 1 then cl else if t = 2 then c2 else if t = 3 then c3 else if t = 4 then cz else cd, ⟨fun k q h => hd k q h, fun k q h => by simp at h⟩, ?_, ?_, ?_, ?_, ?_, hO⟩
  · intro t ht
    rcases (show t = 0 ∨ t = 1 ∨ t = 2 ∨ t = 3 ∨ t = 4 ∨ t = 5 by omega) with rfl | rfl | rfl | rfl | rfl | rfl
    · exact ⟨c_arr gi di, fi⟩
    · exact ⟨c_arr gl dl, fl⟩
    · exact ⟨c_arr g2 d2, f2⟩
    · exact ⟨c_arr g3 d3, f32⟩
    · exact ⟨c_arr gz dz, fz⟩
    · exact ⟨c_arr gd dd, fd⟩
  · intro w hw hn
    exact va_Nw.of (c_ng_on hn) (hts w hw)
  · intro own k tx hk
    have h1 := List.all_eq_true.mp c_strs _ hk
    simp only [decide_eq_true_eq] at h1
    obtain ⟨a, c, cA, kA, q1, -⟩ := Cond.exactly_spec (args := #[Value.ref b]) (first := s) (o := none) (s := s) (idx := []) (t := .string own k) (cls := "java/lang/String") (hs _ h1)
    exact ⟨a, vk_R.of (hts _ hk) q1⟩
  · intro q hq
    have h1 := List.all_eq_true.mp c_ncs q hq
    simp only [decide_eq_true_eq] at h1
    exact va_Nc.of (hs _ h1)
  · have h1 := hts _ c_at_ii.1
    simp only [Cond.before, Cond.holds, Cond.value] at h1 ⊢
    exact h1
set_option maxHeartbeats 1000000 in
theorem c_start (hpure : c_Pure) {p : Program} {e : Env} {s : State} {m : MethodId} {below : List Frame} {meth : Method} {c : Code} (l : Launch) (hflags : l.flags = flags0) {b L : Nat} {xs : Nat → Int32} (hL : L ≤ 6) (C0 : lw_At p s m meth c b L xs) : W p l e room_1 s m #[Value.ref b] below meth c s.heap [] 0 0 (lw_Z below #[Value.ref b] s) (entryFrame m ([Value.ref b] : List Value).toArray 9) := by
  obtain ⟨hx, hb, hr, hml, hown, hts, hX, hbl, hlocks, hgv⟩ := id C0
  have hs := flat_of_before _ hgv
  have hl : l.stackTraces = false := by unfold Launch.stackTraces; rw [hflags]; decide +kernel
  obtain ⟨X, hXl, hXg⟩ : ∃ X : List Int32, X.length = L ∧ ∀ j, j < L → X.getD j 0 = xs j := ⟨(List.range L).map xs, by simp, fun j hj => by simp [List.getD, hj]⟩
  obtain ⟨S, E, n, h, hE, hgo, hb1, hb2⟩ := hpure X (by omega)
  obtain ⟨D, A, hF⟩ := c_fac0 hts hgv
  obtain ⟨f, hf0, hold⟩ := c_old0 S hbl hts hgv
  have hA : ∀ a : Nat, a < s.heap.size → ¬ s.heap.size ≤ a := fun a ha => Nat.not_le.mpr ha
  have hU := vx_Zqof (A := fun q => s.heap.size ≤ q) (hts _ c_st_w.1) (hts _ c_st_w.2.2) (hs _ c_st_r.1) hA
  have hN := vx_Zqof (A := fun q => s.heap.size ≤ q) (hts _ c_st_w.2.1) (hts _ c_st_w.2.2) (hs _ c_st_r.2) hA
  have hX2 : va_X b X.length (fun j => X.getD j 0) s s.heap := by
    obtain ⟨scr, x1, x2, x3, x4, x5⟩ := hX
    exact ⟨scr, x1, x2, x3, by rw [x4, hXl], fun j hj => by rw [x5 j (by omega)]; show _ = some (Value.int (X.getD j 0)); rw [hXg j (by omega)]⟩
  have hent : (c_ent [Value.retAddr 0] 9).length = 9 := by decide +kernel
  have hLR := c_ent_LR (base := s.heap.size) (B := (f, S)) hent
  have e0 : ([Value.retAddr 0] : List Value).map (c_v s.heap.size (f, S)) = [Value.ref b] := by rw [← hf0]; rfl
  rw [e0] at hLR
  rw [lg_entry_eq]
  have hd0 := Drawn.sameBut.refl s.drawn lw_cs
  refine W.base ?_
  have K := c_sim (D := D) (A := A) (H0 := s.heap) (base := s.heap.size) (B := (f, S)) (X := X) hl c_okAll (c_hE_B hE) n c_m259 0 (c_ent [.retAddr 0] 9) [] [] _ ⟨_, List.mem_of_getElem? (i := 16) rfl, List.mem_of_getElem? (i := 3) rfl⟩ hgo p e room_1 s m #[Value.ref b] below meth c (lw_Z below #[Value.ref b] s) 0 0
    ⟨hx, hb, hml, hown, fun w hw _ => hts w hw, hF, hlocks, fun h => absurd h (by decide), by decide, by decide, hl, ⟨by show va_X (f 0) X.length (fun j => X.getD j 0) s s.heap; rw [hf0]; exact hX2, by show f 0 < s.heap.size; rw [hf0]; exact hbl⟩, hU, hN, hold, c_hE_B hE⟩ (Or.inl rfl)
    (by
      intro v hv pc H locs cells slots ls hcase hHR hlo hc hsl
      cases hv
      refine W.widen (k := 927443) (n := 6319727) (by simp only at hc; omega) (by simp only at hsl; omega) ?_
      refine va_forget hlo ?_
      rcases hcase with ⟨x, t, -, hdg, -⟩ | ⟨h9, -⟩ | ⟨a9, t, h9, -⟩ | ⟨x, h9, -⟩ | ⟨x, h9, -⟩
      · exact lw_ret hd0 hx hb hr hlocks hdg
      all_goals (cases h9))
    (by intro E9 h9 he; cases he)
    (by intro E9 he; cases he)
    (by show h.length ≤ 0 + 927443; omega) (by show c_msz h ≤ 0 + 6319727; omega)
  exact K s.heap [] 0 0 _ ⟨rfl, rfl, fun _ _ => rfl, fun i x h => by simp at h⟩ hLR (fun z hz => by cases hz) rfl rfl
