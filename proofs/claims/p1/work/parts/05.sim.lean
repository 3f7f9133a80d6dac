def c_ng : Cond → Bool
  | .fieldLinkNest .. => true
  | .methodLinkNest .. => true
  | .declares _ => true
  | .castable .. => true
  | _ => false
theorem c_ng_warm {w : Cond} {s U : State} (h : c_ng w = true) (hW : s.WarmedH U.vm) (hZ : va_Nw w s) : va_Nw w U := by
  cases w <;> first | exact va_Nw.warmF hW hZ | exact va_Nw.warmM hW hZ | exact va_Nw.warmD hW hZ | exact va_Nw.warmC hW hZ | (simp [c_ng] at h)
theorem c_ng_on {w : Cond} (h : c_ng w = true) : w.onTables = true := by
  cases w <;> first | rfl | (simp [c_ng] at h)
/-- pairs of exceptions of which the first is none of the second -/
def c_E6 : List String := ["java/lang/IllegalArgumentException", "java/lang/IndexOutOfBoundsException", "java/lang/UnsupportedOperationException", "java/util/NoSuchElementException", "java/lang/IllegalStateException", "java/lang/ArithmeticException"]
def c_NC : List (String × String) := c_E6.flatMap (fun a => (c_E6.filter (fun b => !decide (a = b))).map (fun b => (a, b)))
def c_Fac (D : va_G) (A : Nat → ClassId) (s : State) : Prop :=
  va_K D c_cl [] s ∧ (∀ t, t < 6 → ArrOfT s (A t) (c_tag t) ∧ s.vm.findClass ("[" ++ (c_tag t).toString) = some (A t)) ∧ (∀ w ∈ lw_tbl, c_ng w = true → va_Nw w s) ∧
  (∀ (own : String) (k : Nat) (tx : String), Cond.stringRef own k tx ∈ lw_tbl → ∃ sa, vk_R own k tx sa s) ∧ (∀ q ∈ c_NC, va_Nc q.1 q.2 s) ∧ (Cond.arrayOver (.array .int)).before #[] s = true ∧ va_AO "java/lang/Object" s
theorem c_Fac.moved {D : va_G} {A : Nat → ClassId} {s U : State} (h : c_Fac D A s) (hW : s.WarmedH U.vm) : c_Fac D A U := by
  obtain ⟨h1, h2, h3, h4, h5, h6, h7⟩ := h
  refine ⟨va_K.moved hW.alike h1, fun t ht => ⟨arrOfT_moved hW.alike (h2 t ht).1, by rw [hW.alike.findClass]; exact (h2 t ht).2⟩, fun w hw hn => c_ng_warm hn hW (h3 w hw hn), fun own k tx hk => ?_, fun q hq => va_Nc.moved hW.alike (h5 q hq), Stand.arrayOver_alikeB hW.alike h6, va_AO.moved hW.alike h7⟩
  obtain ⟨sa, hsa⟩ := h4 own k tx hk
  exact ⟨sa, vk_R.warm hW hsa⟩
/-- what is so of the old cells that are told by numbers -/
def c_Old (base : Nat) (B : c_B) (H0 : Heap) (s : State) : Prop :=
  (va_Z "java/util/ArrayList" "DEFAULTCAPACITY_EMPTY_ELEMENTDATA" "[Ljava/lang/Object;" (.ref (B.1 1)) (fun q => base ≤ q) s H0 ∧ ∃ f, va_T (.object "java/lang/Object") (B.1 1) 0 f (fun q => base ≤ q) s H0) ∧
  va_Z "java/lang/Integer$IntegerCache" "high" "I" (.int 127) (fun q => base ≤ q) s H0 ∧
  (va_Z "java/lang/Integer$IntegerCache" "cache" "[Ljava/lang/Integer;" (.ref (B.1 3)) (fun q => base ≤ q) s H0 ∧ ∃ f, va_T (.object "java/lang/Integer") (B.1 3) 256 f (fun q => base ≤ q) s H0 ∧ f 128 = .ref (B.1 2)) ∧
  (va_O "java/lang/Integer" (B.1 2) (fun q => base ≤ q) s H0 ∧ va_OF "java/lang/Integer" "value" "I" (.int 0) (B.1 2) (fun q => base ≤ q) s H0) ∧
  va_Mi "[Ljava/lang/Object;" (B.1 4) s ∧ (∀ i, i < 4 → B.1 i < base)
theorem c_Old.moved {base : Nat} {B : c_B} {H0 : Heap} {s U : State} (h : c_Old base B H0 s) (hW : s.WarmedH U.vm) : c_Old base B H0 U := by
  obtain ⟨⟨h1, f1, h2⟩, h3, ⟨h4, f4, h5, h6⟩, ⟨h7, h8⟩, h9, h10⟩ := h
  exact ⟨⟨va_Z.moved hW.alike h1, f1, va_T.moved hW.alike h2⟩, va_Z.moved hW.alike h3, ⟨va_Z.moved hW.alike h4, f4, va_T.moved hW.alike h5, h6⟩, ⟨va_O.moved hW.alike h7, va_OF.moved hW.alike h8⟩, va_Mi.moved hW.alike h9, h10⟩
def c_w (i : Nat) (w : Cond) : Bool := match lw_tbl[i]? with
  | some z => decide (z = w) && goodWord w
  | none => false
def c_n (i : Nat) (w : Cond) : Bool := match lw_tbl[i]? with
  | some z => decide (z = w) && c_ng w
  | none => false
theorem c_w_ok {i : Nat} {w : Cond} (h : c_w i w = true) : w ∈ lw_tbl ∧ goodWord w = true := by
  unfold c_w at h
  split at h
  · rename_i z hz
    rw [Bool.and_eq_true, decide_eq_true_eq] at h
    obtain ⟨rfl, h2⟩ := h
    exact ⟨List.mem_of_getElem? hz, h2⟩
  · cases h
theorem c_n_ok {i : Nat} {w : Cond} (h : c_n i w = true) : w ∈ lw_tbl ∧ c_ng w = true := by
  unfold c_n at h
  split at h
  · rename_i z hz
    rw [Bool.and_eq_true, decide_eq_true_eq] at h
    obtain ⟨rfl, h2⟩ := h
    exact ⟨List.mem_of_getElem? hz, h2⟩
  · cases h
def c_len : Instr → Nat
  | .bipush _ => 2
  | .sipush _ => 3
  | .ldc _ => 2
  | .ldc_w _ => 3
  | .ldc2_w _ => 3
  | .iload _ => 2
  | .lload _ => 2
  | .fload _ => 2
  | .aload _ => 2
  | .istore _ => 2
  | .lstore _ => 2
  | .fstore _ => 2
  | .dstore _ => 2
  | .astore _ => 2
  | .iinc _ _ => 3
  | .if_icmp _ _ => 3
  | .ifCond _ _ => 3
  | .if_acmp _ _ => 3
  | .ifnull _ => 3
  | .ifnonnull _ => 3
  | .goto _ => 3
  | .getfield _ => 3
  | .putfield _ => 3
  | .getstatic _ => 3
  | .new _ => 3
  | .newarray _ => 2
  | .anewarray _ => 3
  | .multianewarray _ _ => 4
  | .checkcast _ => 3
  | .invokespecial _ => 3
  | .invokestatic _ => 3
  | .invokevirtual _ => 3
  | _ => 1
/-- the link of a field: 0 by its own class, 1 by the nest, 2 by a class below -/
def c_okFld (own : String) (i : Nat) (q : c_I) (ix : List Nat) (r : vw_C) : Bool :=
  decide (q.2.2.1 < r.2.2) && (if q.2.2.2 = 0 then c_w (ix.getD 0 0) (.fieldLink own i (r.2.1 q.2.2.1).1 (r.2.1 q.2.2.1).2.1 (r.2.1 q.2.2.1).2.2.1) else if q.2.2.2 = 1 then c_n (ix.getD 0 0) (.fieldLinkNest own i (r.2.1 q.2.2.1).1 (r.2.1 q.2.2.1).2.1 (r.2.1 q.2.2.1).2.2.1 c_host)
    else decide (q.2.2.2 = 2) && c_w (ix.getD 0 0) (.fieldLink own i r.1 (r.2.1 q.2.2.1).2.1 (r.2.1 q.2.2.1).2.2.1) && c_w (ix.getD 1 0) (.sameField r.1 (r.2.1 q.2.2.1).1 (r.2.1 q.2.2.1).2.1 (r.2.1 q.2.2.1).2.2.1))
def c_oI : MethodName := ⟨"java/lang/Object", "clone", "()Ljava/lang/Object;"⟩
def c_gC : MethodName := ⟨"java/lang/Object", "getClass", "()Ljava/lang/Class;"⟩
def c_fb : MethodName := ⟨"java/lang/Float", "floatToRawIntBits", "(F)I"⟩
/-- what is looked at ahead of a run: the instruction stands there, its words stand in the tables at the places ix -/
noncomputable def c_okJ (own : String) (ini : Bool) (F R : Nat) (pc : Nat) (q : c_I) (ix : List Nat) : Bool := match q.1 with
  | .if_icmp _ off => decide ((pc : Int) + off = (q.2.1 : Int))
  | .ifCond _ off => decide ((pc : Int) + off = (q.2.1 : Int))
  | .if_acmp _ off => decide ((pc : Int) + off = (q.2.1 : Int))
  | .ifnonnull off => decide ((pc : Int) + off = (q.2.1 : Int))
  | .goto off => decide ((pc : Int) + off = (q.2.1 : Int))
  | .tableswitch d lo hi offs => decide (0 ≤ (pc : Int) + d) && offs.toList.all (fun o => decide (0 ≤ (pc : Int) + o)) && decide ((offs.toList.length : Int) = hi - lo + 1)
  | .getfield i => if q.2.2.2 = 5 then c_w (ix.getD 0 0) (.fieldLink own i "java/lang/Integer" "value" "I") else match c_cl[q.2.1]? with
    | some r => c_okFld own i q ix r
    | none => false
  | .putfield i => match c_cl[q.2.1]? with
    | some r => c_okFld own i q ix r && (!(r.2.1 q.2.2.1).2.2.2 || (ini && decide ((r.2.1 q.2.2.1).1 = own) && decide (q.2.2.2 = 0)))
    | none => false
  | .getstatic i => match q.2.1 with
    | 0 => c_w (ix.getD 0 0) (.fieldLink own i "java/lang/Integer$IntegerCache" "high" "I")
    | 1 => c_w (ix.getD 0 0) (.fieldLink own i "java/util/ArrayList" "DEFAULTCAPACITY_EMPTY_ELEMENTDATA" "[Ljava/lang/Object;")
    | 3 => c_w (ix.getD 0 0) (.fieldLink own i "java/lang/Integer$IntegerCache" "cache" "[Ljava/lang/Integer;")
    | _ => false
  | .ldc i => if q.2.2.2 = 0 then c_w (ix.getD 0 0) (.constant own i (Int32.ofNat q.2.1)) else c_w (ix.getD 0 0) (.classLink own i "[Ljava/lang/Object;")
  | .ldc_w i => c_w (ix.getD 0 0) (.constant own i (Int32.ofNat q.2.1))
  | .ldc2_w i => c_w (ix.getD 0 0) (.constantLong own i (Int64.ofNat q.2.1))
  | .new i => if q.2.2.2 = 1 then true else match c_cl[q.2.1]? with
    | some r => c_w (ix.getD 0 0) (.classLink own i r.1) && c_w (ix.getD 1 0) (.instantiable r.1 r.2.2) && c_w (ix.getD 2 0) (.initialized r.1)
    | none => false
  | .newarray t => decide (Jvm.Op.newarray.typeOf t = c_tag q.2.1) && (decide (q.2.1 < 2) || decide (q.2.1 = 4) || decide (q.2.1 = 5)) && c_w (ix.getD 0 0) (.arrayClass (c_tag q.2.1))
  | .anewarray i => decide (q.2.1 = 3) && c_w (ix.getD 0 0) (.classLink own i "java/lang/Object")
  | .multianewarray i d => decide (d = 2) && c_w (ix.getD 0 0) (.classLink own i "[[I") && c_w (ix.getD 1 0) (.arrayClass .int)
  | .checkcast i => if q.2.2.2 = 1 then c_w (ix.getD 0 0) (.classLink own i "java/lang/Integer") else decide (q.2.1 < 6) && c_w (ix.getD 0 0) (.classLink own i ("[" ++ (c_tag q.2.1).toString))
  | .aastore => c_n (ix.getD 0 0) (.castable "[I" "java/lang/Object") && c_n (ix.getD 1 0) (.castable "java/lang/Integer" "java/lang/Object")
  | .invokespecial i => if q.2.2.2 = 6 then c_w (ix.getD 0 0) (.methodLink own i objectInit) && c_w (ix.getD 1 0) (.instanceMethod objectInit) && c_w (ix.getD 2 0) (.code objectInit ⟨#[0xb1]⟩ 1 none) && decide (1 ≤ F) && decide (40 ≤ R) else decide (q.2.2.2 < 6)
  | .invokestatic i => if q.2.2.2 = 7 then c_w (ix.getD 0 0) (.methodLink own i Lib.Math.max.name) && c_w (ix.getD 1 0) (.static Lib.Math.max.name) && c_w (ix.getD 2 0) (.initialized "java/lang/Math") && c_w (ix.getD 3 0) (.code Lib.Math.max.name Lib.Math.max.code 2 (some .int)) && decide (1 ≤ F) && decide (40 ≤ R)
    else if q.2.2.2 = 8 then c_w (ix.getD 0 0) (.methodLink own i Lib.Math.min.name) && c_w (ix.getD 1 0) (.static Lib.Math.min.name) && c_w (ix.getD 2 0) (.initialized "java/lang/Math") && c_w (ix.getD 3 0) (.code Lib.Math.min.name Lib.Math.min.code 2 (some .int)) && decide (1 ≤ F) && decide (40 ≤ R)
    else if q.2.2.2 = 10 then c_w (ix.getD 0 0) (.methodLink own i c_fb) && c_w (ix.getD 1 0) (.native c_fb) && c_w (ix.getD 2 0) (.static c_fb) && c_w (ix.getD 3 0) (.initialized "java/lang/Float") && decide (1 ≤ F) && decide (40 ≤ R)
    else if q.2.2.2 = 12 then c_w (ix.getD 0 0) (.methodLink own i arraycopyName) && c_w (ix.getD 1 0) (.native arraycopyName) && c_w (ix.getD 2 0) (.static arraycopyName) && c_w (ix.getD 3 0) (.initialized "java/lang/System") && c_n (ix.getD 4 0) (.castable "[I" "java/lang/Object") && c_n (ix.getD 5 0) (.castable "java/lang/Integer" "java/lang/Object") && decide (1 ≤ F) && decide (40 ≤ R)
    else decide (q.2.2.2 < 6)
  | .invokevirtual i => if q.2.2.2 = 9 then c_w (ix.getD 0 0) (.methodLink own i ⟨"[I", "clone", "()Ljava/lang/Object;"⟩) && c_w (ix.getD 1 0) (.sameMethod "[I" "java/lang/Object" "clone" "()Ljava/lang/Object;") && c_w (ix.getD 2 0) (.native ⟨"java/lang/Object", "clone", "()Ljava/lang/Object;"⟩) && c_w (ix.getD 3 0) (.instanceMethod ⟨"java/lang/Object", "clone", "()Ljava/lang/Object;"⟩) && c_w (ix.getD 4 0) (.selects "[I" ⟨"[I", "clone", "()Ljava/lang/Object;"⟩ ⟨"java/lang/Object", "clone", "()Ljava/lang/Object;"⟩) && c_n (ix.getD 5 0) (.castable "[I" "java/lang/Cloneable") && decide (1 ≤ F) && decide (40 ≤ R)
    else if q.2.2.2 = 11 then c_w (ix.getD 0 0) (.methodLink own i c_gC) && c_n (ix.getD 1 0) (.declares c_gC) && c_w (ix.getD 2 0) (.selects "[Ljava/lang/Object;" c_gC c_gC) && c_w (ix.getD 3 0) (.instanceMethod c_gC) && c_w (ix.getD 4 0) (.native c_gC) && decide (1 ≤ F) && decide (40 ≤ R)
    else decide (q.2.2.2 < 6)
  | _ => true
noncomputable def c_okI (own : String) (cc : ByteArray) (ini : Bool) (F R : Nat) (pc : Nat) (q : c_I) (ix : List Nat) : Bool := (match q.1 with
  | .tableswitch d lo hi offs => (match decode cc pc with
    | .ok (.tableswitch d2 lo2 hi2 offs2, _) => decide (d = d2) && decide (lo = lo2) && decide (hi = hi2) && decide (offs.toList = offs2.toList)
    | _ => false)
  | _ => decide (decode cc pc = .ok (q.1, c_len q.1))) && c_okJ own ini F R pc q ix
section Sim
variable {p : Program} {l : Launch} {e : Env} {R : Room} {s : State} {m : MethodId} {args : Array Value} {below : List Frame} {meth : Method} {c : Code} {Q : State → Prop}
variable {D : va_G} {A : Nat → ClassId} {H0 : Heap} {base nL n0 z0 : Nat} {B : c_B} {X : List Int32} {E : c_E}
/-- the script and the facts -/
def c_hE (B : c_B) (X : List Int32) (E : c_E) : Prop := E.2.length = X.length ∧ (∀ j x, E.2[j]? = some x → c_iv B x = some (X.getD j 0)) ∧ ∀ f ∈ E.1, c_hold B f
/-- a frame of the method y (code cc), as it stands while it runs -/
def c_ctx (p : Program) (l : Launch) (R : Room) (s : State) (m : MethodId) (args : Array Value) (meth : Method) (c : Code) (D : va_G) (A : Nat → ClassId) (H0 : Heap) (base : Nat) (B : c_B) (X : List Int32) (E : c_E) (y : MethodName) (cc : ByteArray) (nL F Rl : Nat) : Prop :=
  p.tables.exec = Jvm.exec ∧ c.code = cc ∧ c.maxLocals = nL ∧ s.vm.findClass y.cls = some m.cls ∧ (∀ w ∈ lw_tbl, goodWord w = true → w.before args s = true) ∧ c_Fac D A s ∧ meth.locks = false ∧ (y.name = "<init>" → meth.name = "<init>") ∧ F ≤ R.frames ∧ Rl ≤ R.locals ∧
  l.stackTraces = false ∧ (va_X (B.1 0) X.length (fun j => X.getD j 0) s H0 ∧ B.1 0 < base) ∧ vx_Zq Bundle.tN "UNASSIGNED_STACK" Bundle.steD (fun q => base ≤ q) s H0 ∧ vx_Zq Bundle.tN "SUPPRESSED_SENTINEL" Bundle.listD (fun q => base ≤ q) s H0 ∧ c_Old base B H0 s ∧ c_hE B X E
/-- the machine comes to Q from wherever this picture holds -/
def c_K (p : Program) (l : Launch) (e : Env) (R : Room) (s : State) (m : MethodId) (args : Array Value) (below : List Frame) (meth : Method) (c : Code) (Q : State → Prop) (D : va_G) (A : Nat → ClassId) (H0 : Heap) (base : Nat) (B : c_B) (nL n0 z0 : Nat) (pc : Nat) (L : c_Ls) (st : List Value) (h : c_Hp) : Prop :=
  ∀ (H : Heap) (locs : List Loc) (cells slots : Nat) (ls : Array Slot), c_HR D A H0 base B h H → c_LR base B ls nL L → (∀ z ∈ locs, base ≤ z.base) → cells + n0 = h.length → slots + z0 = c_msz h → W p l e R s m args below meth c H locs cells slots Q (F0 m pc ls (st.map (c_v base B)))
theorem c_iload_n {cc : ByteArray} (hx : p.tables.exec = Jvm.exec) (hb : c.code = cc) {q : Fin 4} {pc : Nat} {L : c_Ls} {st : List Value} {h : c_Hp} {r : c_R} (hd : decode cc pc = .ok (.iload_n q, 1)) (e1 : c_load c_sy L q.val 1 pc st h = some r) (k : c_K p l e R s m args below meth c Q D A H0 base B nL n0 z0 r.1 r.2.1 r.2.2.1 r.2.2.2) : c_K p l e R s m args below meth c Q D A H0 base B nL n0 z0 pc L st h := by
  intro H locs cells slots ls hH hL hlo hc hs
  unfold c_load at e1
  rw [c_nth_eq] at e1
  split at e1
  · rename_i v hv
    split at e1
    · rename_i hk
      cases e1
      obtain ⟨a, ha⟩ := c_sy_v (base := base) (B := B) hk
      have k9 := k H locs cells slots ls hH hL hlo hc hs
      simp only [List.map_cons, ha] at k9
      exact lv_iload_n hx hb hd rfl (by rw [hL.at hv, ha]) k9
    · cases e1
  · cases e1
theorem c_iload_i {cc : ByteArray} (hx : p.tables.exec = Jvm.exec) (hb : c.code = cc) {i : Nat} {pc : Nat} {L : c_Ls} {st : List Value} {h : c_Hp} {r : c_R} (hd : decode cc pc = .ok (.iload i, 2)) (e1 : c_load c_sy L i 2 pc st h = some r) (k : c_K p l e R s m args below meth c Q D A H0 base B nL n0 z0 r.1 r.2.1 r.2.2.1 r.2.2.2) : c_K p l e R s m args below meth c Q D A H0 base B nL n0 z0 pc L st h := by
  intro H locs cells slots ls hH hL hlo hc hs
  unfold c_load at e1
  rw [c_nth_eq] at e1
  split at e1
  · rename_i v hv
    split at e1
    · rename_i hk
      cases e1
      obtain ⟨a, ha⟩ := c_sy_v (base := base) (B := B) hk
      have k9 := k H locs cells slots ls hH hL hlo hc hs
      simp only [List.map_cons, ha] at k9
      exact lv_iload hx hb hd (by rw [hL.at hv, ha]) k9
    · cases e1
  · cases e1
theorem c_lload_n {cc : ByteArray} (hx : p.tables.exec = Jvm.exec) (hb : c.code = cc) {q : Fin 4} {pc : Nat} {L : c_Ls} {st : List Value} {h : c_Hp} {r : c_R} (hd : decode cc pc = .ok (.lload_n q, 1)) (e1 : c_load c_lg L q.val 1 pc st h = some r) (k : c_K p l e R s m args below meth c Q D A H0 base B nL n0 z0 r.1 r.2.1 r.2.2.1 r.2.2.2) : c_K p l e R s m args below meth c Q D A H0 base B nL n0 z0 pc L st h := by
  intro H locs cells slots ls hH hL hlo hc hs
  unfold c_load at e1
  rw [c_nth_eq] at e1
  split at e1
  · rename_i v hv
    split at e1
    · rename_i hk
      cases e1
      obtain ⟨a, ha⟩ := c_lg_v (base := base) (B := B) hk
      have k9 := k H locs cells slots ls hH hL hlo hc hs
      simp only [List.map_cons, ha] at k9
      exact lv_lload_n hx hb hd rfl (by rw [hL.at hv, ha]) k9
    · cases e1
  · cases e1
theorem c_lload_i {cc : ByteArray} (hx : p.tables.exec = Jvm.exec) (hb : c.code = cc) {i : Nat} {pc : Nat} {L : c_Ls} {st : List Value} {h : c_Hp} {r : c_R} (hd : decode cc pc = .ok (.lload i, 2)) (e1 : c_load c_lg L i 2 pc st h = some r) (k : c_K p l e R s m args below meth c Q D A H0 base B nL n0 z0 r.1 r.2.1 r.2.2.1 r.2.2.2) : c_K p l e R s m args below meth c Q D A H0 base B nL n0 z0 pc L st h := by
  intro H locs cells slots ls hH hL hlo hc hs
  unfold c_load at e1
  rw [c_nth_eq] at e1
  split at e1
  · rename_i v hv
    split at e1
    · rename_i hk
      cases e1
      obtain ⟨a, ha⟩ := c_lg_v (base := base) (B := B) hk
      have k9 := k H locs cells slots ls hH hL hlo hc hs
      simp only [List.map_cons, ha] at k9
      exact lv_lload hx hb hd (by rw [hL.at hv, ha]) k9
    · cases e1
  · cases e1
theorem c_fload_n {cc : ByteArray} (hx : p.tables.exec = Jvm.exec) (hb : c.code = cc) {q : Fin 4} {pc : Nat} {L : c_Ls} {st : List Value} {h : c_Hp} {r : c_R} (hd : decode cc pc = .ok (.fload_n q, 1)) (e1 : c_load c_fl L q.val 1 pc st h = some r) (k : c_K p l e R s m args below meth c Q D A H0 base B nL n0 z0 r.1 r.2.1 r.2.2.1 r.2.2.2) : c_K p l e R s m args below meth c Q D A H0 base B nL n0 z0 pc L st h := by
  intro H locs cells slots ls hH hL hlo hc hs
  unfold c_load at e1
  rw [c_nth_eq] at e1
  split at e1
  · rename_i v hv
    split at e1
    · rename_i hk
      cases e1
      obtain ⟨a, ha⟩ := c_fl_v (base := base) (B := B) hk
      have k9 := k H locs cells slots ls hH hL hlo hc hs
      simp only [List.map_cons, ha] at k9
      exact lv_fload_n hx hb hd rfl (by rw [hL.at hv, ha]) k9
    · cases e1
  · cases e1
theorem c_fload_i {cc : ByteArray} (hx : p.tables.exec = Jvm.exec) (hb : c.code = cc) {i : Nat} {pc : Nat} {L : c_Ls} {st : List Value} {h : c_Hp} {r : c_R} (hd : decode cc pc = .ok (.fload i, 2)) (e1 : c_load c_fl L i 2 pc st h = some r) (k : c_K p l e R s m args below meth c Q D A H0 base B nL n0 z0 r.1 r.2.1 r.2.2.1 r.2.2.2) : c_K p l e R s m args below meth c Q D A H0 base B nL n0 z0 pc L st h := by
  intro H locs cells slots ls hH hL hlo hc hs
  unfold c_load at e1
  rw [c_nth_eq] at e1
  split at e1
  · rename_i v hv
    split at e1
    · rename_i hk
      cases e1
      obtain ⟨a, ha⟩ := c_fl_v (base := base) (B := B) hk
      have k9 := k H locs cells slots ls hH hL hlo hc hs
      simp only [List.map_cons, ha] at k9
      exact lv_fload hx hb hd (by rw [hL.at hv, ha]) k9
    · cases e1
  · cases e1
theorem c_aload_n {cc : ByteArray} (hx : p.tables.exec = Jvm.exec) (hb : c.code = cc) {q : Fin 4} {pc : Nat} {L : c_Ls} {st : List Value} {h : c_Hp} {r : c_R} (hd : decode cc pc = .ok (.aload_n q, 1)) (e1 : c_load c_rf L q.val 1 pc st h = some r) (k : c_K p l e R s m args below meth c Q D A H0 base B nL n0 z0 r.1 r.2.1 r.2.2.1 r.2.2.2) : c_K p l e R s m args below meth c Q D A H0 base B nL n0 z0 pc L st h := by
  intro H locs cells slots ls hH hL hlo hc hs
  unfold c_load at e1
  rw [c_nth_eq] at e1
  split at e1
  · rename_i v hv
    split at e1
    · rename_i hk
      cases e1
      obtain ⟨a, ha⟩ := c_rf_v (base := base) (B := B) hk
      have k9 := k H locs cells slots ls hH hL hlo hc hs
      simp only [List.map_cons, ha] at k9
      exact lv_aload_n hx hb hd rfl (by rw [hL.at hv, ha]) k9
    · cases e1
  · cases e1
theorem c_aload_i {cc : ByteArray} (hx : p.tables.exec = Jvm.exec) (hb : c.code = cc) {i : Nat} {pc : Nat} {L : c_Ls} {st : List Value} {h : c_Hp} {r : c_R} (hd : decode cc pc = .ok (.aload i, 2)) (e1 : c_load c_rf L i 2 pc st h = some r) (k : c_K p l e R s m args below meth c Q D A H0 base B nL n0 z0 r.1 r.2.1 r.2.2.1 r.2.2.2) : c_K p l e R s m args below meth c Q D A H0 base B nL n0 z0 pc L st h := by
  intro H locs cells slots ls hH hL hlo hc hs
  unfold c_load at e1
  rw [c_nth_eq] at e1
  split at e1
  · rename_i v hv
    split at e1
    · rename_i hk
      cases e1
      obtain ⟨a, ha⟩ := c_rf_v (base := base) (B := B) hk
      have k9 := k H locs cells slots ls hH hL hlo hc hs
      simp only [List.map_cons, ha] at k9
      exact lv_aload hx hb hd (by rw [hL.at hv, ha]) k9
    · cases e1
  · cases e1
theorem c_istore_n {cc : ByteArray} (hx : p.tables.exec = Jvm.exec) (hb : c.code = cc) {q : Fin 4} {pc : Nat} {L : c_Ls} {st : List Value} {h : c_Hp} {r : c_R} (hd : decode cc pc = .ok (.istore_n q, 1)) (e1 : c_store c_sy L q.val 1 pc st h = some r) (k : c_K p l e R s m args below meth c Q D A H0 base B nL n0 z0 r.1 r.2.1 r.2.2.1 r.2.2.2) : c_K p l e R s m args below meth c Q D A H0 base B nL n0 z0 pc L st h := by
  intro H locs cells slots ls hH hL hlo hc hs
  unfold c_store at e1
  split at e1
  · rename_i v t
    split at e1
    · rename_i hk
      split at e1
      · rename_i hi
        cases e1
        have hi2 : q.val < nL := by rw [← hL.1]; exact Nat.blt_eq.mp hi
        obtain ⟨a, ha⟩ := c_sy_v (base := base) (B := B) hk
        rw [List.map_cons, ha]
        exact lv_istore_n hx hb hd rfl hL.has hi2 rfl fun ls1 h1 => k H locs cells slots ls1 hH (hL.stored hi2 (by rw [ha]; exact h1)) hlo hc hs
      · cases e1
    · cases e1
  · cases e1
theorem c_istore_i {cc : ByteArray} (hx : p.tables.exec = Jvm.exec) (hb : c.code = cc) {i : Nat} {pc : Nat} {L : c_Ls} {st : List Value} {h : c_Hp} {r : c_R} (hd : decode cc pc = .ok (.istore i, 2)) (e1 : c_store c_sy L i 2 pc st h = some r) (k : c_K p l e R s m args below meth c Q D A H0 base B nL n0 z0 r.1 r.2.1 r.2.2.1 r.2.2.2) : c_K p l e R s m args below meth c Q D A H0 base B nL n0 z0 pc L st h := by
  intro H locs cells slots ls hH hL hlo hc hs
  unfold c_store at e1
  split at e1
  · rename_i v t
    split at e1
    · rename_i hk
      split at e1
      · rename_i hi
        cases e1
        have hi2 : i < nL := by rw [← hL.1]; exact Nat.blt_eq.mp hi
        obtain ⟨a, ha⟩ := c_sy_v (base := base) (B := B) hk
        rw [List.map_cons, ha]
        exact lv_istore hx hb hd hL.has hi2 rfl fun ls1 h1 => k H locs cells slots ls1 hH (hL.stored hi2 (by rw [ha]; exact h1)) hlo hc hs
      · cases e1
    · cases e1
  · cases e1
theorem c_fstore_n {cc : ByteArray} (hx : p.tables.exec = Jvm.exec) (hb : c.code = cc) {q : Fin 4} {pc : Nat} {L : c_Ls} {st : List Value} {h : c_Hp} {r : c_R} (hd : decode cc pc = .ok (.fstore_n q, 1)) (e1 : c_store c_fl L q.val 1 pc st h = some r) (k : c_K p l e R s m args below meth c Q D A H0 base B nL n0 z0 r.1 r.2.1 r.2.2.1 r.2.2.2) : c_K p l e R s m args below meth c Q D A H0 base B nL n0 z0 pc L st h := by
  intro H locs cells slots ls hH hL hlo hc hs
  unfold c_store at e1
  split at e1
  · rename_i v t
    split at e1
    · rename_i hk
      split at e1
      · rename_i hi
        cases e1
        have hi2 : q.val < nL := by rw [← hL.1]; exact Nat.blt_eq.mp hi
        obtain ⟨a, ha⟩ := c_fl_v (base := base) (B := B) hk
        rw [List.map_cons, ha]
        exact lv_fstore_n hx hb hd rfl hL.has hi2 rfl fun ls1 h1 => k H locs cells slots ls1 hH (hL.stored hi2 (by rw [ha]; exact h1)) hlo hc hs
      · cases e1
    · cases e1
  · cases e1
theorem c_fstore_i {cc : ByteArray} (hx : p.tables.exec = Jvm.exec) (hb : c.code = cc) {i : Nat} {pc : Nat} {L : c_Ls} {st : List Value} {h : c_Hp} {r : c_R} (hd : decode cc pc = .ok (.fstore i, 2)) (e1 : c_store c_fl L i 2 pc st h = some r) (k : c_K p l e R s m args below meth c Q D A H0 base B nL n0 z0 r.1 r.2.1 r.2.2.1 r.2.2.2) : c_K p l e R s m args below meth c Q D A H0 base B nL n0 z0 pc L st h := by
  intro H locs cells slots ls hH hL hlo hc hs
  unfold c_store at e1
  split at e1
  · rename_i v t
    split at e1
    · rename_i hk
      split at e1
      · rename_i hi
        cases e1
        have hi2 : i < nL := by rw [← hL.1]; exact Nat.blt_eq.mp hi
        obtain ⟨a, ha⟩ := c_fl_v (base := base) (B := B) hk
        rw [List.map_cons, ha]
        exact lv_fstore hx hb hd hL.has hi2 rfl fun ls1 h1 => k H locs cells slots ls1 hH (hL.stored hi2 (by rw [ha]; exact h1)) hlo hc hs
      · cases e1
    · cases e1
  · cases e1
theorem c_astore_n {cc : ByteArray} (hx : p.tables.exec = Jvm.exec) (hb : c.code = cc) {q : Fin 4} {pc : Nat} {L : c_Ls} {st : List Value} {h : c_Hp} {r : c_R} (hd : decode cc pc = .ok (.astore_n q, 1)) (e1 : c_store c_rf L q.val 1 pc st h = some r) (k : c_K p l e R s m args below meth c Q D A H0 base B nL n0 z0 r.1 r.2.1 r.2.2.1 r.2.2.2) : c_K p l e R s m args below meth c Q D A H0 base B nL n0 z0 pc L st h := by
  intro H locs cells slots ls hH hL hlo hc hs
  unfold c_store at e1
  split at e1
  · rename_i v t
    split at e1
    · rename_i hk
      split at e1
      · rename_i hi
        cases e1
        have hi2 : q.val < nL := by rw [← hL.1]; exact Nat.blt_eq.mp hi
        obtain ⟨a, ha⟩ := c_rf_v (base := base) (B := B) hk
        rw [List.map_cons, ha]
        exact lv_astore_n hx hb hd rfl hL.has hi2 rfl fun ls1 h1 => k H locs cells slots ls1 hH (hL.stored hi2 (by rw [ha]; exact h1)) hlo hc hs
      · cases e1
    · cases e1
  · cases e1
theorem c_astore_i {cc : ByteArray} (hx : p.tables.exec = Jvm.exec) (hb : c.code = cc) {i : Nat} {pc : Nat} {L : c_Ls} {st : List Value} {h : c_Hp} {r : c_R} (hd : decode cc pc = .ok (.astore i, 2)) (e1 : c_store c_rf L i 2 pc st h = some r) (k : c_K p l e R s m args below meth c Q D A H0 base B nL n0 z0 r.1 r.2.1 r.2.2.1 r.2.2.2) : c_K p l e R s m args below meth c Q D A H0 base B nL n0 z0 pc L st h := by
  intro H locs cells slots ls hH hL hlo hc hs
  unfold c_store at e1
  split at e1
  · rename_i v t
    split at e1
    · rename_i hk
      split at e1
      · rename_i hi
        cases e1
        have hi2 : i < nL := by rw [← hL.1]; exact Nat.blt_eq.mp hi
        obtain ⟨a, ha⟩ := c_rf_v (base := base) (B := B) hk
        rw [List.map_cons, ha]
        exact lv_astore hx hb hd hL.has hi2 rfl fun ls1 h1 => k H locs cells slots ls1 hH (hL.stored hi2 (by rw [ha]; exact h1)) hlo hc hs
      · cases e1
    · cases e1
  · cases e1
theorem c_lstore_n {cc : ByteArray} (hx : p.tables.exec = Jvm.exec) (hb : c.code = cc) {q : Fin 4} {pc : Nat} {L : c_Ls} {st : List Value} {h : c_Hp} {r : c_R} (hd : decode cc pc = .ok (.lstore_n q, 1)) (e1 : c_store2 c_lg L q.val 1 pc st h = some r) (k : c_K p l e R s m args below meth c Q D A H0 base B nL n0 z0 r.1 r.2.1 r.2.2.1 r.2.2.2) : c_K p l e R s m args below meth c Q D A H0 base B nL n0 z0 pc L st h := by
  intro H locs cells slots ls hH hL hlo hc hs
  unfold c_store2 at e1
  split at e1
  · rename_i v t
    split at e1
    · rename_i hk
      split at e1
      · rename_i hi
        cases e1
        have hi2 : q.val + 1 < nL := by rw [← hL.1]; exact hi
        obtain ⟨a, ha⟩ := c_lg_v (base := base) (B := B) hk
        rw [List.map_cons, ha]
        exact lv_lstore_n hx hb hd rfl hL.has hi2 rfl fun ls1 h1 => k H locs cells slots ls1 hH (hL.stored2 hi2 (by rw [ha]; exact h1)) hlo hc hs
      · cases e1
    · cases e1
  · cases e1
theorem c_lstore_i {cc : ByteArray} (hx : p.tables.exec = Jvm.exec) (hb : c.code = cc) {i : Nat} {pc : Nat} {L : c_Ls} {st : List Value} {h : c_Hp} {r : c_R} (hd : decode cc pc = .ok (.lstore i, 2)) (e1 : c_store2 c_lg L i 2 pc st h = some r) (k : c_K p l e R s m args below meth c Q D A H0 base B nL n0 z0 r.1 r.2.1 r.2.2.1 r.2.2.2) : c_K p l e R s m args below meth c Q D A H0 base B nL n0 z0 pc L st h := by
  intro H locs cells slots ls hH hL hlo hc hs
  unfold c_store2 at e1
  split at e1
  · rename_i v t
    split at e1
    · rename_i hk
      split at e1
      · rename_i hi
        cases e1
        have hi2 : i + 1 < nL := by rw [← hL.1]; exact hi
        obtain ⟨a, ha⟩ := c_lg_v (base := base) (B := B) hk
        rw [List.map_cons, ha]
        exact lv_lstore hx hb hd hL.has hi2 rfl fun ls1 h1 => k H locs cells slots ls1 hH (hL.stored2 hi2 (by rw [ha]; exact h1)) hlo hc hs
      · cases e1
    · cases e1
  · cases e1
theorem c_dstore_i {cc : ByteArray} (hx : p.tables.exec = Jvm.exec) (hb : c.code = cc) {i : Nat} {pc : Nat} {L : c_Ls} {st : List Value} {h : c_Hp} {r : c_R} (hd : decode cc pc = .ok (.dstore i, 2)) (e1 : c_store2 c_db L i 2 pc st h = some r) (k : c_K p l e R s m args below meth c Q D A H0 base B nL n0 z0 r.1 r.2.1 r.2.2.1 r.2.2.2) : c_K p l e R s m args below meth c Q D A H0 base B nL n0 z0 pc L st h := by
  intro H locs cells slots ls hH hL hlo hc hs
  unfold c_store2 at e1
  split at e1
  · rename_i v t
    split at e1
    · rename_i hk
      split at e1
      · rename_i hi
        cases e1
        have hi2 : i + 1 < nL := by rw [← hL.1]; exact hi
        obtain ⟨a, ha⟩ := c_db_v (base := base) (B := B) hk
        rw [List.map_cons, ha]
        exact lv_dstore hx hb hd hL.has hi2 rfl fun ls1 h1 => k H locs cells slots ls1 hH (hL.stored2 hi2 (by rw [ha]; exact h1)) hlo hc hs
      · cases e1
    · cases e1
  · cases e1
theorem c_iinc_i {cc : ByteArray} (hx : p.tables.exec = Jvm.exec) (hb : c.code = cc) {i : Nat} {n : Int} {pc : Nat} {L : c_Ls} {st : List Value} {h : c_Hp} {x : Int32} {v w : Value} (hd : decode cc pc = .ok (.iinc i n, 3)) (hv : L[i]? = some (some v)) (g1 : c_iv B v = some x) (g4 : c_iv B w = some (x + Int32.ofInt n)) (k : c_K p l e R s m args below meth c Q D A H0 base B nL n0 z0 (pc + 3) (c_set L i w) st h) : c_K p l e R s m args below meth c Q D A H0 base B nL n0 z0 pc L st h := by
  intro H locs cells slots ls hH hL hlo hc hs
  have hi : i < nL := by rw [← hL.1]; exact (List.getElem?_eq_some_iff.mp hv).1
  have hm := c_al_mem (base := base) (B := B) hv
  rw [c_iv_v g1] at hm
  obtain ⟨w9, hw⟩ := List.getElem?_of_mem hm
  exact lv_iinc (v := x + Int32.ofInt n) hx hb hd hL.has hw rfl hi rfl fun ls1 h1 => k H locs cells slots ls1 hH (hL.stored hi (by rw [c_iv_v g4]; exact h1)) hlo hc hs
theorem c_icmp {cc : ByteArray} (hx : p.tables.exec = Jvm.exec) (hb : c.code = cc) {cd : Jvm.ClassFile.Cond} {off : Int} {tgt pc : Nat} {H : Heap} {locs : List Loc} {cells slots : Nat} {ls : Array Slot} {rest : List Value} {x y : Int32} (hd : decode cc pc = .ok (.if_icmp cd off, 3)) (ht : (pc : Int) + off = (tgt : Int)) (k : W p l e R s m args below meth c H locs cells slots Q (F0 m (if c_cmp cd x y = true then tgt else pc + 3) ls rest)) : W p l e R s m args below meth c H locs cells slots Q (F0 m pc ls (.int y :: .int x :: rest)) := by
  by_cases z : c_cmp cd x y = true
  · rw [if_pos z] at k
    cases cd <;> (unfold c_cmp at z; simp only [decide_eq_true_eq] at z)
    · exact lv_icmp_eq hx hb hd ht (fun _ => k) (fun q => absurd z q)
    · exact lv_icmp_ne hx hb hd ht (fun _ => k) (fun q => absurd q z)
    · exact lv_icmp_lt hx hb hd ht (fun _ => k) (fun q => absurd z q)
    · exact lv_icmp_ge hx hb hd ht (fun _ => k) (fun q => absurd z q)
    · exact lv_icmp_gt hx hb hd ht (fun _ => k) (fun q => absurd z q)
    · exact lv_icmp_le hx hb hd ht (fun _ => k) (fun q => absurd z q)
  · rw [if_neg z] at k
    cases cd <;> (unfold c_cmp at z; simp only [decide_eq_true_eq] at z)
    · exact lv_icmp_eq hx hb hd ht (fun q => absurd q z) (fun _ => k)
    · exact lv_icmp_ne hx hb hd ht (fun q => absurd q z) (fun _ => k)
    · exact lv_icmp_lt hx hb hd ht (fun q => absurd q z) (fun _ => k)
    · exact lv_icmp_ge hx hb hd ht (fun q => absurd q z) (fun _ => k)
    · exact lv_icmp_gt hx hb hd ht (fun q => absurd q z) (fun _ => k)
    · exact lv_icmp_le hx hb hd ht (fun q => absurd q z) (fun _ => k)
theorem c_if {cc : ByteArray} (hx : p.tables.exec = Jvm.exec) (hb : c.code = cc) {cd : Jvm.ClassFile.Cond} {off : Int} {tgt pc : Nat} {H : Heap} {locs : List Loc} {cells slots : Nat} {ls : Array Slot} {rest : List Value} {x : Int32} (hd : decode cc pc = .ok (.ifCond cd off, 3)) (ht : (pc : Int) + off = (tgt : Int)) (k : W p l e R s m args below meth c H locs cells slots Q (F0 m (if c_cmp cd x 0 = true then tgt else pc + 3) ls rest)) : W p l e R s m args below meth c H locs cells slots Q (F0 m pc ls (.int x :: rest)) := by
  by_cases z : c_cmp cd x 0 = true
  · rw [if_pos z] at k
    cases cd <;> (unfold c_cmp at z; simp only [decide_eq_true_eq] at z)
    · exact lv_if_eq hx hb hd ht (fun _ => k) (fun q => absurd z q)
    · exact lv_if_ne hx hb hd ht (fun _ => k) (fun q => absurd q z)
    · exact lv_if_lt hx hb hd ht (fun _ => k) (fun q => absurd z q)
    · exact lv_if_ge hx hb hd ht (fun _ => k) (fun q => absurd z q)
    · exact lv_if_gt hx hb hd ht (fun _ => k) (fun q => absurd z q)
    · exact lv_if_le hx hb hd ht (fun _ => k) (fun q => absurd z q)
  · rw [if_neg z] at k
    cases cd <;> (unfold c_cmp at z; simp only [decide_eq_true_eq] at z)
    · exact lv_if_eq hx hb hd ht (fun q => absurd q z) (fun _ => k)
    · exact lv_if_ne hx hb hd ht (fun q => absurd q z) (fun _ => k)
    · exact lv_if_lt hx hb hd ht (fun q => absurd q z) (fun _ => k)
    · exact lv_if_ge hx hb hd ht (fun q => absurd q z) (fun _ => k)
    · exact lv_if_gt hx hb hd ht (fun q => absurd q z) (fun _ => k)
    · exact lv_if_le hx hb hd ht (fun q => absurd q z) (fun _ => k)
theorem c_br_i {cc : ByteArray} (C : c_hE B X E) (hx : p.tables.exec = Jvm.exec) (hb : c.code = cc) {cd : Jvm.ClassFile.Cond} {tgt pc : Nat} {L : c_Ls} {st : List Value} {h : c_Hp} {r : c_R} {x y : Value} (e1 : c_br E cd tgt x y pc L st h = some r) : ∃ a b, c_v base B x = .int a ∧ c_v base B y = .int b ∧ c_iv B y = some b ∧ r = (if c_cmp cd a b = true then tgt else pc + 3, L, st, h) := by
  unfold c_br at e1
  split at e1
  · rename_i z hz
    obtain ⟨a, b, h1, h2, h3⟩ := c_brb_ok C.2.2 hz
    refine ⟨a, b, c_iv_v h1, c_iv_v h2, h2, ?_⟩
    subst h3
    split at e1
    · rename_i h9
      cases e1
      rw [if_pos h9]
    · rename_i h9
      cases e1
      rw [if_neg (by rw [h9]; decide)]
  · cases e1
theorem c_b2_ok {cc : ByteArray} (C : c_hE B X E) {o n pc : Nat} {f : Int32 → Int32 → Option Int32} (hf : c_sem o = f) {L : c_Ls} {st : List Value} {h : c_Hp} {r : c_R} (e1 : c_b2 E o f n pc L st h = some r) : ∃ y x t v a b z, st = y :: x :: t ∧ c_v base B x = .int a ∧ c_v base B y = .int b ∧ f a b = some z ∧ c_v base B v = .int z ∧ r = (pc + n, L, v :: t, h) := by
  unfold c_b2 at e1
  split at e1
  · rename_i y x t
    split at e1
    · rename_i v hv
      cases e1
      obtain ⟨a, b, z, h1, h2, h3, h4⟩ := c_op_ok C.2.2 hf hv
      exact ⟨y, x, t, v, a, b, z, rfl, c_iv_v h1, c_iv_v h2, h3, c_iv_v h4, rfl⟩
    · cases e1
  · cases e1
end Sim
