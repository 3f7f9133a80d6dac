def c_ng : Cond → Bool
  | .fieldLinkNest .. => true
  | .methodLinkNest .. => true
  | .declares _ => true
  | .castable .. => true
  | _ => false
theorem c_ng_warm {w : Cond} {s U : State} (h : c_ng w = true) (hW : s.WarmedH U.vm) (hZ : va_Nw w s) : va_Nw w U := by
  cases w <;> first | exact va_Nw.warmF hW hZ | exact va_Nw.warmM hW hZ | exact va_Nw.warmD hW hZ | exact va_Nw.warmC hW hZ | (simp [c_ng] at h)
theorem c_ng_on {w : Cond} (h : c_ng w = true) : w.onTables = true := by
  cases w <;> first | rfl | (simp [c_ng] at h)
def c_Fac (D : va_G) (A : Nat → ClassId) (s : State) : Prop :=
  va_K D c_cl [] s ∧ (∀ t, t < 3 → ArrOfT s (A t) (c_tag t) ∧ s.vm.findClass ("[" ++ (c_tag t).toString) = some (A t)) ∧ (∀ w ∈ lw_tbl, c_ng w = true → va_Nw w s) ∧
  (∀ (own : String) (k : Nat) (tx : String), Cond.stringRef own k tx ∈ lw_tbl → ∃ sa, vk_R own k tx sa s) ∧ (∀ q ∈ c_NC, va_Nc q.1 q.2 s) ∧ (Cond.arrayOver (.array .int)).before #[] s = true
theorem c_Fac.moved {D : va_G} {A : Nat → ClassId} {s U : State} (h : c_Fac D A s) (hW : s.WarmedH U.vm) : c_Fac D A U := by
  obtain ⟨h1, h2, h3, h4, h5, h6⟩ := h
  refine ⟨va_K.moved hW.alike h1, fun t ht => ⟨arrOfT_moved hW.alike (h2 t ht).1, by rw [hW.alike.findClass]; exact (h2 t ht).2⟩, fun w hw hn => c_ng_warm hn hW (h3 w hw hn), fun own k tx hk => ?_, fun q hq => va_Nc.moved hW.alike (h5 q hq), Stand.arrayOver_alikeB hW.alike h6⟩
  obtain ⟨sa, hsa⟩ := h4 own k tx hk
  exact ⟨sa, vk_R.warm hW hsa⟩
def c_w (i : Nat) (w : Cond) : Bool := match lw_tbl[i]? with
  | some z => decide (z = w) && goodWord w
  | none => false
def c_n (i : Nat) (w : Cond) : Bool := match lw_tbl[i]? with
  | some z => decide (z = w) && c_ng w
  | none => false
theorem c_w_ok {i : Nat} {w : Cond} (h : c_w i w = true) : w ∈ lw_tbl ∧ goodWord w = true := by
  unfold c_w at h
  split at h
  · rename_i z hz
    rw [Bool.and_eq_true, decide_eq_true_eq] at h
    obtain ⟨rfl, h2⟩ := h
    exact ⟨List.mem_of_getElem? hz, h2⟩
  · cases h
theorem c_n_ok {i : Nat} {w : Cond} (h : c_n i w = true) : w ∈ lw_tbl ∧ c_ng w = true := by
  unfold c_n at h
  split at h
  · rename_i z hz
    rw [Bool.and_eq_true, decide_eq_true_eq] at h
    obtain ⟨rfl, h2⟩ := h
    exact ⟨List.mem_of_getElem? hz, h2⟩
  · cases h
def c_len : Instr → Nat
  | .bipush _ => 2
  | .sipush _ => 3
  | .ldc _ => 2
  | .ldc_w _ => 3
  | .iload _ => 2
  | .fload _ => 2
  | .aload _ => 2
  | .istore _ => 2
  | .fstore _ => 2
  | .astore _ => 2
  | .iinc _ _ => 3
  | .if_icmp _ _ => 3
  | .ifCond _ _ => 3
  | .goto _ => 3
  | .getfield _ => 3
  | .putfield _ => 3
  | .new _ => 3
  | .newarray _ => 2
  | .multianewarray _ _ => 4
  | .checkcast _ => 3
  | .invokespecial _ => 3
  | .invokestatic _ => 3
  | .invokevirtual _ => 3
  | _ => 1
def c_okFld (own : String) (i : Nat) (q : c_I) (ix : List Nat) (r : vw_C) : Bool :=
  decide (q.2.2.1 < r.2.2) && (if q.2.2.2 = 0 then c_w (ix.getD 0 0) (.fieldLink own i (r.2.1 q.2.2.1).1 (r.2.1 q.2.2.1).2.1 (r.2.1 q.2.2.1).2.2.1) else c_n (ix.getD 0 0) (.fieldLinkNest own i (r.2.1 q.2.2.1).1 (r.2.1 q.2.2.1).2.1 (r.2.1 q.2.2.1).2.2.1 c_host))
/-- what is looked at ahead of a run: the instruction stands there, its words stand in the tables at the places ix -/
def c_okJ (own : String) (ini : Bool) (F R : Nat) (pc : Nat) (q : c_I) (ix : List Nat) : Bool := match q.1 with
  | .if_icmp _ off => decide ((pc : Int) + off = (q.2.1 : Int))
  | .ifCond _ off => decide ((pc : Int) + off = (q.2.1 : Int))
  | .goto off => decide ((pc : Int) + off = (q.2.1 : Int))
  | .getfield i => match c_cl[q.2.1]? with
    | some r => c_okFld own i q ix r
    | none => false
  | .putfield i => match c_cl[q.2.1]? with
    | some r => c_okFld own i q ix r && (!(r.2.1 q.2.2.1).2.2.2 || (ini && decide ((r.2.1 q.2.2.1).1 = own) && decide (q.2.2.2 = 0)))
    | none => false
  | .ldc i => if q.2.2.2 = 0 then c_w (ix.getD 0 0) (.constant own i (Int32.ofNat q.2.1)) else c_w (ix.getD 0 0) (.constantFloat own i (UInt32.ofNat q.2.1))
  | .ldc_w i => if q.2.2.2 = 0 then c_w (ix.getD 0 0) (.constant own i (Int32.ofNat q.2.1)) else c_w (ix.getD 0 0) (.constantFloat own i (UInt32.ofNat q.2.1))
  | .new i => if q.2.2.2 = 1 then true else match c_cl[q.2.1]? with
    | some r => c_w (ix.getD 0 0) (.classLink own i r.1) && c_w (ix.getD 1 0) (.instantiable r.1 r.2.2) && c_w (ix.getD 2 0) (.initialized r.1)
    | none => false
  | .newarray t => decide (Jvm.Op.newarray.typeOf t = c_tag q.2.1) && decide (q.2.1 < 2) && c_w (ix.getD 0 0) (.arrayClass (c_tag q.2.1))
  | .multianewarray i d => decide (d = 2) && c_w (ix.getD 0 0) (.classLink own i "[[I") && c_w (ix.getD 1 0) (.arrayClass .int)
  | .checkcast i => decide (q.2.1 < 3) && c_w (ix.getD 0 0) (.classLink own i ("[" ++ (c_tag q.2.1).toString))
  | .arraylength => decide (q.2.1 < 3)
  | .invokespecial i => if q.2.2.2 = 6 then c_w (ix.getD 0 0) (.methodLink own i objectInit) && c_w (ix.getD 1 0) (.instanceMethod objectInit) && c_w (ix.getD 2 0) (.code objectInit ⟨#[0xb1]⟩ 1 none) && decide (1 ≤ F) && decide (30 ≤ R) else decide (q.2.2.2 < 6)
  | .invokestatic i => if q.2.2.2 = 7 then c_w (ix.getD 0 0) (.methodLink own i Lib.Math.max.name) && c_w (ix.getD 1 0) (.static Lib.Math.max.name) && c_w (ix.getD 2 0) (.initialized "java/lang/Math") && c_w (ix.getD 3 0) (.code Lib.Math.max.name Lib.Math.max.code 2 (some .int)) && decide (1 ≤ F) && decide (30 ≤ R)
    else if q.2.2.2 = 8 then c_w (ix.getD 0 0) (.methodLink own i Lib.Math.min.name) && c_w (ix.getD 1 0) (.static Lib.Math.min.name) && c_w (ix.getD 2 0) (.initialized "java/lang/Math") && c_w (ix.getD 3 0) (.code Lib.Math.min.name Lib.Math.min.code 2 (some .int)) && decide (1 ≤ F) && decide (30 ≤ R)
    else if q.2.2.2 = 10 then c_w (ix.getD 0 0) (.methodLink own i ⟨"java/lang/Float", "floatToRawIntBits", "(F)I"⟩) && c_w (ix.getD 1 0) (.native ⟨"java/lang/Float", "floatToRawIntBits", "(F)I"⟩) && c_w (ix.getD 2 0) (.static ⟨"java/lang/Float", "floatToRawIntBits", "(F)I"⟩) && c_w (ix.getD 3 0) (.initialized "java/lang/Float") && decide (1 ≤ F) && decide (30 ≤ R)
    else decide (q.2.2.2 < 6)
  | .invokevirtual i => if q.2.2.2 = 9 then c_w (ix.getD 0 0) (.methodLink own i ⟨"[I", "clone", "()Ljava/lang/Object;"⟩) && c_w (ix.getD 1 0) (.sameMethod "[I" "java/lang/Object" "clone" "()Ljava/lang/Object;") && c_w (ix.getD 2 0) (.native ⟨"java/lang/Object", "clone", "()Ljava/lang/Object;"⟩) && c_w (ix.getD 3 0) (.instanceMethod ⟨"java/lang/Object", "clone", "()Ljava/lang/Object;"⟩) && c_w (ix.getD 4 0) (.selects "[I" ⟨"[I", "clone", "()Ljava/lang/Object;"⟩ ⟨"java/lang/Object", "clone", "()Ljava/lang/Object;"⟩) && c_n (ix.getD 5 0) (.castable "[I" "java/lang/Cloneable") && decide (1 ≤ F) && decide (30 ≤ R)
    else decide (q.2.2.2 < 6)
  | _ => true
def c_okI (own : String) (cc : ByteArray) (ini : Bool) (F R : Nat) (pc : Nat) (q : c_I) (ix : List Nat) : Bool := decide (decode cc pc = .ok (q.1, c_len q.1)) && c_okJ own ini F R pc q ix
section Sim
variable {p : Program} {l : Launch} {e : Env} {R : Room} {s : State} {m : MethodId} {args : Array Value} {below : List Frame} {meth : Method} {c : Code} {Q : State → Prop}
variable {D : va_G} {A : Nat → ClassId} {H0 : Heap} {base b nL n0 z0 : Nat} {X : List Int32}
/-- a frame of the method y (code cc), as it stands while it runs -/
def c_ctx (p : Program) (l : Launch) (R : Room) (s : State) (m : MethodId) (args : Array Value) (meth : Method) (c : Code) (D : va_G) (A : Nat → ClassId) (H0 : Heap) (base b : Nat) (X : List Int32) (y : MethodName) (cc : ByteArray) (nL F Rl : Nat) : Prop :=
  p.tables.exec = Jvm.exec ∧ c.code = cc ∧ c.maxLocals = nL ∧ s.vm.findClass y.cls = some m.cls ∧ (∀ w ∈ lw_tbl, goodWord w = true → w.before args s = true) ∧ c_Fac D A s ∧ meth.locks = false ∧ (y.name = "<init>" → meth.name = "<init>") ∧ F ≤ R.frames ∧ Rl ≤ R.locals ∧
  l.stackTraces = false ∧ (va_X b X.length (fun j => X.getD j 0) s H0 ∧ b < base) ∧ vx_Zq Bundle.tN "UNASSIGNED_STACK" Bundle.steD (fun q => base ≤ q) s H0 ∧ vx_Zq Bundle.tN "SUPPRESSED_SENTINEL" Bundle.listD (fun q => base ≤ q) s H0
/-- the machine comes to Q from wherever this picture holds -/
def c_K (p : Program) (l : Launch) (e : Env) (R : Room) (s : State) (m : MethodId) (args : Array Value) (below : List Frame) (meth : Method) (c : Code) (Q : State → Prop) (D : va_G) (A : Nat → ClassId) (H0 : Heap) (base b nL n0 z0 : Nat) (pc : Nat) (L : c_Ls) (st : List Value) (h : c_Hp) : Prop :=
  ∀ (H : Heap) (locs : List Loc) (cells slots : Nat) (ls : Array Slot), c_HR D A H0 base b h H → c_LR base b ls nL L → (∀ z ∈ locs, base ≤ z.base) → cells + n0 = h.length → slots + z0 = c_msz h → W p l e R s m args below meth c H locs cells slots Q (F0 m pc ls (st.map (c_v base b)))
theorem c_ldcwf {cc : ByteArray} {H : Heap} {locs : List Loc} {cells slots pc : Nat} {ls : Array Slot} {rest : List Value} (hexec : p.tables.exec = Jvm.exec) (hb : c.code = cc) {own : String} {index : Nat} {v : UInt32} (hown : s.vm.findClass own = some m.cls) (hconst : (Jvm.Cond.constantFloat own index v).before args s = true) (hdg : decode cc pc = .ok (.ldc_w index, 3)) (k : W p l e R s m args below meth c H locs cells slots Q (F0 m (pc + 3) ls (.float v :: rest))) : W p l e R s m args below meth c H locs cells slots Q (F0 m pc ls rest) := by
  intro T hT X9
  obtain ⟨t, a, b9⟩ := k T hT X9
  obtain ⟨k9, cf, hk, hcf, hcp⟩ := Cond.constantFloat_spec hown hconst
  obtain ⟨k', hk', he⟩ := X9.warmed.alike.2.2 _ _ hk
  have hdg2 : decode c.code pc = .ok (.ldc_w index, 3) := by rw [hb]; exact hdg
  refine ⟨t, ?_, b9⟩
  jvm_step X9.here [hexec, hdg2, ldc_w.wp_float (s := T) (f := F0 m pc ls rest) X9.here.top hk' (by rw [he]; exact hcf) hcp]
  exact a
theorem c_s1_ok {st : List Value} {f : Int32 → List Value → Option c_R} {r : c_R} (h : c_s1 st f = some r) : ∃ x t, st = .int x :: t ∧ f x t = some r := by
  unfold c_s1 at h
  split at h
  · exact ⟨_, _, rfl, h⟩
  · cases h
theorem c_s2_ok {st : List Value} {f : Int32 → Int32 → List Value → Option c_R} {r : c_R} (h : c_s2 st f = some r) : ∃ x y t, st = .int y :: .int x :: t ∧ f x y t = some r := by
  unfold c_s2 at h
  split at h
  · exact ⟨_, _, _, rfl, h⟩
  · cases h
theorem c_f1_ok {st : List Value} {f : UInt32 → List Value → Option c_R} {r : c_R} (h : c_f1 st f = some r) : ∃ x t, st = .float x :: t ∧ f x t = some r := by
  unfold c_f1 at h
  split at h
  · exact ⟨_, _, rfl, h⟩
  · cases h
theorem c_f2_ok {st : List Value} {f : UInt32 → UInt32 → List Value → Option c_R} {r : c_R} (h : c_f2 st f = some r) : ∃ x y t, st = .float y :: .float x :: t ∧ f x y t = some r := by
  unfold c_f2 at h
  split at h
  · exact ⟨_, _, _, rfl, h⟩
  · cases h
theorem c_iload_n {cc : ByteArray} (hx : p.tables.exec = Jvm.exec) (hb : c.code = cc) {q : Fin 4} {pc : Nat} {L : c_Ls} {st : List Value} {h : c_Hp} {r : c_R} (hd : decode cc pc = .ok (.iload_n q, 1)) (e1 : c_iload L q.val 1 pc st h = some r) (k : c_K p l e R s m args below meth c Q D A H0 base b nL n0 z0 r.1 r.2.1 r.2.2.1 r.2.2.2) : c_K p l e R s m args below meth c Q D A H0 base b nL n0 z0 pc L st h := by
  intro H locs cells slots ls hH hL hlo hc hs
  unfold c_iload at e1
  split at e1
  · rename_i x hv
    cases e1
    exact lv_iload_n hx hb hd rfl (hL.at hv) (k H locs cells slots ls hH hL hlo hc hs)
  · cases e1
theorem c_iload_i {cc : ByteArray} (hx : p.tables.exec = Jvm.exec) (hb : c.code = cc) {i : Nat} {pc : Nat} {L : c_Ls} {st : List Value} {h : c_Hp} {r : c_R} (hd : decode cc pc = .ok (.iload i, 2)) (e1 : c_iload L i 2 pc st h = some r) (k : c_K p l e R s m args below meth c Q D A H0 base b nL n0 z0 r.1 r.2.1 r.2.2.1 r.2.2.2) : c_K p l e R s m args below meth c Q D A H0 base b nL n0 z0 pc L st h := by
  intro H locs cells slots ls hH hL hlo hc hs
  unfold c_iload at e1
  split at e1
  · rename_i x hv
    cases e1
    exact lv_iload hx hb hd (hL.at hv) (k H locs cells slots ls hH hL hlo hc hs)
  · cases e1
theorem c_fload_n {cc : ByteArray} (hx : p.tables.exec = Jvm.exec) (hb : c.code = cc) {q : Fin 4} {pc : Nat} {L : c_Ls} {st : List Value} {h : c_Hp} {r : c_R} (hd : decode cc pc = .ok (.fload_n q, 1)) (e1 : c_fload L q.val 1 pc st h = some r) (k : c_K p l e R s m args below meth c Q D A H0 base b nL n0 z0 r.1 r.2.1 r.2.2.1 r.2.2.2) : c_K p l e R s m args below meth c Q D A H0 base b nL n0 z0 pc L st h := by
  intro H locs cells slots ls hH hL hlo hc hs
  unfold c_fload at e1
  split at e1
  · rename_i x hv
    cases e1
    exact lv_fload_n hx hb hd rfl (hL.at hv) (k H locs cells slots ls hH hL hlo hc hs)
  · cases e1
theorem c_fload_i {cc : ByteArray} (hx : p.tables.exec = Jvm.exec) (hb : c.code = cc) {i : Nat} {pc : Nat} {L : c_Ls} {st : List Value} {h : c_Hp} {r : c_R} (hd : decode cc pc = .ok (.fload i, 2)) (e1 : c_fload L i 2 pc st h = some r) (k : c_K p l e R s m args below meth c Q D A H0 base b nL n0 z0 r.1 r.2.1 r.2.2.1 r.2.2.2) : c_K p l e R s m args below meth c Q D A H0 base b nL n0 z0 pc L st h := by
  intro H locs cells slots ls hH hL hlo hc hs
  unfold c_fload at e1
  split at e1
  · rename_i x hv
    cases e1
    exact lv_fload hx hb hd (hL.at hv) (k H locs cells slots ls hH hL hlo hc hs)
  · cases e1
theorem c_aload_n {cc : ByteArray} (hx : p.tables.exec = Jvm.exec) (hb : c.code = cc) {q : Fin 4} {pc : Nat} {L : c_Ls} {st : List Value} {h : c_Hp} {r : c_R} (hd : decode cc pc = .ok (.aload_n q, 1)) (e1 : c_aload L q.val 1 pc st h = some r) (k : c_K p l e R s m args below meth c Q D A H0 base b nL n0 z0 r.1 r.2.1 r.2.2.1 r.2.2.2) : c_K p l e R s m args below meth c Q D A H0 base b nL n0 z0 pc L st h := by
  intro H locs cells slots ls hH hL hlo hc hs
  unfold c_aload at e1
  split at e1
  · rename_i x hv
    cases e1
    exact lv_aload_n hx hb hd rfl (hL.at hv) (k H locs cells slots ls hH hL hlo hc hs)
  · rename_i x hv
    cases e1
    exact lv_aload_n hx hb hd rfl (hL.at hv) (k H locs cells slots ls hH hL hlo hc hs)
  · cases e1
theorem c_aload_i {cc : ByteArray} (hx : p.tables.exec = Jvm.exec) (hb : c.code = cc) {i : Nat} {pc : Nat} {L : c_Ls} {st : List Value} {h : c_Hp} {r : c_R} (hd : decode cc pc = .ok (.aload i, 2)) (e1 : c_aload L i 2 pc st h = some r) (k : c_K p l e R s m args below meth c Q D A H0 base b nL n0 z0 r.1 r.2.1 r.2.2.1 r.2.2.2) : c_K p l e R s m args below meth c Q D A H0 base b nL n0 z0 pc L st h := by
  intro H locs cells slots ls hH hL hlo hc hs
  unfold c_aload at e1
  split at e1
  · rename_i x hv
    cases e1
    exact lv_aload hx hb hd (hL.at hv) (k H locs cells slots ls hH hL hlo hc hs)
  · rename_i x hv
    cases e1
    exact lv_aload hx hb hd (hL.at hv) (k H locs cells slots ls hH hL hlo hc hs)
  · cases e1
theorem c_istore_n {cc : ByteArray} (hx : p.tables.exec = Jvm.exec) (hb : c.code = cc) {q : Fin 4} {pc : Nat} {L : c_Ls} {st : List Value} {h : c_Hp} {r : c_R} (hd : decode cc pc = .ok (.istore_n q, 1)) (e1 : c_istore L q.val 1 pc st h = some r) (k : c_K p l e R s m args below meth c Q D A H0 base b nL n0 z0 r.1 r.2.1 r.2.2.1 r.2.2.2) : c_K p l e R s m args below meth c Q D A H0 base b nL n0 z0 pc L st h := by
  intro H locs cells slots ls hH hL hlo hc hs
  unfold c_istore at e1
  split at e1
  · rename_i x t
    split at e1
    · rename_i hi
      cases e1
      have hi2 : q.val < nL := by rw [← hL.1]; exact hi
      exact lv_istore_n hx hb hd rfl hL.has hi2 rfl fun ls1 h1 => k H locs cells slots ls1 hH (hL.stored hi2 h1) hlo hc hs
    · cases e1
  · cases e1
theorem c_istore_i {cc : ByteArray} (hx : p.tables.exec = Jvm.exec) (hb : c.code = cc) {i : Nat} {pc : Nat} {L : c_Ls} {st : List Value} {h : c_Hp} {r : c_R} (hd : decode cc pc = .ok (.istore i, 2)) (e1 : c_istore L i 2 pc st h = some r) (k : c_K p l e R s m args below meth c Q D A H0 base b nL n0 z0 r.1 r.2.1 r.2.2.1 r.2.2.2) : c_K p l e R s m args below meth c Q D A H0 base b nL n0 z0 pc L st h := by
  intro H locs cells slots ls hH hL hlo hc hs
  unfold c_istore at e1
  split at e1
  · rename_i x t
    split at e1
    · rename_i hi
      cases e1
      have hi2 : i < nL := by rw [← hL.1]; exact hi
      exact lv_istore hx hb hd hL.has hi2 rfl fun ls1 h1 => k H locs cells slots ls1 hH (hL.stored hi2 h1) hlo hc hs
    · cases e1
  · cases e1
theorem c_fstore_n {cc : ByteArray} (hx : p.tables.exec = Jvm.exec) (hb : c.code = cc) {q : Fin 4} {pc : Nat} {L : c_Ls} {st : List Value} {h : c_Hp} {r : c_R} (hd : decode cc pc = .ok (.fstore_n q, 1)) (e1 : c_fstore L q.val 1 pc st h = some r) (k : c_K p l e R s m args below meth c Q D A H0 base b nL n0 z0 r.1 r.2.1 r.2.2.1 r.2.2.2) : c_K p l e R s m args below meth c Q D A H0 base b nL n0 z0 pc L st h := by
  intro H locs cells slots ls hH hL hlo hc hs
  unfold c_fstore at e1
  split at e1
  · rename_i x t
    split at e1
    · rename_i hi
      cases e1
      have hi2 : q.val < nL := by rw [← hL.1]; exact hi
      exact lv_fstore_n hx hb hd rfl hL.has hi2 rfl fun ls1 h1 => k H locs cells slots ls1 hH (hL.stored hi2 h1) hlo hc hs
    · cases e1
  · cases e1
theorem c_fstore_i {cc : ByteArray} (hx : p.tables.exec = Jvm.exec) (hb : c.code = cc) {i : Nat} {pc : Nat} {L : c_Ls} {st : List Value} {h : c_Hp} {r : c_R} (hd : decode cc pc = .ok (.fstore i, 2)) (e1 : c_fstore L i 2 pc st h = some r) (k : c_K p l e R s m args below meth c Q D A H0 base b nL n0 z0 r.1 r.2.1 r.2.2.1 r.2.2.2) : c_K p l e R s m args below meth c Q D A H0 base b nL n0 z0 pc L st h := by
  intro H locs cells slots ls hH hL hlo hc hs
  unfold c_fstore at e1
  split at e1
  · rename_i x t
    split at e1
    · rename_i hi
      cases e1
      have hi2 : i < nL := by rw [← hL.1]; exact hi
      exact lv_fstore hx hb hd hL.has hi2 rfl fun ls1 h1 => k H locs cells slots ls1 hH (hL.stored hi2 h1) hlo hc hs
    · cases e1
  · cases e1
theorem c_astore_n {cc : ByteArray} (hx : p.tables.exec = Jvm.exec) (hb : c.code = cc) {q : Fin 4} {pc : Nat} {L : c_Ls} {st : List Value} {h : c_Hp} {r : c_R} (hd : decode cc pc = .ok (.astore_n q, 1)) (e1 : c_astore L q.val 1 pc st h = some r) (k : c_K p l e R s m args below meth c Q D A H0 base b nL n0 z0 r.1 r.2.1 r.2.2.1 r.2.2.2) : c_K p l e R s m args below meth c Q D A H0 base b nL n0 z0 pc L st h := by
  intro H locs cells slots ls hH hL hlo hc hs
  unfold c_astore at e1
  split at e1
  · rename_i x t
    split at e1
    · rename_i hi
      cases e1
      have hi2 : q.val < nL := by rw [← hL.1]; exact hi
      exact lv_astore_n hx hb hd rfl hL.has hi2 rfl fun ls1 h1 => k H locs cells slots ls1 hH (hL.stored hi2 h1) hlo hc hs
    · cases e1
  · cases e1
theorem c_astore_i {cc : ByteArray} (hx : p.tables.exec = Jvm.exec) (hb : c.code = cc) {i : Nat} {pc : Nat} {L : c_Ls} {st : List Value} {h : c_Hp} {r : c_R} (hd : decode cc pc = .ok (.astore i, 2)) (e1 : c_astore L i 2 pc st h = some r) (k : c_K p l e R s m args below meth c Q D A H0 base b nL n0 z0 r.1 r.2.1 r.2.2.1 r.2.2.2) : c_K p l e R s m args below meth c Q D A H0 base b nL n0 z0 pc L st h := by
  intro H locs cells slots ls hH hL hlo hc hs
  unfold c_astore at e1
  split at e1
  · rename_i x t
    split at e1
    · rename_i hi
      cases e1
      have hi2 : i < nL := by rw [← hL.1]; exact hi
      exact lv_astore hx hb hd hL.has hi2 rfl fun ls1 h1 => k H locs cells slots ls1 hH (hL.stored hi2 h1) hlo hc hs
    · cases e1
  · cases e1
theorem c_iinc_i {cc : ByteArray} (hx : p.tables.exec = Jvm.exec) (hb : c.code = cc) {i : Nat} {n : Int} {pc : Nat} {L : c_Ls} {st : List Value} {h : c_Hp} {x : Int32} (hd : decode cc pc = .ok (.iinc i n, 3)) (hv : L[i]? = some (some (.int x))) (k : c_K p l e R s m args below meth c Q D A H0 base b nL n0 z0 (pc + 3) (c_set L i (.int (x + Int32.ofInt n))) st h) : c_K p l e R s m args below meth c Q D A H0 base b nL n0 z0 pc L st h := by
  intro H locs cells slots ls hH hL hlo hc hs
  have hi : i < nL := by rw [← hL.1]; exact (List.getElem?_eq_some_iff.mp hv).1
  have hm := c_al_mem (base := base) (b := b) hv
  obtain ⟨w, hw⟩ := List.getElem?_of_mem hm
  exact lv_iinc (v := x + Int32.ofInt n) hx hb hd hL.has hw rfl hi rfl fun ls1 h1 => k H locs cells slots ls1 hH (hL.stored hi h1) hlo hc hs
theorem c_icmp {cc : ByteArray} (hx : p.tables.exec = Jvm.exec) (hb : c.code = cc) {cd : Jvm.ClassFile.Cond} {off : Int} {tgt pc : Nat} {L : c_Ls} {st : List Value} {h : c_Hp} {x y : Int32} (hd : decode cc pc = .ok (.if_icmp cd off, 3)) (ht : (pc : Int) + off = (tgt : Int)) (k : c_K p l e R s m args below meth c Q D A H0 base b nL n0 z0 (if c_cmp cd x y = true then tgt else pc + 3) L st h) : c_K p l e R s m args below meth c Q D A H0 base b nL n0 z0 pc L (.int y :: .int x :: st) h := by
  intro H locs cells slots ls hH hL hlo hc hs
  by_cases z : c_cmp cd x y = true
  · rw [if_pos z] at k
    have k1 := k H locs cells slots ls hH hL hlo hc hs
    cases cd <;> (unfold c_cmp at z; simp only [decide_eq_true_eq] at z)
    · exact lv_icmp_eq hx hb hd ht (fun _ => k1) (fun q => absurd z q)
    · exact lv_icmp_ne hx hb hd ht (fun _ => k1) (fun q => absurd q z)
    · exact lv_icmp_lt hx hb hd ht (fun _ => k1) (fun q => absurd z q)
    · exact lv_icmp_ge hx hb hd ht (fun _ => k1) (fun q => absurd z q)
    · exact lv_icmp_gt hx hb hd ht (fun _ => k1) (fun q => absurd z q)
    · exact lv_icmp_le hx hb hd ht (fun _ => k1) (fun q => absurd z q)
  · rw [if_neg z] at k
    have k1 := k H locs cells slots ls hH hL hlo hc hs
    cases cd <;> (unfold c_cmp at z; simp only [decide_eq_true_eq] at z)
    · exact lv_icmp_eq hx hb hd ht (fun q => absurd q z) (fun _ => k1)
    · exact lv_icmp_ne hx hb hd ht (fun q => absurd q z) (fun _ => k1)
    · exact lv_icmp_lt hx hb hd ht (fun q => absurd q z) (fun _ => k1)
    · exact lv_icmp_ge hx hb hd ht (fun q => absurd q z) (fun _ => k1)
    · exact lv_icmp_gt hx hb hd ht (fun q => absurd q z) (fun _ => k1)
    · exact lv_icmp_le hx hb hd ht (fun q => absurd q z) (fun _ => k1)
theorem c_if {cc : ByteArray} (hx : p.tables.exec = Jvm.exec) (hb : c.code = cc) {cd : Jvm.ClassFile.Cond} {off : Int} {tgt pc : Nat} {L : c_Ls} {st : List Value} {h : c_Hp} {x : Int32} (hd : decode cc pc = .ok (.ifCond cd off, 3)) (ht : (pc : Int) + off = (tgt : Int)) (k : c_K p l e R s m args below meth c Q D A H0 base b nL n0 z0 (if c_cmp cd x 0 = true then tgt else pc + 3) L st h) : c_K p l e R s m args below meth c Q D A H0 base b nL n0 z0 pc L (.int x :: st) h := by
  intro H locs cells slots ls hH hL hlo hc hs
  by_cases z : c_cmp cd x 0 = true
  · rw [if_pos z] at k
    have k1 := k H locs cells slots ls hH hL hlo hc hs
    cases cd <;> (unfold c_cmp at z; simp only [decide_eq_true_eq] at z)
    · exact lv_if_eq hx hb hd ht (fun _ => k1) (fun q => absurd z q)
    · exact lv_if_ne hx hb hd ht (fun _ => k1) (fun q => absurd q z)
    · exact lv_if_lt hx hb hd ht (fun _ => k1) (fun q => absurd z q)
    · exact lv_if_ge hx hb hd ht (fun _ => k1) (fun q => absurd z q)
    · exact lv_if_gt hx hb hd ht (fun _ => k1) (fun q => absurd z q)
    · exact lv_if_le hx hb hd ht (fun _ => k1) (fun q => absurd z q)
  · rw [if_neg z] at k
    have k1 := k H locs cells slots ls hH hL hlo hc hs
    cases cd <;> (unfold c_cmp at z; simp only [decide_eq_true_eq] at z)
    · exact lv_if_eq hx hb hd ht (fun q => absurd q z) (fun _ => k1)
    · exact lv_if_ne hx hb hd ht (fun q => absurd q z) (fun _ => k1)
    · exact lv_if_lt hx hb hd ht (fun q => absurd q z) (fun _ => k1)
    · exact lv_if_ge hx hb hd ht (fun q => absurd q z) (fun _ => k1)
    · exact lv_if_gt hx hb hd ht (fun q => absurd q z) (fun _ => k1)
    · exact lv_if_le hx hb hd ht (fun q => absurd q z) (fun _ => k1)
end Sim
