theorem c_ofW {l : Launch} {y : MethodName} {ws ws' : List Cond} {rm : Room} {Pc : Array Value → State → Prop} {Qc : Array Value → State → Outcome → State → Prop} {XC : String → State → State → Prop} {mc ms : Nat} {free : Addr → Prop} {cc : ByteArray} {maxL : Nat} {ret : Option FieldType}
    (hy : plainFor y = true) (hw : ws = Cond.code y cc maxL ret :: ws')
    (body : ∀ p e s m args below meth c s₁, BodyLoose p l y (headSpec ws rm) cc maxL ret e s m args below meth c s₁ → c.maxLocals = maxL → (∀ x ∈ c.exceptionTable.toList, False) → Pc args s →
      W p l e (headSpec ws rm).room s m args below meth c s.heap [] 0 0 (vx_MQ below Qc XC args s mc ms free) (entryFrame m args maxL)) : vx_Met l y ws rm Pc Qc XC mc ms free := by
  refine MetFree.of_bodyRF (code := cc) (maxLocals := maxL) (ret := ret) hy ?_ ?_
  · intro args s m h hn
    obtain ⟨meth, c, h1, h2, h3, h4, h5, h6, -, -⟩ := Cond.code_spec hn (atoms_spec (ws := ws) h _ (by rw [hw]; exact List.mem_cons_self))
    exact ⟨meth, c, h1, h2, h3, h4, h5, h6⟩
  · intro p e s m args below meth c s₁ B hml hP _ hst9
    have hh0 : s₁.heap = s.heap := by rw [B.state]; rfl
    have ht : ∀ x ∈ c.exceptionTable.toList, False := by
      obtain ⟨meth9, c9, h1, h2, -, -, -, -, h7, -⟩ := Cond.code_spec B.named (atoms_spec (ws := ws) B.pre _ (by rw [hw]; exact List.mem_cons_self))
      cases Option.some.inj (h1.symm.trans B.method)
      cases Option.some.inj (h2.symm.trans (Stand.of_body B).code)
      intro x hx
      rw [Array.isEmpty_iff.mp h7] at hx
      cases hx
    obtain ⟨t, a1, o, b1, b2, b3⟩ := body p e s m args below meth c s₁ B hml ht hP s₁ hh0 (Stand.of_body B)
    exact ⟨t, o, hst9.trans a1, b1, b2, b3⟩
theorem c_ofWH {l : Launch} {y : MethodName} {ws ws' : List Cond} {rm : Room} {Pc : Array Value → State → Prop} {Qc : Array Value → State → Outcome → State → Prop} {XC : String → State → State → Prop} {mc ms : Nat} {free : Addr → Prop} {cc : ByteArray} {maxL : Nat} {ret : Option FieldType} {hh : List (Nat × Nat × Nat × Nat)}
    (hy : plainFor y = true) (hw : ws = Cond.codeWith y cc maxL ret hh :: ws')
    (body : ∀ p e s m args below meth c s₁, BodyLoose p l y (headSpec ws rm) cc maxL ret e s m args below meth c s₁ → c.maxLocals = maxL → Pc args s →
      W p l e (headSpec ws rm).room s m args below meth c s.heap [] 0 0 (vx_MQ below Qc XC args s mc ms free) (entryFrame m args maxL)) : vx_Met l y ws rm Pc Qc XC mc ms free := by
  refine MetFree.of_bodyRF (code := cc) (maxLocals := maxL) (ret := ret) hy ?_ ?_
  · intro args s m h hn
    obtain ⟨m9, meth, c, hn9, h1, h2, h3, h4, -, h5, h6, -⟩ := Cond.codeWith_spec (atoms_spec (ws := ws) h _ (by rw [hw]; exact List.mem_cons_self))
    cases hn.symm.trans hn9
    exact ⟨meth, c, h1, h2, h3, h4, h5, h6⟩
  · intro p e s m args below meth c s₁ B hml hP _ hst9
    have hh0 : s₁.heap = s.heap := by rw [B.state]; rfl
    obtain ⟨t, a1, o, b1, b2, b3⟩ := body p e s m args below meth c s₁ B hml hP s₁ hh0 (Stand.of_body B)
    exact ⟨t, o, hst9.trans a1, b1, b2, b3⟩
section Frm
variable {l : Launch} {D : va_G} {A : Nat → ClassId} {H0 : Heap} {base : Nat} {B : c_B} {X : List Int32} {E : c_E}
/-- the tables of a program hold: I has the places of the words -/
def c_okP (P : List (List c_M)) : Prop := ∀ l ∈ P, ∀ md ∈ l, (∃ ixs, c_okM P md ixs = true) ∧ ((c_my md).name ≠ "law" → c_cw md ∈ lw_tbl ∧ goodWord (c_cw md) = true)
theorem c_pm_mem {P : List (List c_M)} {k : Nat} {md : c_M} (h : c_pm P k = some md) : ∃ l ∈ P, md ∈ l := by
  unfold c_pm at h
  rw [c_nth_eq] at h
  split at h
  · rename_i l hl
    rw [c_nth_eq] at h
    exact ⟨l, List.mem_of_getElem? hl, List.mem_of_getElem? h⟩
  · cases h
def c_okT2 (md : c_M) (pc : Nat) (E9 : Nat) : Prop := ∃ q ix, q.2.1 = E9 ∧ c_okT (c_my md).cls (c_mc md) (c_mF md) (c_mR md) pc q ix = true
section One
variable {p : Program} {e : Env} {R : Room} {s : State} {m : MethodId} {args : Array Value} {below : List Frame} {meth : Method} {c : Code} {Q : State → Prop} {n0 z0 : Nat}
/-- what a return hands back, as the machine has it -/
def c_rok (md : c_M) (pc : Nat) (w : Option Value) : Prop :=
  (∃ x t, w = some (.int x) ∧ decode (c_mc md) pc = .ok (.ireturn, 1) ∧ c_mr md = some t ∧ narrow t (.int x) = .int x) ∨ (w = none ∧ decode (c_mc md) pc = .ok (.return_, 1) ∧ c_mr md = none) ∨
  (∃ a t, w = some (.ref a) ∧ decode (c_mc md) pc = .ok (.areturn, 1) ∧ c_mr md = some t ∧ c_isR t = true) ∨ (∃ x, w = some (.long x) ∧ decode (c_mc md) pc = .ok (.lreturn, 1) ∧ c_mr md = some .long) ∨ (∃ x, w = some (.double x) ∧ decode (c_mc md) pc = .ok (.dreturn, 1) ∧ c_mr md = some .double)
/-- what becomes of it at its end: a return -/
def c_Ret (p : Program) (l : Launch) (e : Env) (R : Room) (s : State) (m : MethodId) (args : Array Value) (below : List Frame) (meth : Method) (c : Code) (Q : State → Prop) (D : va_G) (A : Nat → ClassId) (H0 : Heap) (base : Nat) (B : c_B) (n0 z0 : Nat) (md : c_M) (r : c_O × c_Hp) : Prop :=
  ∀ v, r.1 = .inl v → ∀ (pc : Nat) (H : Heap) (locs : List Loc) (cells slots : Nat) (ls : Array Slot), c_rok md pc (v.map (c_v base B)) →
    c_HR D A H0 base B r.2 H → (∀ z ∈ locs, base ≤ z.base) → cells + n0 = r.2.length → slots + z0 = c_msz r.2 → W p l e R s m args below meth c H locs cells slots Q (F0 m pc ls ((v.map (c_v base B)).toList))
/-- .. a throw here -/
def c_Thr (p : Program) (l : Launch) (e : Env) (R : Room) (s : State) (m : MethodId) (args : Array Value) (below : List Frame) (meth : Method) (c : Code) (Q : State → Prop) (D : va_G) (A : Nat → ClassId) (H0 : Heap) (base : Nat) (B : c_B) (nL n0 z0 : Nat) (md : c_M) (r : c_O × c_Hp) : Prop :=
  ∀ E9 h, r = (.inr E9, h ++ [none]) → (c_mh md).isEmpty = true → ∀ (pc : Nat) (H : Heap) (locs : List Loc) (cells slots : Nat) (ls : Array Slot) (rest : List Value), c_okT2 md pc E9 → c_HR D A H0 base B h H → (∀ z ∈ locs, base ≤ z.base) → cells + n0 = h.length → slots + z0 = c_msz h → ls.size = nL → (rest.map fun v => v.category).sum ≤ 8 → W p l e R s m args below meth c H locs cells slots Q (F0 m pc ls rest)
/-- .. a throw that comes by -/
def c_Prp (p : Program) (l : Launch) (e : Env) (R : Room) (s : State) (m : MethodId) (args : Array Value) (below : List Frame) (meth : Method) (c : Code) (Q : State → Prop) (D : va_G) (A : Nat → ClassId) (H0 : Heap) (base : Nat) (B : c_B) (n0 z0 : Nat) (md : c_M) (r : c_O × c_Hp) : Prop :=
  ∀ E9, r.1 = .inr E9 → (c_mh md).isEmpty = true → ∀ (pc : Nat) (H : Heap) (locs : List Loc) (cells slots : Nat) (ls : Array Slot) (rest : List Value) (q : Addr) (ce : Cell), c_HR D A H0 base B r.2 H → (∀ z ∈ locs, base ≤ z.base) → cells + n0 = r.2.length → slots + z0 = c_msz r.2 → H[q]? = some ce → ce.vm = .none → s.vm.findClass (c_exn E9).1 = some ce.cls → vx_W p l e R s m args below meth c H locs cells slots Q (F0 m pc ls rest) q
end One
/-- frames of all methods, for runs of n steps -/
def c_Sim (l : Launch) (D : va_G) (A : Nat → ClassId) (H0 : Heap) (base : Nat) (B : c_B) (X : List Int32) (E : c_E) (P : List (List c_M)) (n : Nat) : Prop :=
  ∀ (md : c_M) (pc : Nat) (L : c_Ls) (st : List Value) (h : c_Hp) (r : c_O × c_Hp), (∃ l9 ∈ P, md ∈ l9) → c_go P E n md pc L st h = some r →
  ∀ (p : Program) (e : Env) (R : Room) (s : State) (m : MethodId) (args : Array Value) (below : List Frame) (meth : Method) (c : Code) (Q : State → Prop) (n0 z0 : Nat),
    c_ctx p l R s m args meth c D A H0 base B X E (c_my md) (c_mc md) (c_mL md) (c_mF md) (c_mR md) → (c_mx md = [] ∨ c.exceptionTable.toList = tableOf (c_mh md)) →
    c_Ret p l e R s m args below meth c Q D A H0 base B n0 z0 md r → c_Thr p l e R s m args below meth c Q D A H0 base B (c_mL md) n0 z0 md r → c_Prp p l e R s m args below meth c Q D A H0 base B n0 z0 md r →
    r.2.length ≤ n0 + R.cells → c_msz r.2 ≤ z0 + R.slots → c_K p l e R s m args below meth c Q D A H0 base B (c_mL md) n0 z0 pc L st h
set_option maxHeartbeats 1000000 in
theorem c_met_of {P : List (List c_M)} {n : Nat} (hl : l.stackTraces = false) (hP : c_okP P) (hE : c_hE B X E) (hS : c_Sim l D A H0 base B X E P n) {md : c_M} (hk : ∃ l9 ∈ P, md ∈ l9) {as : List Value} {h : c_Hp} {r : c_O × c_Hp} (hent : (c_ent as (c_mL md)).length = c_mL md)
    (hgo : c_go P E n md 0 (c_ent as (c_mL md)) [] h = some r) : c_Met l D A H0 base B X md as h r := by
  obtain ⟨l9, hk1, hk2⟩ := hk
  obtain ⟨⟨ixs, ok⟩, -⟩ := hP l9 hk1 md hk2
  unfold c_okM at ok
  simp only [Bool.and_eq_true] at ok
  obtain ⟨⟨o1, o3⟩, o4⟩ := ok
  obtain ⟨hle1, hle2⟩ := c_go_le _ _ _ _ _ _ _ hgo
  unfold c_Met
  have body : ∀ (p : Program) (e : Env) (s : State) (m : MethodId) (args : Array Value) (below : List Frame) (meth : Method) (c : Code) (s₁ : State), BodyLoose p l (c_my md) (headSpec (c_ws md) (c_rm md h r)) (c_mc md) (c_mL md) (c_mr md) e s m args below meth c s₁ → c.maxLocals = c_mL md → c.exceptionTable.toList = tableOf (c_mh md) → c_Pc D A H0 base B X as h args s →
      W p l e (headSpec (c_ws md) (c_rm md h r)).room s m args below meth c s.heap [] 0 0 (vx_MQ below (c_Qc D A H0 base B r) (c_XC D A H0 base B r) args s (r.2.length - h.length) (c_msz r.2 - c_msz h) (fun q => base ≤ q)) (entryFrame m args (c_mL md)) := by
    intro p e s m args below meth c s₁ BL hml htab hv
    obtain ⟨rfl, hH, hG⟩ := hv
    have hts0 := atoms_spec (ws := c_ws md) BL.pre
    have C : c_ctx p l (headSpec (c_ws md) (c_rm md h r)).room s m ((as.map (c_v base B)).toArray) meth c D A H0 base B X E (c_my md) (c_mc md) (c_mL md) (c_mF md) (c_mR md) :=
      ⟨BL.exec, BL.bytes, hml, findClass_of_methodNamed BL.named, fun w h1 h2 => hts0 w (List.mem_cons_of_mem _ (List.mem_filter.mpr ⟨h1, h2⟩)), hG.1, BL.notSynchronized, fun z => by rw [← z]; exact (name_of_methodNamed BL.named BL.method).1, Nat.le_refl _, Nat.le_refl _, hl, hG.2.1, hG.2.2.1, hG.2.2.2.1, hG.2.2.2.2, hE⟩
    have hlocks := BL.notSynchronized
    have K := hS md 0 (c_ent as (c_mL md)) [] h r ⟨l9, hk1, hk2⟩ hgo p e (headSpec (c_ws md) (c_rm md h r)).room s m _ below meth c (vx_MQ below (c_Qc D A H0 base B r) (c_XC D A H0 base B r) ((as.map (c_v base B)).toArray) s (r.2.length - h.length) (c_msz r.2 - c_msz h) (fun q => base ≤ q)) h.length (c_msz h) C (Or.inr htab)
      (by
        intro v hv pc H locs cells slots ls hdec hHr hlo hc hs
        have hc2 : cells = r.2.length - h.length := by omega
        have hs2 : slots = c_msz r.2 - c_msz h := by omega
        subst hc2 hs2
        have hq9 : ∀ t : State, t.heap = H → s.WarmedH t.vm → c_Qc D A H0 base B r ((as.map (c_v base B)).toArray) s (.returned (v.map (c_v base B))) t := fun t ht _ => ⟨v, hv, rfl, by rw [ht]; exact hHr⟩
        generalize hw : v.map (c_v base B) = w at hdec hq9 ⊢
        rcases hdec with ⟨x, t, rfl, hd, hr, hn⟩ | ⟨rfl, hd, hr⟩ | ⟨a9, t, rfl, hd, hr, hn⟩ | ⟨x, rfl, hd, hr⟩ | ⟨x, rfl, hd, hr⟩
        · exact vx_ret (W.zret BL.exec BL.bytes (by rw [BL.returns]; exact hr) hn (fun t ht hW => hq9 t ht hW) hlo hd)
        · exact vx_ret (W.vret BL.exec BL.bytes (by rw [BL.returns]; exact hr) (fun t ht hW => hq9 t ht hW) hlo hd)
        · refine vx_ret (W.aret (rt := t) BL.exec BL.bytes (by rw [BL.returns]; exact hr) ?_ (Or.inr ⟨a9, rfl⟩) (fun t ht hW => hq9 t ht hW) hlo hd hlocks)
          cases t <;> simp only [c_isR] at hn <;> first | (cases hn; done) | exact Or.inl ⟨_, rfl⟩ | exact Or.inr ⟨_, rfl⟩
        · exact vx_ret (W.lret BL.exec BL.bytes (by rw [BL.returns]; exact hr) (fun t ht hW => hq9 t ht hW) hlo hd hlocks)
        · exact vx_ret (W.dret BL.exec BL.bytes (by rw [BL.returns]; exact hr) (fun t ht hW => hq9 t ht hW) hlo hd hlocks))
      (by
        intro E9 h9 hr he pc H locs cells slots ls rest ⟨q, ix, hqE, hok⟩ hHr hlo hc hs hls hsum
        have e1 : r.2.length = h9.length + 1 := by rw [hr]; simp
        have e2 : c_msz r.2 = c_msz h9 + 6 := by rw [hr]; exact c_msz_app _ _
        have hno : ∀ (pc9 : Nat), ∀ x ∈ c.exceptionTable.toList, covers x pc9 = false := by
          intro pc9 x hx
          rw [htab, List.isEmpty_iff.mp he] at hx
          cases hx
        unfold c_okT at hok
        split at hok
        · rename_i ik own2 is tx hq1 hq2
          subst hqE
          simp only [Bool.and_eq_true, decide_eq_true_eq] at hok
          obtain ⟨⟨⟨⟨⟨⟨⟨⟨⟨⟨⟨⟨k1, k2⟩, k3⟩, k4⟩, k5⟩, k6⟩, k7⟩, k8⟩, k9⟩, k10⟩, k11⟩, k12⟩, ⟨⟨x0, x1⟩, x2⟩, x5⟩ := hok
          subst k1
          obtain ⟨u1, u2⟩ := c_w_ok k4
          obtain ⟨v1, v2⟩ := c_w_ok k5
          obtain ⟨hx, hb, hml2, hown, hts, ⟨hK, hA, hng, hSR, -⟩, -⟩ := C
          obtain ⟨sa, hsa⟩ := hSR _ _ _ (List.mem_of_getElem? hq2)
          have hat : ∀ w ∈ c_at9 (c_my md).cls (ix.getD 3 0) q.2.1, w.before ((as.map (c_v base B)).toArray) s = true := by
            intro w hw
            have h1 := (c_ats_ok k8 w hw).1
            rcases h1.2 with h2 | h2
            · exact hts w h1.1 h2
            · exact va_Nw.use (c_ng_on h2) (hng w h1.1 h2)
          have hgood : ∀ w ∈ Cond.classLink (c_my md).cls ik (c_exn q.2.1).1 :: Cond.initialized (c_exn q.2.1).1 :: c_at9 (c_my md).cls (ix.getD 3 0) q.2.1, vx_ot w = true := by
            intro w hw
            rcases List.mem_cons.mp hw with e | hw
            · exact List.all_eq_true.mp k9 w (by rw [e]; exact List.mem_cons_self)
            rcases List.mem_cons.mp hw with e | hw
            · exact List.all_eq_true.mp k9 w (by rw [e]; exact List.mem_cons_of_mem _ List.mem_cons_self)
            · exact (c_ats_ok k8 w hw).2
          have hSA : va_S (fun q => base ≤ q) s.heap H locs := ⟨by rw [hH.2.1, hHr.2.1]; omega, fun z h1 h2 => by rw [hHr.2.2.1 z (Nat.not_le.mp h2), hH.2.2.1 z (Nat.not_le.mp h2)], hlo⟩
          have hkeep : ∀ a : Nat, a < H0.size → ¬ base ≤ a → s.heap[a]? = H0[a]? := fun a _ h2 => hH.2.2.1 a (Nat.not_le.mp h2)
          have hU := hG.2.2.1.kept hkeep
          have hN := hG.2.2.2.1.kept hkeep
          have hXC : ∀ t : State, s.vm.Alike t.vm → t.heap.size = H.size + 1 → (∀ z : Nat, z < H.size → t.heap[z]? = H[z]?) → c_XC D A H0 base B r (c_exn q.2.1).1 s t := fun t _ h1 h2 => ⟨q.2.1, by rw [hr], rfl, by rw [hr]; exact hHr.push h1 h2 (fun y hy => by cases hy)⟩
          have hR2 : (headSpec (c_ws md) (c_rm md h r)).room = c_rm md h r := rfl
          split at k10
          · simp only [Bool.and_eq_true, decide_eq_true_eq] at k10
            exact c_throwS hx hb hl x0 x1 x2 x5 hown k6 (fun n hn => List.all_eq_true.mp k7 n hn) (hts _ u1 u2) (hts _ v1 v2) hsa hat hgood hU hN hSA (by rw [hls, hml2]) k2 k3 k10.1.1 k10.1.2 k10.2 (hno _) k11 (by rw [hR2]; show _ ≤ c_mR md; omega) (by rw [hR2]; show cells + 1 ≤ r.2.length - h.length; omega) (by rw [hR2]; show slots + 6 ≤ c_msz r.2 - c_msz h; omega) hlocks hXC hlo (by omega) (by omega)
          · simp only [Bool.and_eq_true, decide_eq_true_eq] at k10
            exact c_throwSW hx hb hl x0 x1 x2 x5 hown k6 (fun n hn => List.all_eq_true.mp k7 n hn) (hts _ u1 u2) (hts _ v1 v2) hsa hat hgood hU hN hSA (by rw [hls, hml2]) k2 k3 k10.1.1 k10.1.2 k10.2 (hno _) k11 (by rw [hR2]; show _ ≤ c_mR md; omega) (by rw [hR2]; show cells + 1 ≤ r.2.length - h.length; omega) (by rw [hR2]; show slots + 6 ≤ c_msz r.2 - c_msz h; omega) hlocks hXC hlo (by omega) (by omega)
        · cases hok)
      (by
        intro E9 hE9 he pc H locs cells slots ls rest q ce hHr hlo hc hs hce hcv hcl
        have hno : ∀ x ∈ c.exceptionTable.toList, covers x pc = false := by
          intro x hx
          rw [htab, List.isEmpty_iff.mp he] at hx
          cases hx
        exact vx_out hno hlocks hce hcv hcl (fun t ht _ => ⟨E9, hE9, rfl, by rw [ht]; exact hHr⟩) hlo (by omega) (by omega))
      (by show _ ≤ h.length + (r.2.length - h.length); omega) (by show _ ≤ c_msz h + (c_msz r.2 - c_msz h); omega)
    rw [lg_entry_eq]
    exact K s.heap [] 0 0 _ hH (c_ent_LR hent) (fun z hz => by cases hz) (Nat.zero_add _) (Nat.zero_add _)
  by_cases he : (c_mh md).isEmpty = true
  · have hcw : c_cw md = .code (c_my md) (c_mc md) (c_mL md) (c_mr md) := by unfold c_cw; rw [if_pos he]
    refine c_ofW (cc := c_mc md) (maxL := c_mL md) (ret := c_mr md) (ws' := lw_tbl.filter goodWord) o1 (by unfold c_ws; rw [hcw]) (fun p e s m args below meth c s₁ BL hml ht hv => body p e s m args below meth c s₁ BL hml ?_ hv)
    rw [List.isEmpty_iff.mp he]
    exact List.eq_nil_iff_forall_not_mem.mpr ht
  · have hcw : c_cw md = .codeWith (c_my md) (c_mc md) (c_mL md) (c_mr md) (c_mh md) := by unfold c_cw; rw [if_neg he]
    refine c_ofWH (cc := c_mc md) (maxL := c_mL md) (ret := c_mr md) (hh := c_mh md) (ws' := lw_tbl.filter goodWord) o1 (by unfold c_ws; rw [hcw]) (fun p e s m args below meth c s₁ BL hml hv => body p e s m args below meth c s₁ BL hml ?_ hv)
    exact vx_table (x := c_my md) BL (atoms_spec (ws := c_ws md) BL.pre _ (by rw [← hcw]; exact c_cw_in md))
end Frm
