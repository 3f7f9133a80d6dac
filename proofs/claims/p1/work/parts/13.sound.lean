section Snd
variable {l : Launch} {D : va_G} {A : Nat → ClassId} {H0 : Heap} {base : Nat} {B : c_B} {X : List Int32}
/-- what is so of any state while the law runs -/
def c_G (D : va_G) (A : Nat → ClassId) (H0 : Heap) (base : Nat) (B : c_B) (X : List Int32) (U : State) : Prop :=
  c_Fac D A U ∧ (va_X (B.1 0) X.length (fun j => X.getD j 0) U H0 ∧ B.1 0 < base) ∧ vx_Zq Bundle.tN "UNASSIGNED_STACK" Bundle.steD (fun q => base ≤ q) U H0 ∧ vx_Zq Bundle.tN "SUPPRESSED_SENTINEL" Bundle.listD (fun q => base ≤ q) U H0 ∧ c_Old base B H0 U
theorem c_G.moved {s U : State} (h : c_G D A H0 base B X s) (hW : s.WarmedH U.vm) : c_G D A H0 base B X U :=
  ⟨h.1.moved hW, ⟨va_X.moved hW.alike h.2.1.1, h.2.1.2⟩, vx_Zq.moved hW.alike h.2.2.1, vx_Zq.moved hW.alike h.2.2.2.1, h.2.2.2.2.moved hW⟩
theorem c_G.same {s U : State} (h : c_G D A H0 base B X s) (e : U.vm = s.vm) : c_G D A H0 base B X U := h.moved (by rw [e]; exact State.WarmedH.refl s)
def c_Pc (D : va_G) (A : Nat → ClassId) (H0 : Heap) (base : Nat) (B : c_B) (X : List Int32) (as : List Value) (h : c_Hp) : Array Value → State → Prop := fun v U => v = (as.map (c_v base B)).toArray ∧ c_HR D A H0 base B h U.heap ∧ c_G D A H0 base B X U
def c_Qc (D : va_G) (A : Nat → ClassId) (H0 : Heap) (base : Nat) (B : c_B) (r : c_O × c_Hp) : Array Value → State → Outcome → State → Prop := fun _ _ o t => ∃ v, r.1 = .inl v ∧ o = .returned (v.map (c_v base B)) ∧ c_HR D A H0 base B r.2 t.heap
def c_XC (D : va_G) (A : Nat → ClassId) (H0 : Heap) (base : Nat) (B : c_B) (r : c_O × c_Hp) : String → State → State → Prop := fun E _ t => ∃ k, r.1 = .inr k ∧ E = (c_exn k).1 ∧ c_HR D A H0 base B r.2 t.heap
noncomputable def c_rm (md : c_M) (h : c_Hp) (r : c_O × c_Hp) : Room := { frames := c_mF md, cells := r.2.length - h.length, slots := c_msz r.2 - c_msz h, locals := c_mR md }
def c_Met (l : Launch) (D : va_G) (A : Nat → ClassId) (H0 : Heap) (base : Nat) (B : c_B) (X : List Int32) (md : c_M) (as : List Value) (h : c_Hp) (r : c_O × c_Hp) : Prop :=
  vx_Met l (c_my md) (c_ws md) (c_rm md h r) (c_Pc D A H0 base B X as h) (c_Qc D A H0 base B r) (c_XC D A H0 base B r) (r.2.length - h.length) (c_msz r.2 - c_msz h) (fun q => base ≤ q)
theorem c_Pc_blind {as : List Value} {h : c_Hp} : FrameBlind (c_Pc D A H0 base B X as h) := fun _ _ _ _ q => ⟨q.1, q.2.1, q.2.2.same rfl⟩
section Frame
variable {p : Program} {e : Env} {R : Room} {s : State} {m : MethodId} {args : Array Value} {below : List Frame} {meth : Method} {c : Code} {Q : State → Prop} {nL n0 z0 F Rl : Nat} {E : c_E} {y : MethodName} {cc : ByteArray}
theorem c_ctx.G (C : c_ctx p l R s m args meth c D A H0 base B X E y cc nL F Rl) : c_G D A H0 base B X s := by
  obtain ⟨-, -, -, -, -, h6, -, -, -, -, -, h12, h13, h14, h15, -⟩ := C
  exact ⟨h6, h12, h13, h14, h15⟩
theorem c_ctx.pays (C : c_ctx p l R s m args meth c D A H0 base B X E y cc nL F Rl) {md : c_M} (h : c_cw md ∈ lw_tbl ∧ goodWord (c_cw md) = true) : ∀ w ∈ c_ws md, ∀ (a' : Array Value) (U : State), s.WarmedH U.vm → w.before a' U = true := by
  obtain ⟨-, -, -, -, hts, -⟩ := C
  obtain ⟨w1, w2⟩ := h
  intro w hw a' U hW
  unfold c_ws at hw
  rcases List.mem_cons.mp hw with e1 | e1
  · rw [e1]
    exact word_at hW (good_of_word w2) (hts _ w1 w2)
  · obtain ⟨g1, g2⟩ := List.mem_filter.mp e1
    exact word_at hW (good_of_word g2) (hts _ g1 g2)
theorem c_ctx.fix (C : c_ctx p l R s m args meth c D A H0 base B X E y cc nL F Rl) : CallFix p m c cc nL s args (lw_tbl.filter goodWord) y.cls := by
  obtain ⟨hx, hb, hml, hown, hts, -⟩ := C
  exact ⟨hx, hb, hml, hown, fun w hw => hts w (List.mem_filter.mp hw).1 (List.mem_filter.mp hw).2⟩
theorem c_cw_in (md : c_M) : c_cw md ∈ c_ws md := List.mem_cons_self
/-- a call, as it runs -/
theorem c_run {h : c_Hp} {st : List Value} {H : Heap} {locs : List Loc} {cells slots pc : Nat} {ls : Array Slot} {q : c_I} {ix : List Nat} {mz : c_M} {ar : List Value × List Value} {r2 : c_O × c_Hp}
    (C : c_ctx p l R s m args meth c D A H0 base B X E y cc nL F Rl) (ok : c_okC y.cls cc F Rl mz pc q ix = true) (hiw : c_cw mz ∈ lw_tbl ∧ goodWord (c_cw mz) = true) (hp : c_prt mz q st h = some ar) (hM : c_Met l D A H0 base B X mz ar.1 h r2)
    (hH : c_HR D A H0 base B h H) (hlo : ∀ z ∈ locs, base ≤ z.base) (hL : ls.size = nL) (hc : cells + (r2.2.length - h.length) ≤ R.cells) (hs : slots + (c_msz r2.2 - c_msz h) ≤ R.slots) :
    vx_Run p l e R s m args below meth c H locs cells slots (r2.2.length - h.length) (c_msz r2.2 - c_msz h) (F0 m pc ls (st.map (c_v base B))) (ar.2.map (c_v base B)) (c_Qc D A H0 base B r2 (ar.1.map (c_v base B)).toArray) (c_XC D A H0 base B r2) (fun q => base ≤ q) := by
  have hfix := C.fix
  have hG := C.G
  have C2 := C
  obtain ⟨hx, hb, hml, hown, hts, ⟨hK, hA, hng, -⟩, -, -, hF, hR, -, -, -, -, hold, -⟩ := C2
  unfold c_okC at ok
  simp only [Bool.and_eq_true, decide_eq_true_eq] at ok
  obtain ⟨⟨⟨⟨⟨⟨⟨o1, o2⟩, o3⟩, o4⟩, o5⟩, o6⟩, -⟩, ok⟩ := ok
  have hpay := C.pays hiw
  obtain ⟨wz1, wz2⟩ := hiw
  obtain ⟨i1, i2⟩ := c_w_ok o6
  have hini := hts _ i1 i2
  unfold c_prt at hp
  simp only at hp
  split at hp
  · cases hp
  · rename_i hlen
    split at hp
    · rename_i hsum
      split at hp
      · rename_i hrcv
        split at hp
        · cases hp
          have hst : st = (st.take (c_cn q)).reverse.reverse ++ st.drop (c_cn q) := by rw [List.reverse_reverse, List.take_append_drop]
          generalize hn : c_cn q = n at hst hsum hrcv hM hlen ⊢
          unfold c_cn at hn
          generalize has : (st.take n).reverse = as at hst hrcv hM ⊢
          have haslen : as.length = n := by rw [← has, List.length_reverse, List.length_take]; omega
          generalize hrest : st.drop n = rest at hst hsum ⊢
          have hsum2 : ((rest.map (c_v base B)).map fun v => v.category).sum ≤ 8 := by rw [c_v_cats]; exact Nat.le_of_ble_eq_true hsum
          have hstm : st.map (c_v base B) = (as.map (c_v base B)).reverse ++ rest.map (c_v base B) := by rw [hst, List.map_append, List.map_reverse]
          have hpre : ∀ U : State, U.heap = H → s.WarmedH U.vm → c_Pc D A H0 base B X as h (as.map (c_v base B)).toArray U := fun U hU hW => ⟨rfl, by rw [hU]; exact hH, hG.moved hW⟩
          have hCB : ∀ ret : Option FieldType, ∀ i : Nat, (c_mh mz).isEmpty = true → ret = c_mr mz → (Cond.methodLink y.cls i (c_my mz)).before args s = true → CallB R s args y.cls i (c_my mz) (c_mc mz) (c_mL mz) ret (c_ws mz) (c_rm mz h r2) (r2.2.length - h.length) (c_msz r2.2 - c_msz h) q.2.2.1 := by
            intro ret i he hr hlk
            subst hr
            have hcw : c_cw mz = .code (c_my mz) (c_mc mz) (c_mL mz) (c_mr mz) := by unfold c_cw; rw [if_pos he]
            refine ⟨rfl, rfl, by show c_mF mz + 1 ≤ _; omega, by show _ + c_mR mz ≤ _; omega, hpay, by rw [← hcw]; exact c_cw_in mz, by rw [← hcw]; exact hts _ wz1 wz2, hini, ⟨o3, o4⟩, fun sig hsig => ?_, hlk⟩
            rw [hsig] at o5
            exact (Option.some.inj o5).symm
          have hCN : ∀ ret : Option FieldType, ∀ i : Nat, (c_mh mz).isEmpty = true → ret = c_mr mz → (Cond.methodLinkNest y.cls i (c_my mz) c_host).before args s = true → va_CN R s args y.cls i (c_my mz) c_host (c_mc mz) (c_mL mz) ret (c_ws mz) (c_rm mz h r2) (r2.2.length - h.length) (c_msz r2.2 - c_msz h) q.2.2.1 := by
            intro ret i he hr hlk
            subst hr
            have hcw : c_cw mz = .code (c_my mz) (c_mc mz) (c_mL mz) (c_mr mz) := by unfold c_cw; rw [if_pos he]
            refine ⟨⟨rfl, rfl, by show c_mF mz + 1 ≤ _; omega, by show _ + c_mR mz ≤ _; omega, hpay, by rw [← hcw]; exact c_cw_in mz⟩, by rw [← hcw]; exact hts _ wz1 wz2, hini, ⟨o3, o4⟩, fun sig hsig => ?_, hlk⟩
            rw [hsig] at o5
            exact (Option.some.inj o5).symm
          have hlsm : (F0 m pc ls (st.map (c_v base B))).locals.size = nL := hL
          cases hq : q.1
          case invokestatic i =>
            simp only [hq, Bool.and_eq_true, decide_eq_true_eq] at ok
            obtain ⟨⟨hd, k2⟩, k3⟩ := ok
            obtain ⟨u1, u2⟩ := c_w_ok k2
            have hS : c_isS q = true := by unfold c_isS; rw [hq]
            rw [if_pos hS] at hn
            have hal : (as.map (c_v base B)).length = q.2.2.1 := by rw [List.length_map, haslen, hn]
            split at k3
            · obtain ⟨v1, v2⟩ := c_w_ok k3
              by_cases he : (c_mh mz).isEmpty = true
              · exact vx_runS (ret := c_mr mz) hfix hM ⟨hCB _ i he rfl (hts _ v1 v2), hts _ u1 u2⟩ ⟨c_Pc_blind, hpre⟩ rfl hal hlsm hstm (by show 2 * 0 + ((rest.map (c_v base B)).map fun v => v.category).sum ≤ 8; omega) hd ⟨hc, hs⟩
              · have hcw : c_cw mz = .codeWith (c_my mz) (c_mc mz) (c_mL mz) (c_mr mz) (c_mh mz) := by unfold c_cw; rw [if_neg he]
                refine vx_runSX (bytes := c_mc mz) (maxL := c_mL mz) (ret := c_mr mz) (hh := c_mh mz) (rm := c_rm mz h r2) hfix hM ⟨⟨rfl, rfl, by show c_mF mz + 1 ≤ _; omega, by show _ + c_mR mz ≤ _; omega, hpay, by rw [← hcw]; exact c_cw_in mz⟩, by rw [← hcw]; exact hts _ wz1 wz2, hini, ⟨o3, o4⟩, fun sig hsig => ?_, hts _ v1 v2, hts _ u1 u2⟩ ⟨c_Pc_blind, hpre⟩ rfl hal hlsm hstm (by show 2 * 0 + ((rest.map (c_v base B)).map fun v => v.category).sum ≤ 8; omega) hd ⟨hc, hs⟩
                rw [hsig] at o5
                exact (Option.some.inj o5).symm
            · rw [Bool.and_eq_true] at k3
              obtain ⟨v1, v2⟩ := c_n_ok k3.1
              exact vx_runSN (ret := c_mr mz) hfix hM ⟨hCN _ i k3.2 rfl (va_Nw.use rfl (hng _ v1 v2)), hts _ u1 u2, trivial⟩ ⟨c_Pc_blind, hpre⟩ rfl hal hlsm hstm (by show 2 * 0 + ((rest.map (c_v base B)).map fun v => v.category).sum ≤ 8; omega) hd ⟨hc, hs⟩
          case invokevirtual i =>
            simp only [hq, Bool.and_eq_true, decide_eq_true_eq] at ok
            obtain ⟨⟨⟨⟨⟨hd, he⟩, k1⟩, k2⟩, k4⟩, k3⟩ := ok
            obtain ⟨u1, u2⟩ := c_w_ok k2
            obtain ⟨x1, x2⟩ := c_w_ok k4
            have hS : c_isS q = false := by unfold c_isS; rw [hq]
            rw [hS] at hn
            have hn2 : q.2.2.1 + 1 = n := hn
            have hI : c_isI q = false := by unfold c_isI; rw [hq]
            unfold c_rcv at hrcv
            rw [if_neg (show ¬ c_isS q = true by rw [hS]; decide)] at hrcv
            obtain ⟨a0, As, hasA, ar0, har0, hrecv⟩ : ∃ a0 As, as = a0 :: As ∧ ∃ ar0, c_v base B a0 = .ref ar0 ∧ ∃ cellB : Cell, H[ar0]? = some cellB ∧ cellB.vm.isStatics = false ∧ s.vm.findClass (c_my mz).cls = some cellB.cls := by
              split at hrcv
              · rename_i a As
                rw [if_neg (by rw [hI]; decide)] at hrcv
                obtain ⟨fs, hfs⟩ := Option.isSome_iff_exists.mp hrcv
                obtain ⟨rr, g1, -, cell, q1, q2, q3, -⟩ := hH.2.2.2 a _ (c_fs_ok hfs)
                simp only at g1 q1 q2
                have hC : rr.1 = (c_my mz).cls := by
                  split at k1
                  · rename_i h100
                    rw [h100] at g1
                    have h99 := (List.getElem?_eq_some_iff.mp g1).1
                    simp [c_cl] at h99
                  · rw [decide_eq_true_eq, g1] at k1
                    simpa using k1
                exact ⟨.ref a, As, rfl, base + a, rfl, cell, q1, by rw [q3]; rfl, by rw [q2, ← hC]; exact (hK.1 _ _ g1).2.1⟩
              · rename_i As
                rw [Bool.and_eq_true] at hrcv
                have h100 := Nat.eq_of_beq_eq_true hrcv.2
                rw [if_pos h100, decide_eq_true_eq] at k1
                obtain ⟨-, -, -, ⟨h7, -⟩, -, -⟩ := hold
                obtain ⟨cell, g1, g2, g3, -⟩ := h7.kept (hH.S hlo).2.1
                exact ⟨.retAddr 2, As, rfl, B.1 2, rfl, cell, g1, g2, by rw [k1]; exact g3⟩
              · cases hrcv
            subst hasA
            have hal : (As.map (c_v base B)).length = q.2.2.1 := by rw [List.length_map]; simp only [List.length_cons] at haslen; omega
            have hstm2 : st.map (c_v base B) = (As.map (c_v base B)).reverse ++ .ref ar0 :: rest.map (c_v base B) := by rw [hstm]; simp [har0]
            rw [List.map_cons, har0] at hpre
            split at k3
            · obtain ⟨v1, v2⟩ := c_w_ok k3
              exact vx_runV (ret := c_mr mz) hfix hM ⟨hCB _ i he rfl (hts _ v1 v2), hts _ u1 u2, hts _ x1 x2⟩ ⟨c_Pc_blind, hrecv, hpre⟩ rfl hal hlsm hstm2 (by show 2 * 0 + ((rest.map (c_v base B)).map fun v => v.category).sum ≤ 8; omega) hd ⟨hc, hs⟩
            · obtain ⟨v1, v2⟩ := c_n_ok k3
              exact vx_runVN (ret := c_mr mz) hfix hM ⟨hCN _ i he rfl (va_Nw.use rfl (hng _ v1 v2)), hts _ u1 u2, hts _ x1 x2⟩ ⟨c_Pc_blind, hrecv, hpre⟩ rfl hal hlsm hstm2 (by show 2 * 0 + ((rest.map (c_v base B)).map fun v => v.category).sum ≤ 8; omega) hd ⟨hc, hs⟩
          case invokespecial i =>
            simp only [hq, Bool.and_eq_true, decide_eq_true_eq] at ok
            obtain ⟨⟨⟨⟨⟨hd, he⟩, k1⟩, k5⟩, k2⟩, k3⟩ := ok
            obtain ⟨u1, u2⟩ := c_w_ok k2
            have hS : c_isS q = false := by unfold c_isS; rw [hq]
            have hI : c_isI q = true := by unfold c_isI; rw [hq]
            rw [hS] at hn
            have hn2 : q.2.2.1 + 1 = n := hn
            unfold c_rcv at hrcv
            rw [if_neg (show ¬ c_isS q = true by rw [hS]; decide)] at hrcv
            split at hrcv
            · rename_i a As
              have hal : (As.map (c_v base B)).length = q.2.2.1 := by rw [List.length_map]; simp only [List.length_cons] at haslen; omega
              have hstm2 : st.map (c_v base B) = (As.map (c_v base B)).reverse ++ .ref (base + a) :: rest.map (c_v base B) := by rw [hstm]; simp [c_v]
              split at k3
              · obtain ⟨v1, v2⟩ := c_w_ok k3
                exact vx_runI hfix hM ⟨hCB none i he k1.symm (hts _ v1 v2), k5, hts _ u1 u2⟩ ⟨c_Pc_blind, hpre⟩ rfl hal hlsm hstm2 (by show 2 * 0 + ((rest.map (c_v base B)).map fun v => v.category).sum ≤ 8; omega) hd ⟨hc, hs⟩
              · obtain ⟨v1, v2⟩ := c_n_ok k3
                exact vx_runIN hfix hM ⟨hCN none i he k1.symm (va_Nw.use rfl (hng _ v1 v2)), k5, hts _ u1 u2⟩ ⟨c_Pc_blind, hpre⟩ rfl hal hlsm hstm2 (by show 2 * 0 + ((rest.map (c_v base B)).map fun v => v.category).sum ≤ 8; omega) hd ⟨hc, hs⟩
            · rw [hI] at hrcv; cases hrcv
            · cases hrcv
          all_goals (simp only [hq] at ok; cases ok)
        · cases hp
      · cases hp
    · cases hp
end Frame
end Snd
