section SimB
variable {p : Program} {l : Launch} {e : Env} {R : Room} {s : State} {m : MethodId} {args : Array Value} {below : List Frame} {meth : Method} {c : Code} {Q : State → Prop}
variable {D : va_G} {A : Nat → ClassId} {H0 : Heap} {base b nL n0 z0 F Rl : Nat} {X : List Int32} {y : MethodName} {cc : ByteArray} {ini : Bool} {pc : Nat} {q : c_I} {ix : List Nat} {L : c_Ls} {st : List Value} {h : c_Hp} {r : c_R}
theorem c_sum {t : List Value} {n : Nat} (h : (t.map fun v => v.category).sum ≤ n) : ((t.map (c_v base b)).map fun v => v.category).sum ≤ n := by
  rw [c_v_cats]; exact h
theorem c_special_i (C : c_ctx p l R s m args meth c D A H0 base b X y cc nL F Rl) {i : Nat} (hq : q.1 = .invokespecial i) (hq2 : q.2.2.2 = 6) (hd : decode cc pc = .ok (.invokespecial i, 3)) (ok : c_okJ y.cls ini F Rl pc q ix = true) (e1 : c_call1 q pc L st h = some r) (k : c_K p l e R s m args below meth c Q D A H0 base b nL n0 z0 r.1 r.2.1 r.2.2.1 r.2.2.2) : c_K p l e R s m args below meth c Q D A H0 base b nL n0 z0 pc L st h := by
  intro H locs cells slots ls hH hL hlo hc hs
  obtain ⟨hx, hb, hml, hown, hts, ⟨hK, hA, -⟩, -, -, hF, hR, -⟩ := C
  unfold c_okJ at ok
  simp only [hq] at ok
  rw [if_pos hq2] at ok
  simp only [Bool.and_eq_true, decide_eq_true_eq] at ok
  obtain ⟨⟨⟨⟨o1, o2⟩, o3⟩, o4⟩, o5⟩ := ok
  obtain ⟨u1, u2⟩ := c_w_ok o1
  obtain ⟨v1, v2⟩ := c_w_ok o2
  obtain ⟨w1, w2⟩ := c_w_ok o3
  unfold c_call1 at e1
  rw [hq2] at e1
  simp only at e1
  split at e1
  · rename_i a t
    split at e1
    · rename_i hsum
      cases e1
      have hsum2 := c_sum (base := base) (b := b) hsum
      refine W.objInit hx hb hown (hts _ u1 u2) (hts _ v1 v2) (hts _ w1 w2) rfl (by rw [hml]; exact hL.2.1) rfl hd (by omega) ?_ (k H locs cells slots ls hH hL hlo hc hs)
      show 2 * 0 + _ + 12 ≤ _
      omega
    · cases e1
  · cases e1
theorem c_static_i (C : c_ctx p l R s m args meth c D A H0 base b X y cc nL F Rl) {i : Nat} (hq : q.1 = .invokestatic i) (hd : decode cc pc = .ok (.invokestatic i, 3)) (hq6 : ¬ q.2.2.2 < 6) (ok : c_okJ y.cls ini F Rl pc q ix = true) (e1 : c_call1 q pc L st h = some r) (hr1 : r.2.2.2.length ≤ n0 + R.cells) (hr2 : c_msz r.2.2.2 ≤ z0 + R.slots) (k : c_K p l e R s m args below meth c Q D A H0 base b nL n0 z0 r.1 r.2.1 r.2.2.1 r.2.2.2) : c_K p l e R s m args below meth c Q D A H0 base b nL n0 z0 pc L st h := by
  intro H locs cells slots ls hH hL hlo hc hs
  obtain ⟨hx, hb, hml, hown, hts, ⟨hK, hA, -⟩, -, -, hF, hR, -⟩ := C
  unfold c_okJ at ok
  simp only [hq] at ok
  have hml2 : c.maxLocals = ls.size := by rw [hml]; exact hL.2.1.symm
  by_cases h7 : q.2.2.2 = 7
  · rw [if_pos h7] at ok
    simp only [Bool.and_eq_true, decide_eq_true_eq] at ok
    obtain ⟨⟨⟨⟨⟨o1, o2⟩, o3⟩, o6⟩, o4⟩, o5⟩ := ok
    obtain ⟨u1, u2⟩ := c_w_ok o1
    obtain ⟨v1, v2⟩ := c_w_ok o2
    obtain ⟨w1, w2⟩ := c_w_ok o3
    obtain ⟨x1, x2⟩ := c_w_ok o6
    unfold c_call1 at e1
    rw [h7] at e1
    simp only at e1
    split at e1
    · split at e1
      · rename_i hsum
        cases e1
        have hsum2 := c_sum (base := base) (b := b) hsum
        simp only at hr1 hr2
        exact va_mmax hx hb hml2 hown (hts _ u1 u2) (hts _ v1 v2) (hts _ w1 w2) (hts _ x1 x2) (by omega) (by omega) (by omega) (by omega) hd (k H locs cells slots ls hH hL hlo hc hs)
      · cases e1
    · cases e1
  · rw [if_neg h7] at ok
    by_cases h8 : q.2.2.2 = 8
    · rw [if_pos h8] at ok
      simp only [Bool.and_eq_true, decide_eq_true_eq] at ok
      obtain ⟨⟨⟨⟨⟨o1, o2⟩, o3⟩, o6⟩, o4⟩, o5⟩ := ok
      obtain ⟨u1, u2⟩ := c_w_ok o1
      obtain ⟨v1, v2⟩ := c_w_ok o2
      obtain ⟨w1, w2⟩ := c_w_ok o3
      obtain ⟨x1, x2⟩ := c_w_ok o6
      unfold c_call1 at e1
      rw [h8] at e1
      simp only at e1
      split at e1
      · split at e1
        · rename_i hsum
          cases e1
          have hsum2 := c_sum (base := base) (b := b) hsum
          simp only at hr1 hr2
          exact va_mmin hx hb hml2 hown (hts _ u1 u2) (hts _ v1 v2) (hts _ w1 w2) (hts _ x1 x2) (by omega) (by omega) (by omega) (by omega) hd (k H locs cells slots ls hH hL hlo hc hs)
        · cases e1
      · cases e1
    · rw [if_neg h8] at ok
      by_cases h10 : q.2.2.2 = 10
      · rw [if_pos h10] at ok
        simp only [Bool.and_eq_true, decide_eq_true_eq] at ok
        obtain ⟨⟨⟨⟨⟨o1, o2⟩, o3⟩, o6⟩, o4⟩, o5⟩ := ok
        obtain ⟨u1, u2⟩ := c_w_ok o1
        obtain ⟨v1, v2⟩ := c_w_ok o2
        obtain ⟨w1, w2⟩ := c_w_ok o3
        obtain ⟨x1, x2⟩ := c_w_ok o6
        unfold c_call1 at e1
        rw [h10] at e1
        simp only at e1
        split at e1
        · split at e1
          · rename_i hsum
            cases e1
            have hsum2 := c_sum (base := base) (b := b) hsum
            exact vn_f2i hx hb hml2 hown (hts _ u1 u2) (hts _ v1 v2) (hts _ w1 w2) (hts _ x1 x2) (by omega) (by omega) hd (k H locs cells slots ls hH hL hlo hc hs)
          · cases e1
        · cases e1
      · rw [if_neg h10] at ok
        simp only [decide_eq_true_eq] at ok
        exact absurd ok hq6
theorem c_isi_fit {vs : List Value} (h : vs.all c_isi = true) {cA : ClassId} : ∀ (i : Nat) (v : Value), (arrV cA vs.length (vp_V (vs.map (c_v base b)))).slots[i]? = some v → fits .int v = true := by
  intro i v hv
  refine va_fit (F := vp_V (vs.map (c_v base b))) (n := vs.length) (fun j hj => ?_) i v hv
  obtain ⟨w, hw⟩ : ∃ w, vs[j]? = some w := ⟨_, List.getElem?_eq_getElem hj⟩
  rw [c_vV hw]
  have h1 := List.all_eq_true.mp h w (List.mem_of_getElem? hw)
  cases w <;> first | rfl | (simp [c_isi] at h1)
theorem c_virtual_i (C : c_ctx p l R s m args meth c D A H0 base b X y cc nL F Rl) {i : Nat} (hq : q.1 = .invokevirtual i) (hd : decode cc pc = .ok (.invokevirtual i, 3)) (hq6 : ¬ q.2.2.2 < 6) (ok : c_okJ y.cls ini F Rl pc q ix = true) (e1 : c_call1 q pc L st h = some r) (hr1 : r.2.2.2.length ≤ n0 + R.cells) (hr2 : c_msz r.2.2.2 ≤ z0 + R.slots) (k : c_K p l e R s m args below meth c Q D A H0 base b nL n0 z0 r.1 r.2.1 r.2.2.1 r.2.2.2) : c_K p l e R s m args below meth c Q D A H0 base b nL n0 z0 pc L st h := by
  intro H locs cells slots ls hH hL hlo hc hs
  obtain ⟨hx, hb, hml, hown, hts, ⟨hK, hA, hng, -⟩, -, -, hF, hR, -⟩ := C
  unfold c_okJ at ok
  simp only [hq] at ok
  have hml2 : c.maxLocals = ls.size := by rw [hml]; exact hL.2.1.symm
  by_cases h9 : q.2.2.2 = 9
  · rw [if_pos h9] at ok
    simp only [Bool.and_eq_true, decide_eq_true_eq] at ok
    obtain ⟨⟨⟨⟨⟨⟨⟨o1, o2⟩, o3⟩, o4⟩, o5⟩, o6⟩, o7⟩, o8⟩ := ok
    obtain ⟨u1, u2⟩ := c_w_ok o1
    obtain ⟨v1, v2⟩ := c_w_ok o2
    obtain ⟨w1, w2⟩ := c_w_ok o3
    obtain ⟨x1, x2⟩ := c_w_ok o4
    obtain ⟨y1, y2⟩ := c_w_ok o5
    obtain ⟨z1, z2⟩ := c_n_ok o6
    unfold c_call1 at e1
    rw [h9] at e1
    simp only at e1
    split at e1
    · rename_i a t
      split at e1
      · rename_i vs hvs
        split at e1
        · rename_i hsum
          split at e1
          · rename_i hall
            cases e1
            have hsum2 := c_sum (base := base) (b := b) hsum
            simp only [List.length_append, List.length_cons, List.length_nil, c_msz_app, c_sz] at hr1 hr2
            obtain ⟨-, g2⟩ := hH.2.2.2 a _ (c_vs_ok hvs)
            obtain ⟨hA1, hA2⟩ := hA 0 (by decide)
            obtain ⟨c0, t0', f1, f2, f3⟩ := Cond.castable_spec (va_Nw.use (A := args) rfl (hng _ z1 z2))
            have hA3 : s.vm.findClass "[I" = some (A 0) := hA2
            cases hA3.symm.trans f1
            intro T hT X9
            obtain ⟨-, kA, hkA, comp, hkind⟩ := State.isArrayOf_alike X9.warmed.alike (hA1 0 (fun _ => .null))
            obtain ⟨-, kS, hkS, compS, hkindS⟩ := hA1 0 (fun _ => .null)
            obtain ⟨vm', X', st9⟩ := X9.cloneArray hx hown (hts _ u1 u2) (hts _ v1 v2) (hts _ w1 w2) (hts _ x1 x2) (hts _ y1 y2) (a := base + a) (cell := arrV (A 0) vs.length (vp_V (vs.map (c_v base b)))) (by rw [hT]; exact g2) (fun k h => by cases h) (fun h => by cases h) hA3 f2 f3
              (fun i v hv => by
                have hk' : T.vm.classes[A 0]? = some kA := hkA
                have h5 : fits (c_tag 0) v = true := c_isi_fit hall i v hv
                show T.fitsSlot (A 0) .none i v = true
                simpa [State.fitsSlot, State.slotType?, hk', hkind] using h5)
              (g := F0 m pc ls (.ref (base + a) :: t.map (c_v base b))) rfl (by rw [hml2]) rfl (by rw [hb]; exact hd) (by omega) (by show 2 * 0 + _ + 14 ≤ _; omega) (by omega) (by rw [arrV_size]; omega) (hloader := Vm.clonesLoader_of_array hkS hkindS)
            rw [arrV_size] at X'
            have e9 : ({ cls := (arrV (A 0) vs.length (vp_V (vs.map (c_v base b)))).cls, slots := (arrV (A 0) vs.length (vp_V (vs.map (c_v base b)))).slots } : Cell) = arrV (A 0) vs.length (vp_V (vs.map (c_v base b))) := rfl
            rw [e9] at X' st9
            have hT2 : T.heap.size = base + h.length := by rw [hT]; exact hH.2.1
            obtain ⟨t2, b1, b2⟩ := k (T.heap.push (arrV (A 0) vs.length (vp_V (vs.map (c_v base b))))) locs (cells + 1) (slots + vs.length) ls
              (hH.push (x := some (.inr (0, vs))) (by rw [Array.size_push, hT]) (fun z hz => by rw [Array.getElem?_push, hT, if_neg (Nat.ne_of_lt hz)]) (fun y9 hy9 => by
                cases hy9
                refine ⟨(show (0 : Nat) < 3 by decide), ?_⟩
                rw [← hT2, Array.getElem?_push_size])) hL hlo (by simp; omega) (by rw [c_msz_app]; simp only [c_sz]; omega)
              ((T.setVm vm').pushCell (arrV (A 0) vs.length (vp_V (vs.map (c_v base b))))) rfl X'
            refine ⟨t2, st9 t2 ?_, b2⟩
            have b3 := b1
            simp only [List.map_cons, c_v, ← hT2] at b3
            exact b3
          · cases e1
        · cases e1
      · cases e1
    · cases e1
  · rw [if_neg h9] at ok
    simp only [decide_eq_true_eq] at ok
    exact absurd ok hq6
theorem c_msz_rep (n : Nat) (x : c_Cell) : c_msz (List.replicate n x) = n * c_sz x := by
  unfold c_msz
  simp
theorem c_msz_app2 (h h2 : c_Hp) : c_msz (h ++ h2) = c_msz h + c_msz h2 := by
  unfold c_msz
  simp
theorem c_msz_one (x : c_Cell) : c_msz [x] = c_sz x := by
  unfold c_msz
  simp
theorem c_outer0 (cA : ClassId) (N h0 : Nat) : ∀ i : Nat, Jvm.Free.Multi.outerC cA N h0 i = arrV cA N (fun j => if j < i then Value.ref (h0 + 1 + j) else .null)
  | 0 => by
    show ({ cls := cA, slots := Array.replicate N .null, vm := .none } : Cell) = _
    unfold arrV
    congr 1
    apply Array.ext
    · simp
    · intro i h1 h2
      simp
  | i + 1 => by
    show (Jvm.Free.Multi.outerC cA N h0 i).setSlot i (.ref (h0 + 1 + i)) = _
    rw [c_outer0 cA N h0 i, arrV_store]
    congr 1
    funext j
    unfold updV
    by_cases e : j = i
    · subst e; simp
    · by_cases e2 : j < i
      · rw [if_neg e, if_pos (show j < i + 1 by omega)]; exact if_pos e2
      · rw [if_neg e, if_neg (show ¬ j < i + 1 by omega)]; exact if_neg e2
theorem c_outer (cA : ClassId) (N h0 hl : Nat) (e : h0 = base + hl) : Jvm.Free.Multi.outerC cA N h0 N = arrV cA ((List.range N).map (fun j => Value.ref (hl + 1 + j))).length (vp_V (((List.range N).map (fun j => Value.ref (hl + 1 + j))).map (c_v base b))) := by
  rw [c_outer0, List.length_map, List.length_range]
  refine c_arrV_congr fun j hj => ?_
  rw [if_pos hj, c_vV (v := .ref (hl + 1 + j)) (by simp [hj])]
  have e3 : h0 + 1 + j = base + (hl + 1 + j) := by omega
  exact congrArg Value.ref e3
theorem c_inner (cA : ClassId) (M : Nat) : Jvm.Free.Multi.innerC cA M (.int 0) = arrV cA (List.replicate M (Value.int 0)).length (vp_V ((List.replicate M (Value.int 0)).map (c_v base b))) := by
  show ({ cls := cA, slots := Array.replicate M (.int 0), vm := .none } : Cell) = _
  rw [List.length_replicate, c_arrV_congr (g := fun _ => .int 0) (c_rep_V rfl)]
  unfold arrV
  congr 1
  apply Array.ext
  · simp
  · intro i h1 h2
    simp
theorem c_mnew_i (C : c_ctx p l R s m args meth c D A H0 base b X y cc nL F Rl) {i d : Nat} (hq : q.1 = .multianewarray i d) (hd : decode cc pc = .ok (.multianewarray i d, 4)) (ok : c_okJ y.cls ini F Rl pc q ix = true) (e1 : c_mnew pc L st h = some r) (hr1 : r.2.2.2.length ≤ n0 + R.cells) (hr2 : c_msz r.2.2.2 ≤ z0 + R.slots) (k : c_K p l e R s m args below meth c Q D A H0 base b nL n0 z0 r.1 r.2.1 r.2.2.1 r.2.2.2) : c_K p l e R s m args below meth c Q D A H0 base b nL n0 z0 pc L st h := by
  intro H locs cells slots ls hH hL hlo hc hs
  obtain ⟨hx, hb, hml, hown, hts, ⟨hK, hA, hng, -, -, hover⟩, -, -, hF, hR, -⟩ := C
  unfold c_okJ at ok
  simp only [hq, Bool.and_eq_true, decide_eq_true_eq] at ok
  obtain ⟨⟨rfl, o2⟩, o3⟩ := ok
  obtain ⟨u1, u2⟩ := c_w_ok o2
  obtain ⟨v1, v2⟩ := c_w_ok o3
  unfold c_mnew at e1
  split at e1
  · rename_i kk nn t
    split at e1
    · cases e1
    · rename_i hn
      split at e1
      · cases e1
      · rename_i hk
        split at e1
        · rename_i hn2
          split at e1
          · rename_i hk2
            cases e1
            simp only [List.length_append, List.length_cons, List.length_nil, c_msz_app2, c_msz_rep, c_msz_one, c_sz, List.length_map, List.length_range, List.length_replicate] at hr1 hr2
            intro T hT X9
            obtain ⟨vm₁, cA, comp, -, fA, fC, -, -, X', step⟩ := X9.multianewarray2F hx hown (hts _ u1 u2) (show (Cond.arrayOver (.array .int)).before args s = true from hover) (hts _ v1 v2) (g := F0 m pc ls (.int kk :: .int nn :: t.map (c_v base b))) rfl (by rw [hb]; exact hd) rfl hn hk (by omega) (by show _ * 4 ≤ _; omega) (by omega) rfl rfl (by omega) (by omega)
            have hA0 : comp = A 0 := Option.some.inj (fC.symm.trans (hA 0 (by decide)).2)
            have hA2 : cA = A 2 := Option.some.inj (fA.symm.trans (hA 2 (by decide)).2)
            subst hA0 hA2
            have hTs : (T.setVm vm₁).heap.size = base + h.length := by show T.heap.size = _; rw [hT]; exact hH.2.1
            obtain ⟨f1, f2, -, -⟩ := Jvm.Free.Multi.fill_facts (T.setVm vm₁) (A 2) (A 0) nn.toNatClampNeg kk.toNatClampNeg (defaultValue .int) nn.toNatClampNeg
            have f3 := fun a (ha : a < (T.setVm vm₁).heap.size) => Jvm.Free.Multi.fill_old (T.setVm vm₁) (A 2) (A 0) nn.toNatClampNeg kk.toNatClampNeg (defaultValue .int) ha nn.toNatClampNeg
            have f4 := Jvm.Free.Multi.fill_inner (T.setVm vm₁) (A 2) (A 0) nn.toNatClampNeg kk.toNatClampNeg (defaultValue .int) nn.toNatClampNeg
            rw [hTs] at f1 f2 f3 f4
            have hTh : (T.setVm vm₁).heap = H := hT
            rw [hTh] at f3
            obtain ⟨t2, b1, b2⟩ := k (Jvm.Free.Multi.fill (T.setVm vm₁) (A 2) (A 0) nn.toNatClampNeg kk.toNatClampNeg (defaultValue .int) nn.toNatClampNeg).heap locs _ _ ls
              ⟨hH.1, by rw [f1]; simp; omega, fun z hz => by rw [f3 z (by omega)]; exact hH.2.2.1 z hz, fun j x hj => by
                by_cases e2 : j < h.length
                · rw [List.append_assoc, List.getElem?_append_left e2] at hj
                  exact (hH.2.2.2 j x hj).kept (f3 _ (by omega))
                · by_cases e3 : j = h.length
                  · subst e3
                    rw [List.append_assoc, List.getElem?_append_right (Nat.le_refl _), Nat.sub_self] at hj
                    simp only [List.cons_append, List.getElem?_cons_zero] at hj
                    cases hj
                    refine ⟨(show (2 : Nat) < 3 by decide), ?_⟩
                    rw [f2]
                    exact congrArg some (c_outer (base := base) (b := b) (A 2) nn.toNatClampNeg _ h.length rfl)
                  · rw [List.append_assoc, List.getElem?_append_right (by omega)] at hj
                    have e4 : j - h.length = (j - h.length - 1) + 1 := by omega
                    rw [e4] at hj
                    simp only [List.cons_append, List.nil_append, List.getElem?_cons_succ] at hj
                    rw [List.getElem?_replicate] at hj
                    split at hj
                    · rename_i e5
                      cases hj
                      refine ⟨(show (0 : Nat) < 3 by decide), ?_⟩
                      rw [show base + j = base + h.length + 1 + (j - h.length - 1) by omega, f4 _ e5]
                      exact congrArg some (c_inner (base := base) (b := b) (A 0) kk.toNatClampNeg)
                    · cases hj⟩
              hL hlo (by simp; omega) (by simp only [c_msz_app2, c_msz_rep, c_msz_one, c_sz, List.length_map, List.length_range, List.length_replicate]; omega)
              (Jvm.Free.Multi.fill (T.setVm vm₁) (A 2) (A 0) nn.toNatClampNeg kk.toNatClampNeg (defaultValue .int) nn.toNatClampNeg) rfl X'
            refine ⟨t2, step t2 ?_, b2⟩
            have hT2 : T.heap.size = base + h.length := hTs
            have b3 := b1
            simp only [List.map_cons, c_v, ← hT2] at b3
            exact b3
          · cases e1
        · cases e1
  · cases e1
end SimB
