section SimB
variable {p : Program} {l : Launch} {e : Env} {R : Room} {s : State} {m : MethodId} {args : Array Value} {below : List Frame} {meth : Method} {c : Code} {Q : State → Prop}
variable {D : va_G} {A : Nat → ClassId} {H0 : Heap} {base nL n0 z0 F Rl : Nat} {B : c_B} {X : List Int32} {E : c_E} {y : MethodName} {cc : ByteArray} {ini : Bool} {pc : Nat} {q : c_I} {ix : List Nat} {L : c_Ls} {st : List Value} {h : c_Hp} {r : c_R}
theorem c_sum {t : List Value} (h : c_sum8 t = true) : ((t.map (c_v base B)).map fun v => v.category).sum ≤ 8 := by
  rw [c_v_cats]; exact Nat.le_of_ble_eq_true h
theorem c_special_i (C : c_ctx p l R s m args meth c D A H0 base B X E y cc nL F Rl) {i : Nat} (hq : q.1 = .invokespecial i) (hq2 : q.2.2.2 = 6) (hd : decode cc pc = .ok (.invokespecial i, 3)) (ok : c_okJ y.cls ini F Rl pc q ix = true) (e1 : c_call1 E q pc L st h = some r) (k : c_K p l e R s m args below meth c Q D A H0 base B nL n0 z0 r.1 r.2.1 r.2.2.1 r.2.2.2) : c_K p l e R s m args below meth c Q D A H0 base B nL n0 z0 pc L st h := by
  intro H locs cells slots ls hH hL hlo hc hs
  obtain ⟨hx, hb, hml, hown, hts, ⟨hK, hA, -⟩, -, -, hF, hR, -⟩ := C
  unfold c_okJ at ok
  simp only [hq] at ok
  rw [if_pos hq2] at ok
  simp only [Bool.and_eq_true, decide_eq_true_eq] at ok
  obtain ⟨⟨⟨⟨o1, o2⟩, o3⟩, o4⟩, o5⟩ := ok
  obtain ⟨u1, u2⟩ := c_w_ok o1
  obtain ⟨v1, v2⟩ := c_w_ok o2
  obtain ⟨w1, w2⟩ := c_w_ok o3
  unfold c_call1 at e1
  rw [hq2] at e1
  simp only at e1
  split at e1
  · rename_i a t
    split at e1
    · rename_i hsum
      cases e1
      have hsum2 := c_sum (base := base) (B := B) hsum
      refine W.objInit hx hb hown (hts _ u1 u2) (hts _ v1 v2) (hts _ w1 w2) rfl (by rw [hml]; exact hL.2.1) rfl hd (by omega) ?_ (k H locs cells slots ls hH hL hlo hc hs)
      show 2 * 0 + _ + 12 ≤ _
      omega
    · cases e1
  · cases e1
theorem c_lay_get {vs ws : List Value} {s9 d n j : Nat} (h1 : s9 + n ≤ vs.length) (h2 : d + n ≤ ws.length) : (c_lay vs ws s9 d n)[j]? = if d ≤ j ∧ j < d + n then vs[s9 + (j - d)]? else ws[j]? := by
  unfold c_lay
  by_cases e1 : j < d
  · rw [if_neg (by omega), List.getElem?_append_left (by rw [List.length_take]; omega), List.getElem?_take_of_lt e1]
  · rw [List.getElem?_append_right (by rw [List.length_take]; omega), List.length_take, Nat.min_eq_left (by omega)]
    by_cases e2 : j < d + n
    · rw [if_pos ⟨by omega, e2⟩, List.getElem?_append_left (by rw [List.length_take, List.length_drop]; omega), List.getElem?_take_of_lt (by omega), List.getElem?_drop]
    · rw [if_neg (by omega), List.getElem?_append_right (by rw [List.length_take, List.length_drop]; omega), List.length_take, List.length_drop, Nat.min_eq_left (by omega), List.getElem?_drop]
      congr 1
      omega
theorem c_lay_len {vs ws : List Value} {s9 d n : Nat} (h1 : s9 + n ≤ vs.length) (h2 : d + n ≤ ws.length) : (c_lay vs ws s9 d n).length = ws.length := by
  unfold c_lay
  simp only [List.length_append, List.length_take, List.length_drop]
  omega
theorem c_lay_arr {cA : ClassId} {vs ws : List Value} {s9 d n : Nat} (h1 : s9 + n ≤ vs.length) (h2 : d + n ≤ ws.length) : arrV cA ws.length (va_cpy (vp_V (vs.map (c_v base B))) (vp_V (ws.map (c_v base B))) s9 d n) = arrV cA (c_lay vs ws s9 d n).length (vp_V ((c_lay vs ws s9 d n).map (c_v base B))) := by
  rw [c_lay_len h1 h2]
  refine c_arrV_congr fun j hj => ?_
  have h3 := c_lay_get (j := j) h1 h2
  unfold va_cpy
  split
  · rename_i hc
    rw [if_pos hc] at h3
    obtain ⟨v, hv⟩ : ∃ v, vs[s9 + (j - d)]? = some v := ⟨_, List.getElem?_eq_getElem (by omega)⟩
    rw [hv] at h3
    rw [c_vV hv, c_vV h3]
  · rename_i hc
    rw [if_neg hc] at h3
    obtain ⟨v, hv⟩ : ∃ v, ws[j]? = some v := ⟨_, List.getElem?_eq_getElem hj⟩
    rw [hv] at h3
    rw [c_vV hv, c_vV h3]
theorem c_nnI {z : Int32} (hz : ¬ z < 0) : z.toInt = (z.toNatClampNeg : Int) := by
  have hz0 : (0 : Int) ≤ z.toInt := by
    have := Int32.not_lt.mp hz
    simpa using Int32.le_iff_toInt_le.mp this
  show z.toInt = ((z.toInt.toNat : Nat) : Int)
  omega
theorem c_cpy_i (C : c_ctx p l R s m args meth c D A H0 base B X E y cc nL F Rl) {i t : Nat} {kp : Value → Bool} (ht : (t = 0 ∧ kp = c_sy) ∨ (t = 3 ∧ kp = c_ok3 h)) (hlink : (Cond.methodLink y.cls i arraycopyName).before args s = true) (hnat : (Cond.native arraycopyName).before args s = true) (hstat : (Cond.static arraycopyName).before args s = true) (hini : (Cond.initialized "java/lang/System").before args s = true)
    (n1 : va_Nw (.castable "[I" "java/lang/Object") s) (n2 : va_Nw (.castable "java/lang/Integer" "java/lang/Object") s) (hF1 : 1 ≤ F) (hR1 : 40 ≤ Rl) {sp dp n : Int32} {a a2 : Nat} {t9 : List Value} (hst : st = .int n :: .int dp :: .ref a2 :: .int sp :: .ref a :: t9)
    (hd : decode cc pc = .ok (.invokestatic i, 3)) (e1 : c_cpy t kp sp dp n a a2 pc L t9 h = some r) (k : c_K p l e R s m args below meth c Q D A H0 base B nL n0 z0 r.1 r.2.1 r.2.2.1 r.2.2.2) : c_K p l e R s m args below meth c Q D A H0 base B nL n0 z0 pc L st h := by
  subst hst
  intro H locs cells slots ls hH hL hlo hc hs
  obtain ⟨hx, hb, hml, hown, hts, ⟨hK, hA, -, -, -, -, hover⟩, -, -, hF, hR, -, -, -, -, hold, -⟩ := C
  unfold c_cpy at e1
  split at e1
  · rename_i vs ws hvs hws
    split at e1
    · cases e1
    · rename_i h1
      split at e1
      · cases e1
      · rename_i h2
        split at e1
        · cases e1
        · rename_i h3
          split at e1
          · rename_i h4
            split at e1
            · rename_i h5
              split at e1
              · rename_i hall
                split at e1
                · rename_i hsum
                  rw [c_upd_eq] at e1
                  cases e1
                  have hsum2 := c_sum (base := base) (B := B) hsum
                  obtain ⟨t6, g0⟩ := hH.2.2.2 a _ (c_vs_ok hvs)
                  obtain ⟨-, g1⟩ := hH.2.2.2 a2 _ (c_vs_ok hws)
                  simp only at t6 g0 g1
                  obtain ⟨-, k0, hk0, cm0, hkk0⟩ := (hA t t6).1 vs.length (vp_V (vs.map (c_v base B)))
                  have hel : ∀ j, j < n.toNatClampNeg → ∃ v, vs[sp.toNatClampNeg + j]? = some v ∧ kp v = true ∧ (arrV (A t) vs.length (vp_V (vs.map (c_v base B)))).slots.getD (sp.toNatClampNeg + j) .null = c_v base B v := by
                    intro j hj
                    obtain ⟨v, hv⟩ : ∃ v, vs[sp.toNatClampNeg + j]? = some v := ⟨_, List.getElem?_eq_getElem (by omega)⟩
                    refine ⟨v, hv, List.all_eq_true.mp hall v (List.mem_of_getElem? (i := j) ?_), ?_⟩
                    · rw [List.getElem?_take_of_lt hj, List.getElem?_drop, hv]
                    · rw [Array.getD_eq_getD_getElem?, arrV_read _ _ (by omega), c_vV hv]
                      rfl
                  intro T hT X9
                  have hw : nativeFrameWords "java/lang/System" "arraycopy" 5 + 11 ≤ 32 := by decide
                  obtain ⟨vm', X', step⟩ := X9.arraycopy hx hown hlink hnat hstat hini (src := base + a) (dst := base + a2) (cs := arrV (A t) vs.length (vp_V (vs.map (c_v base B)))) (cd := arrV (A t) ws.length (vp_V (ws.map (c_v base B)))) (srcPos := sp) (destPos := dp) (n := n) (by rw [hT]; exact g0) (by rw [hT]; exact g1)
                    (fun _ h => by cases h) (fun _ h => by cases h) (fun h => by cases h) (fun h => by cases h) hk0 hk0 hkk0 hkk0 (by rcases ht with ⟨rfl, -⟩ | ⟨rfl, -⟩ <;> simp [c_tag, refKind]) h1 h2 h3
                    (by rw [c_nnI h1, c_nnI h3, arrV_size]; omega)
                    (by rw [c_nnI h2, c_nnI h3, arrV_size]; omega)
                    (fun vm₁ hal j hj => by
                      obtain ⟨v, hv, hkv, e⟩ := hel j hj
                      rw [e]
                      rcases ht with ⟨rfl, rfl⟩ | ⟨rfl, rfl⟩
                      · obtain ⟨x9, hx9⟩ := c_sy_v (base := base) (B := B) hkv
                        rw [hx9]
                        exact ⟨rfl, trivial⟩
                      · obtain ⟨comp, c2, kA, o1, -, o3, o4, o5⟩ := Cond.arrayOver_spec hover
                        have hA3 : c2 = A 3 := Option.some.inj (o5.symm.trans (hA 3 (by decide)).2)
                        subst hA3
                        cases hk0.symm.trans o3
                        cases hkk0.symm.trans o4
                        obtain ⟨kE, hkE, -⟩ := Vm.findClass_spec o1
                        rcases c_ok3_cell hkv hA hold hH (hH.S hlo) n1 n2 with hn | ⟨b9, cv, kv, hv0, hv1, hv2, hv3, hv4⟩
                        · rw [hn]; exact ⟨rfl, trivial⟩
                        · rw [hv0]
                          obtain ⟨kC', hkC', -⟩ := hal.2.2 _ _ hv3
                          obtain ⟨kE', hkE', -⟩ := hal.2.2 _ _ hkE
                          refine ⟨rfl, cv, (show T.heap[b9]? = some cv by rw [hT]; exact hv1), hv2, ⟨kC', hkC'⟩, ?_, ?_⟩
                          · exact ⟨kE', hkE'⟩
                          · show vm₁.assignable _ _ = true
                            rw [hal.assignable]
                            exact hv4 _ o1)
                    (g := F0 m pc ls (.int n :: .int dp :: .ref (base + a2) :: .int sp :: .ref (base + a) :: t9.map (c_v base B))) rfl (by rw [hml]; exact hL.2.1) (rest := t9.map (c_v base B)) rfl (by rw [hb]; exact hd) (by omega) (by show 2 * 0 + _ + _ ≤ _; omega)
                  have e2 : copied (arrV (A t) vs.length (vp_V (vs.map (c_v base B)))) (arrV (A t) ws.length (vp_V (ws.map (c_v base B)))) sp dp n = arrV (A t) (c_lay vs ws sp.toNatClampNeg dp.toNatClampNeg n.toNatClampNeg).length (vp_V ((c_lay vs ws sp.toNatClampNeg dp.toNatClampNeg n.toNatClampNeg).map (c_v base B))) :=
                    (va_copied (fun z => z) (A t) (A t) (vp_V (vs.map (c_v base B))) (vp_V (ws.map (c_v base B))) h4).trans (c_lay_arr h4 h5)
                  rw [e2] at X' step
                  generalize hN : arrV (A t) (c_lay vs ws sp.toNatClampNeg dp.toNatClampNeg n.toNatClampNeg).length (vp_V ((c_lay vs ws sp.toNatClampNeg dp.toNatClampNeg n.toNatClampNeg).map (c_v base B))) = N at X' step
                  have hl : base + a2 < H.size := (Array.getElem?_eq_some_iff.mp g1).1
                  have hheap : ((T.setVm vm').setCell (base + a2) N).heap = H.setIfInBounds (base + a2) N := by rw [← hT]; rfl
                  have k9 := k (H.setIfInBounds (base + a2) N) _ cells slots ls (hH.set (i := a2) (x := .inr (t, c_lay vs ws sp.toNatClampNeg dp.toNatClampNeg n.toNatClampNeg)) (by simp) (fun q9 hq9 => by simp [Array.getElem?_setIfInBounds, Ne.symm hq9]) ⟨t6, by rw [hN]; simp [Array.getElem?_setIfInBounds, hl]⟩) hL ?_ (by rw [List.length_set]; exact hc) (by rw [c_msz_set (c_vs_ok hws)]; exact hs; simp [c_sz, c_lay_len h4 h5]) _ hheap X'
                  · obtain ⟨t2, a1, b1⟩ := k9
                    exact ⟨t2, step t2 a1, b1⟩
                  · intro z hz
                    rcases List.mem_append.mp hz with h9 | h9
                    · exact hlo z h9
                    · obtain ⟨z2, -, hz2⟩ := List.mem_map.mp h9
                      rw [← hz2]
                      exact Nat.le_add_right _ _
                · cases e1
              · cases e1
            · cases e1
          · cases e1
  · cases e1
theorem c_static_i (C : c_ctx p l R s m args meth c D A H0 base B X E y cc nL F Rl) {i : Nat} (hq : q.1 = .invokestatic i) (hd : decode cc pc = .ok (.invokestatic i, 3)) (hq6 : ¬ q.2.2.2 < 6) (ok : c_okJ y.cls ini F Rl pc q ix = true) (e1 : c_call1 E q pc L st h = some r) (hr1 : r.2.2.2.length ≤ n0 + R.cells) (hr2 : c_msz r.2.2.2 ≤ z0 + R.slots) (k : c_K p l e R s m args below meth c Q D A H0 base B nL n0 z0 r.1 r.2.1 r.2.2.1 r.2.2.2) : c_K p l e R s m args below meth c Q D A H0 base B nL n0 z0 pc L st h := by
  have C2 := C
  obtain ⟨hx, hb, hml, hown, hts, ⟨hK, hA, hng, -⟩, -, -, hF, hR, -, -, -, -, -, hE⟩ := C2
  unfold c_okJ at ok
  simp only [hq] at ok
  by_cases h7 : q.2.2.2 = 7
  · rw [if_pos h7] at ok
    simp only [Bool.and_eq_true, decide_eq_true_eq] at ok
    obtain ⟨⟨⟨⟨⟨o1, o2⟩, o3⟩, o6⟩, o4⟩, o5⟩ := ok
    obtain ⟨u1, u2⟩ := c_w_ok o1
    obtain ⟨v1, v2⟩ := c_w_ok o2
    obtain ⟨w1, w2⟩ := c_w_ok o3
    obtain ⟨x1, x2⟩ := c_w_ok o6
    unfold c_call1 at e1
    rw [h7] at e1
    simp only at e1
    split at e1
    · split at e1
      · rename_i hsum
        split at e1
        · rename_i v hv
          cases e1
          intro H locs cells slots ls hH hL hlo hc hs
          have hml2 : c.maxLocals = ls.size := by rw [hml]; exact hL.2.1.symm
          obtain ⟨a, b9, z, g1, g2, g3, g4⟩ := c_op_ok hE.2.2 rfl hv
          have hsum2 := c_sum (base := base) (B := B) hsum
          simp only at hr1 hr2
          have k9 := k H locs cells slots ls hH hL hlo hc hs
          rw [List.map_cons, c_iv_v g4] at k9
          rw [List.map_cons, List.map_cons, c_iv_v g1, c_iv_v g2]
          cases g3
          exact va_mmax hx hb hml2 hown (hts _ u1 u2) (hts _ v1 v2) (hts _ w1 w2) (hts _ x1 x2) (by omega) (by omega) (by omega) (by omega) hd k9
        · cases e1
      · cases e1
    · cases e1
  · rw [if_neg h7] at ok
    by_cases h8 : q.2.2.2 = 8
    · rw [if_pos h8] at ok
      simp only [Bool.and_eq_true, decide_eq_true_eq] at ok
      obtain ⟨⟨⟨⟨⟨o1, o2⟩, o3⟩, o6⟩, o4⟩, o5⟩ := ok
      obtain ⟨u1, u2⟩ := c_w_ok o1
      obtain ⟨v1, v2⟩ := c_w_ok o2
      obtain ⟨w1, w2⟩ := c_w_ok o3
      obtain ⟨x1, x2⟩ := c_w_ok o6
      unfold c_call1 at e1
      rw [h8] at e1
      simp only at e1
      split at e1
      · split at e1
        · rename_i hsum
          split at e1
          · rename_i v hv
            cases e1
            intro H locs cells slots ls hH hL hlo hc hs
            have hml2 : c.maxLocals = ls.size := by rw [hml]; exact hL.2.1.symm
            obtain ⟨a, b9, z, g1, g2, g3, g4⟩ := c_op_ok hE.2.2 rfl hv
            have hsum2 := c_sum (base := base) (B := B) hsum
            simp only at hr1 hr2
            have k9 := k H locs cells slots ls hH hL hlo hc hs
            rw [List.map_cons, c_iv_v g4] at k9
            rw [List.map_cons, List.map_cons, c_iv_v g1, c_iv_v g2]
            cases g3
            exact va_mmin hx hb hml2 hown (hts _ u1 u2) (hts _ v1 v2) (hts _ w1 w2) (hts _ x1 x2) (by omega) (by omega) (by omega) (by omega) hd k9
          · cases e1
        · cases e1
      · cases e1
    · rw [if_neg h8] at ok
      by_cases h10 : q.2.2.2 = 10
      · rw [if_pos h10] at ok
        simp only [Bool.and_eq_true, decide_eq_true_eq] at ok
        obtain ⟨⟨⟨⟨⟨o1, o2⟩, o3⟩, o6⟩, o4⟩, o5⟩ := ok
        obtain ⟨u1, u2⟩ := c_w_ok o1
        obtain ⟨v1, v2⟩ := c_w_ok o2
        obtain ⟨w1, w2⟩ := c_w_ok o3
        obtain ⟨x1, x2⟩ := c_w_ok o6
        unfold c_call1 at e1
        rw [h10] at e1
        simp only at e1
        split at e1
        · split at e1
          · rename_i hsum
            cases e1
            intro H locs cells slots ls hH hL hlo hc hs
            have hml2 : c.maxLocals = ls.size := by rw [hml]; exact hL.2.1.symm
            have hsum2 := c_sum (base := base) (B := B) hsum
            exact vn_f2i hx hb hml2 hown (hts _ u1 u2) (hts _ v1 v2) (hts _ w1 w2) (hts _ x1 x2) (by omega) (by omega) hd (k H locs cells slots ls hH hL hlo hc hs)
          · cases e1
        · cases e1
      · rw [if_neg h10] at ok
        by_cases h12 : q.2.2.2 = 12
        · rw [if_pos h12] at ok
          simp only [Bool.and_eq_true, decide_eq_true_eq] at ok
          obtain ⟨⟨⟨⟨⟨⟨⟨o1, o2⟩, o3⟩, o6⟩, o7⟩, o8⟩, o4⟩, o5⟩ := ok
          obtain ⟨u1, u2⟩ := c_w_ok o1
          obtain ⟨v1, v2⟩ := c_w_ok o2
          obtain ⟨w1, w2⟩ := c_w_ok o3
          obtain ⟨x1, x2⟩ := c_w_ok o6
          obtain ⟨y1, y2⟩ := c_n_ok o7
          obtain ⟨z1, z2⟩ := c_n_ok o8
          unfold c_call1 at e1
          rw [h12] at e1
          simp only at e1
          split at e1
          · split at e1
            · exact c_cpy_i C (Or.inl ⟨rfl, rfl⟩) (hts _ u1 u2) (hts _ v1 v2) (hts _ w1 w2) (hts _ x1 x2) (hng _ y1 y2) (hng _ z1 z2) o4 o5 rfl hd e1 k
            · exact c_cpy_i C (Or.inr ⟨rfl, rfl⟩) (hts _ u1 u2) (hts _ v1 v2) (hts _ w1 w2) (hts _ x1 x2) (hng _ y1 y2) (hng _ z1 z2) o4 o5 rfl hd e1 k
          · cases e1
        · rw [if_neg h12] at ok
          simp only [decide_eq_true_eq] at ok
          exact absurd ok hq6
theorem c_isi_fit {vs : List Value} (h : vs.all c_sy = true) {cA : ClassId} : ∀ (i : Nat) (v : Value), (arrV cA vs.length (vp_V (vs.map (c_v base B)))).slots[i]? = some v → fits .int v = true := by
  intro i v hv
  refine va_fit (F := vp_V (vs.map (c_v base B))) (n := vs.length) (fun j hj => ?_) i v hv
  obtain ⟨w, hw⟩ : ∃ w, vs[j]? = some w := ⟨_, List.getElem?_eq_getElem hj⟩
  rw [c_vV hw]
  obtain ⟨a, ha⟩ := c_sy_v (base := base) (B := B) (List.all_eq_true.mp h w (List.mem_of_getElem? hw))
  rw [ha]
  rfl
theorem c_virtual_i (C : c_ctx p l R s m args meth c D A H0 base B X E y cc nL F Rl) {i : Nat} (hq : q.1 = .invokevirtual i) (hd : decode cc pc = .ok (.invokevirtual i, 3)) (hq6 : ¬ q.2.2.2 < 6) (ok : c_okJ y.cls ini F Rl pc q ix = true) (e1 : c_call1 E q pc L st h = some r) (hr1 : r.2.2.2.length ≤ n0 + R.cells) (hr2 : c_msz r.2.2.2 ≤ z0 + R.slots) (k : c_K p l e R s m args below meth c Q D A H0 base B nL n0 z0 r.1 r.2.1 r.2.2.1 r.2.2.2) : c_K p l e R s m args below meth c Q D A H0 base B nL n0 z0 pc L st h := by
  intro H locs cells slots ls hH hL hlo hc hs
  obtain ⟨hx, hb, hml, hown, hts, ⟨hK, hA, hng, -⟩, -, -, hF, hR, -, -, -, -, hold, -⟩ := C
  unfold c_okJ at ok
  simp only [hq] at ok
  have hml2 : c.maxLocals = ls.size := by rw [hml]; exact hL.2.1.symm
  by_cases h9 : q.2.2.2 = 9
  · rw [if_pos h9] at ok
    simp only [Bool.and_eq_true, decide_eq_true_eq] at ok
    obtain ⟨⟨⟨⟨⟨⟨⟨o1, o2⟩, o3⟩, o4⟩, o5⟩, o6⟩, o7⟩, o8⟩ := ok
    obtain ⟨u1, u2⟩ := c_w_ok o1
    obtain ⟨v1, v2⟩ := c_w_ok o2
    obtain ⟨w1, w2⟩ := c_w_ok o3
    obtain ⟨x1, x2⟩ := c_w_ok o4
    obtain ⟨y1, y2⟩ := c_w_ok o5
    obtain ⟨z1, z2⟩ := c_n_ok o6
    unfold c_call1 at e1
    rw [h9] at e1
    simp only at e1
    split at e1
    · rename_i a t
      split at e1
      · rename_i vs hvs
        split at e1
        · rename_i hsum
          split at e1
          · rename_i hall
            cases e1
            have hsum2 := c_sum (base := base) (B := B) hsum
            simp only [List.length_append, List.length_cons, List.length_nil, c_msz_app, c_sz] at hr1 hr2
            obtain ⟨-, g2⟩ := hH.2.2.2 a _ (c_vs_ok hvs)
            obtain ⟨hA1, hA2⟩ := hA 0 (by decide)
            obtain ⟨c0, t0', f1, f2, f3⟩ := Cond.castable_spec (va_Nw.use (A := args) rfl (hng _ z1 z2))
            have hA3 : s.vm.findClass "[I" = some (A 0) := hA2
            cases hA3.symm.trans f1
            intro T hT X9
            obtain ⟨-, kA, hkA, comp, hkind⟩ := State.isArrayOf_alike X9.warmed.alike (hA1 0 (fun _ => .null))
            obtain ⟨-, kS, hkS, compS, hkindS⟩ := hA1 0 (fun _ => .null)
            obtain ⟨vm', X', st9⟩ := X9.cloneArray hx hown (hts _ u1 u2) (hts _ v1 v2) (hts _ w1 w2) (hts _ x1 x2) (hts _ y1 y2) (a := base + a) (cell := arrV (A 0) vs.length (vp_V (vs.map (c_v base B)))) (by rw [hT]; exact g2) (fun k h => by cases h) (fun h => by cases h) hA3 f2 f3
              (fun i v hv => by
                have hk' : T.vm.classes[A 0]? = some kA := hkA
                have h5 : fits (c_tag 0) v = true := c_isi_fit hall i v hv
                show T.fitsSlot (A 0) .none i v = true
                simpa [State.fitsSlot, State.slotType?, hk', hkind] using h5)
              (g := F0 m pc ls (.ref (base + a) :: t.map (c_v base B))) rfl (by rw [hml2]) rfl (by rw [hb]; exact hd) (by omega) (by show 2 * 0 + _ + 14 ≤ _; omega) (by omega) (by rw [arrV_size]; omega) (hloader := Vm.clonesLoader_of_array hkS hkindS)
            rw [arrV_size] at X'
            have e9 : ({ cls := (arrV (A 0) vs.length (vp_V (vs.map (c_v base B)))).cls, slots := (arrV (A 0) vs.length (vp_V (vs.map (c_v base B)))).slots } : Cell) = arrV (A 0) vs.length (vp_V (vs.map (c_v base B))) := rfl
            rw [e9] at X' st9
            have hT2 : T.heap.size = base + h.length := by rw [hT]; exact hH.2.1
            obtain ⟨t2, b1, b2⟩ := k (T.heap.push (arrV (A 0) vs.length (vp_V (vs.map (c_v base B))))) locs (cells + 1) (slots + vs.length) ls
              (hH.push (x := some (.inr (0, vs))) (by rw [Array.size_push, hT]) (fun z hz => by rw [Array.getElem?_push, hT, if_neg (Nat.ne_of_lt hz)]) (fun y9 hy9 => by
                cases hy9
                refine ⟨(show (0 : Nat) < 6 by decide), ?_⟩
                rw [← hT2, Array.getElem?_push_size])) hL hlo (by simp; omega) (by rw [c_msz_app]; simp only [c_sz]; omega)
              ((T.setVm vm').pushCell (arrV (A 0) vs.length (vp_V (vs.map (c_v base B))))) rfl X'
            refine ⟨t2, st9 t2 ?_, b2⟩
            have b3 := b1
            simp only [List.map_cons, c_v, ← hT2] at b3
            exact b3
          · cases e1
        · cases e1
      · cases e1
    · cases e1
  · rw [if_neg h9] at ok
    by_cases h11 : q.2.2.2 = 11
    · rw [if_pos h11] at ok
      simp only [Bool.and_eq_true, decide_eq_true_eq] at ok
      obtain ⟨⟨⟨⟨⟨⟨o1, o2⟩, o3⟩, o4⟩, o5⟩, o6⟩, o7⟩ := ok
      obtain ⟨u1, u2⟩ := c_w_ok o1
      obtain ⟨v1, v2⟩ := c_n_ok o2
      obtain ⟨w1, w2⟩ := c_w_ok o3
      obtain ⟨x1, x2⟩ := c_w_ok o4
      obtain ⟨y1, y2⟩ := c_w_ok o5
      unfold c_call1 at e1
      rw [h11] at e1
      simp only at e1
      split at e1
      · rename_i a t
        split at e1
        · rename_i vs hvs
          split at e1
          · rename_i hsum
            cases e1
            have hsum2 := c_sum (base := base) (B := B) hsum
            obtain ⟨-, g2⟩ := hH.2.2.2 a _ (c_vs_ok hvs)
            obtain ⟨-, -, -, -, hM, -⟩ := hold
            exact va_getC (C := "[Ljava/lang/Object;") hx hb hml2 hown (hts _ u1 u2) (va_Nw.use rfl (hng _ v1 v2)) (hts _ w1 w2) (hts _ x1 x2) (hts _ y1 y2) hM ⟨_, g2, rfl, (hA 3 (by decide)).2⟩ (by omega) (by omega) hd (k H locs cells slots ls hH hL hlo hc hs)
          · cases e1
        · cases e1
      · cases e1
    · rw [if_neg h11] at ok
      simp only [decide_eq_true_eq] at ok
      exact absurd ok hq6
theorem c_msz_rep (n : Nat) (x : c_Cell) : c_msz (List.replicate n x) = n * c_sz x := by
  unfold c_msz
  simp
theorem c_msz_app2 (h h2 : c_Hp) : c_msz (h ++ h2) = c_msz h + c_msz h2 := by
  unfold c_msz
  simp
theorem c_msz_one (x : c_Cell) : c_msz [x] = c_sz x := by
  unfold c_msz
  simp
theorem c_outer0 (cA : ClassId) (N h0 : Nat) : ∀ i : Nat, Jvm.Free.Multi.outerC cA N h0 i = arrV cA N (fun j => if j < i then Value.ref (h0 + 1 + j) else .null)
  | 0 => by
    show ({ cls := cA, slots := Array.replicate N .null, vm := .none } : Cell) = _
    unfold arrV
    congr 1
    apply Array.ext
    · simp
    · intro i h1 h2
      simp
  | i + 1 => by
    show (Jvm.Free.Multi.outerC cA N h0 i).setSlot i (.ref (h0 + 1 + i)) = _
    rw [c_outer0 cA N h0 i, arrV_store]
    congr 1
    funext j
    unfold updV
    by_cases e : j = i
    · subst e; simp
    · by_cases e2 : j < i
      · rw [if_neg e, if_pos (show j < i + 1 by omega)]; exact if_pos e2
      · rw [if_neg e, if_neg (show ¬ j < i + 1 by omega)]; exact if_neg e2
theorem c_outer (cA : ClassId) (N h0 hl : Nat) (e : h0 = base + hl) : Jvm.Free.Multi.outerC cA N h0 N = arrV cA ((List.range N).map (fun j => Value.ref (hl + 1 + j))).length (vp_V (((List.range N).map (fun j => Value.ref (hl + 1 + j))).map (c_v base B))) := by
  rw [c_outer0, List.length_map, List.length_range]
  refine c_arrV_congr fun j hj => ?_
  rw [if_pos hj, c_vV (v := .ref (hl + 1 + j)) (by simp [hj])]
  have e3 : h0 + 1 + j = base + (hl + 1 + j) := by omega
  exact congrArg Value.ref e3
theorem c_inner (cA : ClassId) (M : Nat) : Jvm.Free.Multi.innerC cA M (.int 0) = arrV cA (List.replicate M (Value.int 0)).length (vp_V ((List.replicate M (Value.int 0)).map (c_v base B))) := by
  show ({ cls := cA, slots := Array.replicate M (.int 0), vm := .none } : Cell) = _
  rw [List.length_replicate, c_arrV_congr (g := fun _ => .int 0) (c_rep_V rfl)]
  unfold arrV
  congr 1
  apply Array.ext
  · simp
  · intro i h1 h2
    simp
theorem c_mnew_i (C : c_ctx p l R s m args meth c D A H0 base B X E y cc nL F Rl) {i d : Nat} (hq : q.1 = .multianewarray i d) (hd : decode cc pc = .ok (.multianewarray i d, 4)) (ok : c_okJ y.cls ini F Rl pc q ix = true) (e1 : c_mnew pc L st h = some r) (hr1 : r.2.2.2.length ≤ n0 + R.cells) (hr2 : c_msz r.2.2.2 ≤ z0 + R.slots) (k : c_K p l e R s m args below meth c Q D A H0 base B nL n0 z0 r.1 r.2.1 r.2.2.1 r.2.2.2) : c_K p l e R s m args below meth c Q D A H0 base B nL n0 z0 pc L st h := by
  intro H locs cells slots ls hH hL hlo hc hs
  obtain ⟨hx, hb, hml, hown, hts, ⟨hK, hA, hng, -, -, hover, -⟩, -, -, hF, hR, -⟩ := C
  unfold c_okJ at ok
  simp only [hq, Bool.and_eq_true, decide_eq_true_eq] at ok
  obtain ⟨⟨rfl, o2⟩, o3⟩ := ok
  obtain ⟨u1, u2⟩ := c_w_ok o2
  obtain ⟨v1, v2⟩ := c_w_ok o3
  unfold c_mnew at e1
  split at e1
  · rename_i kk nn t
    split at e1
    · cases e1
    · rename_i hn
      split at e1
      · cases e1
      · rename_i hk
        split at e1
        · rename_i hn2
          split at e1
          · rename_i hk2
            cases e1
            simp only [List.length_append, List.length_cons, List.length_nil, c_msz_app2, c_msz_rep, c_msz_one, c_sz, List.length_map, List.length_range, List.length_replicate] at hr1 hr2
            intro T hT X9
            obtain ⟨vm₁, cA, comp, -, fA, fC, -, -, X', step⟩ := X9.multianewarray2F hx hown (hts _ u1 u2) (show (Cond.arrayOver (.array .int)).before args s = true from hover) (hts _ v1 v2) (g := F0 m pc ls (.int kk :: .int nn :: t.map (c_v base B))) rfl (by rw [hb]; exact hd) rfl hn hk (by omega) (by show _ * 4 ≤ _; omega) (by omega) rfl rfl (by omega) (by omega)
            have hA0 : comp = A 0 := Option.some.inj (fC.symm.trans (hA 0 (by decide)).2)
            have hA2 : cA = A 2 := Option.some.inj (fA.symm.trans (hA 2 (by decide)).2)
            subst hA0 hA2
            have hTs : (T.setVm vm₁).heap.size = base + h.length := by show T.heap.size = _; rw [hT]; exact hH.2.1
            obtain ⟨f1, f2, -, -⟩ := Jvm.Free.Multi.fill_facts (T.setVm vm₁) (A 2) (A 0) nn.toNatClampNeg kk.toNatClampNeg (defaultValue .int) nn.toNatClampNeg
            have f3 := fun a (ha : a < (T.setVm vm₁).heap.size) => Jvm.Free.Multi.fill_old (T.setVm vm₁) (A 2) (A 0) nn.toNatClampNeg kk.toNatClampNeg (defaultValue .int) ha nn.toNatClampNeg
            have f4 := Jvm.Free.Multi.fill_inner (T.setVm vm₁) (A 2) (A 0) nn.toNatClampNeg kk.toNatClampNeg (defaultValue .int) nn.toNatClampNeg
            rw [hTs] at f1 f2 f3 f4
            have hTh : (T.setVm vm₁).heap = H := hT
            rw [hTh] at f3
            obtain ⟨t2, b1, b2⟩ := k (Jvm.Free.Multi.fill (T.setVm vm₁) (A 2) (A 0) nn.toNatClampNeg kk.toNatClampNeg (defaultValue .int) nn.toNatClampNeg).heap locs _ _ ls
              ⟨hH.1, by rw [f1]; simp; omega, fun z hz => by rw [f3 z (by omega)]; exact hH.2.2.1 z hz, fun j x hj => by
                by_cases e2 : j < h.length
                · rw [List.append_assoc, List.getElem?_append_left e2] at hj
                  exact (hH.2.2.2 j x hj).kept (f3 _ (by omega))
                · by_cases e3 : j = h.length
                  · subst e3
                    rw [List.append_assoc, List.getElem?_append_right (Nat.le_refl _), Nat.sub_self] at hj
                    simp only [List.cons_append, List.getElem?_cons_zero] at hj
                    cases hj
                    refine ⟨(show (2 : Nat) < 6 by decide), ?_⟩
                    rw [f2]
                    exact congrArg some (c_outer (base := base) (B := B) (A 2) nn.toNatClampNeg _ h.length rfl)
                  · rw [List.append_assoc, List.getElem?_append_right (by omega)] at hj
                    have e4 : j - h.length = (j - h.length - 1) + 1 := by omega
                    rw [e4] at hj
                    simp only [List.cons_append, List.nil_append, List.getElem?_cons_succ] at hj
                    rw [List.getElem?_replicate] at hj
                    split at hj
                    · rename_i e5
                      cases hj
                      refine ⟨(show (0 : Nat) < 6 by decide), ?_⟩
                      rw [show base + j = base + h.length + 1 + (j - h.length - 1) by omega, f4 _ e5]
                      exact congrArg some (c_inner (base := base) (B := B) (A 0) kk.toNatClampNeg)
                    · cases hj⟩
              hL hlo (by simp; omega) (by simp only [c_msz_app2, c_msz_rep, c_msz_one, c_sz, List.length_map, List.length_range, List.length_replicate]; omega)
              (Jvm.Free.Multi.fill (T.setVm vm₁) (A 2) (A 0) nn.toNatClampNeg kk.toNatClampNeg (defaultValue .int) nn.toNatClampNeg) rfl X'
            refine ⟨t2, step t2 ?_, b2⟩
            have hT2 : T.heap.size = base + h.length := hTs
            have b3 := b1
            simp only [List.map_cons, c_v, ← hT2] at b3
            exact b3
          · cases e1
        · cases e1
  · cases e1
end SimB
