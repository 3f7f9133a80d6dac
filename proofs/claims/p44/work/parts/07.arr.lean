section SimA
variable {p : Program} {l : Launch} {e : Env} {R : Room} {s : State} {m : MethodId} {args : Array Value} {below : List Frame} {meth : Method} {c : Code} {Q : State → Prop}
variable {D : va_G} {A : Nat → ClassId} {H0 : Heap} {base b nL n0 z0 F Rl : Nat} {X : List Int32} {y : MethodName} {cc : ByteArray} {ini : Bool} {pc : Nat} {q : c_I} {ix : List Nat} {L : c_Ls} {st : List Value} {h : c_Hp} {r : c_R}
theorem c_vV {vs : List Value} {j : Nat} {v : Value} (hv : vs[j]? = some v) : vp_V (vs.map (c_v base b)) j = c_v base b v := by
  unfold vp_V
  rw [List.getD_eq_getElem?_getD, List.getElem?_map, hv]
  rfl
theorem c_rd {cA : ClassId} {vs : List Value} {i : Int32} {j : Nat} {v : Value} (hj : i.toNatClampNeg = j) (hv : vs[j]? = some v) : (arrV cA vs.length (vp_V (vs.map (c_v base b)))).slots[i.toNatClampNeg]? = some (c_v base b v) := by
  rw [hj, arrV_read _ _ (List.getElem?_eq_some_iff.mp hv).1, c_vV hv]
theorem c_in {cA : ClassId} {vs : List Value} {f : Nat → Value} {i : Int32} {j : Nat} (h0 : ¬ i < 0) (hj : i.toNatClampNeg = j) (hl : j < vs.length) : ¬ (i < 0 ∨ (arrV cA vs.length f).slots.size ≤ i.toNatClampNeg) := by
  rw [arrV_size, hj]
  intro z
  rcases z with z | z
  · exact h0 z
  · omega
theorem c_arr_set {cA : ClassId} {vs : List Value} {j : Nat} {v : Value} (hl : j < vs.length) : (arrV cA vs.length (vp_V (vs.map (c_v base b)))).setSlot j (c_v base b v) = arrV cA (vs.set j v).length (vp_V ((vs.set j v).map (c_v base b))) := by
  rw [arrV_store, List.length_set, List.map_set]
  congr 1
  exact funext fun i => vp_updV_set (by rw [List.length_map]; exact hl) _ i
theorem c_iald_i (C : c_ctx p l R s m args meth c D A H0 base b X y cc nL F Rl) (hd : decode cc pc = .ok (.iaload, 1)) (e1 : c_iald X pc L st h = some r) (k : c_K p l e R s m args below meth c Q D A H0 base b nL n0 z0 r.1 r.2.1 r.2.2.1 r.2.2.2) : c_K p l e R s m args below meth c Q D A H0 base b nL n0 z0 pc L st h := by
  intro H locs cells slots ls hH hL hlo hc hs
  obtain ⟨hx, hb, -, hown, hts, ⟨hK, hA, -⟩, -, -, -, -, -, ⟨hX, hbb⟩, -⟩ := C
  unfold c_iald at e1
  split at e1
  · rename_i i a t
    split at e1
    · rename_i vs hvs
      split at e1
      · rename_i j hj
        split at e1
        · rename_i x hv
          cases e1
          obtain ⟨-, g2⟩ := hH.2.2.2 a _ (c_vs_ok hvs)
          obtain ⟨j1, j2, j3⟩ := c_ix_ok hj
          exact W.iald (v := .int x) hx hb g2 ((hA 0 (by decide)).1 _ _) (fun z => by cases z) (c_in j1 j2 j3) (c_rd j2 hv) rfl rfl hd (k H locs cells slots ls hH hL hlo hc hs)
        · cases e1
      · cases e1
    · cases e1
  · rename_i i z t
    split at e1
    · rename_i j hj
      split at e1
      · rename_i x hv
        cases e1
        obtain ⟨j1, j2, j3⟩ := c_ix_ok hj
        have hS : va_S (fun q => base ≤ q) H0 H locs := ⟨by rw [hH.2.1, ← hH.1]; exact Nat.le_add_right _ _, fun q hq hz => hH.2.2.1 q (Nat.not_le.mp hz), hlo⟩
        have k1 := k H locs cells slots ls hH hL hlo hc hs
        have hvx : X.getD i.toNatClampNeg 0 = x := by rw [j2, List.getD_eq_getElem?_getD, hv]; rfl
        refine va_sld hx hb hX (by rw [← hH.1]; exact hbb) (Nat.not_le.mpr hbb) hS ?_ hd ?_
        · intro z
          rcases z with z | z
          · exact j1 z
          · rw [j2] at z; omega
        · rw [hvx]; exact k1
      · cases e1
    · cases e1
  · cases e1
theorem c_aald_i (C : c_ctx p l R s m args meth c D A H0 base b X y cc nL F Rl) (hd : decode cc pc = .ok (.aaload, 1)) (e1 : c_aald pc L st h = some r) (k : c_K p l e R s m args below meth c Q D A H0 base b nL n0 z0 r.1 r.2.1 r.2.2.1 r.2.2.2) : c_K p l e R s m args below meth c Q D A H0 base b nL n0 z0 pc L st h := by
  intro H locs cells slots ls hH hL hlo hc hs
  obtain ⟨hx, hb, -, hown, hts, ⟨hK, hA, -⟩, -⟩ := C
  unfold c_aald at e1
  split at e1
  · rename_i i a t
    split at e1
    · rename_i vs hvs
      split at e1
      · rename_i j hj
        split at e1
        · rename_i x hv
          cases e1
          obtain ⟨-, g2⟩ := hH.2.2.2 a _ (c_vs_ok hvs)
          obtain ⟨j1, j2, j3⟩ := c_ix_ok hj
          exact W.aald (ty := .array .int) hx hb g2 ((hA 2 (by decide)).1 _ _) rfl (fun z => by cases z) (c_in j1 j2 j3) (c_rd j2 hv) rfl rfl hd (k H locs cells slots ls hH hL hlo hc hs)
        · cases e1
      · cases e1
    · cases e1
  · cases e1
theorem c_iast_i (C : c_ctx p l R s m args meth c D A H0 base b X y cc nL F Rl) (hd : decode cc pc = .ok (.iastore, 1)) (e1 : c_iast pc L st h = some r) (k : c_K p l e R s m args below meth c Q D A H0 base b nL n0 z0 r.1 r.2.1 r.2.2.1 r.2.2.2) : c_K p l e R s m args below meth c Q D A H0 base b nL n0 z0 pc L st h := by
  intro H locs cells slots ls hH hL hlo hc hs
  obtain ⟨hx, hb, -, hown, hts, ⟨hK, hA, -⟩, -⟩ := C
  unfold c_iast at e1
  split at e1
  · rename_i x i a t
    split at e1
    · rename_i vs hvs
      split at e1
      · rename_i j hj
        cases e1
        obtain ⟨-, g2⟩ := hH.2.2.2 a _ (c_vs_ok hvs)
        obtain ⟨j1, j2, j3⟩ := c_ix_ok hj
        refine W.iast hx hb g2 ((hA 0 (by decide)).1 _ _) (fun z => by cases z) (c_in j1 j2 j3) rfl rfl hd fun H1 e1 e2 e3 => ?_
        rw [j2] at e1 ⊢
        refine k H1 _ cells slots ls (hH.set (x := .inr (0, vs.set j (.int x))) e2 e3 ⟨(show (0 : Nat) < 3 by decide), ?_⟩) hL ?_ (by rw [List.length_set]; exact hc) (by rw [c_msz_set (c_vs_ok hvs)]; exact hs; simp [c_sz])
        · have h9 := c_arr_set (base := base) (b := b) (cA := A 0) (v := .int x) j3
          rw [← h9]; exact e1
        · intro z hz
          rcases List.mem_append.mp hz with h1 | h1
          · exact hlo z h1
          · rw [List.mem_singleton.mp h1]; exact Nat.le_add_right _ _
      · cases e1
    · cases e1
  · cases e1
theorem c_aast_i (C : c_ctx p l R s m args meth c D A H0 base b X y cc nL F Rl) (hd : decode cc pc = .ok (.aastore, 1)) (e1 : c_aast pc L st h = some r) (k : c_K p l e R s m args below meth c Q D A H0 base b nL n0 z0 r.1 r.2.1 r.2.2.1 r.2.2.2) : c_K p l e R s m args below meth c Q D A H0 base b nL n0 z0 pc L st h := by
  intro H locs cells slots ls hH hL hlo hc hs
  obtain ⟨hx, hb, -, hown, hts, ⟨hK, hA, -, -, -, hover⟩, -⟩ := C
  unfold c_aast at e1
  split at e1
  · rename_i x i a t
    split at e1
    · rename_i vs hvs
      split at e1
      · rename_i ws hws
        split at e1
        · rename_i j hj
          cases e1
          obtain ⟨-, g2⟩ := hH.2.2.2 a _ (c_vs_ok hvs)
          obtain ⟨-, g3⟩ := hH.2.2.2 x _ (c_vs_ok hws)
          obtain ⟨j1, j2, j3⟩ := c_ix_ok hj
          obtain ⟨comp, c2, kA, o1, o2, o3, o4⟩ := Cond.arrayOver_specA hover
          have hA0 : comp = A 0 := Option.some.inj (o1.symm.trans (hA 0 (by decide)).2)
          have hA2 : c2 = A 2 := Option.some.inj (o4.symm.trans (hA 2 (by decide)).2)
          subst hA0 hA2
          obtain ⟨-, k0, hk0, -⟩ := (hA 0 (by decide)).1 0 (fun _ => .null)
          refine W.aast hx hb g2 (fun z hz => by cases hz) (fun z => by cases z) o2 o3 rfl hk0 ⟨j1, by rw [arrV_size, j2]; exact j3⟩ g3 (fun z hz => by cases hz) hk0 (va_asg _ _) rfl rfl hd fun H1 e1 e2 e3 => ?_
          rw [j2] at e1 ⊢
          refine k H1 _ cells slots ls (hH.set (x := .inr (2, vs.set j (.ref x))) e2 e3 ⟨(show (2 : Nat) < 3 by decide), ?_⟩) hL ?_ (by rw [List.length_set]; exact hc) (by rw [c_msz_set (c_vs_ok hvs)]; exact hs; simp [c_sz])
          · have h9 := c_arr_set (base := base) (b := b) (cA := A 2) (v := .ref x) j3
            rw [← h9]; exact e1
          · intro z hz
            rcases List.mem_append.mp hz with h1 | h1
            · exact hlo z h1
            · rw [List.mem_singleton.mp h1]; exact Nat.le_add_right _ _
        · cases e1
      · cases e1
    · cases e1
  · cases e1
theorem c_alen_i (C : c_ctx p l R s m args meth c D A H0 base b X y cc nL F Rl) (hq : q.1 = .arraylength) (hd : decode cc pc = .ok (.arraylength, 1)) (ok : c_okJ y.cls ini F Rl pc q ix = true) (e1 : c_alen X q pc L st h = some r) (k : c_K p l e R s m args below meth c Q D A H0 base b nL n0 z0 r.1 r.2.1 r.2.2.1 r.2.2.2) : c_K p l e R s m args below meth c Q D A H0 base b nL n0 z0 pc L st h := by
  intro H locs cells slots ls hH hL hlo hc hs
  obtain ⟨hx, hb, -, hown, hts, ⟨hK, hA, -⟩, -, -, -, -, -, ⟨hX, hbb⟩, -⟩ := C
  unfold c_alen at e1
  split at e1
  · rename_i a t
    split at e1
    · rename_i vs hvs
      cases e1
      obtain ⟨g1, g2⟩ := hH.2.2.2 a _ (c_vs_ok hvs)
      exact W.alen hx hb g2 ((hA _ g1).1 _ _) (by rw [arrV_size]) rfl rfl hd (k H locs cells slots ls hH hL hlo hc hs)
    · cases e1
  · rename_i z t
    cases e1
    have hS : va_S (fun q => base ≤ q) H0 H locs := ⟨by rw [hH.2.1, ← hH.1]; exact Nat.le_add_right _ _, fun q hq hz => hH.2.2.1 q (Nat.not_le.mp hz), hlo⟩
    exact va_slen hx hb hX (by rw [← hH.1]; exact hbb) (Nat.not_le.mpr hbb) hS hd (k H locs cells slots ls hH hL hlo hc hs)
  · cases e1
theorem c_rep_V {n : Nat} {v w : Value} (hw : c_v base b v = w) : ∀ j, j < n → vp_V ((List.replicate n v).map (c_v base b)) j = w := by
  intro j hj
  rw [c_vV (v := v) (by rw [List.getElem?_replicate, if_pos hj]), hw]
theorem c_newa_i (C : c_ctx p l R s m args meth c D A H0 base b X y cc nL F Rl) {t : ArrayType} (hq : q.1 = .newarray t) (hd : decode cc pc = .ok (.newarray t, 2)) (ok : c_okJ y.cls ini F Rl pc q ix = true) (e1 : c_newa q pc L st h = some r) (hr1 : r.2.2.2.length ≤ n0 + R.cells) (hr2 : c_msz r.2.2.2 ≤ z0 + R.slots) (k : c_K p l e R s m args below meth c Q D A H0 base b nL n0 z0 r.1 r.2.1 r.2.2.1 r.2.2.2) : c_K p l e R s m args below meth c Q D A H0 base b nL n0 z0 pc L st h := by
  intro H locs cells slots ls hH hL hlo hc hs
  obtain ⟨hx, hb, -, hown, hts, ⟨hK, hA, -⟩, -⟩ := C
  unfold c_okJ at ok
  simp only [hq, Bool.and_eq_true, decide_eq_true_eq] at ok
  obtain ⟨⟨o1, o2⟩, o3⟩ := ok
  obtain ⟨w1, w2⟩ := c_w_ok o3
  unfold c_newa at e1
  split at e1
  · rename_i n t9
    split at e1
    · cases e1
    · rename_i hn
      split at e1
      · rename_i hn2
        cases e1
        simp only [List.length_append, List.length_cons, List.length_nil, c_msz_app, c_sz, List.length_replicate] at hr1 hr2
        have hbytes : n.toNatClampNeg * componentBytes (Jvm.Op.newarray.typeOf t) ≤ 536870912 := by
          have : componentBytes (Jvm.Op.newarray.typeOf t) ≤ 8 := by cases t <;> decide
          exact Nat.le_trans (Nat.mul_le_mul hn2 this) (by decide)
        refine va_newaK hx hb (by rw [o1]; exact hts _ w1 w2) rfl hd rfl hn rfl hbytes (by omega) (by omega) hH.2.1 fun H1 cA e1 e2 e3 e4 e5 => ?_
        have hcA : cA = A q.2.1 := by
          rw [o1] at e5
          exact Option.some.inj (e5.symm.trans (hA _ (by omega)).2)
        subst hcA
        refine k H1 locs _ _ ls (hH.push (x := some (.inr (q.2.1, List.replicate n.toNatClampNeg (defaultValue (c_tag q.2.1))))) (by rw [e2, hH.2.1]) (fun z hz => e3 z (by rw [← hH.2.1]; exact hz)) (fun y9 hy9 => ?_)) hL hlo (by simp; omega) (by rw [c_msz_app]; simp [c_sz]; omega)
        cases hy9
        refine ⟨by show q.2.1 < 3; omega, ?_⟩
        rw [e1, o1]
        simp only [List.length_replicate]
        congr 1
        refine c_arrV_congr fun j hj => (c_rep_V ?_ j hj).symm
        rcases (show q.2.1 = 0 ∨ q.2.1 = 1 by omega) with h9 | h9 <;> rw [h9] <;> rfl
      · cases e1
  · cases e1
theorem c_new_i (C : c_ctx p l R s m args meth c D A H0 base b X y cc nL F Rl) {i : Nat} (hq : q.1 = .new i) (hq2 : ¬ q.2.2.2 = 1) (hd : decode cc pc = .ok (.new i, 3)) (ok : c_okJ y.cls ini F Rl pc q ix = true) (hr1 : h.length + 1 ≤ n0 + R.cells) (hr2 : c_msz h + c_nf q.2.1 ≤ z0 + R.slots) (k : c_K p l e R s m args below meth c Q D A H0 base b nL n0 z0 (pc + 3) L (.ref h.length :: st) (h ++ [some (.inl (q.2.1, c_dfl c_ty q.2.1 (c_nf q.2.1)))])) : c_K p l e R s m args below meth c Q D A H0 base b nL n0 z0 pc L st h := by
  intro H locs cells slots ls hH hL hlo hc hs
  obtain ⟨hx, hb, -, hown, hts, ⟨hK, hA, -⟩, -⟩ := C
  unfold c_okJ at ok
  simp only [hq] at ok
  rw [if_neg hq2] at ok
  split at ok
  · rename_i rr g1
    simp only [Bool.and_eq_true] at ok
    obtain ⟨⟨o1, o2⟩, o3⟩ := ok
    obtain ⟨u1, u2⟩ := c_w_ok o1
    obtain ⟨v1, v2⟩ := c_w_ok o2
    obtain ⟨w1, w2⟩ := c_w_ok o3
    obtain ⟨C9, T, N⟩ := rr
    obtain ⟨hin, hty, hnm, hnf⟩ := c_cl_ok _ _ g1
    have hnf : c_nf q.2.1 = N := hnf
    have hts2 : ∀ w ∈ u_ws C9 T N, w.before args s = true := fun w hw => hts w (hin w hw) (c_uws w hw)
    have hKn := hK.1 q.2.1 _ g1
    rw [hnf] at hr2 k
    refine W.newcK hx hb hown (hts _ u1 u2) (hts _ v1 v2) (hts _ w1 w2) rfl hd (by omega) (by omega) hKn.2.1 hH.2.1 fun H1 kC hkC e1 e2 e3 => ?_
    have hlen : (c_dfl c_ty q.2.1 N).length = N := by simp [c_dfl]
    refine k H1 locs _ _ ls (hH.push (by rw [e2, hH.2.1]) (fun z hz => e3 z (by rw [← hH.2.1]; exact hz)) (fun y9 hy9 => ?_)) hL hlo (by simp; omega) (by rw [c_msz_app]; simp only [c_sz, hlen]; omega)
    cases hy9
    refine ⟨(C9, T, N), g1, hlen, (u_born (c_ty q.2.1) hts2 (fun w hw => hw) hKn hkC e1 hty).to (fun j hj => ?_)⟩
    show _ = vp_V ((c_dfl c_ty q.2.1 N).map (c_v base b)) j
    rw [c_vV (v := defaultValue (c_ty q.2.1 j)) (by simp [c_dfl, hj])]
    cases c_ty q.2.1 j <;> rfl
  · cases ok
theorem c_cast_i (C : c_ctx p l R s m args meth c D A H0 base b X y cc nL F Rl) {i : Nat} (hq : q.1 = .checkcast i) (hd : decode cc pc = .ok (.checkcast i, 3)) (ok : c_okJ y.cls ini F Rl pc q ix = true) (e1 : c_cast q pc L st h = some r) (k : c_K p l e R s m args below meth c Q D A H0 base b nL n0 z0 r.1 r.2.1 r.2.2.1 r.2.2.2) : c_K p l e R s m args below meth c Q D A H0 base b nL n0 z0 pc L st h := by
  intro H locs cells slots ls hH hL hlo hc hs
  obtain ⟨hx, hb, -, hown, hts, ⟨hK, hA, -⟩, -⟩ := C
  unfold c_okJ at ok
  simp only [hq, Bool.and_eq_true, decide_eq_true_eq] at ok
  obtain ⟨o1, o2⟩ := ok
  obtain ⟨w1, w2⟩ := c_w_ok o2
  unfold c_cast at e1
  split at e1
  · rename_i a t
    split at e1
    · rename_i vs hvs
      cases e1
      obtain ⟨-, g2⟩ := hH.2.2.2 a _ (c_vs_ok hvs)
      intro T hT X9
      obtain ⟨vm', X', st9⟩ := X9.checkcastYes hx hown (hts _ w1 w2) (by rw [hT]; exact g2) rfl (hA _ o1).2 (va_asg _ _) (g := F0 m pc ls (.ref (base + a) :: t.map (c_v base b))) rfl rfl (by rw [hb]; exact hd)
      obtain ⟨t9, a1, b1⟩ := k H locs cells slots ls hH hL hlo hc hs (T.setVm vm') hT X'
      exact ⟨t9, st9 t9 a1, b1⟩
    · cases e1
  · cases e1
end SimA
