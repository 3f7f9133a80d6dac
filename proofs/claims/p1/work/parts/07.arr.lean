section SimA
variable {p : Program} {l : Launch} {e : Env} {R : Room} {s : State} {m : MethodId} {args : Array Value} {below : List Frame} {meth : Method} {c : Code} {Q : State → Prop}
variable {D : va_G} {A : Nat → ClassId} {H0 : Heap} {base nL n0 z0 F Rl : Nat} {B : c_B} {X : List Int32} {E : c_E} {y : MethodName} {cc : ByteArray} {ini : Bool} {pc : Nat} {q : c_I} {ix : List Nat} {L : c_Ls} {st : List Value} {h : c_Hp} {r : c_R}
theorem c_vV {vs : List Value} {j : Nat} {v : Value} (hv : vs[j]? = some v) : vp_V (vs.map (c_v base B)) j = c_v base B v := by
  unfold vp_V
  rw [List.getD_eq_getElem?_getD, List.getElem?_map, hv]
  rfl
theorem c_rd {cA : ClassId} {vs : List Value} {i : Int32} {j : Nat} {v : Value} (hj : i.toNatClampNeg = j) (hv : vs[j]? = some v) : (arrV cA vs.length (vp_V (vs.map (c_v base B)))).slots[i.toNatClampNeg]? = some (c_v base B v) := by
  rw [hj, arrV_read _ _ (List.getElem?_eq_some_iff.mp hv).1, c_vV hv]
theorem c_in {cA : ClassId} {vs : List Value} {f : Nat → Value} {i : Int32} {j : Nat} (h0 : ¬ i < 0) (hj : i.toNatClampNeg = j) (hl : j < vs.length) : ¬ (i < 0 ∨ (arrV cA vs.length f).slots.size ≤ i.toNatClampNeg) := by
  rw [arrV_size, hj]
  intro z
  rcases z with z | z
  · exact h0 z
  · omega
theorem c_arr_set {cA : ClassId} {vs : List Value} {j : Nat} {v : Value} (hl : j < vs.length) : (arrV cA vs.length (vp_V (vs.map (c_v base B)))).setSlot j (c_v base B v) = arrV cA (vs.set j v).length (vp_V ((vs.set j v).map (c_v base B))) := by
  rw [arrV_store, List.length_set, List.map_set]
  congr 1
  exact funext fun i => vp_updV_set (by rw [List.length_map]; exact hl) _ i
theorem c_gets_i (C : c_ctx p l R s m args meth c D A H0 base B X E y cc nL F Rl) {C9 n9 d9 : String} {v : Value} {i : Nat} (hZ : va_Z C9 n9 d9 v (fun q => base ≤ q) s H0) (hlink : (Cond.fieldLink y.cls i C9 n9 d9).before args s = true) (hd : decode cc pc = .ok (.getstatic i, 3)) {rest : List Value} {H : Heap} {locs : List Loc} {cells slots : Nat} {ls : Array Slot} (hS : va_S (fun q => base ≤ q) H0 H locs)
    (k : W p l e R s m args below meth c H locs cells slots Q (F0 m (pc + 3) ls (v :: rest))) : W p l e R s m args below meth c H locs cells slots Q (F0 m pc ls rest) := by
  obtain ⟨hx, hb, -, hown, -⟩ := C
  obtain ⟨cf, kf, fi, f, a, cell, h1, h2, h3, h4, h5, h6, h7, h8⟩ := hZ.kept hS.2.1
  exact W.gets hx hb hown hlink h1 h2 h3 h4 h5 (fun e => by rw [e] at h6; cases h6) h7 rfl hd k
theorem c_iald0_i (C : c_ctx p l R s m args meth c D A H0 base B X E y cc nL F Rl) (hd : decode cc pc = .ok (.iaload, 1)) (e1 : c_ald 0 c_sy pc L st h = some r) (k : c_K p l e R s m args below meth c Q D A H0 base B nL n0 z0 r.1 r.2.1 r.2.2.1 r.2.2.2) : c_K p l e R s m args below meth c Q D A H0 base B nL n0 z0 pc L st h := by
  intro H locs cells slots ls hH hL hlo hc hs
  obtain ⟨hx, hb, -, hown, hts, ⟨hK, hA, -⟩, -⟩ := C
  unfold c_ald at e1
  split at e1
  · rename_i i a t
    split at e1
    · rename_i vs hvs
      split at e1
      · rename_i j hj
        rw [c_nth_eq] at e1
        split at e1
        · rename_i x hv
          split at e1
          · cases e1
            obtain ⟨-, g2⟩ := hH.2.2.2 a _ (c_vs_ok hvs)
            obtain ⟨j1, j2, j3⟩ := c_ix_ok hj
            exact W.iald (v := c_v base B x) hx hb g2 ((hA 0 (by decide)).1 _ _) (fun z => by cases z) (c_in j1 j2 j3) (c_rd j2 hv) rfl rfl hd (k H locs cells slots ls hH hL hlo hc hs)
          · cases e1
        · cases e1
      · cases e1
    · cases e1
  · cases e1
theorem c_lald0_i (C : c_ctx p l R s m args meth c D A H0 base B X E y cc nL F Rl) (hd : decode cc pc = .ok (.laload, 1)) (e1 : c_ald 1 c_lg pc L st h = some r) (k : c_K p l e R s m args below meth c Q D A H0 base B nL n0 z0 r.1 r.2.1 r.2.2.1 r.2.2.2) : c_K p l e R s m args below meth c Q D A H0 base B nL n0 z0 pc L st h := by
  intro H locs cells slots ls hH hL hlo hc hs
  obtain ⟨hx, hb, -, hown, hts, ⟨hK, hA, -⟩, -⟩ := C
  unfold c_ald at e1
  split at e1
  · rename_i i a t
    split at e1
    · rename_i vs hvs
      split at e1
      · rename_i j hj
        rw [c_nth_eq] at e1
        split at e1
        · rename_i x hv
          split at e1
          · cases e1
            obtain ⟨-, g2⟩ := hH.2.2.2 a _ (c_vs_ok hvs)
            obtain ⟨j1, j2, j3⟩ := c_ix_ok hj
            exact W.lald (v := c_v base B x) hx hb g2 ((hA 1 (by decide)).1 _ _) (fun z => by cases z) (c_in j1 j2 j3) (c_rd j2 hv) rfl rfl hd (k H locs cells slots ls hH hL hlo hc hs)
          · cases e1
        · cases e1
      · cases e1
    · cases e1
  · cases e1
theorem c_zald0_i (C : c_ctx p l R s m args meth c D A H0 base B X E y cc nL F Rl) (hd : decode cc pc = .ok (.baload, 1)) (e1 : c_ald 4 c_b01 pc L st h = some r) (k : c_K p l e R s m args below meth c Q D A H0 base B nL n0 z0 r.1 r.2.1 r.2.2.1 r.2.2.2) : c_K p l e R s m args below meth c Q D A H0 base B nL n0 z0 pc L st h := by
  intro H locs cells slots ls hH hL hlo hc hs
  obtain ⟨hx, hb, -, hown, hts, ⟨hK, hA, -⟩, -⟩ := C
  unfold c_ald at e1
  split at e1
  · rename_i i a t
    split at e1
    · rename_i vs hvs
      split at e1
      · rename_i j hj
        rw [c_nth_eq] at e1
        split at e1
        · rename_i x hv
          split at e1
          · cases e1
            obtain ⟨-, g2⟩ := hH.2.2.2 a _ (c_vs_ok hvs)
            obtain ⟨j1, j2, j3⟩ := c_ix_ok hj
            exact W.zald (v := c_v base B x) hx hb g2 ((hA 4 (by decide)).1 _ _) (fun z => by cases z) (c_in j1 j2 j3) (c_rd j2 hv) rfl rfl hd (k H locs cells slots ls hH hL hlo hc hs)
          · cases e1
        · cases e1
      · cases e1
    · cases e1
  · cases e1
theorem c_aald2_i (C : c_ctx p l R s m args meth c D A H0 base B X E y cc nL F Rl) (hd : decode cc pc = .ok (.aaload, 1)) (e1 : c_ald 2 c_rf pc L st h = some r) (k : c_K p l e R s m args below meth c Q D A H0 base B nL n0 z0 r.1 r.2.1 r.2.2.1 r.2.2.2) : c_K p l e R s m args below meth c Q D A H0 base B nL n0 z0 pc L st h := by
  intro H locs cells slots ls hH hL hlo hc hs
  obtain ⟨hx, hb, -, hown, hts, ⟨hK, hA, -⟩, -⟩ := C
  unfold c_ald at e1
  split at e1
  · rename_i i a t
    split at e1
    · rename_i vs hvs
      split at e1
      · rename_i j hj
        rw [c_nth_eq] at e1
        split at e1
        · rename_i x hv
          split at e1
          · cases e1
            obtain ⟨-, g2⟩ := hH.2.2.2 a _ (c_vs_ok hvs)
            obtain ⟨j1, j2, j3⟩ := c_ix_ok hj
            exact W.aald (v := c_v base B x) hx hb g2 ((hA 2 (by decide)).1 _ _) rfl (fun z => by cases z) (c_in j1 j2 j3) (c_rd j2 hv) rfl rfl hd (k H locs cells slots ls hH hL hlo hc hs)
          · cases e1
        · cases e1
      · cases e1
    · cases e1
  · cases e1
theorem c_aald3_i (C : c_ctx p l R s m args meth c D A H0 base B X E y cc nL F Rl) (hd : decode cc pc = .ok (.aaload, 1)) (e1 : c_ald 3 c_rn pc L st h = some r) (k : c_K p l e R s m args below meth c Q D A H0 base B nL n0 z0 r.1 r.2.1 r.2.2.1 r.2.2.2) : c_K p l e R s m args below meth c Q D A H0 base B nL n0 z0 pc L st h := by
  intro H locs cells slots ls hH hL hlo hc hs
  obtain ⟨hx, hb, -, hown, hts, ⟨hK, hA, -⟩, -⟩ := C
  unfold c_ald at e1
  split at e1
  · rename_i i a t
    split at e1
    · rename_i vs hvs
      split at e1
      · rename_i j hj
        rw [c_nth_eq] at e1
        split at e1
        · rename_i x hv
          split at e1
          · cases e1
            obtain ⟨-, g2⟩ := hH.2.2.2 a _ (c_vs_ok hvs)
            obtain ⟨j1, j2, j3⟩ := c_ix_ok hj
            exact W.aald (v := c_v base B x) hx hb g2 ((hA 3 (by decide)).1 _ _) rfl (fun z => by cases z) (c_in j1 j2 j3) (c_rd j2 hv) rfl rfl hd (k H locs cells slots ls hH hL hlo hc hs)
          · cases e1
        · cases e1
      · cases e1
    · cases e1
  · cases e1
theorem c_iald_i (C : c_ctx p l R s m args meth c D A H0 base B X E y cc nL F Rl) (hd : decode cc pc = .ok (.iaload, 1)) (e1 : c_iald E pc L st h = some r) (k : c_K p l e R s m args below meth c Q D A H0 base B nL n0 z0 r.1 r.2.1 r.2.2.1 r.2.2.2) : c_K p l e R s m args below meth c Q D A H0 base B nL n0 z0 pc L st h := by
  have C2 := C
  obtain ⟨hx, hb, -, hown, hts, -, -, -, -, -, -, ⟨hX, hbb⟩, -, -, -, hE⟩ := C2
  unfold c_iald at e1
  split at e1
  · rename_i i t
    intro H locs cells slots ls hH hL hlo hc hs
    split at e1
    · rename_i j hj
      rw [c_nth_eq] at e1
      split at e1
      · rename_i x hv
        split at e1
        · cases e1
          obtain ⟨j1, j2, j3⟩ := c_ix_ok hj
          have k1 := k H locs cells slots ls hH hL hlo hc hs
          have hvx := c_iv_v (base := base) (hE.2.1 j x hv)
          refine va_sld hx hb hX (by rw [← hH.1]; exact hbb) (Nat.not_le.mpr hbb) (hH.S hlo) ?_ hd ?_
          · intro z
            rcases z with z | z
            · exact j1 z
            · rw [j2, ← hE.1] at z; omega
          · rw [j2, ← hvx]; exact k1
        · cases e1
      · cases e1
    · cases e1
  · exact c_iald0_i C hd e1 k
theorem c_aald_i (C : c_ctx p l R s m args meth c D A H0 base B X E y cc nL F Rl) (hd : decode cc pc = .ok (.aaload, 1)) (e1 : c_aald q pc L st h = some r) (k : c_K p l e R s m args below meth c Q D A H0 base B nL n0 z0 r.1 r.2.1 r.2.2.1 r.2.2.2) : c_K p l e R s m args below meth c Q D A H0 base B nL n0 z0 pc L st h := by
  have C2 := C
  obtain ⟨hx, hb, -, hown, hts, -, -, -, -, -, -, -, -, -, hold, -⟩ := C2
  unfold c_aald at e1
  split at e1
  · rename_i i t
    intro H locs cells slots ls hH hL hlo hc hs
    split at e1
    · rename_i hi
      cases e1
      obtain ⟨-, -, ⟨-, f, h5, h6⟩, -, -, -⟩ := hold
      obtain ⟨cell, g1, g2, g3, g4, g5, g6, g7⟩ := h5.kept (hH.S hlo).2.1
      have hi2 : i.toNatClampNeg = 128 := by rw [hi]; decide
      refine W.aald (v := .ref (B.1 2)) (ty := .object "java/lang/Integer") hx hb g1 g2 rfl g3 ?_ ?_ rfl rfl hd (k H locs cells slots ls hH hL hlo hc hs)
      · intro z
        rcases z with z | z
        · rw [hi] at z; exact absurd z (by decide)
        · rw [hi2] at z; omega
      · rw [hi2, g6 128 (by decide), h6]
    · cases e1
  · split at e1
    · exact c_aald2_i C hd e1 k
    · split at e1
      · exact c_aald3_i C hd e1 k
      · cases e1
theorem c_iast_i (C : c_ctx p l R s m args meth c D A H0 base B X E y cc nL F Rl) (hd : decode cc pc = .ok (.iastore, 1)) (e1 : c_ast 0 c_sy pc L st h = some r) (k : c_K p l e R s m args below meth c Q D A H0 base B nL n0 z0 r.1 r.2.1 r.2.2.1 r.2.2.2) : c_K p l e R s m args below meth c Q D A H0 base B nL n0 z0 pc L st h := by
  intro H locs cells slots ls hH hL hlo hc hs
  obtain ⟨hx, hb, -, hown, hts, ⟨hK, hA, -⟩, -⟩ := C
  unfold c_ast at e1
  split at e1
  · rename_i x i a t
    split at e1
    · rename_i vs hvs
      split at e1
      · rename_i j hj
        split at e1
        · rename_i hk
          rw [c_upd_eq, c_upd_eq] at e1
          cases e1
          obtain ⟨-, g2⟩ := hH.2.2.2 a _ (c_vs_ok hvs)
          obtain ⟨j1, j2, j3⟩ := c_ix_ok hj
          obtain ⟨xv, hxv⟩ := c_sy_v (base := base) (B := B) hk
          rw [List.map_cons, List.map_cons, List.map_cons, hxv]
          refine W.iast hx hb g2 ((hA 0 (by decide)).1 _ _) (fun z => by cases z) (c_in j1 j2 j3) rfl rfl hd fun H1 e1 e2 e3 => ?_
          rw [j2] at e1 ⊢
          refine k H1 _ cells slots ls (hH.set (x := .inr (0, vs.set j x)) e2 e3 ⟨(show (0 : Nat) < 6 by decide), ?_⟩) hL ?_ (by rw [List.length_set]; exact hc) (by rw [c_msz_set (c_vs_ok hvs)]; exact hs; simp [c_sz])
          · have h9 := c_arr_set (base := base) (B := B) (cA := A 0) (v := x) j3
            rw [← h9, hxv]; exact e1
          · intro z hz
            rcases List.mem_append.mp hz with h1 | h1
            · exact hlo z h1
            · rw [List.mem_singleton.mp h1]; exact Nat.le_add_right _ _
        · cases e1
      · cases e1
    · cases e1
  · cases e1
theorem c_last_i (C : c_ctx p l R s m args meth c D A H0 base B X E y cc nL F Rl) (hd : decode cc pc = .ok (.lastore, 1)) (e1 : c_ast 1 c_lg pc L st h = some r) (k : c_K p l e R s m args below meth c Q D A H0 base B nL n0 z0 r.1 r.2.1 r.2.2.1 r.2.2.2) : c_K p l e R s m args below meth c Q D A H0 base B nL n0 z0 pc L st h := by
  intro H locs cells slots ls hH hL hlo hc hs
  obtain ⟨hx, hb, -, hown, hts, ⟨hK, hA, -⟩, -⟩ := C
  unfold c_ast at e1
  split at e1
  · rename_i x i a t
    split at e1
    · rename_i vs hvs
      split at e1
      · rename_i j hj
        split at e1
        · rename_i hk
          rw [c_upd_eq, c_upd_eq] at e1
          cases e1
          obtain ⟨-, g2⟩ := hH.2.2.2 a _ (c_vs_ok hvs)
          obtain ⟨j1, j2, j3⟩ := c_ix_ok hj
          obtain ⟨xv, hxv⟩ := c_lg_v (base := base) (B := B) hk
          rw [List.map_cons, List.map_cons, List.map_cons, hxv]
          refine W.last hx hb g2 ((hA 1 (by decide)).1 _ _) (fun z => by cases z) (c_in j1 j2 j3) rfl rfl hd fun H1 e1 e2 e3 => ?_
          rw [j2] at e1 ⊢
          refine k H1 _ cells slots ls (hH.set (x := .inr (1, vs.set j x)) e2 e3 ⟨(show (1 : Nat) < 6 by decide), ?_⟩) hL ?_ (by rw [List.length_set]; exact hc) (by rw [c_msz_set (c_vs_ok hvs)]; exact hs; simp [c_sz])
          · have h9 := c_arr_set (base := base) (B := B) (cA := A 1) (v := x) j3
            rw [← h9, hxv]; exact e1
          · intro z hz
            rcases List.mem_append.mp hz with h1 | h1
            · exact hlo z h1
            · rw [List.mem_singleton.mp h1]; exact Nat.le_add_right _ _
        · cases e1
      · cases e1
    · cases e1
  · cases e1
theorem c_zast_i (C : c_ctx p l R s m args meth c D A H0 base B X E y cc nL F Rl) (hd : decode cc pc = .ok (.bastore, 1)) (e1 : c_ast 4 c_b01 pc L st h = some r) (k : c_K p l e R s m args below meth c Q D A H0 base B nL n0 z0 r.1 r.2.1 r.2.2.1 r.2.2.2) : c_K p l e R s m args below meth c Q D A H0 base B nL n0 z0 pc L st h := by
  intro H locs cells slots ls hH hL hlo hc hs
  obtain ⟨hx, hb, -, hown, hts, ⟨hK, hA, -⟩, -⟩ := C
  unfold c_ast at e1
  split at e1
  · rename_i x i a t
    split at e1
    · rename_i vs hvs
      split at e1
      · rename_i j hj
        split at e1
        · rename_i hk
          rw [c_upd_eq, c_upd_eq] at e1
          cases e1
          obtain ⟨-, g2⟩ := hH.2.2.2 a _ (c_vs_ok hvs)
          obtain ⟨j1, j2, j3⟩ := c_ix_ok hj
          obtain ⟨xv, hxe, hnar⟩ : ∃ xv, x = .int xv ∧ narrow .boolean (.int xv) = .int xv := by
            unfold c_b01 at hk
            split at hk
            · rename_i z
              rw [Bool.or_eq_true, decide_eq_true_eq, decide_eq_true_eq] at hk
              rcases hk with rfl | rfl <;> exact ⟨_, rfl, by decide⟩
            · cases hk
          subst hxe
          refine W.zast hx hb g2 ((hA 4 (by decide)).1 _ _) (fun z => by cases z) (c_in j1 j2 j3) rfl rfl hd fun H1 e1 e2 e3 => ?_
          rw [j2] at e1 ⊢
          rw [hnar] at e1
          refine k H1 _ cells slots ls (hH.set (x := .inr (4, vs.set j (.int xv))) e2 e3 ⟨(show (4 : Nat) < 6 by decide), ?_⟩) hL ?_ (by rw [List.length_set]; exact hc) (by rw [c_msz_set (c_vs_ok hvs)]; exact hs; simp [c_sz])
          · have h9 := c_arr_set (base := base) (B := B) (cA := A 4) (v := .int xv) j3
            rw [← h9]; exact e1
          · intro z hz
            rcases List.mem_append.mp hz with h1 | h1
            · exact hlo z h1
            · rw [List.mem_singleton.mp h1]; exact Nat.le_add_right _ _
        · cases e1
      · cases e1
    · cases e1
  · cases e1
/-- the cell of what a row of objects takes -/
theorem c_ok3_cell {H : Heap} {locs : List Loc} {v : Value} (hk : c_ok3 h v = true) (hA : ∀ t, t < 6 → ArrOfT s (A t) (c_tag t) ∧ s.vm.findClass ("[" ++ (c_tag t).toString) = some (A t)) (hold : c_Old base B H0 s) (hH : c_HR D A H0 base B h H) (hS : va_S (fun q => base ≤ q) H0 H locs) (n1 : va_Nw (.castable "[I" "java/lang/Object") s) (n2 : va_Nw (.castable "java/lang/Integer" "java/lang/Object") s) :
    c_v base B v = .null ∨ ∃ a cv kv, c_v base B v = .ref a ∧ H[a]? = some cv ∧ (∀ q, cv.vm ≠ .statics q) ∧ s.vm.classes[cv.cls]? = some kv ∧ ∀ comp, s.vm.findClass "java/lang/Object" = some comp → s.vm.assignable cv.cls comp = true := by
  unfold c_ok3 at hk
  split at hk
  · rename_i x
    right
    obtain ⟨ws, hws⟩ := Option.isSome_iff_exists.mp hk
    obtain ⟨-, g3⟩ := hH.2.2.2 x _ (c_vs_ok hws)
    obtain ⟨-, k0, hk0, -⟩ := (hA 0 (by decide)).1 0 (fun _ => .null)
    exact ⟨_, _, k0, rfl, g3, (fun z hz => by cases hz), hk0, fun comp hc => vb_asgC n1 comp _ hc (hA 0 (by decide)).2⟩
  · rename_i i
    right
    have hi := Nat.eq_of_beq_eq_true hk
    subst hi
    obtain ⟨-, -, -, ⟨h7, -⟩, -, -⟩ := hold
    obtain ⟨cell, g1, g2, g3, -⟩ := h7.kept hS.2.1
    obtain ⟨kC, hkC, -⟩ := Vm.findClass_spec g3
    exact ⟨B.1 2, cell, kC, rfl, g1, (fun z hz => by rw [hz] at g2; cases g2), hkC, fun comp hc => vb_asgC n2 comp _ hc g3⟩
  · exact Or.inl rfl
  · cases hk
theorem c_aast_i (C : c_ctx p l R s m args meth c D A H0 base B X E y cc nL F Rl) (hq : q.1 = .aastore) (hd : decode cc pc = .ok (.aastore, 1)) (ok : c_okJ y.cls ini F Rl pc q ix = true) (e1 : c_aast q pc L st h = some r) (k : c_K p l e R s m args below meth c Q D A H0 base B nL n0 z0 r.1 r.2.1 r.2.2.1 r.2.2.2) : c_K p l e R s m args below meth c Q D A H0 base B nL n0 z0 pc L st h := by
  intro H locs cells slots ls hH hL hlo hc hs
  obtain ⟨hx, hb, -, hown, hts, ⟨hK, hA, hng, -, -, -, hover⟩, -, -, -, -, -, -, -, -, hold, -⟩ := C
  unfold c_okJ at ok
  simp only [hq, Bool.and_eq_true] at ok
  obtain ⟨u1, u2⟩ := c_n_ok ok.1
  obtain ⟨v1, v2⟩ := c_n_ok ok.2
  unfold c_aast at e1
  split at e1
  · unfold c_ast at e1
    split at e1
    · rename_i x i a t
      split at e1
      · rename_i vs hvs
        split at e1
        · rename_i j hj
          split at e1
          · rename_i hk
            rw [c_upd_eq, c_upd_eq] at e1
            cases e1
            obtain ⟨-, g2⟩ := hH.2.2.2 a _ (c_vs_ok hvs)
            obtain ⟨j1, j2, j3⟩ := c_ix_ok hj
            obtain ⟨comp, c2, kA, o1, -, o3, o4, o5⟩ := Cond.arrayOver_spec hover
            have hA3 : c2 = A 3 := Option.some.inj (o5.symm.trans (hA 3 (by decide)).2)
            subst hA3
            obtain ⟨kE, hkE, -⟩ := Vm.findClass_spec o1
            have fin : ∀ (H1 : Heap), H1[base + a]? = some ((arrV (A 3) vs.length (vp_V (vs.map (c_v base B)))).setSlot j (c_v base B x)) → H1.size = H.size → (∀ z, z ≠ base + a → H1[z]? = H[z]?) → W p l e R s m args below meth c H1 (locs ++ [⟨base + a, j⟩]) cells slots Q (F0 m (pc + 1) ls (t.map (c_v base B))) := by
              intro H1 e1 e2 e3
              refine k H1 _ cells slots ls (hH.set (x := .inr (3, vs.set j x)) e2 e3 ⟨(show (3 : Nat) < 6 by decide), ?_⟩) hL ?_ (by rw [List.length_set]; exact hc) (by rw [c_msz_set (c_vs_ok hvs)]; exact hs; simp [c_sz])
              · rw [← c_arr_set j3]; exact e1
              · intro z hz
                rcases List.mem_append.mp hz with h1 | h1
                · exact hlo z h1
                · rw [List.mem_singleton.mp h1]; exact Nat.le_add_right _ _
            rw [List.map_cons, List.map_cons, List.map_cons]
            rcases c_ok3_cell hk hA hold hH (hH.S hlo) (hng _ u1 u2) (hng _ v1 v2) with hn | ⟨b9, cv, kv, hv0, hv1, hv2, hv3, hv4⟩
            · rw [hn] at fin ⊢
              refine va_WaastN (C := "java/lang/Object") hx hb g2 ((hA 3 (by decide)).1 _ _) (fun z => by cases z) (c_in j1 j2 j3) rfl rfl hd fun H1 e1 e2 e3 => ?_
              rw [j2] at e1 ⊢
              exact fin H1 e1 e2 e3
            · rw [hv0] at fin ⊢
              refine W.aast hx hb g2 (fun z hz => by cases hz) (fun z => by cases z) o3 o4 rfl hkE ⟨j1, by rw [arrV_size, j2]; exact j3⟩ hv1 hv2 hv3 (hv4 _ o1) rfl rfl hd fun H1 e1 e2 e3 => ?_
              rw [j2] at e1 ⊢
              exact fin H1 e1 e2 e3
          · cases e1
        · cases e1
      · cases e1
    · cases e1
  · cases e1
theorem c_alen_i (C : c_ctx p l R s m args meth c D A H0 base B X E y cc nL F Rl) (hd : decode cc pc = .ok (.arraylength, 1)) (e1 : c_alen E q pc L st h = some r) (k : c_K p l e R s m args below meth c Q D A H0 base B nL n0 z0 r.1 r.2.1 r.2.2.1 r.2.2.2) : c_K p l e R s m args below meth c Q D A H0 base B nL n0 z0 pc L st h := by
  intro H locs cells slots ls hH hL hlo hc hs
  obtain ⟨hx, hb, -, hown, hts, ⟨hK, hA, -⟩, -, -, -, -, -, ⟨hX, hbb⟩, -, -, hold, hE⟩ := C
  unfold c_alen at e1
  split at e1
  · rename_i a t
    rw [c_nth_eq] at e1
    split at e1
    · rename_i vs hvs
      split at e1
      · rename_i ht
        rw [c_nrm_eq] at e1
        cases e1
        obtain ⟨k9, vs⟩ := vs
        obtain ⟨g1, g2⟩ := hH.2.2.2 a _ hvs
        exact W.alen hx hb g2 ((hA _ g1).1 _ _) (by rw [arrV_size]) rfl rfl hd (k H locs cells slots ls hH hL hlo hc hs)
      · cases e1
    · cases e1
  · rename_i t
    cases e1
    rw [hE.1] at k
    exact va_slen hx hb hX (by rw [← hH.1]; exact hbb) (Nat.not_le.mpr hbb) (hH.S hlo) hd (k H locs cells slots ls hH hL hlo hc hs)
  · rename_i t
    cases e1
    obtain ⟨⟨-, f, h2⟩, -⟩ := hold
    obtain ⟨cell, g1, g2, g3, g4, g5, g6, g7⟩ := h2.kept (hH.S hlo).2.1
    exact W.alen (n := 0) hx hb g1 g2 g5 rfl rfl hd (k H locs cells slots ls hH hL hlo hc hs)
  · cases e1
theorem c_rep_V {n : Nat} {v w : Value} (hw : c_v base B v = w) : ∀ j, j < n → vp_V ((List.replicate n v).map (c_v base B)) j = w := by
  intro j hj
  rw [c_vV (v := v) (by rw [List.getElem?_replicate, if_pos hj]), hw]
theorem c_dflv (t : Nat) : c_v base B (defaultValue (c_tag t)) = defaultValue (c_tag t) := by
  unfold c_tag
  split <;> rfl
theorem c_rep_arr {cA : ClassId} {n : Nat} {v : Value} (hw : c_v base B v = v) : ({ cls := cA, slots := Array.replicate n v, vm := .none } : Cell) = arrV cA (List.replicate n v).length (vp_V ((List.replicate n v).map (c_v base B))) := by
  rw [List.length_replicate, c_arrV_congr (g := fun _ => v) (c_rep_V hw)]
  unfold arrV
  congr 1
  apply Array.ext
  · simp
  · intro i h1 h2
    simp
theorem c_newa_i (C : c_ctx p l R s m args meth c D A H0 base B X E y cc nL F Rl) {t : ArrayType} (hq : q.1 = .newarray t) (hd : decode cc pc = .ok (.newarray t, 2)) (ok : c_okJ y.cls ini F Rl pc q ix = true) (e1 : c_newa q pc 2 L st h = some r) (hr1 : r.2.2.2.length ≤ n0 + R.cells) (hr2 : c_msz r.2.2.2 ≤ z0 + R.slots) (k : c_K p l e R s m args below meth c Q D A H0 base B nL n0 z0 r.1 r.2.1 r.2.2.1 r.2.2.2) : c_K p l e R s m args below meth c Q D A H0 base B nL n0 z0 pc L st h := by
  intro H locs cells slots ls hH hL hlo hc hs
  obtain ⟨hx, hb, -, hown, hts, ⟨hK, hA, -⟩, -⟩ := C
  unfold c_okJ at ok
  simp only [hq, Bool.and_eq_true, Bool.or_eq_true, decide_eq_true_eq] at ok
  obtain ⟨⟨o1, o2⟩, o3⟩ := ok
  obtain ⟨w1, w2⟩ := c_w_ok o3
  have o4 : q.2.1 < 6 := by omega
  unfold c_newa at e1
  split at e1
  · rename_i n t9
    split at e1
    · cases e1
    · rename_i hn
      split at e1
      · rename_i hn2
        cases e1
        simp only [List.length_append, List.length_cons, List.length_nil, c_msz_app, c_sz, List.length_replicate] at hr1 hr2
        have hbytes : n.toNatClampNeg * componentBytes (Jvm.Op.newarray.typeOf t) ≤ 536870912 := by
          have : componentBytes (Jvm.Op.newarray.typeOf t) ≤ 8 := by cases t <;> decide
          exact Nat.le_trans (Nat.mul_le_mul hn2 this) (by decide)
        refine va_newaK hx hb (by rw [o1]; exact hts _ w1 w2) rfl hd rfl hn rfl hbytes (by omega) (by omega) hH.2.1 fun H1 cA e1 e2 e3 e4 e5 => ?_
        have hcA : cA = A q.2.1 := by
          rw [o1] at e5
          exact Option.some.inj (e5.symm.trans (hA _ o4).2)
        subst hcA
        refine k H1 locs _ _ ls (hH.push (x := some (.inr (q.2.1, List.replicate n.toNatClampNeg (defaultValue (c_tag q.2.1))))) (by rw [e2, hH.2.1]) (fun z hz => e3 z (by rw [← hH.2.1]; exact hz)) (fun y9 hy9 => ?_)) hL hlo (by simp; omega) (by rw [c_msz_app]; simp [c_sz]; omega)
        cases hy9
        refine ⟨o4, ?_⟩
        rw [e1, o1]
        simp only [List.length_replicate]
        congr 1
        exact c_arrV_congr fun j hj => (c_rep_V (c_dflv _) j hj).symm
      · cases e1
  · cases e1
theorem c_anew_i (C : c_ctx p l R s m args meth c D A H0 base B X E y cc nL F Rl) {i : Nat} (hq : q.1 = .anewarray i) (hd : decode cc pc = .ok (.anewarray i, 3)) (ok : c_okJ y.cls ini F Rl pc q ix = true) (e1 : c_newa q pc 3 L st h = some r) (hr1 : r.2.2.2.length ≤ n0 + R.cells) (hr2 : c_msz r.2.2.2 ≤ z0 + R.slots) (k : c_K p l e R s m args below meth c Q D A H0 base B nL n0 z0 r.1 r.2.1 r.2.2.1 r.2.2.2) : c_K p l e R s m args below meth c Q D A H0 base B nL n0 z0 pc L st h := by
  intro H locs cells slots ls hH hL hlo hc hs
  obtain ⟨hx, hb, -, hown, hts, ⟨hK, hA, -, -, -, -, hover⟩, -⟩ := C
  unfold c_okJ at ok
  simp only [hq, Bool.and_eq_true, decide_eq_true_eq] at ok
  obtain ⟨o1, o3⟩ := ok
  obtain ⟨w1, w2⟩ := c_w_ok o3
  unfold c_newa at e1
  split at e1
  · rename_i n t9
    split at e1
    · cases e1
    · rename_i hn
      split at e1
      · rename_i hn2
        cases e1
        rw [o1] at hr1 hr2 k
        simp only [List.length_append, List.length_cons, List.length_nil, c_msz_app, c_sz, List.length_replicate] at hr1 hr2
        refine W.anew hx hb hown (hts _ w1 w2) (va_AO.use hover) rfl hd rfl hn (by omega) (by omega) (by omega) fun cA kA comp f1 f2 f3 f4 => ?_
        have hcA : cA = A 3 := Option.some.inj (f1.symm.trans (hA 3 (by decide)).2)
        subst hcA
        have hsz : H.size = base + h.length := hH.2.1
        have k9 := k (H.push { cls := A 3, slots := Array.replicate n.toNatClampNeg .null, vm := .none }) locs (cells + 1) (slots + n.toNatClampNeg) ls (hH.push (x := some (.inr (3, List.replicate n.toNatClampNeg (defaultValue (c_tag 3))))) (by simp) (fun z hz => by rw [Array.getElem?_push, if_neg (Nat.ne_of_lt hz)]) (fun y9 hy9 => by
          cases hy9
          refine ⟨(show (3 : Nat) < 6 by decide), ?_⟩
          rw [← hsz, Array.getElem?_push_size]
          exact congrArg some (c_rep_arr (v := .null) rfl))) hL hlo (by simp; omega) (by rw [c_msz_app]; simp [c_sz]; omega)
        have e9 : c_v base B (.ref h.length) = .ref H.size := by rw [hsz]; rfl
        rw [List.map_cons, e9] at k9
        exact k9
      · cases e1
  · cases e1
theorem c_new_i (C : c_ctx p l R s m args meth c D A H0 base B X E y cc nL F Rl) {i : Nat} (hq : q.1 = .new i) (hq2 : ¬ q.2.2.2 = 1) (hd : decode cc pc = .ok (.new i, 3)) (ok : c_okJ y.cls ini F Rl pc q ix = true) (hr1 : h.length + 1 ≤ n0 + R.cells) (hr2 : c_msz h + c_nf q.2.1 ≤ z0 + R.slots) (k : c_K p l e R s m args below meth c Q D A H0 base B nL n0 z0 (pc + 3) L (.ref h.length :: st) (h ++ [some (.inl (q.2.1, c_dfl q.2.1 (c_nf q.2.1)))])) : c_K p l e R s m args below meth c Q D A H0 base B nL n0 z0 pc L st h := by
  intro H locs cells slots ls hH hL hlo hc hs
  obtain ⟨hx, hb, -, hown, hts, ⟨hK, hA, -⟩, -⟩ := C
  unfold c_okJ at ok
  simp only [hq] at ok
  rw [if_neg hq2] at ok
  split at ok
  · rename_i rr g1
    simp only [Bool.and_eq_true] at ok
    obtain ⟨⟨o1, o2⟩, o3⟩ := ok
    obtain ⟨u1, u2⟩ := c_w_ok o1
    obtain ⟨v1, v2⟩ := c_w_ok o2
    obtain ⟨w1, w2⟩ := c_w_ok o3
    obtain ⟨C9, T, N⟩ := rr
    obtain ⟨hin, hty, hnm, hnf⟩ := c_cl_ok _ _ g1
    have hnf : c_nf q.2.1 = N := hnf
    have hts2 : ∀ w ∈ u_ws C9 T N, w.before args s = true := fun w hw => hts w (hin w hw) (c_uws w hw)
    have hKn := hK.1 q.2.1 _ g1
    rw [hnf] at hr2 k
    refine W.newcK hx hb hown (hts _ u1 u2) (hts _ v1 v2) (hts _ w1 w2) rfl hd (by omega) (by omega) hKn.2.1 hH.2.1 fun H1 kC hkC e1 e2 e3 => ?_
    have hlen : (c_dfl q.2.1 N).length = N := by simp [c_dfl]
    refine k H1 locs _ _ ls (hH.push (by rw [e2, hH.2.1]) (fun z hz => e3 z (by rw [← hH.2.1]; exact hz)) (fun y9 hy9 => ?_)) hL hlo (by simp; omega) (by rw [c_msz_app]; simp only [c_sz, hlen]; omega)
    cases hy9
    refine ⟨(C9, T, N), g1, hlen, (u_born (c_ty q.2.1) hts2 (fun w hw => hw) hKn hkC e1 hty).to (fun j hj => ?_)⟩
    show _ = vp_V ((c_dfl q.2.1 N).map (c_v base B)) j
    rw [c_vV (v := defaultValue (c_ty q.2.1 j)) (by simp [c_dfl, hj])]
    cases c_ty q.2.1 j <;> rfl
  · cases ok
theorem c_cast_i (C : c_ctx p l R s m args meth c D A H0 base B X E y cc nL F Rl) {i : Nat} (hq : q.1 = .checkcast i) (hd : decode cc pc = .ok (.checkcast i, 3)) (ok : c_okJ y.cls ini F Rl pc q ix = true) (e1 : c_cast q pc L st h = some r) (k : c_K p l e R s m args below meth c Q D A H0 base B nL n0 z0 r.1 r.2.1 r.2.2.1 r.2.2.2) : c_K p l e R s m args below meth c Q D A H0 base B nL n0 z0 pc L st h := by
  intro H locs cells slots ls hH hL hlo hc hs
  obtain ⟨hx, hb, -, hown, hts, ⟨hK, hA, -⟩, -, -, -, -, -, -, -, -, hold, -⟩ := C
  unfold c_okJ at ok
  simp only [hq] at ok
  unfold c_cast at e1
  split at e1
  · rename_i a t
    split at e1
    · rename_i h0
      rw [if_neg (by omega)] at ok
      simp only [Bool.and_eq_true, decide_eq_true_eq] at ok
      obtain ⟨o1, o2⟩ := ok
      obtain ⟨w1, w2⟩ := c_w_ok o2
      split at e1
      · rename_i vs hvs
        cases e1
        obtain ⟨-, g2⟩ := hH.2.2.2 a _ (c_vs_ok hvs)
        intro T hT X9
        obtain ⟨vm', X', st9⟩ := X9.checkcastYes hx hown (hts _ w1 w2) (by rw [hT]; exact g2) rfl (hA _ o1).2 (va_asg _ _) (g := F0 m pc ls (.ref (base + a) :: t.map (c_v base B))) rfl rfl (by rw [hb]; exact hd)
        obtain ⟨t9, a1, b1⟩ := k H locs cells slots ls hH hL hlo hc hs (T.setVm vm') hT X'
        exact ⟨t9, st9 t9 a1, b1⟩
      · cases e1
    · cases e1
  · rename_i t
    split at e1
    · rename_i h1
      cases e1
      rw [if_pos h1] at ok
      obtain ⟨w1, w2⟩ := c_w_ok ok
      obtain ⟨-, -, -, ⟨h7, -⟩, -, -⟩ := hold
      obtain ⟨cell, g1, g2, g3, -⟩ := h7.kept (hH.S hlo).2.1
      intro T hT X9
      obtain ⟨vm', X', st9⟩ := X9.checkcastYes hx hown (hts _ w1 w2) (by rw [hT]; exact g1) g2 g3 (va_asg _ _) (g := F0 m pc ls (.ref (B.1 2) :: t.map (c_v base B))) rfl rfl (by rw [hb]; exact hd)
      obtain ⟨t9, a1, b1⟩ := k H locs cells slots ls hH hL hlo hc hs (T.setVm vm') hT X'
      exact ⟨t9, st9 t9 a1, b1⟩
    · cases e1
  · cases e1
end SimA
