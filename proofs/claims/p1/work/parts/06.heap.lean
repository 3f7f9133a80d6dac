section SimH
variable {p : Program} {l : Launch} {e : Env} {R : Room} {s : State} {m : MethodId} {args : Array Value} {below : List Frame} {meth : Method} {c : Code} {Q : State → Prop}
variable {D : va_G} {A : Nat → ClassId} {H0 : Heap} {base nL n0 z0 F Rl : Nat} {B : c_B} {X : List Int32} {E : c_E} {y : MethodName} {cc : ByteArray} {ini : Bool} {pc : Nat} {q : c_I} {ix : List Nat} {L : c_Ls} {st : List Value} {h : c_Hp} {r : c_R}
theorem c_uws {C : String} {T : u_T} {N : Nat} : ∀ w ∈ u_ws C T N, goodWord w = true := by
  intro w hw
  obtain ⟨k, -, rfl⟩ := List.mem_map.mp hw
  unfold u_lay
  split <;> rfl
theorem c_msz_set {h : c_Hp} {a : Nat} {x y : c_Cell} (hx : h[a]? = some x) (e : c_sz x = c_sz y) : c_msz (h.set a y) = c_msz h := by
  unfold c_msz
  induction h generalizing a with
  | nil => cases hx
  | cons z t ih =>
    cases a with
    | zero =>
      have : z = x := by simpa using hx
      subst this
      simp [e]
    | succ a =>
      have hx' : t[a]? = some x := by simpa using hx
      have := ih hx'
      simp only [List.set_cons_succ, List.map_cons, List.sum_cons] at this ⊢
      rw [this]
theorem c_msz_app (h : c_Hp) (x : c_Cell) : c_msz (h ++ [x]) = c_msz h + c_sz x := by
  unfold c_msz
  simp
theorem c_arrV_congr {cA : ClassId} {N : Nat} {f g : Nat → Value} (h : ∀ j, j < N → f j = g j) : arrV cA N f = arrV cA N g := by
  unfold arrV
  congr 1
  apply Array.ext
  · simp
  · intro i h1 h2
    simp only [Array.getElem_ofFn]
    exact h i (by simpa using h1)
theorem c_P1 {i : Nat} {k : Nat} {fs : List Value} {H : Heap} (hc : c_cell D A base B i (.inl (k, fs)) H) : va_P D c_cl [(base + i, .inr (k, fs.map (c_v base B)))] H := by
  intro j z hz
  cases j with
  | zero =>
    cases hz
    obtain ⟨r, h1, -, h3⟩ := hc
    exact ⟨r, h1, h3⟩
  | succ j => cases hz
/-- the old cells, at a later heap -/
theorem c_HR.S {H : Heap} {locs : List Loc} (hH : c_HR D A H0 base B h H) (hlo : ∀ z ∈ locs, base ≤ z.base) : va_S (fun q => base ≤ q) H0 H locs := ⟨by rw [hH.2.1, ← hH.1]; exact Nat.le_add_right _ _, fun q hq hz => hH.2.2.1 q (Nat.not_le.mp hz), hlo⟩
theorem c_getf_i (C : c_ctx p l R s m args meth c D A H0 base B X E y cc nL F Rl) {i : Nat} (hq : q.1 = .getfield i) (hd : decode cc pc = .ok (.getfield i, 3)) (ok : c_okJ y.cls ini F Rl pc q ix = true) (e1 : c_getf q pc L st h = some r) (k : c_K p l e R s m args below meth c Q D A H0 base B nL n0 z0 r.1 r.2.1 r.2.2.1 r.2.2.2) : c_K p l e R s m args below meth c Q D A H0 base B nL n0 z0 pc L st h := by
  intro H locs cells slots ls hH hL hlo hc hs
  obtain ⟨hx, hb, -, hown, hts, ⟨hK, -, hng, -⟩, -, -, -, -, -, -, -, -, hold, -⟩ := C
  unfold c_okJ at ok
  simp only [hq] at ok
  unfold c_getf at e1
  split at e1
  · rename_i a t
    split at e1
    · cases e1
    · rename_i h5
      rw [if_neg (fun z => by rw [z] at h5; exact absurd h5 (by decide))] at ok
      split at e1
      · rename_i fs hfs
        rw [c_nth_eq] at e1
        split at e1
        · rename_i v hv
          cases e1
          obtain ⟨rr, g1, g2, g3⟩ := hH.2.2.2 a _ (c_fs_ok hfs)
          have hP := c_P1 (hH.2.2.2 a _ (c_fs_ok hfs))
          obtain ⟨hin, -, -, -⟩ := c_cl_ok _ _ g1
          have hts2 : ∀ w ∈ u_ws rr.1 rr.2.1 rr.2.2, w.before args s = true := fun w hw => hts w (hin w hw) (c_uws w hw)
          simp only at g1
          rw [g1] at ok
          simp only [c_okFld, Bool.and_eq_true, decide_eq_true_eq] at ok
          obtain ⟨ok1, ok2⟩ := ok
          have hv2 : (fs.map (c_v base B))[q.2.2.1]? = some (c_v base B v) := by rw [List.getElem?_map, hv]; rfl
          split at ok2
          · obtain ⟨w1, w2⟩ := c_w_ok ok2
            exact va_get hx hb hts2 (fun w hw => hw) hown hK hP 0 rfl g1 q.2.2.1 ok1 (hts _ w1 w2) (fun x hx => hx) hv2 hd (k H locs cells slots ls hH hL hlo hc hs)
          · split at ok2
            · obtain ⟨w1, w2⟩ := c_n_ok ok2
              exact va_getN hx hb hts2 (fun w hw => hw) hown hK hP 0 rfl g1 q.2.2.1 ok1 (va_Nw.use rfl (hng _ w1 w2)) (fun x hx => hx) hv2 hd (k H locs cells slots ls hH hL hlo hc hs)
            · simp only [Bool.and_eq_true, decide_eq_true_eq] at ok2
              obtain ⟨w1, w2⟩ := c_w_ok ok2.1.2
              obtain ⟨u1, u2⟩ := c_w_ok ok2.2
              exact va_get hx hb hts2 (fun w hw => hw) hown hK hP 0 rfl g1 q.2.2.1 ok1 (hts _ w1 w2) (fun x hx => u_same (hts _ u1 u2) x hx) hv2 hd (k H locs cells slots ls hH hL hlo hc hs)
        · cases e1
      · cases e1
  · rename_i t
    split at e1
    · rename_i h5
      cases e1
      rw [if_pos h5] at ok
      obtain ⟨w1, w2⟩ := c_w_ok ok
      obtain ⟨-, -, -, ⟨h7, h8⟩, -, -⟩ := hold
      obtain ⟨cf, kf, fi, f, cell, g1, g2, g3, g4, g5, g6⟩ := h8.kept (hH.S hlo).2.1
      exact W.getf hx hb hown (hts _ w1 w2) g1 g2 g3 g4 (v := .int 0) g5 rfl rfl hd (k H locs cells slots ls hH hL hlo hc hs)
    · cases e1
  · cases e1
theorem c_putf_i (C : c_ctx p l R s m args meth c D A H0 base B X E y cc nL F Rl) {i : Nat} (hini : ini = true → y.name = "<init>") (hq : q.1 = .putfield i) (hd : decode cc pc = .ok (.putfield i, 3)) (ok : c_okJ y.cls ini F Rl pc q ix = true) (e1 : c_putf q pc L st h = some r) (k : c_K p l e R s m args below meth c Q D A H0 base B nL n0 z0 r.1 r.2.1 r.2.2.1 r.2.2.2) : c_K p l e R s m args below meth c Q D A H0 base B nL n0 z0 pc L st h := by
  intro H locs cells slots ls hH hL hlo hc hs
  obtain ⟨hx, hb, -, hown, hts, ⟨hK, -, hng, -⟩, -, hnm9, -⟩ := C
  unfold c_putf at e1
  split at e1
  · rename_i v a t
    split at e1
    · rename_i fs hfs
      split at e1
      · rename_i hokv
        split at e1
        · rename_i hlt
          rw [c_upd_eq, c_upd_eq] at e1
          cases e1
          obtain ⟨hn, hfit⟩ := c_okv_ok (base := base) (B := B) hokv
          obtain ⟨rr, g1, g2, g3⟩ := hH.2.2.2 a _ (c_fs_ok hfs)
          simp only at g1 g2 g3
          obtain ⟨C9, T, N⟩ := rr
          obtain ⟨hin, hty, hnm, -⟩ := c_cl_ok _ _ g1
          have hts2 : ∀ w ∈ u_ws C9 T N, w.before args s = true := fun w hw => hts w (hin w hw) (c_uws w hw)
          unfold c_okJ at ok
          simp only [hq] at ok
          rw [g1] at ok
          simp only [c_okFld, Bool.and_eq_true, decide_eq_true_eq] at ok
          obtain ⟨⟨hk, ok2⟩, ok3⟩ := ok
          have hap := va_apart (own := y.cls) hts2 (fun w hw => hw) (c_ty q.2.1) hty hnm hK g1
          obtain ⟨cell, q1, q2, q3, q4⟩ := g3
          obtain ⟨hS, hfc, kC, hkC, hkind⟩ := hK.1 q.2.1 _ g1
          obtain ⟨cf, kf, fi, f, hi, hsl⟩ := hS q.2.2.1 hk
          have hlay := hts2 _ (u_in_lay hk)
          have hlays := u_lays hts2 (fun w hw => hw) hk
          unfold u_lay at hlay
          have hst := (u_facts hfc hkC hlays hi).1
          have hl2 : q.2.2.1 < (fs.map (c_v base B)).length := by rw [List.length_map]; exact hlt
          have fin : ∀ (H1 : Heap), H1[base + a]? = some (cell.setSlot f.slot (c_v base B v)) → H1.size = H.size → (∀ z, z ≠ base + a → H1[z]? = H[z]?) → W p l e R s m args below meth c H1 (locs ++ [⟨base + a, f.slot⟩]) cells slots Q (F0 m (pc + 3) ls (t.map (c_v base B))) := by
            intro H1 e1 e2 e3
            rw [hsl] at e1
            refine k H1 _ cells slots ls (hH.set (x := .inl (q.2.1, fs.set q.2.2.1 v)) e2 e3 ⟨_, g1, by rw [List.length_set]; exact g2, ?_⟩) hL ?_ (by rw [List.length_set]; exact hc) (by rw [c_msz_set (c_fs_ok hfs)]; exact hs; simp [c_sz])
            · rw [List.map_set]
              exact t_OB.to (V := updV (vp_V (fs.map (c_v base B))) q.2.2.1 (c_v base B v)) ⟨_, e1, q2, q3, t_set q4 hap hk _⟩ (fun j _ => vp_updV_set hl2 _ j)
            · intro z hz
              rcases List.mem_append.mp hz with h1 | h1
              · exact hlo z h1
              · rw [List.mem_singleton.mp h1]; exact Nat.le_add_right _ _
          cases hfin : (T q.2.2.1).2.2.2 with
          | false =>
            rw [if_neg (by rw [hfin]; decide)] at hlay
            have h6 := u_store hfc hkC hkind hlay hi (hty _ hk) hn hfit
            split at ok2
            · obtain ⟨w1, w2⟩ := c_w_ok ok2
              exact W.putK hx hb (f := f) ⟨hown, hts _ w1 w2, ⟨_, _, _, hi⟩, hst⟩ (by rw [q2]; exact h6) q1 q3 (by rw [hsl]; exact k2_hasslot (q4 _ hk)) rfl rfl hd fun H1 e1 e2 e3 => fin H1 e1 e2 e3
            · split at ok2
              · obtain ⟨w1, w2⟩ := c_n_ok ok2
                exact va_WputK hx hb (f := f) hown (va_Nw.use rfl (hng _ w1 w2)) hi hst (by rw [q2]; exact h6) q1 q3 (by rw [hsl]; exact k2_hasslot (q4 _ hk)) rfl rfl hd fun H1 e1 e2 e3 => fin H1 e1 e2 e3
              · simp only [Bool.and_eq_true, decide_eq_true_eq] at ok2
                obtain ⟨w1, w2⟩ := c_w_ok ok2.1.2
                obtain ⟨u1, u2⟩ := c_w_ok ok2.2
                exact W.putK hx hb (f := f) ⟨hown, hts _ w1 w2, ⟨_, _, _, u_same (hts _ u1 u2) _ hi⟩, hst⟩ (by rw [q2]; exact h6) q1 q3 (by rw [hsl]; exact k2_hasslot (q4 _ hk)) rfl rfl hd fun H1 e1 e2 e3 => fin H1 e1 e2 e3
          | true =>
            rw [if_pos hfin] at hlay
            simp only [hfin, Bool.not_true, Bool.false_or, Bool.and_eq_true, decide_eq_true_eq] at ok3
            obtain ⟨⟨o1, o2⟩, o3⟩ := ok3
            rw [if_pos o3] at ok2
            obtain ⟨w1, w2⟩ := c_w_ok ok2
            have hcf : m.cls = cf := by
              obtain ⟨_, _, c', _, _, _, -, -, hf', -, -, -, hown2, -⟩ := Cond.laysFinal_spec hlay
              have e1 : c' = cf := by have := hi.symm.trans hf'; simp at this; exact this.1.symm
              rw [o2] at hown2
              rw [← e1]; exact Option.some.inj (hown.symm.trans hown2)
            have h6 := u_fits hfc hkC hkind (Or.inr hlay) hi (hty _ hk) hn hfit
            exact W.putFinK hx hb hown (hts _ w1 w2) hi hst hcf (hnm9 (hini o1)) (by rw [q2]; exact h6) q1 q3 (by rw [hsl]; exact k2_hasslot (q4 _ hk)) rfl rfl hd fun H1 e1 e2 e3 => fin H1 e1 e2 e3
        · cases e1
      · cases e1
    · cases e1
  · cases e1
end SimH
