/-! What the law's own rows want. -/
section Ms
variable {X : List Int32} {h : c_Hp} {Q : c_O × c_Hp → Prop}
/-- h2 has what h has but for the cells of W -/
def c_gw (h h2 : c_Hp) (W : List Nat) : Prop := h.length ≤ h2.length ∧ ∀ q, q < h.length → q ∉ W → h2[q]? = h[q]?
theorem c_xt.gw {h h2 : c_Hp} {W : List Nat} {e : Nat} (r : c_xt h h2 W e) : c_gw h h2 W := ⟨by rw [r.1]; omega, r.2.2⟩
theorem c_up.gw {h h2 : c_Hp} {a : Nat} {c : c_Cell} (u : c_up h h2 a c) : c_gw h h2 [a] := ⟨by rw [u.1]; omega, fun q _ hq => u.2.2.1 q (fun e => hq (by rw [e]; exact List.mem_singleton.mpr rfl))⟩
theorem c_gw.app (h l : c_Hp) : c_gw h (h ++ l) [] := ⟨by simp, fun q hq _ => List.getElem?_append_left hq⟩
theorem c_gw.rf (h : c_Hp) (W : List Nat) : c_gw h h W := ⟨Nat.le_refl _, fun _ _ _ => rfl⟩
theorem c_gw.tr {h h1 h2 : c_Hp} {W : List Nat} (r : c_gw h h1 W) (s : c_gw h1 h2 W) : c_gw h h2 W := ⟨Nat.le_trans r.1 s.1, fun q hq hw => (s.2 q (Nat.lt_of_lt_of_le hq r.1) hw).trans (r.2 q hq hw)⟩
theorem c_gw.sub {h h1 : c_Hp} {W V : List Nat} (r : c_gw h h1 W) (hs : ∀ q, q ∈ W → q ∈ V) : c_gw h h1 V := ⟨r.1, fun q hq hv => r.2 q hq (fun z => hv (hs q z))⟩
theorem c_ar.gw {h h2 : c_Hp} {W : List Nat} {b n : Nat} {f : Nat → Int} (o : c_ar h b n f) (r : c_gw h h2 W) (hb : b ∉ W) : c_ar h2 b n f := by
  unfold c_ar
  rw [r.2 b (c_at_lt o) hb]
  exact o
theorem c_ob.gw {h h2 : c_Hp} {W : List Nat} {b k : Nat} {fs : List Value} (o : c_ob h b k fs) (r : c_gw h h2 W) (hb : b ∉ W) : c_ob h2 b k fs := by
  unfold c_ob
  rw [r.2 b (c_at_lt o) hb]
  exact o
theorem c_aa.gw {h h2 : c_Hp} {W : List Nat} {b n : Nat} {g : Nat → Nat} (o : c_aa h b n g) (r : c_gw h h2 W) (hb : b ∉ W) : c_aa h2 b n g := by
  unfold c_aa
  rw [r.2 b (c_at_lt o) hb]
  exact o
/-- the object's cells lie below 58 -/
theorem m_St.gw {h h2 : c_Hp} {n : Nat} {rg : Int} {cf bf : Nat → Int} {kp : Nat} {H : Nat → Nat → Int} {V : List Nat} (s : m_St h n rg cf bf kp H) (r : c_gw h h2 V) (hV : ∀ q ∈ V, 58 ≤ q) : m_St h2 n rg cf bf kp H := by
  obtain ⟨a1, a2, a3, a4, a5, ⟨nx, b1, b2, P, C, b3, b4, b5⟩, a6, a7, ⟨⟨mo, s1⟩, ⟨lf, s2⟩, ⟨k3, s3⟩, ⟨sf, s4⟩, ⟨rf, s5⟩, ⟨bl, la, s6⟩, ⟨pf, s7⟩, ⟨nf, s8⟩, ⟨n2, r2, s9⟩, ⟨cf2, s10⟩, ⟨bf2, s11⟩⟩, ⟨z1, z2, z3⟩, wy, a10⟩ := s
  have hv : ∀ q, q < 58 → q ∉ V := fun q h1 h3 => by
    have := hV q h3
    omega
  exact ⟨a1, a2.gw r (hv _ (by omega)), a3.gw r (hv _ (by omega)), a4.gw r (hv _ (by omega)), a5.gw r (hv _ (by omega)), ⟨nx, b1, b2.gw r (hv _ (by omega)), P, C, fun i hi => (b3 i hi).gw r (hv _ (by omega)), fun i hi => (b4 i hi).gw r (hv _ (by omega)), b5⟩, a6.gw r (hv _ (by omega)), a7.gw r (hv _ (by omega)),
    ⟨⟨_, s1.gw r (hv _ (by omega))⟩, ⟨_, s2.gw r (hv _ (by omega))⟩, ⟨_, s3.gw r (hv _ (by omega))⟩, ⟨_, s4.gw r (hv _ (by omega))⟩, ⟨_, s5.gw r (hv _ (by omega))⟩, ⟨_, _, s6.gw r (hv _ (by omega))⟩, ⟨_, s7.gw r (hv _ (by omega))⟩, ⟨_, s8.gw r (hv _ (by omega))⟩, ⟨_, _, s9.gw r (hv _ (by omega))⟩, ⟨_, s10.gw r (hv _ (by omega))⟩, ⟨_, s11.gw r (hv _ (by omega))⟩⟩,
    ⟨z1.gw r (hv _ (by omega)), z2.gw r (hv _ (by omega)), fun i hi => (z3 i hi).gw r (hv _ (by omega))⟩, wy, a10.gw r (hv _ (by omega))⟩
/-- room used -/
def m_bd (h : c_Hp) (N M : Nat) : Prop := 58 ≤ h.length ∧ h.length ≤ N ∧ c_msz h ≤ M
theorem m_bd.xt {h h2 : c_Hp} {N M e : Nat} {W : List Nat} (b : m_bd h N M) (r : c_xt h h2 W e) : m_bd h2 (N + e) (M + 6 * e) := ⟨by rw [r.1]; have := b.1; omega, by rw [r.1]; have := b.2.1; omega, by rw [r.2.1]; have := b.2.2; omega⟩
theorem m_bd.up {h h2 : c_Hp} {N M a : Nat} {c : c_Cell} (b : m_bd h N M) (u : c_up h h2 a c) : m_bd h2 N M := ⟨by rw [u.1]; exact b.1, by rw [u.1]; exact b.2.1, by rw [u.2.2.2]; exact b.2.2⟩
theorem m_bd.mono {h : c_Hp} {N M N2 M2 : Nat} (b : m_bd h N M) (h1 : N ≤ N2) (h2 : M ≤ M2) : m_bd h N2 M2 := ⟨b.1, Nat.le_trans b.2.1 h1, Nat.le_trans b.2.2 h2⟩
theorem m_bd.app {h : c_Hp} {N M n : Nat} {f : Nat → Int} (b : m_bd h N M) : m_bd (h ++ [n_arr n f]) (N + 1) (M + n) := by
  obtain ⟨b1, b2, b3⟩ := b
  refine ⟨by simp; omega, by simp; omega, ?_⟩
  have : c_msz (h ++ [n_arr n f]) = c_msz h + n := by
    rw [c_msz_app2]
    simp [c_msz, n_arr_sz]
  omega
theorem c_ar.new (h : c_Hp) (n : Nat) (f : Nat → Int) : c_ar (h ++ [n_arr n f]) h.length n f := by
  unfold c_ar
  rw [List.getElem?_append_right (Nat.le_refl _), Nat.sub_self]
  rfl
/-- a row's copy -/
theorem e_clone {k pc i : Nat} {L : c_Ls} {st : List Value} {b n : Nat} {f : Nat → Int} {x y} (hq : c_q k pc = some (.invokevirtual i, x, y, 9)) (o : c_ar h b n f) (h8 : Nat.ble (st.map fun v => v.category).sum 8 = true) (K : c_Ev X k (pc + 3) L (.ref h.length :: st) (h ++ [n_arr n f]) Q) : c_Ev X k pc L (.ref b :: st) h Q := by
  refine e_st hq rfl ?_ K
  show c_call1 (.invokevirtual i, x, y, 9) pc L (.ref b :: st) h = _
  unfold c_call1
  simp only [o.vs]
  rw [if_pos (Nat.le_of_ble_eq_true h8), if_pos (by simp [c_isi])]
  rfl
theorem e_cast {k pc i : Nat} {L : c_Ls} {st : List Value} {b n : Nat} {f : Nat → Int} {y z} (hq : c_q k pc = some (.checkcast i, 0, y, z)) (o : c_ar h b n f) (K : c_Ev X k (pc + 3) L (.ref b :: st) h Q) : c_Ev X k pc L (.ref b :: st) h Q := by
  refine e_st hq rfl ?_ K
  show c_cast (.checkcast i, 0, y, z) pc L (.ref b :: st) h = _
  unfold c_cast
  simp only [o.vs]
theorem n_aa_set (n j x : Nat) (g : Nat → Nat) : ((List.range n).map (fun t => Value.ref (g t))).set j (.ref x) = (List.range n).map (fun t => Value.ref (if t = j then x else g t)) := by
  refine List.ext_getElem? fun i => ?_
  rw [List.getElem?_set]
  by_cases e : j = i
  · subst e
    by_cases h1 : j < n
    · rw [if_pos rfl, if_pos (by simpa using h1), List.getElem?_map, List.getElem?_range h1]
      simp
    · rw [if_pos rfl, if_neg (by simpa using h1), List.getElem?_eq_none (by simpa using h1)]
  · rw [if_neg e, List.getElem?_map, List.getElem?_map]
    by_cases h1 : i < n
    · have e2 : ¬ i = j := fun z => e z.symm
      rw [List.getElem?_range h1]
      simp [e2]
    · rw [List.getElem?_eq_none (by simpa using h1)]
      rfl
theorem e_aast {k pc : Nat} {L : c_Ls} {st : List Value} {b n m j v : Nat} {e : Int} {g : Nat → Nat} {f : Nat → Int} {x y z} (hq : c_q k pc = some (.aastore, x, y, z)) (o : c_aa h b n g) (ov : c_ar h v m f) (he : e = (j : Int)) (hj : j < n) (hn : n ≤ 100000) (K : ∀ h2, c_up h h2 b (some (.inr (2, (List.range n).map (fun t => Value.ref (if t = j then v else g t))))) → c_Ev X k (pc + 1) L st h2 Q) : c_Ev X k pc L (.ref v :: n_v e :: .ref b :: st) h Q := by
  subst he
  have hu : c_up h (h.set b (some (.inr (2, (List.range n).map (fun t => Value.ref (if t = j then v else g t)))))) b (some (.inr (2, (List.range n).map (fun t => Value.ref (if t = j then v else g t))))) := c_up.mk o (by simp [c_sz])
  refine e_st hq rfl ?_ (K _ hu)
  show c_aast pc L (.ref v :: n_v (j : Int) :: .ref b :: st) h = _
  have hv : c_vs h b 2 = some ((List.range n).map (fun t => Value.ref (g t))) := by
    unfold c_vs
    rw [show h[b]? = _ from o]
    rfl
  unfold c_aast
  simp only [hv, ov.vs, List.length_map, List.length_range, n_ix hj hn]
  rw [n_aa_set]
/-- 'and' of what is so -/
theorem e_and1 {k pc : Nat} {L : c_Ls} {st : List Value} {x y z} (hq : c_q k pc = some (.iand, x, y, z)) (K : c_Ev X k (pc + 1) L (n_v 1 :: st) h Q) : c_Ev X k pc L (n_v 1 :: n_v 1 :: st) h Q := by
  refine e_st hq rfl ?_ K
  show some (pc + 1, L, Value.int (Int32.ofInt 1 &&& Int32.ofInt 1) :: st, h) = _
  rw [show Int32.ofInt 1 &&& Int32.ofInt 1 = Int32.ofInt 1 by decide +kernel]
end Ms
