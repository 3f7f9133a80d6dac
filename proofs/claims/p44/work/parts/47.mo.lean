/-! Rows kept by the law. -/
section Ms
variable {X : List Int32} {h : c_Hp} {Q : c_O × c_Hp → Prop}
/-- the law's kept rows -/
def m_K (h : c_Hp) (a7 n : Nat) (g : Nat → Nat) (kr : Nat → Nat → Int) (S : List Nat) : Prop := c_aa h a7 8 g ∧ ∀ i, i < 8 → c_ar h (g i) n (kr i) ∧ 58 ≤ g i ∧ g i ∉ S
theorem m_K.put {h h2 : c_Hp} {a7 n j : Nat} {g : Nat → Nat} {kr : Nat → Nat → Int} {S : List Nat} {f : Nat → Int} (k : m_K h a7 n g kr S) (hl : 58 ≤ h.length) (hS : ∀ q ∈ S, q < h.length) (h7 : a7 ∈ S) (u : c_up (h ++ [n_arr n f]) h2 a7 (some (.inr (2, (List.range 8).map (fun t => Value.ref (if t = j then h.length else g t)))))) :
    m_K h2 a7 n (fun t => if t = j then h.length else g t) (fun t => if t = j then f else kr t) S := by
  refine ⟨u.2.1, fun i hi => ?_⟩
  by_cases e : i = j
  · simp only [if_pos e]
    refine ⟨(c_ar.new h n f).gw u.gw (fun e2 => ?_), hl, fun e2 => ?_⟩
    · have := hS a7 h7
      simp at e2
      omega
    · have := hS _ e2
      omega
  · simp only [if_neg e]
    obtain ⟨k1, k2, k3⟩ := k.2 i hi
    refine ⟨(k1.gw (c_gw.app h _) (by simp)).gw u.gw (fun e2 => ?_), k2, k3⟩
    simp at e2
    exact k3 (by rw [e2]; exact h7)
theorem m_bd.put {h h2 : c_Hp} {N M n a : Nat} {f : Nat → Int} {c : c_Cell} (b : m_bd h N M) (u : c_up (h ++ [n_arr n f]) h2 a c) : m_bd h2 (N + 1) (M + n) := b.app.up u
theorem c_gw.put {h h2 : c_Hp} {n a : Nat} {f : Nat → Int} {c : c_Cell} (u : c_up (h ++ [n_arr n f]) h2 a c) : c_gw h h2 [a] := ((c_gw.app h [n_arr n f]).sub (by simp)).tr u.gw
theorem s83s {n : Nat} {rg ca bk bg mo en : Int} {it ac a5 a6 a7 a16 N M : Nat} {kr0 : Nat → Nat → Int} {S : List Nat} {x19 x20 x21 x22 : Option Value} (hn : n ≤ 24) (h7 : a7 ∈ S) (h58 : ∀ q ∈ S, 58 ≤ q)
    (K : ∀ (h1 : c_Hp) (g : Nat → Nat) (kr : Nat → Nat → Int), c_gw h h1 [a7] → m_bd h1 (N + 7) (M + 168) → m_K h1 a7 n g kr S → (∀ i, i < 7 → kr i = kr0 (i + 1)) → c_Ev X 83 731 [some (.retAddr 0), some (.ref 0), some (n_v ↑n), some (n_v rg), some (n_v 1), some (.ref a5), some (.ref a6), some (.ref a7), some (n_v 8), some (n_v ↑it), some (n_v ↑ac), some (n_v ca), some (n_v bk), some (n_v bg), some (n_v mo), some (n_v en), some (.ref a16), some (n_v 1), some (n_v ((7 : Nat) : Int)), x19, x20, x21, x22] [] h1 Q) :
  ∀ (m v : Nat) (h1 : c_Hp) (g : Nat → Nat) (kr : Nat → Nat → Int), v + m = 7 → c_gw h h1 [a7] → m_bd h1 (N + v) (M + 24 * v) → m_K h1 a7 n g kr S → (∀ q ∈ S, q < h1.length) → (∀ i, i < v → kr i = kr0 (i + 1)) → (∀ i, v ≤ i → i < 8 → kr i = kr0 i) → c_Ev X 83 700 [some (.retAddr 0), some (.ref 0), some (n_v ↑n), some (n_v rg), some (n_v 1), some (.ref a5), some (.ref a6), some (.ref a7), some (n_v 8), some (n_v ↑it), some (n_v ↑ac), some (n_v ca), some (n_v bk), some (n_v bg), some (n_v mo), some (n_v en), some (.ref a16), some (n_v 1), some (n_v ↑v), x19, x20, x21, x22] [] h1 Q
  | 0, v, h1, g, kr, e, gw, bd, hk, hS, hlo, hhi => by
    refine e_st (pc := 700) q83_700 rfl rfl ?_
    refine e_cst (v := 7) (len := 2) (pc := 702) q83_702 rfl rfl (by decide +kernel) ?_
    refine e_cmp true (pc := 704) q83_704 ⟨by omega, by omega⟩ ⟨by omega, by omega⟩ (n_t_ge (by omega)) ?_
    have e2 : v = 7 := by omega
    subst e2
    exact K h1 g kr gw bd hk hlo
  | m + 1, v, h0, g, kr, e, gw, bd, hk, hS, hlo, hhi => by
    have aa := hk.1
    have ak := (hk.2 (v + 1) (by omega)).1
    have hl := bd.1
    refine e_st (pc := 700) q83_700 rfl rfl ?_
    refine e_cst (v := 7) (len := 2) (pc := 702) q83_702 rfl rfl (by decide +kernel) ?_
    refine e_cmp false (pc := 704) q83_704 ⟨by omega, by omega⟩ ⟨by omega, by omega⟩ (n_f_ge (by omega)) ?_
    refine e_st (pc := 707) q83_707 rfl rfl ?_
    refine e_st (pc := 709) q83_709 rfl rfl ?_
    refine e_st (pc := 711) q83_711 rfl rfl ?_
    refine e_st (pc := 713) q83_713 rfl rfl ?_
    refine e_cst (v := 1) (len := 1) (pc := 715) q83_715 rfl rfl rfl ?_
    refine e_add (pc := 716) q83_716 ?_
    refine e_aald (pc := 717) (j := v + 1) q83_717 aa (by omega) (by omega) (by omega) ?_
    refine e_clone (pc := 718) q83_718 ak rfl ?_
    have an := c_ar.new h0 n (kr (v + 1))
    refine e_cast (pc := 721) q83_721 an ?_
    refine e_aast (pc := 724) (j := v) q83_724 (aa.gw (c_gw.app h0 _) (by simp)) an rfl (by omega) (by omega) (fun h1 u1 => ?_)
    refine e_inc (pc := 725) (L2 := [some (.retAddr 0), some (.ref 0), some (n_v ↑n), some (n_v rg), some (n_v 1), some (.ref a5), some (.ref a6), some (.ref a7), some (n_v 8), some (n_v ↑it), some (n_v ↑ac), some (n_v ca), some (n_v bk), some (n_v bg), some (n_v mo), some (n_v en), some (.ref a16), some (n_v 1), some (n_v (↑v + 1)), x19, x20, x21, x22]) q83_725 rfl rfl ?_
    refine e_st (pc := 728) q83_728 rfl rfl ?_
    have hk1 := hk.put hl hS h7 u1
    refine s83s hn h7 h58 K m (v + 1) h1 _ _ (by omega) (gw.tr (c_gw.put u1)) ((bd.put u1).mono (by omega) (by omega)) hk1 (fun q hq => Nat.lt_of_lt_of_le (hS q hq) (c_gw.put u1).1) (fun i hi => ?_) (fun i hi h8 => ?_)
    · by_cases e2 : i = v
      · simp only [if_pos e2]
        rw [hhi (v + 1) (by omega) (by omega), e2]
      · simp only [if_neg e2]
        exact hlo i (by omega)
    · simp only [if_neg (show ¬ i = v by omega)]
      exact hhi i (by omega) h8
end Ms
