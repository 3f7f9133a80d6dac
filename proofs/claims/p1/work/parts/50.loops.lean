/-! ### loops with garbage of any kind -/
set_option maxRecDepth 100000
def m_told (G : c_Hp) : Prop := ∀ B : c_B, s_h B G = G
def m_to (X : List Int32) (md : c_M) (lo : c_Hp) (pc : Nat) (L : c_Ls) (pc1 : Nat) (L1 : c_Ls) (a b : Nat) : Prop := ∀ G : c_Hp, m_told G → ∃ G1 : c_Hp, m_told G1 ∧ G1.length = G.length + a ∧ c_msz G1 = c_msz G + b ∧ ∀ r, c_T X md pc1 L1 [] (lo ++ G1) r → c_T X md pc L [] (lo ++ G) r
theorem m_to.refl {X : List Int32} {md : c_M} {lo : c_Hp} {pc : Nat} {L : c_Ls} : m_to X md lo pc L pc L 0 0 := fun G hG => ⟨G, hG, rfl, rfl, fun _ k => k⟩
theorem m_to.trans {X : List Int32} {md : c_M} {lo : c_Hp} {p p1 p2 : Nat} {L L1 L2 : c_Ls} {a b c d : Nat} (k : m_to X md lo p L p1 L1 a b) (k2 : m_to X md lo p1 L1 p2 L2 c d) : m_to X md lo p L p2 L2 (a + c) (b + d) := by
  intro G hG
  obtain ⟨G1, h1, h2, h3, h4⟩ := k G hG
  obtain ⟨G2, g1, g2, g3, g4⟩ := k2 G1 h1
  exact ⟨G2, g1, by omega, by omega, fun r q => h4 r (g4 r q)⟩
theorem m_nil (B : c_B) : m_told (s_h B []) := by
  intro B2
  unfold s_h
  rw [List.map_nil, List.map_nil]
theorem m_app (B : c_B) (a b : c_Hp) : s_h B (a ++ b) = s_h B a ++ s_h B b := List.map_append
theorem m_szapp (a b : c_Hp) : c_msz (a ++ b) = c_msz a + c_msz b := by unfold c_msz; rw [List.map_append, List.sum_append]
theorem m_szs (B : c_B) (h : c_Hp) : c_msz (s_h B h) = c_msz h := s_msz B h
/-- one round of a loop: new cells that nothing looks at any more -/
theorem m_to.of {a0 a1 a2 a3 a4 a5 : Int32} {x : List Int32} {F : List c_F} {M : Nat} {md : c_M} {m pc pc1 n : Nat} {L L1 : c_Ls} {lo N : c_Hp} {K K1 : c_Ls} {lo9 : c_Hp} (hF : ∀ f ∈ F, c_hold (c_BB [a0, a1, a2, a3, a4, a5] x) f) (e : c_pre (F, x_xs) M md m pc L [] lo = some (pc1, L1, [], lo ++ N)) (hn : lo.length = n) (hlo : ∀ d, lo.map (g_c n d) = lo) (hL : ∀ d, g_L n d L = L) (hL1 : ∀ d, g_L n d L1 = L1) (hN : ∀ d, N.map (g_c n d) = N) (hK : s_L (c_BB [a0, a1, a2, a3, a4, a5] x) L = K) (hK1 : s_L (c_BB [a0, a1, a2, a3, a4, a5] x) L1 = K1) (hl9 : s_h (c_BB [a0, a1, a2, a3, a4, a5] x) lo = lo9) (hT : m_told (s_h (c_BB [a0, a1, a2, a3, a4, a5] x) N)) : m_to [a0, a1, a2, a3, a4, a5] md lo9 pc K pc1 K1 N.length (c_msz N) := by
  intro G hG
  refine ⟨G ++ s_h (c_BB [a0, a1, a2, a3, a4, a5] x) N, fun B => by rw [m_app, hG B, hT B], by rw [List.length_append, s_lenH], by rw [m_szapp, m_szs], fun r k => ?_⟩
  have e0 : g_h n G lo = lo ++ G := by
    have h1 := g_h_s (t := []) hn G
    rw [List.append_nil] at h1
    rw [h1, hlo, List.map_nil, List.append_nil]
  have k1 : x_Run (c_BB [a0, a1, a2, a3, a4, a5] x) x_xs md pc1 (g_L n G.length L1) (g_st n G.length []) (g_h n G (lo ++ N)) r := by
    rw [hL1, g_h_s hn, hlo, hN]
    refine c_T.x k hK1 rfl ?_
    rw [m_app, m_app, hl9, hG]
  have k2 := x_Run.preg (n := n) G hF (by omega) e k1
  rw [hL, e0] at k2
  exact k2.t hK rfl (by rw [m_app, hl9, hG]) rfl
theorem m_to.loop {X : List Int32} {md : c_M} {lo : c_Hp} {pc m a b : Nat} {L : Nat → c_Ls} (h : ∀ i, i < m → m_to X md lo pc (L i) pc (L (i + 1)) a b) : ∀ j i, i + j = m → m_to X md lo pc (L i) pc (L m) (j * a) (j * b)
  | 0, i, e => by
    have e0 : i = m := by omega
    subst e0
    rw [Nat.zero_mul, Nat.zero_mul]
    exact m_to.refl
  | j + 1, i, e => by
    have k := (h i (by omega)).trans (m_to.loop h j (i + 1) (by omega))
    rw [Nat.succ_mul, Nat.succ_mul, Nat.add_comm (j * a), Nat.add_comm (j * b)]
    exact k
theorem m_loop {P : Nat → Prop} {m : Nat} (h : ∀ i, i < m → P (i + 1) → P i) : ∀ j i, i + j = m → P m → P i
  | 0, i, e, k => by
    have e0 : i = m := by omega
    subst e0
    exact k
  | j + 1, i, e, k => h i (by omega) (m_loop h j (i + 1) (by omega) k)
theorem o_eq1 {B : c_B} {x y : Value} {a b : Int32} (hx : c_iv B x = some a) (hy : c_iv B y = some b) (h : a = b) : c_hold B (20, x, y, .int 1) :=
  f_cmp (cd := .eq) (t := true) hx hy ((k_eq rfl rfl).trans (decide_eq_true (congrArg Int32.toInt h)))
theorem o_eq0 {B : c_B} {x y : Value} {a b : Int32} (hx : c_iv B x = some a) (hy : c_iv B y = some b) (h : a ≠ b) : c_hold B (20, x, y, .int 0) :=
  f_cmp (cd := .eq) (t := false) hx hy ((k_eq rfl rfl).trans (decide_eq_false (fun h9 => h (Int32.toInt_inj.mp h9))))
theorem o_ne1 {B : c_B} {x y : Value} {a b : Int32} (hx : c_iv B x = some a) (hy : c_iv B y = some b) (h : a ≠ b) : c_hold B (21, x, y, .int 1) :=
  f_cmp (cd := .ne) (t := true) hx hy ((k_ne rfl rfl).trans (decide_eq_true (fun h9 => h (Int32.toInt_inj.mp h9))))
theorem o_ne0 {B : c_B} {x y : Value} {a b : Int32} (hx : c_iv B x = some a) (hy : c_iv B y = some b) (h : a = b) : c_hold B (21, x, y, .int 0) :=
  f_cmp (cd := .ne) (t := false) hx hy ((k_ne rfl rfl).trans (decide_eq_false (fun h9 => h9 (congrArg Int32.toInt h))))
theorem m_s_v (B : c_B) (v : Value) : s_h B (t_h1 v) = t_h1 (s_v B v) := rfl
theorem m_ls (B : c_B) {i : Nat} (h3 : i ≤ 1000) : s_v B (.double (UInt64.ofNat (c_M0 + i))) = .long (B.2 i).toInt64 := by
  have h4 : (UInt64.ofNat (c_M0 + i)).toNat = c_M0 + i := by
    rw [UInt64.toNat_ofNat']
    unfold c_M0
    omega
  rw [s_v_d, h4, if_pos (by omega), show c_M0 + i - c_M0 = i from by omega]
