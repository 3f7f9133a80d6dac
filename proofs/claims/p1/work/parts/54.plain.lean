/-! ### the script's numbers told, some of them plain -/
theorem c_T.y {X : List Int32} {B : c_B} {xs : List Value} {md : c_M} {pc : Nat} {L L1 : c_Ls} {st st1 : List Value} {h h1 : c_Hp} {r : c_O × c_Hp} (hx : xs.map (s_v B) = X.map Value.int) (k : c_T X md pc L1 st1 h1 r) (eL : s_L B L = L1) (es : s_st B st = st1) (eh : s_h B h = h1) : x_Run B xs md pc L st h r := by
  subst eL es eh
  have e : s_E B [] ([], xs) = ([], X.map Value.int) := by rw [← hx]; rfl
  unfold x_Run
  rw [e]
  exact k
theorem y_goal {a0 a1 a2 a3 a4 a5 : Int32} {x : List Int32} {xs : List Value} {h : c_Hp} (hx : xs.map (s_v (c_BB [a0, a1, a2, a3, a4, a5] x)) = [a0, a1, a2, a3, a4, a5].map Value.int) (k : x_Run (c_BB [a0, a1, a2, a3, a4, a5] x) xs c_m259 38 t_L0 [] t_h0 (.inl (some (.int 1)), h)) (h1 : h.length ≤ 927443) (h2 : c_msz h ≤ 6319727) : c_Goal [a0, a1, a2, a3, a4, a5] := by
  have e1 : s_L (c_BB [a0, a1, a2, a3, a4, a5] x) t_L0 = t_L0 := rfl
  have e2 : s_h (c_BB [a0, a1, a2, a3, a4, a5] x) t_h0 = t_h0 := rfl
  have e3 : s_E (c_BB [a0, a1, a2, a3, a4, a5] x) [] ([], xs) = ([], [.int a0, .int a1, .int a2, .int a3, .int a4, .int a5]) := by
    have e4 : s_E (c_BB [a0, a1, a2, a3, a4, a5] x) [] ([], xs) = ([], [a0, a1, a2, a3, a4, a5].map Value.int) := by rw [← hx]; rfl
    exact e4
  unfold x_Run at k
  rw [e1, e2, e3] at k
  exact ⟨fun _ => 0, _, h, ⟨rfl, (c_xs (B := (fun _ => 0, fun _ => 0)) rfl rfl rfl rfl rfl rfl).2, fun f hf => by cases hf⟩, k, h1, h2⟩
theorem o_eqf {B : c_B} {x y : Value} {a b : Int32} (hx : c_iv B x = some a) (hy : c_iv B y = some b) (h : a ≠ b) : c_hold B (20, x, y, .int 0) :=
  f_cmp (cd := .eq) (t := false) hx hy ((k_eq rfl rfl).trans (decide_eq_false (fun h9 => h (Int32.toInt_inj.mp h9))))
theorem o_net {B : c_B} {x y : Value} {a b : Int32} (hx : c_iv B x = some a) (hy : c_iv B y = some b) (h : a ≠ b) : c_hold B (21, x, y, .int 1) :=
  f_cmp (cd := .ne) (t := true) hx hy ((k_ne rfl rfl).trans (decide_eq_true (fun h9 => h (Int32.toInt_inj.mp h9))))
theorem nb_4096 {P : Nat → Prop} (h : ∀ q, q < 64 → ∀ r, r < 64 → P (64 * q + r)) : ∀ n, n < 4096 → P n := fun n hn => by
  have h1 := h (n / 64) (by omega) (n % 64) (Nat.mod_lt _ (by decide))
  rw [Nat.div_add_mod] at h1
  exact h1
/-- a loop each round of which makes one cell that the next round forgets -/
theorem y_loop {X : List Int32} {md : c_M} {pc N m : Nat} {lo : c_Hp} {al : c_Cell} {L : Nat → Value → c_Ls} {r : c_O × c_Hp} (h : ∀ t, t < m → c_T X md pc (L (t + 1) (.ref (N + (t + 1)))) [] (lo ++ (t_G [al] (t + 1) ++ [al])) r → c_T X md pc (L t (.ref (N + t))) [] (lo ++ (t_G [al] t ++ [al])) r) (k : c_T X md pc (L m (.ref (N + m))) [] (lo ++ (t_G [al] m ++ [al])) r) : c_T X md pc (L 0 (.ref N)) [] (lo ++ [al]) r := by
  have h2 : ∀ j i, i + j = m → c_T X md pc (L i (.ref (N + i))) [] (lo ++ (t_G [al] i ++ [al])) r := by
    intro j
    induction j with
    | zero =>
      intro i e
      have e0 : i = m := by omega
      subst e0
      exact k
    | succ j ih => exact fun i e => h i (by omega) (ih (i + 1) (by omega))
  exact h2 m 0 (by omega)
theorem y_gh {B : c_B} {N t : Nat} {lo u : c_Hp} {al : c_Cell} (hn : lo.length = N) (hlo : ∀ d, lo.map (g_c N d) = lo) (hl9 : s_h B lo = lo) (ha : s_h B [al] = [al]) (hu : ∀ d, u.map (g_c N d) = u) (hu9 : s_h B u = u) : s_h B (g_h N (t_G [al] t) (lo ++ u)) = lo ++ (t_G [al] t ++ u) := by
  have h1 : ∀ a b : c_Hp, s_h B (a ++ b) = s_h B a ++ s_h B b := fun a b => List.map_append
  rw [g_h_s hn, hlo, hu, h1, h1, hl9, t_G_b B ha, hu9]
theorem y_tl (al : c_Cell) (t : Nat) : (t_G [al] t).length = t := by rw [t_G_l]; exact Nat.mul_one t
/-- such a round, out of an evaluated one -/
theorem y_step {a0 a1 a2 a3 a4 a5 : Int32} {x : List Int32} {F : List c_F} {M : Nat} {md : c_M} {m pc N t : Nat} {K K1 : Value → c_Ls} {T T1 : Value → c_Ls} {lo : c_Hp} {al : c_Cell} {r : c_O × c_Hp} (hF : ∀ f ∈ F, c_hold (c_BB [a0, a1, a2, a3, a4, a5] x) f) (e : c_pre (F, x_xs) M md m pc (K (.ref N)) [] (lo ++ [al]) = some (pc, K1 (.ref (N + 1)), [], lo ++ [al, al])) (hn : lo.length = N) (hlo : ∀ d, lo.map (g_c N d) = lo) (hl9 : s_h (c_BB [a0, a1, a2, a3, a4, a5] x) lo = lo) (ha : s_h (c_BB [a0, a1, a2, a3, a4, a5] x) [al] = [al]) (hg : ∀ d, [al].map (g_c N d) = [al]) (hK : ∀ d p, s_L (c_BB [a0, a1, a2, a3, a4, a5] x) (g_L N d (K (.ref p))) = T (.ref (g_p N d p))) (hK1 : ∀ d p, s_L (c_BB [a0, a1, a2, a3, a4, a5] x) (g_L N d (K1 (.ref p))) = T1 (.ref (g_p N d p))) (k : c_T [a0, a1, a2, a3, a4, a5] md pc (T1 (.ref (N + (t + 1)))) [] (lo ++ (t_G [al] (t + 1) ++ [al])) r) : c_T [a0, a1, a2, a3, a4, a5] md pc (T (.ref (N + t))) [] (lo ++ (t_G [al] t ++ [al])) r := by
  have hg2 : ∀ d, [al, al].map (g_c N d) = [al, al] := fun d => by
    have h1 := hg d
    rw [List.map_cons, List.map_nil] at h1
    have h2 : g_c N d al = al := by injection h1
    rw [List.map_cons, List.map_cons, List.map_nil, h2]
  have ha2 : s_h (c_BB [a0, a1, a2, a3, a4, a5] x) [al, al] = [al, al] := by
    have h1 : s_h (c_BB [a0, a1, a2, a3, a4, a5] x) ([al] ++ [al]) = s_h (c_BB [a0, a1, a2, a3, a4, a5] x) [al] ++ s_h (c_BB [a0, a1, a2, a3, a4, a5] x) [al] := List.map_append
    rw [ha] at h1
    exact h1
  have gp : ∀ q, g_p N t (N + q) = N + (t + q) := fun q => by
    unfold g_p
    rw [if_neg (by omega)]
    omega
  refine (x_Run.preg (n := N) (t_G [al] t) hF (by rw [List.length_append, hn]; omega) e (c_T.x k ?_ rfl ?_)).t ?_ rfl (y_gh hn hlo hl9 ha hg ha) rfl
  · rw [y_tl, hK1, gp 1]
  · show s_h _ (g_h N (t_G [al] t) (lo ++ [al, al])) = _
    rw [y_gh hn hlo hl9 ha hg2 ha2, t_G_s, List.append_assoc]
    rfl
  · have g0 : g_p N t N = N + t := by
      have h9 := gp 0
      rw [Nat.add_zero, Nat.add_zero] at h9
      exact h9
    rw [y_tl, hK, g0]
