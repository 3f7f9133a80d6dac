/-! ### sets of numbers as bits: in 64 longs, in a row of booleans -/
set_option maxRecDepth 100000
def w_S (S : Nat) : List Value := (List.range 64).map (fun w => .long (Int64.ofNat (S >>> (64 * w))))
def w_c (S : Nat) : c_Cell := some (.inr (1, w_S S))
def b_S (N S : Nat) : List Value := (List.range N).map (fun j => .int (if S.testBit j then 1 else 0))
def b_c (N S : Nat) : c_Cell := some (.inr (4, b_S N S))
theorem q_bits {A B C : Nat} (h : ∀ i, i < 64 → C.testBit i = (A.testBit i || B.testBit i)) : Int64.ofNat A ||| Int64.ofNat B = Int64.ofNat C := by
  apply Int64.toBitVec_inj.mp
  show BitVec.ofNat 64 A ||| BitVec.ofNat 64 B = BitVec.ofNat 64 C
  apply BitVec.eq_of_getLsbD_eq
  intro i hi
  rw [BitVec.getLsbD_or, BitVec.getLsbD_ofNat, BitVec.getLsbD_ofNat, BitVec.getLsbD_ofNat, h i hi]
  cases A.testBit i <;> cases B.testBit i <;> simp [hi]
theorem q_same {A C : Nat} (h : ∀ i, i < 64 → C.testBit i = A.testBit i) : Int64.ofNat A = Int64.ofNat C := by
  apply Int64.toBitVec_inj.mp
  show BitVec.ofNat 64 A = BitVec.ofNat 64 C
  apply BitVec.eq_of_getLsbD_eq
  intro i hi
  rw [BitVec.getLsbD_ofNat, BitVec.getLsbD_ofNat, h i hi]
theorem q_mapset (f g : Nat → Value) (N e : Nat) (v : Value) (he : g e = v) (hne : ∀ i, i ≠ e → g i = f i) : ((List.range N).map f).set e v = (List.range N).map g := by
  apply List.ext_getElem
  · rw [List.length_set, List.length_map, List.length_map]
  · intro i h1 h2
    rw [List.getElem_set]
    simp only [List.getElem_map, List.getElem_range]
    split
    · rename_i h
      rw [← h, he]
    · rename_i h
      exact (hne i (fun h9 => h h9.symm)).symm
theorem q_wS {S e : Nat} : (w_S S).set (e / 64) (.long (Int64.ofNat (S >>> (64 * (e / 64))) ||| Int64.ofNat (2 ^ (e % 64)))) = w_S (S ||| 2 ^ e) := by
  refine q_mapset _ (fun w => .long (Int64.ofNat ((S ||| 2 ^ e) >>> (64 * w)))) 64 _ _ ?_ ?_
  · refine congrArg Value.long (q_bits ?_).symm
    intro j hj
    rw [Nat.testBit_shiftRight, Nat.testBit_shiftRight, Nat.testBit_or, Nat.testBit_two_pow, Nat.testBit_two_pow]
    congr 1
    apply decide_eq_decide.mpr
    omega
  · intro i hi
    refine congrArg Value.long (q_same ?_)
    intro j hj
    rw [Nat.testBit_shiftRight, Nat.testBit_shiftRight, Nat.testBit_or, Nat.testBit_two_pow, decide_eq_false (by omega), Bool.or_false]
theorem q_bS {N S e : Nat} : (b_S N S).set e (.int 1) = b_S N (S ||| 2 ^ e) := by
  refine q_mapset _ (fun j => .int (if (S ||| 2 ^ e).testBit j then 1 else 0)) N e _ ?_ ?_
  · show Value.int (if (S ||| 2 ^ e).testBit e then 1 else 0) = .int 1
    rw [Nat.testBit_or, Nat.testBit_two_pow, decide_eq_true rfl, Bool.or_true]
    rfl
  · intro i hi
    show Value.int (if (S ||| 2 ^ e).testBit i then 1 else 0) = Value.int (if S.testBit i then 1 else 0)
    rw [Nat.testBit_or, Nat.testBit_two_pow, decide_eq_false (fun h => hi h.symm), Bool.or_false]
theorem w_len (S : Nat) : (w_S S).length = 64 := by unfold w_S; rw [List.length_map, List.length_range]
theorem b_len (N S : Nat) : (b_S N S).length = N := by unfold b_S; rw [List.length_map, List.length_range]
theorem w_get {S w : Nat} (h : w < 64) : c_nth (w_S S) w = some (.long (Int64.ofNat (S >>> (64 * w)))) := by
  rw [c_nth_eq]
  unfold w_S
  rw [List.getElem?_map, List.getElem?_range h]
  rfl
theorem b_get {N S j : Nat} (h : j < N) : c_nth (b_S N S) j = some (.int (if S.testBit j then 1 else 0)) := by
  rw [c_nth_eq]
  unfold b_S
  rw [List.getElem?_map, List.getElem?_range h]
  rfl
/-! ### single instructions -/
theorem r_one {E : c_E} {F pc : Nat} {md : c_M} {q : c_I} {L : c_Ls} {st : List Value} {h : c_Hp} {r1 : c_R} (hi : c_at pc (c_mi md) = some q) (hk : c_kd q = 0) (e : c_stp E q pc L st h = some r1) : c_one1 E F md pc L st h = some r1 := by
  unfold c_one1
  rw [hi]
  simp only [hk]
  exact e
theorem r_go {E : c_E} {pc pc1 : Nat} {md : c_M} {q : c_I} {L L1 : c_Ls} {st st1 : List Value} {h h1 : c_Hp} {r : c_O × c_Hp} (hi : c_at pc (c_mi md) = some q) (hk : c_kd q = 0) (e : c_stp E q pc L st h = some (pc1, L1, st1, h1)) (k : c_Run E md pc1 L1 st1 h1 r) : c_Run E md pc L st h r :=
  c_Run.one (F := 0) (r1 := (pc1, L1, st1, h1)) (r_one hi hk e) k
theorem r_ret {X : List Int32} {md : c_M} {pc : Nat} {q : c_I} {L : c_Ls} {h : c_Hp} (hi : c_at pc (c_mi md) = some (.return_, 0, 0, 0)) (hr : c_mr md = none := by rfl) (hq : q = (.return_, 0, 0, 0) := by rfl) : c_T X md pc L [] h (.inl none, h) := by
  refine ⟨1, ?_⟩
  rw [c_go_s, hi]
  show c_ret 2 md [] h = _
  unfold c_ret c_rtn
  rw [hr]
  rfl
theorem r_b2 {E : c_E} {o n pc : Nat} {f : Int32 → Int32 → Option Int32} {L : c_Ls} {x y z : Int32} {st : List Value} {h : c_Hp} (hz : f x y = some z) : c_b2 E o f n pc L (.int y :: .int x :: st) h = some (pc + n, L, .int z :: st, h) := by
  unfold c_b2 c_op
  simp only [hz, c_opn, c_nrm_eq]
theorem r_br {E : c_E} {cd : Jvm.ClassFile.Cond} {t pc : Nat} {L : c_Ls} {x y : Int32} {st : List Value} {h : c_Hp} {z : Bool} (hz : c_cmp cd x y = z) : c_br E cd t (.int x) (.int y) pc L st h = some (if z then t else pc + 3, L, st, h) := by
  unfold c_br c_brb
  simp only [hz]
  cases z <;> rfl
theorem r_ix {j n : Nat} (h : j < n) (h2 : n < 2 ^ 31) : c_ix (Int32.ofNat j) n = some j := by
  have h5 : (Int32.ofNat j).toBitVec.toNat = j := by
    show (BitVec.ofNat 32 j).toNat = j
    rw [BitVec.toNat_ofNat]
    omega
  unfold c_ix
  rw [h5]
  have h6 : Nat.blt j 2147483648 = true := Nat.blt_eq.mpr (by omega)
  have h7 : Nat.blt j n = true := Nat.blt_eq.mpr h
  rw [h6]
  simp only
  rw [h7]
theorem r_vs {h : c_Hp} {a t : Nat} {vs : List Value} (e : c_nth h a = some (some (.inr (t, vs)))) : c_vs h a t = some vs := by
  unfold c_vs
  rw [e]
  simp only [Nat.beq_refl]
theorem r_ald {t j a pc : Nat} {k : Value → Bool} {L : c_Ls} {st vs : List Value} {h : c_Hp} {v : Value} (e : c_nth h a = some (some (.inr (t, vs)))) (hj : j < vs.length) (h2 : vs.length < 2 ^ 31) (hv : c_nth vs j = some v) (hk : k v = true) : c_ald t k pc L (.int (Int32.ofNat j) :: .ref a :: st) h = some (pc + 1, L, v :: st, h) := by
  unfold c_ald
  simp only [r_vs e, r_ix hj h2, hv, hk]
theorem r_ast {t j a pc : Nat} {k : Value → Bool} {L : c_Ls} {st vs : List Value} {h : c_Hp} {v : Value} (e : c_nth h a = some (some (.inr (t, vs)))) (hj : j < vs.length) (h2 : vs.length < 2 ^ 31) (hk : k v = true) : c_ast t k pc L (v :: .int (Int32.ofNat j) :: .ref a :: st) h = some (pc + 1, L, st, h.set a (some (.inr (t, vs.set j v)))) := by
  unfold c_ast
  simp only [r_vs e, r_ix hj h2, hk, if_true, c_upd_eq]
theorem r_alen {E : c_E} {q : c_I} {a t pc : Nat} {L : c_Ls} {st vs : List Value} {h : c_Hp} (e : c_nth h a = some (some (.inr (t, vs)))) (ht : Nat.blt t 6 = true) : c_alen E q pc L (.ref a :: st) h = some (pc + 1, L, .int (Int32.ofNat vs.length) :: st, h) := by
  unfold c_alen
  simp only [e, ht, if_true, c_nrm_eq]
theorem r_self {h : c_Hp} {a : Nat} {c : c_Cell} (hl : a < h.length) : c_nth (h.set a c) a = some c := by
  rw [c_nth_eq, List.getElem?_set_self hl]
theorem r_set2 {h : c_Hp} {a : Nat} {c d : c_Cell} : (h.set a c).set a d = h.set a d := List.set_set ..
theorem m_div64 : ∀ e, e < 4096 → (Int32.ofNat e) >>> ((6 : Int32) &&& 31) = Int32.ofNat (e / 64) := nb_4096 (P := fun e => (Int32.ofNat e) >>> ((6 : Int32) &&& 31) = Int32.ofNat (e / 64)) (by decide +kernel)
theorem m_mod64 : ∀ e, e < 4096 → (Int32.ofNat e) &&& (63 : Int32) = Int32.ofNat (e % 64) := nb_4096 (P := fun e => (Int32.ofNat e) &&& (63 : Int32) = Int32.ofNat (e % 64)) (by decide +kernel)
theorem m_lsh : ∀ r, r < 64 → (Int64.ofNat 1) <<< ((Int32.ofNat r).toInt64 &&& 63) = Int64.ofNat (2 ^ r) := by decide +kernel
/-- put of the class's set -/
theorem q_put {X : List Int32} {H : c_Hp} {e S : Nat} (he : e < 4096) (h39 : c_nth H 39 = some (some (.inl (2, [.ref 40])))) (h40 : 40 < H.length) : c_T X c_m149 0 [some (.ref 39), some (.int (Int32.ofNat e)), none] [] (H.set 40 (w_c S)) (.inl none, H.set 40 (w_c (S ||| 2 ^ e))) := by
  have g39 : c_nth (H.set 40 (w_c S)) 39 = some (some (.inl (2, [.ref 40]))) := by
    rw [c_nth_eq] at h39 ⊢
    rw [List.getElem?_set_ne (by decide)]
    exact h39
  have g40 : c_nth (H.set 40 (w_c S)) 40 = some (some (.inr (1, w_S S))) := r_self h40
  have hw : e / 64 < 64 := by omega
  have t1 := o_toInt (k := e / 64) (by omega)
  have f39 : c_fs (H.set 40 (w_c S)) 39 2 = some [.ref 40] := by
    unfold c_fs
    rw [g39]
    try rfl
  have gf : ∀ pc L st, c_getf (.getfield 9, 2, 0, 0) pc L (.ref 39 :: st) (H.set 40 (w_c S)) = some (pc + 3, L, .ref 40 :: st, H.set 40 (w_c S)) := by
    intro pc L st
    unfold c_getf
    simp only [f39]
    rfl
  refine r_go (pc1 := 1) (L1 := [some (.ref 39), some (.int (Int32.ofNat e)), none]) (st1 := [.int (Int32.ofNat e)]) (h1 := (H.set 40 (w_c S))) (q := (.iload_n 1, 0, 0, 0)) (by decide +kernel) rfl (rfl) ?_
  refine r_go (pc1 := 3) (L1 := [some (.ref 39), some (.int (Int32.ofNat e)), none]) (st1 := [.int (Int8.ofInt 6).toInt32, .int (Int32.ofNat e)]) (h1 := (H.set 40 (w_c S))) (q := (.bipush (6), 0, 0, 0)) (by decide +kernel) rfl (rfl) ?_
  refine r_go (pc1 := 4) (L1 := [some (.ref 39), some (.int (Int32.ofNat e)), none]) (st1 := [.int (Int32.ofNat (e / 64))]) (h1 := (H.set 40 (w_c S))) (q := (.ishr, 0, 0, 0)) (by decide +kernel) rfl ((show c_b2 ([], X.map Value.int) 7 m_shr 1 3 _ _ _ = _ from r_b2 (congrArg some (m_div64 e he)))) ?_
  refine r_go (pc1 := 5) (L1 := [some (.ref 39), some (.int (Int32.ofNat e)), some (.int (Int32.ofNat (e / 64)))]) (st1 := []) (h1 := (H.set 40 (w_c S))) (q := (.istore_n 2, 0, 0, 0)) (by decide +kernel) rfl (rfl) ?_
  refine r_go (pc1 := 6) (L1 := [some (.ref 39), some (.int (Int32.ofNat e)), some (.int (Int32.ofNat (e / 64)))]) (st1 := [.int (Int32.ofNat (e / 64))]) (h1 := (H.set 40 (w_c S))) (q := (.iload_n 2, 0, 0, 0)) (by decide +kernel) rfl (rfl) ?_
  refine r_go (pc1 := 9) (L1 := [some (.ref 39), some (.int (Int32.ofNat e)), some (.int (Int32.ofNat (e / 64)))]) (st1 := []) (h1 := (H.set 40 (w_c S))) (q := (.ifCond .lt (27), 33, 0, 0)) (by decide +kernel) rfl ((show c_br ([], X.map Value.int) .lt 33 _ (.int 0) 6 _ _ _ = _ from r_br (z := false) ((k_lt t1 (by decide : (0 : Int32).toInt = 0)).trans (decide_eq_false (by omega))))) ?_
  refine r_go (pc1 := 10) (L1 := [some (.ref 39), some (.int (Int32.ofNat e)), some (.int (Int32.ofNat (e / 64)))]) (st1 := [.int (Int32.ofNat (e / 64))]) (h1 := (H.set 40 (w_c S))) (q := (.iload_n 2, 0, 0, 0)) (by decide +kernel) rfl (rfl) ?_
  refine r_go (pc1 := 11) (L1 := [some (.ref 39), some (.int (Int32.ofNat e)), some (.int (Int32.ofNat (e / 64)))]) (st1 := [.ref 39, .int (Int32.ofNat (e / 64))]) (h1 := (H.set 40 (w_c S))) (q := (.aload_n 0, 0, 0, 0)) (by decide +kernel) rfl (rfl) ?_
  refine r_go (pc1 := 14) (L1 := [some (.ref 39), some (.int (Int32.ofNat e)), some (.int (Int32.ofNat (e / 64)))]) (st1 := [.ref 40, .int (Int32.ofNat (e / 64))]) (h1 := (H.set 40 (w_c S))) (q := (.getfield 9, 2, 0, 0)) (by decide +kernel) rfl ((gf 11 _ _)) ?_
  refine r_go (pc1 := 15) (L1 := [some (.ref 39), some (.int (Int32.ofNat e)), some (.int (Int32.ofNat (e / 64)))]) (st1 := [.int (Int32.ofNat 64), .int (Int32.ofNat (e / 64))]) (h1 := (H.set 40 (w_c S))) (q := (.arraylength, 0, 0, 0)) (by decide +kernel) rfl ((by unfold c_stp; simp only [c_dsp, x_alen]; rw [r_alen g40 rfl, w_len])) ?_
  refine r_go (pc1 := 18) (L1 := [some (.ref 39), some (.int (Int32.ofNat e)), some (.int (Int32.ofNat (e / 64)))]) (st1 := []) (h1 := (H.set 40 (w_c S))) (q := (.if_icmp .ge (18), 33, 0, 0)) (by decide +kernel) rfl ((show c_br ([], X.map Value.int) .ge 33 _ _ 15 _ _ _ = _ from r_br (z := false) ((k_ge t1 (by decide : (Int32.ofNat 64).toInt = 64)).trans (decide_eq_false (by omega))))) ?_
  refine r_go (pc1 := 19) (L1 := [some (.ref 39), some (.int (Int32.ofNat e)), some (.int (Int32.ofNat (e / 64)))]) (st1 := [.ref 39]) (h1 := (H.set 40 (w_c S))) (q := (.aload_n 0, 0, 0, 0)) (by decide +kernel) rfl (rfl) ?_
  refine r_go (pc1 := 22) (L1 := [some (.ref 39), some (.int (Int32.ofNat e)), some (.int (Int32.ofNat (e / 64)))]) (st1 := [.ref 40]) (h1 := (H.set 40 (w_c S))) (q := (.getfield 9, 2, 0, 0)) (by decide +kernel) rfl ((gf 19 _ _)) ?_
  refine r_go (pc1 := 23) (L1 := [some (.ref 39), some (.int (Int32.ofNat e)), some (.int (Int32.ofNat (e / 64)))]) (st1 := [.int (Int32.ofNat (e / 64)), .ref 40]) (h1 := (H.set 40 (w_c S))) (q := (.iload_n 2, 0, 0, 0)) (by decide +kernel) rfl (rfl) ?_
  refine r_go (pc1 := 24) (L1 := [some (.ref 39), some (.int (Int32.ofNat e)), some (.int (Int32.ofNat (e / 64)))]) (st1 := [.int (Int32.ofNat (e / 64)), .ref 40, .int (Int32.ofNat (e / 64)), .ref 40]) (h1 := (H.set 40 (w_c S))) (q := (.dup2, 0, 0, 0)) (by decide +kernel) rfl (rfl) ?_
  refine r_go (pc1 := 25) (L1 := [some (.ref 39), some (.int (Int32.ofNat e)), some (.int (Int32.ofNat (e / 64)))]) (st1 := [.long (Int64.ofNat (S >>> (64 * (e / 64)))), .int (Int32.ofNat (e / 64)), .ref 40]) (h1 := (H.set 40 (w_c S))) (q := (.laload, 0, 0, 0)) (by decide +kernel) rfl ((by unfold c_stp; simp only [c_dsp, x_ald]; exact r_ald g40 (by rw [w_len]; exact hw) (by rw [w_len]; decide) (w_get hw) rfl)) ?_
  refine r_go (pc1 := 26) (L1 := [some (.ref 39), some (.int (Int32.ofNat e)), some (.int (Int32.ofNat (e / 64)))]) (st1 := [.long (Int64.ofNat 1), .long (Int64.ofNat (S >>> (64 * (e / 64)))), .int (Int32.ofNat (e / 64)), .ref 40]) (h1 := (H.set 40 (w_c S))) (q := (.lconst 1, 0, 0, 0)) (by decide +kernel) rfl (rfl) ?_
  refine r_go (pc1 := 27) (L1 := [some (.ref 39), some (.int (Int32.ofNat e)), some (.int (Int32.ofNat (e / 64)))]) (st1 := [.int (Int32.ofNat e), .long (Int64.ofNat 1), .long (Int64.ofNat (S >>> (64 * (e / 64)))), .int (Int32.ofNat (e / 64)), .ref 40]) (h1 := (H.set 40 (w_c S))) (q := (.iload_n 1, 0, 0, 0)) (by decide +kernel) rfl (rfl) ?_
  refine r_go (pc1 := 29) (L1 := [some (.ref 39), some (.int (Int32.ofNat e)), some (.int (Int32.ofNat (e / 64)))]) (st1 := [.int (Int8.ofInt 63).toInt32, .int (Int32.ofNat e), .long (Int64.ofNat 1), .long (Int64.ofNat (S >>> (64 * (e / 64)))), .int (Int32.ofNat (e / 64)), .ref 40]) (h1 := (H.set 40 (w_c S))) (q := (.bipush (63), 0, 0, 0)) (by decide +kernel) rfl (rfl) ?_
  refine r_go (pc1 := 30) (L1 := [some (.ref 39), some (.int (Int32.ofNat e)), some (.int (Int32.ofNat (e / 64)))]) (st1 := [.int (Int32.ofNat (e % 64)), .long (Int64.ofNat 1), .long (Int64.ofNat (S >>> (64 * (e / 64)))), .int (Int32.ofNat (e / 64)), .ref 40]) (h1 := (H.set 40 (w_c S))) (q := (.iand, 0, 0, 0)) (by decide +kernel) rfl ((show c_b2 ([], X.map Value.int) 3 m_and 1 29 _ _ _ = _ from r_b2 (congrArg some (m_mod64 e he)))) ?_
  refine r_go (pc1 := 31) (L1 := [some (.ref 39), some (.int (Int32.ofNat e)), some (.int (Int32.ofNat (e / 64)))]) (st1 := [.long (Int64.ofNat (2 ^ (e % 64))), .long (Int64.ofNat (S >>> (64 * (e / 64)))), .int (Int32.ofNat (e / 64)), .ref 40]) (h1 := (H.set 40 (w_c S))) (q := (.lshl, 0, 0, 0)) (by decide +kernel) rfl ((by rw [← m_lsh (e % 64) (Nat.mod_lt _ (by decide))]; rfl)) ?_
  refine r_go (pc1 := 32) (L1 := [some (.ref 39), some (.int (Int32.ofNat e)), some (.int (Int32.ofNat (e / 64)))]) (st1 := [.long (Int64.ofNat (S >>> (64 * (e / 64))) ||| Int64.ofNat (2 ^ (e % 64))), .int (Int32.ofNat (e / 64)), .ref 40]) (h1 := (H.set 40 (w_c S))) (q := (.lor, 0, 0, 0)) (by decide +kernel) rfl (rfl) ?_
  refine r_go (pc1 := 33) (L1 := [some (.ref 39), some (.int (Int32.ofNat e)), some (.int (Int32.ofNat (e / 64)))]) (st1 := []) (h1 := (H.set 40 (w_c (S ||| 2 ^ e)))) (q := (.lastore, 0, 0, 0)) (by decide +kernel) rfl ((by unfold c_stp; simp only [c_dsp, x_ast]; rw [r_ast g40 (by rw [w_len]; exact hw) (by rw [w_len]; decide) rfl, q_wS, r_set2]; rfl)) ?_
  exact r_ret (q := (.return_, 0, 0, 0)) (by decide +kernel)
/-- a boolean of a row read -/
theorem q_bald {X : List Int32} {md : c_M} {pc p1 p2 p3 a j N S : Nat} {L : c_Ls} {st : List Value} {H : c_Hp} {r : c_O × c_Hp} (hi : c_at pc (c_mi md) = some (.baload, p1, p2, p3)) (hk : c_kd (.baload, p1, p2, p3) = 0) (ha : a < H.length) (hj : j < N) (hN : N < 2 ^ 31) (k : c_T X md (pc + 1) L (.int (if S.testBit j then 1 else 0) :: st) (H.set a (b_c N S)) r) : c_T X md pc L (.int (Int32.ofNat j) :: .ref a :: st) (H.set a (b_c N S)) r := by
  refine c_Run.one (F := 0) (r1 := (pc + 1, L, .int (if S.testBit j then 1 else 0) :: st, H.set a (b_c N S))) ?_ k
  refine r_one hi hk ?_
  unfold c_stp
  simp only [c_dsp, x_ald]
  exact r_ald (r_self ha) (by rw [b_len]; exact hj) (by rw [b_len]; exact hN) (b_get hj) (by cases S.testBit j <;> rfl)
/-- .. and written -/
theorem q_bast {X : List Int32} {md : c_M} {pc p1 p2 p3 a j N S : Nat} {L : c_Ls} {st : List Value} {H : c_Hp} {r : c_O × c_Hp} (hi : c_at pc (c_mi md) = some (.bastore, p1, p2, p3)) (hk : c_kd (.bastore, p1, p2, p3) = 0) (ha : a < H.length) (hj : j < N) (hN : N < 2 ^ 31) (k : c_T X md (pc + 1) L st (H.set a (b_c N (S ||| 2 ^ j))) r) : c_T X md pc L (.int 1 :: .int (Int32.ofNat j) :: .ref a :: st) (H.set a (b_c N S)) r := by
  refine c_Run.one (F := 0) (r1 := (pc + 1, L, st, H.set a (b_c N (S ||| 2 ^ j)))) ?_ k
  refine r_one hi hk ?_
  unfold c_stp
  simp only [c_dsp, x_ast]
  refine (r_ast (k := c_b01) (vs := b_S N S) (r_self ha) (by rw [b_len]; exact hj) (by rw [b_len]; exact hN) rfl).trans ?_
  rw [q_bS, r_set2]
  rfl
/-! ### evaluated pieces over heaps with a cell unlooked at, with numbers told, with garbage between -/
theorem s_nth_none {B : c_B} {h : c_Hp} {i : Nat} (hp : c_nth h i = some none) : c_nth (s_h B h) i = some none := by
  rw [c_nth_eq] at hp ⊢
  unfold s_h
  rw [List.getElem?_map, hp]
  rfl
theorem g_nth_none {n i : Nat} {G h : c_Hp} (hi : i < n) (hp : c_nth h i = some none) : c_nth (g_h n G h) i = some none := by
  rw [c_nth_eq] at hp ⊢
  have h1 := (List.getElem?_eq_some_iff.mp hp).1
  unfold g_h
  rw [List.getElem?_append_left (by rw [List.length_map, List.length_take]; omega), List.getElem?_map, List.getElem?_take_of_lt hi, hp]
  rfl
theorem q_E {X : List Int32} {B : c_B} {xs : List Value} (hx : xs.map (s_v B) = X.map Value.int) (F : List c_F) : s_E B [] (F, xs) = ([], X.map Value.int) := by rw [← hx]; rfl
theorem q_pre0 {X : List Int32} {B : c_B} {xs : List Value} {F : List c_F} {M : Nat} {md : c_M} {m pc pc1 : Nat} {L L1 K K1 : c_Ls} {st st1 t t1 : List Value} {h h1 H H1 : c_Hp} {r : c_O × c_Hp} (hx : xs.map (s_v B) = X.map Value.int) (hF : ∀ f ∈ F, c_hold B f) (e : c_pre (F, xs) M md m pc L st h = some (pc1, L1, st1, h1)) (hK : s_L B L = K) (hK1 : s_L B L1 = K1) (ht : s_st B st = t) (ht1 : s_st B st1 = t1) (hH : s_h B h = H) (hH1 : s_h B h1 = H1) (k : c_T X md pc1 K1 t1 H1 r) : c_T X md pc K t H r := by
  subst hK hK1 ht ht1 hH hH1
  have e1 := c_pre_s (F := []) (E := (F, xs)) hF e
  rw [q_E hx] at e1
  exact c_Run.pre e1 k
theorem q_pre {X : List Int32} {B : c_B} {xs : List Value} {F : List c_F} {M : Nat} {md : c_M} {m pc pc1 i : Nat} {L L1 K K1 : c_Ls} {st st1 t t1 : List Value} {h h1 H H1 : c_Hp} {u : c_Cell} {r : c_O × c_Hp} (hx : xs.map (s_v B) = X.map Value.int) (hF : ∀ f ∈ F, c_hold B f) (e : c_pre (F, xs) M md m pc L st h = some (pc1, L1, st1, h1)) (hp : c_nth h i = some none) (hK : s_L B L = K) (hK1 : s_L B L1 = K1) (ht : s_st B st = t) (ht1 : s_st B st1 = t1) (hH : s_h B h = H) (hH1 : s_h B h1 = H1) (k : c_T X md pc1 K1 t1 (H1.set i u) r) : c_T X md pc K t (H.set i u) r := by
  subst hK hK1 ht ht1 hH hH1
  have e1 := c_pre_s (F := []) (E := (F, xs)) hF e
  rw [q_E hx] at e1
  have e2 := (c_pre_p (s_nth_none hp) e1).2 u
  exact c_Run.pre e2 k
/-- .. two cells unlooked at, garbage from cell n on -/
theorem q_preg {X : List Int32} {B : c_B} {xs : List Value} {F : List c_F} {M : Nat} {md : c_M} {m pc pc1 i j n : Nat} {L L1 K K1 : c_Ls} {st st1 t t1 : List Value} {h h1 H H1 G : c_Hp} {u w : c_Cell} {r : c_O × c_Hp} (hx : xs.map (s_v B) = X.map Value.int) (hF : ∀ f ∈ F, c_hold B f) (e : c_pre (F, xs) M md m pc L st h = some (pc1, L1, st1, h1)) (hn : n ≤ h.length) (hi : i < n) (hj : j < n) (hij : i ≠ j) (hp : c_nth h i = some none) (hq : c_nth h j = some none) (hK : s_L B (g_L n G.length L) = K) (hK1 : s_L B (g_L n G.length L1) = K1) (ht : s_st B (g_st n G.length st) = t) (ht1 : s_st B (g_st n G.length st1) = t1) (hH : s_h B (g_h n G h) = H) (hH1 : s_h B (g_h n G h1) = H1) (k : c_T X md pc1 K1 t1 ((H1.set i u).set j w) r) : c_T X md pc K t ((H.set i u).set j w) r := by
  subst hK hK1 ht ht1 hH hH1
  have e0 := c_pre_g (G := G) hn e
  have e1 := c_pre_s (F := []) (E := (F, xs)) hF e0
  rw [q_E hx] at e1
  have e2 := (c_pre_p (s_nth_none (g_nth_none hi hp)) e1).2 u
  have h2 : c_nth ((s_h B (g_h n G h)).set i u) j = some none := by
    have h3 := s_nth_none (B := B) (g_nth_none (G := G) hj hq)
    rw [c_nth_eq] at h3 ⊢
    rw [List.getElem?_set_ne hij]
    exact h3
  have e3 := (c_pre_p h2 e2).2 w
  exact c_Run.pre e3 k
theorem c_callee_p {md : c_M} {pc k n : Nat} {L2 : c_Ls} {st rest : List Value} {t : c_Hp} {u : c_Cell} (hh : c_nth t n = some none) (e : c_callee md pc st t = some (k, L2, rest)) : c_callee md pc st (t.set n u) = some (k, L2, rest) := by
  unfold c_callee at e ⊢
  split at e
  · rename_i q hq
    try simp only [hq]
    split at e
    · rename_i hk
      try simp only [hk]
      split at e
      · rename_i mz hmz
        try simp only [hmz]
        split at e
        · rename_i ar har
          cases e
          rw [pd_prt hh har u]
        · cases e
      · cases e
    · cases e
  · cases e
/-- an int handed back -/
theorem r_iret {X : List Int32} {md : c_M} {pc p1 p2 p3 : Nat} {L : c_Ls} {z : Int32} {h : c_Hp} (hi : c_at pc (c_mi md) = some (.ireturn, p1, p2, p3)) (hr : c_mr md = some .int) : c_T X md pc L [.int z] h (.inl (some (.int z)), h) := by
  refine ⟨1, ?_⟩
  rw [c_go_s, hi]
  show c_ret 1 md [.int z] h = _
  unfold c_ret c_rtn
  rw [hr]
  have e : narrow .int (.int z) = .int z := rfl
  simp only [e, if_true]
