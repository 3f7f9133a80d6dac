/-! The law's first loop: boxes and balls are set. -/
section Ms
variable {X : List Int32} {h : c_Hp} {Q : c_O × c_Hp → Prop}
theorem s83b (hX : X.length ≤ 260) {n : Nat} {rg : Int} {a5 a6 : Nat} (hn : 1 ≤ n ∧ n ≤ 24) (h5 : 58 ≤ a5) (h6 : a5 < a6) (K : ∀ (h1 : c_Hp) (cf bf hd rw : Nat → Int) (x8 : Option Value), m_St h1 n rg cf bf 0 (fun _ _ => 0) → m_bd h1 124 4144 → c_ar h1 a5 n hd → c_ar h1 a6 n rw → (∀ t, t < n → cf t = hd t ∧ bf t = rw t) → c_Ev X 83 281 [some (.retAddr 0), some (.ref 0), some (n_v ↑n), some (n_v rg), some (n_v 1), some (.ref a5), some (.ref a6), some (n_v ↑n), x8, none, none, none, none, none, none, none, none, none, none, none, none, none, none] [] h1 Q) :
  ∀ (m k : Nat) (h1 : c_Hp) (cf bf hd rw : Nat → Int) (x8 : Option Value), k + m = n → m_St h1 n rg cf bf 0 (fun _ _ => 0) → m_bd h1 (100 + k) (4000 + 6 * k) → c_ar h1 a5 n hd → c_ar h1 a6 n rw → (∀ t, t < n → (t < k → cf t = hd t ∧ bf t = rw t) ∧ (k ≤ t → cf t = 1 ∧ bf t = 0)) → c_Ev X 83 120 [some (.retAddr 0), some (.ref 0), some (n_v ↑n), some (n_v rg), some (n_v 1), some (.ref a5), some (.ref a6), some (n_v ↑k), x8, none, none, none, none, none, none, none, none, none, none, none, none, none, none] [] h1 Q
  | 0, k, h1, cf, bf, hd, rw, x8, e, hW, bd, ar5, ar6, hx => by
    refine e_st (pc := 120) q83_120 rfl rfl ?_
    refine e_st (pc := 122) q83_122 rfl rfl ?_
    refine e_cmp true (pc := 123) q83_123 ⟨by omega, by omega⟩ ⟨by omega, by omega⟩ (n_t_ge (by omega)) ?_
    have e2 : k = n := by omega
    subst e2
    exact K h1 cf bf hd rw x8 hW (bd.mono (by omega) (by omega)) ar5 ar6 (fun t ht => (hx t ht).1 ht)
  | m + 1, k, h0, cf, bf, hd, rw, x8, e, hW, bd, ar5, ar6, hx => by
    have hk := (hx k (by omega)).2 (Nat.le_refl k)
    refine e_st (pc := 120) q83_120 rfl rfl ?_
    refine e_st (pc := 122) q83_122 rfl rfl ?_
    refine e_cmp false (pc := 123) q83_123 ⟨by omega, by omega⟩ ⟨by omega, by omega⟩ (n_f_ge (by omega)) ?_
    refine e_st (pc := 126) q83_126 rfl rfl ?_
    refine e_st (pc := 128) q83_128 rfl rfl ?_
    refine e_st (pc := 130) q83_130 rfl rfl ?_
    refine e_cst (v := 2) (len := 1) (pc := 131) q83_131 rfl rfl rfl ?_
    refine e_cst (v := 3) (len := 1) (pc := 132) q83_132 rfl rfl rfl ?_
    refine e_callS (pc := 133) (mz := c_m78) (L0 := [some (.retAddr 0), some (n_v 2), some (n_v 3)]) (rest := [n_v ↑k, .ref a5]) q83_133 rfl rfl rfl rfl rfl rfl rfl rfl rfl ?_
    refine s78 (i := 2) (n := 3) hX (by omega) (by omega) (fun v0 hv0 => ?_)
    refine e_k (pc := 133) ?_
    suffices KK : ∀ val : Int, (1 ≤ val ∧ val ≤ 4) → c_Ev X 83 155 [some (.retAddr 0), some (.ref 0), some (n_v ↑n), some (n_v rg), some (n_v 1), some (.ref a5), some (.ref a6), some (n_v ↑k), x8, none, none, none, none, none, none, none, none, none, none, none, none, none, none] [n_v val, n_v ↑k, .ref a5] h0 Q from by
      by_cases hc : v0 = 0
      · refine e_if false (pc := 136) q83_136 ⟨by omega, by omega⟩ (n_f_ne (by omega)) ?_
        refine e_cst (v := 1) (len := 1) (pc := 139) q83_139 rfl rfl rfl ?_
        refine e_st (pc := 140) q83_140 rfl rfl ?_
        refine e_cst (v := 10) (len := 2) (pc := 141) q83_141 rfl rfl (by decide +kernel) ?_
        refine e_st (pc := 143) q83_143 rfl rfl ?_
        refine e_add (pc := 145) q83_145 ?_
        rw [show (10 : Int) + (k : Int) = ((10 + k : Nat) : Int) by omega]
        refine e_cst (v := 4) (len := 1) (pc := 146) q83_146 rfl rfl rfl ?_
        refine e_callS (pc := 147) (mz := c_m78) (L0 := [some (.retAddr 0), some (n_v ((10 + k : Nat) : Int)), some (n_v 4)]) (rest := [n_v 1, n_v ↑k, .ref a5]) q83_147 rfl rfl rfl rfl rfl rfl rfl rfl rfl ?_
        refine s78 (i := 10 + k) (n := 4) hX (by omega) (by omega) (fun v1 hv1 => ?_)
        refine e_k (pc := 147) ?_
        refine e_add (pc := 150) q83_150 ?_
        refine e_st (pc := 151) q83_151 rfl rfl ?_
        exact KK _ (by omega)
      · refine e_if true (pc := 136) q83_136 ⟨by omega, by omega⟩ (n_t_ne (by omega)) ?_
        refine e_cst (v := 1) (len := 1) (pc := 154) q83_154 rfl rfl rfl ?_
        exact KK 1 (by omega)
    intro val hval
    refine e_ast (pc := 155) (j := k) q83_155 ar5 (by omega) (by omega) (by omega) (fun h1 u1 => ?_)
    have ar6 := ar6.up u1 (by omega)
    have ar5 : c_ar h1 a5 n (fun t => if t = k then val else hd t) := u1.2.1
    have hW := hW.gw u1.gw (by simp; omega)
    have bd := bd.up u1
    refine e_st (pc := 156) q83_156 rfl rfl ?_
    refine e_cst (v := 40) (len := 2) (pc := 157) q83_157 rfl rfl (by decide +kernel) ?_
    refine e_st (pc := 159) q83_159 rfl rfl ?_
    refine e_add (pc := 161) q83_161 ?_
    rw [show (40 : Int) + (k : Int) = ((40 + k : Nat) : Int) by omega]
    refine e_cst (v := 4) (len := 1) (pc := 162) q83_162 rfl rfl rfl ?_
    refine e_callS (pc := 163) (mz := c_m78) (L0 := [some (.retAddr 0), some (n_v ((40 + k : Nat) : Int)), some (n_v 4)]) (rest := []) q83_163 rfl rfl rfl rfl rfl rfl rfl rfl rfl ?_
    refine s78 (i := 40 + k) (n := 4) hX (by omega) (by omega) (fun v2 hv2 => ?_)
    refine e_k (pc := 163) ?_
    refine e_st (pc := 166) (L2 := [some (.retAddr 0), some (.ref 0), some (n_v ↑n), some (n_v rg), some (n_v 1), some (.ref a5), some (.ref a6), some (n_v ↑k), some (n_v ↑v2), none, none, none, none, none, none, none, none, none, none, none, none, none, none]) q83_166 rfl rfl ?_
    refine e_st (pc := 168) q83_168 rfl rfl ?_
    refine e_st (pc := 170) q83_170 rfl rfl ?_
    refine e_st (pc := 172) q83_172 rfl rfl ?_
    refine e_st (pc := 174) q83_174 rfl rfl ?_
    refine e_st (pc := 176) q83_176 rfl rfl ?_
    refine e_aldv (pc := 178) (j := k) (v := val) q83_178 ar5 (by omega) (by omega) (by omega) (if_pos rfl) ?_
    suffices KK : ∀ x : Int, (0 ≤ x ∧ x ≤ 3) → c_Ev X 83 190 [some (.retAddr 0), some (.ref 0), some (n_v ↑n), some (n_v rg), some (n_v 1), some (.ref a5), some (.ref a6), some (n_v ↑k), some (n_v ↑v2), none, none, none, none, none, none, none, none, none, none, none, none, none, none] [n_v x, n_v ↑k, .ref a6] h1 Q from by
      by_cases hc : (v2 : Int) ≤ val
      · refine e_cmp true (pc := 179) q83_179 ⟨by omega, by omega⟩ ⟨by omega, by omega⟩ (n_t_le (by omega)) ?_
        refine e_st (pc := 186) q83_186 rfl rfl ?_
        refine e_cst (v := 3) (len := 1) (pc := 188) q83_188 rfl rfl rfl ?_
        refine e_rem (pc := 189) q83_189 ⟨by omega, by omega⟩ (by omega) (by omega) ⟨by omega, by omega⟩ ?_
        have ht := Int.tmod_eq_emod_of_nonneg (a := (v2 : Int)) (b := 3) (by omega)
        exact KK _ (by rw [ht]; omega)
      · refine e_cmp false (pc := 179) q83_179 ⟨by omega, by omega⟩ ⟨by omega, by omega⟩ (n_f_le (by omega)) ?_
        refine e_cst (v := 0) (len := 1) (pc := 182) q83_182 rfl rfl rfl ?_
        refine e_st (pc := 183) q83_183 rfl rfl ?_
        exact KK 0 (by omega)
    intro x hxx
    refine e_ast (pc := 190) (j := k) q83_190 ar6 (by omega) (by omega) (by omega) (fun h2 u2 => ?_)
    have ar5 := ar5.up u2 (by omega)
    have ar6 : c_ar h2 a6 n (fun t => if t = k then x else rw t) := u2.2.1
    have hW := hW.gw u2.gw (by simp; omega)
    have bd := bd.up u2
    refine e_st (pc := 191) q83_191 rfl rfl ?_
    refine e_st (pc := 193) q83_193 rfl rfl ?_
    refine e_st (pc := 195) q83_195 rfl rfl ?_
    refine e_st (pc := 197) q83_197 rfl rfl ?_
    refine e_aldv (pc := 199) (j := k) (v := x) q83_199 ar6 (by omega) (by omega) (by omega) (if_pos rfl) ?_
    refine e_st (pc := 200) q83_200 rfl rfl ?_
    refine e_st (pc := 202) q83_202 rfl rfl ?_
    refine e_aldv (pc := 204) (j := k) (v := val) q83_204 ar5 (by omega) (by omega) (by omega) (if_pos rfl) ?_
    suffices KK : ∀ y : Int, (0 ≤ y ∧ y ≤ val) → c_Ev X 83 217 [some (.retAddr 0), some (.ref 0), some (n_v ↑n), some (n_v rg), some (n_v 1), some (.ref a5), some (.ref a6), some (n_v ↑k), some (n_v ↑v2), none, none, none, none, none, none, none, none, none, none, none, none, none, none] [n_v y, n_v ↑k, .ref a6] h2 Q from by
      by_cases hc : x ≤ val
      · refine e_cmp true (pc := 205) q83_205 ⟨by omega, by omega⟩ ⟨by omega, by omega⟩ (n_t_le (by omega)) ?_
        refine e_st (pc := 212) q83_212 rfl rfl ?_
        refine e_st (pc := 214) q83_214 rfl rfl ?_
        refine e_aldv (pc := 216) (j := k) (v := x) q83_216 ar6 (by omega) (by omega) (by omega) (if_pos rfl) ?_
        exact KK x ⟨hxx.1, hc⟩
      · refine e_cmp false (pc := 205) q83_205 ⟨by omega, by omega⟩ ⟨by omega, by omega⟩ (n_f_le (by omega)) ?_
        refine e_cst (v := 0) (len := 1) (pc := 208) q83_208 rfl rfl rfl ?_
        refine e_st (pc := 209) q83_209 rfl rfl ?_
        exact KK 0 (by omega)
    intro y hyy
    refine e_ast (pc := 217) (j := k) q83_217 ar6 (by omega) (by omega) (by omega) (fun h3 u3 => ?_)
    have ar5 := ar5.up u3 (by omega)
    have ar6 : c_ar h3 a6 n (fun t => if t = k then y else (fun t => if t = k then x else rw t) t) := u3.2.1
    have hW := hW.gw u3.gw (by simp; omega)
    have bd := bd.up u3
    refine e_st (pc := 218) q83_218 rfl rfl ?_
    refine e_st (pc := 220) q83_220 rfl rfl ?_
    refine e_st (pc := 221) q83_221 rfl rfl ?_
    refine e_st (pc := 223) q83_223 rfl rfl ?_
    refine e_st (pc := 225) q83_225 rfl rfl ?_
    refine e_aldv (pc := 227) (j := k) (v := val) q83_227 ar5 (by omega) (by omega) (by omega) (if_pos rfl) ?_
    refine e_callS (pc := 228) (mz := c_m70) (L0 := [some (.ref 0), some (n_v ↑k), some (n_v val), none]) (rest := [n_v 1]) q83_228 rfl rfl rfl rfl rfl rfl rfl rfl rfl ?_
    refine s70 hW (by omega) hval (fun h4 x4 hW => ?_)
    refine e_k (pc := 228) ?_
    have ar5 := ar5.xt x4 (by simp <;> omega)
    have ar6 := ar6.xt x4 (by simp <;> omega)
    have bd := bd.xt x4
    rw [hk.1]
    refine e_cst (v := 1) (len := 1) (pc := 231) q83_231 rfl rfl rfl ?_
    refine e_cmp false (pc := 232) q83_232 ⟨by omega, by omega⟩ ⟨by omega, by omega⟩ (n_f_ne (by omega)) ?_
    refine e_st (pc := 235) q83_235 rfl rfl ?_
    refine e_st (pc := 236) q83_236 rfl rfl ?_
    refine e_st (pc := 238) q83_238 rfl rfl ?_
    refine e_st (pc := 240) q83_240 rfl rfl ?_
    refine e_aldv (pc := 242) (j := k) (v := y) q83_242 ar6 (by omega) (by omega) (by omega) (if_pos rfl) ?_
    refine e_callS (pc := 243) (mz := c_m71) (L0 := [some (.ref 0), some (n_v ↑k), some (n_v y), none]) (rest := [n_v 1]) q83_243 rfl rfl rfl rfl rfl rfl rfl rfl rfl ?_
    refine s71 hW (by omega) (by omega) (fun _ g5 x5 hW => ?_) (fun g => absurd (by rw [if_pos rfl]; exact hyy.2) g)
    refine e_k (pc := 243) ?_
    have ar5 := ar5.xt x5 (by simp <;> omega)
    have ar6 := ar6.xt x5 (by simp <;> omega)
    have bd := bd.xt x5
    rw [if_pos rfl, hk.2, show min (0 : Int) val = 0 by omega]
    refine e_if false (pc := 246) q83_246 ⟨by omega, by omega⟩ (n_f_ne (by omega)) ?_
    refine e_st (pc := 249) q83_249 rfl rfl ?_
    refine e_st (pc := 250) q83_250 rfl rfl ?_
    refine e_st (pc := 252) q83_252 rfl rfl ?_
    refine e_st (pc := 254) q83_254 rfl rfl ?_
    refine e_aldv (pc := 256) (j := k) (v := val) q83_256 ar5 (by omega) (by omega) (by omega) (if_pos rfl) ?_
    refine e_cst (v := 1) (len := 1) (pc := 257) q83_257 rfl rfl rfl ?_
    refine e_add (pc := 258) q83_258 ?_
    refine e_callS (pc := 259) (mz := c_m71) (L0 := [some (.ref 0), some (n_v ↑k), some (n_v (val + 1)), none]) (rest := [n_v 1]) q83_259 rfl rfl rfl rfl rfl rfl rfl rfl rfl ?_
    refine s71 hW (by omega) (by omega) (fun g => absurd g (by rw [if_pos rfl]; omega)) (fun _ g6 x6 hW => ?_)
    refine e_k (pc := 259) ?_
    have ar5 := ar5.xt x6 (by simp <;> omega)
    have ar6 := ar6.xt x6 (by simp <;> omega)
    have bd := bd.xt x6
    refine e_cst (v := -900002) (len := 2) (pc := 262) q83_262 rfl rfl (by decide +kernel) ?_
    refine e_cmp false (pc := 264) q83_264 ⟨by omega, by omega⟩ ⟨by omega, by omega⟩ (n_f_ne (by omega)) ?_
    refine e_cst (v := 1) (len := 1) (pc := 267) q83_267 rfl rfl rfl ?_
    refine e_st (pc := 268) q83_268 rfl rfl ?_
    refine e_and1 (pc := 272) q83_272 ?_
    refine e_st (pc := 273) (L2 := [some (.retAddr 0), some (.ref 0), some (n_v ↑n), some (n_v rg), some (n_v 1), some (.ref a5), some (.ref a6), some (n_v ↑k), some (n_v ↑v2), none, none, none, none, none, none, none, none, none, none, none, none, none, none]) q83_273 rfl rfl ?_
    refine e_inc (pc := 275) (L2 := [some (.retAddr 0), some (.ref 0), some (n_v ↑n), some (n_v rg), some (n_v 1), some (.ref a5), some (.ref a6), some (n_v (↑k + 1)), some (n_v ↑v2), none, none, none, none, none, none, none, none, none, none, none, none, none, none]) q83_275 rfl rfl ?_
    refine e_st (pc := 278) q83_278 rfl rfl ?_
    refine s83b hX hn h5 h6 K m (k + 1) g6 _ _ _ _ _ (by omega) hW (bd.mono (by omega) (by omega)) ar5 ar6 (fun t ht => ?_)
    by_cases e2 : t = k
    · simp only [if_pos e2]
      exact ⟨fun _ => ⟨trivial, trivial⟩, fun e3 => by omega⟩
    · simp only [if_neg e2]
      have h9 := hx t ht
      exact ⟨fun e3 => h9.1 (by omega), fun e3 => h9.2 (by omega)⟩
end Ms
