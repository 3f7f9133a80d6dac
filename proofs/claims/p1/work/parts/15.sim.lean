section SimAll
variable {l : Launch} {D : va_G} {A : Nat → ClassId} {H0 : Heap} {base : Nat} {B : c_B} {X : List Int32} {E : c_E}
theorem c_catch_row {md : c_M} {pc E : Nat} {w : Nat × Nat × Nat} (h : c_okH md (pc, E, w) = true) :
    ∃ x : ExceptionTableEntry, (tableOf (c_mh md))[w.1]? = some x ∧ (∀ z ∈ (tableOf (c_mh md)).take w.1, covers z pc = false ∨ (z.catchType ≠ 0 ∧ ∃ v ∈ c_NC, v.1 = (c_exn E).1 ∧ Cond.classLink (c_my md).cls z.catchType v.2 ∈ lw_tbl ∧ goodWord (Cond.classLink (c_my md).cls z.catchType v.2) = true)) ∧
      covers x pc = true ∧ x.catchType ≠ 0 ∧ (Cond.classLink (c_my md).cls x.catchType (c_exn E).1 ∈ lw_tbl ∧ goodWord (Cond.classLink (c_my md).cls x.catchType (c_exn E).1) = true) ∧ Cond.castable (c_exn E).1 (c_exn E).1 ∈ lw_tbl ∧ x.handlerPc = ((c_mh md).getD w.1 (0, 0, 0, 0)).2.2.1 ∧ w.2.1 < c_mL md ∧
      ((w.2.2 = 1 ∧ ∃ n : Fin 4, decode (c_mc md) x.handlerPc = .ok (.astore_n n, 1) ∧ n.val = w.2.1) ∨ (w.2.2 = 2 ∧ decode (c_mc md) x.handlerPc = .ok (.astore w.2.1, 2))) := by
  unfold c_okH at h
  simp only at h
  split at h
  · cases h
  · rename_i x hx
    simp only [Bool.and_eq_true, decide_eq_true_eq] at h
    obtain ⟨⟨⟨⟨⟨⟨⟨⟨k1, k2⟩, k3⟩, k4⟩, k5⟩, k6⟩, k7⟩, k8⟩, k9⟩ := h
    refine ⟨x, hx, fun z hz => ?_, by simpa [covers] using k2, k3, ⟨k4, k5⟩, k6, k7, k8, ?_⟩
    · have h1 := List.all_eq_true.mp k1 z hz
      simp only [Bool.or_eq_true, Bool.and_eq_true, decide_eq_true_eq, Bool.not_eq_true'] at h1
      rcases h1 with h1 | ⟨h1, h2⟩
      · exact Or.inl h1
      · obtain ⟨v, hv, h3⟩ := List.any_eq_true.mp h2
        simp only [Bool.and_eq_true, decide_eq_true_eq] at h3
        exact Or.inr ⟨h1, v, hv, h3.1.1, h3.1.2, h3.2⟩
    · split at k9
      · rename_i h1
        split at k9
        · rename_i n hn
          exact Or.inl ⟨h1, n, hn, of_decide_eq_true k9⟩
        · cases k9
      · simp only [Bool.and_eq_true, decide_eq_true_eq] at k9
        exact Or.inr k9
theorem c_rtn_ok {md : c_M} {k pc : Nat} {st : List Value} {v : Option Value} (h : c_rtn md k st = some v) (hk : (k = 1 → decode (c_mc md) pc = .ok (.ireturn, 1)) ∧ (k = 2 → decode (c_mc md) pc = .ok (.return_, 1)) ∧ (k = 3 → decode (c_mc md) pc = .ok (.areturn, 1)) ∧ (k = 6 → decode (c_mc md) pc = .ok (.lreturn, 1)) ∧ (k = 7 → decode (c_mc md) pc = .ok (.dreturn, 1))) : st = v.toList ∧ c_rok md pc (v.map (c_v base B)) := by
  obtain ⟨d1, d2, d3, d6, d7⟩ := hk
  unfold c_rtn at h
  split at h
  · split at h
    · rename_i hr
      cases h
      exact ⟨rfl, Or.inr (Or.inl ⟨rfl, d2 rfl, hr⟩)⟩
    · cases h
  · rename_i v9
    split at h
    · rename_i t hr
      split at h
      · rename_i x
        split at h
        · rename_i hn
          cases h
          exact ⟨rfl, Or.inl ⟨x, t, rfl, d1 rfl, hr, hn⟩⟩
        · cases h
      · rename_i i
        split at h
        · rename_i hn
          cases h
          rw [Bool.and_eq_true, decide_eq_true_eq] at hn
          obtain ⟨n1, rfl⟩ := hn
          have n2 := Nat.le_of_ble_eq_true n1
          refine ⟨rfl, Or.inl ⟨B.2 i, .int, ?_, d1 rfl, hr, rfl⟩⟩
          show some (c_v base B (.retAddr i)) = _
          rw [c_v_r, if_neg (by omega)]
        · cases h
      · cases h
    · rename_i t hr
      split at h
      · rename_i hn
        cases h
        rw [Bool.and_eq_true] at hn
        obtain ⟨a, ha⟩ := c_rf_v (base := base) (B := B) hn.2
        refine ⟨rfl, Or.inr (Or.inr (Or.inl ⟨a, t, ?_, d3 rfl, hr, hn.1⟩))⟩
        show some (c_v base B v9) = _
        rw [ha]
      · cases h
    · rename_i t hr
      split at h
      · rename_i hn
        cases h
        rw [Bool.and_eq_true, decide_eq_true_eq] at hn
        obtain ⟨rfl, n2⟩ := hn
        obtain ⟨a, ha⟩ := c_lg_v (base := base) (B := B) n2
        refine ⟨rfl, Or.inr (Or.inr (Or.inr (Or.inl ⟨a, ?_, d6 rfl, hr⟩)))⟩
        show some (c_v base B v9) = _
        rw [ha]
      · cases h
    · rename_i t hr
      split at h
      · rename_i hn
        cases h
        rw [Bool.and_eq_true, decide_eq_true_eq] at hn
        obtain ⟨rfl, n2⟩ := hn
        obtain ⟨a, ha⟩ := c_db_v (base := base) (B := B) n2
        refine ⟨rfl, Or.inr (Or.inr (Or.inr (Or.inr ⟨a, ?_, d7 rfl, hr⟩)))⟩
        show some (c_v base B v9) = _
        rw [ha]
      · cases h
    · cases h
  · cases h
set_option maxHeartbeats 2000000 in
theorem c_sim {P : List (List c_M)} (hl : l.stackTraces = false) (hP : c_okP P) (hE : c_hE B X E) : ∀ n, c_Sim l D A H0 base B X E P n
  | 0 => by
    intro md pc L st h r hk hgo
    cases hgo
  | n + 1 => by
    have ih := c_sim hl hP hE n
    intro md pc L st h r hk hgo p e R s m args below meth c Q n0 z0 C htab hRet hThr hPrp hb1 hb2
    obtain ⟨l9, hk1, hk2⟩ := id hk
    obtain ⟨⟨ixs, ok⟩, -⟩ := hP l9 hk1 md hk2
    unfold c_okM at ok
    simp only [Bool.and_eq_true] at ok
    obtain ⟨⟨o1, o3⟩, o4⟩ := ok
    rw [c_go_s] at hgo
    unfold c_trq at hgo
    split at hgo
    · rename_i q hq
      obtain ⟨ix, hok⟩ := c_okL_at _ _ o4 (c_at_mem hq)
      unfold c_okQ at hok
      unfold c_trn at hgo
      split at hgo
      · -- a step
        rename_i hkd
        rw [hkd] at hok
        simp only at hok
        unfold c_nxt at hgo
        split at hgo
        · rename_i r1 hr1
          have hle := c_go_le _ _ _ _ _ _ _ hgo
          exact c_sim1 C (fun z => of_decide_eq_true z) hok hkd hr1 (Nat.le_trans hle.1 hb1) (Nat.le_trans hle.2 hb2) (ih md _ _ _ _ r hk hgo p e R s m args below meth c Q n0 z0 C htab hRet hThr hPrp hb1 hb2)
        · cases hgo
      · -- a call
        rename_i hkd
        rw [hkd] at hok
        simp only at hok
        unfold c_inv at hgo
        split at hgo
        · rename_i mz hmz
          rw [hmz] at hok
          simp only at hok
          have hiw : c_cw mz ∈ lw_tbl ∧ goodWord (c_cw mz) = true := by
            obtain ⟨l8, hm1, hm2⟩ := c_pm_mem hmz
            refine (hP l8 hm1 mz hm2).2 fun hn => ?_
            unfold c_okC at hok
            simp only [Bool.and_eq_true, Bool.not_eq_true', decide_eq_false_iff_not] at hok
            exact hok.1.2 hn
          unfold c_cll at hgo
          split at hgo
          · rename_i ar har
            have hent : (c_ent ar.1 (c_mL mz)).length = c_mL mz := by
              unfold c_prt at har
              simp only at har
              split at har
              · cases har
              · split at har
                · split at har
                  · split at har
                    · rename_i hz
                      cases har
                      exact hz
                    · cases har
                  · cases har
                · cases har
            -- what a call's own run gives
            have run : ∀ (r2 : c_O × c_Hp), c_go P E n mz 0 (c_ent ar.1 (c_mL mz)) [] h = some r2 → r2.2.length ≤ n0 + R.cells → c_msz r2.2 ≤ z0 + R.slots → ∀ (H : Heap) (locs : List Loc) (cells slots : Nat) (ls : Array Slot), c_HR D A H0 base B h H → (∀ z ∈ locs, base ≤ z.base) → c_LR base B ls (c_mL md) L → cells + n0 = h.length → slots + z0 = c_msz h →
                vx_Run p l e R s m args below meth c H locs cells slots (r2.2.length - h.length) (c_msz r2.2 - c_msz h) (F0 m pc ls (st.map (c_v base B))) (ar.2.map (c_v base B)) (c_Qc D A H0 base B r2 (ar.1.map (c_v base B)).toArray) (c_XC D A H0 base B r2) (fun q => base ≤ q) := by
              intro r2 hgo2 hq1 hq2 H locs cells slots ls hH hlo hL hc hs
              obtain ⟨hle1, hle2⟩ := c_go_le _ _ _ _ _ _ _ hgo2
              exact c_run C hok hiw har (c_met_of hl hP hE ih (c_pm_mem hmz) hent hgo2) hH hlo hL.2.1 (by omega) (by omega)
            unfold c_aft at hgo
            split at hgo
            · -- it returns
              rename_i v h1 hgo2
              have hle2 : c_le h h1 := c_go_le _ _ _ _ _ _ _ hgo2
              have hle := c_go_le _ _ _ _ _ _ _ hgo
              have kk := ih md (pc + 3) L (v.toList ++ ar.2) h1 r hk hgo p e R s m args below meth c Q n0 z0 C htab hRet hThr hPrp hb1 hb2
              intro H locs cells slots ls hH hL hlo hc hs T hT X9
              rcases run _ hgo2 (Nat.le_trans hle.1 hb1) (Nat.le_trans hle.2 hb2) H locs cells slots ls hH hlo hL hc hs T hT X9 with ⟨v9, st₀, t, T', L9, -, X', hL9, e1, -, ⟨v8, hv8, hv9, hHr⟩, stp⟩ | ⟨q9, st₀, t, T', L9, E0, ce, -, X', hL9, e1, -, ⟨k9, hk9, -⟩, -⟩
              · cases hv8
                cases hv9
                have hlo2 : ∀ z ∈ locs ++ L9, base ≤ z.base := fun z hz => (List.mem_append.mp hz).elim (hlo z) (hL9 z)
                have e8 : ((v.toList ++ ar.2).map (c_v base B)) = (v.map (c_v base B)).toList ++ ar.2.map (c_v base B) := by cases v <;> simp
                have kk2 := kk T'.heap (locs ++ L9) (cells + (h1.length - h.length)) (slots + (c_msz h1 - c_msz h)) ls (by rw [e1]; exact hHr) hL hlo2 (by have := hle2.1; omega) (by have := hle2.2; omega)
                rw [e8] at kk2
                obtain ⟨t2, a1, b1⟩ := kk2 T' rfl X'
                exact ⟨t2, stp t2 a1, b1⟩
              · cases hk9
            · -- it throws
              rename_i E9 h1 hgo2
              have hle2 : c_le h h1 := c_go_le _ _ _ _ _ _ _ hgo2
              unfold c_catch at hgo
              split at hgo
              · -- caught
                rename_i w hw
                have hle := c_go_le _ _ _ _ _ _ _ hgo
                have hmem := c_cat_mem _ hw
                have htab2 : c.exceptionTable.toList = tableOf (c_mh md) := by
                  rcases htab with h9 | h9
                  · rw [h9] at hmem; cases hmem
                  · exact h9
                obtain ⟨x, x1, x2, x3, x4, x5, x6, x7, x8, x9⟩ := c_catch_row (List.all_eq_true.mp o3 _ hmem)
                have kk := ih md _ _ [] h1 r hk hgo p e R s m args below meth c Q n0 z0 C htab hRet hThr hPrp hb1 hb2
                intro H locs cells slots ls hH hL hlo hc hs T hT X9
                rcases run _ hgo2 (Nat.le_trans hle.1 hb1) (Nat.le_trans hle.2 hb2) H locs cells slots ls hH hlo hL hc hs T hT X9 with ⟨v9, st₀, t, T', L9, -, X', hL9, e1, -, ⟨v8, hv8, -⟩, -⟩ | ⟨q9, st₀, t, T', L9, E0, ce, -, X', hL9, e1, -, ⟨k9, hk9, hE0, hHr⟩, hce, hcv, hcl, stp⟩
                · cases hv8
                · cases hk9
                  subst hE0
                  have hlo2 : ∀ z ∈ locs ++ L9, base ≤ z.base := fun z hz => (List.mem_append.mp hz).elim (hlo z) (hL9 z)
                  obtain ⟨hx, hb, hml, hown, hts, ⟨hK, hA, hng, -, hNC, -⟩, -⟩ := C
                  have hsplit : c.exceptionTable.toList = (tableOf (c_mh md)).take w.1 ++ x :: (tableOf (c_mh md)).drop (w.1 + 1) := by
                    rw [htab2]
                    have h9 := (List.getElem?_eq_some_iff.mp x1)
                    rw [← h9.2, List.getElem_cons_drop, List.take_append_drop]
                  have cw9 : vx_W p l e R s m args below meth c T'.heap (locs ++ L9) (cells + (h1.length - h.length)) (slots + (c_msz h1 - c_msz h)) Q (F0 m pc ls (ar.2.map (c_v base B))) q9 := by
                    refine vx_catch hown _ x _ hsplit (fun z hz => ?_) x3 x4 (hts _ x5.1 x5.2) (va_Nw.use rfl (hng _ x6 rfl)) (by rw [e1]; exact hce) hcv hcl ?_
                    · rcases x2 z hz with h9 | ⟨h9, v, hv, hv1, hv2, hv3⟩
                      · exact Or.inl h9
                      · have h8 := hNC v hv
                        rw [hv1] at h8
                        exact Or.inr ⟨h9, v.2, hts _ hv2 hv3, h8⟩
                    · have fin : ∀ (ls1 : Array Slot), lv_has ls1 (c_mL md) ((w.2.1, Value.ref q9) :: (c_al base B L).filter (fun q => !(q.1 == w.2.1) && !(q.1 + 1 == w.2.1 && q.2.category == 2))) → W p l e R s m args below meth c T'.heap (locs ++ L9) (cells + (h1.length - h.length)) (slots + (c_msz h1 - c_msz h)) Q (F0 m (x.handlerPc + w.2.2) ls1 []) := by
                        intro ls1 h9
                        have k8 := kk T'.heap (locs ++ L9) (cells + (h1.length - h.length)) (slots + (c_msz h1 - c_msz h)) ls1 (by rw [e1]; exact hHr) (hL.lost rfl h9) hlo2 (by have := hle2.1; omega) (by have := hle2.2; omega)
                        rw [← x7] at k8
                        exact k8
                      rcases x9 with ⟨y1, nn, y2, y3⟩ | ⟨y1, y2⟩
                      · refine lv_astore_n hx hb y2 y3 hL.has x8 rfl fun ls1 h9 => ?_
                        have := fin ls1 h9
                        rw [y1] at this
                        exact this
                      · refine lv_astore hx hb y2 hL.has x8 rfl fun ls1 h9 => ?_
                        have := fin ls1 h9
                        rw [y1] at this
                        exact this
                  obtain ⟨t2, a1, b1⟩ := cw9 T' rfl X'
                  exact ⟨t2, stp.trans a1, b1⟩
              · -- it goes by
                split at hgo
                · rename_i he
                  cases hgo
                  intro H locs cells slots ls hH hL hlo hc hs T hT X9
                  rcases run _ hgo2 hb1 hb2 H locs cells slots ls hH hlo hL hc hs T hT X9 with ⟨v9, st₀, t, T', L9, -, X', hL9, e1, -, ⟨v8, hv8, -⟩, -⟩ | ⟨q9, st₀, t, T', L9, E0, ce, -, X', hL9, e1, -, ⟨k9, hk9, hE0, hHr⟩, hce, hcv, hcl, stp⟩
                  · cases hv8
                  · cases hk9
                    subst hE0
                    have hlo2 : ∀ z ∈ locs ++ L9, base ≤ z.base := fun z hz => (List.mem_append.mp hz).elim (hlo z) (hL9 z)
                    obtain ⟨t2, a1, b1⟩ := hPrp _ rfl he pc T'.heap (locs ++ L9) (cells + (h1.length - h.length)) (slots + (c_msz h1 - c_msz h)) ls (ar.2.map (c_v base B)) q9 ce (by rw [e1]; exact hHr) hlo2 (by show _ = h1.length; have := hle2.1; omega) (by show _ = c_msz h1; have := hle2.2; omega) (by rw [e1]; exact hce) hcv hcl T' rfl X'
                    exact ⟨t2, stp.trans a1, b1⟩
                · cases hgo
            · cases hgo
          · cases hgo
        · cases hgo
      · -- a throw
        rename_i hkd
        rw [hkd] at hok
        simp only at hok
        unfold c_thr at hgo
        split at hgo
        · rename_i he
          rw [Bool.and_eq_true] at he
          cases hgo
          intro H locs cells slots ls hH hL hlo hc hs
          exact hThr _ h rfl he.1 pc H locs cells slots ls _ ⟨q, ix, rfl, hok⟩ hH hlo hc hs hL.2.1 (by rw [c_v_cats]; exact Nat.le_of_ble_eq_true he.2)
        · cases hgo
      · -- a return
        rename_i k0 hk0 hk4 hk5
        unfold c_ret at hgo
        split at hgo
        · rename_i v hv
          cases hgo
          obtain ⟨rfl, hrok⟩ := c_rtn_ok (base := base) (B := B) (pc := pc) hv ⟨fun z => by rw [z] at hok; simpa using hok, fun z => by rw [z] at hok; simpa using hok, fun z => by rw [z] at hok; simpa using hok, fun z => by rw [z] at hok; simpa using hok, fun z => by rw [z] at hok; simpa using hok⟩
          intro H locs cells slots ls hH hL hlo hc hs
          have e8 : v.toList.map (c_v base B) = (v.map (c_v base B)).toList := by cases v <;> rfl
          rw [e8]
          exact hRet _ rfl pc H locs cells slots ls hrok hH hlo hc hs
        · cases hgo
    · cases hgo
end SimAll
