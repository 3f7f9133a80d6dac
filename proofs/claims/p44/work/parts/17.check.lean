set_option maxRecDepth 100000 in
theorem u27 : (match (vx_atS "BoxballHall" 143 (c_exn 3).1 (c_exn 3).2)[27]? with | some w => decide (w ∈ lw_tbl) && (goodWord w || c_ng w) | none => true) = true := by decide +kernel
theorem v27 : (vx_atS "BoxballHall" 143 (c_exn 3).1 (c_exn 3).2)[27]? = some (.instanceMethod ⟨"java/util/NoSuchElementException", "<init>", "(Ljava/lang/String;)V"⟩) := by decide +kernel
theorem v28 : (Cond.instanceMethod ⟨"java/util/NoSuchElementException", "<init>", "(Ljava/lang/String;)V"⟩) ∈ lw_tbl := by decide +kernel
