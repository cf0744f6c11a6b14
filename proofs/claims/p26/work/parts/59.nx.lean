theorem ki_X0 : ∀ w ∈ u_ws RX0 TX0 4, w ∈ lw_tbl := by decide +kernel
theorem ki_X1 : ∀ w ∈ u_ws RX1 TX1 10, w ∈ lw_tbl := by decide +kernel
theorem ki_X2 : ∀ w ∈ u_ws RX2 TX2 6, w ∈ lw_tbl := by decide +kernel
theorem ki_X3 : ∀ w ∈ u_ws RX3 TX3 8, w ∈ lw_tbl := by decide +kernel
theorem ki_X4 : ∀ w ∈ u_ws RX4 TX4 6, w ∈ lw_tbl := by decide +kernel
theorem nx_nest_in : ∀ w ∈ nx_nest, w ∈ lw_tbl := by decide +kernel
theorem nx_cast_in : ∀ w ∈ nx_cast, w ∈ lw_tbl := by decide +kernel
theorem nx_str_in : ∀ q ∈ nx_str, (Cond.stringRef RX4 q.1 q.2) ∈ lw_tbl := by decide +kernel
theorem nx_exa_in : ∀ q ∈ nx_str, (Cond.exactly (.string RX4 q.1) "java/lang/String") ∈ flatC (Jvm.Cond.and given_1 narrow_1) := by decide +kernel
theorem nx_f4 : (Cond.isRef (.static Bundle.tN "UNASSIGNED_STACK" Bundle.steD)) ∈ flatC (Jvm.Cond.and given_1 narrow_1) := by decide +kernel
theorem nx_f5 : (Cond.isRef (.static Bundle.tN "SUPPRESSED_SENTINEL" Bundle.listD)) ∈ flatC (Jvm.Cond.and given_1 narrow_1) := by decide +kernel
theorem nx_start {s : State} {b : Nat} (hts : ∀ w ∈ lw_tbl, w.before #[Value.ref b] s = true) (hgv : (Jvm.Cond.and given_1 narrow_1).before #[Value.ref b] s = true) : NX (fun q : Nat => s.heap.size ≤ q) s s.heap := by
  have hs := flat_of_before _ hgv
  refine ⟨fun w hw => va_Nw.of (nx_ot hw) (hts w (nx_nest_in w hw)), fun q hq => ?_, fun w hw => va_Nw.of (nx_oc hw) (hts w (nx_cast_in w hw)), ?_, ?_⟩
  · obtain ⟨a, -, -, -, ha, -⟩ := Cond.exactly_spec (hs _ (nx_exa_in q hq))
    exact ⟨a, vk_R.of (hts _ (nx_str_in q hq)) ha⟩
  · exact vx_Zqof (hts (.laysStatic Bundle.tN "UNASSIGNED_STACK" Bundle.steD) (by decide +kernel)) (hts (.initialized Bundle.tN) (by decide +kernel)) (hs (.isRef (.static Bundle.tN "UNASSIGNED_STACK" Bundle.steD)) nx_f4) (fun a h => Nat.not_le.mpr h)
  · exact vx_Zqof (hts (.laysStatic Bundle.tN "SUPPRESSED_SENTINEL" Bundle.listD) (by decide +kernel)) (hts (.initialized Bundle.tN) (by decide +kernel)) (hs (.isRef (.static Bundle.tN "SUPPRESSED_SENTINEL" Bundle.listD)) nx_f5) (fun a h => Nat.not_le.mpr h)
