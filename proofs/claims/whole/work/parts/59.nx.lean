theorem ki_X0 : ∀ w ∈ u_ws RX0 TX0 4, w ∈ lw_tbl := by decide +kernel
theorem ki_X1 : ∀ w ∈ u_ws RX1 TX1 10, w ∈ lw_tbl := by decide +kernel
theorem ki_X2 : ∀ w ∈ u_ws RX2 TX2 6, w ∈ lw_tbl := by decide +kernel
theorem ki_X3 : ∀ w ∈ u_ws RX3 TX3 8, w ∈ lw_tbl := by decide +kernel
theorem ki_X4 : ∀ w ∈ u_ws RX4 TX4 6, w ∈ lw_tbl := by decide +kernel
theorem ki_X5 : ∀ w ∈ u_ws RX5 TX5 25, w ∈ lw_tbl := by decide +kernel
theorem gz_newl {p : Program} {l : Launch} {e : Env} {R : Room} {s : State} {m : MethodId} {args : Array Value} {below : List Frame} {meth : Method} {c : Code} {H : Heap} {locs : List Loc} {cells slots : Nat} {Q : State → Prop} {pc : Nat} {ls : Array Slot} {rest : List Value} {cc : ByteArray} (hexec : p.tables.exec = Jvm.exec) (hb : c.code = cc) (harr : (Cond.arrayClass .long).before args s = true) {G : va_G} {cl : List vw_C} {ws : va_W} {A : Nat → Prop} {H0 : Heap} {cI cL : ClassId} (hK : va_K G cl [(cI, .int), (cL, .long)] s) (hP : va_P G cl ws H) (hD : va_D A ws) (hS : va_S A H0 H locs) (hA : ∀ q, H0.size ≤ q → A q)
    (hcells : cells + 1 ≤ R.cells) (hslots : slots + 1 ≤ R.slots) (hdg : decode cc pc = .ok (.newarray .long, 2))
    (kk : ∀ (q : Nat) (H1 : Heap), va_P G cl (ws ++ [(q, .inl (cL, 1, .inr (.inl (fun _ => 0))))]) H1 → va_D A (ws ++ [(q, .inl (cL, 1, .inr (.inl (fun _ => 0))))]) → va_S A H0 H1 locs →
      W p l e R s m args below meth c H1 locs (cells + 1) (slots + 1) Q (F0 m (pc + 2) ls (.ref q :: rest))) : W p l e R s m args below meth c H locs cells slots Q (F0 m pc ls (.int (nI 1) :: rest)) := by
  have h8 : componentBytes .long = 8 := rfl
  refine va_newa (atype := .long) (ty := .long) (N' := 1) (a0 := (1, .inr (.inl (fun _ => 0)))) hexec hb harr rfl hK hP hD hS hA (fun cA => rfl) (nI_pos (by omega)) (nI_clamp (by omega)) (by rw [h8]; omega) hcells hslots hdg (fun q cA H1 hK1 h1 h2 h3 => ?_)
  have e1 : s.vm.findClass ("[" ++ FieldType.long.toString) = some cL := (hK.2 1 _ rfl).2
  have e2 : s.vm.findClass ("[" ++ FieldType.long.toString) = some cA := (hK1.2 2 _ rfl).2
  have e3 : cA = cL := Option.some.inj (e2.symm.trans e1)
  subst e3
  exact kk q H1 h1 h2 h3
theorem fmf_00 : fmf 0 0 = fun _ => 0 := by
  funext j
  unfold fmf
  rw [nI_0]
  by_cases h : j = 0
  · rw [if_pos h]
  · by_cases h1 : j = 1
    · rw [if_neg h, if_pos h1]
    · rw [if_neg h, if_neg h1]
theorem nx_nest_in : ∀ w ∈ nx_nest, w ∈ lw_tbl := by decide +kernel
theorem nx_cast_in : ∀ w ∈ nx_cast, w ∈ lw_tbl := by decide +kernel
theorem nx_str_in : ∀ q ∈ nx_str, (Cond.stringRef RX4 q.1 q.2) ∈ lw_tbl := by decide +kernel
theorem nx_exa_in : ∀ q ∈ nx_str, (Cond.exactly (.string RX4 q.1) "java/lang/String") ∈ flatC (Jvm.Cond.and given_1 narrow_1) := by decide +kernel
theorem nx_f1 : (Cond.not (.castable "java/lang/IllegalArgumentException" "java/lang/IndexOutOfBoundsException")) ∈ flatC (Jvm.Cond.and given_1 narrow_1) := by decide +kernel
theorem nx_f2 : (Cond.not (.castable "java/lang/IllegalStateException" "java/lang/IndexOutOfBoundsException")) ∈ flatC (Jvm.Cond.and given_1 narrow_1) := by decide +kernel
theorem nx_f3 : (Cond.not (.castable "java/lang/IllegalStateException" "java/lang/IllegalArgumentException")) ∈ flatC (Jvm.Cond.and given_1 narrow_1) := by decide +kernel
theorem nx_f4 : (Cond.isRef (.static Bundle.tN "UNASSIGNED_STACK" Bundle.steD)) ∈ flatC (Jvm.Cond.and given_1 narrow_1) := by decide +kernel
theorem nx_f5 : (Cond.isRef (.static Bundle.tN "SUPPRESSED_SENTINEL" Bundle.listD)) ∈ flatC (Jvm.Cond.and given_1 narrow_1) := by decide +kernel
theorem nx_start {s : State} {b : Nat} (hts : ∀ w ∈ lw_tbl, w.before #[Value.ref b] s = true) (hgv : (Jvm.Cond.and given_1 narrow_1).before #[Value.ref b] s = true) : NX (fun q : Nat => s.heap.size ≤ q) s s.heap ∧ NC s := by
  have hs := flat_of_before _ hgv
  refine ⟨⟨fun w hw => va_Nw.of (nx_ot hw) (hts w (nx_nest_in w hw)), fun q hq => ?_, fun w hw => va_Nw.of (nx_oc hw) (hts w (nx_cast_in w hw)), ?_, ?_⟩, va_Nc.of (hs _ nx_f1), va_Nc.of (hs _ nx_f2), va_Nc.of (hs _ nx_f3)⟩
  · obtain ⟨a, -, -, -, ha, -⟩ := Cond.exactly_spec (hs _ (nx_exa_in q hq))
    exact ⟨a, vk_R.of (hts _ (nx_str_in q hq)) ha⟩
  · exact vx_Zqof (hts (.laysStatic Bundle.tN "UNASSIGNED_STACK" Bundle.steD) (by decide +kernel)) (hts (.initialized Bundle.tN) (by decide +kernel)) (hs (.isRef (.static Bundle.tN "UNASSIGNED_STACK" Bundle.steD)) nx_f4) (fun a h => Nat.not_le.mpr h)
  · exact vx_Zqof (hts (.laysStatic Bundle.tN "SUPPRESSED_SENTINEL" Bundle.listD) (by decide +kernel)) (hts (.initialized Bundle.tN) (by decide +kernel)) (hs (.isRef (.static Bundle.tN "SUPPRESSED_SENTINEL" Bundle.listD)) nx_f5) (fun a h => Nat.not_le.mpr h)
