theorem fm_x {k : Nat} (hk : k ≤ 80) : 0 ≤ nI k ^^^ nI 40 := by
  have h : ∀ j : Fin 81, 0 ≤ nI j.1 ^^^ nI 40 := by decide +kernel
  exact h ⟨k, by omega⟩
/-- a contract by a walk, for a method that no entry runs instead, whatever its class -/
theorem fm_ofW {l : Launch} {y : MethodName} {ws wt : List Cond} {rm : Room} {Pc : Array Value → State → Prop} {Qc : Array Value → State → Outcome → State → Prop} {mc ms : Nat} {free : Addr → Prop} {cc : ByteArray} {maxL : Nat} {ret : Option FieldType}
    (hy : plainFor y = true) (hw : ws = Cond.code y cc maxL ret :: wt)
    (walk : ∀ p e s m args below meth c t, BodyLoose p l y (headSpec ws rm) cc maxL ret e s m args below meth c t → c.maxLocals = maxL → Pc args s → W p l e (headSpec ws rm).room s m args below meth c s.heap [] 0 0 (MQ below Qc args s mc ms free) (entryFrame m args maxL)) : Met l y ws rm Pc Qc mc ms free := by
  have hcode : ∀ args (s : State) m, (headSpec ws rm).pre.before args s = true → s.methodNamed? y = some m → ∃ meth c, s.vm.method? m = some meth ∧ meth.code = some c ∧ c.code = cc ∧ c.maxLocals = maxL ∧ meth.sig.returnType = ret ∧ meth.locks = false := fun args s m h hn => by
    have h1 := atoms_spec (ws := ws) h (Cond.code y cc maxL ret) (by rw [hw]; exact List.mem_cons_self)
    obtain ⟨meth, c, z1, z2, z3, z4, z5, z6, _⟩ := Cond.code_spec hn h1
    exact ⟨meth, c, z1, z2, z3, z4, z5, z6⟩
  refine MetFree.of_bodySF hy hcode (fun p e s m args below meth c t B hl hP _ => ?_)
  have hh : t.heap = s.heap := by rw [B.state]; rfl
  obtain ⟨u, g, o, k1, k2, k3, k4⟩ := walk p e s m args below meth c t B hl hP t hh (Stand.of_body B)
  exact ⟨u, o, g, k1, k2, k3, k4⟩

theorem hk_X0_has_f21 : (.fieldLink RX0 21 "Callgate$Book" "size" "I" : Cond) ∈ wsX0_has := by decide +kernel
theorem hi_X0_has_X0 : ∀ w ∈ u_ws RX0 TX0 4, w ∈ wsX0_has := by decide +kernel
set_option maxHeartbeats 4000000 in
set_option maxRecDepth 100000 in
theorem c_X0_has (l : Launch) (G : va_G) (cI : ClassId) (b : Nat → Nat) (me : Fn) (ar : Fn) (dl : Fn) (n : Nat) (x : Int32) (hn : n ≤ 40) (zz : Nat) : Met l yX0_has wsX0_has ({ frames := 0, cells := 0, slots := 0, locals := 0 }) (va_Pc [.ref (b 0), .int x] (kPre G cI [(b 0, .inr (0, [.ref (b 1), .ref (b 2), .ref (b 3), .int (nI n)])), (b 1, .inl (cI, 40, .inl me)), (b 2, .inl (cI, 40, .inl ar)), (b 3, .inl (cI, 40, .inl dl))] zz)) (va_Qi (fun (r : Int32) (u : Unit) => (r = if (¬ x < 0 ∧ ¬ nI n ≤ x) then nI 1 else nI 0)) (fun (u : Unit) t => kQ G [(b 0, .inr (0, [.ref (b 1), .ref (b 2), .ref (b 3), .int (nI n)])), (b 1, .inl (cI, 40, .inl me)), (b 2, .inl (cI, 40, .inl ar)), (b 3, .inl (cI, 40, .inl dl))] (va_A [(b 0, .inr (0, [.ref (b 1), .ref (b 2), .ref (b 3), .int (nI n)])), (b 1, .inl (cI, 40, .inl me)), (b 2, .inl (cI, 40, .inl ar)), (b 3, .inl (cI, 40, .inl dl))] zz) t) (va_A [(b 0, .inr (0, [.ref (b 1), .ref (b 2), .ref (b 3), .int (nI n)])), (b 1, .inl (cI, 40, .inl me)), (b 2, .inl (cI, 40, .inl ar)), (b 3, .inl (cI, 40, .inl dl))] zz)) 0 0 (va_A [(b 0, .inr (0, [.ref (b 1), .ref (b 2), .ref (b 3), .int (nI n)])), (b 1, .inl (cI, 40, .inl me)), (b 2, .inl (cI, 40, .inl ar)), (b 3, .inl (cI, 40, .inl dl))] zz) := by
  refine Met.ofW (cc := cX0_has) (maxL := 2) (ret := (some .boolean)) (by decide) rfl ?_
  intro p e s m args below meth c s₁ B hml hv
  obtain ⟨rfl, hsz, hP, hK, hD0, hN⟩ := hv
  have hx := B.exec
  have hb := B.bytes
  have hr := B.returns
  have hts := atoms_spec (ws := wsX0_has) B.pre
  have hown : s.vm.findClass RX0 = some m.cls := findClass_of_methodNamed B.named
  have hlocks := B.notSynchronized
  subst hsz
  have hD := hD0.self (sz := s.heap.size)
  generalize hAe : va_A [(b 0, .inr (0, [.ref (b 1), .ref (b 2), .ref (b 3), .int (nI n)])), (b 1, .inl (cI, 40, .inl me)), (b 2, .inl (cI, 40, .inl ar)), (b 3, .inl (cI, 40, .inl dl))] s.heap.size = A at hD hN ⊢
  have hA : ∀ q : Nat, s.heap.size ≤ q → A q := fun q h => by rw [← hAe]; exact Or.inr h
  have hS : va_S A s.heap s.heap [] := va_S.rf
  have hl := lv_entry ([.ref (b 0), .int x]) (n := 2) (Nat.le_of_ble_eq_true rfl)
  rw [lg_entry_eq]
  generalize (lg_sl ([.ref (b 0), .int x]) ++ List.replicate (2 - (lg_sl ([.ref (b 0), .int x])).length) Slot.unset).toArray = ls at hl ⊢
  have hl : lv_has ls 2 [(0, .ref (b 0)), (1, .int x)] := hl
  have hP : va_P G vwCl [(b 0, .inr (0, [.ref (b 1), .ref (b 2), .ref (b 3), .int (nI n)])), (b 1, .inl (cI, 40, .inl me)), (b 2, .inl (cI, 40, .inl ar)), (b 3, .inl (cI, 40, .inl dl))] s.heap := hP
  obtain ⟨H, hH⟩ : ∃ H, H = s.heap := ⟨_, rfl⟩
  rw [← hH] at hP
  have hS : va_S A s.heap H [] := by rw [hH]; exact hS
  show W _ _ _ _ _ _ _ _ _ _ s.heap _ _ _ _ _
  rw [← hH]
  obtain ⟨locs, hlo⟩ : ∃ z : List Loc, z = [] := ⟨_, rfl⟩
  rw [← hlo] at hS ⊢
  refine lv_iload_n hx hb dX0_has_0 rfl (lv_at hl 1 rfl) ?_
  refine lv_if_lt (tgt := 16) hx hb dX0_has_1 (by decide) (fun c_1 => ?_) (fun c_1 => ?_)
  · skip
    refine lv_iconst (v := nI 0) hx hb dX0_has_16 (by decide +kernel) ?_
    have hS9 := hS.2.2
    have hq9 : ((nI 0) = if (¬ x < 0 ∧ ¬ nI n ≤ x) then nI 1 else nI 0) := by simp only [↓reduceIte, eq_self, nI_10, and_true, true_and, and_false, false_and, not_true_eq_false, not_false_eq_true, Bool.and_true, Bool.true_and, Bool.and_false, Bool.false_and, decide_true, decide_false, Bool.false_eq_true, eq_true c_1]
    exact W.zret (v := nI 0) hx hb hr rfl (fun t ht hW => ⟨⟨nI 0, (), rfl, hq9, by rw [ht]; exact hP, hD⟩, hS.F ht⟩) hS9 dX0_has_17
  · skip
    refine lv_iload_n hx hb dX0_has_4 rfl (lv_at hl 1 rfl) ?_
    refine lv_aload_n hx hb dX0_has_5 rfl (lv_at hl 0 rfl) ?_
    refine va_get (D := G) (ci := 0) (v := .int (nI n)) (C := RX0) (T := TX0) (N := 4) hx hb hts hi_X0_has_X0 hown hK hP 0 rfl rfl 3 (by decide) (hts _ hk_X0_has_f21) (fun _ h9 => h9) rfl dX0_has_6 ?_
    refine lv_icmp_ge (tgt := 16) hx hb dX0_has_9 (by decide) (fun c_2 => ?_) (fun c_2 => ?_)
    · skip
      refine lv_iconst (v := nI 0) hx hb dX0_has_16 (by decide +kernel) ?_
      have hS9 := hS.2.2
      have hq9 : ((nI 0) = if (¬ x < 0 ∧ ¬ nI n ≤ x) then nI 1 else nI 0) := by simp only [↓reduceIte, eq_self, nI_10, and_true, true_and, and_false, false_and, not_true_eq_false, not_false_eq_true, Bool.and_true, Bool.true_and, Bool.and_false, Bool.false_and, decide_true, decide_false, Bool.false_eq_true, eq_false c_1, eq_true c_2]
      exact W.zret (v := nI 0) hx hb hr rfl (fun t ht hW => ⟨⟨nI 0, (), rfl, hq9, by rw [ht]; exact hP, hD⟩, hS.F ht⟩) hS9 dX0_has_17
    · skip
      refine lv_iconst (v := nI 1) hx hb dX0_has_12 (by decide +kernel) ?_
      refine lv_goto (tgt := 17) hx hb dX0_has_13 (by decide) ?_
      have hS9 := hS.2.2
      have hq9 : ((nI 1) = if (¬ x < 0 ∧ ¬ nI n ≤ x) then nI 1 else nI 0) := by simp only [↓reduceIte, eq_self, nI_10, and_true, true_and, and_false, false_and, not_true_eq_false, not_false_eq_true, Bool.and_true, Bool.true_and, Bool.and_false, Bool.false_and, decide_true, decide_false, Bool.false_eq_true, eq_false c_1, eq_false c_2]
      exact W.zret (v := nI 1) hx hb hr rfl (fun t ht hW => ⟨⟨nI 1, (), rfl, hq9, by rw [ht]; exact hP, hD⟩, hS.F ht⟩) hS9 dX0_has_17

theorem hk_X0_isFull_f21 : (.fieldLink RX0 21 "Callgate$Book" "size" "I" : Cond) ∈ wsX0_isFull := by decide +kernel
theorem hi_X0_isFull_X0 : ∀ w ∈ u_ws RX0 TX0 4, w ∈ wsX0_isFull := by decide +kernel
set_option maxHeartbeats 4000000 in
set_option maxRecDepth 100000 in
theorem c_X0_isFull (l : Launch) (G : va_G) (cI : ClassId) (b : Nat → Nat) (me : Fn) (ar : Fn) (dl : Fn) (n : Nat) (hn : n ≤ 40) (zz : Nat) : Met l yX0_isFull wsX0_isFull ({ frames := 0, cells := 0, slots := 0, locals := 0 }) (va_Pc [.ref (b 0)] (kPre G cI [(b 0, .inr (0, [.ref (b 1), .ref (b 2), .ref (b 3), .int (nI n)])), (b 1, .inl (cI, 40, .inl me)), (b 2, .inl (cI, 40, .inl ar)), (b 3, .inl (cI, 40, .inl dl))] zz)) (va_Qi (fun (r : Int32) (u : Unit) => (r = if ¬ n < 40 then nI 1 else nI 0)) (fun (u : Unit) t => kQ G [(b 0, .inr (0, [.ref (b 1), .ref (b 2), .ref (b 3), .int (nI n)])), (b 1, .inl (cI, 40, .inl me)), (b 2, .inl (cI, 40, .inl ar)), (b 3, .inl (cI, 40, .inl dl))] (va_A [(b 0, .inr (0, [.ref (b 1), .ref (b 2), .ref (b 3), .int (nI n)])), (b 1, .inl (cI, 40, .inl me)), (b 2, .inl (cI, 40, .inl ar)), (b 3, .inl (cI, 40, .inl dl))] zz) t) (va_A [(b 0, .inr (0, [.ref (b 1), .ref (b 2), .ref (b 3), .int (nI n)])), (b 1, .inl (cI, 40, .inl me)), (b 2, .inl (cI, 40, .inl ar)), (b 3, .inl (cI, 40, .inl dl))] zz)) 0 0 (va_A [(b 0, .inr (0, [.ref (b 1), .ref (b 2), .ref (b 3), .int (nI n)])), (b 1, .inl (cI, 40, .inl me)), (b 2, .inl (cI, 40, .inl ar)), (b 3, .inl (cI, 40, .inl dl))] zz) := by
  refine Met.ofW (cc := cX0_isFull) (maxL := 1) (ret := (some .boolean)) (by decide) rfl ?_
  intro p e s m args below meth c s₁ B hml hv
  obtain ⟨rfl, hsz, hP, hK, hD0, hN⟩ := hv
  have hx := B.exec
  have hb := B.bytes
  have hr := B.returns
  have hts := atoms_spec (ws := wsX0_isFull) B.pre
  have hown : s.vm.findClass RX0 = some m.cls := findClass_of_methodNamed B.named
  have hlocks := B.notSynchronized
  subst hsz
  have hD := hD0.self (sz := s.heap.size)
  generalize hAe : va_A [(b 0, .inr (0, [.ref (b 1), .ref (b 2), .ref (b 3), .int (nI n)])), (b 1, .inl (cI, 40, .inl me)), (b 2, .inl (cI, 40, .inl ar)), (b 3, .inl (cI, 40, .inl dl))] s.heap.size = A at hD hN ⊢
  have hA : ∀ q : Nat, s.heap.size ≤ q → A q := fun q h => by rw [← hAe]; exact Or.inr h
  have hS : va_S A s.heap s.heap [] := va_S.rf
  have hl := lv_entry ([.ref (b 0)]) (n := 1) (Nat.le_of_ble_eq_true rfl)
  rw [lg_entry_eq]
  generalize (lg_sl ([.ref (b 0)]) ++ List.replicate (1 - (lg_sl ([.ref (b 0)])).length) Slot.unset).toArray = ls at hl ⊢
  have hl : lv_has ls 1 [(0, .ref (b 0))] := hl
  have hP : va_P G vwCl [(b 0, .inr (0, [.ref (b 1), .ref (b 2), .ref (b 3), .int (nI n)])), (b 1, .inl (cI, 40, .inl me)), (b 2, .inl (cI, 40, .inl ar)), (b 3, .inl (cI, 40, .inl dl))] s.heap := hP
  obtain ⟨H, hH⟩ : ∃ H, H = s.heap := ⟨_, rfl⟩
  rw [← hH] at hP
  have hS : va_S A s.heap H [] := by rw [hH]; exact hS
  show W _ _ _ _ _ _ _ _ _ _ s.heap _ _ _ _ _
  rw [← hH]
  obtain ⟨locs, hlo⟩ : ∃ z : List Loc, z = [] := ⟨_, rfl⟩
  rw [← hlo] at hS ⊢
  refine lv_aload_n hx hb dX0_isFull_0 rfl (lv_at hl 0 rfl) ?_
  refine va_get (D := G) (ci := 0) (v := .int (nI n)) (C := RX0) (T := TX0) (N := 4) hx hb hts hi_X0_isFull_X0 hown hK hP 0 rfl rfl 3 (by decide) (hts _ hk_X0_isFull_f21) (fun _ h9 => h9) rfl dX0_isFull_1 ?_
  refine lv_bipush (v := nI 40) hx hb dX0_isFull_4 (by decide +kernel) ?_
  refine lv_icmp_lt (tgt := 13) hx hb dX0_isFull_6 (by decide) (fun c_1 => ?_) (fun c_1 => ?_)
  · have g_1 := (nI_ltI (a := n) (b := 40) (by omega) (by omega)).mp c_1
    refine lv_iconst (v := nI 0) hx hb dX0_isFull_13 (by decide +kernel) ?_
    have hS9 := hS.2.2
    have hq9 : ((nI 0) = if ¬ n < 40 then nI 1 else nI 0) := by simp only [↓reduceIte, eq_self, nI_10, and_true, true_and, and_false, false_and, not_true_eq_false, not_false_eq_true, Bool.and_true, Bool.true_and, Bool.and_false, Bool.false_and, decide_true, decide_false, Bool.false_eq_true, eq_true g_1]
    exact W.zret (v := nI 0) hx hb hr rfl (fun t ht hW => ⟨⟨nI 0, (), rfl, hq9, by rw [ht]; exact hP, hD⟩, hS.F ht⟩) hS9 dX0_isFull_14
  · have g_1 := (not_congr (nI_ltI (a := n) (b := 40) (by omega) (by omega))).mp c_1
    refine lv_iconst (v := nI 1) hx hb dX0_isFull_9 (by decide +kernel) ?_
    refine lv_goto (tgt := 14) hx hb dX0_isFull_10 (by decide) ?_
    have hS9 := hS.2.2
    have hq9 : ((nI 1) = if ¬ n < 40 then nI 1 else nI 0) := by simp only [↓reduceIte, eq_self, nI_10, and_true, true_and, and_false, false_and, not_true_eq_false, not_false_eq_true, Bool.and_true, Bool.true_and, Bool.and_false, Bool.false_and, decide_true, decide_false, Bool.false_eq_true, eq_false g_1]
    exact W.zret (v := nI 1) hx hb hr rfl (fun t ht hW => ⟨⟨nI 1, (), rfl, hq9, by rw [ht]; exact hP, hD⟩, hS.F ht⟩) hS9 dX0_isFull_14

theorem hk_X0_enter_f21 : (.fieldLink RX0 21 "Callgate$Book" "size" "I" : Cond) ∈ wsX0_enter := by decide +kernel
theorem hi_X0_enter_X0 : ∀ w ∈ u_ws RX0 TX0 4, w ∈ wsX0_enter := by decide +kernel
theorem hk_X0_enter_f9 : (.fieldLink RX0 9 "Callgate$Book" "methods" "[I" : Cond) ∈ wsX0_enter := by decide +kernel
theorem hk_X0_enter_f15 : (.fieldLink RX0 15 "Callgate$Book" "arguments" "[I" : Cond) ∈ wsX0_enter := by decide +kernel
theorem hk_X0_enter_f18 : (.fieldLink RX0 18 "Callgate$Book" "deadlines" "[I" : Cond) ∈ wsX0_enter := by decide +kernel
set_option maxHeartbeats 4000000 in
set_option maxRecDepth 100000 in
theorem c_X0_enter (l : Launch) (G : va_G) (cI : ClassId) (b : Nat → Nat) (me : Fn) (ar : Fn) (dl : Fn) (n : Nat) (x : Int32) (y : Int32) (z : Int32) (hn : n < 40) (zz : Nat) : Met l yX0_enter wsX0_enter ({ frames := 0, cells := 0, slots := 0, locals := 0 }) (va_Pc [.ref (b 0), .int x, .int y, .int z] (kPre G cI [(b 0, .inr (0, [.ref (b 1), .ref (b 2), .ref (b 3), .int (nI n)])), (b 1, .inl (cI, 40, .inl me)), (b 2, .inl (cI, 40, .inl ar)), (b 3, .inl (cI, 40, .inl dl))] zz)) (va_Qi (fun (r : Int32) (u : Unit) => (r = nI n)) (fun (u : Unit) t => kQ G [(b 0, .inr (0, [.ref (b 1), .ref (b 2), .ref (b 3), .int (nI (n + 1))])), (b 1, .inl (cI, 40, .inl (upd me n x))), (b 2, .inl (cI, 40, .inl (upd ar n y))), (b 3, .inl (cI, 40, .inl (upd dl n z)))] (va_A [(b 0, .inr (0, [.ref (b 1), .ref (b 2), .ref (b 3), .int (nI n)])), (b 1, .inl (cI, 40, .inl me)), (b 2, .inl (cI, 40, .inl ar)), (b 3, .inl (cI, 40, .inl dl))] zz) t) (va_A [(b 0, .inr (0, [.ref (b 1), .ref (b 2), .ref (b 3), .int (nI n)])), (b 1, .inl (cI, 40, .inl me)), (b 2, .inl (cI, 40, .inl ar)), (b 3, .inl (cI, 40, .inl dl))] zz)) 0 0 (va_A [(b 0, .inr (0, [.ref (b 1), .ref (b 2), .ref (b 3), .int (nI n)])), (b 1, .inl (cI, 40, .inl me)), (b 2, .inl (cI, 40, .inl ar)), (b 3, .inl (cI, 40, .inl dl))] zz) := by
  refine Met.ofW (cc := cX0_enter) (maxL := 5) (ret := (some .int)) (by decide) rfl ?_
  intro p e s m args below meth c s₁ B hml hv
  obtain ⟨rfl, hsz, hP, hK, hD0, hN⟩ := hv
  have hx := B.exec
  have hb := B.bytes
  have hr := B.returns
  have hts := atoms_spec (ws := wsX0_enter) B.pre
  have hown : s.vm.findClass RX0 = some m.cls := findClass_of_methodNamed B.named
  have hlocks := B.notSynchronized
  subst hsz
  have hD := hD0.self (sz := s.heap.size)
  generalize hAe : va_A [(b 0, .inr (0, [.ref (b 1), .ref (b 2), .ref (b 3), .int (nI n)])), (b 1, .inl (cI, 40, .inl me)), (b 2, .inl (cI, 40, .inl ar)), (b 3, .inl (cI, 40, .inl dl))] s.heap.size = A at hD hN ⊢
  have hA : ∀ q : Nat, s.heap.size ≤ q → A q := fun q h => by rw [← hAe]; exact Or.inr h
  have hS : va_S A s.heap s.heap [] := va_S.rf
  have hl := lv_entry ([.ref (b 0), .int x, .int y, .int z]) (n := 5) (Nat.le_of_ble_eq_true rfl)
  rw [lg_entry_eq]
  generalize (lg_sl ([.ref (b 0), .int x, .int y, .int z]) ++ List.replicate (5 - (lg_sl ([.ref (b 0), .int x, .int y, .int z])).length) Slot.unset).toArray = ls at hl ⊢
  have hl : lv_has ls 5 [(0, .ref (b 0)), (1, .int x), (2, .int y), (3, .int z)] := hl
  have hP : va_P G vwCl [(b 0, .inr (0, [.ref (b 1), .ref (b 2), .ref (b 3), .int (nI n)])), (b 1, .inl (cI, 40, .inl me)), (b 2, .inl (cI, 40, .inl ar)), (b 3, .inl (cI, 40, .inl dl))] s.heap := hP
  obtain ⟨H, hH⟩ : ∃ H, H = s.heap := ⟨_, rfl⟩
  rw [← hH] at hP
  have hS : va_S A s.heap H [] := by rw [hH]; exact hS
  show W _ _ _ _ _ _ _ _ _ _ s.heap _ _ _ _ _
  rw [← hH]
  obtain ⟨locs, hlo⟩ : ∃ z : List Loc, z = [] := ⟨_, rfl⟩
  rw [← hlo] at hS ⊢
  refine lv_aload_n hx hb dX0_enter_0 rfl (lv_at hl 0 rfl) ?_
  refine va_get (D := G) (ci := 0) (v := .int (nI n)) (C := RX0) (T := TX0) (N := 4) hx hb hts hi_X0_enter_X0 hown hK hP 0 rfl rfl 3 (by decide) (hts _ hk_X0_enter_f21) (fun _ h9 => h9) rfl dX0_enter_1 ?_
  refine lv_istore (lv' := [(4, .int (nI n)), (0, .ref (b 0)), (1, .int x), (2, .int y), (3, .int z)]) hx hb dX0_enter_4 hl (by decide) rfl (fun ls hl => ?_)
  refine lv_aload_n hx hb dX0_enter_6 rfl (lv_at hl 1 rfl) ?_
  refine va_get (D := G) (ci := 0) (v := .ref (b 1)) (C := RX0) (T := TX0) (N := 4) hx hb hts hi_X0_enter_X0 hown hK hP 0 rfl rfl 0 (by decide) (hts _ hk_X0_enter_f9) (fun _ h9 => h9) rfl dX0_enter_7 ?_
  refine lv_iload hx hb dX0_enter_10 (lv_at hl 0 rfl) ?_
  refine lv_iload_n hx hb dX0_enter_12 rfl (lv_at hl 2 rfl) ?_
  refine gz_iast hx hb hK hP hD hS 1 rfl rfl (k := n) rfl (by omega) (by decide) dX0_enter_13 (fun H locs hP hD hS => ?_)
  have hP : va_P G vwCl [(b 0, .inr (0, [.ref (b 1), .ref (b 2), .ref (b 3), .int (nI n)])), (b 1, .inl (cI, 40, .inl (upd me n x))), (b 2, .inl (cI, 40, .inl ar)), (b 3, .inl (cI, 40, .inl dl))] H := hP
  have hD : va_D A [(b 0, .inr (0, [.ref (b 1), .ref (b 2), .ref (b 3), .int (nI n)])), (b 1, .inl (cI, 40, .inl (upd me n x))), (b 2, .inl (cI, 40, .inl ar)), (b 3, .inl (cI, 40, .inl dl))] := hD
  refine lv_aload_n hx hb dX0_enter_14 rfl (lv_at hl 1 rfl) ?_
  refine va_get (D := G) (ci := 0) (v := .ref (b 2)) (C := RX0) (T := TX0) (N := 4) hx hb hts hi_X0_enter_X0 hown hK hP 0 rfl rfl 1 (by decide) (hts _ hk_X0_enter_f15) (fun _ h9 => h9) rfl dX0_enter_15 ?_
  refine lv_iload hx hb dX0_enter_18 (lv_at hl 0 rfl) ?_
  refine lv_iload_n hx hb dX0_enter_20 rfl (lv_at hl 3 rfl) ?_
  refine gz_iast hx hb hK hP hD hS 2 rfl rfl (k := n) rfl (by omega) (by decide) dX0_enter_21 (fun H locs hP hD hS => ?_)
  have hP : va_P G vwCl [(b 0, .inr (0, [.ref (b 1), .ref (b 2), .ref (b 3), .int (nI n)])), (b 1, .inl (cI, 40, .inl (upd me n x))), (b 2, .inl (cI, 40, .inl (upd ar n y))), (b 3, .inl (cI, 40, .inl dl))] H := hP
  have hD : va_D A [(b 0, .inr (0, [.ref (b 1), .ref (b 2), .ref (b 3), .int (nI n)])), (b 1, .inl (cI, 40, .inl (upd me n x))), (b 2, .inl (cI, 40, .inl (upd ar n y))), (b 3, .inl (cI, 40, .inl dl))] := hD
  refine lv_aload_n hx hb dX0_enter_22 rfl (lv_at hl 1 rfl) ?_
  refine va_get (D := G) (ci := 0) (v := .ref (b 3)) (C := RX0) (T := TX0) (N := 4) hx hb hts hi_X0_enter_X0 hown hK hP 0 rfl rfl 2 (by decide) (hts _ hk_X0_enter_f18) (fun _ h9 => h9) rfl dX0_enter_23 ?_
  refine lv_iload hx hb dX0_enter_26 (lv_at hl 0 rfl) ?_
  refine lv_iload_n hx hb dX0_enter_28 rfl (lv_at hl 4 rfl) ?_
  refine gz_iast hx hb hK hP hD hS 3 rfl rfl (k := n) rfl (by omega) (by decide) dX0_enter_29 (fun H locs hP hD hS => ?_)
  have hP : va_P G vwCl [(b 0, .inr (0, [.ref (b 1), .ref (b 2), .ref (b 3), .int (nI n)])), (b 1, .inl (cI, 40, .inl (upd me n x))), (b 2, .inl (cI, 40, .inl (upd ar n y))), (b 3, .inl (cI, 40, .inl (upd dl n z)))] H := hP
  have hD : va_D A [(b 0, .inr (0, [.ref (b 1), .ref (b 2), .ref (b 3), .int (nI n)])), (b 1, .inl (cI, 40, .inl (upd me n x))), (b 2, .inl (cI, 40, .inl (upd ar n y))), (b 3, .inl (cI, 40, .inl (upd dl n z)))] := hD
  refine lv_aload_n hx hb dX0_enter_30 rfl (lv_at hl 1 rfl) ?_
  refine lv_dup hx hb dX0_enter_31 rfl ?_
  refine va_get (D := G) (ci := 0) (v := .int (nI n)) (C := RX0) (T := TX0) (N := 4) hx hb hts hi_X0_enter_X0 hown hK hP 0 rfl rfl 3 (by decide) (hts _ hk_X0_enter_f21) (fun _ h9 => h9) rfl dX0_enter_32 ?_
  refine lv_iconst (v := nI 1) hx hb dX0_enter_35 (by decide +kernel) ?_
  refine lv_iadd hx hb dX0_enter_36 ?_
  refine gz_top (nI_add _ _) ?_
  refine va_put (D := G) (ci := 0) (v := .int (nI (n + 1))) (ty := .int) (C := RX0) (T := TX0) (N := 4) hx hb hts hi_X0_enter_X0 tyX0 tyX0_ok nmX0 hown hK hP hD hS 0 rfl rfl 3 (by decide) (hts _ hk_X0_enter_f21) (fun _ h9 => h9) rfl (by decide +kernel) rfl rfl (Nat.le_of_ble_eq_true rfl) dX0_enter_37 (fun H locs hP hD hS => ?_)
  have hP : va_P G vwCl [(b 0, .inr (0, [.ref (b 1), .ref (b 2), .ref (b 3), .int (nI (n + 1))])), (b 1, .inl (cI, 40, .inl (upd me n x))), (b 2, .inl (cI, 40, .inl (upd ar n y))), (b 3, .inl (cI, 40, .inl (upd dl n z)))] H := hP
  have hD : va_D A [(b 0, .inr (0, [.ref (b 1), .ref (b 2), .ref (b 3), .int (nI (n + 1))])), (b 1, .inl (cI, 40, .inl (upd me n x))), (b 2, .inl (cI, 40, .inl (upd ar n y))), (b 3, .inl (cI, 40, .inl (upd dl n z)))] := hD
  refine lv_iload hx hb dX0_enter_40 (lv_at hl 0 rfl) ?_
  have hS9 := hS.2.2
  have hq9 : ((nI n) = nI n) := by rfl
  exact W.iret (v := nI n) hx hb hr (fun t ht hW => ⟨⟨nI n, (), rfl, hq9, by rw [ht]; exact hP, hD⟩, hS.F ht⟩) hS9 dX0_enter_42

theorem hk_X0_isDue_f18 : (.fieldLink RX0 18 "Callgate$Book" "deadlines" "[I" : Cond) ∈ wsX0_isDue := by decide +kernel
theorem hi_X0_isDue_X0 : ∀ w ∈ u_ws RX0 TX0 4, w ∈ wsX0_isDue := by decide +kernel
set_option maxHeartbeats 4000000 in
set_option maxRecDepth 100000 in
theorem c_X0_isDue (l : Launch) (G : va_G) (cI : ClassId) (b : Nat → Nat) (me : Fn) (ar : Fn) (dl : Fn) (n : Nat) (k : Nat) (tm : Int32) (hn : k < 40) (zz : Nat) : Met l yX0_isDue wsX0_isDue ({ frames := 0, cells := 0, slots := 0, locals := 0 }) (va_Pc [.ref (b 0), .int (nI k), .int tm] (kPre G cI [(b 0, .inr (0, [.ref (b 1), .ref (b 2), .ref (b 3), .int (nI n)])), (b 1, .inl (cI, 40, .inl me)), (b 2, .inl (cI, 40, .inl ar)), (b 3, .inl (cI, 40, .inl dl))] zz)) (va_Qi (fun (r : Int32) (u : Unit) => (r = if (¬ tm < dl k) then nI 1 else nI 0)) (fun (u : Unit) t => kQ G [(b 0, .inr (0, [.ref (b 1), .ref (b 2), .ref (b 3), .int (nI n)])), (b 1, .inl (cI, 40, .inl me)), (b 2, .inl (cI, 40, .inl ar)), (b 3, .inl (cI, 40, .inl dl))] (va_A [(b 0, .inr (0, [.ref (b 1), .ref (b 2), .ref (b 3), .int (nI n)])), (b 1, .inl (cI, 40, .inl me)), (b 2, .inl (cI, 40, .inl ar)), (b 3, .inl (cI, 40, .inl dl))] zz) t) (va_A [(b 0, .inr (0, [.ref (b 1), .ref (b 2), .ref (b 3), .int (nI n)])), (b 1, .inl (cI, 40, .inl me)), (b 2, .inl (cI, 40, .inl ar)), (b 3, .inl (cI, 40, .inl dl))] zz)) 0 0 (va_A [(b 0, .inr (0, [.ref (b 1), .ref (b 2), .ref (b 3), .int (nI n)])), (b 1, .inl (cI, 40, .inl me)), (b 2, .inl (cI, 40, .inl ar)), (b 3, .inl (cI, 40, .inl dl))] zz) := by
  refine Met.ofW (cc := cX0_isDue) (maxL := 3) (ret := (some .boolean)) (by decide) rfl ?_
  intro p e s m args below meth c s₁ B hml hv
  obtain ⟨rfl, hsz, hP, hK, hD0, hN⟩ := hv
  have hx := B.exec
  have hb := B.bytes
  have hr := B.returns
  have hts := atoms_spec (ws := wsX0_isDue) B.pre
  have hown : s.vm.findClass RX0 = some m.cls := findClass_of_methodNamed B.named
  have hlocks := B.notSynchronized
  subst hsz
  have hD := hD0.self (sz := s.heap.size)
  generalize hAe : va_A [(b 0, .inr (0, [.ref (b 1), .ref (b 2), .ref (b 3), .int (nI n)])), (b 1, .inl (cI, 40, .inl me)), (b 2, .inl (cI, 40, .inl ar)), (b 3, .inl (cI, 40, .inl dl))] s.heap.size = A at hD hN ⊢
  have hA : ∀ q : Nat, s.heap.size ≤ q → A q := fun q h => by rw [← hAe]; exact Or.inr h
  have hS : va_S A s.heap s.heap [] := va_S.rf
  have hl := lv_entry ([.ref (b 0), .int (nI k), .int tm]) (n := 3) (Nat.le_of_ble_eq_true rfl)
  rw [lg_entry_eq]
  generalize (lg_sl ([.ref (b 0), .int (nI k), .int tm]) ++ List.replicate (3 - (lg_sl ([.ref (b 0), .int (nI k), .int tm])).length) Slot.unset).toArray = ls at hl ⊢
  have hl : lv_has ls 3 [(0, .ref (b 0)), (1, .int (nI k)), (2, .int tm)] := hl
  have hP : va_P G vwCl [(b 0, .inr (0, [.ref (b 1), .ref (b 2), .ref (b 3), .int (nI n)])), (b 1, .inl (cI, 40, .inl me)), (b 2, .inl (cI, 40, .inl ar)), (b 3, .inl (cI, 40, .inl dl))] s.heap := hP
  obtain ⟨H, hH⟩ : ∃ H, H = s.heap := ⟨_, rfl⟩
  rw [← hH] at hP
  have hS : va_S A s.heap H [] := by rw [hH]; exact hS
  show W _ _ _ _ _ _ _ _ _ _ s.heap _ _ _ _ _
  rw [← hH]
  obtain ⟨locs, hlo⟩ : ∃ z : List Loc, z = [] := ⟨_, rfl⟩
  rw [← hlo] at hS ⊢
  refine lv_aload_n hx hb dX0_isDue_0 rfl (lv_at hl 0 rfl) ?_
  refine va_get (D := G) (ci := 0) (v := .ref (b 3)) (C := RX0) (T := TX0) (N := 4) hx hb hts hi_X0_isDue_X0 hown hK hP 0 rfl rfl 2 (by decide) (hts _ hk_X0_isDue_f18) (fun _ h9 => h9) rfl dX0_isDue_1 ?_
  refine lv_iload_n hx hb dX0_isDue_4 rfl (lv_at hl 1 rfl) ?_
  refine gz_iald hx hb hK hP 3 rfl rfl (k := k) rfl (by omega) (by decide) dX0_isDue_5 ?_
  refine lv_iload_n hx hb dX0_isDue_6 rfl (lv_at hl 2 rfl) ?_
  refine lv_icmp_gt (tgt := 14) hx hb dX0_isDue_7 (by decide) (fun c_1 => ?_) (fun c_1 => ?_)
  · skip
    refine lv_iconst (v := nI 0) hx hb dX0_isDue_14 (by decide +kernel) ?_
    have hS9 := hS.2.2
    have hq9 : ((nI 0) = if (¬ tm < dl k) then nI 1 else nI 0) := by simp only [↓reduceIte, eq_self, nI_10, and_true, true_and, and_false, false_and, not_true_eq_false, not_false_eq_true, Bool.and_true, Bool.true_and, Bool.and_false, Bool.false_and, decide_true, decide_false, Bool.false_eq_true, eq_true c_1]
    exact W.zret (v := nI 0) hx hb hr rfl (fun t ht hW => ⟨⟨nI 0, (), rfl, hq9, by rw [ht]; exact hP, hD⟩, hS.F ht⟩) hS9 dX0_isDue_15
  · skip
    refine lv_iconst (v := nI 1) hx hb dX0_isDue_10 (by decide +kernel) ?_
    refine lv_goto (tgt := 15) hx hb dX0_isDue_11 (by decide) ?_
    have hS9 := hS.2.2
    have hq9 : ((nI 1) = if (¬ tm < dl k) then nI 1 else nI 0) := by simp only [↓reduceIte, eq_self, nI_10, and_true, true_and, and_false, false_and, not_true_eq_false, not_false_eq_true, Bool.and_true, Bool.true_and, Bool.and_false, Bool.false_and, decide_true, decide_false, Bool.false_eq_true, eq_false c_1]
    exact W.zret (v := nI 1) hx hb hr rfl (fun t ht hW => ⟨⟨nI 1, (), rfl, hq9, by rw [ht]; exact hP, hD⟩, hS.F ht⟩) hS9 dX0_isDue_15

theorem hk_X2_has_f24 : (.fieldLink RX2 24 "Callgate$Lane" "size" "I" : Cond) ∈ wsX2_has := by decide +kernel
theorem hi_X2_has_X2 : ∀ w ∈ u_ws RX2 TX2 6, w ∈ wsX2_has := by decide +kernel
set_option maxHeartbeats 4000000 in
set_option maxRecDepth 100000 in
theorem c_X2_has (l : Launch) (G : va_G) (cI : ClassId) (d : Nat → Nat) (ki : Fn) (ow : Fn) (mr : Fn) (va : Fn) (fi : Nat) (sz : Nat) (x : Int32) (hs : sz ≤ 40) (zz : Nat) : Met l yX2_has wsX2_has ({ frames := 0, cells := 0, slots := 0, locals := 0 }) (va_Pc [.ref (d 0), .int x] (kPre G cI [(d 0, .inr (2, [.ref (d 1), .ref (d 2), .ref (d 3), .ref (d 4), .int (nI fi), .int (nI sz)])), (d 1, .inl (cI, 40, .inl ki)), (d 2, .inl (cI, 40, .inl ow)), (d 3, .inl (cI, 40, .inl mr)), (d 4, .inl (cI, 40, .inl va))] zz)) (va_Qi (fun (r : Int32) (u : Unit) => (r = if (¬ x < 0 ∧ ¬ nI sz ≤ x) then nI 1 else nI 0)) (fun (u : Unit) t => kQ G [(d 0, .inr (2, [.ref (d 1), .ref (d 2), .ref (d 3), .ref (d 4), .int (nI fi), .int (nI sz)])), (d 1, .inl (cI, 40, .inl ki)), (d 2, .inl (cI, 40, .inl ow)), (d 3, .inl (cI, 40, .inl mr)), (d 4, .inl (cI, 40, .inl va))] (va_A [(d 0, .inr (2, [.ref (d 1), .ref (d 2), .ref (d 3), .ref (d 4), .int (nI fi), .int (nI sz)])), (d 1, .inl (cI, 40, .inl ki)), (d 2, .inl (cI, 40, .inl ow)), (d 3, .inl (cI, 40, .inl mr)), (d 4, .inl (cI, 40, .inl va))] zz) t) (va_A [(d 0, .inr (2, [.ref (d 1), .ref (d 2), .ref (d 3), .ref (d 4), .int (nI fi), .int (nI sz)])), (d 1, .inl (cI, 40, .inl ki)), (d 2, .inl (cI, 40, .inl ow)), (d 3, .inl (cI, 40, .inl mr)), (d 4, .inl (cI, 40, .inl va))] zz)) 0 0 (va_A [(d 0, .inr (2, [.ref (d 1), .ref (d 2), .ref (d 3), .ref (d 4), .int (nI fi), .int (nI sz)])), (d 1, .inl (cI, 40, .inl ki)), (d 2, .inl (cI, 40, .inl ow)), (d 3, .inl (cI, 40, .inl mr)), (d 4, .inl (cI, 40, .inl va))] zz) := by
  refine Met.ofW (cc := cX2_has) (maxL := 2) (ret := (some .boolean)) (by decide) rfl ?_
  intro p e s m args below meth c s₁ B hml hv
  obtain ⟨rfl, hsz, hP, hK, hD0, hN⟩ := hv
  have hx := B.exec
  have hb := B.bytes
  have hr := B.returns
  have hts := atoms_spec (ws := wsX2_has) B.pre
  have hown : s.vm.findClass RX2 = some m.cls := findClass_of_methodNamed B.named
  have hlocks := B.notSynchronized
  subst hsz
  have hD := hD0.self (sz := s.heap.size)
  generalize hAe : va_A [(d 0, .inr (2, [.ref (d 1), .ref (d 2), .ref (d 3), .ref (d 4), .int (nI fi), .int (nI sz)])), (d 1, .inl (cI, 40, .inl ki)), (d 2, .inl (cI, 40, .inl ow)), (d 3, .inl (cI, 40, .inl mr)), (d 4, .inl (cI, 40, .inl va))] s.heap.size = A at hD hN ⊢
  have hA : ∀ q : Nat, s.heap.size ≤ q → A q := fun q h => by rw [← hAe]; exact Or.inr h
  have hS : va_S A s.heap s.heap [] := va_S.rf
  have hl := lv_entry ([.ref (d 0), .int x]) (n := 2) (Nat.le_of_ble_eq_true rfl)
  rw [lg_entry_eq]
  generalize (lg_sl ([.ref (d 0), .int x]) ++ List.replicate (2 - (lg_sl ([.ref (d 0), .int x])).length) Slot.unset).toArray = ls at hl ⊢
  have hl : lv_has ls 2 [(0, .ref (d 0)), (1, .int x)] := hl
  have hP : va_P G vwCl [(d 0, .inr (2, [.ref (d 1), .ref (d 2), .ref (d 3), .ref (d 4), .int (nI fi), .int (nI sz)])), (d 1, .inl (cI, 40, .inl ki)), (d 2, .inl (cI, 40, .inl ow)), (d 3, .inl (cI, 40, .inl mr)), (d 4, .inl (cI, 40, .inl va))] s.heap := hP
  obtain ⟨H, hH⟩ : ∃ H, H = s.heap := ⟨_, rfl⟩
  rw [← hH] at hP
  have hS : va_S A s.heap H [] := by rw [hH]; exact hS
  show W _ _ _ _ _ _ _ _ _ _ s.heap _ _ _ _ _
  rw [← hH]
  obtain ⟨locs, hlo⟩ : ∃ z : List Loc, z = [] := ⟨_, rfl⟩
  rw [← hlo] at hS ⊢
  refine lv_iload_n hx hb dX2_has_0 rfl (lv_at hl 1 rfl) ?_
  refine lv_if_lt (tgt := 16) hx hb dX2_has_1 (by decide) (fun c_1 => ?_) (fun c_1 => ?_)
  · skip
    refine lv_iconst (v := nI 0) hx hb dX2_has_16 (by decide +kernel) ?_
    have hS9 := hS.2.2
    have hq9 : ((nI 0) = if (¬ x < 0 ∧ ¬ nI sz ≤ x) then nI 1 else nI 0) := by simp only [↓reduceIte, eq_self, nI_10, and_true, true_and, and_false, false_and, not_true_eq_false, not_false_eq_true, Bool.and_true, Bool.true_and, Bool.and_false, Bool.false_and, decide_true, decide_false, Bool.false_eq_true, eq_true c_1]
    exact W.zret (v := nI 0) hx hb hr rfl (fun t ht hW => ⟨⟨nI 0, (), rfl, hq9, by rw [ht]; exact hP, hD⟩, hS.F ht⟩) hS9 dX2_has_17
  · skip
    refine lv_iload_n hx hb dX2_has_4 rfl (lv_at hl 1 rfl) ?_
    refine lv_aload_n hx hb dX2_has_5 rfl (lv_at hl 0 rfl) ?_
    refine va_get (D := G) (ci := 2) (v := .int (nI sz)) (C := RX2) (T := TX2) (N := 6) hx hb hts hi_X2_has_X2 hown hK hP 0 rfl rfl 5 (by decide) (hts _ hk_X2_has_f24) (fun _ h9 => h9) rfl dX2_has_6 ?_
    refine lv_icmp_ge (tgt := 16) hx hb dX2_has_9 (by decide) (fun c_2 => ?_) (fun c_2 => ?_)
    · skip
      refine lv_iconst (v := nI 0) hx hb dX2_has_16 (by decide +kernel) ?_
      have hS9 := hS.2.2
      have hq9 : ((nI 0) = if (¬ x < 0 ∧ ¬ nI sz ≤ x) then nI 1 else nI 0) := by simp only [↓reduceIte, eq_self, nI_10, and_true, true_and, and_false, false_and, not_true_eq_false, not_false_eq_true, Bool.and_true, Bool.true_and, Bool.and_false, Bool.false_and, decide_true, decide_false, Bool.false_eq_true, eq_false c_1, eq_true c_2]
      exact W.zret (v := nI 0) hx hb hr rfl (fun t ht hW => ⟨⟨nI 0, (), rfl, hq9, by rw [ht]; exact hP, hD⟩, hS.F ht⟩) hS9 dX2_has_17
    · skip
      refine lv_iconst (v := nI 1) hx hb dX2_has_12 (by decide +kernel) ?_
      refine lv_goto (tgt := 17) hx hb dX2_has_13 (by decide) ?_
      have hS9 := hS.2.2
      have hq9 : ((nI 1) = if (¬ x < 0 ∧ ¬ nI sz ≤ x) then nI 1 else nI 0) := by simp only [↓reduceIte, eq_self, nI_10, and_true, true_and, and_false, false_and, not_true_eq_false, not_false_eq_true, Bool.and_true, Bool.true_and, Bool.and_false, Bool.false_and, decide_true, decide_false, Bool.false_eq_true, eq_false c_1, eq_false c_2]
      exact W.zret (v := nI 1) hx hb hr rfl (fun t ht hW => ⟨⟨nI 1, (), rfl, hq9, by rw [ht]; exact hP, hD⟩, hS.F ht⟩) hS9 dX2_has_17


set_option maxHeartbeats 4000000 in
set_option maxRecDepth 100000 in
theorem c_J9_floorMod_7cf53 (l : Launch) (G : va_G) (cI : ClassId) (k : Nat) (hk : k ≤ 80) (zz : Nat) : Met l yJ9_floorMod_7cf53 wsJ9_floorMod_7cf53 ({ frames := 0, cells := 0, slots := 0, locals := 0 }) (va_Pc [.int (nI k), .int (nI 40)] (kPre G cI [] zz)) (va_Qi (fun (r : Int32) (u : Unit) => (r = nI (k % 40))) (fun (u : Unit) t => kQ G [] (va_A [] zz) t) (va_A [] zz)) 0 0 (va_A [] zz) := by
  refine fm_ofW (cc := cJ9_floorMod_7cf53) (maxL := 3) (ret := (some .int)) (by decide +kernel) rfl ?_
  intro p e s m args below meth c s₁ B hml hv
  obtain ⟨rfl, hsz, hP, hK, hD0, hN⟩ := hv
  have hx := B.exec
  have hb := B.bytes
  have hr := B.returns
  have hts := atoms_spec (ws := wsJ9_floorMod_7cf53) B.pre
  have hown : s.vm.findClass RJ9 = some m.cls := findClass_of_methodNamed B.named
  have hlocks := B.notSynchronized
  subst hsz
  have hD := hD0.self (sz := s.heap.size)
  generalize hAe : va_A [] s.heap.size = A at hD hN ⊢
  have hA : ∀ q : Nat, s.heap.size ≤ q → A q := fun q h => by rw [← hAe]; exact Or.inr h
  have hS : va_S A s.heap s.heap [] := va_S.rf
  have hl := lv_entry ([.int (nI k), .int (nI 40)]) (n := 3) (Nat.le_of_ble_eq_true rfl)
  rw [lg_entry_eq]
  generalize (lg_sl ([.int (nI k), .int (nI 40)]) ++ List.replicate (3 - (lg_sl ([.int (nI k), .int (nI 40)])).length) Slot.unset).toArray = ls at hl ⊢
  have hl : lv_has ls 3 [(0, .int (nI k)), (1, .int (nI 40))] := hl
  have hP : va_P G vwCl [] s.heap := hP
  obtain ⟨H, hH⟩ : ∃ H, H = s.heap := ⟨_, rfl⟩
  rw [← hH] at hP
  have hS : va_S A s.heap H [] := by rw [hH]; exact hS
  show W _ _ _ _ _ _ _ _ _ _ s.heap _ _ _ _ _
  rw [← hH]
  obtain ⟨locs, hlo⟩ : ∃ z : List Loc, z = [] := ⟨_, rfl⟩
  rw [← hlo] at hS ⊢
  refine lv_iload_n hx hb dJ9_floorMod_7cf53_0 rfl (lv_at hl 0 rfl) ?_
  refine lv_iload_n hx hb dJ9_floorMod_7cf53_1 rfl (lv_at hl 1 rfl) ?_
  refine lv_irem hx hb dJ9_floorMod_7cf53_2 (by decide +kernel) ?_
  refine gz_top (pk_rem (by omega) (by decide) (by decide)) ?_
  refine lv_istore_n (lv' := [(2, .int (nI (k % 40))), (0, .int (nI k)), (1, .int (nI 40))]) hx hb dJ9_floorMod_7cf53_3 rfl hl (by decide) rfl (fun ls hl => ?_)
  refine lv_iload_n hx hb dJ9_floorMod_7cf53_4 rfl (lv_at hl 1 rfl) ?_
  refine lv_iload_n hx hb dJ9_floorMod_7cf53_5 rfl (lv_at hl 2 rfl) ?_
  refine lv_ixor hx hb dJ9_floorMod_7cf53_6 ?_
  refine lv_if_ge (tgt := 18) hx hb dJ9_floorMod_7cf53_7 (by decide) (fun c_1 => ?_) (fun c_1 => ?_)
  · skip
    refine lv_iload_n hx hb dJ9_floorMod_7cf53_18 rfl (lv_at hl 0 rfl) ?_
    have hS9 := hS.2.2
    have hq9 : ((nI (k % 40)) = nI (k % 40)) := by rfl
    exact W.iret (v := nI (k % 40)) hx hb hr (fun t ht hW => ⟨⟨nI (k % 40), (), rfl, hq9, by rw [ht]; exact hP, hD⟩, hS.F ht⟩) hS9 dJ9_floorMod_7cf53_19
  · exact ((absurd (fm_x hk) c_1 : False)).elim

theorem hk_X2_slotOf_f28 : (.fieldLink RX2 28 "Callgate$Lane" "first" "I" : Cond) ∈ wsX2_slotOf := by decide +kernel
theorem hi_X2_slotOf_X2 : ∀ w ∈ u_ws RX2 TX2 6, w ∈ wsX2_slotOf := by decide +kernel
set_option maxHeartbeats 4000000 in
set_option maxRecDepth 100000 in
theorem c_X2_slotOf (l : Launch) (G : va_G) (cI : ClassId) (d : Nat → Nat) (ki : Fn) (ow : Fn) (mr : Fn) (va : Fn) (fi : Nat) (sz : Nat) (k : Nat) (hf : fi < 40) (hk : k ≤ 40) (zz : Nat) : Met l yX2_slotOf wsX2_slotOf ({ frames := 1, cells := 0, slots := 0, locals := 22 }) (va_Pc [.ref (d 0), .int (nI k)] (kPre G cI [(d 0, .inr (2, [.ref (d 1), .ref (d 2), .ref (d 3), .ref (d 4), .int (nI fi), .int (nI sz)])), (d 1, .inl (cI, 40, .inl ki)), (d 2, .inl (cI, 40, .inl ow)), (d 3, .inl (cI, 40, .inl mr)), (d 4, .inl (cI, 40, .inl va))] zz)) (va_Qi (fun (r : Int32) (u : Unit) => (r = nI ((fi + k) % 40))) (fun (u : Unit) t => kQ G [(d 0, .inr (2, [.ref (d 1), .ref (d 2), .ref (d 3), .ref (d 4), .int (nI fi), .int (nI sz)])), (d 1, .inl (cI, 40, .inl ki)), (d 2, .inl (cI, 40, .inl ow)), (d 3, .inl (cI, 40, .inl mr)), (d 4, .inl (cI, 40, .inl va))] (va_A [(d 0, .inr (2, [.ref (d 1), .ref (d 2), .ref (d 3), .ref (d 4), .int (nI fi), .int (nI sz)])), (d 1, .inl (cI, 40, .inl ki)), (d 2, .inl (cI, 40, .inl ow)), (d 3, .inl (cI, 40, .inl mr)), (d 4, .inl (cI, 40, .inl va))] zz) t) (va_A [(d 0, .inr (2, [.ref (d 1), .ref (d 2), .ref (d 3), .ref (d 4), .int (nI fi), .int (nI sz)])), (d 1, .inl (cI, 40, .inl ki)), (d 2, .inl (cI, 40, .inl ow)), (d 3, .inl (cI, 40, .inl mr)), (d 4, .inl (cI, 40, .inl va))] zz)) 0 0 (va_A [(d 0, .inr (2, [.ref (d 1), .ref (d 2), .ref (d 3), .ref (d 4), .int (nI fi), .int (nI sz)])), (d 1, .inl (cI, 40, .inl ki)), (d 2, .inl (cI, 40, .inl ow)), (d 3, .inl (cI, 40, .inl mr)), (d 4, .inl (cI, 40, .inl va))] zz) := by
  refine Met.ofW (cc := cX2_slotOf) (maxL := 2) (ret := (some .int)) (by decide) rfl ?_
  intro p e s m args below meth c s₁ B hml hv
  obtain ⟨rfl, hsz, hP, hK, hD0, hN⟩ := hv
  have hx := B.exec
  have hb := B.bytes
  have hr := B.returns
  have hts := atoms_spec (ws := wsX2_slotOf) B.pre
  have hown : s.vm.findClass RX2 = some m.cls := findClass_of_methodNamed B.named
  have hlocks := B.notSynchronized
  subst hsz
  have hD := hD0.self (sz := s.heap.size)
  generalize hAe : va_A [(d 0, .inr (2, [.ref (d 1), .ref (d 2), .ref (d 3), .ref (d 4), .int (nI fi), .int (nI sz)])), (d 1, .inl (cI, 40, .inl ki)), (d 2, .inl (cI, 40, .inl ow)), (d 3, .inl (cI, 40, .inl mr)), (d 4, .inl (cI, 40, .inl va))] s.heap.size = A at hD hN ⊢
  have hA : ∀ q : Nat, s.heap.size ≤ q → A q := fun q h => by rw [← hAe]; exact Or.inr h
  have hS : va_S A s.heap s.heap [] := va_S.rf
  have hl := lv_entry ([.ref (d 0), .int (nI k)]) (n := 2) (Nat.le_of_ble_eq_true rfl)
  rw [lg_entry_eq]
  generalize (lg_sl ([.ref (d 0), .int (nI k)]) ++ List.replicate (2 - (lg_sl ([.ref (d 0), .int (nI k)])).length) Slot.unset).toArray = ls at hl ⊢
  have hl : lv_has ls 2 [(0, .ref (d 0)), (1, .int (nI k))] := hl
  have hP : va_P G vwCl [(d 0, .inr (2, [.ref (d 1), .ref (d 2), .ref (d 3), .ref (d 4), .int (nI fi), .int (nI sz)])), (d 1, .inl (cI, 40, .inl ki)), (d 2, .inl (cI, 40, .inl ow)), (d 3, .inl (cI, 40, .inl mr)), (d 4, .inl (cI, 40, .inl va))] s.heap := hP
  obtain ⟨H, hH⟩ : ∃ H, H = s.heap := ⟨_, rfl⟩
  rw [← hH] at hP
  have hS : va_S A s.heap H [] := by rw [hH]; exact hS
  show W _ _ _ _ _ _ _ _ _ _ s.heap _ _ _ _ _
  rw [← hH]
  obtain ⟨locs, hlo⟩ : ∃ z : List Loc, z = [] := ⟨_, rfl⟩
  rw [← hlo] at hS ⊢
  refine lv_aload_n hx hb dX2_slotOf_0 rfl (lv_at hl 0 rfl) ?_
  refine va_get (D := G) (ci := 2) (v := .int (nI fi)) (C := RX2) (T := TX2) (N := 6) hx hb hts hi_X2_slotOf_X2 hown hK hP 0 rfl rfl 4 (by decide) (hts _ hk_X2_slotOf_f28) (fun _ h9 => h9) rfl dX2_slotOf_1 ?_
  refine lv_iload_n hx hb dX2_slotOf_4 rfl (lv_at hl 1 rfl) ?_
  refine lv_iadd hx hb dX2_slotOf_5 ?_
  refine gz_top (nI_add _ _) ?_
  refine lv_bipush (v := nI 40) hx hb dX2_slotOf_6 (by decide +kernel) ?_
  refine k_calli (S := Unit) (wc := []) (wr := [(d 0, .inr (2, [.ref (d 1), .ref (d 2), .ref (d 3), .ref (d 4), .int (nI fi), .int (nI sz)])), (d 1, .inl (cI, 40, .inl ki)), (d 2, .inl (cI, 40, .inl ow)), (d 3, .inl (cI, 40, .inl mr)), (d 4, .inl (cI, 40, .inl va))]) (w1 := fun u => []) (w2 := fun u => [(d 0, .inr (2, [.ref (d 1), .ref (d 2), .ref (d 3), .ref (d 4), .int (nI fi), .int (nI sz)])), (d 1, .inl (cI, 40, .inl ki)), (d 2, .inl (cI, 40, .inl ow)), (d 3, .inl (cI, 40, .inl mr)), (d 4, .inl (cI, 40, .inl va))]) (va_runS (As := [.int (nI (fi + k)), .int (nI 40)]) (rest := []) ⟨hx, hb, hml, hown, hts⟩ (c_J9_floorMod_7cf53 l G cI (fi + k) (by first | omega | assumption) H.size) (va_cwS 2 hts gX2_slotOf_J9_floorMod_7cf53 rfl rfl rfl (by decide +kernel) ⟨Nat.le_of_ble_eq_true rfl, Nat.le_of_ble_eq_true rfl⟩) ⟨kPre.blind, kPre.at hP hK hD hS hA hN [] rfl rfl⟩ rfl rfl hl.1 rfl (lv_room (Nat.le_of_ble_eq_true rfl)) dX2_slotOf_8 ⟨Nat.le_of_ble_eq_true rfl, Nat.le_of_ble_eq_true rfl⟩) hP hD hS hA [] [0, 1, 2, 3, 4] [0, 1, 2, 3, 4] rfl rfl ⟨rfl, by decide, rfl⟩ (fun _ => rfl) (fun r_1 u H locs hw_1 hP hD hS => ?_)
  subst hw_1
  have hP : va_P G vwCl [(d 0, .inr (2, [.ref (d 1), .ref (d 2), .ref (d 3), .ref (d 4), .int (nI fi), .int (nI sz)])), (d 1, .inl (cI, 40, .inl ki)), (d 2, .inl (cI, 40, .inl ow)), (d 3, .inl (cI, 40, .inl mr)), (d 4, .inl (cI, 40, .inl va))] H := hP
  have hD : va_D A [(d 0, .inr (2, [.ref (d 1), .ref (d 2), .ref (d 3), .ref (d 4), .int (nI fi), .int (nI sz)])), (d 1, .inl (cI, 40, .inl ki)), (d 2, .inl (cI, 40, .inl ow)), (d 3, .inl (cI, 40, .inl mr)), (d 4, .inl (cI, 40, .inl va))] := hD
  have hS9 := hS.2.2
  have hq9 : ((nI ((fi + k) % 40)) = nI ((fi + k) % 40)) := by rfl
  exact W.iret (v := nI ((fi + k) % 40)) hx hb hr (fun t ht hW => ⟨⟨nI ((fi + k) % 40), (), rfl, hq9, by rw [ht]; exact hP, hD⟩, hS.F ht⟩) hS9 dX2_slotOf_11

theorem hk_X2_send_f24 : (.fieldLink RX2 24 "Callgate$Lane" "size" "I" : Cond) ∈ wsX2_send := by decide +kernel
theorem hi_X2_send_X2 : ∀ w ∈ u_ws RX2 TX2 6, w ∈ wsX2_send := by decide +kernel
theorem hk_X2_send_f9 : (.fieldLink RX2 9 "Callgate$Lane" "kinds" "[I" : Cond) ∈ wsX2_send := by decide +kernel
theorem hk_X2_send_f15 : (.fieldLink RX2 15 "Callgate$Lane" "owners" "[I" : Cond) ∈ wsX2_send := by decide +kernel
theorem hk_X2_send_f18 : (.fieldLink RX2 18 "Callgate$Lane" "marks" "[I" : Cond) ∈ wsX2_send := by decide +kernel
theorem hk_X2_send_f21 : (.fieldLink RX2 21 "Callgate$Lane" "values" "[I" : Cond) ∈ wsX2_send := by decide +kernel
set_option maxHeartbeats 4000000 in
set_option maxRecDepth 100000 in
theorem c_X2_send (l : Launch) (G : va_G) (cI : ClassId) (d : Nat → Nat) (ki : Fn) (ow : Fn) (mr : Fn) (va : Fn) (fi : Nat) (sz : Nat) (kd : Int32) (o : Int32) (q : Int32) (v : Int32) (hf : fi < 40) (hs : sz ≤ 40) (zz : Nat) : Met l yX2_send wsX2_send ({ frames := 2, cells := 0, slots := 0, locals := 43 }) (va_Pc [.ref (d 0), .int kd, .int o, .int q, .int v] (kPre G cI [(d 0, .inr (2, [.ref (d 1), .ref (d 2), .ref (d 3), .ref (d 4), .int (nI fi), .int (nI sz)])), (d 1, .inl (cI, 40, .inl ki)), (d 2, .inl (cI, 40, .inl ow)), (d 3, .inl (cI, 40, .inl mr)), (d 4, .inl (cI, 40, .inl va))] zz)) (va_Qv (fun (u : Fn × Fn × Fn × Fn × Nat × Nat) => (u = l_send (ki, ow, mr, va, fi, sz) kd o q v) ∧ u.2.2.2.2.1 < 40 ∧ u.2.2.2.2.2 ≤ 40) (fun (u : Fn × Fn × Fn × Fn × Nat × Nat) t => kQ G [(d 0, .inr (2, [.ref (d 1), .ref (d 2), .ref (d 3), .ref (d 4), .int (nI u.2.2.2.2.1), .int (nI u.2.2.2.2.2)])), (d 1, .inl (cI, 40, .inl u.1)), (d 2, .inl (cI, 40, .inl u.2.1)), (d 3, .inl (cI, 40, .inl u.2.2.1)), (d 4, .inl (cI, 40, .inl u.2.2.2.1))] (va_A [(d 0, .inr (2, [.ref (d 1), .ref (d 2), .ref (d 3), .ref (d 4), .int (nI fi), .int (nI sz)])), (d 1, .inl (cI, 40, .inl ki)), (d 2, .inl (cI, 40, .inl ow)), (d 3, .inl (cI, 40, .inl mr)), (d 4, .inl (cI, 40, .inl va))] zz) t) (va_A [(d 0, .inr (2, [.ref (d 1), .ref (d 2), .ref (d 3), .ref (d 4), .int (nI fi), .int (nI sz)])), (d 1, .inl (cI, 40, .inl ki)), (d 2, .inl (cI, 40, .inl ow)), (d 3, .inl (cI, 40, .inl mr)), (d 4, .inl (cI, 40, .inl va))] zz)) 0 0 (va_A [(d 0, .inr (2, [.ref (d 1), .ref (d 2), .ref (d 3), .ref (d 4), .int (nI fi), .int (nI sz)])), (d 1, .inl (cI, 40, .inl ki)), (d 2, .inl (cI, 40, .inl ow)), (d 3, .inl (cI, 40, .inl mr)), (d 4, .inl (cI, 40, .inl va))] zz) := by
  refine Met.ofW (cc := cX2_send) (maxL := 6) (ret := none) (by decide) rfl ?_
  intro p e s m args below meth c s₁ B hml hv
  obtain ⟨rfl, hsz, hP, hK, hD0, hN⟩ := hv
  have hx := B.exec
  have hb := B.bytes
  have hr := B.returns
  have hts := atoms_spec (ws := wsX2_send) B.pre
  have hown : s.vm.findClass RX2 = some m.cls := findClass_of_methodNamed B.named
  have hlocks := B.notSynchronized
  subst hsz
  have hD := hD0.self (sz := s.heap.size)
  generalize hAe : va_A [(d 0, .inr (2, [.ref (d 1), .ref (d 2), .ref (d 3), .ref (d 4), .int (nI fi), .int (nI sz)])), (d 1, .inl (cI, 40, .inl ki)), (d 2, .inl (cI, 40, .inl ow)), (d 3, .inl (cI, 40, .inl mr)), (d 4, .inl (cI, 40, .inl va))] s.heap.size = A at hD hN ⊢
  have hA : ∀ q : Nat, s.heap.size ≤ q → A q := fun q h => by rw [← hAe]; exact Or.inr h
  have hS : va_S A s.heap s.heap [] := va_S.rf
  have hl := lv_entry ([.ref (d 0), .int kd, .int o, .int q, .int v]) (n := 6) (Nat.le_of_ble_eq_true rfl)
  rw [lg_entry_eq]
  generalize (lg_sl ([.ref (d 0), .int kd, .int o, .int q, .int v]) ++ List.replicate (6 - (lg_sl ([.ref (d 0), .int kd, .int o, .int q, .int v])).length) Slot.unset).toArray = ls at hl ⊢
  have hl : lv_has ls 6 [(0, .ref (d 0)), (1, .int kd), (2, .int o), (3, .int q), (4, .int v)] := hl
  have hP : va_P G vwCl [(d 0, .inr (2, [.ref (d 1), .ref (d 2), .ref (d 3), .ref (d 4), .int (nI fi), .int (nI sz)])), (d 1, .inl (cI, 40, .inl ki)), (d 2, .inl (cI, 40, .inl ow)), (d 3, .inl (cI, 40, .inl mr)), (d 4, .inl (cI, 40, .inl va))] s.heap := hP
  obtain ⟨H, hH⟩ : ∃ H, H = s.heap := ⟨_, rfl⟩
  rw [← hH] at hP
  have hS : va_S A s.heap H [] := by rw [hH]; exact hS
  show W _ _ _ _ _ _ _ _ _ _ s.heap _ _ _ _ _
  rw [← hH]
  obtain ⟨locs, hlo⟩ : ∃ z : List Loc, z = [] := ⟨_, rfl⟩
  rw [← hlo] at hS ⊢
  refine lv_aload_n hx hb dX2_send_0 rfl (lv_at hl 0 rfl) ?_
  refine va_get (D := G) (ci := 2) (v := .int (nI sz)) (C := RX2) (T := TX2) (N := 6) hx hb hts hi_X2_send_X2 hown hK hP 0 rfl rfl 5 (by decide) (hts _ hk_X2_send_f24) (fun _ h9 => h9) rfl dX2_send_1 ?_
  refine lv_bipush (v := nI 40) hx hb dX2_send_4 (by decide +kernel) ?_
  refine lv_icmp_lt (tgt := 10) hx hb dX2_send_6 (by decide) (fun c_1 => ?_) (fun c_1 => ?_)
  · have g_1 := (nI_ltI (a := sz) (b := 40) (by omega) (by omega)).mp c_1
    refine lv_aload_n hx hb dX2_send_10 rfl (lv_at hl 0 rfl) ?_
    refine lv_aload_n hx hb dX2_send_11 rfl (lv_at hl 0 rfl) ?_
    refine va_get (D := G) (ci := 2) (v := .int (nI sz)) (C := RX2) (T := TX2) (N := 6) hx hb hts hi_X2_send_X2 hown hK hP 0 rfl rfl 5 (by decide) (hts _ hk_X2_send_f24) (fun _ h9 => h9) rfl dX2_send_12 ?_
    refine k_calli (S := Unit) (wc := [(d 0, .inr (2, [.ref (d 1), .ref (d 2), .ref (d 3), .ref (d 4), .int (nI fi), .int (nI sz)])), (d 1, .inl (cI, 40, .inl ki)), (d 2, .inl (cI, 40, .inl ow)), (d 3, .inl (cI, 40, .inl mr)), (d 4, .inl (cI, 40, .inl va))]) (wr := []) (w1 := fun u => [(d 0, .inr (2, [.ref (d 1), .ref (d 2), .ref (d 3), .ref (d 4), .int (nI fi), .int (nI sz)])), (d 1, .inl (cI, 40, .inl ki)), (d 2, .inl (cI, 40, .inl ow)), (d 3, .inl (cI, 40, .inl mr)), (d 4, .inl (cI, 40, .inl va))]) (w2 := fun u => [(d 0, .inr (2, [.ref (d 1), .ref (d 2), .ref (d 3), .ref (d 4), .int (nI fi), .int (nI sz)])), (d 1, .inl (cI, 40, .inl ki)), (d 2, .inl (cI, 40, .inl ow)), (d 3, .inl (cI, 40, .inl mr)), (d 4, .inl (cI, 40, .inl va))]) (va_runV (As := [.int (nI sz)]) (rest := []) ⟨hx, hb, hml, hown, hts⟩ (c_X2_slotOf l G cI d ki ow mr va fi sz sz (by first | omega | assumption) (by first | omega | assumption) H.size) (cwV 1 hts gX2_send_X2_slotOf rfl rfl rfl (by decide +kernel) ⟨Nat.le_of_ble_eq_true rfl, Nat.le_of_ble_eq_true rfl⟩) ⟨kPre.blind, va_recv hK hP (ci := 2) (q0 := 0) rfl rfl, kPre.at hP hK hD hS hA hN [0, 1, 2, 3, 4] rfl rfl⟩ rfl rfl hl.1 rfl (lv_room (Nat.le_of_ble_eq_true rfl)) dX2_send_15 ⟨Nat.le_of_ble_eq_true rfl, Nat.le_of_ble_eq_true rfl⟩) hP hD hS hA [0, 1, 2, 3, 4] [] [0, 1, 2, 3, 4] rfl rfl ⟨rfl, by decide, rfl⟩ (fun _ => rfl) (fun r_2 u H locs hw_2 hP hD hS => ?_)
    subst hw_2
    have hP : va_P G vwCl [(d 0, .inr (2, [.ref (d 1), .ref (d 2), .ref (d 3), .ref (d 4), .int (nI fi), .int (nI sz)])), (d 1, .inl (cI, 40, .inl ki)), (d 2, .inl (cI, 40, .inl ow)), (d 3, .inl (cI, 40, .inl mr)), (d 4, .inl (cI, 40, .inl va))] H := hP
    have hD : va_D A [(d 0, .inr (2, [.ref (d 1), .ref (d 2), .ref (d 3), .ref (d 4), .int (nI fi), .int (nI sz)])), (d 1, .inl (cI, 40, .inl ki)), (d 2, .inl (cI, 40, .inl ow)), (d 3, .inl (cI, 40, .inl mr)), (d 4, .inl (cI, 40, .inl va))] := hD
    refine lv_istore (lv' := [(5, .int (nI ((fi + sz) % 40))), (0, .ref (d 0)), (1, .int kd), (2, .int o), (3, .int q), (4, .int v)]) hx hb dX2_send_18 hl (by decide) rfl (fun ls hl => ?_)
    refine lv_aload_n hx hb dX2_send_20 rfl (lv_at hl 1 rfl) ?_
    refine va_get (D := G) (ci := 2) (v := .ref (d 1)) (C := RX2) (T := TX2) (N := 6) hx hb hts hi_X2_send_X2 hown hK hP 0 rfl rfl 0 (by decide) (hts _ hk_X2_send_f9) (fun _ h9 => h9) rfl dX2_send_21 ?_
    refine lv_iload hx hb dX2_send_24 (lv_at hl 0 rfl) ?_
    refine lv_iload_n hx hb dX2_send_26 rfl (lv_at hl 2 rfl) ?_
    refine gz_iast hx hb hK hP hD hS 1 rfl rfl (k := (fi + sz) % 40) rfl (by omega) (by decide) dX2_send_27 (fun H locs hP hD hS => ?_)
    have hP : va_P G vwCl [(d 0, .inr (2, [.ref (d 1), .ref (d 2), .ref (d 3), .ref (d 4), .int (nI fi), .int (nI sz)])), (d 1, .inl (cI, 40, .inl (upd ki ((fi + sz) % 40) kd))), (d 2, .inl (cI, 40, .inl ow)), (d 3, .inl (cI, 40, .inl mr)), (d 4, .inl (cI, 40, .inl va))] H := hP
    have hD : va_D A [(d 0, .inr (2, [.ref (d 1), .ref (d 2), .ref (d 3), .ref (d 4), .int (nI fi), .int (nI sz)])), (d 1, .inl (cI, 40, .inl (upd ki ((fi + sz) % 40) kd))), (d 2, .inl (cI, 40, .inl ow)), (d 3, .inl (cI, 40, .inl mr)), (d 4, .inl (cI, 40, .inl va))] := hD
    refine lv_aload_n hx hb dX2_send_28 rfl (lv_at hl 1 rfl) ?_
    refine va_get (D := G) (ci := 2) (v := .ref (d 2)) (C := RX2) (T := TX2) (N := 6) hx hb hts hi_X2_send_X2 hown hK hP 0 rfl rfl 1 (by decide) (hts _ hk_X2_send_f15) (fun _ h9 => h9) rfl dX2_send_29 ?_
    refine lv_iload hx hb dX2_send_32 (lv_at hl 0 rfl) ?_
    refine lv_iload_n hx hb dX2_send_34 rfl (lv_at hl 3 rfl) ?_
    refine gz_iast hx hb hK hP hD hS 2 rfl rfl (k := (fi + sz) % 40) rfl (by omega) (by decide) dX2_send_35 (fun H locs hP hD hS => ?_)
    have hP : va_P G vwCl [(d 0, .inr (2, [.ref (d 1), .ref (d 2), .ref (d 3), .ref (d 4), .int (nI fi), .int (nI sz)])), (d 1, .inl (cI, 40, .inl (upd ki ((fi + sz) % 40) kd))), (d 2, .inl (cI, 40, .inl (upd ow ((fi + sz) % 40) o))), (d 3, .inl (cI, 40, .inl mr)), (d 4, .inl (cI, 40, .inl va))] H := hP
    have hD : va_D A [(d 0, .inr (2, [.ref (d 1), .ref (d 2), .ref (d 3), .ref (d 4), .int (nI fi), .int (nI sz)])), (d 1, .inl (cI, 40, .inl (upd ki ((fi + sz) % 40) kd))), (d 2, .inl (cI, 40, .inl (upd ow ((fi + sz) % 40) o))), (d 3, .inl (cI, 40, .inl mr)), (d 4, .inl (cI, 40, .inl va))] := hD
    refine lv_aload_n hx hb dX2_send_36 rfl (lv_at hl 1 rfl) ?_
    refine va_get (D := G) (ci := 2) (v := .ref (d 3)) (C := RX2) (T := TX2) (N := 6) hx hb hts hi_X2_send_X2 hown hK hP 0 rfl rfl 2 (by decide) (hts _ hk_X2_send_f18) (fun _ h9 => h9) rfl dX2_send_37 ?_
    refine lv_iload hx hb dX2_send_40 (lv_at hl 0 rfl) ?_
    refine lv_iload_n hx hb dX2_send_42 rfl (lv_at hl 4 rfl) ?_
    refine gz_iast hx hb hK hP hD hS 3 rfl rfl (k := (fi + sz) % 40) rfl (by omega) (by decide) dX2_send_43 (fun H locs hP hD hS => ?_)
    have hP : va_P G vwCl [(d 0, .inr (2, [.ref (d 1), .ref (d 2), .ref (d 3), .ref (d 4), .int (nI fi), .int (nI sz)])), (d 1, .inl (cI, 40, .inl (upd ki ((fi + sz) % 40) kd))), (d 2, .inl (cI, 40, .inl (upd ow ((fi + sz) % 40) o))), (d 3, .inl (cI, 40, .inl (upd mr ((fi + sz) % 40) q))), (d 4, .inl (cI, 40, .inl va))] H := hP
    have hD : va_D A [(d 0, .inr (2, [.ref (d 1), .ref (d 2), .ref (d 3), .ref (d 4), .int (nI fi), .int (nI sz)])), (d 1, .inl (cI, 40, .inl (upd ki ((fi + sz) % 40) kd))), (d 2, .inl (cI, 40, .inl (upd ow ((fi + sz) % 40) o))), (d 3, .inl (cI, 40, .inl (upd mr ((fi + sz) % 40) q))), (d 4, .inl (cI, 40, .inl va))] := hD
    refine lv_aload_n hx hb dX2_send_44 rfl (lv_at hl 1 rfl) ?_
    refine va_get (D := G) (ci := 2) (v := .ref (d 4)) (C := RX2) (T := TX2) (N := 6) hx hb hts hi_X2_send_X2 hown hK hP 0 rfl rfl 3 (by decide) (hts _ hk_X2_send_f21) (fun _ h9 => h9) rfl dX2_send_45 ?_
    refine lv_iload hx hb dX2_send_48 (lv_at hl 0 rfl) ?_
    refine lv_iload hx hb dX2_send_50 (lv_at hl 5 rfl) ?_
    refine gz_iast hx hb hK hP hD hS 4 rfl rfl (k := (fi + sz) % 40) rfl (by omega) (by decide) dX2_send_52 (fun H locs hP hD hS => ?_)
    have hP : va_P G vwCl [(d 0, .inr (2, [.ref (d 1), .ref (d 2), .ref (d 3), .ref (d 4), .int (nI fi), .int (nI sz)])), (d 1, .inl (cI, 40, .inl (upd ki ((fi + sz) % 40) kd))), (d 2, .inl (cI, 40, .inl (upd ow ((fi + sz) % 40) o))), (d 3, .inl (cI, 40, .inl (upd mr ((fi + sz) % 40) q))), (d 4, .inl (cI, 40, .inl (upd va ((fi + sz) % 40) v)))] H := hP
    have hD : va_D A [(d 0, .inr (2, [.ref (d 1), .ref (d 2), .ref (d 3), .ref (d 4), .int (nI fi), .int (nI sz)])), (d 1, .inl (cI, 40, .inl (upd ki ((fi + sz) % 40) kd))), (d 2, .inl (cI, 40, .inl (upd ow ((fi + sz) % 40) o))), (d 3, .inl (cI, 40, .inl (upd mr ((fi + sz) % 40) q))), (d 4, .inl (cI, 40, .inl (upd va ((fi + sz) % 40) v)))] := hD
    refine lv_aload_n hx hb dX2_send_53 rfl (lv_at hl 1 rfl) ?_
    refine lv_dup hx hb dX2_send_54 rfl ?_
    refine va_get (D := G) (ci := 2) (v := .int (nI sz)) (C := RX2) (T := TX2) (N := 6) hx hb hts hi_X2_send_X2 hown hK hP 0 rfl rfl 5 (by decide) (hts _ hk_X2_send_f24) (fun _ h9 => h9) rfl dX2_send_55 ?_
    refine lv_iconst (v := nI 1) hx hb dX2_send_58 (by decide +kernel) ?_
    refine lv_iadd hx hb dX2_send_59 ?_
    refine gz_top (nI_add _ _) ?_
    refine va_put (D := G) (ci := 2) (v := .int (nI (sz + 1))) (ty := .int) (C := RX2) (T := TX2) (N := 6) hx hb hts hi_X2_send_X2 tyX2 tyX2_ok nmX2 hown hK hP hD hS 0 rfl rfl 5 (by decide) (hts _ hk_X2_send_f24) (fun _ h9 => h9) rfl (by decide +kernel) rfl rfl (Nat.le_of_ble_eq_true rfl) dX2_send_60 (fun H locs hP hD hS => ?_)
    have hP : va_P G vwCl [(d 0, .inr (2, [.ref (d 1), .ref (d 2), .ref (d 3), .ref (d 4), .int (nI fi), .int (nI (sz + 1))])), (d 1, .inl (cI, 40, .inl (upd ki ((fi + sz) % 40) kd))), (d 2, .inl (cI, 40, .inl (upd ow ((fi + sz) % 40) o))), (d 3, .inl (cI, 40, .inl (upd mr ((fi + sz) % 40) q))), (d 4, .inl (cI, 40, .inl (upd va ((fi + sz) % 40) v)))] H := hP
    have hD : va_D A [(d 0, .inr (2, [.ref (d 1), .ref (d 2), .ref (d 3), .ref (d 4), .int (nI fi), .int (nI (sz + 1))])), (d 1, .inl (cI, 40, .inl (upd ki ((fi + sz) % 40) kd))), (d 2, .inl (cI, 40, .inl (upd ow ((fi + sz) % 40) o))), (d 3, .inl (cI, 40, .inl (upd mr ((fi + sz) % 40) q))), (d 4, .inl (cI, 40, .inl (upd va ((fi + sz) % 40) v)))] := hD
    have hS9 := hS.2.2
    have hq9 : (((upd ki ((fi + sz) % 40) kd, upd ow ((fi + sz) % 40) o, upd mr ((fi + sz) % 40) q, upd va ((fi + sz) % 40) v, fi, sz + 1) : Fn × Fn × Fn × Fn × Nat × Nat) = l_send (ki, ow, mr, va, fi, sz) kd o q v) ∧ fi < 40 ∧ sz + 1 ≤ 40 := by refine ⟨?_, by omega, by omega⟩; simp only [l_send, ↓reduceIte, eq_self, nI_10, and_true, true_and, and_false, false_and, not_true_eq_false, not_false_eq_true, Bool.and_true, Bool.true_and, Bool.and_false, Bool.false_and, decide_true, decide_false, Bool.false_eq_true, eq_true g_1]
    exact W.vret hx hb hr (fun t ht hW => ⟨⟨(upd ki ((fi + sz) % 40) kd, upd ow ((fi + sz) % 40) o, upd mr ((fi + sz) % 40) q, upd va ((fi + sz) % 40) v, fi, sz + 1), rfl, hq9, by rw [ht]; exact hP, hD⟩, hS.F ht⟩) hS9 dX2_send_63
  · have g_1 := (not_congr (nI_ltI (a := sz) (b := 40) (by omega) (by omega))).mp c_1
    have hS9 := hS.2.2
    have hq9 : (((ki, ow, mr, va, fi, sz) : Fn × Fn × Fn × Fn × Nat × Nat) = l_send (ki, ow, mr, va, fi, sz) kd o q v) ∧ fi < 40 ∧ sz ≤ 40 := by refine ⟨?_, by omega, by omega⟩; simp only [l_send, ↓reduceIte, eq_self, nI_10, and_true, true_and, and_false, false_and, not_true_eq_false, not_false_eq_true, Bool.and_true, Bool.true_and, Bool.and_false, Bool.false_and, decide_true, decide_false, Bool.false_eq_true, eq_false g_1]
    exact W.vret hx hb hr (fun t ht hW => ⟨⟨(ki, ow, mr, va, fi, sz), rfl, hq9, by rw [ht]; exact hP, hD⟩, hS.F ht⟩) hS9 dX2_send_9

theorem hk_X2_removeFirst_f28 : (.fieldLink RX2 28 "Callgate$Lane" "first" "I" : Cond) ∈ wsX2_removeFirst := by decide +kernel
theorem hi_X2_removeFirst_X2 : ∀ w ∈ u_ws RX2 TX2 6, w ∈ wsX2_removeFirst := by decide +kernel
theorem hk_X2_removeFirst_f24 : (.fieldLink RX2 24 "Callgate$Lane" "size" "I" : Cond) ∈ wsX2_removeFirst := by decide +kernel
set_option maxHeartbeats 4000000 in
set_option maxRecDepth 100000 in
theorem c_X2_removeFirst (l : Launch) (G : va_G) (cI : ClassId) (d : Nat → Nat) (ki : Fn) (ow : Fn) (mr : Fn) (va : Fn) (fi : Nat) (sz : Nat) (hf : fi < 40) (hs : sz ≤ 40) (h0 : 0 < sz) (zz : Nat) : Met l yX2_removeFirst wsX2_removeFirst ({ frames := 2, cells := 0, slots := 0, locals := 43 }) (va_Pc [.ref (d 0)] (kPre G cI [(d 0, .inr (2, [.ref (d 1), .ref (d 2), .ref (d 3), .ref (d 4), .int (nI fi), .int (nI sz)])), (d 1, .inl (cI, 40, .inl ki)), (d 2, .inl (cI, 40, .inl ow)), (d 3, .inl (cI, 40, .inl mr)), (d 4, .inl (cI, 40, .inl va))] zz)) (va_Qv (fun (u : Unit) => (True)) (fun (u : Unit) t => kQ G [(d 0, .inr (2, [.ref (d 1), .ref (d 2), .ref (d 3), .ref (d 4), .int (nI ((fi + 1) % 40)), .int (nI (sz - 1))])), (d 1, .inl (cI, 40, .inl ki)), (d 2, .inl (cI, 40, .inl ow)), (d 3, .inl (cI, 40, .inl mr)), (d 4, .inl (cI, 40, .inl va))] (va_A [(d 0, .inr (2, [.ref (d 1), .ref (d 2), .ref (d 3), .ref (d 4), .int (nI fi), .int (nI sz)])), (d 1, .inl (cI, 40, .inl ki)), (d 2, .inl (cI, 40, .inl ow)), (d 3, .inl (cI, 40, .inl mr)), (d 4, .inl (cI, 40, .inl va))] zz) t) (va_A [(d 0, .inr (2, [.ref (d 1), .ref (d 2), .ref (d 3), .ref (d 4), .int (nI fi), .int (nI sz)])), (d 1, .inl (cI, 40, .inl ki)), (d 2, .inl (cI, 40, .inl ow)), (d 3, .inl (cI, 40, .inl mr)), (d 4, .inl (cI, 40, .inl va))] zz)) 0 0 (va_A [(d 0, .inr (2, [.ref (d 1), .ref (d 2), .ref (d 3), .ref (d 4), .int (nI fi), .int (nI sz)])), (d 1, .inl (cI, 40, .inl ki)), (d 2, .inl (cI, 40, .inl ow)), (d 3, .inl (cI, 40, .inl mr)), (d 4, .inl (cI, 40, .inl va))] zz) := by
  refine Met.ofW (cc := cX2_removeFirst) (maxL := 1) (ret := none) (by decide) rfl ?_
  intro p e s m args below meth c s₁ B hml hv
  obtain ⟨rfl, hsz, hP, hK, hD0, hN⟩ := hv
  have hx := B.exec
  have hb := B.bytes
  have hr := B.returns
  have hts := atoms_spec (ws := wsX2_removeFirst) B.pre
  have hown : s.vm.findClass RX2 = some m.cls := findClass_of_methodNamed B.named
  have hlocks := B.notSynchronized
  subst hsz
  have hD := hD0.self (sz := s.heap.size)
  generalize hAe : va_A [(d 0, .inr (2, [.ref (d 1), .ref (d 2), .ref (d 3), .ref (d 4), .int (nI fi), .int (nI sz)])), (d 1, .inl (cI, 40, .inl ki)), (d 2, .inl (cI, 40, .inl ow)), (d 3, .inl (cI, 40, .inl mr)), (d 4, .inl (cI, 40, .inl va))] s.heap.size = A at hD hN ⊢
  have hA : ∀ q : Nat, s.heap.size ≤ q → A q := fun q h => by rw [← hAe]; exact Or.inr h
  have hS : va_S A s.heap s.heap [] := va_S.rf
  have hl := lv_entry ([.ref (d 0)]) (n := 1) (Nat.le_of_ble_eq_true rfl)
  rw [lg_entry_eq]
  generalize (lg_sl ([.ref (d 0)]) ++ List.replicate (1 - (lg_sl ([.ref (d 0)])).length) Slot.unset).toArray = ls at hl ⊢
  have hl : lv_has ls 1 [(0, .ref (d 0))] := hl
  have hP : va_P G vwCl [(d 0, .inr (2, [.ref (d 1), .ref (d 2), .ref (d 3), .ref (d 4), .int (nI fi), .int (nI sz)])), (d 1, .inl (cI, 40, .inl ki)), (d 2, .inl (cI, 40, .inl ow)), (d 3, .inl (cI, 40, .inl mr)), (d 4, .inl (cI, 40, .inl va))] s.heap := hP
  obtain ⟨H, hH⟩ : ∃ H, H = s.heap := ⟨_, rfl⟩
  rw [← hH] at hP
  have hS : va_S A s.heap H [] := by rw [hH]; exact hS
  show W _ _ _ _ _ _ _ _ _ _ s.heap _ _ _ _ _
  rw [← hH]
  obtain ⟨locs, hlo⟩ : ∃ z : List Loc, z = [] := ⟨_, rfl⟩
  rw [← hlo] at hS ⊢
  refine lv_aload_n hx hb dX2_removeFirst_0 rfl (lv_at hl 0 rfl) ?_
  refine lv_aload_n hx hb dX2_removeFirst_1 rfl (lv_at hl 0 rfl) ?_
  refine lv_iconst (v := nI 1) hx hb dX2_removeFirst_2 (by decide +kernel) ?_
  refine k_calli (S := Unit) (wc := [(d 0, .inr (2, [.ref (d 1), .ref (d 2), .ref (d 3), .ref (d 4), .int (nI fi), .int (nI sz)])), (d 1, .inl (cI, 40, .inl ki)), (d 2, .inl (cI, 40, .inl ow)), (d 3, .inl (cI, 40, .inl mr)), (d 4, .inl (cI, 40, .inl va))]) (wr := []) (w1 := fun u => [(d 0, .inr (2, [.ref (d 1), .ref (d 2), .ref (d 3), .ref (d 4), .int (nI fi), .int (nI sz)])), (d 1, .inl (cI, 40, .inl ki)), (d 2, .inl (cI, 40, .inl ow)), (d 3, .inl (cI, 40, .inl mr)), (d 4, .inl (cI, 40, .inl va))]) (w2 := fun u => [(d 0, .inr (2, [.ref (d 1), .ref (d 2), .ref (d 3), .ref (d 4), .int (nI fi), .int (nI sz)])), (d 1, .inl (cI, 40, .inl ki)), (d 2, .inl (cI, 40, .inl ow)), (d 3, .inl (cI, 40, .inl mr)), (d 4, .inl (cI, 40, .inl va))]) (va_runV (As := [.int (nI 1)]) (rest := [.ref (d 0)]) ⟨hx, hb, hml, hown, hts⟩ (c_X2_slotOf l G cI d ki ow mr va fi sz 1 (by first | omega | assumption) (by first | omega | assumption) H.size) (cwV 1 hts gX2_removeFirst_X2_slotOf rfl rfl rfl (by decide +kernel) ⟨Nat.le_of_ble_eq_true rfl, Nat.le_of_ble_eq_true rfl⟩) ⟨kPre.blind, va_recv hK hP (ci := 2) (q0 := 0) rfl rfl, kPre.at hP hK hD hS hA hN [0, 1, 2, 3, 4] rfl rfl⟩ rfl rfl hl.1 rfl (lv_room (Nat.le_of_ble_eq_true rfl)) dX2_removeFirst_3 ⟨Nat.le_of_ble_eq_true rfl, Nat.le_of_ble_eq_true rfl⟩) hP hD hS hA [0, 1, 2, 3, 4] [] [0, 1, 2, 3, 4] rfl rfl ⟨rfl, by decide, rfl⟩ (fun _ => rfl) (fun r_1 u H locs hw_1 hP hD hS => ?_)
  subst hw_1
  have hP : va_P G vwCl [(d 0, .inr (2, [.ref (d 1), .ref (d 2), .ref (d 3), .ref (d 4), .int (nI fi), .int (nI sz)])), (d 1, .inl (cI, 40, .inl ki)), (d 2, .inl (cI, 40, .inl ow)), (d 3, .inl (cI, 40, .inl mr)), (d 4, .inl (cI, 40, .inl va))] H := hP
  have hD : va_D A [(d 0, .inr (2, [.ref (d 1), .ref (d 2), .ref (d 3), .ref (d 4), .int (nI fi), .int (nI sz)])), (d 1, .inl (cI, 40, .inl ki)), (d 2, .inl (cI, 40, .inl ow)), (d 3, .inl (cI, 40, .inl mr)), (d 4, .inl (cI, 40, .inl va))] := hD
  refine va_put (D := G) (ci := 2) (v := .int (nI ((fi + 1) % 40))) (ty := .int) (C := RX2) (T := TX2) (N := 6) hx hb hts hi_X2_removeFirst_X2 tyX2 tyX2_ok nmX2 hown hK hP hD hS 0 rfl rfl 4 (by decide) (hts _ hk_X2_removeFirst_f28) (fun _ h9 => h9) rfl (by decide +kernel) rfl rfl (Nat.le_of_ble_eq_true rfl) dX2_removeFirst_6 (fun H locs hP hD hS => ?_)
  have hP : va_P G vwCl [(d 0, .inr (2, [.ref (d 1), .ref (d 2), .ref (d 3), .ref (d 4), .int (nI ((fi + 1) % 40)), .int (nI sz)])), (d 1, .inl (cI, 40, .inl ki)), (d 2, .inl (cI, 40, .inl ow)), (d 3, .inl (cI, 40, .inl mr)), (d 4, .inl (cI, 40, .inl va))] H := hP
  have hD : va_D A [(d 0, .inr (2, [.ref (d 1), .ref (d 2), .ref (d 3), .ref (d 4), .int (nI ((fi + 1) % 40)), .int (nI sz)])), (d 1, .inl (cI, 40, .inl ki)), (d 2, .inl (cI, 40, .inl ow)), (d 3, .inl (cI, 40, .inl mr)), (d 4, .inl (cI, 40, .inl va))] := hD
  refine lv_aload_n hx hb dX2_removeFirst_9 rfl (lv_at hl 0 rfl) ?_
  refine lv_dup hx hb dX2_removeFirst_10 rfl ?_
  refine va_get (D := G) (ci := 2) (v := .int (nI sz)) (C := RX2) (T := TX2) (N := 6) hx hb hts hi_X2_removeFirst_X2 hown hK hP 0 rfl rfl 5 (by decide) (hts _ hk_X2_removeFirst_f24) (fun _ h9 => h9) rfl dX2_removeFirst_11 ?_
  refine lv_iconst (v := nI 1) hx hb dX2_removeFirst_14 (by decide +kernel) ?_
  refine lv_isub hx hb dX2_removeFirst_15 ?_
  refine gz_top (pk_sub (by omega)) ?_
  refine va_put (D := G) (ci := 2) (v := .int (nI (sz - 1))) (ty := .int) (C := RX2) (T := TX2) (N := 6) hx hb hts hi_X2_removeFirst_X2 tyX2 tyX2_ok nmX2 hown hK hP hD hS 0 rfl rfl 5 (by decide) (hts _ hk_X2_removeFirst_f24) (fun _ h9 => h9) rfl (by decide +kernel) rfl rfl (Nat.le_of_ble_eq_true rfl) dX2_removeFirst_16 (fun H locs hP hD hS => ?_)
  have hP : va_P G vwCl [(d 0, .inr (2, [.ref (d 1), .ref (d 2), .ref (d 3), .ref (d 4), .int (nI ((fi + 1) % 40)), .int (nI (sz - 1))])), (d 1, .inl (cI, 40, .inl ki)), (d 2, .inl (cI, 40, .inl ow)), (d 3, .inl (cI, 40, .inl mr)), (d 4, .inl (cI, 40, .inl va))] H := hP
  have hD : va_D A [(d 0, .inr (2, [.ref (d 1), .ref (d 2), .ref (d 3), .ref (d 4), .int (nI ((fi + 1) % 40)), .int (nI (sz - 1))])), (d 1, .inl (cI, 40, .inl ki)), (d 2, .inl (cI, 40, .inl ow)), (d 3, .inl (cI, 40, .inl mr)), (d 4, .inl (cI, 40, .inl va))] := hD
  have hS9 := hS.2.2
  have hq9 : (True) := by trivial
  exact W.vret hx hb hr (fun t ht hW => ⟨⟨(), rfl, hq9, by rw [ht]; exact hP, hD⟩, hS.F ht⟩) hS9 dX2_removeFirst_19

