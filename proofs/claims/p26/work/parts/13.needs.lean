theorem hk_X4_needCall_f10 : (.fieldLink RX4 10 "Callgate" "book" "LCallgate$Book;" : Cond) ∈ wsX4_needCall := by decide +kernel
theorem hi_X4_needCall_X4 : ∀ w ∈ u_ws RX4 TX4 6, w ∈ wsX4_needCall := by decide +kernel
theorem hk_X4_needCall_iX0 : (.initialized RX0 : Cond) ∈ wsX4_needCall := by decide +kernel
theorem hk_X4_needCall_nX0_has : (.instanceMethod yX0_has : Cond) ∈ wsX4_needCall := by decide +kernel
theorem hk_X4_needCall_sX0_has : (.selects RX0 yX0_has yX0_has : Cond) ∈ wsX4_needCall := by decide +kernel
set_option maxHeartbeats 4000000 in
set_option maxRecDepth 100000 in
theorem c_X4_needCall (l : Launch) (G : va_G) (cI : ClassId) (ga ba d0 d1 ca sa : Nat → Nat) (ti : Int32) (me : Fn) (ar : Fn) (dl : Fn) (n : Nat) (x : Int32) (hn : n ≤ 40) (hPP : g_has n x = true) (zz : Nat) : Met l yX4_needCall wsX4_needCall ({ frames := 1, cells := 0, slots := 0, locals := 21 }) (va_Pc [.ref (ga 0), .int x] (kPre G cI [(ga 0, .inr (4, [.ref (ba 0), .ref (d0 0), .ref (d1 0), .ref (ca 0), .ref (sa 0), .int ti])), (ba 0, .inr (0, [.ref (ba 1), .ref (ba 2), .ref (ba 3), .int (nI n)])), (ba 1, .inl (cI, 40, .inl me)), (ba 2, .inl (cI, 40, .inl ar)), (ba 3, .inl (cI, 40, .inl dl))] zz)) (va_Qv (fun (u : Unit) => (True)) (fun (u : Unit) t => kQ G [(ga 0, .inr (4, [.ref (ba 0), .ref (d0 0), .ref (d1 0), .ref (ca 0), .ref (sa 0), .int ti])), (ba 0, .inr (0, [.ref (ba 1), .ref (ba 2), .ref (ba 3), .int (nI n)])), (ba 1, .inl (cI, 40, .inl me)), (ba 2, .inl (cI, 40, .inl ar)), (ba 3, .inl (cI, 40, .inl dl))] (va_A [(ga 0, .inr (4, [.ref (ba 0), .ref (d0 0), .ref (d1 0), .ref (ca 0), .ref (sa 0), .int ti])), (ba 0, .inr (0, [.ref (ba 1), .ref (ba 2), .ref (ba 3), .int (nI n)])), (ba 1, .inl (cI, 40, .inl me)), (ba 2, .inl (cI, 40, .inl ar)), (ba 3, .inl (cI, 40, .inl dl))] zz) t) (va_A [(ga 0, .inr (4, [.ref (ba 0), .ref (d0 0), .ref (d1 0), .ref (ca 0), .ref (sa 0), .int ti])), (ba 0, .inr (0, [.ref (ba 1), .ref (ba 2), .ref (ba 3), .int (nI n)])), (ba 1, .inl (cI, 40, .inl me)), (ba 2, .inl (cI, 40, .inl ar)), (ba 3, .inl (cI, 40, .inl dl))] zz)) 0 0 (va_A [(ga 0, .inr (4, [.ref (ba 0), .ref (d0 0), .ref (d1 0), .ref (ca 0), .ref (sa 0), .int ti])), (ba 0, .inr (0, [.ref (ba 1), .ref (ba 2), .ref (ba 3), .int (nI n)])), (ba 1, .inl (cI, 40, .inl me)), (ba 2, .inl (cI, 40, .inl ar)), (ba 3, .inl (cI, 40, .inl dl))] zz) := by
  refine Met.ofW (cc := cX4_needCall) (maxL := 2) (ret := none) (by decide) rfl ?_
  intro p e s m args below meth c s₁ B hml hv
  obtain ⟨rfl, hsz, hP, hK, hD0, hN⟩ := hv
  have hx := B.exec
  have hb := B.bytes
  have hr := B.returns
  have hts := atoms_spec (ws := wsX4_needCall) B.pre
  have hown : s.vm.findClass RX4 = some m.cls := findClass_of_methodNamed B.named
  have hlocks := B.notSynchronized
  subst hsz
  have hD := hD0.self (sz := s.heap.size)
  generalize hAe : va_A [(ga 0, .inr (4, [.ref (ba 0), .ref (d0 0), .ref (d1 0), .ref (ca 0), .ref (sa 0), .int ti])), (ba 0, .inr (0, [.ref (ba 1), .ref (ba 2), .ref (ba 3), .int (nI n)])), (ba 1, .inl (cI, 40, .inl me)), (ba 2, .inl (cI, 40, .inl ar)), (ba 3, .inl (cI, 40, .inl dl))] s.heap.size = A at hD hN ⊢
  have hA : ∀ q : Nat, s.heap.size ≤ q → A q := fun q h => by rw [← hAe]; exact Or.inr h
  have hS : va_S A s.heap s.heap [] := va_S.rf
  have hl := lv_entry ([.ref (ga 0), .int x]) (n := 2) (Nat.le_of_ble_eq_true rfl)
  rw [lg_entry_eq]
  generalize (lg_sl ([.ref (ga 0), .int x]) ++ List.replicate (2 - (lg_sl ([.ref (ga 0), .int x])).length) Slot.unset).toArray = ls at hl ⊢
  have hl : lv_has ls 2 [(0, .ref (ga 0)), (1, .int x)] := hl
  have hP : va_P G vwCl [(ga 0, .inr (4, [.ref (ba 0), .ref (d0 0), .ref (d1 0), .ref (ca 0), .ref (sa 0), .int ti])), (ba 0, .inr (0, [.ref (ba 1), .ref (ba 2), .ref (ba 3), .int (nI n)])), (ba 1, .inl (cI, 40, .inl me)), (ba 2, .inl (cI, 40, .inl ar)), (ba 3, .inl (cI, 40, .inl dl))] s.heap := hP
  obtain ⟨H, hH⟩ : ∃ H, H = s.heap := ⟨_, rfl⟩
  rw [← hH] at hP
  have hS : va_S A s.heap H [] := by rw [hH]; exact hS
  show W _ _ _ _ _ _ _ _ _ _ s.heap _ _ _ _ _
  rw [← hH]
  obtain ⟨locs, hlo⟩ : ∃ z : List Loc, z = [] := ⟨_, rfl⟩
  rw [← hlo] at hS ⊢
  refine lv_aload_n hx hb dX4_needCall_0 rfl (lv_at hl 0 rfl) ?_
  refine va_get (D := G) (ci := 4) (v := .ref (ba 0)) (C := RX4) (T := TX4) (N := 6) hx hb hts hi_X4_needCall_X4 hown hK hP 0 rfl rfl 0 (by decide) (hts _ hk_X4_needCall_f10) (fun _ h9 => h9) rfl dX4_needCall_1 ?_
  refine lv_iload_n hx hb dX4_needCall_4 rfl (lv_at hl 1 rfl) ?_
  refine k_calli (S := Unit) (wc := [(ba 0, .inr (0, [.ref (ba 1), .ref (ba 2), .ref (ba 3), .int (nI n)])), (ba 1, .inl (cI, 40, .inl me)), (ba 2, .inl (cI, 40, .inl ar)), (ba 3, .inl (cI, 40, .inl dl))]) (wr := [(ga 0, .inr (4, [.ref (ba 0), .ref (d0 0), .ref (d1 0), .ref (ca 0), .ref (sa 0), .int ti]))]) (w1 := fun u => [(ba 0, .inr (0, [.ref (ba 1), .ref (ba 2), .ref (ba 3), .int (nI n)])), (ba 1, .inl (cI, 40, .inl me)), (ba 2, .inl (cI, 40, .inl ar)), (ba 3, .inl (cI, 40, .inl dl))]) (w2 := fun u => [(ga 0, .inr (4, [.ref (ba 0), .ref (d0 0), .ref (d1 0), .ref (ca 0), .ref (sa 0), .int ti])), (ba 0, .inr (0, [.ref (ba 1), .ref (ba 2), .ref (ba 3), .int (nI n)])), (ba 1, .inl (cI, 40, .inl me)), (ba 2, .inl (cI, 40, .inl ar)), (ba 3, .inl (cI, 40, .inl dl))]) (va_runVN (As := [.int x]) (rest := []) ⟨hx, hb, hml, hown, hts⟩ (c_X0_has l G cI ba me ar dl n x (by first | omega | assumption) H.size) ⟨va_cnB (host := RX4) 1 hts gX4_needCall_X0_has_n181 rfl rfl rfl (hN.1 _ (List.mem_of_getElem? (i := 26) rfl)) (hts _ hk_X4_needCall_iX0) (by decide +kernel) ⟨Nat.le_of_ble_eq_true rfl, Nat.le_of_ble_eq_true rfl⟩, (hts _ hk_X4_needCall_nX0_has), (hts _ hk_X4_needCall_sX0_has)⟩ ⟨kPre.blind, va_recv hK hP (ci := 0) (q0 := 1) rfl rfl, kPre.at hP hK hD hS hA hN [1, 2, 3, 4] rfl rfl⟩ rfl rfl hl.1 rfl (lv_room (Nat.le_of_ble_eq_true rfl)) dX4_needCall_5 ⟨Nat.le_of_ble_eq_true rfl, Nat.le_of_ble_eq_true rfl⟩) hP hD hS hA [1, 2, 3, 4] [0] [0, 1, 2, 3, 4] rfl rfl ⟨rfl, by decide, rfl⟩ (fun _ => rfl) (fun r_1 u H locs hw_1 hP hD hS => ?_)
  have hP : va_P G vwCl [(ga 0, .inr (4, [.ref (ba 0), .ref (d0 0), .ref (d1 0), .ref (ca 0), .ref (sa 0), .int ti])), (ba 0, .inr (0, [.ref (ba 1), .ref (ba 2), .ref (ba 3), .int (nI n)])), (ba 1, .inl (cI, 40, .inl me)), (ba 2, .inl (cI, 40, .inl ar)), (ba 3, .inl (cI, 40, .inl dl))] H := hP
  have hD : va_D A [(ga 0, .inr (4, [.ref (ba 0), .ref (d0 0), .ref (d1 0), .ref (ca 0), .ref (sa 0), .int ti])), (ba 0, .inr (0, [.ref (ba 1), .ref (ba 2), .ref (ba 3), .int (nI n)])), (ba 1, .inl (cI, 40, .inl me)), (ba 2, .inl (cI, 40, .inl ar)), (ba 3, .inl (cI, 40, .inl dl))] := hD
  refine lv_if_ne (tgt := 21) hx hb dX4_needCall_8 (by decide) (fun c_2 => ?_) (fun c_2 => ?_)
  · have g_2 := k_bool1 hw_1 c_2
    have hS9 := hS.2.2
    have hq9 : (True) := by trivial
    exact W.vret hx hb hr (fun t ht hW => ⟨⟨(), rfl, hq9, by rw [ht]; exact hP, hD⟩, hS.F ht⟩) hS9 dX4_needCall_21
  · have g_2 := k_bool0 hw_1 c_2
    exact ((absurd (g_has_iff.mp hPP) g_2 : False)).elim

theorem hk_X4_needOpenCall_f31 : (.fieldLink RX4 31 "Callgate" "caller" "LCallgate$Caller;" : Cond) ∈ wsX4_needOpenCall := by decide +kernel
theorem hi_X4_needOpenCall_X4 : ∀ w ∈ u_ws RX4 TX4 6, w ∈ wsX4_needOpenCall := by decide +kernel
theorem hi_X4_needOpenCall_X1 : ∀ w ∈ u_ws RX1 TX1 10, w ∈ wsX4_needOpenCall := by decide +kernel
set_option maxHeartbeats 4000000 in
set_option maxRecDepth 100000 in
theorem c_X4_needOpenCall (l : Launch) (G : va_G) (cI : ClassId) (ga ca ba d0 d1 sa : Nat → Nat) (ti : Int32) (pa : Fn) (oc : Fn) (cv : Fn) (rq : Fn) (la : Fn) (rc : Fn) (su : Fn) (bu : Int32) (k : Nat) (hk : k < 40) (hPP : oc k = -1) (zz : Nat) : Met l yX4_needOpenCall wsX4_needOpenCall ({ frames := 0, cells := 0, slots := 0, locals := 0 }) (va_Pc [.ref (ga 0), .int (nI k)] (kPre G cI [(ga 0, .inr (4, [.ref (ba 0), .ref (d0 0), .ref (d1 0), .ref (ca 0), .ref (sa 0), .int ti])), (ca 0, .inr (1, [.ref (ba 0), .ref (d0 0), .ref (ca 1), .ref (ca 2), .ref (ca 3), .ref (ca 4), .ref (ca 5), .ref (ca 6), .ref (ca 7), .int bu])), (ca 1, .inl (cI, 40, .inl pa)), (ca 2, .inl (cI, 40, .inl oc)), (ca 3, .inl (cI, 40, .inl cv)), (ca 4, .inl (cI, 40, .inl rq)), (ca 5, .inl (cI, 40, .inl la)), (ca 6, .inl (cI, 40, .inl rc)), (ca 7, .inl (cI, 40, .inl su))] zz)) (va_Qv (fun (u : Unit) => (True)) (fun (u : Unit) t => kQ G [(ga 0, .inr (4, [.ref (ba 0), .ref (d0 0), .ref (d1 0), .ref (ca 0), .ref (sa 0), .int ti])), (ca 0, .inr (1, [.ref (ba 0), .ref (d0 0), .ref (ca 1), .ref (ca 2), .ref (ca 3), .ref (ca 4), .ref (ca 5), .ref (ca 6), .ref (ca 7), .int bu])), (ca 1, .inl (cI, 40, .inl pa)), (ca 2, .inl (cI, 40, .inl oc)), (ca 3, .inl (cI, 40, .inl cv)), (ca 4, .inl (cI, 40, .inl rq)), (ca 5, .inl (cI, 40, .inl la)), (ca 6, .inl (cI, 40, .inl rc)), (ca 7, .inl (cI, 40, .inl su))] (va_A [(ga 0, .inr (4, [.ref (ba 0), .ref (d0 0), .ref (d1 0), .ref (ca 0), .ref (sa 0), .int ti])), (ca 0, .inr (1, [.ref (ba 0), .ref (d0 0), .ref (ca 1), .ref (ca 2), .ref (ca 3), .ref (ca 4), .ref (ca 5), .ref (ca 6), .ref (ca 7), .int bu])), (ca 1, .inl (cI, 40, .inl pa)), (ca 2, .inl (cI, 40, .inl oc)), (ca 3, .inl (cI, 40, .inl cv)), (ca 4, .inl (cI, 40, .inl rq)), (ca 5, .inl (cI, 40, .inl la)), (ca 6, .inl (cI, 40, .inl rc)), (ca 7, .inl (cI, 40, .inl su))] zz) t) (va_A [(ga 0, .inr (4, [.ref (ba 0), .ref (d0 0), .ref (d1 0), .ref (ca 0), .ref (sa 0), .int ti])), (ca 0, .inr (1, [.ref (ba 0), .ref (d0 0), .ref (ca 1), .ref (ca 2), .ref (ca 3), .ref (ca 4), .ref (ca 5), .ref (ca 6), .ref (ca 7), .int bu])), (ca 1, .inl (cI, 40, .inl pa)), (ca 2, .inl (cI, 40, .inl oc)), (ca 3, .inl (cI, 40, .inl cv)), (ca 4, .inl (cI, 40, .inl rq)), (ca 5, .inl (cI, 40, .inl la)), (ca 6, .inl (cI, 40, .inl rc)), (ca 7, .inl (cI, 40, .inl su))] zz)) 0 0 (va_A [(ga 0, .inr (4, [.ref (ba 0), .ref (d0 0), .ref (d1 0), .ref (ca 0), .ref (sa 0), .int ti])), (ca 0, .inr (1, [.ref (ba 0), .ref (d0 0), .ref (ca 1), .ref (ca 2), .ref (ca 3), .ref (ca 4), .ref (ca 5), .ref (ca 6), .ref (ca 7), .int bu])), (ca 1, .inl (cI, 40, .inl pa)), (ca 2, .inl (cI, 40, .inl oc)), (ca 3, .inl (cI, 40, .inl cv)), (ca 4, .inl (cI, 40, .inl rq)), (ca 5, .inl (cI, 40, .inl la)), (ca 6, .inl (cI, 40, .inl rc)), (ca 7, .inl (cI, 40, .inl su))] zz) := by
  refine Met.ofW (cc := cX4_needOpenCall) (maxL := 2) (ret := none) (by decide) rfl ?_
  intro p e s m args below meth c s₁ B hml hv
  obtain ⟨rfl, hsz, hP, hK, hD0, hN⟩ := hv
  have hx := B.exec
  have hb := B.bytes
  have hr := B.returns
  have hts := atoms_spec (ws := wsX4_needOpenCall) B.pre
  have hown : s.vm.findClass RX4 = some m.cls := findClass_of_methodNamed B.named
  have hlocks := B.notSynchronized
  subst hsz
  have hD := hD0.self (sz := s.heap.size)
  generalize hAe : va_A [(ga 0, .inr (4, [.ref (ba 0), .ref (d0 0), .ref (d1 0), .ref (ca 0), .ref (sa 0), .int ti])), (ca 0, .inr (1, [.ref (ba 0), .ref (d0 0), .ref (ca 1), .ref (ca 2), .ref (ca 3), .ref (ca 4), .ref (ca 5), .ref (ca 6), .ref (ca 7), .int bu])), (ca 1, .inl (cI, 40, .inl pa)), (ca 2, .inl (cI, 40, .inl oc)), (ca 3, .inl (cI, 40, .inl cv)), (ca 4, .inl (cI, 40, .inl rq)), (ca 5, .inl (cI, 40, .inl la)), (ca 6, .inl (cI, 40, .inl rc)), (ca 7, .inl (cI, 40, .inl su))] s.heap.size = A at hD hN ⊢
  have hA : ∀ q : Nat, s.heap.size ≤ q → A q := fun q h => by rw [← hAe]; exact Or.inr h
  have hS : va_S A s.heap s.heap [] := va_S.rf
  have hl := lv_entry ([.ref (ga 0), .int (nI k)]) (n := 2) (Nat.le_of_ble_eq_true rfl)
  rw [lg_entry_eq]
  generalize (lg_sl ([.ref (ga 0), .int (nI k)]) ++ List.replicate (2 - (lg_sl ([.ref (ga 0), .int (nI k)])).length) Slot.unset).toArray = ls at hl ⊢
  have hl : lv_has ls 2 [(0, .ref (ga 0)), (1, .int (nI k))] := hl
  have hP : va_P G vwCl [(ga 0, .inr (4, [.ref (ba 0), .ref (d0 0), .ref (d1 0), .ref (ca 0), .ref (sa 0), .int ti])), (ca 0, .inr (1, [.ref (ba 0), .ref (d0 0), .ref (ca 1), .ref (ca 2), .ref (ca 3), .ref (ca 4), .ref (ca 5), .ref (ca 6), .ref (ca 7), .int bu])), (ca 1, .inl (cI, 40, .inl pa)), (ca 2, .inl (cI, 40, .inl oc)), (ca 3, .inl (cI, 40, .inl cv)), (ca 4, .inl (cI, 40, .inl rq)), (ca 5, .inl (cI, 40, .inl la)), (ca 6, .inl (cI, 40, .inl rc)), (ca 7, .inl (cI, 40, .inl su))] s.heap := hP
  obtain ⟨H, hH⟩ : ∃ H, H = s.heap := ⟨_, rfl⟩
  rw [← hH] at hP
  have hS : va_S A s.heap H [] := by rw [hH]; exact hS
  show W _ _ _ _ _ _ _ _ _ _ s.heap _ _ _ _ _
  rw [← hH]
  obtain ⟨locs, hlo⟩ : ∃ z : List Loc, z = [] := ⟨_, rfl⟩
  rw [← hlo] at hS ⊢
  refine lv_aload_n hx hb dX4_needOpenCall_0 rfl (lv_at hl 0 rfl) ?_
  refine va_get (D := G) (ci := 4) (v := .ref (ca 0)) (C := RX4) (T := TX4) (N := 6) hx hb hts hi_X4_needOpenCall_X4 hown hK hP 0 rfl rfl 3 (by decide) (hts _ hk_X4_needOpenCall_f31) (fun _ h9 => h9) rfl dX4_needOpenCall_1 ?_
  refine va_getN (D := G) (ci := 1) (v := .ref (ca 2)) (C := RX1) (T := TX1) (N := 10) hx hb hts hi_X4_needOpenCall_X1 hown hK hP 1 rfl rfl 3 (by decide) (va_Nw.use rfl (hN.1 _ (List.mem_of_getElem? (i := 16) rfl))) (fun _ h9 => h9) rfl dX4_needOpenCall_4 ?_
  refine lv_iload_n hx hb dX4_needOpenCall_7 rfl (lv_at hl 1 rfl) ?_
  refine gz_iald hx hb hK hP 3 rfl rfl (k := k) rfl (by omega) (by decide) dX4_needOpenCall_8 ?_
  refine lv_iconst (v := (-1)) hx hb dX4_needOpenCall_9 (by decide +kernel) ?_
  refine lv_icmp_eq (tgt := 23) hx hb dX4_needOpenCall_10 (by decide) (fun c_1 => ?_) (fun c_1 => ?_)
  · skip
    have hS9 := hS.2.2
    have hq9 : (True) := by trivial
    exact W.vret hx hb hr (fun t ht hW => ⟨⟨(), rfl, hq9, by rw [ht]; exact hP, hD⟩, hS.F ht⟩) hS9 dX4_needOpenCall_23
  · exact ((absurd hPP c_1 : False)).elim


set_option maxHeartbeats 4000000 in
set_option maxRecDepth 100000 in
theorem c_X4_needMethodAndArgument (l : Launch) (G : va_G) (cI : ClassId) (q : Int32) (x : Int32) (hPP : g_ma q x = true) (zz : Nat) : Met l yX4_needMethodAndArgument wsX4_needMethodAndArgument ({ frames := 0, cells := 0, slots := 0, locals := 0 }) (va_Pc [.int q, .int x] (kPre G cI [] zz)) (va_Qv (fun (u : Unit) => (True)) (fun (u : Unit) t => kQ G [] (va_A [] zz) t) (va_A [] zz)) 0 0 (va_A [] zz) := by
  refine Met.ofW (cc := cX4_needMethodAndArgument) (maxL := 2) (ret := none) (by decide) rfl ?_
  intro p e s m args below meth c s₁ B hml hv
  obtain ⟨rfl, hsz, hP, hK, hD0, hN⟩ := hv
  have hx := B.exec
  have hb := B.bytes
  have hr := B.returns
  have hts := atoms_spec (ws := wsX4_needMethodAndArgument) B.pre
  have hown : s.vm.findClass RX4 = some m.cls := findClass_of_methodNamed B.named
  have hlocks := B.notSynchronized
  subst hsz
  have hD := hD0.self (sz := s.heap.size)
  generalize hAe : va_A [] s.heap.size = A at hD hN ⊢
  have hA : ∀ q : Nat, s.heap.size ≤ q → A q := fun q h => by rw [← hAe]; exact Or.inr h
  have hS : va_S A s.heap s.heap [] := va_S.rf
  have hl := lv_entry ([.int q, .int x]) (n := 2) (Nat.le_of_ble_eq_true rfl)
  rw [lg_entry_eq]
  generalize (lg_sl ([.int q, .int x]) ++ List.replicate (2 - (lg_sl ([.int q, .int x])).length) Slot.unset).toArray = ls at hl ⊢
  have hl : lv_has ls 2 [(0, .int q), (1, .int x)] := hl
  have hP : va_P G vwCl [] s.heap := hP
  obtain ⟨H, hH⟩ : ∃ H, H = s.heap := ⟨_, rfl⟩
  rw [← hH] at hP
  have hS : va_S A s.heap H [] := by rw [hH]; exact hS
  show W _ _ _ _ _ _ _ _ _ _ s.heap _ _ _ _ _
  rw [← hH]
  obtain ⟨locs, hlo⟩ : ∃ z : List Loc, z = [] := ⟨_, rfl⟩
  rw [← hlo] at hS ⊢
  refine lv_iload_n hx hb dX4_needMethodAndArgument_0 rfl (lv_at hl 0 rfl) ?_
  refine lv_if_lt (tgt := 9) hx hb dX4_needMethodAndArgument_1 (by decide) (fun c_1 => ?_) (fun c_1 => ?_)
  · exact ((absurd c_1 (g_ma_iff.mp hPP).1 : False)).elim
  · skip
    refine lv_iload_n hx hb dX4_needMethodAndArgument_4 rfl (lv_at hl 0 rfl) ?_
    refine lv_iconst (v := nI 3) hx hb dX4_needMethodAndArgument_5 (by decide +kernel) ?_
    refine lv_icmp_le (tgt := 19) hx hb dX4_needMethodAndArgument_6 (by decide) (fun c_2 => ?_) (fun c_2 => ?_)
    · skip
      refine lv_iload_n hx hb dX4_needMethodAndArgument_19 rfl (lv_at hl 1 rfl) ?_
      refine lv_sipush (v := (-1000)) hx hb dX4_needMethodAndArgument_20 (by decide +kernel) ?_
      refine lv_icmp_lt (tgt := 33) hx hb dX4_needMethodAndArgument_23 (by decide) (fun c_3 => ?_) (fun c_3 => ?_)
      · exact ((absurd c_3 (g_ma_iff.mp hPP).2.2.1 : False)).elim
      · skip
        refine lv_iload_n hx hb dX4_needMethodAndArgument_26 rfl (lv_at hl 1 rfl) ?_
        refine lv_sipush (v := nI 1000) hx hb dX4_needMethodAndArgument_27 (by decide +kernel) ?_
        refine lv_icmp_le (tgt := 43) hx hb dX4_needMethodAndArgument_30 (by decide) (fun c_4 => ?_) (fun c_4 => ?_)
        · skip
          have hS9 := hS.2.2
          have hq9 : (True) := by trivial
          exact W.vret hx hb hr (fun t ht hW => ⟨⟨(), rfl, hq9, by rw [ht]; exact hP, hD⟩, hS.F ht⟩) hS9 dX4_needMethodAndArgument_43
        · exact ((absurd (g_ma_iff.mp hPP).2.2.2 c_4 : False)).elim
    · exact ((absurd (g_ma_iff.mp hPP).2.1 c_2 : False)).elim


set_option maxHeartbeats 4000000 in
set_option maxRecDepth 100000 in
theorem c_X4_needDirection (l : Launch) (G : va_G) (cI : ClassId) (x : Int32) (hPP : g_dir x = true) (zz : Nat) : Met l yX4_needDirection wsX4_needDirection ({ frames := 0, cells := 0, slots := 0, locals := 0 }) (va_Pc [.int x] (kPre G cI [] zz)) (va_Qv (fun (u : Unit) => (True)) (fun (u : Unit) t => kQ G [] (va_A [] zz) t) (va_A [] zz)) 0 0 (va_A [] zz) := by
  refine Met.ofW (cc := cX4_needDirection) (maxL := 1) (ret := none) (by decide) rfl ?_
  intro p e s m args below meth c s₁ B hml hv
  obtain ⟨rfl, hsz, hP, hK, hD0, hN⟩ := hv
  have hx := B.exec
  have hb := B.bytes
  have hr := B.returns
  have hts := atoms_spec (ws := wsX4_needDirection) B.pre
  have hown : s.vm.findClass RX4 = some m.cls := findClass_of_methodNamed B.named
  have hlocks := B.notSynchronized
  subst hsz
  have hD := hD0.self (sz := s.heap.size)
  generalize hAe : va_A [] s.heap.size = A at hD hN ⊢
  have hA : ∀ q : Nat, s.heap.size ≤ q → A q := fun q h => by rw [← hAe]; exact Or.inr h
  have hS : va_S A s.heap s.heap [] := va_S.rf
  have hl := lv_entry ([.int x]) (n := 1) (Nat.le_of_ble_eq_true rfl)
  rw [lg_entry_eq]
  generalize (lg_sl ([.int x]) ++ List.replicate (1 - (lg_sl ([.int x])).length) Slot.unset).toArray = ls at hl ⊢
  have hl : lv_has ls 1 [(0, .int x)] := hl
  have hP : va_P G vwCl [] s.heap := hP
  obtain ⟨H, hH⟩ : ∃ H, H = s.heap := ⟨_, rfl⟩
  rw [← hH] at hP
  have hS : va_S A s.heap H [] := by rw [hH]; exact hS
  show W _ _ _ _ _ _ _ _ _ _ s.heap _ _ _ _ _
  rw [← hH]
  obtain ⟨locs, hlo⟩ : ∃ z : List Loc, z = [] := ⟨_, rfl⟩
  rw [← hlo] at hS ⊢
  refine lv_iload_n hx hb dX4_needDirection_0 rfl (lv_at hl 0 rfl) ?_
  refine lv_if_eq (tgt := 19) hx hb dX4_needDirection_1 (by decide) (fun c_1 => ?_) (fun c_1 => ?_)
  · skip
    have hS9 := hS.2.2
    have hq9 : (True) := by trivial
    exact W.vret hx hb hr (fun t ht hW => ⟨⟨(), rfl, hq9, by rw [ht]; exact hP, hD⟩, hS.F ht⟩) hS9 dX4_needDirection_19
  · skip
    refine lv_iload_n hx hb dX4_needDirection_4 rfl (lv_at hl 0 rfl) ?_
    refine lv_iconst (v := nI 1) hx hb dX4_needDirection_5 (by decide +kernel) ?_
    refine lv_icmp_eq (tgt := 19) hx hb dX4_needDirection_6 (by decide) (fun c_2 => ?_) (fun c_2 => ?_)
    · skip
      have hS9 := hS.2.2
      have hq9 : (True) := by trivial
      exact W.vret hx hb hr (fun t ht hW => ⟨⟨(), rfl, hq9, by rw [ht]; exact hP, hD⟩, hS.F ht⟩) hS9 dX4_needDirection_19
    · exact (((g_dir_iff.mp hPP).elim (fun z => absurd z c_1) (fun z => absurd z c_2) : False)).elim

theorem hk_X4_needAnyFrame_iX2 : (.initialized RX2 : Cond) ∈ wsX4_needAnyFrame := by decide +kernel
theorem hk_X4_needAnyFrame_nX2_has : (.instanceMethod yX2_has : Cond) ∈ wsX4_needAnyFrame := by decide +kernel
theorem hk_X4_needAnyFrame_sX2_has : (.selects RX2 yX2_has yX2_has : Cond) ∈ wsX4_needAnyFrame := by decide +kernel
set_option maxHeartbeats 4000000 in
set_option maxRecDepth 100000 in
theorem c_X4_needAnyFrame (l : Launch) (G : va_G) (cI : ClassId) (d : Nat → Nat) (ki : Fn) (ow : Fn) (mr : Fn) (va : Fn) (fi : Nat) (sz : Nat) (hs : sz ≤ 40) (hPP : g_has sz (nI 0) = true) (zz : Nat) : Met l yX4_needAnyFrame wsX4_needAnyFrame ({ frames := 1, cells := 0, slots := 0, locals := 21 }) (va_Pc [.ref (d 0)] (kPre G cI [(d 0, .inr (2, [.ref (d 1), .ref (d 2), .ref (d 3), .ref (d 4), .int (nI fi), .int (nI sz)])), (d 1, .inl (cI, 40, .inl ki)), (d 2, .inl (cI, 40, .inl ow)), (d 3, .inl (cI, 40, .inl mr)), (d 4, .inl (cI, 40, .inl va))] zz)) (va_Qv (fun (u : Unit) => (True)) (fun (u : Unit) t => kQ G [(d 0, .inr (2, [.ref (d 1), .ref (d 2), .ref (d 3), .ref (d 4), .int (nI fi), .int (nI sz)])), (d 1, .inl (cI, 40, .inl ki)), (d 2, .inl (cI, 40, .inl ow)), (d 3, .inl (cI, 40, .inl mr)), (d 4, .inl (cI, 40, .inl va))] (va_A [(d 0, .inr (2, [.ref (d 1), .ref (d 2), .ref (d 3), .ref (d 4), .int (nI fi), .int (nI sz)])), (d 1, .inl (cI, 40, .inl ki)), (d 2, .inl (cI, 40, .inl ow)), (d 3, .inl (cI, 40, .inl mr)), (d 4, .inl (cI, 40, .inl va))] zz) t) (va_A [(d 0, .inr (2, [.ref (d 1), .ref (d 2), .ref (d 3), .ref (d 4), .int (nI fi), .int (nI sz)])), (d 1, .inl (cI, 40, .inl ki)), (d 2, .inl (cI, 40, .inl ow)), (d 3, .inl (cI, 40, .inl mr)), (d 4, .inl (cI, 40, .inl va))] zz)) 0 0 (va_A [(d 0, .inr (2, [.ref (d 1), .ref (d 2), .ref (d 3), .ref (d 4), .int (nI fi), .int (nI sz)])), (d 1, .inl (cI, 40, .inl ki)), (d 2, .inl (cI, 40, .inl ow)), (d 3, .inl (cI, 40, .inl mr)), (d 4, .inl (cI, 40, .inl va))] zz) := by
  refine Met.ofW (cc := cX4_needAnyFrame) (maxL := 1) (ret := none) (by decide) rfl ?_
  intro p e s m args below meth c s₁ B hml hv
  obtain ⟨rfl, hsz, hP, hK, hD0, hN⟩ := hv
  have hx := B.exec
  have hb := B.bytes
  have hr := B.returns
  have hts := atoms_spec (ws := wsX4_needAnyFrame) B.pre
  have hown : s.vm.findClass RX4 = some m.cls := findClass_of_methodNamed B.named
  have hlocks := B.notSynchronized
  subst hsz
  have hD := hD0.self (sz := s.heap.size)
  generalize hAe : va_A [(d 0, .inr (2, [.ref (d 1), .ref (d 2), .ref (d 3), .ref (d 4), .int (nI fi), .int (nI sz)])), (d 1, .inl (cI, 40, .inl ki)), (d 2, .inl (cI, 40, .inl ow)), (d 3, .inl (cI, 40, .inl mr)), (d 4, .inl (cI, 40, .inl va))] s.heap.size = A at hD hN ⊢
  have hA : ∀ q : Nat, s.heap.size ≤ q → A q := fun q h => by rw [← hAe]; exact Or.inr h
  have hS : va_S A s.heap s.heap [] := va_S.rf
  have hl := lv_entry ([.ref (d 0)]) (n := 1) (Nat.le_of_ble_eq_true rfl)
  rw [lg_entry_eq]
  generalize (lg_sl ([.ref (d 0)]) ++ List.replicate (1 - (lg_sl ([.ref (d 0)])).length) Slot.unset).toArray = ls at hl ⊢
  have hl : lv_has ls 1 [(0, .ref (d 0))] := hl
  have hP : va_P G vwCl [(d 0, .inr (2, [.ref (d 1), .ref (d 2), .ref (d 3), .ref (d 4), .int (nI fi), .int (nI sz)])), (d 1, .inl (cI, 40, .inl ki)), (d 2, .inl (cI, 40, .inl ow)), (d 3, .inl (cI, 40, .inl mr)), (d 4, .inl (cI, 40, .inl va))] s.heap := hP
  obtain ⟨H, hH⟩ : ∃ H, H = s.heap := ⟨_, rfl⟩
  rw [← hH] at hP
  have hS : va_S A s.heap H [] := by rw [hH]; exact hS
  show W _ _ _ _ _ _ _ _ _ _ s.heap _ _ _ _ _
  rw [← hH]
  obtain ⟨locs, hlo⟩ : ∃ z : List Loc, z = [] := ⟨_, rfl⟩
  rw [← hlo] at hS ⊢
  refine lv_aload_n hx hb dX4_needAnyFrame_0 rfl (lv_at hl 0 rfl) ?_
  refine lv_iconst (v := nI 0) hx hb dX4_needAnyFrame_1 (by decide +kernel) ?_
  refine k_calli (S := Unit) (wc := [(d 0, .inr (2, [.ref (d 1), .ref (d 2), .ref (d 3), .ref (d 4), .int (nI fi), .int (nI sz)])), (d 1, .inl (cI, 40, .inl ki)), (d 2, .inl (cI, 40, .inl ow)), (d 3, .inl (cI, 40, .inl mr)), (d 4, .inl (cI, 40, .inl va))]) (wr := []) (w1 := fun u => [(d 0, .inr (2, [.ref (d 1), .ref (d 2), .ref (d 3), .ref (d 4), .int (nI fi), .int (nI sz)])), (d 1, .inl (cI, 40, .inl ki)), (d 2, .inl (cI, 40, .inl ow)), (d 3, .inl (cI, 40, .inl mr)), (d 4, .inl (cI, 40, .inl va))]) (w2 := fun u => [(d 0, .inr (2, [.ref (d 1), .ref (d 2), .ref (d 3), .ref (d 4), .int (nI fi), .int (nI sz)])), (d 1, .inl (cI, 40, .inl ki)), (d 2, .inl (cI, 40, .inl ow)), (d 3, .inl (cI, 40, .inl mr)), (d 4, .inl (cI, 40, .inl va))]) (va_runVN (As := [.int (nI 0)]) (rest := []) ⟨hx, hb, hml, hown, hts⟩ (c_X2_has l G cI d ki ow mr va fi sz (nI 0) (by first | omega | assumption) H.size) ⟨va_cnB (host := RX4) 1 hts gX4_needAnyFrame_X2_has_n217 rfl rfl rfl (hN.1 _ (List.mem_of_getElem? (i := 37) rfl)) (hts _ hk_X4_needAnyFrame_iX2) (by decide +kernel) ⟨Nat.le_of_ble_eq_true rfl, Nat.le_of_ble_eq_true rfl⟩, (hts _ hk_X4_needAnyFrame_nX2_has), (hts _ hk_X4_needAnyFrame_sX2_has)⟩ ⟨kPre.blind, va_recv hK hP (ci := 2) (q0 := 0) rfl rfl, kPre.at hP hK hD hS hA hN [0, 1, 2, 3, 4] rfl rfl⟩ rfl rfl hl.1 rfl (lv_room (Nat.le_of_ble_eq_true rfl)) dX4_needAnyFrame_2 ⟨Nat.le_of_ble_eq_true rfl, Nat.le_of_ble_eq_true rfl⟩) hP hD hS hA [0, 1, 2, 3, 4] [] [0, 1, 2, 3, 4] rfl rfl ⟨rfl, by decide, rfl⟩ (fun _ => rfl) (fun r_1 u H locs hw_1 hP hD hS => ?_)
  have hP : va_P G vwCl [(d 0, .inr (2, [.ref (d 1), .ref (d 2), .ref (d 3), .ref (d 4), .int (nI fi), .int (nI sz)])), (d 1, .inl (cI, 40, .inl ki)), (d 2, .inl (cI, 40, .inl ow)), (d 3, .inl (cI, 40, .inl mr)), (d 4, .inl (cI, 40, .inl va))] H := hP
  have hD : va_D A [(d 0, .inr (2, [.ref (d 1), .ref (d 2), .ref (d 3), .ref (d 4), .int (nI fi), .int (nI sz)])), (d 1, .inl (cI, 40, .inl ki)), (d 2, .inl (cI, 40, .inl ow)), (d 3, .inl (cI, 40, .inl mr)), (d 4, .inl (cI, 40, .inl va))] := hD
  refine lv_if_ne (tgt := 18) hx hb dX4_needAnyFrame_5 (by decide) (fun c_2 => ?_) (fun c_2 => ?_)
  · have g_2 := k_bool1 hw_1 c_2
    have hS9 := hS.2.2
    have hq9 : (True) := by trivial
    exact W.vret hx hb hr (fun t ht hW => ⟨⟨(), rfl, hq9, by rw [ht]; exact hP, hD⟩, hS.F ht⟩) hS9 dX4_needAnyFrame_18
  · have g_2 := k_bool0 hw_1 c_2
    exact ((absurd (g_has_iff.mp hPP) g_2 : False)).elim

theorem hk_X4_laneOf_f19 : (.fieldLink RX4 19 "Callgate" "toServer" "LCallgate$Lane;" : Cond) ∈ wsX4_laneOf := by decide +kernel
theorem hi_X4_laneOf_X4 : ∀ w ∈ u_ws RX4 TX4 6, w ∈ wsX4_laneOf := by decide +kernel
set_option maxHeartbeats 4000000 in
set_option maxRecDepth 100000 in
theorem c_X4_laneOf0 (l : Launch) (G : va_G) (cI : ClassId) (ga ba d0 d1 ca sa : Nat → Nat) (ti : Int32)  (zz : Nat) : Met l yX4_laneOf wsX4_laneOf ({ frames := 0, cells := 0, slots := 0, locals := 0 }) (va_Pc [.ref (ga 0), .int (nI 0)] (kPre G cI [(ga 0, .inr (4, [.ref (ba 0), .ref (d0 0), .ref (d1 0), .ref (ca 0), .ref (sa 0), .int ti]))] zz)) (va_Qr (fun (u : Unit) => True) (fun (u : Unit) q t => q = d0 0 ∧ kQ G [(ga 0, .inr (4, [.ref (ba 0), .ref (d0 0), .ref (d1 0), .ref (ca 0), .ref (sa 0), .int ti]))] (va_A [(ga 0, .inr (4, [.ref (ba 0), .ref (d0 0), .ref (d1 0), .ref (ca 0), .ref (sa 0), .int ti]))] zz) t) (va_A [(ga 0, .inr (4, [.ref (ba 0), .ref (d0 0), .ref (d1 0), .ref (ca 0), .ref (sa 0), .int ti]))] zz)) 0 0 (va_A [(ga 0, .inr (4, [.ref (ba 0), .ref (d0 0), .ref (d1 0), .ref (ca 0), .ref (sa 0), .int ti]))] zz) := by
  refine Met.ofW (cc := cX4_laneOf) (maxL := 2) (ret := (some (.object "Callgate$Lane"))) (by decide) rfl ?_
  intro p e s m args below meth c s₁ B hml hv
  obtain ⟨rfl, hsz, hP, hK, hD0, hN⟩ := hv
  have hx := B.exec
  have hb := B.bytes
  have hr := B.returns
  have hts := atoms_spec (ws := wsX4_laneOf) B.pre
  have hown : s.vm.findClass RX4 = some m.cls := findClass_of_methodNamed B.named
  have hlocks := B.notSynchronized
  subst hsz
  have hD := hD0.self (sz := s.heap.size)
  generalize hAe : va_A [(ga 0, .inr (4, [.ref (ba 0), .ref (d0 0), .ref (d1 0), .ref (ca 0), .ref (sa 0), .int ti]))] s.heap.size = A at hD hN ⊢
  have hA : ∀ q : Nat, s.heap.size ≤ q → A q := fun q h => by rw [← hAe]; exact Or.inr h
  have hS : va_S A s.heap s.heap [] := va_S.rf
  have hl := lv_entry ([.ref (ga 0), .int (nI 0)]) (n := 2) (Nat.le_of_ble_eq_true rfl)
  rw [lg_entry_eq]
  generalize (lg_sl ([.ref (ga 0), .int (nI 0)]) ++ List.replicate (2 - (lg_sl ([.ref (ga 0), .int (nI 0)])).length) Slot.unset).toArray = ls at hl ⊢
  have hl : lv_has ls 2 [(0, .ref (ga 0)), (1, .int (nI 0))] := hl
  have hP : va_P G vwCl [(ga 0, .inr (4, [.ref (ba 0), .ref (d0 0), .ref (d1 0), .ref (ca 0), .ref (sa 0), .int ti]))] s.heap := hP
  obtain ⟨H, hH⟩ : ∃ H, H = s.heap := ⟨_, rfl⟩
  rw [← hH] at hP
  have hS : va_S A s.heap H [] := by rw [hH]; exact hS
  show W _ _ _ _ _ _ _ _ _ _ s.heap _ _ _ _ _
  rw [← hH]
  obtain ⟨locs, hlo⟩ : ∃ z : List Loc, z = [] := ⟨_, rfl⟩
  rw [← hlo] at hS ⊢
  refine lv_iload_n hx hb dX4_laneOf_0 rfl (lv_at hl 1 rfl) ?_
  refine lv_if_ne (tgt := 11) hx hb dX4_laneOf_1 (by decide) (fun c_1 => ?_) (fun c_1 => ?_)
  · exact absurd (by decide +kernel) c_1
  · skip
    refine lv_aload_n hx hb dX4_laneOf_4 rfl (lv_at hl 0 rfl) ?_
    refine va_get (D := G) (ci := 4) (v := .ref (d0 0)) (C := RX4) (T := TX4) (N := 6) hx hb hts hi_X4_laneOf_X4 hown hK hP 0 rfl rfl 1 (by decide) (hts _ hk_X4_laneOf_f19) (fun _ h9 => h9) rfl dX4_laneOf_5 ?_
    refine lv_goto (tgt := 15) hx hb dX4_laneOf_8 (by decide) ?_
    have hS9 := hS.2.2
    exact W.aret (v := .ref (d0 0)) hx hb hr (Or.inl ⟨_, rfl⟩) (Or.inr ⟨_, rfl⟩) (fun t ht hW => ⟨⟨(), d0 0, rfl, trivial, rfl, by rw [ht]; exact hP, hD⟩, hS.F ht⟩) hS9 dX4_laneOf_15

theorem hk_X4_laneOf_f23 : (.fieldLink RX4 23 "Callgate" "toCaller" "LCallgate$Lane;" : Cond) ∈ wsX4_laneOf := by decide +kernel
set_option maxHeartbeats 4000000 in
set_option maxRecDepth 100000 in
theorem c_X4_laneOf1 (l : Launch) (G : va_G) (cI : ClassId) (ga ba d0 d1 ca sa : Nat → Nat) (ti : Int32)  (zz : Nat) : Met l yX4_laneOf wsX4_laneOf ({ frames := 0, cells := 0, slots := 0, locals := 0 }) (va_Pc [.ref (ga 0), .int (nI 1)] (kPre G cI [(ga 0, .inr (4, [.ref (ba 0), .ref (d0 0), .ref (d1 0), .ref (ca 0), .ref (sa 0), .int ti]))] zz)) (va_Qr (fun (u : Unit) => True) (fun (u : Unit) q t => q = d1 0 ∧ kQ G [(ga 0, .inr (4, [.ref (ba 0), .ref (d0 0), .ref (d1 0), .ref (ca 0), .ref (sa 0), .int ti]))] (va_A [(ga 0, .inr (4, [.ref (ba 0), .ref (d0 0), .ref (d1 0), .ref (ca 0), .ref (sa 0), .int ti]))] zz) t) (va_A [(ga 0, .inr (4, [.ref (ba 0), .ref (d0 0), .ref (d1 0), .ref (ca 0), .ref (sa 0), .int ti]))] zz)) 0 0 (va_A [(ga 0, .inr (4, [.ref (ba 0), .ref (d0 0), .ref (d1 0), .ref (ca 0), .ref (sa 0), .int ti]))] zz) := by
  refine Met.ofW (cc := cX4_laneOf) (maxL := 2) (ret := (some (.object "Callgate$Lane"))) (by decide) rfl ?_
  intro p e s m args below meth c s₁ B hml hv
  obtain ⟨rfl, hsz, hP, hK, hD0, hN⟩ := hv
  have hx := B.exec
  have hb := B.bytes
  have hr := B.returns
  have hts := atoms_spec (ws := wsX4_laneOf) B.pre
  have hown : s.vm.findClass RX4 = some m.cls := findClass_of_methodNamed B.named
  have hlocks := B.notSynchronized
  subst hsz
  have hD := hD0.self (sz := s.heap.size)
  generalize hAe : va_A [(ga 0, .inr (4, [.ref (ba 0), .ref (d0 0), .ref (d1 0), .ref (ca 0), .ref (sa 0), .int ti]))] s.heap.size = A at hD hN ⊢
  have hA : ∀ q : Nat, s.heap.size ≤ q → A q := fun q h => by rw [← hAe]; exact Or.inr h
  have hS : va_S A s.heap s.heap [] := va_S.rf
  have hl := lv_entry ([.ref (ga 0), .int (nI 1)]) (n := 2) (Nat.le_of_ble_eq_true rfl)
  rw [lg_entry_eq]
  generalize (lg_sl ([.ref (ga 0), .int (nI 1)]) ++ List.replicate (2 - (lg_sl ([.ref (ga 0), .int (nI 1)])).length) Slot.unset).toArray = ls at hl ⊢
  have hl : lv_has ls 2 [(0, .ref (ga 0)), (1, .int (nI 1))] := hl
  have hP : va_P G vwCl [(ga 0, .inr (4, [.ref (ba 0), .ref (d0 0), .ref (d1 0), .ref (ca 0), .ref (sa 0), .int ti]))] s.heap := hP
  obtain ⟨H, hH⟩ : ∃ H, H = s.heap := ⟨_, rfl⟩
  rw [← hH] at hP
  have hS : va_S A s.heap H [] := by rw [hH]; exact hS
  show W _ _ _ _ _ _ _ _ _ _ s.heap _ _ _ _ _
  rw [← hH]
  obtain ⟨locs, hlo⟩ : ∃ z : List Loc, z = [] := ⟨_, rfl⟩
  rw [← hlo] at hS ⊢
  refine lv_iload_n hx hb dX4_laneOf_0 rfl (lv_at hl 1 rfl) ?_
  refine lv_if_ne (tgt := 11) hx hb dX4_laneOf_1 (by decide) (fun c_1 => ?_) (fun c_1 => ?_)
  · skip
    refine lv_aload_n hx hb dX4_laneOf_11 rfl (lv_at hl 0 rfl) ?_
    refine va_get (D := G) (ci := 4) (v := .ref (d1 0)) (C := RX4) (T := TX4) (N := 6) hx hb hts hi_X4_laneOf_X4 hown hK hP 0 rfl rfl 2 (by decide) (hts _ hk_X4_laneOf_f23) (fun _ h9 => h9) rfl dX4_laneOf_12 ?_
    have hS9 := hS.2.2
    exact W.aret (v := .ref (d1 0)) hx hb hr (Or.inl ⟨_, rfl⟩) (Or.inr ⟨_, rfl⟩) (fun t ht hW => ⟨⟨(), d1 0, rfl, trivial, rfl, by rw [ht]; exact hP, hD⟩, hS.F ht⟩) hS9 dX4_laneOf_15
  · exact absurd c_1 (by decide +kernel)

