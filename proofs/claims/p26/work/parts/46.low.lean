theorem hk_L_low_c7 : (.constant RL 7 2147483647 : Cond) ∈ wsL_low := by decide +kernel
set_option maxHeartbeats 4000000 in
set_option maxRecDepth 100000 in
theorem c_L_low (l : Launch) (G : va_G) (cI : ClassId) (x : Int32) (k : Nat) (hk : 0 < k) (hk2 : k ≤ 3000) (zz : Nat) : Met l yL_low wsL_low ({ frames := 0, cells := 0, slots := 0, locals := 0 }) (va_Pc [.int x, .int (nI k)] (kPre G cI [] zz)) (va_Qi (fun (r : Int32) (u : Unit) => (r = nI (lowv x k))) (fun (u : Unit) t => kQ G [] (va_A [] zz) t) (va_A [] zz)) 0 0 (va_A [] zz) := by
  refine Met.ofW (cc := cL_low) (maxL := 2) (ret := (some .int)) (by decide) rfl ?_
  intro p e s m args below meth c s₁ B hml hv
  obtain ⟨rfl, hsz, hP, hK, hD0, hN⟩ := hv
  have hx := B.exec
  have hb := B.bytes
  have hr := B.returns
  have hts := atoms_spec (ws := wsL_low) B.pre
  have hown : s.vm.findClass RL = some m.cls := findClass_of_methodNamed B.named
  have hlocks := B.notSynchronized
  subst hsz
  have hD := hD0.self (sz := s.heap.size)
  generalize hAe : va_A [] s.heap.size = A at hD hN ⊢
  have hA : ∀ q : Nat, s.heap.size ≤ q → A q := fun q h => by rw [← hAe]; exact Or.inr h
  have hS : va_S A s.heap s.heap [] := va_S.rf
  have hl := lv_entry ([.int x, .int (nI k)]) (n := 2) (Nat.le_of_ble_eq_true rfl)
  rw [lg_entry_eq]
  generalize (lg_sl ([.int x, .int (nI k)]) ++ List.replicate (2 - (lg_sl ([.int x, .int (nI k)])).length) Slot.unset).toArray = ls at hl ⊢
  have hl : lv_has ls 2 [(0, .int x), (1, .int (nI k))] := hl
  have hP : va_P G vwCl [] s.heap := hP
  obtain ⟨H, hH⟩ : ∃ H, H = s.heap := ⟨_, rfl⟩
  rw [← hH] at hP
  have hS : va_S A s.heap H [] := by rw [hH]; exact hS
  show W _ _ _ _ _ _ _ _ _ _ s.heap _ _ _ _ _
  rw [← hH]
  obtain ⟨locs, hlo⟩ : ∃ z : List Loc, z = [] := ⟨_, rfl⟩
  rw [← hlo] at hS ⊢
  refine lv_iload_n hx hb dL_low_0 rfl (lv_at hl 0 rfl) ?_
  refine lv_ldc (v := 2147483647) hx hb hown (hts _ hk_L_low_c7) dL_low_1 ?_
  refine lv_iand hx hb dL_low_3 ?_
  obtain ⟨ja, hja, ea⟩ := pk_andE x (m := 2147483647) 31 (by decide +kernel)
  refine gz_top ea ?_
  refine lv_iload_n hx hb dL_low_4 rfl (lv_at hl 1 rfl) ?_
  refine lv_irem hx hb dL_low_5 (nInz hk (by omega)) ?_
  refine gz_top (pk_rem (by omega) (by omega) (by omega)) ?_
  have hS9 := hS.2.2
  have hq9 : ((nI (ja % k)) = nI (lowv x k)) := by unfold lowv; rw [ea, ix_nI (by omega)]
  exact W.iret (v := nI (ja % k)) hx hb hr (fun t ht hW => ⟨⟨nI (ja % k), (), rfl, hq9, by rw [ht]; exact hP, hD⟩, hS.F ht⟩) hS9 dL_low_6

