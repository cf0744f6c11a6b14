section K7
variable {p : Program} {l : Launch} {e : Env} {R : Room} {s : State} {m : MethodId} {args : Array Value} {below : List Frame} {meth : Method} {c : Code} {H : Heap} {locs : List Loc} {cells slots : Nat} {Q : State → Prop}
variable {pc : Nat} {ls : Array Slot} {rest st0 : List Value} {mc ms : Nat}
theorem gz_sld {cc : ByteArray} (hexec : p.tables.exec = Jvm.exec) (hb : c.code = cc) {A : Nat → Prop} {H0 : Heap} {b L : Nat} {xs : Nat → Int32} (hX : va_X b L xs s H0) (hbl : b < H0.size) (hbA : ¬ A b) (hS : va_S A H0 H locs) {j : Nat} (hj : j < L) (hL : L < 2 ^ 31) (hdg : decode cc pc = .ok (.iaload, 1))
    (kk : W p l e R s m args below meth c H locs cells slots Q (F0 m (pc + 1) ls (.int (xs j) :: rest))) : W p l e R s m args below meth c H locs cells slots Q (F0 m pc ls (.int (nI j) :: .ref b :: rest)) := by
  refine va_sld hexec hb hX hbl hbA hS (vp_in_nI hj hL) hdg ?_
  rw [nI_clamp (Nat.lt_trans hj hL)]
  exact kk
theorem k_cellX {A : Nat → Prop} {G : va_G} {ws : va_W} {a : Array Value} (hr : va_Run p l e R s m args below meth c H locs cells slots 0 0 (F0 m pc ls st0) rest (va_Qi (fun (_ : Int32) (_ : Unit) => True) (fun _ _ => True) (fun _ => False) a) (fun _ => False)) (hP : va_P G vwCl ws H) (hS : va_S A s.heap H locs)
    (kk : ∀ (r : Int32) (H1 : Heap) (locs1 : List Loc), va_P G vwCl ws H1 → va_S A s.heap H1 locs1 → W p l e R s m args below meth c H1 locs1 cells slots Q (F0 m (pc + 3) ls (.int r :: rest))) : W p l e R s m args below meth c H locs cells slots Q (F0 m pc ls st0) := by
  refine va_calli hr hS (fun q _ h => h.elim) (fun q h => h.elim) (fun r u t H1 locs1 ht hvm hw hB hz1 hk1 hS1 => ?_)
  exact kk r H1 locs1 (kP_kept hP (fun q hq => hk1 q hq (fun h => h))) hS1
theorem cell_blind {As : List Value} {b L : Nat} {xs : Nat → Int32} : FrameBlind (va_Pc As (fun U => b < U.heap.size ∧ va_X b L xs U U.heap)) := fun a U g mk q => ⟨q.1, q.2.1, va_X.moved (u := U) (U := U.calling g mk a) (Vm.Alike.refl U.vm) q.2.2⟩
theorem cell_at {A : Nat → Prop} {As : List Value} {b L : Nat} {xs : Nat → Int32} (hX : va_X b L xs s s.heap) (hbl : b < s.heap.size) (hbA : ¬ A b) (hS : va_S A s.heap H locs) : ∀ U : State, U.heap = H → s.WarmedH U.vm → va_Pc As (fun U => b < U.heap.size ∧ va_X b L xs U U.heap) As.toArray U := by
  intro U hU hW
  refine ⟨rfl, ?_, ?_⟩
  · rw [hU]; exact Nat.lt_of_lt_of_le hbl hS.1
  · rw [hU]; exact va_X.kept (va_X.moved hW.alike hX) (hS.2.1 b hbl hbA)
end K7
set_option maxHeartbeats 4000000 in
set_option maxRecDepth 100000 in
theorem c_L_cell (l : Launch) (b L : Nat) (xs : Nat → Int32) (k : Nat) (hL : L ≤ 260) (hk : k < 1000) : Met l yL_cell wsL_cell ({ frames := 0, cells := 0, slots := 0, locals := 0 }) (va_Pc [.ref b, .int (nI k)] (fun U => b < U.heap.size ∧ va_X b L xs U U.heap)) (va_Qi (fun (_ : Int32) (_ : Unit) => True) (fun _ _ => True) (fun _ => False)) 0 0 (fun _ => False) := by
  refine Met.ofW (cc := cL_cell) (maxL := 2) (ret := (some .int)) (by decide) rfl ?_
  intro p e s m args below meth c s₁ B hml hv
  obtain ⟨rfl, hbl, hX⟩ := hv
  have hx := B.exec
  have hb := B.bytes
  have hr := B.returns
  have hS : va_S (fun _ => False) s.heap s.heap [] := va_S.rf
  have hS9 := hS.2.2
  have hl := lv_entry ([.ref b, .int (nI k)]) (n := 2) (Nat.le_of_ble_eq_true rfl)
  rw [lg_entry_eq]
  generalize (lg_sl ([.ref b, .int (nI k)]) ++ List.replicate (2 - (lg_sl ([.ref b, .int (nI k)])).length) Slot.unset).toArray = ls at hl ⊢
  have hl : lv_has ls 2 [(0, .ref b), (1, .int (nI k))] := hl
  show W _ _ _ _ _ _ _ _ _ _ s.heap _ _ _ _ _
  refine lv_iload_n hx hb dL_cell_0 rfl (lv_at hl 1 rfl) ?_
  refine lv_aload_n hx hb dL_cell_1 rfl (lv_at hl 0 rfl) ?_
  refine va_slen hx hb hX hbl (fun h => h) hS dL_cell_2 ?_
  refine lv_icmp_ge (tgt := 12) hx hb dL_cell_3 (by decide) (fun c1 => ?_) (fun c1 => ?_)
  · refine lv_sipush (v := nI 7919) hx hb dL_cell_12 (by decide +kernel) ?_
    refine lv_iload_n hx hb dL_cell_15 rfl (lv_at hl 1 rfl) ?_
    refine lv_iconst (v := nI 3) hx hb dL_cell_16 (by decide +kernel) ?_
    refine lv_iadd hx hb dL_cell_17 ?_
    refine lv_imul hx hb dL_cell_18 ?_
    refine lv_iload_n hx hb dL_cell_19 rfl (lv_at hl 1 rfl) ?_
    refine lv_bipush (v := nI 11) hx hb dL_cell_20 (by decide +kernel) ?_
    refine lv_iadd hx hb dL_cell_22 ?_
    refine lv_imul hx hb dL_cell_23 ?_
    exact W.iret hx hb hr (fun t ht hW => ⟨⟨_, (), rfl, trivial, trivial⟩, hS.F ht⟩) hS9 dL_cell_24
  · have hk2 : k < L := by
      rcases Nat.lt_or_ge k L with y | y
      · exact y
      · exact absurd ((nI_leI (a := L) (b := k) (by omega) (by omega)).mpr y) c1
    refine lv_aload_n hx hb dL_cell_6 rfl (lv_at hl 0 rfl) ?_
    refine lv_iload_n hx hb dL_cell_7 rfl (lv_at hl 1 rfl) ?_
    refine gz_sld hx hb hX hbl (fun h => h) hS hk2 (by omega) dL_cell_8 ?_
    refine lv_goto (tgt := 24) hx hb dL_cell_9 (by decide) ?_
    exact W.iret hx hb hr (fun t ht hW => ⟨⟨_, (), rfl, trivial, trivial⟩, hS.F ht⟩) hS9 dL_cell_24
/-- what holds all along the law -/
def LFix (p : Program) (l : Launch) (s : State) (m : MethodId) (meth : Method) (c : Code) (b L : Nat) (xs : Nat → Int32) (G : va_G) (cI : ClassId) (A : Nat → Prop) : Prop :=
  (p.tables.exec = Jvm.exec ∧ c.code = cL_law ∧ meth.sig.returnType = some .boolean ∧ c.maxLocals = 13 ∧ s.vm.findClass RL = some m.cls ∧ (∀ w ∈ wsL_law, w.before #[Value.ref b] s = true)) ∧ (va_X b L xs s s.heap ∧ b < s.heap.size ∧ meth.locks = false) ∧ (va_K G vwCl [(cI, .int)] s ∧ NX A s s.heap) ∧ (∀ q : Nat, s.heap.size ≤ q → A q) ∧ ¬ A b ∧ L ≤ 260 ∧ (∀ q : Nat, A q → s.heap.size ≤ q)
/-- at pc, in turn T, with the invariant of U turns: the law comes to its end -/
def LGo (p : Program) (l : Launch) (e : Env) (s : State) (m : MethodId) (below : List Frame) (meth : Method) (c : Code) (b : Nat) (G : va_G) (cI : ClassId) (A : Nat → Prop) (ga ba d0 d1 ca sa : Nat → Nat) (mA aA pA eA pc T U : Nat) : Prop :=
  ∀ (ti : Int32) (me : Fn) (ar : Fn) (dl : Fn) (n : Nat) (ki : Fn) (ow : Fn) (mr : Fn) (va : Fn) (fi : Nat) (sz : Nat) (kiB : Fn) (owB : Fn) (mrB : Fn) (vaB : Fn) (fiB : Nat) (szB : Nat) (pa : Fn) (oc : Fn) (cv : Fn) (rq : Fn) (la : Fn) (rc : Fn) (su : Fn) (bu : Int32) (ss : Fn) (cr : Fn) (se : Fn) (re : Fn) (sv : Fn) (ad : Int32) (lm : Fn) (lr : Fn) (lp : Fn) (le : Fn) (H : Heap) (locs : List Loc) (ls : Array Slot), LI U n me ar dl ti (ki, ow, mr, va, fi, sz) (kiB, owB, mrB, vaB, fiB, szB) (pa, oc, cv, rq, la, rc, su, bu) (ss, cr, se, re, sv, ad) lm lr lp le → va_P G vwCl [(ga 0, .inr (4, [.ref (ba 0), .ref (d0 0), .ref (d1 0), .ref (ca 0), .ref (sa 0), .int ti])), (ba 0, .inr (0, [.ref (ba 1), .ref (ba 2), .ref (ba 3), .int (nI n)])), (ba 1, .inl (cI, 40, .inl me)), (ba 2, .inl (cI, 40, .inl ar)), (ba 3, .inl (cI, 40, .inl dl)), (d0 0, .inr (2, [.ref (d0 1), .ref (d0 2), .ref (d0 3), .ref (d0 4), .int (nI fi), .int (nI sz)])), (d0 1, .inl (cI, 40, .inl ki)), (d0 2, .inl (cI, 40, .inl ow)), (d0 3, .inl (cI, 40, .inl mr)), (d0 4, .inl (cI, 40, .inl va)), (d1 0, .inr (2, [.ref (d1 1), .ref (d1 2), .ref (d1 3), .ref (d1 4), .int (nI fiB), .int (nI szB)])), (d1 1, .inl (cI, 40, .inl kiB)), (d1 2, .inl (cI, 40, .inl owB)), (d1 3, .inl (cI, 40, .inl mrB)), (d1 4, .inl (cI, 40, .inl vaB)), (ca 0, .inr (1, [.ref (ba 0), .ref (d0 0), .ref (ca 1), .ref (ca 2), .ref (ca 3), .ref (ca 4), .ref (ca 5), .ref (ca 6), .ref (ca 7), .int bu])), (ca 1, .inl (cI, 40, .inl pa)), (ca 2, .inl (cI, 40, .inl oc)), (ca 3, .inl (cI, 40, .inl cv)), (ca 4, .inl (cI, 40, .inl rq)), (ca 5, .inl (cI, 40, .inl la)), (ca 6, .inl (cI, 40, .inl rc)), (ca 7, .inl (cI, 40, .inl su)), (sa 0, .inr (3, [.ref (ba 0), .ref (d1 0), .ref (sa 1), .ref (sa 2), .ref (sa 3), .ref (sa 4), .ref (sa 5), .int ad])), (sa 1, .inl (cI, 40, .inl ss)), (sa 2, .inl (cI, 40, .inl cr)), (sa 3, .inl (cI, 40, .inl se)), (sa 4, .inl (cI, 40, .inl re)), (sa 5, .inl (cI, 40, .inl sv)), (mA, .inl (cI, 40, .inl lm)), (aA, .inl (cI, 40, .inl lr)), (pA, .inl (cI, 40, .inl lp)), (eA, .inl (cI, 40, .inl le))] H → va_D A [(ga 0, .inr (4, [.ref (ba 0), .ref (d0 0), .ref (d1 0), .ref (ca 0), .ref (sa 0), .int ti])), (ba 0, .inr (0, [.ref (ba 1), .ref (ba 2), .ref (ba 3), .int (nI n)])), (ba 1, .inl (cI, 40, .inl me)), (ba 2, .inl (cI, 40, .inl ar)), (ba 3, .inl (cI, 40, .inl dl)), (d0 0, .inr (2, [.ref (d0 1), .ref (d0 2), .ref (d0 3), .ref (d0 4), .int (nI fi), .int (nI sz)])), (d0 1, .inl (cI, 40, .inl ki)), (d0 2, .inl (cI, 40, .inl ow)), (d0 3, .inl (cI, 40, .inl mr)), (d0 4, .inl (cI, 40, .inl va)), (d1 0, .inr (2, [.ref (d1 1), .ref (d1 2), .ref (d1 3), .ref (d1 4), .int (nI fiB), .int (nI szB)])), (d1 1, .inl (cI, 40, .inl kiB)), (d1 2, .inl (cI, 40, .inl owB)), (d1 3, .inl (cI, 40, .inl mrB)), (d1 4, .inl (cI, 40, .inl vaB)), (ca 0, .inr (1, [.ref (ba 0), .ref (d0 0), .ref (ca 1), .ref (ca 2), .ref (ca 3), .ref (ca 4), .ref (ca 5), .ref (ca 6), .ref (ca 7), .int bu])), (ca 1, .inl (cI, 40, .inl pa)), (ca 2, .inl (cI, 40, .inl oc)), (ca 3, .inl (cI, 40, .inl cv)), (ca 4, .inl (cI, 40, .inl rq)), (ca 5, .inl (cI, 40, .inl la)), (ca 6, .inl (cI, 40, .inl rc)), (ca 7, .inl (cI, 40, .inl su)), (sa 0, .inr (3, [.ref (ba 0), .ref (d1 0), .ref (sa 1), .ref (sa 2), .ref (sa 3), .ref (sa 4), .ref (sa 5), .int ad])), (sa 1, .inl (cI, 40, .inl ss)), (sa 2, .inl (cI, 40, .inl cr)), (sa 3, .inl (cI, 40, .inl se)), (sa 4, .inl (cI, 40, .inl re)), (sa 5, .inl (cI, 40, .inl sv)), (mA, .inl (cI, 40, .inl lm)), (aA, .inl (cI, 40, .inl lr)), (pA, .inl (cI, 40, .inl lp)), (eA, .inl (cI, 40, .inl le))] → va_S A s.heap H locs → lv_has ls 13 [(0, .ref b), (1, .ref (ga 0)), (2, .ref mA), (3, .ref aA), (4, .ref pA), (5, .ref eA), (6, .int (nI T))] → W p l e room_1 s m #[Value.ref b] below meth c H locs 33 1120 (lw_Z below #[Value.ref b] s) (F0 m pc ls [])
