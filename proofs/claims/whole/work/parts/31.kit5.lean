def NC (U : State) : Prop := va_Nc "java/lang/IllegalArgumentException" "java/lang/IndexOutOfBoundsException" U ∧ va_Nc "java/lang/IllegalStateException" "java/lang/IndexOutOfBoundsException" U ∧ va_Nc "java/lang/IllegalStateException" "java/lang/IllegalArgumentException" U
def kPreL (G : va_G) (cI cL : ClassId) (wc : va_W) (sz : Nat) (U : State) : Prop := U.heap.size = sz ∧ va_P G vwCl wc U.heap ∧ va_K G vwCl [(cI, .int), (cL, .long)] U ∧ va_D (fun _ => True) wc ∧ NX (va_A wc sz) U U.heap ∧ NC U
theorem NC.moved {u U : State} (hvm : u.vm.Alike U.vm) (h : NC u) : NC U := ⟨va_Nc.moved hvm h.1, va_Nc.moved hvm h.2.1, va_Nc.moved hvm h.2.2⟩
theorem kPreL.blind {As : List Value} {G : va_G} {cI cL : ClassId} {wc : va_W} {sz : Nat} : FrameBlind (va_Pc As (kPreL G cI cL wc sz)) := fun a U g mk q => by
  obtain ⟨q0, q1, qP, qK, qD, qN, qC⟩ := q
  exact ⟨q0, q1, qP, va_K.moved (u := U) (U := U.calling g mk a) (Vm.Alike.refl U.vm) qK, qD, NX.calling qN, NC.moved (u := U) (U := U.calling g mk a) (Vm.Alike.refl U.vm) qC⟩
theorem kPreL.at {G : va_G} {cI cL : ClassId} {ws wc : va_W} {A : Nat → Prop} {s : State} {H : Heap} {locs : List Loc} {As : List Value} (hP : va_P G vwCl ws H) (hK : va_K G vwCl [(cI, .int), (cL, .long)] s) (hD : va_D A ws) (hS : va_S A s.heap H locs) (hA : ∀ q, s.heap.size ≤ q → A q) (hN : NX A s s.heap) (hC0 : NC s) (isC : List Nat) (hn : va_nd isC = true) (hC : isC.map (fun i => ws[i]?) = wc.map some) :
    ∀ U : State, U.heap = H → s.WarmedH U.vm → va_Pc As (kPreL G cI cL wc H.size) As.toArray U := by
  intro U hU hW
  have hPc : va_P G vwCl wc H := by
    intro k q hq
    have h1 : (isC.map (fun i => ws[i]?))[k]? = some (some q) := by rw [hC, List.getElem?_map, hq]; rfl
    rw [List.getElem?_map] at h1
    cases hi : isC[k]? with
    | none => rw [hi] at h1; cases h1
    | some i => rw [hi] at h1; exact hP i q (Option.some.inj h1)
  refine ⟨rfl, by rw [hU], by rw [hU]; exact hPc, va_K.moved hW.alike hK, (hD.sub isC hn hC).weaken (fun _ _ _ _ => trivial), ?_, NC.moved hW.alike hC0⟩
  rw [hU]
  exact NX.to hN hS hW (va_free hD hS hA isC hC)
section KL
variable {p : Program} {l : Launch} {e : Env} {R : Room} {s : State} {m : MethodId} {args : Array Value} {below : List Frame} {meth : Method} {c : Code} {H : Heap} {locs : List Loc} {cells slots : Nat} {Q : State → Prop}
variable {pc : Nat} {ls : Array Slot} {rest st0 : List Value} {mc ms : Nat}
theorem gz_last {cc : ByteArray} (hexec : p.tables.exec = Jvm.exec) (hb : c.code = cc) {G : va_G} {cl : List vw_C} {tys : List (ClassId × FieldType)} {ws : va_W} {a : Nat} {A : Nat → Prop} {H0 : Heap} (hK : va_K G cl tys s) (hP : va_P G cl ws H) (hD : va_D A ws) (hS : va_S A H0 H locs) (q0 t0 : Nat) {cA : ClassId} {n : Nat} {f : Nat → Int64} (ha : ws[q0]? = some (a, .inl (cA, n, .inr (.inl f)))) (ht : tys[t0]? = some (cA, .long)) {x : Int64} {k : Nat} (hk : k < n) (hn : n < 2 ^ 31) (hdg : decode cc pc = .ok (.lastore, 1))
    (kk : ∀ (H1 : Heap) (locs1 : List Loc), va_P G cl (ws.set q0 (a, .inl (cA, n, .inr (.inl (vp_updL f k x))))) H1 → va_D A (ws.set q0 (a, .inl (cA, n, .inr (.inl (vp_updL f k x))))) → va_S A H0 H1 locs1 → W p l e R s m args below meth c H1 locs1 cells slots Q (F0 m (pc + 1) ls rest)) : W p l e R s m args below meth c H locs cells slots Q (F0 m pc ls (.long x :: .int (nI k) :: .ref a :: rest)) := by
  refine va_last hexec hb hK hP hD hS q0 t0 ha ht (vp_in_nI hk hn) hdg (fun H1 locs1 h1 h2 h3 => ?_)
  rw [nI_clamp (Nat.lt_trans hk hn)] at h1 h2
  exact kk H1 locs1 h1 h2 h3
theorem k_xcalli {S : Type} {post : Int32 → S → Prop} {EQ : String → Prop} {G : va_G} {A : Nat → Prop} {ws wc wr : va_W} {w1 w2 : S → va_W} {a : Array Value} (hr : vx_Run p l e R s m args below meth c H locs cells slots mc ms (F0 m pc ls st0) rest (va_Qi post (fun u t => kQ G (w1 u) (va_A wc H.size) t) (va_A wc H.size) a) (kX G wc (va_A wc H.size) EQ) (va_A wc H.size))
    (hP : va_P G vwCl ws H) (hD : va_D A ws) (hS : va_S A s.heap H locs) (hA : ∀ q, s.heap.size ≤ q → A q) (isC isR perm : List Nat) (hC : isC.map (fun i => ws[i]?) = wc.map some) (hR : isR.map (fun i => ws[i]?) = wr.map some) (hd : va_nd isR = true ∧ (∀ i ∈ isR, i ∉ isC) ∧ va_nd perm = true) (hp : ∀ u, perm.map (fun i => (wr ++ w1 u)[i]?) = (w2 u).map some) (hpx : perm.map (fun i => (wr ++ wc)[i]?) = ws.map some)
    (kx : ∀ (E : String) (ce : Cell) (q9 : Addr) (H1 : Heap) (locs1 : List Loc), EQ E → va_P G vwCl ws H1 → va_D A ws → va_S A s.heap H1 locs1 → H1[q9]? = some ce → ce.vm = .none → s.vm.findClass E = some ce.cls → vx_W p l e R s m args below meth c H1 locs1 (cells + mc) (slots + ms) Q (F0 m pc ls rest) q9)
    (kk : ∀ (r : Int32) (u : S) (H1 : Heap) (locs1 : List Loc), post r u → va_P G vwCl (w2 u) H1 → va_D A (w2 u) → va_S A s.heap H1 locs1 → W p l e R s m args below meth c H1 locs1 (cells + mc) (slots + ms) Q (F0 m (pc + 3) ls (.int r :: rest))) : W p l e R s m args below meth c H locs cells slots Q (F0 m pc ls st0) := by
  have hF := va_free hD hS hA isC hC
  refine vx_calli hr hS (fun q _ h => hF q h) hF (fun q _ h => hF q h) (fun E ce q9 u t H1 locs1 ht hvm hpx1 hBX hz1 hk1 hS1 h7 h8 h9 => ?_) (fun r u t H1 locs1 ht hvm hw hB hz1 hk1 hS1 => ?_)
  · obtain ⟨hEQ, hP1, hD1⟩ := hBX
    rw [ht] at hP1
    obtain ⟨h1, h2⟩ := k_join hP hD isC isR perm hC hR hd hpx hk1 hF hP1 hD1
    exact kx E ce q9 H1 locs1 hEQ h1 h2 hS1 h7 h8 h9
  · obtain ⟨hP1, hD1⟩ := hB
    rw [ht] at hP1
    obtain ⟨h1, h2⟩ := k_join hP hD isC isR perm hC hR hd (hp u) hk1 hF hP1 hD1
    exact kk r u H1 locs1 hw h1 h2 hS1
theorem k_xcallv {S : Type} {post : S → Prop} {EQ : String → Prop} {G : va_G} {A : Nat → Prop} {ws wc wr : va_W} {w1 w2 : S → va_W} {a : Array Value} (hr : vx_Run p l e R s m args below meth c H locs cells slots mc ms (F0 m pc ls st0) rest (va_Qv post (fun u t => kQ G (w1 u) (va_A wc H.size) t) (va_A wc H.size) a) (kX G wc (va_A wc H.size) EQ) (va_A wc H.size))
    (hP : va_P G vwCl ws H) (hD : va_D A ws) (hS : va_S A s.heap H locs) (hA : ∀ q, s.heap.size ≤ q → A q) (isC isR perm : List Nat) (hC : isC.map (fun i => ws[i]?) = wc.map some) (hR : isR.map (fun i => ws[i]?) = wr.map some) (hd : va_nd isR = true ∧ (∀ i ∈ isR, i ∉ isC) ∧ va_nd perm = true) (hp : ∀ u, perm.map (fun i => (wr ++ w1 u)[i]?) = (w2 u).map some) (hpx : perm.map (fun i => (wr ++ wc)[i]?) = ws.map some)
    (kx : ∀ (E : String) (ce : Cell) (q9 : Addr) (H1 : Heap) (locs1 : List Loc), EQ E → va_P G vwCl ws H1 → va_D A ws → va_S A s.heap H1 locs1 → H1[q9]? = some ce → ce.vm = .none → s.vm.findClass E = some ce.cls → vx_W p l e R s m args below meth c H1 locs1 (cells + mc) (slots + ms) Q (F0 m pc ls rest) q9)
    (kk : ∀ (u : S) (H1 : Heap) (locs1 : List Loc), post u → va_P G vwCl (w2 u) H1 → va_D A (w2 u) → va_S A s.heap H1 locs1 → W p l e R s m args below meth c H1 locs1 (cells + mc) (slots + ms) Q (F0 m (pc + 3) ls rest)) : W p l e R s m args below meth c H locs cells slots Q (F0 m pc ls st0) := by
  have hF := va_free hD hS hA isC hC
  refine vx_callv hr hS (fun q _ h => hF q h) hF (fun q _ h => hF q h) (fun E ce q9 u t H1 locs1 ht hvm hpx1 hBX hz1 hk1 hS1 h7 h8 h9 => ?_) (fun u t H1 locs1 ht hvm hw hB hz1 hk1 hS1 => ?_)
  · obtain ⟨hEQ, hP1, hD1⟩ := hBX
    rw [ht] at hP1
    obtain ⟨h1, h2⟩ := k_join hP hD isC isR perm hC hR hd hpx hk1 hF hP1 hD1
    exact kx E ce q9 H1 locs1 hEQ h1 h2 hS1 h7 h8 h9
  · obtain ⟨hP1, hD1⟩ := hB
    rw [ht] at hP1
    obtain ⟨h1, h2⟩ := k_join hP hD isC isR perm hC hR hd (hp u) hk1 hF hP1 hD1
    exact kk u H1 locs1 hw h1 h2 hS1
end KL
def kF : String → State → State → Prop := fun _ _ _ => False
