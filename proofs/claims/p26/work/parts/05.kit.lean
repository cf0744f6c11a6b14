abbrev Fn : Type := Nat → Int32
def nx_nest : List Cond := [
  .methodLinkNest RX4 9 yX0_init RX4,
  .fieldLinkNest RX4 96 "Callgate$Book" "methods" "[I" RX4,
  .fieldLinkNest RX3 66 "Callgate$Book" "methods" "[I" RX4,
  .fieldLinkNest RX1 78 "Callgate$Book" "methods" "[I" RX4,
  .fieldLinkNest RX3 69 "Callgate$Book" "arguments" "[I" RX4,
  .fieldLinkNest RX4 73 "Callgate$Book" "deadlines" "[I" RX4,
  .fieldLinkNest RX4 105 "Callgate$Book" "size" "I" RX4,
  .fieldLinkNest RX3 52 "Callgate$Book" "size" "I" RX4,
  .fieldLinkNest RX1 59 "Callgate$Book" "size" "I" RX4,
  .methodLinkNest RX4 18 yX2_init RX4,
  .fieldLinkNest RX4 168 "Callgate$Lane" "kinds" "[I" RX4,
  .fieldLinkNest RX4 171 "Callgate$Lane" "owners" "[I" RX4,
  .fieldLinkNest RX4 174 "Callgate$Lane" "marks" "[I" RX4,
  .fieldLinkNest RX4 177 "Callgate$Lane" "values" "[I" RX4,
  .fieldLinkNest RX4 188 "Callgate$Lane" "size" "I" RX4,
  .methodLinkNest RX4 28 yX1_init RX4,
  .fieldLinkNest RX4 108 "Callgate$Caller" "outcomes" "[I" RX4,
  .fieldLinkNest RX4 113 "Callgate$Caller" "values" "[I" RX4,
  .fieldLinkNest RX4 116 "Callgate$Caller" "requestsSent" "[I" RX4,
  .fieldLinkNest RX4 119 "Callgate$Caller" "itemsReceived" "[I" RX4,
  .fieldLinkNest RX4 122 "Callgate$Caller" "sums" "[I" RX4,
  .fieldLinkNest RX4 125 "Callgate$Caller" "budget" "I" RX4,
  .methodLinkNest RX4 37 yX3_init RX4,
  .fieldLinkNest RX4 128 "Callgate$Server" "states" "[I" RX4,
  .fieldLinkNest RX4 137 "Callgate$Server" "creditsLeft" "[I" RX4,
  .fieldLinkNest RX4 145 "Callgate$Server" "added" "I" RX4,
  .methodLinkNest RX4 181 yX0_has RX4,
  .methodLinkNest RX4 60 yX0_isFull RX4,
  .methodLinkNest RX4 83 yX0_enter RX4,
  .methodLinkNest RX4 87 yX1_begin RX4,
  .methodLinkNest RX1 49 yX2_send RX4,
  .methodLinkNest RX4 91 yX1_endAndTell RX4,
  .methodLinkNest RX1 68 yX0_has RX4,
  .methodLinkNest RX4 101 yX2_send RX4,
  .methodLinkNest RX4 133 yX3_isItemNext RX4,
  .methodLinkNest RX4 142 yX3_step RX4,
  .methodLinkNest RX3 72 yX2_send RX4,
  .methodLinkNest RX4 217 yX2_has RX4,
  .methodLinkNest RX4 164 yX2_slotOf RX4,
  .methodLinkNest RX4 178 yX2_removeFirst RX4,
  .methodLinkNest RX4 184 yX3_take RX4,
  .methodLinkNest RX3 46 yX0_isDue RX4,
  .methodLinkNest RX4 187 yX1_take RX4,
  .methodLinkNest RX4 195 yX1_endDueCalls RX4,
  .methodLinkNest RX1 93 yX0_isDue RX4,
  .methodLinkNest RX4 198 yX3_closeDueTasks RX4,
  .methodLinkNest RX4 201 yX1_repeatRequests RX4,
  .methodLinkNest RX4 150 yX3_answerOf RX4]
def nx_str : List (Nat × String) := [(52, "the timeout is 1 to 1000"), (66, "there are 40 calls"), (94, "the number is 1 to 10"), (99, "the call is no stream"), (111, "the call has not ended as answered"), (131, "the server has no running task for the call"), (140, "there is no credit for the next item"), (148, "the method fails"), (193, "the ticks are 1 to 200"), (206, "there is no such call"), (209, "the call has ended"), (211, "the method is 0 to 3"), (213, "the argument is -1000 to 1000"), (215, "the direction is 0 or 1"), (218, "there is no frame")]
def nx_isNest (w : Cond) : Bool := match w with
  | .fieldLinkNest .. => true
  | .methodLinkNest .. => true
  | _ => false
theorem nx_nest_all : nx_nest.all nx_isNest = true := by decide +kernel
theorem nx_nest_warm {s U : State} (hW : s.WarmedH U.vm) {w : Cond} (hn : nx_isNest w = true) (h : va_Nw w s) : va_Nw w U := by
  cases w <;> first | exact va_Nw.warmF hW h | exact va_Nw.warmM hW h | (exact absurd hn (by simp [nx_isNest]))
/-- the words that a throw of the class's needs beside the good ones -/
def nx_names : List String := ["java/lang/RuntimeException", "java/lang/Exception"]
def nx_ex : List (Nat × Nat × String) := [(50, 54, "java/lang/IllegalArgumentException"), (64, 68, "java/lang/IllegalStateException"), (204, 208, "java/lang/IndexOutOfBoundsException")]
def nx_cast : List Cond := [.declares (Bundle.initS "java/lang/RuntimeException"), .declares (Bundle.initS "java/lang/Exception"), .declares (Bundle.initS Bundle.tN), .castable "java/lang/IllegalArgumentException" "java/lang/IllegalArgumentException", .castable "java/lang/IllegalStateException" "java/lang/IllegalStateException", .castable "java/lang/IndexOutOfBoundsException" "java/lang/IndexOutOfBoundsException"]
theorem nx_cast_warm {s U : State} (hW : s.WarmedH U.vm) (h : ∀ w ∈ nx_cast, va_Nw w s) : ∀ w ∈ nx_cast, va_Nw w U := by
  intro w hw
  have h0 := h w hw
  simp only [nx_cast, List.mem_cons, List.not_mem_nil, or_false] at hw
  rcases hw with rfl | rfl | rfl | rfl | rfl | rfl <;> first | exact va_Nw.warmD hW h0 | exact va_Nw.warmC hW h0
theorem nx_bad1 : ∀ w ∈ (vx_atS RX4 54 "java/lang/IllegalArgumentException" nx_names).filter (fun w => !goodWord w), w ∈ nx_cast := by decide +kernel
theorem nx_bad2 : ∀ w ∈ (vx_atS RX4 68 "java/lang/IllegalStateException" nx_names).filter (fun w => !goodWord w), w ∈ nx_cast := by decide +kernel
theorem nx_bad3 : ∀ w ∈ (vx_atS RX4 208 "java/lang/IndexOutOfBoundsException" nx_names).filter (fun w => !goodWord w), w ∈ nx_cast := by decide +kernel
theorem nx_ot {w : Cond} (h : w ∈ nx_nest) : w.onTables = true := by
  have h1 := List.all_eq_true.mp nx_nest_all w h
  cases w <;> first | rfl | (exact absurd h1 (by simp [nx_isNest]))
theorem nx_oc {w : Cond} (h : w ∈ nx_cast) : w.onTables = true := by
  simp only [nx_cast, List.mem_cons, List.not_mem_nil, or_false] at h
  rcases h with rfl | rfl | rfl | rfl | rfl | rfl <;> rfl
/-- what holds at every place of a run, beside the world: nest mates' words, texts, throws, the statics of Throwable -/
def NX (A : Nat → Prop) (U : State) (H : Heap) : Prop :=
  (∀ w ∈ nx_nest, va_Nw w U) ∧ (∀ q ∈ nx_str, ∃ a, vk_R RX4 q.1 q.2 a U) ∧ (∀ w ∈ nx_cast, va_Nw w U) ∧ vx_Zq Bundle.tN "UNASSIGNED_STACK" Bundle.steD A U H ∧ vx_Zq Bundle.tN "SUPPRESSED_SENTINEL" Bundle.listD A U H
theorem NX.to {A A' : Nat → Prop} {s U : State} {H : Heap} {locs : List Loc} (h : NX A s s.heap) (hS : va_S A s.heap H locs) (hW : s.WarmedH U.vm) (hA : ∀ q, A' q → A q) : NX A' U H := by
  obtain ⟨h1, h2, h3, h4, h5⟩ := h
  have hq : ∀ a : Nat, a < s.heap.size → ¬ A a → H[a]? = s.heap[a]? := hS.2.1
  refine ⟨fun w hw => nx_nest_warm hW (List.all_eq_true.mp nx_nest_all w hw) (h1 w hw), fun q hq => ?_, nx_cast_warm hW h3, vx_Zq.moved hW.alike (vx_Zq.narrow (vx_Zq.kept h4 hq) hA), vx_Zq.moved hW.alike (vx_Zq.narrow (vx_Zq.kept h5 hq) hA)⟩
  obtain ⟨a, ha⟩ := h2 q hq
  exact ⟨a, vk_R.warm hW ha⟩
theorem NX.calling {A : Nat → Prop} {U : State} {g : JFrame} {mk : MethodId} {a : Array Value} (h : NX A U U.heap) : NX A (U.calling g mk a) (U.calling g mk a).heap := by
  obtain ⟨h1, h2, h3, h4, h5⟩ := h
  refine ⟨fun w hw => va_Nw.same (u := U) (U := U.calling g mk a) (nx_ot hw) rfl (h1 w hw), fun q hq => ?_, fun w hw => va_Nw.same (u := U) (U := U.calling g mk a) (nx_oc hw) rfl (h3 w hw), vx_Zq.moved (u := U) (U := U.calling g mk a) (Vm.Alike.refl U.vm) h4, vx_Zq.moved (u := U) (U := U.calling g mk a) (Vm.Alike.refl U.vm) h5⟩
  obtain ⟨b, hb⟩ := h2 q hq
  exact ⟨b, vk_R.same (u := U) rfl hb⟩
/-- a method's start and end, in one form for all -/
def kPre (G : va_G) (cI : ClassId) (wc : va_W) (sz : Nat) (U : State) : Prop := U.heap.size = sz ∧ va_P G vwCl wc U.heap ∧ va_K G vwCl [(cI, .int)] U ∧ va_D (fun _ => True) wc ∧ NX (va_A wc sz) U U.heap
def kQ (G : va_G) (w : va_W) (A : Nat → Prop) (t : State) : Prop := va_P G vwCl w t.heap ∧ va_D A w
theorem kPre.blind {As : List Value} {G : va_G} {cI : ClassId} {wc : va_W} {sz : Nat} : FrameBlind (va_Pc As (kPre G cI wc sz)) := fun a U g mk q => by
  obtain ⟨q0, q1, qP, qK, qD, qN⟩ := q
  exact ⟨q0, q1, qP, va_K.moved (u := U) (U := U.calling g mk a) (Vm.Alike.refl U.vm) qK, qD, NX.calling qN⟩
theorem kPre.at {G : va_G} {cI : ClassId} {ws wc : va_W} {A : Nat → Prop} {s : State} {H : Heap} {locs : List Loc} {As : List Value} (hP : va_P G vwCl ws H) (hK : va_K G vwCl [(cI, .int)] s) (hD : va_D A ws) (hS : va_S A s.heap H locs) (hA : ∀ q, s.heap.size ≤ q → A q) (hN : NX A s s.heap) (isC : List Nat) (hn : va_nd isC = true) (hC : isC.map (fun i => ws[i]?) = wc.map some) :
    ∀ U : State, U.heap = H → s.WarmedH U.vm → va_Pc As (kPre G cI wc H.size) As.toArray U := by
  intro U hU hW
  have hPc : va_P G vwCl wc H := by
    intro k q hq
    have h1 : (isC.map (fun i => ws[i]?))[k]? = some (some q) := by rw [hC, List.getElem?_map, hq]; rfl
    rw [List.getElem?_map] at h1
    cases hi : isC[k]? with
    | none => rw [hi] at h1; cases h1
    | some i => rw [hi] at h1; exact hP i q (Option.some.inj h1)
  refine ⟨rfl, by rw [hU], by rw [hU]; exact hPc, va_K.moved hW.alike hK, (hD.sub isC hn hC).weaken (fun _ _ _ _ => trivial), ?_⟩
  rw [hU]
  exact NX.to hN hS hW (va_free hD hS hA isC hC)
section KC
variable {p : Program} {l : Launch} {e : Env} {R : Room} {s : State} {m : MethodId} {args : Array Value} {below : List Frame} {meth : Method} {c : Code} {H : Heap} {locs : List Loc} {cells slots : Nat} {Q : State → Prop}
variable {pc : Nat} {ls : Array Slot} {rest st0 : List Value} {mc ms : Nat}
theorem gz_top {x y : Int32} (h : x = y) (k : W p l e R s m args below meth c H locs cells slots Q (F0 m pc ls (.int y :: rest))) : W p l e R s m args below meth c H locs cells slots Q (F0 m pc ls (.int x :: rest)) := by rw [h]; exact k
theorem gz_iald {cc : ByteArray} (hexec : p.tables.exec = Jvm.exec) (hb : c.code = cc) {G : va_G} {cl : List vw_C} {tys : List (ClassId × FieldType)} {ws : va_W} {a : Nat} (hK : va_K G cl tys s) (hP : va_P G cl ws H) (q0 : Nat) {cA : ClassId} {n : Nat} {f : Nat → Int32} (ha : ws[q0]? = some (a, .inl (cA, n, .inl f))) (ht : tys[0]? = some (cA, .int)) {i : Int32} {k : Nat} (hi : i = nI k) (hk : k < n) (hn : n < 2 ^ 31) (hdg : decode cc pc = .ok (.iaload, 1))
    (kk : W p l e R s m args below meth c H locs cells slots Q (F0 m (pc + 1) ls (.int (f k) :: rest))) : W p l e R s m args below meth c H locs cells slots Q (F0 m pc ls (.int i :: .ref a :: rest)) := by
  subst hi
  refine va_iald hexec hb hK hP q0 0 ha ht (vp_in_nI hk hn) hdg ?_
  rw [nI_clamp (Nat.lt_trans hk hn)]
  exact kk
theorem gz_iast {cc : ByteArray} (hexec : p.tables.exec = Jvm.exec) (hb : c.code = cc) {G : va_G} {cl : List vw_C} {tys : List (ClassId × FieldType)} {ws : va_W} {a : Nat} {A : Nat → Prop} {H0 : Heap} (hK : va_K G cl tys s) (hP : va_P G cl ws H) (hD : va_D A ws) (hS : va_S A H0 H locs) (q0 : Nat) {cA : ClassId} {n : Nat} {f : Nat → Int32} (ha : ws[q0]? = some (a, .inl (cA, n, .inl f))) (ht : tys[0]? = some (cA, .int)) {i x : Int32} {k : Nat} (hi : i = nI k) (hk : k < n) (hn : n < 2 ^ 31) (hdg : decode cc pc = .ok (.iastore, 1))
    (kk : ∀ (H1 : Heap) (locs1 : List Loc), va_P G cl (ws.set q0 (a, .inl (cA, n, .inl (upd f k x)))) H1 → va_D A (ws.set q0 (a, .inl (cA, n, .inl (upd f k x)))) → va_S A H0 H1 locs1 → W p l e R s m args below meth c H1 locs1 cells slots Q (F0 m (pc + 1) ls rest)) : W p l e R s m args below meth c H locs cells slots Q (F0 m pc ls (.int x :: .int i :: .ref a :: rest)) := by
  subst hi
  refine va_iast hexec hb hK hP hD hS q0 0 ha ht (vp_in_nI hk hn) hdg (fun H1 locs1 h1 h2 h3 => ?_)
  rw [nI_clamp (Nat.lt_trans hk hn)] at h1 h2
  exact kk H1 locs1 h1 h2 h3
theorem k_join {G : va_G} {A : Nat → Prop} {ws wc wr w1 w2 : va_W} {H1 : Heap} (hP : va_P G vwCl ws H) (hD : va_D A ws) (isC isR perm : List Nat) (hC : isC.map (fun i => ws[i]?) = wc.map some) (hR : isR.map (fun i => ws[i]?) = wr.map some) (hd : va_nd isR = true ∧ (∀ i ∈ isR, i ∉ isC) ∧ va_nd perm = true)
    (hp : perm.map (fun i => (wr ++ w1)[i]?) = w2.map some) (hk : ∀ q : Nat, q < H.size → ¬ va_A wc H.size q → H1[q]? = H[q]?) (hF : ∀ q, va_A wc H.size q → A q) (hP1 : va_P G vwCl w1 H1) (hD1 : va_D (va_A wc H.size) w1) : va_P G vwCl w2 H1 ∧ va_D A w2 := by
  obtain ⟨h1, h2⟩ := va_join hP hD isC isR hC hR hd.1 hd.2.1 hk hF hP1 hD1
  refine ⟨?_, h2.sub perm hd.2.2 hp⟩
  intro k q hq
  have h3 : (perm.map (fun i => (wr ++ w1)[i]?))[k]? = some (some q) := by rw [hp, List.getElem?_map, hq]; rfl
  rw [List.getElem?_map] at h3
  cases hi : perm[k]? with
  | none => rw [hi] at h3; cases h3
  | some i => rw [hi] at h3; exact h1 i q (Option.some.inj h3)
theorem k_calli {S : Type} {post : Int32 → S → Prop} {G : va_G} {A : Nat → Prop} {ws wc wr : va_W} {w1 w2 : S → va_W} {a : Array Value} (hr : va_Run p l e R s m args below meth c H locs cells slots 0 0 (F0 m pc ls st0) rest (va_Qi post (fun u t => kQ G (w1 u) (va_A wc H.size) t) (va_A wc H.size) a) (va_A wc H.size))
    (hP : va_P G vwCl ws H) (hD : va_D A ws) (hS : va_S A s.heap H locs) (hA : ∀ q, s.heap.size ≤ q → A q) (isC isR perm : List Nat) (hC : isC.map (fun i => ws[i]?) = wc.map some) (hR : isR.map (fun i => ws[i]?) = wr.map some) (hd : va_nd isR = true ∧ (∀ i ∈ isR, i ∉ isC) ∧ va_nd perm = true) (hp : ∀ u, perm.map (fun i => (wr ++ w1 u)[i]?) = (w2 u).map some)
    (kk : ∀ (r : Int32) (u : S) (H1 : Heap) (locs1 : List Loc), post r u → va_P G vwCl (w2 u) H1 → va_D A (w2 u) → va_S A s.heap H1 locs1 → W p l e R s m args below meth c H1 locs1 cells slots Q (F0 m (pc + 3) ls (.int r :: rest))) : W p l e R s m args below meth c H locs cells slots Q (F0 m pc ls st0) := by
  have hF := va_free hD hS hA isC hC
  refine va_calli hr hS (fun q _ h => hF q h) hF (fun r u t H1 locs1 ht hvm hw hB hz1 hk1 hS1 => ?_)
  obtain ⟨hP1, hD1⟩ := hB
  rw [ht] at hP1
  obtain ⟨h1, h2⟩ := k_join hP hD isC isR perm hC hR hd (hp u) hk1 hF hP1 hD1
  exact kk r u H1 locs1 hw h1 h2 hS1
theorem k_callv {S : Type} {post : S → Prop} {G : va_G} {A : Nat → Prop} {ws wc wr : va_W} {w1 w2 : S → va_W} {a : Array Value} (hr : va_Run p l e R s m args below meth c H locs cells slots 0 0 (F0 m pc ls st0) rest (va_Qv post (fun u t => kQ G (w1 u) (va_A wc H.size) t) (va_A wc H.size) a) (va_A wc H.size))
    (hP : va_P G vwCl ws H) (hD : va_D A ws) (hS : va_S A s.heap H locs) (hA : ∀ q, s.heap.size ≤ q → A q) (isC isR perm : List Nat) (hC : isC.map (fun i => ws[i]?) = wc.map some) (hR : isR.map (fun i => ws[i]?) = wr.map some) (hd : va_nd isR = true ∧ (∀ i ∈ isR, i ∉ isC) ∧ va_nd perm = true) (hp : ∀ u, perm.map (fun i => (wr ++ w1 u)[i]?) = (w2 u).map some)
    (kk : ∀ (u : S) (H1 : Heap) (locs1 : List Loc), post u → va_P G vwCl (w2 u) H1 → va_D A (w2 u) → va_S A s.heap H1 locs1 → W p l e R s m args below meth c H1 locs1 cells slots Q (F0 m (pc + 3) ls rest)) : W p l e R s m args below meth c H locs cells slots Q (F0 m pc ls st0) := by
  have hF := va_free hD hS hA isC hC
  refine va_callv hr hS (fun q _ h => hF q h) hF (fun u t H1 locs1 ht hvm hw hB hz1 hk1 hS1 => ?_)
  obtain ⟨hP1, hD1⟩ := hB
  rw [ht] at hP1
  obtain ⟨h1, h2⟩ := k_join hP hD isC isR perm hC hR hd (hp u) hk1 hF hP1 hD1
  exact kk u H1 locs1 hw h1 h2 hS1
theorem k_bool1 {P : Prop} [Decidable P] {r : Int32} (h : r = if P then nI 1 else nI 0) (h1 : ¬ r = 0) : P := by
  by_cases q : P
  · exact q
  · rw [if_neg q] at h; exact absurd (h.trans (by decide +kernel)) h1
theorem k_bool0 {P : Prop} [Decidable P] {r : Int32} (h : r = if P then nI 1 else nI 0) (h1 : r = 0) : ¬ P := by
  intro q
  rw [if_pos q] at h
  rw [h] at h1
  exact absurd h1 (by decide +kernel)
theorem k_loop {σ : Type} {pc : Nat} (I : σ → Heap → List Loc → Array Slot → Prop) (μ : σ → Nat) (hs : ∀ (x : σ) (H : Heap) (locs : List Loc) (ls : Array Slot), I x H locs ls → (∀ (y : σ) (H' : Heap) (locs' : List Loc) (ls' : Array Slot), I y H' locs' ls' → μ y < μ x → W p l e R s m args below meth c H' locs' cells slots Q (F0 m pc ls' [])) → W p l e R s m args below meth c H locs cells slots Q (F0 m pc ls []))
    (x : σ) (H : Heap) (locs : List Loc) (ls : Array Slot) (h : I x H locs ls) : W p l e R s m args below meth c H locs cells slots Q (F0 m pc ls []) := by
  have key : ∀ (k : Nat) (x : σ) (H : Heap) (locs : List Loc) (ls : Array Slot), μ x < k → I x H locs ls → W p l e R s m args below meth c H locs cells slots Q (F0 m pc ls []) := by
    intro k
    induction k with
    | zero => intro x H locs ls hk; exact absurd hk (Nat.not_lt_zero _)
    | succ k ih => intro x H locs ls hk hI; exact hs x H locs ls hI (fun y H' locs' ls' hy hlt => ih y H' locs' ls' (by omega) hy)
  exact key (μ x + 1) x H locs ls (Nat.lt_succ_self _) h
theorem k_cut {σ : Type} {pc2 pc1 : Nat} {H0 : Heap} {locs0 : List Loc} {ls0 : Array Slot} {st1 : List Value} (I : σ → Heap → List Loc → Array Slot → Prop) (stk : σ → List Value) (h1 : ∀ (x : σ) (H : Heap) (locs : List Loc) (ls : Array Slot), I x H locs ls → W p l e R s m args below meth c H locs cells slots Q (F0 m pc2 ls (stk x)))
    (h2 : (∀ (x : σ) (H : Heap) (locs : List Loc) (ls : Array Slot), I x H locs ls → W p l e R s m args below meth c H locs cells slots Q (F0 m pc2 ls (stk x))) → W p l e R s m args below meth c H0 locs0 cells slots Q (F0 m pc1 ls0 st1)) : W p l e R s m args below meth c H0 locs0 cells slots Q (F0 m pc1 ls0 st1) := h2 h1
theorem k_has {x : Int32} {n : Nat} (h : ¬ x < 0 ∧ ¬ nI n ≤ x) (hn : n < 2 ^ 31) : ∃ j : Nat, j < n ∧ x = nI j := by
  rcases pk_ix x hn with q | q | q
  · exact absurd q h.1
  · exact absurd q h.2
  · exact q
end KC

