section
-- ===== PART A: goes FIRST, ahead of the names: the tables' words, and 'selects' of the private methods out of them =====
/-- a private method of a class that the tables say can be made, by its rows of tables_1 -/
def lw_okq (q : MethodName × Nat) : Prop := (q.1.cls ≠ "java/lang/invoke/MethodHandle" ∧ q.1.cls ≠ "java/lang/invoke/VarHandle") ∧ Cond.instantiable q.1.cls q.2 ∈ tables_1 ∧ Cond.privateMethod q.1 ∈ tables_1 ∧ Cond.instanceMethod q.1 ∈ tables_1
theorem lw_p0 : lw_okq (⟨"Callgate", "needCall", "(I)V"⟩, 6) := ⟨⟨by decide +kernel, by decide +kernel⟩, List.mem_of_getElem? (i := 14) (by decide +kernel), List.mem_of_getElem? (i := 180) (by decide +kernel), List.mem_of_getElem? (i := 181) (by decide +kernel)⟩
theorem lw_p1 : lw_okq (⟨"Callgate$Book", "has", "(I)Z"⟩, 4) := ⟨⟨by decide +kernel, by decide +kernel⟩, List.mem_of_getElem? (i := 22) (by decide +kernel), List.mem_of_getElem? (i := 184) (by decide +kernel), List.mem_of_getElem? (i := 185) (by decide +kernel)⟩
theorem lw_p2 : lw_okq (⟨"java/lang/Throwable", "fillInStackTrace", "(I)Ljava/lang/Throwable;"⟩, 6) := ⟨⟨by decide +kernel, by decide +kernel⟩, List.mem_of_getElem? (i := 226) (by decide +kernel), List.mem_of_getElem? (i := 224) (by decide +kernel), List.mem_of_getElem? (i := 225) (by decide +kernel)⟩
theorem lw_p3 : lw_okq (⟨"Callgate", "needOpenCall", "(I)V"⟩, 6) := ⟨⟨by decide +kernel, by decide +kernel⟩, List.mem_of_getElem? (i := 14) (by decide +kernel), List.mem_of_getElem? (i := 277) (by decide +kernel), List.mem_of_getElem? (i := 278) (by decide +kernel)⟩
theorem lw_p4 : lw_okq (⟨"Callgate$Book", "isFull", "()Z"⟩, 4) := ⟨⟨by decide +kernel, by decide +kernel⟩, List.mem_of_getElem? (i := 22) (by decide +kernel), List.mem_of_getElem? (i := 297) (by decide +kernel), List.mem_of_getElem? (i := 298) (by decide +kernel)⟩
theorem lw_p5 : lw_okq (⟨"Callgate$Book", "enter", "(III)I"⟩, 4) := ⟨⟨by decide +kernel, by decide +kernel⟩, List.mem_of_getElem? (i := 22) (by decide +kernel), List.mem_of_getElem? (i := 305) (by decide +kernel), List.mem_of_getElem? (i := 306) (by decide +kernel)⟩
theorem lw_p6 : lw_okq (⟨"Callgate$Caller", "begin", "(III)V"⟩, 10) := ⟨⟨by decide +kernel, by decide +kernel⟩, List.mem_of_getElem? (i := 80) (by decide +kernel), List.mem_of_getElem? (i := 309) (by decide +kernel), List.mem_of_getElem? (i := 310) (by decide +kernel)⟩
theorem lw_p7 : lw_okq (⟨"Callgate$Caller", "sendRequest", "(II)V"⟩, 10) := ⟨⟨by decide +kernel, by decide +kernel⟩, List.mem_of_getElem? (i := 80) (by decide +kernel), List.mem_of_getElem? (i := 313) (by decide +kernel), List.mem_of_getElem? (i := 314) (by decide +kernel)⟩
theorem lw_p8 : lw_okq (⟨"Callgate$Lane", "send", "(IIII)V"⟩, 6) := ⟨⟨by decide +kernel, by decide +kernel⟩, List.mem_of_getElem? (i := 50) (by decide +kernel), List.mem_of_getElem? (i := 317) (by decide +kernel), List.mem_of_getElem? (i := 318) (by decide +kernel)⟩
theorem lw_p9 : lw_okq (⟨"Callgate$Lane", "slotOf", "(I)I"⟩, 6) := ⟨⟨by decide +kernel, by decide +kernel⟩, List.mem_of_getElem? (i := 50) (by decide +kernel), List.mem_of_getElem? (i := 321) (by decide +kernel), List.mem_of_getElem? (i := 322) (by decide +kernel)⟩
theorem lw_p10 : lw_okq (⟨"Callgate$Caller", "endAndTell", "(II)I"⟩, 10) := ⟨⟨by decide +kernel, by decide +kernel⟩, List.mem_of_getElem? (i := 80) (by decide +kernel), List.mem_of_getElem? (i := 332) (by decide +kernel), List.mem_of_getElem? (i := 333) (by decide +kernel)⟩
theorem lw_p11 : lw_okq (⟨"Callgate$Caller", "cancelOrphans", "(I)I"⟩, 10) := ⟨⟨by decide +kernel, by decide +kernel⟩, List.mem_of_getElem? (i := 80) (by decide +kernel), List.mem_of_getElem? (i := 336) (by decide +kernel), List.mem_of_getElem? (i := 337) (by decide +kernel)⟩
theorem lw_p12 : lw_okq (⟨"Callgate$Caller", "hasEndedParent", "(I)Z"⟩, 10) := ⟨⟨by decide +kernel, by decide +kernel⟩, List.mem_of_getElem? (i := 80) (by decide +kernel), List.mem_of_getElem? (i := 340) (by decide +kernel), List.mem_of_getElem? (i := 341) (by decide +kernel)⟩
theorem lw_p13 : lw_okq (⟨"Callgate$Server", "isItemNext", "(I)Z"⟩, 8) := ⟨⟨by decide +kernel, by decide +kernel⟩, List.mem_of_getElem? (i := 123) (by decide +kernel), List.mem_of_getElem? (i := 365) (by decide +kernel), List.mem_of_getElem? (i := 366) (by decide +kernel)⟩
theorem lw_p14 : lw_okq (⟨"Callgate$Server", "step", "(I)V"⟩, 8) := ⟨⟨by decide +kernel, by decide +kernel⟩, List.mem_of_getElem? (i := 123) (by decide +kernel), List.mem_of_getElem? (i := 370) (by decide +kernel), List.mem_of_getElem? (i := 371) (by decide +kernel)⟩
theorem lw_p15 : lw_okq (⟨"Callgate$Server", "sendItem", "(I)V"⟩, 8) := ⟨⟨by decide +kernel, by decide +kernel⟩, List.mem_of_getElem? (i := 123) (by decide +kernel), List.mem_of_getElem? (i := 375) (by decide +kernel), List.mem_of_getElem? (i := 376) (by decide +kernel)⟩
def lw_privs_1 : List (MethodName × Nat) := [(⟨"Callgate", "needCall", "(I)V"⟩, 6), (⟨"Callgate$Book", "has", "(I)Z"⟩, 4), (⟨"java/lang/Throwable", "fillInStackTrace", "(I)Ljava/lang/Throwable;"⟩, 6), (⟨"Callgate", "needOpenCall", "(I)V"⟩, 6), (⟨"Callgate$Book", "isFull", "()Z"⟩, 4), (⟨"Callgate$Book", "enter", "(III)I"⟩, 4), (⟨"Callgate$Caller", "begin", "(III)V"⟩, 10), (⟨"Callgate$Caller", "sendRequest", "(II)V"⟩, 10), (⟨"Callgate$Lane", "send", "(IIII)V"⟩, 6), (⟨"Callgate$Lane", "slotOf", "(I)I"⟩, 6), (⟨"Callgate$Caller", "endAndTell", "(II)I"⟩, 10), (⟨"Callgate$Caller", "cancelOrphans", "(I)I"⟩, 10), (⟨"Callgate$Caller", "hasEndedParent", "(I)Z"⟩, 10), (⟨"Callgate$Server", "isItemNext", "(I)Z"⟩, 8), (⟨"Callgate$Server", "step", "(I)V"⟩, 8), (⟨"Callgate$Server", "sendItem", "(I)V"⟩, 8)]
theorem lw_r1 : ∀ q ∈ lw_privs_1, lw_okq q := List.forall_mem_cons.mpr ⟨lw_p0, List.forall_mem_cons.mpr ⟨lw_p1, List.forall_mem_cons.mpr ⟨lw_p2, List.forall_mem_cons.mpr ⟨lw_p3, List.forall_mem_cons.mpr ⟨lw_p4, List.forall_mem_cons.mpr ⟨lw_p5, List.forall_mem_cons.mpr ⟨lw_p6, List.forall_mem_cons.mpr ⟨lw_p7, List.forall_mem_cons.mpr ⟨lw_p8, List.forall_mem_cons.mpr ⟨lw_p9, List.forall_mem_cons.mpr ⟨lw_p10, List.forall_mem_cons.mpr ⟨lw_p11, List.forall_mem_cons.mpr ⟨lw_p12, List.forall_mem_cons.mpr ⟨lw_p13, List.forall_mem_cons.mpr ⟨lw_p14, List.forall_mem_cons.mpr ⟨lw_p15, fun _ h => absurd h List.not_mem_nil⟩⟩⟩⟩⟩⟩⟩⟩⟩⟩⟩⟩⟩⟩⟩⟩
theorem lw_p16 : lw_okq (⟨"Callgate$Server", "perform", "(I)V"⟩, 8) := ⟨⟨by decide +kernel, by decide +kernel⟩, List.mem_of_getElem? (i := 123) (by decide +kernel), List.mem_of_getElem? (i := 380) (by decide +kernel), List.mem_of_getElem? (i := 381) (by decide +kernel)⟩
theorem lw_p17 : lw_okq (⟨"Callgate$Server", "answerOf", "(II)I"⟩, 8) := ⟨⟨by decide +kernel, by decide +kernel⟩, List.mem_of_getElem? (i := 123) (by decide +kernel), List.mem_of_getElem? (i := 384) (by decide +kernel), List.mem_of_getElem? (i := 385) (by decide +kernel)⟩
theorem lw_p18 : lw_okq (⟨"Callgate$Server", "sendAnswer", "(I)V"⟩, 8) := ⟨⟨by decide +kernel, by decide +kernel⟩, List.mem_of_getElem? (i := 123) (by decide +kernel), List.mem_of_getElem? (i := 391) (by decide +kernel), List.mem_of_getElem? (i := 392) (by decide +kernel)⟩
theorem lw_p19 : lw_okq (⟨"Callgate", "laneOf", "(I)LCallgate$Lane;"⟩, 6) := ⟨⟨by decide +kernel, by decide +kernel⟩, List.mem_of_getElem? (i := 14) (by decide +kernel), List.mem_of_getElem? (i := 411) (by decide +kernel), List.mem_of_getElem? (i := 412) (by decide +kernel)⟩
theorem lw_p20 : lw_okq (⟨"Callgate$Lane", "has", "(I)Z"⟩, 6) := ⟨⟨by decide +kernel, by decide +kernel⟩, List.mem_of_getElem? (i := 50) (by decide +kernel), List.mem_of_getElem? (i := 418) (by decide +kernel), List.mem_of_getElem? (i := 419) (by decide +kernel)⟩
theorem lw_p21 : lw_okq (⟨"Callgate$Lane", "removeFirst", "()V"⟩, 6) := ⟨⟨by decide +kernel, by decide +kernel⟩, List.mem_of_getElem? (i := 50) (by decide +kernel), List.mem_of_getElem? (i := 424) (by decide +kernel), List.mem_of_getElem? (i := 425) (by decide +kernel)⟩
theorem lw_p22 : lw_okq (⟨"Callgate$Server", "take", "(IIII)V"⟩, 8) := ⟨⟨by decide +kernel, by decide +kernel⟩, List.mem_of_getElem? (i := 123) (by decide +kernel), List.mem_of_getElem? (i := 428) (by decide +kernel), List.mem_of_getElem? (i := 429) (by decide +kernel)⟩
theorem lw_p23 : lw_okq (⟨"Callgate$Server", "takeRequest", "(II)V"⟩, 8) := ⟨⟨by decide +kernel, by decide +kernel⟩, List.mem_of_getElem? (i := 123) (by decide +kernel), List.mem_of_getElem? (i := 432) (by decide +kernel), List.mem_of_getElem? (i := 433) (by decide +kernel)⟩
theorem lw_p24 : lw_okq (⟨"Callgate$Book", "isDue", "(II)Z"⟩, 4) := ⟨⟨by decide +kernel, by decide +kernel⟩, List.mem_of_getElem? (i := 22) (by decide +kernel), List.mem_of_getElem? (i := 436) (by decide +kernel), List.mem_of_getElem? (i := 437) (by decide +kernel)⟩
theorem lw_p25 : lw_okq (⟨"Callgate$Server", "takeCancellation", "(I)V"⟩, 8) := ⟨⟨by decide +kernel, by decide +kernel⟩, List.mem_of_getElem? (i := 123) (by decide +kernel), List.mem_of_getElem? (i := 440) (by decide +kernel), List.mem_of_getElem? (i := 441) (by decide +kernel)⟩
theorem lw_p26 : lw_okq (⟨"Callgate$Caller", "take", "(IIII)V"⟩, 10) := ⟨⟨by decide +kernel, by decide +kernel⟩, List.mem_of_getElem? (i := 80) (by decide +kernel), List.mem_of_getElem? (i := 444) (by decide +kernel), List.mem_of_getElem? (i := 445) (by decide +kernel)⟩
theorem lw_p27 : lw_okq (⟨"Callgate$Caller", "takeAnswer", "(III)V"⟩, 10) := ⟨⟨by decide +kernel, by decide +kernel⟩, List.mem_of_getElem? (i := 80) (by decide +kernel), List.mem_of_getElem? (i := 448) (by decide +kernel), List.mem_of_getElem? (i := 449) (by decide +kernel)⟩
theorem lw_p28 : lw_okq (⟨"Callgate$Caller", "endSilently", "(II)I"⟩, 10) := ⟨⟨by decide +kernel, by decide +kernel⟩, List.mem_of_getElem? (i := 80) (by decide +kernel), List.mem_of_getElem? (i := 452) (by decide +kernel), List.mem_of_getElem? (i := 453) (by decide +kernel)⟩
theorem lw_p29 : lw_okq (⟨"Callgate$Caller", "takeItem", "(III)V"⟩, 10) := ⟨⟨by decide +kernel, by decide +kernel⟩, List.mem_of_getElem? (i := 80) (by decide +kernel), List.mem_of_getElem? (i := 457) (by decide +kernel), List.mem_of_getElem? (i := 458) (by decide +kernel)⟩
theorem lw_p30 : lw_okq (⟨"Callgate$Caller", "endDueCalls", "(I)I"⟩, 10) := ⟨⟨by decide +kernel, by decide +kernel⟩, List.mem_of_getElem? (i := 80) (by decide +kernel), List.mem_of_getElem? (i := 475) (by decide +kernel), List.mem_of_getElem? (i := 476) (by decide +kernel)⟩
theorem lw_p31 : lw_okq (⟨"Callgate$Server", "closeDueTasks", "(I)V"⟩, 8) := ⟨⟨by decide +kernel, by decide +kernel⟩, List.mem_of_getElem? (i := 123) (by decide +kernel), List.mem_of_getElem? (i := 480) (by decide +kernel), List.mem_of_getElem? (i := 481) (by decide +kernel)⟩
def lw_privs_2 : List (MethodName × Nat) := [(⟨"Callgate$Server", "perform", "(I)V"⟩, 8), (⟨"Callgate$Server", "answerOf", "(II)I"⟩, 8), (⟨"Callgate$Server", "sendAnswer", "(I)V"⟩, 8), (⟨"Callgate", "laneOf", "(I)LCallgate$Lane;"⟩, 6), (⟨"Callgate$Lane", "has", "(I)Z"⟩, 6), (⟨"Callgate$Lane", "removeFirst", "()V"⟩, 6), (⟨"Callgate$Server", "take", "(IIII)V"⟩, 8), (⟨"Callgate$Server", "takeRequest", "(II)V"⟩, 8), (⟨"Callgate$Book", "isDue", "(II)Z"⟩, 4), (⟨"Callgate$Server", "takeCancellation", "(I)V"⟩, 8), (⟨"Callgate$Caller", "take", "(IIII)V"⟩, 10), (⟨"Callgate$Caller", "takeAnswer", "(III)V"⟩, 10), (⟨"Callgate$Caller", "endSilently", "(II)I"⟩, 10), (⟨"Callgate$Caller", "takeItem", "(III)V"⟩, 10), (⟨"Callgate$Caller", "endDueCalls", "(I)I"⟩, 10), (⟨"Callgate$Server", "closeDueTasks", "(I)V"⟩, 8)]
theorem lw_r2 : ∀ q ∈ lw_privs_2, lw_okq q := List.forall_mem_cons.mpr ⟨lw_p16, List.forall_mem_cons.mpr ⟨lw_p17, List.forall_mem_cons.mpr ⟨lw_p18, List.forall_mem_cons.mpr ⟨lw_p19, List.forall_mem_cons.mpr ⟨lw_p20, List.forall_mem_cons.mpr ⟨lw_p21, List.forall_mem_cons.mpr ⟨lw_p22, List.forall_mem_cons.mpr ⟨lw_p23, List.forall_mem_cons.mpr ⟨lw_p24, List.forall_mem_cons.mpr ⟨lw_p25, List.forall_mem_cons.mpr ⟨lw_p26, List.forall_mem_cons.mpr ⟨lw_p27, List.forall_mem_cons.mpr ⟨lw_p28, List.forall_mem_cons.mpr ⟨lw_p29, List.forall_mem_cons.mpr ⟨lw_p30, List.forall_mem_cons.mpr ⟨lw_p31, fun _ h => absurd h List.not_mem_nil⟩⟩⟩⟩⟩⟩⟩⟩⟩⟩⟩⟩⟩⟩⟩⟩
theorem lw_p32 : lw_okq (⟨"Callgate$Caller", "repeatRequests", "(I)V"⟩, 10) := ⟨⟨by decide +kernel, by decide +kernel⟩, List.mem_of_getElem? (i := 80) (by decide +kernel), List.mem_of_getElem? (i := 484) (by decide +kernel), List.mem_of_getElem? (i := 485) (by decide +kernel)⟩
theorem lw_p33 : lw_okq (⟨"Callgate$Caller", "isRepeatDue", "(II)Z"⟩, 10) := ⟨⟨by decide +kernel, by decide +kernel⟩, List.mem_of_getElem? (i := 80) (by decide +kernel), List.mem_of_getElem? (i := 488) (by decide +kernel), List.mem_of_getElem? (i := 489) (by decide +kernel)⟩
def lw_privs_3 : List (MethodName × Nat) := [(⟨"Callgate$Caller", "repeatRequests", "(I)V"⟩, 10), (⟨"Callgate$Caller", "isRepeatDue", "(II)Z"⟩, 10)]
theorem lw_r3 : ∀ q ∈ lw_privs_3, lw_okq q := List.forall_mem_cons.mpr ⟨lw_p32, List.forall_mem_cons.mpr ⟨lw_p33, fun _ h => absurd h List.not_mem_nil⟩⟩
def lw_privs : List (MethodName × Nat) := lw_privs_1 ++ (lw_privs_2 ++ (lw_privs_3))
def lw_tbl : List Cond := k2_sels lw_privs ++ tables_1
theorem lw_privs_ok : ∀ q ∈ lw_privs, lw_okq q := by
  show ∀ q ∈ lw_privs_1 ++ (lw_privs_2 ++ (lw_privs_3)), lw_okq q
  exact List.forall_mem_append.mpr ⟨lw_r1, List.forall_mem_append.mpr ⟨lw_r2, lw_r3⟩⟩
end
section
/-! ===== BEGIN words of one list among another's, by their places ===== -/
theorem goodIn_r {big : List Cond} (ws : List Cond) (ps : List Nat) (hp : ws = ps.filterMap (fun i => big[i]?)) (h : ws.all goodWord = true) : GoodIn big ws := by
  intro w hw
  have h1 := List.all_eq_true.mp h w hw
  rw [hp] at hw
  obtain ⟨i, -, hi⟩ := List.mem_filterMap.mp hw
  have hm : w ∈ big := by first | exact List.mem_of_getElem? hi | exact List.getElem?_mem hi
  exact ⟨hm, good_of_word h1⟩
theorem goodIn_app {big a b : List Cond} (ha : GoodIn big a) (hb : GoodIn big b) : GoodIn big (a ++ b) := fun w h => (List.mem_append.mp h).elim (ha w) (hb w)
theorem goodIn_ca {big a b : List Cond} {c : Cond} (ha : GoodIn big (c :: a)) (hb : GoodIn big b) : GoodIn big (c :: (a ++ b)) := fun w h => (List.mem_cons.mp h).elim (fun e => ha w (List.mem_cons.mpr (Or.inl e))) (fun h => (List.mem_append.mp h).elim (fun h => ha w (List.mem_cons.mpr (Or.inr h))) (hb w))
theorem goodIn_sub {big ws : List Cond} (hm : ∀ w ∈ ws, w ∈ big) (h : ws.all goodWord = true) : GoodIn big ws := fun w hw => ⟨hm w hw, good_of_word (List.all_eq_true.mp h w hw)⟩
/-! ===== END ===== -/

/-! ===== BEGIN exceptions that leave a method, and their catching by the caller (launches without stack traces) ===== -/
section VXA
/-! The laws vx_back, vx_callV, vx_callS, vx_callSW, vx_throw0, vx_throwS follow proofs of the library, with one case more: JvmDerived/Free/Laws.lean (Back.of_free), Shelf42/LK1.lean (callV, callS), Shelf/KitTraced.lean (throwNew0V, throwNewS). -/
/-- where a method has thrown q: the class by its name, the cell, what was written, the world -/
def vx_T (XC : String → State → State → Prop) (st : State) (q : Addr) (t : State) (mc ms : Nat) (free : Addr → Prop) : Prop :=
  ∃ (E : String) (ce : Cell) (L : List Loc), XC E st t ∧ t.heap[q]? = some ce ∧ ce.vm = .none ∧ st.vm.findClass E = some ce.cls ∧ st.WarmedH t.vm ∧ st.sameButNew ({ t with vm := st.vm } : State) L mc ms ∧ ∀ z ∈ L, free z.base
def vx_Q (Qc : Array Value → State → Outcome → State → Prop) (XC : String → State → State → Prop) (mc ms : Nat) (free : Addr → Prop) : Array Value → State → Outcome → State → Prop := fun a st o t =>
  (Qc a st o t ∧ ∃ L, FrameEnd st o t L mc ms ∧ ∀ q ∈ L, free q.base) ∨ ∃ q, o = .threw q ∧ vx_T XC st q t mc ms free
/-- a callee that returns or throws -/
def vx_Met (l : Launch) (y : MethodName) (ws : List Cond) (rm : Room) (Pc : Array Value → State → Prop) (Qc : Array Value → State → Outcome → State → Prop) (XC : String → State → State → Prop) (mc ms : Nat) (free : Addr → Prop) : Prop :=
  MetFree l y (headSpec ws rm) Pc (fun _ _ _ _ _ => True) (vx_Q Qc XC mc ms free)
def vx_Post (XC : String → State → State → Prop) (mc ms : Nat) (free : Addr → Prop) : Pt → Array Value → Addr → Pt → Prop := fun A a q B =>
  ∃ (g : JFrame) (mk : MethodId) (t : State) (L : List Loc) (E : String) (ce : Cell), B.U.heap = t.heap ∧ B.U.vm = t.vm ∧ XC E (A.U.calling g mk a) t ∧ t.heap[q]? = some ce ∧ ce.vm = .none ∧ A.U.vm.findClass E = some ce.cls ∧ B.locs = A.locs ++ L ∧ (∀ z ∈ L, free z.base) ∧ B.cells = A.cells + mc ∧ B.slots = A.slots + ms
def vx_Back (l : Launch) (R : Room) (p : Program) (e : Env) (below : List Frame) (s : State) (sargs : Array Value) (y : MethodName) (len W9 : Nat)
    (Pre : Pt → Array Value → Prop) (Post : Pt → Array Value → Option Value → Pt → Prop) (PostX : Pt → Array Value → Addr → Pt → Prop) : Prop :=
  ∀ (m : MethodId) (meth : Method) (c : Code) (A : Pt) (g : JFrame) (ig : Instr) (mk : MethodId) (a : Array Value),
    Stand p l e R s m sargs below meth c A.U A.locs A.cells A.slots → g.method = m → g.locals.size = c.maxLocals → decode c.code g.pc = .ok (ig, len) →
    2 * g.monitorRoom + (g.stack.map fun v => v.category).sum ≤ W9 → A.U.methodNamed? y = some mk → Pre A a →
    (∃ (v : Option Value) (B : Pt), Stand p l e R s m sargs below meth c B.U B.locs B.cells B.slots ∧ Post A a v B ∧
      Steps p.tables e below (doInvoke e (A.U.setTop g) [] mk a).1 (B.U.setTop { g with pc := g.pc + len, stack := v.toList ++ g.stack })) ∨
    (∃ (q : Addr) (B : Pt), Stand p l e R s m sargs below meth c B.U B.locs B.cells B.slots ∧ PostX A a q B ∧
      Steps p.tables e below (doInvoke e (A.U.setTop g) [] mk a).1 ((B.U.setTop g).pushFrame (.throwing q)))
section Payer
variable {l : Launch} {R : Room} {p : Program} {e : Env} {below : List Frame} {s : State} {sargs : Array Value} {y : MethodName} {len W9 : Nat}
theorem vx_back {ws : List Cond} {rm : Room} {Pc : Array Value → State → Prop} {Qc : Array Value → State → Outcome → State → Prop} {XC : String → State → State → Prop} {mc ms : Nat} {free : Addr → Prop} {bytes : ByteArray} {maxL : Nat} {ret : Option FieldType}
    (hM : vx_Met l y ws rm Pc Qc XC mc ms free) (hblind : FrameBlind Pc) (hrc : rm.cells = mc) (hrs : rm.slots = ms)
    (hframes : rm.frames + 1 ≤ R.frames) (hlocals : W9 + (maxL + 11) + rm.locals ≤ R.locals)
    (hws : ∀ w ∈ ws, ∀ a' U, s.WarmedH U.vm → w.before a' U = true) (hcode : Cond.code y bytes maxL ret ∈ ws) (hinit : ∀ a' U, s.WarmedH U.vm → (Cond.initialized y.cls).before a' U = true) :
    vx_Back l R p e below s sargs y len W9 (PreOf R mc ms Pc) (PostOf Qc mc ms free) (vx_Post XC mc ms free) := by
  intro m meth c A g ig mk a X hg hsize hdg hW hn hp
  have h1 : (headSpec ws rm).pre.before a A.U = true := atoms_intro fun w hw => hws w hw _ _ X.warmed
  have h2 : (Cond.code y bytes maxL ret).before a A.U = true := hws _ hcode _ _ X.warmed
  have h3 : (Cond.initialized y.cls).before a A.U = true := hinit _ _ X.warmed
  have h4 : A.cells + (headSpec ws rm).room.cells ≤ R.cells := by rw [show (headSpec ws rm).room.cells = mc from hrc]; exact hp.1
  have h5 : A.slots + (headSpec ws rm).room.slots ≤ R.slots := by rw [show (headSpec ws rm).room.slots = ms from hrs]; exact hp.2.1
  have hPc : Pc a (A.U.calling g mk a) := hblind _ _ _ _ hp.2.2
  obtain ⟨U, Ls, c0, s0⟩ := A
  dsimp only [Pt.U, Pt.locs, Pt.cells, Pt.slots] at h1 h2 h3 h4 h5 X hn hPc ⊢
  obtain ⟨methY, cY, hmY, hcY, -, hlY, -, -, -, -⟩ := Cond.code_spec hn h2
  obtain ⟨kY, hkY, -⟩ := className_of_methodNamed hn
  have hinitY : kY.init = .initialized := Cond.initialized_spec (findClass_of_methodNamed hn) hkY h3
  have h : At U g.method c below := by rw [hg]; exact X.here
  have hlocals9 : W9 + (maxL + 11) + (headSpec ws rm).room.locals ≤ R.locals := hlocals
  have happ : (headSpec ws rm).appliesLoose y e.platform (U.calling g mk a) = true :=
    Spec.appliesLoose_calling (g := g) h hdg hn hkY hinitY
      (X.room_calling (g := g) (R' := (headSpec ws rm).room) hsize hmY hcY hframes (by rw [hlY]; omega) h4 h5) h1
  obtain ⟨mid, hmid⟩ := h.above
  have hfr : (U.setTop g).frames = (.java g :: mid) ++ below := by rw [State.frames_setTop' g h.top, hmid]; rfl
  obtain ⟨o, s₂, hsteps, -, hend, hq⟩ := Steps.callFree hM p X.admits X.cas X.clock (acts := []) hfr happ hPc trivial
  have hq' : vx_Q Qc XC mc ms free a (U.calling g mk a) o s₂ := hq
  rw [State.frames_setTop' g h.top] at hend
  obtain ⟨g₀, hg0⟩ := Option.isSome_iff_exists.mp h.top
  obtain ⟨r, hr⟩ := State.topJava?_eq_some.mp hg0
  have hr' : (({ U with heap := s₂.heap, slotsUsed := s₂.slotsUsed } : State).setVm s₂.vm).frames = .java g₀ :: r := hr
  rcases hq' with ⟨hqc, L, hfe, hL⟩ | ⟨q, rfl, E, ce, L, hx, hce, hcv, hcl, hW₂, hsm, hL⟩
  · obtain ⟨⟨v, rfl⟩, hW₂, e2, q2, q3, q4, q5, q6⟩ := id hfe
    have e3 : s₂ = ({ (U.calling g mk a).setFrames s₂.frames with heap := s₂.heap, slotsUsed := s₂.slotsUsed } : State).setVm s₂.vm := by
      have : s₂ = ({ s₂ with vm := (U.calling g mk a).vm } : State).setVm s₂.vm := rfl
      rw [e2] at this
      exact this
    obtain ⟨c₂, i₂, len₂, hc₂, hd₂, hf₂⟩ := hend
    have hW' : U.WarmedH s₂.vm := hW₂
    have hcc : c₂ = c := by
      have h1 : s₂.code? g.method = U.code? g.method := by
        rw [State.code?_eq, State.code?_eq, hW'.alike.method?]
      exact Option.some.inj (hc₂.symm.trans (h1.trans h.code))
    subst hcc
    have hlen : len₂ = len := by rw [hdg] at hd₂; cases hd₂; rfl
    subst hlen
    have hs₂ : s₂ = (({ U with heap := s₂.heap, slotsUsed := s₂.slotsUsed } : State).setVm s₂.vm).setTop { g with pc := g.pc + len₂, stack := v.toList ++ g.stack } := by
      refine e3.trans ?_
      rw [hf₂, State.calling_eq h.top, State.setFrames_setFrames, State.setTop_of_frames _ hr', hr]
      rfl
    have hsame : U.sameButNew ({ U with heap := s₂.heap, slotsUsed := s₂.slotsUsed } : State) L mc ms := by
      refine ⟨?_, q2, q3, q4, q5, q6⟩
      obtain ⟨t, ht, -⟩ := State.frames_cons hr
      show ({ U with heap := s₂.heap, slotsUsed := s₂.slotsUsed } : State) = { U.setFrames U.frames with heap := s₂.heap, slotsUsed := s₂.slotsUsed }
      rw [State.setFrames_self ht]
    subst hg
    refine Or.inl ⟨v, ⟨(({ U with heap := s₂.heap, slotsUsed := s₂.slotsUsed } : State).setVm s₂.vm), Ls ++ L, c0 + mc, s0 + ms⟩,
      ⟨X.admits, X.cas, X.clock, X.frames, X.room, X.hears, X.method, X.code, (X.here.setHeapUsed s₂.heap s₂.slotsUsed).setVm hW'.alike, X.tail, State.WarmedH.trans X.warmed hW', X.limits, X.bytes, X.same.trans (hsame.setVm s.vm)⟩,
      ⟨g, mk, s₂, L, rfl, rfl, hqc, rfl, hL, rfl, rfl⟩, ?_⟩
    show Steps p.tables e below _ ((({ U with heap := s₂.heap, slotsUsed := s₂.slotsUsed } : State).setVm s₂.vm).setTop { g with pc := g.pc + len₂, stack := v.toList ++ g.stack })
    rw [← hs₂]
    exact hsteps
  · obtain ⟨e2, q2, q3, q4, q5, q6⟩ := id hsm
    have e3 : s₂ = ({ (U.calling g mk a).setFrames s₂.frames with heap := s₂.heap, slotsUsed := s₂.slotsUsed } : State).setVm s₂.vm := by
      have : s₂ = ({ s₂ with vm := (U.calling g mk a).vm } : State).setVm s₂.vm := rfl
      rw [e2] at this
      exact this
    have hf₂ : s₂.frames = .throwing q :: .java g :: U.frames.tail := hend
    have hW' : U.WarmedH s₂.vm := hW₂
    have hs₂ : s₂ = ((({ U with heap := s₂.heap, slotsUsed := s₂.slotsUsed } : State).setVm s₂.vm).setTop g).pushFrame (.throwing q) := by
      refine e3.trans ?_
      rw [hf₂, State.calling_eq h.top, State.setFrames_setFrames, State.pushFrame, State.frames_setTop _ hr', State.setTop_of_frames _ hr', State.setFrames_setFrames, hr]
      rfl
    have hsame : U.sameButNew ({ U with heap := s₂.heap, slotsUsed := s₂.slotsUsed } : State) L mc ms := by
      refine ⟨?_, q2, q3, q4, q5, q6⟩
      obtain ⟨t, ht, -⟩ := State.frames_cons hr
      show ({ U with heap := s₂.heap, slotsUsed := s₂.slotsUsed } : State) = { U.setFrames U.frames with heap := s₂.heap, slotsUsed := s₂.slotsUsed }
      rw [State.setFrames_self ht]
    subst hg
    refine Or.inr ⟨q, ⟨(({ U with heap := s₂.heap, slotsUsed := s₂.slotsUsed } : State).setVm s₂.vm), Ls ++ L, c0 + mc, s0 + ms⟩,
      ⟨X.admits, X.cas, X.clock, X.frames, X.room, X.hears, X.method, X.code, (X.here.setHeapUsed s₂.heap s₂.slotsUsed).setVm hW'.alike, X.tail, State.WarmedH.trans X.warmed hW', X.limits, X.bytes, X.same.trans (hsame.setVm s.vm)⟩,
      ⟨g, mk, s₂, L, E, ce, rfl, rfl, hx, hce, hcv, hcl, rfl, hL, rfl, rfl⟩, ?_⟩
    show Steps p.tables e below _ (((({ U with heap := s₂.heap, slotsUsed := s₂.slotsUsed } : State).setVm s₂.vm).setTop g).pushFrame (.throwing q))
    rw [← hs₂]
    exact hsteps
end Payer
section Calls
variable {p : Program} {l : Launch} {e : Env} {R : Room} {s : State} {m : MethodId} {args : Array Value} {below : List Frame} {meth : Method} {c : Code} {T : State} {locs : List Loc} {cells slots : Nat}
theorem vx_callV (X : Stand p l e R s m args below meth c T locs cells slots) (hexec : p.tables.exec = Jvm.exec) {own C : String} {index : Nat} {y : MethodName} {bytes : ByteArray} {maxL : Nat} {ret : Option FieldType}
    (hown : s.vm.findClass own = some m.cls) (hlink : (Cond.methodLink own index y).before args s = true) (hinst : (Cond.instanceMethod y).before args s = true) (hsel : (Cond.selects C y y).before args s = true)
    (hcode : (Cond.code y bytes maxL ret).before args s = true) (hy : y.cls ≠ "java/lang/invoke/MethodHandle" ∧ y.cls ≠ "java/lang/invoke/VarHandle")
    {W9 : Nat} {Pre : Pt → Array Value → Prop} {Post : Pt → Array Value → Option Value → Pt → Prop} {PostX : Pt → Array Value → Addr → Pt → Prop} (hK : vx_Back l R p e below s args y 3 W9 Pre Post PostX)
    {b : Addr} {cellB : Cell} (hcell : T.heap[b]? = some cellB) (hobj : cellB.vm.isStatics = false) (hcls : s.vm.findClass C = some cellB.cls)
    {g : JFrame} (hg : g.method = m) (hsize : g.locals.size = c.maxLocals) {argsL rest : List Value} (hlen : ∀ sig, parseMethodDescriptor y.desc = some sig → argsL.length = sig.parameters.length)
    (hstack : g.stack = argsL.reverse ++ .ref b :: rest) (hW : 2 * g.monitorRoom + (rest.map fun v => v.category).sum ≤ W9) (hdg : decode c.code g.pc = .ok (.invokevirtual index, 3))
    (hpre : ∀ vm₁, s.WarmedH vm₁ → Pre ⟨T.setVm vm₁, locs, cells, slots⟩ (Value.ref b :: argsL).toArray) :
    (∃ (v : Option Value) (vm₁ : Vm) (B : Pt), s.WarmedH vm₁ ∧ Stand p l e R s m args below meth c B.U B.locs B.cells B.slots ∧ Post ⟨T.setVm vm₁, locs, cells, slots⟩ (Value.ref b :: argsL).toArray v B ∧
      ∀ target, Steps p.tables e below (B.U.setTop { g with pc := g.pc + 3, stack := v.toList ++ rest }) target → Steps p.tables e below (T.setTop g) target) ∨
    (∃ (q : Addr) (vm₁ : Vm) (B : Pt), s.WarmedH vm₁ ∧ Stand p l e R s m args below meth c B.U B.locs B.cells B.slots ∧ PostX ⟨T.setVm vm₁, locs, cells, slots⟩ (Value.ref b :: argsL).toArray q B ∧
      Steps p.tables e below (T.setTop g) ((B.U.setTop { g with stack := rest }).pushFrame (.throwing q))) := by
  obtain ⟨mk, methM, hnamed, hmethM, hstM, habM⟩ := Cond.instanceMethod_spec hinst
  obtain ⟨methM', cM, hmethM', -, -, -, -, -, -, hsigM⟩ := Cond.code_spec hnamed hcode
  cases hmethM.symm.trans hmethM'
  obtain ⟨c2, r2, m2, q1, q2, q3, q4, kP, hkP, hkPi⟩ := Cond.selects_spec hsel
  cases hcls.symm.trans q1
  cases (State.methodFound?_of_named hnamed hy).symm.trans q2
  cases hnamed.symm.trans q3
  have hselP : selectMethod e.platform s.vm cellB.cls mk = .method mk := by rw [Launch.admits_selectMethod X.admits]; exact q4
  obtain ⟨vm₁, X₁, hstep₁⟩ := X.invokevirtual hexec hown hlink hnamed hmethM hstM hkP hkPi hy (a := b) (cell := cellB) hcell
    (fun z h => by rw [h] at hobj; cases hobj) hselP hmethM habM hkP hkPi (g := g) hg (argsL := argsL) (rest := rest) (hlen _ hsigM) hstack hdg
  rcases hK m meth c ⟨T.setVm vm₁, locs, cells, slots⟩ { g with stack := rest } (.invokevirtual index) mk (Value.ref b :: argsL).toArray X₁ hg hsize hdg hW (X₁.named hnamed) (hpre vm₁ X₁.warmed) with ⟨v, B, X', hpost, hsteps⟩ | ⟨q, B, X', hpost, hsteps⟩
  · exact Or.inl ⟨v, vm₁, B, X₁.warmed, X', hpost, fun target h => hstep₁ _ fun acts => by rw [doInvoke_state]; exact hsteps.trans h⟩
  · exact Or.inr ⟨q, vm₁, B, X₁.warmed, X', hpost, hstep₁ _ fun acts => by rw [doInvoke_state]; exact hsteps⟩
theorem vx_callS (X : Stand p l e R s m args below meth c T locs cells slots) (hexec : p.tables.exec = Jvm.exec) {own : String} {index : Nat} {y : MethodName} {bytes : ByteArray} {maxL : Nat} {ret : Option FieldType}
    (hown : s.vm.findClass own = some m.cls) (hlink : (Cond.methodLink own index y).before args s = true) (hstat : (Cond.static y).before args s = true) (hinit : (Cond.initialized y.cls).before args s = true)
    (hcode : (Cond.code y bytes maxL ret).before args s = true) (hy : y.cls ≠ "java/lang/invoke/MethodHandle" ∧ y.cls ≠ "java/lang/invoke/VarHandle")
    {W9 : Nat} {Pre : Pt → Array Value → Prop} {Post : Pt → Array Value → Option Value → Pt → Prop} {PostX : Pt → Array Value → Addr → Pt → Prop} (hK : vx_Back l R p e below s args y 3 W9 Pre Post PostX)
    {g : JFrame} (hg : g.method = m) (hsize : g.locals.size = c.maxLocals) {argsL rest : List Value} (hlen : ∀ sig, parseMethodDescriptor y.desc = some sig → argsL.length = sig.parameters.length)
    (hstack : g.stack = argsL.reverse ++ rest) (hW : 2 * g.monitorRoom + (rest.map fun v => v.category).sum ≤ W9) (hdg : decode c.code g.pc = .ok (.invokestatic index, 3))
    (hpre : ∀ vm₁, s.WarmedH vm₁ → Pre ⟨T.setVm vm₁, locs, cells, slots⟩ argsL.toArray) :
    (∃ (v : Option Value) (vm₁ : Vm) (B : Pt), s.WarmedH vm₁ ∧ Stand p l e R s m args below meth c B.U B.locs B.cells B.slots ∧ Post ⟨T.setVm vm₁, locs, cells, slots⟩ argsL.toArray v B ∧
      ∀ target, Steps p.tables e below (B.U.setTop { g with pc := g.pc + 3, stack := v.toList ++ rest }) target → Steps p.tables e below (T.setTop g) target) ∨
    (∃ (q : Addr) (vm₁ : Vm) (B : Pt), s.WarmedH vm₁ ∧ Stand p l e R s m args below meth c B.U B.locs B.cells B.slots ∧ PostX ⟨T.setVm vm₁, locs, cells, slots⟩ argsL.toArray q B ∧
      Steps p.tables e below (T.setTop g) ((B.U.setTop { g with stack := rest }).pushFrame (.throwing q))) := by
  obtain ⟨mk, hnamed⟩ := Cond.code_named hcode
  obtain ⟨methM, cM, hmethM, -, -, -, -, -, -, hsigM⟩ := Cond.code_spec hnamed hcode
  have hstatic : methM.isStatic = true := Cond.static_spec hnamed hmethM hstat
  obtain ⟨kP, hkP, -⟩ := className_of_methodNamed hnamed
  have hinitP : kP.init = .initialized := Cond.initialized_spec (findClass_of_methodNamed hnamed) hkP hinit
  obtain ⟨vm₁, X₁, hstep₁⟩ := X.invokestatic hexec hown hlink hnamed hmethM hstatic hkP hinitP hy (g := g) hg (argsL := argsL) (rest := rest) (hlen _ hsigM) hstack hdg
  rcases hK m meth c ⟨T.setVm vm₁, locs, cells, slots⟩ { g with stack := rest } (.invokestatic index) mk argsL.toArray X₁ hg hsize hdg hW (X₁.named hnamed) (hpre vm₁ X₁.warmed) with ⟨v, B, X', hpost, hsteps⟩ | ⟨q, B, X', hpost, hsteps⟩
  · exact Or.inl ⟨v, vm₁, B, X₁.warmed, X', hpost, fun target h => hstep₁ _ fun acts => by rw [doInvoke_state]; exact hsteps.trans h⟩
  · exact Or.inr ⟨q, vm₁, B, X₁.warmed, X', hpost, hstep₁ _ fun acts => by rw [doInvoke_state]; exact hsteps⟩
end Calls
theorem vx_cls {s : State} {T : State} {vm₁ : Vm} {E : String} {k : ClassId} (hW : s.WarmedH vm₁) (h : (T.setVm vm₁).vm.findClass E = some k) : s.vm.findClass E = some k := by
  have h1 : vm₁.findClass E = some k := h
  rw [hW.alike.findClass] at h1
  exact h1
/-- the method's frame g, with q thrown over it -/
def vx_W (p : Program) (l : Launch) (e : Env) (R : Room) (s : State) (m : MethodId) (args : Array Value) (below : List Frame) (meth : Method) (c : Code) (H : Heap) (locs : List Loc) (cells slots : Nat) (Q : State → Prop) (g : JFrame) (q : Addr) : Prop :=
  ∀ T : State, T.heap = H → Stand p l e R s m args below meth c T locs cells slots → ∃ t, Steps p.tables e below ((T.setTop g).pushFrame (.throwing q)) t ∧ Q t
def vx_Run (p : Program) (l : Launch) (e : Env) (R : Room) (s : State) (m : MethodId) (args : Array Value) (below : List Frame) (meth : Method) (c : Code) (H : Heap) (locs : List Loc) (cells slots mc ms : Nat) (g : JFrame) (rest : List Value) (Qa : State → Outcome → State → Prop) (XC : String → State → State → Prop) (free : Addr → Prop) : Prop :=
  ∀ T : State, T.heap = H → Stand p l e R s m args below meth c T locs cells slots →
    (∃ (v : Option Value) (st₀ t T' : State) (L : List Loc), st₀.heap = H ∧ Stand p l e R s m args below meth c T' (locs ++ L) (cells + mc) (slots + ms) ∧ (∀ q ∈ L, free q.base) ∧ T'.heap = t.heap ∧ T'.vm = t.vm ∧ Qa st₀ (.returned v) t ∧
      Goes p e below T g T' { g with pc := g.pc + 3, stack := v.toList ++ rest }) ∨
    (∃ (q : Addr) (st₀ t T' : State) (L : List Loc) (E : String) (ce : Cell), st₀.heap = H ∧ Stand p l e R s m args below meth c T' (locs ++ L) (cells + mc) (slots + ms) ∧ (∀ z ∈ L, free z.base) ∧ T'.heap = t.heap ∧ T'.vm = t.vm ∧ XC E st₀ t ∧ t.heap[q]? = some ce ∧ ce.vm = .none ∧ s.vm.findClass E = some ce.cls ∧
      Steps p.tables e below (T.setTop g) ((T'.setTop { g with stack := rest }).pushFrame (.throwing q)))
def vx_X {S : Type} (px : S → Prop) (B : String → S → State → Prop) (A : Nat → Prop) : String → State → State → Prop := fun E st t => ∃ u : S, px u ∧ B E u t ∧ va_F A st t
section Runs
variable {p : Program} {l : Launch} {e : Env} {R : Room} {s : State} {m : MethodId} {args : Array Value} {below : List Frame} {meth : Method} {c : Code} {H : Heap} {locs : List Loc} {cells slots : Nat}
variable {y : MethodName} {bytes cc : ByteArray} {maxL nL mc ms n index : Nat} {ret : Option FieldType} {ws : List Cond} {rm : Room} {Pc : Array Value → State → Prop} {Qc : Array Value → State → Outcome → State → Prop} {XC : String → State → State → Prop} {free : Addr → Prop} {Ts : List Cond} {own C : String} {b : Addr} {As rest : List Value} {g : JFrame}
theorem vx_callBack (cb : CallB R s args own index y bytes maxL ret ws rm mc ms n) (hM : vx_Met l y ws rm Pc Qc XC mc ms free) (hbl : FrameBlind Pc) : vx_Back l R p e below s args y 3 8 (PreOf R mc ms Pc) (PostOf Qc mc ms free) (vx_Post XC mc ms free) := by
  obtain ⟨hrc, hrs, hfr, hlo, hws, hcw, -, hini, -⟩ := cb
  exact vx_back (bytes := bytes) (maxL := maxL) (ret := ret) hM hbl hrc hrs hfr hlo hws hcw (fun a' U hW => word_at hW (Or.inl (by first | rfl | simp [Cond.onTables, Cond.keeps, Cond.steady])) hini)
theorem vx_runV (S : CallFix p m c cc nL s args Ts own) (hM : vx_Met l y ws rm Pc Qc XC mc ms free) (cw : CallW R s args own C index y bytes maxL ret ws rm mc ms n) (hp : PreV s H C b Pc As)
    (hg : g.method = m) (hn : As.length = n) (hsize : g.locals.size = nL) (hstack : g.stack = As.reverse ++ .ref b :: rest) (hW : 2 * g.monitorRoom + (rest.map fun v => v.category).sum ≤ 8) (hdg : decode cc g.pc = .ok (.invokevirtual index, 3)) (hf : cells + mc ≤ R.cells ∧ slots + ms ≤ R.slots) :
    vx_Run p l e R s m args below meth c H locs cells slots mc ms g rest (Qc (Value.ref b :: As).toArray) XC free := by
  have hK : vx_Back l R p e below s args y 3 8 (PreOf R mc ms Pc) (PostOf Qc mc ms free) (vx_Post XC mc ms free) := vx_callBack cw.1 hM hp.1
  obtain ⟨⟨-, -, -, -, -, -, hcode, -, hy, hlen, hl⟩, hin, hse⟩ := cw
  obtain ⟨hx, hb, hml, ho, -⟩ := S
  obtain ⟨-, ⟨cellB, hcB, hoB, hclB⟩, hPc⟩ := hp
  intro T hT X
  rcases vx_callV X hx (C := C) (bytes := bytes) (maxL := maxL) (ret := ret) ho hl hin hse hcode hy hK (by rw [hT]; exact hcB) hoB hclB hg (hsize.trans hml.symm) (argsL := As) (rest := rest) (fun sig h => hn.trans (hlen sig h)) hstack hW (by rw [hb]; exact hdg)
    (fun vm₁ hW₁ => ⟨hf.1, hf.2, hPc (T.setVm vm₁) hT hW₁⟩) with ⟨v, vm₁, ⟨U', l2, c2, s2⟩, hW₁, X', ⟨g', mk, t, L, e1, e2, hq, h1, hL, h2, h3⟩, st⟩ | ⟨q, vm₁, ⟨U', l2, c2, s2⟩, hW₁, X', ⟨g', mk, t, L, E, ce, e1, e2, hq, hce, hcv, hcl, h1, hL, h2, h3⟩, st⟩
  · dsimp only [Pt.U, Pt.locs, Pt.cells, Pt.slots] at X' e1 e2 h1 h2 h3 st
    subst h1; subst h2; subst h3
    exact Or.inl ⟨v, (T.setVm vm₁).calling g' mk (Value.ref b :: As).toArray, t, U', L, hT, X', hL, e1, e2, hq, st⟩
  · dsimp only [Pt.U, Pt.locs, Pt.cells, Pt.slots] at X' e1 e2 h1 h2 h3 st hcl
    subst h1; subst h2; subst h3
    exact Or.inr ⟨q, (T.setVm vm₁).calling g' mk (Value.ref b :: As).toArray, t, U', L, E, ce, hT, X', hL, e1, e2, hq, hce, hcv, vx_cls hW₁ hcl, st⟩
theorem vx_runS (S : CallFix p m c cc nL s args Ts own) (hM : vx_Met l y ws rm Pc Qc XC mc ms free) (cw : CallB R s args own index y bytes maxL ret ws rm mc ms n ∧ (Cond.static y).before args s = true) (hp : PreS s H Pc As)
    (hg : g.method = m) (hn : As.length = n) (hsize : g.locals.size = nL) (hstack : g.stack = As.reverse ++ rest) (hW : 2 * g.monitorRoom + (rest.map fun v => v.category).sum ≤ 8) (hdg : decode cc g.pc = .ok (.invokestatic index, 3)) (hf : cells + mc ≤ R.cells ∧ slots + ms ≤ R.slots) :
    vx_Run p l e R s m args below meth c H locs cells slots mc ms g rest (Qc As.toArray) XC free := by
  have hK : vx_Back l R p e below s args y 3 8 (PreOf R mc ms Pc) (PostOf Qc mc ms free) (vx_Post XC mc ms free) := vx_callBack cw.1 hM hp.1
  obtain ⟨⟨-, -, -, -, -, -, hcode, hini, hy, hlen, hl⟩, hstt⟩ := cw
  obtain ⟨hx, hb, hml, ho, -⟩ := S
  intro T hT X
  rcases vx_callS X hx (bytes := bytes) (maxL := maxL) (ret := ret) ho hl hstt hini hcode hy hK hg (hsize.trans hml.symm) (argsL := As) (rest := rest) (fun sig h => hn.trans (hlen sig h)) hstack hW (by rw [hb]; exact hdg)
    (fun vm₁ hW₁ => ⟨hf.1, hf.2, hp.2 (T.setVm vm₁) hT hW₁⟩) with ⟨v, vm₁, ⟨U', l2, c2, s2⟩, hW₁, X', ⟨g', mk, t, L, e1, e2, hq, h1, hL, h2, h3⟩, st⟩ | ⟨q, vm₁, ⟨U', l2, c2, s2⟩, hW₁, X', ⟨g', mk, t, L, E, ce, e1, e2, hq, hce, hcv, hcl, h1, hL, h2, h3⟩, st⟩
  · dsimp only [Pt.U, Pt.locs, Pt.cells, Pt.slots] at X' e1 e2 h1 h2 h3 st
    subst h1; subst h2; subst h3
    exact Or.inl ⟨v, (T.setVm vm₁).calling g' mk As.toArray, t, U', L, hT, X', hL, e1, e2, hq, st⟩
  · dsimp only [Pt.U, Pt.locs, Pt.cells, Pt.slots] at X' e1 e2 h1 h2 h3 st hcl
    subst h1; subst h2; subst h3
    exact Or.inr ⟨q, (T.setVm vm₁).calling g' mk As.toArray, t, U', L, E, ce, hT, X', hL, e1, e2, hq, hce, hcv, vx_cls hW₁ hcl, st⟩
end Runs
section Rows
variable {p : Program} {l : Launch} {e : Env} {R : Room} {s : State} {m : MethodId} {args : Array Value} {below : List Frame} {meth : Method} {c : Code} {H : Heap} {locs : List Loc} {cells slots : Nat} {Q : State → Prop}
variable {mc ms : Nat} {free : Addr → Prop} {A0 A1 : Nat → Prop} {H0 : Heap} {a : Array Value} {pc : Nat} {ls : Array Slot} {st0 rest : List Value}
theorem vx_keep {st₀ t T' : State} {L : List Loc} (h0 : st₀.heap = H) (e1 : T'.heap = t.heap) (hS : va_S A0 H0 H locs) (hA : ∀ q, q < H.size → A1 q → A0 q) (hf : ∀ q, free q → A0 q) (hL : ∀ q ∈ L, free q.base) (hF : va_F A1 st₀ t) :
    H.size ≤ T'.heap.size ∧ (∀ q : Nat, q < H.size → ¬ A1 q → T'.heap[q]? = H[q]?) ∧ va_S A0 H0 T'.heap (locs ++ L) := by
  obtain ⟨hz, hk⟩ := hF
  rw [h0] at hz hk
  exact ⟨by rw [e1]; exact hz, fun q h1 h2 => by rw [e1]; exact hk q h1 h2,
    ⟨Nat.le_trans hS.1 (by rw [e1]; exact hz), fun q h1 h2 => by rw [e1, hk q (Nat.lt_of_lt_of_le h1 hS.1) (fun z => h2 (hA q (Nat.lt_of_lt_of_le h1 hS.1) z))]; exact hS.2.1 q h1 h2, fun q hq => by
      rcases List.mem_append.mp hq with h | h
      · exact hS.2.2 q h
      · exact hf _ (hL q h)⟩⟩
theorem vx_calli {S SX : Type} {post : Int32 → S → Prop} {px : SX → Prop} {B : S → State → Prop} {BX : String → SX → State → Prop} {AX : Nat → Prop} (hr : vx_Run p l e R s m args below meth c H locs cells slots mc ms (F0 m pc ls st0) rest (va_Qi post B A1 a) (vx_X px BX AX) free) (hS : va_S A0 H0 H locs) (hA : ∀ q, q < H.size → A1 q → A0 q) (hf : ∀ q, free q → A0 q) (hAX : ∀ q, q < H.size → AX q → A0 q)
    (kx : ∀ (E : String) (ce : Cell) (q9 : Addr) (u : SX) (t : State) (H1 : Heap) (locs1 : List Loc), t.heap = H1 → s.vm.Alike t.vm → px u → BX E u t → H.size ≤ H1.size → (∀ q : Nat, q < H.size → ¬ AX q → H1[q]? = H[q]?) → va_S A0 H0 H1 locs1 → H1[q9]? = some ce → ce.vm = .none → s.vm.findClass E = some ce.cls → vx_W p l e R s m args below meth c H1 locs1 (cells + mc) (slots + ms) Q (F0 m pc ls rest) q9)
    (kk : ∀ (r : Int32) (u : S) (t : State) (H1 : Heap) (locs1 : List Loc), t.heap = H1 → s.vm.Alike t.vm → post r u → B u t → H.size ≤ H1.size → (∀ q : Nat, q < H.size → ¬ A1 q → H1[q]? = H[q]?) → va_S A0 H0 H1 locs1 → W p l e R s m args below meth c H1 locs1 (cells + mc) (slots + ms) Q (F0 m (pc + 3) ls (.int r :: rest))) : W p l e R s m args below meth c H locs cells slots Q (F0 m pc ls st0) := by
  intro T hT X
  rcases hr T hT X with ⟨v, st₀, t, T', L, h0, X', hL, e1, e2, ⟨⟨r, u, hv, hp, hb⟩, hF⟩, st⟩ | ⟨q, st₀, t, T', L, E, ce, h0, X', hL, e1, e2, ⟨u, hp, hb, hF⟩, hce, hcv, hcl, st⟩
  · cases hv
    obtain ⟨k1, k2, k3⟩ := vx_keep h0 e1 hS hA hf hL hF
    obtain ⟨t2, a1, b1⟩ := kk r u t T'.heap (locs ++ L) e1.symm (by rw [← e2]; exact X'.warmed.alike) hp hb k1 k2 k3 T' rfl X'
    exact ⟨t2, st t2 a1, b1⟩
  · obtain ⟨k1, k2, k3⟩ := vx_keep h0 e1 hS hAX hf hL hF
    obtain ⟨t2, a1, b1⟩ := kx E ce q u t T'.heap (locs ++ L) e1.symm (by rw [← e2]; exact X'.warmed.alike) hp hb k1 k2 k3 (by rw [e1]; exact hce) hcv hcl T' rfl X'
    exact ⟨t2, st.trans a1, b1⟩
theorem vx_calll {S SX : Type} {post : Int64 → S → Prop} {px : SX → Prop} {B : S → State → Prop} {BX : String → SX → State → Prop} {AX : Nat → Prop} (hr : vx_Run p l e R s m args below meth c H locs cells slots mc ms (F0 m pc ls st0) rest (va_Ql post B A1 a) (vx_X px BX AX) free) (hS : va_S A0 H0 H locs) (hA : ∀ q, q < H.size → A1 q → A0 q) (hf : ∀ q, free q → A0 q) (hAX : ∀ q, q < H.size → AX q → A0 q)
    (kx : ∀ (E : String) (ce : Cell) (q9 : Addr) (u : SX) (t : State) (H1 : Heap) (locs1 : List Loc), t.heap = H1 → s.vm.Alike t.vm → px u → BX E u t → H.size ≤ H1.size → (∀ q : Nat, q < H.size → ¬ AX q → H1[q]? = H[q]?) → va_S A0 H0 H1 locs1 → H1[q9]? = some ce → ce.vm = .none → s.vm.findClass E = some ce.cls → vx_W p l e R s m args below meth c H1 locs1 (cells + mc) (slots + ms) Q (F0 m pc ls rest) q9)
    (kk : ∀ (r : Int64) (u : S) (t : State) (H1 : Heap) (locs1 : List Loc), t.heap = H1 → s.vm.Alike t.vm → post r u → B u t → H.size ≤ H1.size → (∀ q : Nat, q < H.size → ¬ A1 q → H1[q]? = H[q]?) → va_S A0 H0 H1 locs1 → W p l e R s m args below meth c H1 locs1 (cells + mc) (slots + ms) Q (F0 m (pc + 3) ls (.long r :: rest))) : W p l e R s m args below meth c H locs cells slots Q (F0 m pc ls st0) := by
  intro T hT X
  rcases hr T hT X with ⟨v, st₀, t, T', L, h0, X', hL, e1, e2, ⟨⟨r, u, hv, hp, hb⟩, hF⟩, st⟩ | ⟨q, st₀, t, T', L, E, ce, h0, X', hL, e1, e2, ⟨u, hp, hb, hF⟩, hce, hcv, hcl, st⟩
  · cases hv
    obtain ⟨k1, k2, k3⟩ := vx_keep h0 e1 hS hA hf hL hF
    obtain ⟨t2, a1, b1⟩ := kk r u t T'.heap (locs ++ L) e1.symm (by rw [← e2]; exact X'.warmed.alike) hp hb k1 k2 k3 T' rfl X'
    exact ⟨t2, st t2 a1, b1⟩
  · obtain ⟨k1, k2, k3⟩ := vx_keep h0 e1 hS hAX hf hL hF
    obtain ⟨t2, a1, b1⟩ := kx E ce q u t T'.heap (locs ++ L) e1.symm (by rw [← e2]; exact X'.warmed.alike) hp hb k1 k2 k3 (by rw [e1]; exact hce) hcv hcl T' rfl X'
    exact ⟨t2, st.trans a1, b1⟩
theorem vx_callf {S SX : Type} {post : UInt32 → S → Prop} {px : SX → Prop} {B : S → State → Prop} {BX : String → SX → State → Prop} {AX : Nat → Prop} (hr : vx_Run p l e R s m args below meth c H locs cells slots mc ms (F0 m pc ls st0) rest (va_Qf post B A1 a) (vx_X px BX AX) free) (hS : va_S A0 H0 H locs) (hA : ∀ q, q < H.size → A1 q → A0 q) (hf : ∀ q, free q → A0 q) (hAX : ∀ q, q < H.size → AX q → A0 q)
    (kx : ∀ (E : String) (ce : Cell) (q9 : Addr) (u : SX) (t : State) (H1 : Heap) (locs1 : List Loc), t.heap = H1 → s.vm.Alike t.vm → px u → BX E u t → H.size ≤ H1.size → (∀ q : Nat, q < H.size → ¬ AX q → H1[q]? = H[q]?) → va_S A0 H0 H1 locs1 → H1[q9]? = some ce → ce.vm = .none → s.vm.findClass E = some ce.cls → vx_W p l e R s m args below meth c H1 locs1 (cells + mc) (slots + ms) Q (F0 m pc ls rest) q9)
    (kk : ∀ (r : UInt32) (u : S) (t : State) (H1 : Heap) (locs1 : List Loc), t.heap = H1 → s.vm.Alike t.vm → post r u → B u t → H.size ≤ H1.size → (∀ q : Nat, q < H.size → ¬ A1 q → H1[q]? = H[q]?) → va_S A0 H0 H1 locs1 → W p l e R s m args below meth c H1 locs1 (cells + mc) (slots + ms) Q (F0 m (pc + 3) ls (.float r :: rest))) : W p l e R s m args below meth c H locs cells slots Q (F0 m pc ls st0) := by
  intro T hT X
  rcases hr T hT X with ⟨v, st₀, t, T', L, h0, X', hL, e1, e2, ⟨⟨r, u, hv, hp, hb⟩, hF⟩, st⟩ | ⟨q, st₀, t, T', L, E, ce, h0, X', hL, e1, e2, ⟨u, hp, hb, hF⟩, hce, hcv, hcl, st⟩
  · cases hv
    obtain ⟨k1, k2, k3⟩ := vx_keep h0 e1 hS hA hf hL hF
    obtain ⟨t2, a1, b1⟩ := kk r u t T'.heap (locs ++ L) e1.symm (by rw [← e2]; exact X'.warmed.alike) hp hb k1 k2 k3 T' rfl X'
    exact ⟨t2, st t2 a1, b1⟩
  · obtain ⟨k1, k2, k3⟩ := vx_keep h0 e1 hS hAX hf hL hF
    obtain ⟨t2, a1, b1⟩ := kx E ce q u t T'.heap (locs ++ L) e1.symm (by rw [← e2]; exact X'.warmed.alike) hp hb k1 k2 k3 (by rw [e1]; exact hce) hcv hcl T' rfl X'
    exact ⟨t2, st.trans a1, b1⟩
theorem vx_calld {S SX : Type} {post : UInt64 → S → Prop} {px : SX → Prop} {B : S → State → Prop} {BX : String → SX → State → Prop} {AX : Nat → Prop} (hr : vx_Run p l e R s m args below meth c H locs cells slots mc ms (F0 m pc ls st0) rest (va_Qd post B A1 a) (vx_X px BX AX) free) (hS : va_S A0 H0 H locs) (hA : ∀ q, q < H.size → A1 q → A0 q) (hf : ∀ q, free q → A0 q) (hAX : ∀ q, q < H.size → AX q → A0 q)
    (kx : ∀ (E : String) (ce : Cell) (q9 : Addr) (u : SX) (t : State) (H1 : Heap) (locs1 : List Loc), t.heap = H1 → s.vm.Alike t.vm → px u → BX E u t → H.size ≤ H1.size → (∀ q : Nat, q < H.size → ¬ AX q → H1[q]? = H[q]?) → va_S A0 H0 H1 locs1 → H1[q9]? = some ce → ce.vm = .none → s.vm.findClass E = some ce.cls → vx_W p l e R s m args below meth c H1 locs1 (cells + mc) (slots + ms) Q (F0 m pc ls rest) q9)
    (kk : ∀ (r : UInt64) (u : S) (t : State) (H1 : Heap) (locs1 : List Loc), t.heap = H1 → s.vm.Alike t.vm → post r u → B u t → H.size ≤ H1.size → (∀ q : Nat, q < H.size → ¬ A1 q → H1[q]? = H[q]?) → va_S A0 H0 H1 locs1 → W p l e R s m args below meth c H1 locs1 (cells + mc) (slots + ms) Q (F0 m (pc + 3) ls (.double r :: rest))) : W p l e R s m args below meth c H locs cells slots Q (F0 m pc ls st0) := by
  intro T hT X
  rcases hr T hT X with ⟨v, st₀, t, T', L, h0, X', hL, e1, e2, ⟨⟨r, u, hv, hp, hb⟩, hF⟩, st⟩ | ⟨q, st₀, t, T', L, E, ce, h0, X', hL, e1, e2, ⟨u, hp, hb, hF⟩, hce, hcv, hcl, st⟩
  · cases hv
    obtain ⟨k1, k2, k3⟩ := vx_keep h0 e1 hS hA hf hL hF
    obtain ⟨t2, a1, b1⟩ := kk r u t T'.heap (locs ++ L) e1.symm (by rw [← e2]; exact X'.warmed.alike) hp hb k1 k2 k3 T' rfl X'
    exact ⟨t2, st t2 a1, b1⟩
  · obtain ⟨k1, k2, k3⟩ := vx_keep h0 e1 hS hAX hf hL hF
    obtain ⟨t2, a1, b1⟩ := kx E ce q u t T'.heap (locs ++ L) e1.symm (by rw [← e2]; exact X'.warmed.alike) hp hb k1 k2 k3 (by rw [e1]; exact hce) hcv hcl T' rfl X'
    exact ⟨t2, st.trans a1, b1⟩
theorem vx_callv {S SX : Type} {post : S → Prop} {px : SX → Prop} {B : S → State → Prop} {BX : String → SX → State → Prop} {AX : Nat → Prop} (hr : vx_Run p l e R s m args below meth c H locs cells slots mc ms (F0 m pc ls st0) rest (va_Qv post B A1 a) (vx_X px BX AX) free) (hS : va_S A0 H0 H locs) (hA : ∀ q, q < H.size → A1 q → A0 q) (hf : ∀ q, free q → A0 q) (hAX : ∀ q, q < H.size → AX q → A0 q)
    (kx : ∀ (E : String) (ce : Cell) (q9 : Addr) (u : SX) (t : State) (H1 : Heap) (locs1 : List Loc), t.heap = H1 → s.vm.Alike t.vm → px u → BX E u t → H.size ≤ H1.size → (∀ q : Nat, q < H.size → ¬ AX q → H1[q]? = H[q]?) → va_S A0 H0 H1 locs1 → H1[q9]? = some ce → ce.vm = .none → s.vm.findClass E = some ce.cls → vx_W p l e R s m args below meth c H1 locs1 (cells + mc) (slots + ms) Q (F0 m pc ls rest) q9)
    (kk : ∀ (u : S) (t : State) (H1 : Heap) (locs1 : List Loc), t.heap = H1 → s.vm.Alike t.vm → post u → B u t → H.size ≤ H1.size → (∀ q : Nat, q < H.size → ¬ A1 q → H1[q]? = H[q]?) → va_S A0 H0 H1 locs1 → W p l e R s m args below meth c H1 locs1 (cells + mc) (slots + ms) Q (F0 m (pc + 3) ls (rest))) : W p l e R s m args below meth c H locs cells slots Q (F0 m pc ls st0) := by
  intro T hT X
  rcases hr T hT X with ⟨v, st₀, t, T', L, h0, X', hL, e1, e2, ⟨⟨u, hv, hp, hb⟩, hF⟩, st⟩ | ⟨q, st₀, t, T', L, E, ce, h0, X', hL, e1, e2, ⟨u, hp, hb, hF⟩, hce, hcv, hcl, st⟩
  · cases hv
    obtain ⟨k1, k2, k3⟩ := vx_keep h0 e1 hS hA hf hL hF
    obtain ⟨t2, a1, b1⟩ := kk u t T'.heap (locs ++ L) e1.symm (by rw [← e2]; exact X'.warmed.alike) hp hb k1 k2 k3 T' rfl X'
    exact ⟨t2, st t2 a1, b1⟩
  · obtain ⟨k1, k2, k3⟩ := vx_keep h0 e1 hS hAX hf hL hF
    obtain ⟨t2, a1, b1⟩ := kx E ce q u t T'.heap (locs ++ L) e1.symm (by rw [← e2]; exact X'.warmed.alike) hp hb k1 k2 k3 (by rw [e1]; exact hce) hcv hcl T' rfl X'
    exact ⟨t2, st.trans a1, b1⟩
/-- caught by the row x of this method's table; the rows ahead don't take it -/
theorem vx_catch {own name : String} {E : String} {ce : Cell} {q : Addr} (hown : s.vm.findClass own = some m.cls) (pre : List ExceptionTableEntry) (x : ExceptionTableEntry) (suf : List ExceptionTableEntry) (hsplit : c.exceptionTable.toList = pre ++ x :: suf)
    (hpass : ∀ z ∈ pre, covers z pc = false ∨ (z.catchType ≠ 0 ∧ ∃ nm : String, (Cond.classLink own z.catchType nm).before args s = true ∧ va_Nc E nm s)) (hx : covers x pc = true) (h0 : x.catchType ≠ 0)
    (hlink : (Cond.classLink own x.catchType name).before args s = true) (hcast : (Cond.castable E name).before args s = true) (hcell : H[q]? = some ce) (hv : ce.vm = .none) (hcl : s.vm.findClass E = some ce.cls)
    (kk : W p l e R s m args below meth c H locs cells slots Q (F0 m x.handlerPc ls [.ref q])) : vx_W p l e R s m args below meth c H locs cells slots Q (F0 m pc ls rest) q := by
  intro T hT X
  have hpl : e.platform.magicAccessors = ({} : Platform).magicAccessors := by rw [X.admits.platform]
  obtain ⟨c3, c4, hc3, hc4, hasg⟩ := Cond.castable_spec hcast
  cases Option.some.inj (hc3.symm.trans hcl)
  obtain ⟨c5, hc5, hcl5⟩ := Cond.classLink_spec hown hlink e.platform hpl
  cases Option.some.inj (hc4.symm.trans hc5)
  obtain ⟨vm', X', st⟩ := X.thenCaughtThrough q (g := F0 m pc ls rest) rfl (Steps.refl _) (by rw [hT]; exact hcell) (by rw [hv]; rfl) (by obtain ⟨k9, h9, -⟩ := Vm.findClass_spec hcl; exact ⟨k9, h9⟩) pre x suf hsplit
    (fun z hz => by
      rcases hpass z hz with h | ⟨hz0, nm, hl1, hn1⟩
      · exact Or.inl h
      · obtain ⟨c6, hc6, hcl6⟩ := Cond.classLink_spec hown hl1 e.platform hpl
        obtain ⟨a8, b8, h1, h2, h3⟩ := hn1
        cases Option.some.inj (h1.symm.trans hcl)
        cases Option.some.inj (h2.symm.trans hc6)
        exact Or.inr ⟨hz0, _, hcl6, h3⟩) hx (Or.inr ⟨h0, c4, hcl5, hasg⟩)
  obtain ⟨t, a1, b1⟩ := kk (T.setVm vm') hT X'
  exact ⟨t, st.trans a1, b1⟩
end Rows
section Ends
variable {p : Program} {l : Launch} {e : Env} {R : Room} {s : State} {m : MethodId} {args : Array Value} {below : List Frame} {meth : Method} {c : Code} {H : Heap} {locs : List Loc} {cells slots : Nat} {Q : State → Prop}
variable {mc ms : Nat} {free : Addr → Prop} {A0 A1 : Nat → Prop} {H0 : Heap} {a : Array Value} {ls : Array Slot} {st0 rest : List Value}
variable {Qc : Array Value → State → Outcome → State → Prop} {XC : String → State → State → Prop}
/-- what a body that may throw owes at its end -/
def vx_MQ (below : List Frame) (Qc : Array Value → State → Outcome → State → Prop) (XC : String → State → State → Prop) (a : Array Value) (s : State) (mc ms : Nat) (free : Addr → Prop) : State → Prop := fun t =>
  ∃ o, t.status = .running ∧ Ended t below o ∧ vx_Q Qc XC mc ms free a s o t
theorem vx_ret {g : JFrame} {mc ms : Nat} (k : W p l e R s m args below meth c H locs cells slots (MQ below Qc args s mc ms free) g) : W p l e R s m args below meth c H locs cells slots (vx_MQ below Qc XC args s mc ms free) g := by
  intro T hT X
  obtain ⟨t, a1, o, b1, b2, b3, b4⟩ := k T hT X
  exact ⟨t, a1, o, b1, b2, Or.inl ⟨b3, b4⟩⟩
/-- not caught here: it goes on to the caller -/
theorem vx_widen {g : JFrame} {q : Addr} {k n : Nat} (h1 : cells ≤ k) (h2 : slots ≤ n) (kk : vx_W p l e R s m args below meth c H locs k n Q g q) : vx_W p l e R s m args below meth c H locs cells slots Q g q := fun T hT X => kk T hT (stand_widen X h1 h2)
theorem vx_out {pc : Nat} {E : String} {ce : Cell} {q : Addr} {mc ms : Nat} (hout : ∀ x ∈ c.exceptionTable.toList, covers x pc = false) (hlocks : meth.locks = false) (hcell : H[q]? = some ce) (hv : ce.vm = .none) (hcl : s.vm.findClass E = some ce.cls)
    (hx : ∀ t : State, t.heap = H → s.vm.Alike t.vm → XC E s t) (hf : ∀ z ∈ locs, free z.base) (hc : cells ≤ mc) (hs : slots ≤ ms) :
    vx_W p l e R s m args below meth c H locs cells slots (vx_MQ below Qc XC args s mc ms free) (F0 m pc ls rest) q := by
  intro T hT X
  obtain ⟨st1, hrun, hend, hW, hsm⟩ := X.leaveThrown q (g := F0 m pc ls rest) rfl rfl rfl hout hlocks
  have hcell9 : (T.setFrames (.throwing q :: below)).heap[q]? = some ce := by
    show T.heap[q]? = some ce
    rw [hT]; exact hcell
  exact ⟨_, st1, .threw q, hrun, hend, Or.inr ⟨q, rfl, E, ce, locs, hx _ hT hW.alike, hcell9, hv, hcl, hW, hsm.mono hc hs, hf⟩⟩
theorem vx_frame {U : State} {k n : Nat} (h : s.sameButNew ({ U with vm := s.vm } : State) locs k n) : s.heap.size ≤ U.heap.size ∧ ∀ q : Nat, q < s.heap.size → (∀ z ∈ locs, z.base ≠ q) → U.heap[q]? = s.heap[q]? := by
  obtain ⟨-, h2, -, -, -, h6⟩ := h
  refine ⟨h2, fun q hq hz => ?_⟩
  obtain ⟨c9, e1, e2, e3, e4⟩ := h6 q _ (Array.getElem?_eq_getElem hq)
  have hs : c9.slots = (s.heap[q]).slots := Array.ext_getElem? fun i => e4 i fun hm => hz _ hm rfl
  have h9 : c9 = s.heap[q] := by
    rw [hs] at e2
    exact e2
  have e5 : U.heap[q]? = some c9 := e1
  rw [e5, h9, Array.getElem?_eq_getElem hq]
/-- the words of a throw but the four that speak of the heap -/
def vx_no (w : Cond) : Bool := decide (w ≠ .isRef (.static Bundle.tN "UNASSIGNED_STACK" Bundle.steD)) && decide (w ≠ .isRef (.static Bundle.tN "SUPPRESSED_SENTINEL" Bundle.listD)) && decide (w ≠ .laysStatic Bundle.tN "UNASSIGNED_STACK" Bundle.steD) && decide (w ≠ .laysStatic Bundle.tN "SUPPRESSED_SENTINEL" Bundle.listD)
def vx_at0 (own : String) (ic : Nat) (X : String) (names : List String) : List Cond := (Bundle.ownAtoms0 own ic X names).filter vx_no
def vx_atS (own : String) (ic : Nat) (X : String) (names : List String) : List Cond := (Bundle.ownAtoms own ic X names).filter vx_no
/-- a word that the tables alone decide, or a good one -/
def vx_ot (w : Cond) : Bool := w.onTables || goodWord w
theorem vx_ot_at {args a' : Array Value} {s U : State} {w : Cond} (hW : s.WarmedH U.vm) (hvm : s.vm = U.vm) (hg : vx_ot w = true) (h : w.before args s = true) : w.before a' U = true := by
  simp only [vx_ot, Bool.or_eq_true] at hg
  rcases hg with hg | hg
  · exact va_tabs hg hvm h
  · exact word_at hW (good_of_word hg) h
/-- a list's words: the good ones out of the method's own list, the others by premises of their own -/
theorem vx_hat {args : Array Value} {s : State} {L B : List Cond} (h1 : ∀ w ∈ L.filter goodWord, w.before args s = true) (h2 : ∀ w ∈ L.filter (fun w => !goodWord w), w ∈ B) (h3 : ∀ w ∈ B, w.before args s = true) : ∀ w ∈ L, w.before args s = true := by
  intro w hw
  by_cases g : goodWord w = true
  · exact h1 w (List.mem_filter.mpr ⟨hw, g⟩)
  · refine h3 w (h2 w (List.mem_filter.mpr ⟨hw, ?_⟩))
    show (!goodWord w) = true
    cases hgw : goodWord w
    · rfl
    · exact absurd hgw g
theorem vx_c {args : Array Value} {s : State} {w : Cond} {B : List Cond} (h : w.before args s = true) (t : ∀ w ∈ B, w.before args s = true) : ∀ w' ∈ w :: B, w'.before args s = true := fun w' h' => (List.mem_cons.mp h').elim (fun e => by rw [e]; exact h) (t w')
theorem vx_n {args : Array Value} {s : State} : ∀ w ∈ ([] : List Cond), w.before args s = true := fun _ h => nomatch h
theorem vx_own {args : Array Value} {s : State} {L : List Cond} (h1 : ∀ w ∈ L.filter vx_no, w.before args s = true)
    (hU : (Cond.isRef (.static Bundle.tN "UNASSIGNED_STACK" Bundle.steD)).before args s = true) (hN : (Cond.isRef (.static Bundle.tN "SUPPRESSED_SENTINEL" Bundle.listD)).before args s = true)
    (lU : (Cond.laysStatic Bundle.tN "UNASSIGNED_STACK" Bundle.steD).before args s = true) (lN : (Cond.laysStatic Bundle.tN "SUPPRESSED_SENTINEL" Bundle.listD).before args s = true) : ∀ w ∈ L, w.before args s = true := by
  intro w hw
  by_cases e1 : w = .isRef (.static Bundle.tN "UNASSIGNED_STACK" Bundle.steD)
  · rw [e1]; exact hU
  · by_cases e2 : w = .isRef (.static Bundle.tN "SUPPRESSED_SENTINEL" Bundle.listD)
    · rw [e2]; exact hN
    · by_cases e3 : w = .laysStatic Bundle.tN "UNASSIGNED_STACK" Bundle.steD
      · rw [e3]; exact lU
      · by_cases e4 : w = .laysStatic Bundle.tN "SUPPRESSED_SENTINEL" Bundle.listD
        · rw [e4]; exact lN
        · exact h1 w (List.mem_filter.mpr ⟨hw, by unfold vx_no; rw [decide_eq_true e1, decide_eq_true e2, decide_eq_true e3, decide_eq_true e4]; rfl⟩)
/-- where a static field lies, its class's statics cell in H -/
def vx_L (C n d : String) (A : Nat → Prop) (U : State) (H : Heap) : Prop := ∃ (c : ClassId) (k : Class) (i : Nat) (f : Field) (a : Nat) (cell : Cell), U.vm.findClass C = some c ∧ U.fieldFound? C n d = some (c, k, i, f) ∧ f.isStatic = true ∧ k.statics = some a ∧ H[a]? = some cell ∧ cell.vm.isStatics = true ∧ cell.cls = c ∧ f.slot < cell.slots.size ∧ k.staticTypes[f.slot]? = some f.type ∧ ¬ A a
theorem vx_L.moved {C n d : String} {A : Nat → Prop} {u U : State} {H : Heap} (hvm : u.vm.Alike U.vm) (h : vx_L C n d A u H) : vx_L C n d A U H := by
  obtain ⟨c, k, i, f, a, cell, h1, h2, h3, h4, h5, h6, h7, h8, h9, h10⟩ := h
  obtain ⟨k', hi', he⟩ := State.fieldFound?_setVm hvm h2
  exact ⟨c, k', i, f, a, cell, by rw [hvm.findClass]; exact h1, hi', h3, by rw [he]; exact h4, h5, h6, h7, h8, by rw [he]; exact h9, h10⟩
theorem vx_L.kept {C n d : String} {A : Nat → Prop} {U : State} {H H1 : Heap} (h : vx_L C n d A U H) (hq : ∀ a : Nat, a < H.size → ¬ A a → H1[a]? = H[a]?) : vx_L C n d A U H1 := by
  obtain ⟨c, k, i, f, a, cell, h1, h2, h3, h4, h5, h6, h7, h8, h9, h10⟩ := h
  exact ⟨c, k, i, f, a, cell, h1, h2, h3, h4, by rw [hq a (Array.getElem?_eq_some_iff.mp h5).1 h10]; exact h5, h6, h7, h8, h9, h10⟩
theorem vx_L.narrow {C n d : String} {A B : Nat → Prop} {U : State} {H : Heap} (h : vx_L C n d A U H) (hAB : ∀ q, B q → A q) : vx_L C n d B U H := by
  obtain ⟨c, k, i, f, a, cell, h1, h2, h3, h4, h5, h6, h7, h8, h9, h10⟩ := h
  exact ⟨c, k, i, f, a, cell, h1, h2, h3, h4, h5, h6, h7, h8, h9, fun z => h10 (hAB _ z)⟩
theorem vx_L.word {C n d : String} {A : Nat → Prop} {s : State} {args : Array Value} (h : vx_L C n d A s s.heap) : (Cond.laysStatic C n d).before args s = true := by
  obtain ⟨c, k, i, f, a, cell, h1, h2, h3, h4, h5, h6, h7, h8, h9, -⟩ := h
  show (Cond.laysStatic C n d).holds args s none s [] = true
  exact Cond.laysStatic_of h1 h2 h3 h4 h5 h6 h7 h8 h9
/-- .. and what it holds: null or some reference -/
def vx_Zq (C n d : String) (A : Nat → Prop) (U : State) (H : Heap) : Prop := va_Zq C n d A U H ∧ vx_L C n d A U H
theorem vx_Zq.moved {C n d : String} {A : Nat → Prop} {u U : State} {H : Heap} (hvm : u.vm.Alike U.vm) (h : vx_Zq C n d A u H) : vx_Zq C n d A U H := ⟨va_Zq.moved hvm h.1, vx_L.moved hvm h.2⟩
theorem vx_Zq.kept {C n d : String} {A : Nat → Prop} {U : State} {H H1 : Heap} (h : vx_Zq C n d A U H) (hq : ∀ a : Nat, a < H.size → ¬ A a → H1[a]? = H[a]?) : vx_Zq C n d A U H1 := ⟨va_Zq.kept h.1 hq, vx_L.kept h.2 hq⟩
theorem vx_Zq.narrow {C n d : String} {A B : Nat → Prop} {U : State} {H : Heap} (h : vx_Zq C n d A U H) (hAB : ∀ q, B q → A q) : vx_Zq C n d B U H := ⟨va_Zq.narrow h.1 hAB, vx_L.narrow h.2 hAB⟩
theorem vx_Zqof {args : Array Value} {s : State} {C n d : String} {A : Nat → Prop} (hl : (Cond.laysStatic C n d).before args s = true) (hini : (Cond.initialized C).before args s = true) (h : (Cond.isRef (.static C n d)).before args s = true) (hA : ∀ a : Nat, a < s.heap.size → ¬ A a) : vx_Zq C n d A s s.heap := by
  refine ⟨va_Zqof hl hini h hA, ?_⟩
  obtain ⟨c, k, i, f, a, cell, h1, h2, h3, h4, h5, h6, h7, h8, h9⟩ := Cond.laysStatic_spec hl
  exact ⟨c, k, i, f, a, cell, h1, h2, h3, h4, h5, h6, h7, h8, h9, hA a (Array.getElem?_eq_some_iff.mp h5).1⟩
theorem vx_isRef {C n d : String} {v : Value} {A : Nat → Prop} {s : State} {args : Array Value} (h : va_Z C n d v A s s.heap) (hv : v.isRef = true) : (Cond.isRef (.static C n d)).before args s = true := by
  obtain ⟨cf, kf, fi, f, a, cell, h1, h2, h3, h4, h5, h6, h7, -⟩ := h
  have he : (Term.static C n d).eval args s none [] s = some v := by
    simp [Term.eval, State.fieldNamed?, h1, h2, h4, h5, h6, h7]
  simp only [Cond.before, Cond.holds, Cond.value, he]
  cases v <;> simp_all [Value.isRef]
theorem vx_isRefq {C n d : String} {A : Nat → Prop} {s : State} {args : Array Value} (h : va_Zq C n d A s s.heap) : (Cond.isRef (.static C n d)).before args s = true := by
  rcases h with h | ⟨t, h⟩
  · exact vx_isRef h rfl
  · exact vx_isRef h rfl
/-- the same frame, seen from here: as if the method were called anew in this heap -/
theorem vx_rebase {T : State} (X : Stand p l e R s m args below meth c T locs cells slots) {R' : Room} (hf : R'.frames ≤ R.frames) (hl : R'.locals ≤ R.locals) (hc : cells + R'.cells ≤ R.cells) (hs : slots + R'.slots ≤ R.slots) :
    Stand p l e R' ((T.setVm s.vm).setFrames (.invoking m args :: below)) m args below meth c T [] 0 0 := by
  have htop : (T.setVm s.vm).topJava?.isSome := X.here.top
  have hF : ((T.setVm s.vm).setFrames (.invoking m args :: below)).frames = .invoking m args :: below := State.frames_setFrames _ (State.cur_lt_of_top htop)
  obtain ⟨g₀, hg0⟩ := Option.isSome_iff_exists.mp htop
  obtain ⟨r, hr⟩ := State.topJava?_eq_some.mp hg0
  have hl9 : e.platform.stackLimits (T.setVm s.vm).me = e.platform.stackLimits s.me := X.limits
  have hb9 : (T.setVm s.vm).me.stackBytes = s.me.stackBytes := X.bytes
  refine ⟨X.admits, X.cas, X.clock, hF, ?_, X.hears, X.method, X.code, X.here, X.tail, X.warmed, ?_, ?_, ?_⟩
  · have h := X.room
    have hU : ((T.setVm s.vm).setFrames (.invoking m args :: below)).localsInUse = s.localsInUse := by
      rw [State.localsInUse_invoking hF (meth := meth) (c := c) X.method X.code, State.localsInUse_invoking X.frames X.method X.code]
    simp only [State.hasRoom, Bool.and_eq_true, decide_eq_true_eq] at h ⊢
    obtain ⟨⟨⟨⟨h1, h2, h3, h4, h5, h6⟩, h7⟩, h8⟩, h9⟩ := h
    rw [X.frames, List.length_cons] at h2 h3
    have q1 := X.heapSize
    have q2 := X.used
    simp only [hF, hU, List.length_cons, State.stackLimits_setFrames, State.stackBytes_setFrames, hl9, hb9]
    refine ⟨⟨⟨⟨by omega, by omega, by omega, by omega, by omega, h6⟩, ?_⟩, ?_⟩, X.book⟩
    · show T.heap.size + R'.cells ≤ e.platform.maxCells
      omega
    · show T.slotsUsed + R'.slots ≤ e.platform.maxSlots
      omega
  · rw [State.stackLimits_setFrames]; rfl
  · rw [State.stackBytes_setFrames]; rfl
  · refine ⟨?_, Nat.le_refl _, Nat.le_refl _, ?_, ?_, fun a c9 h9 => ⟨c9, h9, rfl, rfl, fun _ _ => rfl⟩⟩
    · obtain ⟨t, ht, -⟩ := State.frames_cons hr
      show T.setVm s.vm = { ((T.setVm s.vm).setFrames (.invoking m args :: below)).setFrames (T.setVm s.vm).frames with heap := T.heap, slotsUsed := T.slotsUsed }
      rw [State.setFrames_setFrames, State.setFrames_self ht]
      rfl
    · show T.slotsUsed = T.slotsUsed + ((T.heap.toList.drop T.heap.size).map (·.slots.size)).sum
      rw [List.drop_eq_nil_of_le (Nat.le_of_eq Array.length_toList)]
      rfl
    · show ((T.heap.toList.drop T.heap.size).map (·.slots.size)).sum ≤ 0
      rw [List.drop_eq_nil_of_le (Nat.le_of_eq Array.length_toList)]
      exact Nat.le_refl _
/-- 'throw new E()': new; dup; invokespecial; athrow -/
theorem vx_throw0 {cc : ByteArray} {pc : Nat} (hexec : p.tables.exec = Jvm.exec) (hb : c.code = cc) (hl : l.stackTraces = false) {own cls : String} {names : List String} {ik ic mc ms : Nat} {A : Nat → Prop}
    (hown : s.vm.findClass own = some m.cls) (hcls : Bundle.fit cls = true) (hnames : ∀ n ∈ names, Bundle.fit n = true)
    (hk : (Cond.classLink own ik cls).before args s = true) (hini : (Cond.initialized cls).before args s = true) (hat : ∀ w ∈ vx_at0 own ic cls names, w.before args s = true)
    (hgood : ∀ w ∈ Cond.classLink own ik cls :: Cond.initialized cls :: vx_at0 own ic cls names, vx_ot w = true)
    (hU : vx_Zq Bundle.tN "UNASSIGNED_STACK" Bundle.steD A s s.heap) (hN : vx_Zq Bundle.tN "SUPPRESSED_SENTINEL" Bundle.listD A s s.heap) (hS : va_S A s.heap H locs) (hsize : ls.size = c.maxLocals)
    (d0 : decode cc pc = .ok (.new ik, 3)) (d3 : decode cc (pc + 3) = .ok (.dup, 1)) (d4 : decode cc (pc + 4) = .ok (.invokespecial ic, 3)) (d7 : decode cc (pc + 7) = .ok (.athrow, 1))
    (hout : ∀ x ∈ c.exceptionTable.toList, covers x (pc + 7) = false)
    (hRframes : names.length + 3 < R.frames) (hRlocals : (rest.map fun v => v.category).sum + (13 * (names.length + 1) + 42) ≤ R.locals) (hRcells : cells + 1 ≤ R.cells) (hRslots : slots + 6 ≤ R.slots) (hlocks : meth.locks = false)
    (hx : ∀ t : State, s.vm.Alike t.vm → H.size ≤ t.heap.size → (∀ q : Nat, q < H.size → t.heap[q]? = H[q]?) → XC cls s t)
    (hf : ∀ z ∈ locs, free z.base) (hc : cells + 1 ≤ mc) (hs : slots + 6 ≤ ms) :
    W p l e R s m args below meth c H locs cells slots (vx_MQ below Qc XC args s mc ms free) (F0 m pc ls rest) := by
  intro T hT X
  have htr : e.platform.stackTraces = false := (show e.platform.stackTraces = l.stackTraces by rw [X.admits.platform]).trans hl
  have Y := vx_rebase X (R' := { frames := R.frames, locals := R.locals, cells := 1, slots := 6 }) (Nat.le_refl _) (Nat.le_refl _) hRcells hRslots
  obtain ⟨s', hA⟩ : ∃ z, z = (T.setVm s.vm).setFrames (.invoking m args :: below) := ⟨_, rfl⟩
  rw [← hA] at Y
  have hvm : s'.vm = s.vm := by rw [hA]; rfl
  have hhp : s'.heap = H := by rw [hA]; exact hT
  have hW0 : s.WarmedH s'.vm := by rw [hvm]; exact State.WarmedH.refl s
  have hat' : ∀ w ∈ vx_at0 own ic cls names, w.before args s' = true := fun w hw => vx_ot_at hW0 hvm.symm (hgood w (List.mem_cons_of_mem _ (List.mem_cons_of_mem _ hw))) (hat w hw)
  have hk' : (Cond.classLink own ik cls).before args s' = true := vx_ot_at hW0 hvm.symm (hgood _ List.mem_cons_self) hk
  have hini' : (Cond.initialized cls).before args s' = true := vx_ot_at hW0 hvm.symm (hgood _ (List.mem_cons_of_mem _ List.mem_cons_self)) hini
  have hU' : vx_Zq Bundle.tN "UNASSIGNED_STACK" Bundle.steD A s' s'.heap := by rw [hhp]; exact vx_Zq.moved hW0.alike (hU.kept hS.2.1)
  have hN' : vx_Zq Bundle.tN "SUPPRESSED_SENTINEL" Bundle.listD A s' s'.heap := by rw [hhp]; exact vx_Zq.moved hW0.alike (hN.kept hS.2.1)
  have h : ∀ w ∈ Bundle.ownAtoms0 own ic cls names, w.before args s' = true := vx_own hat' (vx_isRefq hU'.1) (vx_isRefq hN'.1) hU'.2.word hN'.2.word
  have hown' : s'.vm.findClass own = some m.cls := by rw [hvm]; exact hown
  have hins : (Cond.instantiable cls 6).before args s' = true := h _ (by simp [Bundle.ownAtoms0])
  obtain ⟨vm₁, cX, kX, hfX, hkX, -, -, X₁, st1⟩ := Y.newCold hexec (own := own) (C := cls) (index := ik) (n := 6) hown' hk' hins hini'
    (g := F0 m pc ls rest) rfl (by rw [hb]; exact d0) (Nat.le_refl _) (Nat.le_refl _)
  generalize hT1 : (T.setVm vm₁).pushCell { cls := cX, slots := kX.instanceTypes.map defaultValue, vm := .none } = T1 at X₁ st1
  have hcat : (Value.ref T.heap.size).category = 1 := rfl
  have hcellA : T1.heap[T.heap.size]? = some (freshCell cX kX) := by rw [← hT1]; exact State.heap_pushCell_size _ _
  have d3' : decode c.code (pc + 3) = .ok (.dup, 1) := by rw [hb]; exact d3
  obtain ⟨U, hsteps, hrun, hend, hW, hsame, ce, hce, hO⟩ := X₁.ctorThrow0 hexec htr (own := own) (cls := cls) (names := names) (ic := ic) hown' hcls hnames h (fun x hx => nomatch hx) hfX hkX hcellA (by rw [hhp, hT]; exact Nat.le_refl _)
    (g := { method := m, pc := pc + 4, locals := ls, stack := .ref T.heap.size :: .ref T.heap.size :: rest, locked := none }) rfl hsize rfl rfl (rest := rest) rfl
    (by rw [hb]; exact d4) (by rw [hb]; exact d7) hout hRframes (by simp only [List.map_cons, List.sum_cons, hcat]; omega) hlocks
  obtain ⟨f1, f2⟩ := vx_frame hsame
  rw [hhp] at f1 f2
  have hWs : s.WarmedH U.vm := State.WarmedH.trans hW0 hW
  have hcl : s.vm.findClass cls = some ce.cls := by
    have h9 := hO.cls
    rw [hvm] at h9
    exact h9
  have hall : s.sameButNew ({ U with vm := s.vm } : State) locs mc ms := by
    subst hA
    obtain ⟨e1, e2⟩ := hsame
    rw [State.setFrames_setFrames] at e1
    have h2 : (T.setVm s.vm).sameButNew ({ U with vm := s.vm } : State) [] (0 + 1) (0 + 6) := ⟨e1, e2⟩
    have h3 := X.same.trans h2
    rw [List.append_nil] at h3
    exact h3.mono hc hs
  refine ⟨U, ?_, .threw T.heap.size, hrun, hend, Or.inr ⟨T.heap.size, rfl, cls, ce, locs, hx U hWs.alike f1 (fun q hq => f2 q hq (fun z hz => nomatch hz)), hce, hO.vm, hcl, hWs, hall, hf⟩⟩
  refine st1 _ ?_
  show Steps p.tables e below (T1.setTop { method := m, pc := pc + 3, locals := ls, stack := .ref T.heap.size :: rest, locked := none }) _
  jvm_step X₁.here [X₁.here.top, hexec, d3', Value.category]
  exact hsteps
/-- 'throw new E("text")': new; dup; ldc; invokespecial; athrow -/
theorem vx_throwS {cc : ByteArray} {pc : Nat} (hexec : p.tables.exec = Jvm.exec) (hb : c.code = cc) (hl : l.stackTraces = false) {own cls text : String} {names : List String} {ik is ic mc ms sa : Nat} {A : Nat → Prop}
    (hown : s.vm.findClass own = some m.cls) (hcls : Bundle.fit cls = true) (hnames : ∀ n ∈ names, Bundle.fit n = true)
    (hk : (Cond.classLink own ik cls).before args s = true) (hini : (Cond.initialized cls).before args s = true) (hstr : vk_R own is text sa s) (hat : ∀ w ∈ vx_atS own ic cls names, w.before args s = true)
    (hgood : ∀ w ∈ Cond.classLink own ik cls :: Cond.initialized cls :: vx_atS own ic cls names, vx_ot w = true)
    (hU : vx_Zq Bundle.tN "UNASSIGNED_STACK" Bundle.steD A s s.heap) (hN : vx_Zq Bundle.tN "SUPPRESSED_SENTINEL" Bundle.listD A s s.heap) (hS : va_S A s.heap H locs) (hsize : ls.size = c.maxLocals)
    (d0 : decode cc pc = .ok (.new ik, 3)) (d3 : decode cc (pc + 3) = .ok (.dup, 1)) (d4 : decode cc (pc + 4) = .ok (.ldc is, 2)) (d6 : decode cc (pc + 6) = .ok (.invokespecial ic, 3)) (d9 : decode cc (pc + 9) = .ok (.athrow, 1))
    (hout : ∀ x ∈ c.exceptionTable.toList, covers x (pc + 9) = false)
    (hRframes : names.length + 3 < R.frames) (hRlocals : (rest.map fun v => v.category).sum + (13 * (names.length + 1) + 43) ≤ R.locals) (hRcells : cells + 1 ≤ R.cells) (hRslots : slots + 6 ≤ R.slots) (hlocks : meth.locks = false)
    (hx : ∀ t : State, s.vm.Alike t.vm → H.size ≤ t.heap.size → (∀ q : Nat, q < H.size → t.heap[q]? = H[q]?) → XC cls s t)
    (hf : ∀ z ∈ locs, free z.base) (hc : cells + 1 ≤ mc) (hs : slots + 6 ≤ ms) :
    W p l e R s m args below meth c H locs cells slots (vx_MQ below Qc XC args s mc ms free) (F0 m pc ls rest) := by
  intro T hT X
  have htr : e.platform.stackTraces = false := (show e.platform.stackTraces = l.stackTraces by rw [X.admits.platform]).trans hl
  have Y := vx_rebase X (R' := { frames := R.frames, locals := R.locals, cells := 1, slots := 6 }) (Nat.le_refl _) (Nat.le_refl _) hRcells hRslots
  obtain ⟨s', hA⟩ : ∃ z, z = (T.setVm s.vm).setFrames (.invoking m args :: below) := ⟨_, rfl⟩
  rw [← hA] at Y
  have hvm : s'.vm = s.vm := by rw [hA]; rfl
  have hhp : s'.heap = H := by rw [hA]; exact hT
  have hW0 : s.WarmedH s'.vm := by rw [hvm]; exact State.WarmedH.refl s
  have hat' : ∀ w ∈ vx_atS own ic cls names, w.before args s' = true := fun w hw => vx_ot_at hW0 hvm.symm (hgood w (List.mem_cons_of_mem _ (List.mem_cons_of_mem _ hw))) (hat w hw)
  have hk' : (Cond.classLink own ik cls).before args s' = true := vx_ot_at hW0 hvm.symm (hgood _ List.mem_cons_self) hk
  have hini' : (Cond.initialized cls).before args s' = true := vx_ot_at hW0 hvm.symm (hgood _ (List.mem_cons_of_mem _ List.mem_cons_self)) hini
  have hU' : vx_Zq Bundle.tN "UNASSIGNED_STACK" Bundle.steD A s' s'.heap := by rw [hhp]; exact vx_Zq.moved hW0.alike (hU.kept hS.2.1)
  have hN' : vx_Zq Bundle.tN "SUPPRESSED_SENTINEL" Bundle.listD A s' s'.heap := by rw [hhp]; exact vx_Zq.moved hW0.alike (hN.kept hS.2.1)
  have h : ∀ w ∈ Bundle.ownAtoms own ic cls names, w.before args s' = true := vx_own hat' (vx_isRefq hU'.1) (vx_isRefq hN'.1) hU'.2.word hN'.2.word
  have hown' : s'.vm.findClass own = some m.cls := by rw [hvm]; exact hown
  have hins : (Cond.instantiable cls 6).before args s' = true := h _ (by simp [Bundle.ownAtoms])
  obtain ⟨vm₁, cX, kX, hfX, hkX, -, -, X₁, st1⟩ := Y.newCold hexec (own := own) (C := cls) (index := ik) (n := 6) hown' hk' hins hini'
    (g := F0 m pc ls rest) rfl (by rw [hb]; exact d0) (Nat.le_refl _) (Nat.le_refl _)
  generalize hT1 : (T.setVm vm₁).pushCell { cls := cX, slots := kX.instanceTypes.map defaultValue, vm := .none } = T1 at X₁ st1
  have hcat : (Value.ref T.heap.size).category = 1 := rfl
  have hcellA : T1.heap[T.heap.size]? = some (freshCell cX kX) := by rw [← hT1]; exact State.heap_pushCell_size _ _
  have d3' : decode c.code (pc + 3) = .ok (.dup, 1) := by rw [hb]; exact d3
  have d4' : decode c.code (pc + 4) = .ok (.ldc is, 2) := by rw [hb]; exact d4
  have hstr' : vk_R own is text sa s' := vk_R.warm hW0 hstr
  obtain ⟨U, hsteps, hrun, hend, hW, hsame, ce, hce, hO⟩ := X₁.ctorThrowS hexec htr (own := own) (cls := cls) (names := names) (ic := ic) hown' hcls hnames h (fun x hx => nomatch hx) hfX hkX hcellA (by rw [hhp, hT]; exact Nat.le_refl _) (msg := .ref sa) rfl
    (g := { method := m, pc := pc + 6, locals := ls, stack := .ref sa :: .ref T.heap.size :: .ref T.heap.size :: rest, locked := none }) rfl hsize rfl rfl (rest := rest) rfl
    (by rw [hb]; exact d6) (by rw [hb]; exact d9) hout hRframes (by simp only [List.map_cons, List.sum_cons, hcat]; omega) hlocks
  obtain ⟨f1, f2⟩ := vx_frame hsame
  rw [hhp] at f1 f2
  have hWs : s.WarmedH U.vm := State.WarmedH.trans hW0 hW
  have hcl : s.vm.findClass cls = some ce.cls := by
    have h9 := hO.cls
    rw [hvm] at h9
    exact h9
  have hall : s.sameButNew ({ U with vm := s.vm } : State) locs mc ms := by
    subst hA
    obtain ⟨e1, e2⟩ := hsame
    rw [State.setFrames_setFrames] at e1
    have h2 : (T.setVm s.vm).sameButNew ({ U with vm := s.vm } : State) [] (0 + 1) (0 + 6) := ⟨e1, e2⟩
    have h3 := X.same.trans h2
    rw [List.append_nil] at h3
    exact h3.mono hc hs
  refine ⟨U, ?_, .threw T.heap.size, hrun, hend, Or.inr ⟨T.heap.size, rfl, cls, ce, locs, hx U hWs.alike f1 (fun q hq => f2 q hq (fun z hz => nomatch hz)), hce, hO.vm, hcl, hWs, hall, hf⟩⟩
  refine st1 _ ?_
  show Steps p.tables e below (T1.setTop { method := m, pc := pc + 3, locals := ls, stack := .ref T.heap.size :: rest, locked := none }) _
  jvm_step X₁.here [X₁.here.top, hexec, d3', Value.category]
  exact X₁.ldcString hexec (own := own) (text := text) (index := is) (a := sa) hown' hstr'.1 hstr'.2
    (g := { method := m, pc := pc + 4, locals := ls, stack := .ref T.heap.size :: .ref T.heap.size :: rest, locked := none }) rfl d4' _ hsteps
/-- 'throw new E("text")', the text by a wide index -/
theorem vx_throwSW {cc : ByteArray} {pc : Nat} (hexec : p.tables.exec = Jvm.exec) (hb : c.code = cc) (hl : l.stackTraces = false) {own cls text : String} {names : List String} {ik is ic mc ms sa : Nat} {A : Nat → Prop}
    (hown : s.vm.findClass own = some m.cls) (hcls : Bundle.fit cls = true) (hnames : ∀ n ∈ names, Bundle.fit n = true)
    (hk : (Cond.classLink own ik cls).before args s = true) (hini : (Cond.initialized cls).before args s = true) (hstr : vk_R own is text sa s) (hat : ∀ w ∈ vx_atS own ic cls names, w.before args s = true)
    (hgood : ∀ w ∈ Cond.classLink own ik cls :: Cond.initialized cls :: vx_atS own ic cls names, vx_ot w = true)
    (hU : vx_Zq Bundle.tN "UNASSIGNED_STACK" Bundle.steD A s s.heap) (hN : vx_Zq Bundle.tN "SUPPRESSED_SENTINEL" Bundle.listD A s s.heap) (hS : va_S A s.heap H locs) (hsize : ls.size = c.maxLocals)
    (d0 : decode cc pc = .ok (.new ik, 3)) (d3 : decode cc (pc + 3) = .ok (.dup, 1)) (d4 : decode cc (pc + 4) = .ok (.ldc_w is, 3)) (d7 : decode cc (pc + 7) = .ok (.invokespecial ic, 3)) (d10 : decode cc (pc + 10) = .ok (.athrow, 1))
    (hout : ∀ x ∈ c.exceptionTable.toList, covers x (pc + 10) = false)
    (hRframes : names.length + 3 < R.frames) (hRlocals : (rest.map fun v => v.category).sum + (13 * (names.length + 1) + 43) ≤ R.locals) (hRcells : cells + 1 ≤ R.cells) (hRslots : slots + 6 ≤ R.slots) (hlocks : meth.locks = false)
    (hx : ∀ t : State, s.vm.Alike t.vm → H.size ≤ t.heap.size → (∀ q : Nat, q < H.size → t.heap[q]? = H[q]?) → XC cls s t)
    (hf : ∀ z ∈ locs, free z.base) (hc : cells + 1 ≤ mc) (hs : slots + 6 ≤ ms) :
    W p l e R s m args below meth c H locs cells slots (vx_MQ below Qc XC args s mc ms free) (F0 m pc ls rest) := by
  intro T hT X
  have htr : e.platform.stackTraces = false := (show e.platform.stackTraces = l.stackTraces by rw [X.admits.platform]).trans hl
  have Y := vx_rebase X (R' := { frames := R.frames, locals := R.locals, cells := 1, slots := 6 }) (Nat.le_refl _) (Nat.le_refl _) hRcells hRslots
  obtain ⟨s', hA⟩ : ∃ z, z = (T.setVm s.vm).setFrames (.invoking m args :: below) := ⟨_, rfl⟩
  rw [← hA] at Y
  have hvm : s'.vm = s.vm := by rw [hA]; rfl
  have hhp : s'.heap = H := by rw [hA]; exact hT
  have hW0 : s.WarmedH s'.vm := by rw [hvm]; exact State.WarmedH.refl s
  have hat' : ∀ w ∈ vx_atS own ic cls names, w.before args s' = true := fun w hw => vx_ot_at hW0 hvm.symm (hgood w (List.mem_cons_of_mem _ (List.mem_cons_of_mem _ hw))) (hat w hw)
  have hk' : (Cond.classLink own ik cls).before args s' = true := vx_ot_at hW0 hvm.symm (hgood _ List.mem_cons_self) hk
  have hini' : (Cond.initialized cls).before args s' = true := vx_ot_at hW0 hvm.symm (hgood _ (List.mem_cons_of_mem _ List.mem_cons_self)) hini
  have hU' : vx_Zq Bundle.tN "UNASSIGNED_STACK" Bundle.steD A s' s'.heap := by rw [hhp]; exact vx_Zq.moved hW0.alike (hU.kept hS.2.1)
  have hN' : vx_Zq Bundle.tN "SUPPRESSED_SENTINEL" Bundle.listD A s' s'.heap := by rw [hhp]; exact vx_Zq.moved hW0.alike (hN.kept hS.2.1)
  have h : ∀ w ∈ Bundle.ownAtoms own ic cls names, w.before args s' = true := vx_own hat' (vx_isRefq hU'.1) (vx_isRefq hN'.1) hU'.2.word hN'.2.word
  have hown' : s'.vm.findClass own = some m.cls := by rw [hvm]; exact hown
  have hins : (Cond.instantiable cls 6).before args s' = true := h _ (by simp [Bundle.ownAtoms])
  obtain ⟨vm₁, cX, kX, hfX, hkX, -, -, X₁, st1⟩ := Y.newCold hexec (own := own) (C := cls) (index := ik) (n := 6) hown' hk' hins hini'
    (g := F0 m pc ls rest) rfl (by rw [hb]; exact d0) (Nat.le_refl _) (Nat.le_refl _)
  generalize hT1 : (T.setVm vm₁).pushCell { cls := cX, slots := kX.instanceTypes.map defaultValue, vm := .none } = T1 at X₁ st1
  have hcat : (Value.ref T.heap.size).category = 1 := rfl
  have hcellA : T1.heap[T.heap.size]? = some (freshCell cX kX) := by rw [← hT1]; exact State.heap_pushCell_size _ _
  have d3' : decode c.code (pc + 3) = .ok (.dup, 1) := by rw [hb]; exact d3
  have d4' : decode c.code (pc + 4) = .ok (.ldc_w is, 3) := by rw [hb]; exact d4
  have hstr' : vk_R own is text sa s' := vk_R.warm hW0 hstr
  obtain ⟨U, hsteps, hrun, hend, hW, hsame, ce, hce, hO⟩ := X₁.ctorThrowS hexec htr (own := own) (cls := cls) (names := names) (ic := ic) hown' hcls hnames h (fun x hx => nomatch hx) hfX hkX hcellA (by rw [hhp, hT]; exact Nat.le_refl _) (msg := .ref sa) rfl
    (g := { method := m, pc := pc + 7, locals := ls, stack := .ref sa :: .ref T.heap.size :: .ref T.heap.size :: rest, locked := none }) rfl hsize rfl rfl (rest := rest) rfl
    (by rw [hb]; exact d7) (by rw [hb]; exact d10) hout hRframes (by simp only [List.map_cons, List.sum_cons, hcat]; omega) hlocks
  obtain ⟨f1, f2⟩ := vx_frame hsame
  rw [hhp] at f1 f2
  have hWs : s.WarmedH U.vm := State.WarmedH.trans hW0 hW
  have hcl : s.vm.findClass cls = some ce.cls := by
    have h9 := hO.cls
    rw [hvm] at h9
    exact h9
  have hall : s.sameButNew ({ U with vm := s.vm } : State) locs mc ms := by
    subst hA
    obtain ⟨e1, e2⟩ := hsame
    rw [State.setFrames_setFrames] at e1
    have h2 : (T.setVm s.vm).sameButNew ({ U with vm := s.vm } : State) [] (0 + 1) (0 + 6) := ⟨e1, e2⟩
    have h3 := X.same.trans h2
    rw [List.append_nil] at h3
    exact h3.mono hc hs
  refine ⟨U, ?_, .threw T.heap.size, hrun, hend, Or.inr ⟨T.heap.size, rfl, cls, ce, locs, hx U hWs.alike f1 (fun q hq => f2 q hq (fun z hz => nomatch hz)), hce, hO.vm, hcl, hWs, hall, hf⟩⟩
  refine st1 _ ?_
  show Steps p.tables e below (T1.setTop { method := m, pc := pc + 3, locals := ls, stack := .ref T.heap.size :: rest, locked := none }) _
  jvm_step X₁.here [X₁.here.top, hexec, d3', Value.category]
  exact X₁.ldcStringW hexec (own := own) (text := text) (index := is) (a := sa) hown' hstr'.1 hstr'.2
    (g := { method := m, pc := pc + 4, locals := ls, stack := .ref T.heap.size :: .ref T.heap.size :: rest, locked := none }) rfl d4' _ hsteps
end Ends
section Bodies
variable {l : Launch}
theorem vx_ofW {y : MethodName} {ws ws' : List Cond} {rm : Room} {Pc : Array Value → State → Prop} {Qc : Array Value → State → Outcome → State → Prop} {XC : String → State → State → Prop} {mc ms : Nat} {free : Addr → Prop} {cc : ByteArray} {maxL : Nat} {ret : Option FieldType}
    (hy : plainName y.cls = true) (hw : ws = Cond.code y cc maxL ret :: ws')
    (body : ∀ p e s m args below meth c s₁, BodyLoose p l y (headSpec ws rm) cc maxL ret e s m args below meth c s₁ → c.maxLocals = maxL → (∀ x ∈ c.exceptionTable.toList, False) → Pc args s →
      W p l e (headSpec ws rm).room s m args below meth c s.heap [] 0 0 (vx_MQ below Qc XC args s mc ms free) (entryFrame m args maxL)) : vx_Met l y ws rm Pc Qc XC mc ms free := by
  refine MetFree.of_bodyS (code := cc) (maxLocals := maxL) (ret := ret) hy ?_ ?_
  · intro args s m h hn
    obtain ⟨meth, c, h1, h2, h3, h4, h5, h6, -, -⟩ := Cond.code_spec hn (atoms_spec (ws := ws) h _ (by rw [hw]; exact List.mem_cons_self))
    exact ⟨meth, c, h1, h2, h3, h4, h5, h6⟩
  · intro p e s m args below meth c s₁ B hml hP _
    have hh0 : s₁.heap = s.heap := by rw [B.state]; rfl
    have ht : ∀ x ∈ c.exceptionTable.toList, False := by
      obtain ⟨meth9, c9, h1, h2, -, -, -, -, h7, -⟩ := Cond.code_spec B.named (atoms_spec (ws := ws) B.pre _ (by rw [hw]; exact List.mem_cons_self))
      cases Option.some.inj (h1.symm.trans B.method)
      cases Option.some.inj (h2.symm.trans (Stand.of_body B).code)
      intro x hx
      rw [Array.isEmpty_iff.mp h7] at hx
      cases hx
    obtain ⟨t, a1, o, b1, b2, b3⟩ := body p e s m args below meth c s₁ B hml ht hP s₁ hh0 (Stand.of_body B)
    exact ⟨t, o, a1, b1, b2, b3⟩
/-- the table of a body with handlers -/
theorem vx_table {p : Program} {x y : MethodName} {S : Spec} {cc bytes : ByteArray} {maxL maxL' : Nat} {ret ret' : Option FieldType} {e : Env} {s s₁ : State} {m : MethodId} {args : Array Value} {below : List Frame} {meth : Method} {c : Code} {hh : List (Nat × Nat × Nat × Nat)}
    (B : BodyLoose p l y S cc maxL ret e s m args below meth c s₁) (h : (Cond.codeWith y bytes maxL' ret' hh).before args s = true) : c.exceptionTable.toList = tableOf hh := by
  obtain ⟨m9, meth9, c9, hn9, h1, h2, -, -, h6, -⟩ := Cond.codeWith_spec h
  cases Option.some.inj (hn9.symm.trans B.named)
  cases Option.some.inj (h1.symm.trans B.method)
  cases Option.some.inj (h2.symm.trans (Stand.of_body B).code)
  rw [← h6, table_eq]
end Bodies
end VXA
/-! ===== END ===== -/
/-! ===== BEGIN a static call of a method with an exception table ===== -/
section VXS
variable {p : Program} {l : Launch} {e : Env} {R : Room} {s : State} {m : MethodId} {args : Array Value} {below : List Frame} {meth : Method} {c : Code} {T : State} {H : Heap} {locs : List Loc} {cells slots : Nat}
abbrev vx_CSW (R : Room) (s : State) (args : Array Value) (own : String) (index : Nat) (y : MethodName) (bytes : ByteArray) (maxL : Nat) (ret : Option FieldType) (hh : List (Nat × Nat × Nat × Nat)) (ws : List Cond) (rm : Room) (mc ms n : Nat) : Prop :=
  (rm.cells = mc ∧ rm.slots = ms ∧ rm.frames + 1 ≤ R.frames ∧ 8 + (maxL + 11) + rm.locals ≤ R.locals ∧ (∀ w ∈ ws, ∀ (a' : Array Value) (U : State), s.WarmedH U.vm → w.before a' U = true) ∧ Cond.codeWith y bytes maxL ret hh ∈ ws) ∧
  (Cond.codeWith y bytes maxL ret hh).before args s = true ∧ (Cond.initialized y.cls).before args s = true ∧ (y.cls ≠ "java/lang/invoke/MethodHandle" ∧ y.cls ≠ "java/lang/invoke/VarHandle") ∧
  (∀ sig, parseMethodDescriptor y.desc = some sig → n = sig.parameters.length) ∧ (Cond.methodLink own index y).before args s = true ∧ (Cond.static y).before args s = true
theorem vx_cwSW {own : String} {index maxL mc ms : Nat} {y : MethodName} {bytes : ByteArray} {ret : Option FieldType} {hh : List (Nat × Nat × Nat × Nat)} {Ts ws ws' : List Cond} {rm : Room} (n : Nat) (ht : ∀ w ∈ Ts, w.before args s = true) (hT : GoodIn Ts (va_wsS own index y ws)) (hw : ws = Cond.codeWith y bytes maxL ret hh :: ws') (hrc : rm.cells = mc) (hrs : rm.slots = ms)
    (hd : y.cls ≠ "java/lang/invoke/MethodHandle" ∧ y.cls ≠ "java/lang/invoke/VarHandle" ∧ (parseMethodDescriptor y.desc).map (fun d => d.parameters.length) = some n) (hR : rm.frames + 1 ≤ R.frames ∧ 8 + (maxL + 11) + rm.locals ≤ R.locals) :
    vx_CSW R s args own index y bytes maxL ret hh ws rm mc ms n := by
  have ok : ∀ w ∈ va_wsS own index y ws, w.before args s = true := fun w h => ht w (hT w h).1
  have hG : GoodIn Ts ws := fun w h => hT w (by unfold va_wsS; exact List.mem_append_right _ h)
  have hc : Cond.codeWith y bytes maxL ret hh ∈ ws := by rw [hw]; exact List.mem_cons_self
  refine ⟨⟨hrc, hrs, hR.1, hR.2, pay_in ht hG, hc⟩, ht _ (hG _ hc).1, ok _ (by simp [va_wsS]), ⟨hd.1, hd.2.1⟩, fun sig h => ?_, ok _ (by simp [va_wsS]), ok _ (by simp [va_wsS])⟩
  have h2 := hd.2.2
  rw [h] at h2
  exact (Option.some.inj h2).symm
theorem vx_callSW (X : Stand p l e R s m args below meth c T locs cells slots) (hexec : p.tables.exec = Jvm.exec) {own : String} {index : Nat} {y : MethodName} {bytes : ByteArray} {maxL : Nat} {ret : Option FieldType} {hh : List (Nat × Nat × Nat × Nat)}
    (hown : s.vm.findClass own = some m.cls) (hlink : (Cond.methodLink own index y).before args s = true) (hstat : (Cond.static y).before args s = true) (hinit : (Cond.initialized y.cls).before args s = true)
    (hcode : (Cond.codeWith y bytes maxL ret hh).before args s = true) (hy : y.cls ≠ "java/lang/invoke/MethodHandle" ∧ y.cls ≠ "java/lang/invoke/VarHandle")
    {W9 : Nat} {Pre : Pt → Array Value → Prop} {Post : Pt → Array Value → Option Value → Pt → Prop} (hK : Back l R p e below s args y 3 W9 Pre Post)
    {g : JFrame} (hg : g.method = m) (hsize : g.locals.size = c.maxLocals) {argsL rest : List Value} (hlen : ∀ sig, parseMethodDescriptor y.desc = some sig → argsL.length = sig.parameters.length)
    (hstack : g.stack = argsL.reverse ++ rest) (hW : 2 * g.monitorRoom + (rest.map fun v => v.category).sum ≤ W9) (hdg : decode c.code g.pc = .ok (.invokestatic index, 3))
    (hpre : ∀ vm₁, s.WarmedH vm₁ → Pre ⟨T.setVm vm₁, locs, cells, slots⟩ argsL.toArray) :
    ∃ (v : Option Value) (vm₁ : Vm) (B : Pt), s.WarmedH vm₁ ∧ Stand p l e R s m args below meth c B.U B.locs B.cells B.slots ∧ Post ⟨T.setVm vm₁, locs, cells, slots⟩ argsL.toArray v B ∧
      ∀ target, Steps p.tables e below (B.U.setTop { g with pc := g.pc + 3, stack := v.toList ++ rest }) target → Steps p.tables e below (T.setTop g) target := by
  obtain ⟨mk, methM, cM, hnamed, hmethM, -, -, -, -, -, -, hsigM⟩ := Cond.codeWith_spec hcode
  have hstatic : methM.isStatic = true := Cond.static_spec hnamed hmethM hstat
  obtain ⟨kP, hkP, -⟩ := className_of_methodNamed hnamed
  have hinitP : kP.init = .initialized := Cond.initialized_spec (findClass_of_methodNamed hnamed) hkP hinit
  obtain ⟨vm₁, X₁, hstep₁⟩ := X.invokestatic hexec hown hlink hnamed hmethM hstatic hkP hinitP hy (g := g) hg (argsL := argsL) (rest := rest) (hlen _ hsigM) hstack hdg
  obtain ⟨v, B, X', hpost, hsteps⟩ := hK m meth c ⟨T.setVm vm₁, locs, cells, slots⟩ { g with stack := rest } (.invokestatic index) mk argsL.toArray X₁ hg hsize hdg hW (X₁.named hnamed) (hpre vm₁ X₁.warmed)
  exact ⟨v, vm₁, B, X₁.warmed, X', hpost, fun target h => hstep₁ _ fun acts => by rw [doInvoke_state]; exact hsteps.trans h⟩
theorem vx_runSW {y : MethodName} {bytes cc : ByteArray} {maxL nL mc ms n index : Nat} {ret : Option FieldType} {hh : List (Nat × Nat × Nat × Nat)} {ws : List Cond} {rm : Room} {Pc : Array Value → State → Prop} {Qc : Array Value → State → Outcome → State → Prop} {free : Addr → Prop} {Ts : List Cond} {own : String} {As rest : List Value} {g : JFrame}
    (S : CallFix p m c cc nL s args Ts own) (hM : Met l y ws rm Pc Qc mc ms free) (cw : vx_CSW R s args own index y bytes maxL ret hh ws rm mc ms n) (hp : PreS s H Pc As)
    (hg : g.method = m) (hn : As.length = n) (hsize : g.locals.size = nL) (hstack : g.stack = As.reverse ++ rest) (hW : 2 * g.monitorRoom + (rest.map fun v => v.category).sum ≤ 8) (hdg : decode cc g.pc = .ok (.invokestatic index, 3)) (hf : cells + mc ≤ R.cells ∧ slots + ms ≤ R.slots) :
    va_Run p l e R s m args below meth c H locs cells slots mc ms g rest (Qc As.toArray) (free) := by
  obtain ⟨⟨hrc, hrs, hfr, hlo, hws, hcw⟩, hcode, hini, hy, hlen, hl, hstt⟩ := cw
  have hK : Back l R p e below s args y 3 8 (PreOf R mc ms Pc) (PostOf Qc mc ms free) := va_backW (hh := hh) (bytes := bytes) (maxL := maxL) (ret := ret) hM hp.1 hrc hrs hfr hlo hws hcw (fun a' U hW => word_at hW (Or.inl (by first | rfl | simp [Cond.onTables, Cond.keeps, Cond.steady])) hini)
  obtain ⟨hx, hb, hml, ho, -⟩ := S
  intro T hT X
  obtain ⟨v, vm₁, ⟨U', l2, c2, s2⟩, hW₁, X', ⟨g', mk, t, L, e1, e2, hq, h1, hL, h2, h3⟩, st⟩ := vx_callSW X hx (hh := hh) (bytes := bytes) (maxL := maxL) (ret := ret) ho hl hstt hini hcode hy hK hg (hsize.trans hml.symm) (argsL := As) (rest := rest) (fun sig h => hn.trans (hlen sig h)) hstack hW (by rw [hb]; exact hdg)
    (fun vm₁ hW₁ => ⟨hf.1, hf.2, hp.2 (T.setVm vm₁) hT hW₁⟩)
  dsimp only [Pt.U, Pt.locs, Pt.cells, Pt.slots] at X' e1 e2 h1 h2 h3 st
  subst h1; subst h2; subst h3
  exact ⟨v, (T.setVm vm₁).calling g' mk As.toArray, t, U', L, hT, X', hL, e1, e2, hq, st⟩
/-- not caught here, past rows that name other classes: it goes on to the caller -/
theorem vx_outP {p : Program} {l : Launch} {e : Env} {R : Room} {s : State} {m : MethodId} {args : Array Value} {below : List Frame} {meth : Method} {c : Code} {H : Heap} {locs : List Loc} {cells slots : Nat} {free : Addr → Prop} {ls : Array Slot} {rest : List Value} {Qc : Array Value → State → Outcome → State → Prop} {XC : String → State → State → Prop}
    {pc : Nat} {own E : String} {ce : Cell} {q : Addr} {mc ms : Nat} (hown : s.vm.findClass own = some m.cls) (hlocks : meth.locks = false)
    (hpass : ∀ z ∈ c.exceptionTable.toList, covers z pc = false ∨ (z.catchType ≠ 0 ∧ ∃ nm : String, (Cond.classLink own z.catchType nm).before args s = true ∧ va_Nc E nm s)) (hcell : H[q]? = some ce) (hv : ce.vm = .none) (hcl : s.vm.findClass E = some ce.cls)
    (hx : ∀ t : State, t.heap = H → s.vm.Alike t.vm → XC E s t) (hf : ∀ z ∈ locs, free z.base) (hc : cells ≤ mc) (hs : slots ≤ ms) :
    vx_W p l e R s m args below meth c H locs cells slots (vx_MQ below Qc XC args s mc ms free) (F0 m pc ls rest) q := by
  intro T hT X
  have hpl : e.platform.magicAccessors = ({} : Platform).magicAccessors := by rw [X.admits.platform]
  obtain ⟨vm', hW', X', st⟩ := X.outThrough hlocks q (g := F0 m pc ls rest) rfl rfl rfl (cell := ce) (by rw [hT]; exact hcell) (by rw [hv]; rfl)
    (by obtain ⟨k9, h9, -⟩ := Vm.findClass_spec hcl; exact ⟨k9, h9⟩) (fun z hz => by
      rcases hpass z hz with h | ⟨hz0, nm, hl1, hn1⟩
      · exact Or.inl h
      · obtain ⟨c6, hc6, hcl6⟩ := Cond.classLink_spec hown hl1 e.platform hpl
        obtain ⟨a8, b8, h1, h2, h3⟩ := hn1
        cases Option.some.inj (h1.symm.trans hcl)
        cases Option.some.inj (h2.symm.trans hc6)
        exact Or.inr ⟨hz0, _, hcl6, h3⟩)
  obtain ⟨g₀, hfr⟩ := X'.frames_eq
  have hcell9 : ((T.setVm vm').setFrames (.throwing q :: below)).heap[q]? = some ce := by
    show T.heap[q]? = some ce
    rw [hT]; exact hcell
  have hend : Ended ((T.setVm vm').setFrames (.throwing q :: below)) below (.threw q) := State.frames_setFrames _ (State.cur_lt_of_frames hfr)
  refine ⟨(T.setVm vm').setFrames (.throwing q :: below), ?_, .threw q, X'.here.running, hend, Or.inr ⟨q, rfl, E, ce, locs, hx _ hT (X'.ends _).1.alike, hcell9, hv, hcl, (X'.ends _).1, (X'.ends _).2.mono hc hs, hf⟩⟩
  rw [X.pushThrowing_eq]
  exact st
/-- a thing of a world lies in the heap -/
theorem vx_lt {D : va_G} {cl : List vw_C} {ws : va_W} {H1 : Heap} (h : va_P D cl ws H1) {k : Nat} {q : Nat × va_E} (hk : ws[k]? = some q) : q.1 < H1.size := (h k q hk).lt
end VXS
/-! ===== END ===== -/
/-! ===== BEGIN methods with a table of their own: called by a name, returning or throwing ===== -/
section VXH
/-! vx_backW, vx_callVX, vx_callSX, vx_callVW, vx_runVW, vx_runVX, vx_runSX, vx_ofWH follow the same proofs as their sisters above (Free/Laws.lean, Shelf42/LK1.lean); vx_outP calls Shelf42/NT130.lean (outThrough). -/
section
variable {l : Launch} {R : Room} {p : Program} {e : Env} {below : List Frame} {s : State} {sargs : Array Value} {y : MethodName} {len W9 : Nat}
theorem vx_backW {ws : List Cond} {rm : Room} {Pc : Array Value → State → Prop} {Qc : Array Value → State → Outcome → State → Prop} {XC : String → State → State → Prop} {mc ms : Nat} {free : Addr → Prop} {bytes : ByteArray} {maxL : Nat} {ret : Option FieldType} {hh : List (Nat × Nat × Nat × Nat)}
    (hM : vx_Met l y ws rm Pc Qc XC mc ms free) (hblind : FrameBlind Pc) (hrc : rm.cells = mc) (hrs : rm.slots = ms)
    (hframes : rm.frames + 1 ≤ R.frames) (hlocals : W9 + (maxL + 11) + rm.locals ≤ R.locals)
    (hws : ∀ w ∈ ws, ∀ a' U, s.WarmedH U.vm → w.before a' U = true) (hcode : Cond.codeWith y bytes maxL ret hh ∈ ws) (hinit : ∀ a' U, s.WarmedH U.vm → (Cond.initialized y.cls).before a' U = true) :
    vx_Back l R p e below s sargs y len W9 (PreOf R mc ms Pc) (PostOf Qc mc ms free) (vx_Post XC mc ms free) := by
  intro m meth c A g ig mk a X hg hsize hdg hW hn hp
  have h1 : (headSpec ws rm).pre.before a A.U = true := atoms_intro fun w hw => hws w hw _ _ X.warmed
  have h2 : (Cond.codeWith y bytes maxL ret hh).before a A.U = true := hws _ hcode _ _ X.warmed
  have h3 : (Cond.initialized y.cls).before a A.U = true := hinit _ _ X.warmed
  have h4 : A.cells + (headSpec ws rm).room.cells ≤ R.cells := by rw [show (headSpec ws rm).room.cells = mc from hrc]; exact hp.1
  have h5 : A.slots + (headSpec ws rm).room.slots ≤ R.slots := by rw [show (headSpec ws rm).room.slots = ms from hrs]; exact hp.2.1
  have hPc : Pc a (A.U.calling g mk a) := hblind _ _ _ _ hp.2.2
  obtain ⟨U, Ls, c0, s0⟩ := A
  dsimp only [Pt.U, Pt.locs, Pt.cells, Pt.slots] at h1 h2 h3 h4 h5 X hn hPc ⊢
  obtain ⟨m9, methY, cY, hn9, hmY, hcY, -, hlY, -⟩ := Cond.codeWith_spec h2
  cases Option.some.inj (hn9.symm.trans hn)
  obtain ⟨kY, hkY, -⟩ := className_of_methodNamed hn
  have hinitY : kY.init = .initialized := Cond.initialized_spec (findClass_of_methodNamed hn) hkY h3
  have h : At U g.method c below := by rw [hg]; exact X.here
  have hlocals9 : W9 + (maxL + 11) + (headSpec ws rm).room.locals ≤ R.locals := hlocals
  have happ : (headSpec ws rm).appliesLoose y e.platform (U.calling g mk a) = true :=
    Spec.appliesLoose_calling (g := g) h hdg hn hkY hinitY
      (X.room_calling (g := g) (R' := (headSpec ws rm).room) hsize hmY hcY hframes (by rw [hlY]; omega) h4 h5) h1
  obtain ⟨mid, hmid⟩ := h.above
  have hfr : (U.setTop g).frames = (.java g :: mid) ++ below := by rw [State.frames_setTop' g h.top, hmid]; rfl
  obtain ⟨o, s₂, hsteps, -, hend, hq⟩ := Steps.callFree hM p X.admits X.cas X.clock (acts := []) hfr happ hPc trivial
  have hq' : vx_Q Qc XC mc ms free a (U.calling g mk a) o s₂ := hq
  rw [State.frames_setTop' g h.top] at hend
  obtain ⟨g₀, hg0⟩ := Option.isSome_iff_exists.mp h.top
  obtain ⟨r, hr⟩ := State.topJava?_eq_some.mp hg0
  have hr' : (({ U with heap := s₂.heap, slotsUsed := s₂.slotsUsed } : State).setVm s₂.vm).frames = .java g₀ :: r := hr
  rcases hq' with ⟨hqc, L, hfe, hL⟩ | ⟨q, rfl, E, ce, L, hx, hce, hcv, hcl, hW₂, hsm, hL⟩
  · obtain ⟨⟨v, rfl⟩, hW₂, e2, q2, q3, q4, q5, q6⟩ := id hfe
    have e3 : s₂ = ({ (U.calling g mk a).setFrames s₂.frames with heap := s₂.heap, slotsUsed := s₂.slotsUsed } : State).setVm s₂.vm := by
      have : s₂ = ({ s₂ with vm := (U.calling g mk a).vm } : State).setVm s₂.vm := rfl
      rw [e2] at this
      exact this
    obtain ⟨c₂, i₂, len₂, hc₂, hd₂, hf₂⟩ := hend
    have hW' : U.WarmedH s₂.vm := hW₂
    have hcc : c₂ = c := by
      have h1 : s₂.code? g.method = U.code? g.method := by
        rw [State.code?_eq, State.code?_eq, hW'.alike.method?]
      exact Option.some.inj (hc₂.symm.trans (h1.trans h.code))
    subst hcc
    have hlen : len₂ = len := by rw [hdg] at hd₂; cases hd₂; rfl
    subst hlen
    have hs₂ : s₂ = (({ U with heap := s₂.heap, slotsUsed := s₂.slotsUsed } : State).setVm s₂.vm).setTop { g with pc := g.pc + len₂, stack := v.toList ++ g.stack } := by
      refine e3.trans ?_
      rw [hf₂, State.calling_eq h.top, State.setFrames_setFrames, State.setTop_of_frames _ hr', hr]
      rfl
    have hsame : U.sameButNew ({ U with heap := s₂.heap, slotsUsed := s₂.slotsUsed } : State) L mc ms := by
      refine ⟨?_, q2, q3, q4, q5, q6⟩
      obtain ⟨t, ht, -⟩ := State.frames_cons hr
      show ({ U with heap := s₂.heap, slotsUsed := s₂.slotsUsed } : State) = { U.setFrames U.frames with heap := s₂.heap, slotsUsed := s₂.slotsUsed }
      rw [State.setFrames_self ht]
    subst hg
    refine Or.inl ⟨v, ⟨(({ U with heap := s₂.heap, slotsUsed := s₂.slotsUsed } : State).setVm s₂.vm), Ls ++ L, c0 + mc, s0 + ms⟩,
      ⟨X.admits, X.cas, X.clock, X.frames, X.room, X.hears, X.method, X.code, (X.here.setHeapUsed s₂.heap s₂.slotsUsed).setVm hW'.alike, X.tail, State.WarmedH.trans X.warmed hW', X.limits, X.bytes, X.same.trans (hsame.setVm s.vm)⟩,
      ⟨g, mk, s₂, L, rfl, rfl, hqc, rfl, hL, rfl, rfl⟩, ?_⟩
    show Steps p.tables e below _ ((({ U with heap := s₂.heap, slotsUsed := s₂.slotsUsed } : State).setVm s₂.vm).setTop { g with pc := g.pc + len₂, stack := v.toList ++ g.stack })
    rw [← hs₂]
    exact hsteps
  · obtain ⟨e2, q2, q3, q4, q5, q6⟩ := id hsm
    have e3 : s₂ = ({ (U.calling g mk a).setFrames s₂.frames with heap := s₂.heap, slotsUsed := s₂.slotsUsed } : State).setVm s₂.vm := by
      have : s₂ = ({ s₂ with vm := (U.calling g mk a).vm } : State).setVm s₂.vm := rfl
      rw [e2] at this
      exact this
    have hf₂ : s₂.frames = .throwing q :: .java g :: U.frames.tail := hend
    have hW' : U.WarmedH s₂.vm := hW₂
    have hs₂ : s₂ = ((({ U with heap := s₂.heap, slotsUsed := s₂.slotsUsed } : State).setVm s₂.vm).setTop g).pushFrame (.throwing q) := by
      refine e3.trans ?_
      rw [hf₂, State.calling_eq h.top, State.setFrames_setFrames, State.pushFrame, State.frames_setTop _ hr', State.setTop_of_frames _ hr', State.setFrames_setFrames, hr]
      rfl
    have hsame : U.sameButNew ({ U with heap := s₂.heap, slotsUsed := s₂.slotsUsed } : State) L mc ms := by
      refine ⟨?_, q2, q3, q4, q5, q6⟩
      obtain ⟨t, ht, -⟩ := State.frames_cons hr
      show ({ U with heap := s₂.heap, slotsUsed := s₂.slotsUsed } : State) = { U.setFrames U.frames with heap := s₂.heap, slotsUsed := s₂.slotsUsed }
      rw [State.setFrames_self ht]
    subst hg
    refine Or.inr ⟨q, ⟨(({ U with heap := s₂.heap, slotsUsed := s₂.slotsUsed } : State).setVm s₂.vm), Ls ++ L, c0 + mc, s0 + ms⟩,
      ⟨X.admits, X.cas, X.clock, X.frames, X.room, X.hears, X.method, X.code, (X.here.setHeapUsed s₂.heap s₂.slotsUsed).setVm hW'.alike, X.tail, State.WarmedH.trans X.warmed hW', X.limits, X.bytes, X.same.trans (hsame.setVm s.vm)⟩,
      ⟨g, mk, s₂, L, E, ce, rfl, rfl, hx, hce, hcv, hcl, rfl, hL, rfl, rfl⟩, ?_⟩
    show Steps p.tables e below _ (((({ U with heap := s₂.heap, slotsUsed := s₂.slotsUsed } : State).setVm s₂.vm).setTop g).pushFrame (.throwing q))
    rw [← hs₂]
    exact hsteps
end
variable {p : Program} {l : Launch} {e : Env} {R : Room} {s : State} {m : MethodId} {args : Array Value} {below : List Frame} {meth : Method} {c : Code} {T : State} {H : Heap} {locs : List Loc} {cells slots : Nat}
theorem vx_callVX (X : Stand p l e R s m args below meth c T locs cells slots) (hexec : p.tables.exec = Jvm.exec) {own C : String} {index : Nat} {y : MethodName} {bytes : ByteArray} {maxL : Nat} {ret : Option FieldType} {hh : List (Nat × Nat × Nat × Nat)}
    (hown : s.vm.findClass own = some m.cls) (hlink : (Cond.methodLink own index y).before args s = true) (hinst : (Cond.instanceMethod y).before args s = true) (hsel : (Cond.selects C y y).before args s = true)
    (hcode : (Cond.codeWith y bytes maxL ret hh).before args s = true) (hy : y.cls ≠ "java/lang/invoke/MethodHandle" ∧ y.cls ≠ "java/lang/invoke/VarHandle")
    {W9 : Nat} {Pre : Pt → Array Value → Prop} {Post : Pt → Array Value → Option Value → Pt → Prop} {PostX : Pt → Array Value → Addr → Pt → Prop} (hK : vx_Back l R p e below s args y 3 W9 Pre Post PostX)
    {b : Addr} {cellB : Cell} (hcell : T.heap[b]? = some cellB) (hobj : cellB.vm.isStatics = false) (hcls : s.vm.findClass C = some cellB.cls)
    {g : JFrame} (hg : g.method = m) (hsize : g.locals.size = c.maxLocals) {argsL rest : List Value} (hlen : ∀ sig, parseMethodDescriptor y.desc = some sig → argsL.length = sig.parameters.length)
    (hstack : g.stack = argsL.reverse ++ .ref b :: rest) (hW : 2 * g.monitorRoom + (rest.map fun v => v.category).sum ≤ W9) (hdg : decode c.code g.pc = .ok (.invokevirtual index, 3))
    (hpre : ∀ vm₁, s.WarmedH vm₁ → Pre ⟨T.setVm vm₁, locs, cells, slots⟩ (Value.ref b :: argsL).toArray) :
    (∃ (v : Option Value) (vm₁ : Vm) (B : Pt), s.WarmedH vm₁ ∧ Stand p l e R s m args below meth c B.U B.locs B.cells B.slots ∧ Post ⟨T.setVm vm₁, locs, cells, slots⟩ (Value.ref b :: argsL).toArray v B ∧
      ∀ target, Steps p.tables e below (B.U.setTop { g with pc := g.pc + 3, stack := v.toList ++ rest }) target → Steps p.tables e below (T.setTop g) target) ∨
    (∃ (q : Addr) (vm₁ : Vm) (B : Pt), s.WarmedH vm₁ ∧ Stand p l e R s m args below meth c B.U B.locs B.cells B.slots ∧ PostX ⟨T.setVm vm₁, locs, cells, slots⟩ (Value.ref b :: argsL).toArray q B ∧
      Steps p.tables e below (T.setTop g) ((B.U.setTop { g with stack := rest }).pushFrame (.throwing q))) := by
  obtain ⟨mk, methM, hnamed, hmethM, hstM, habM⟩ := Cond.instanceMethod_spec hinst
  obtain ⟨m8, methM', cM, hn8, hmethM', -, -, -, -, -, -, hsigM⟩ := Cond.codeWith_spec hcode
  cases Option.some.inj (hn8.symm.trans hnamed)
  cases hmethM.symm.trans hmethM'
  obtain ⟨c2, r2, m2, q1, q2, q3, q4, kP, hkP, hkPi⟩ := Cond.selects_spec hsel
  cases hcls.symm.trans q1
  cases (State.methodFound?_of_named hnamed hy).symm.trans q2
  cases hnamed.symm.trans q3
  have hselP : selectMethod e.platform s.vm cellB.cls mk = .method mk := by rw [Launch.admits_selectMethod X.admits]; exact q4
  obtain ⟨vm₁, X₁, hstep₁⟩ := X.invokevirtual hexec hown hlink hnamed hmethM hstM hkP hkPi hy (a := b) (cell := cellB) hcell
    (fun z h => by rw [h] at hobj; cases hobj) hselP hmethM habM hkP hkPi (g := g) hg (argsL := argsL) (rest := rest) (hlen _ hsigM) hstack hdg
  rcases hK m meth c ⟨T.setVm vm₁, locs, cells, slots⟩ { g with stack := rest } (.invokevirtual index) mk (Value.ref b :: argsL).toArray X₁ hg hsize hdg hW (X₁.named hnamed) (hpre vm₁ X₁.warmed) with ⟨v, B, X', hpost, hsteps⟩ | ⟨q, B, X', hpost, hsteps⟩
  · exact Or.inl ⟨v, vm₁, B, X₁.warmed, X', hpost, fun target h => hstep₁ _ fun acts => by rw [doInvoke_state]; exact hsteps.trans h⟩
  · exact Or.inr ⟨q, vm₁, B, X₁.warmed, X', hpost, hstep₁ _ fun acts => by rw [doInvoke_state]; exact hsteps⟩
theorem vx_callSX (X : Stand p l e R s m args below meth c T locs cells slots) (hexec : p.tables.exec = Jvm.exec) {own : String} {index : Nat} {y : MethodName} {bytes : ByteArray} {maxL : Nat} {ret : Option FieldType} {hh : List (Nat × Nat × Nat × Nat)}
    (hown : s.vm.findClass own = some m.cls) (hlink : (Cond.methodLink own index y).before args s = true) (hstat : (Cond.static y).before args s = true) (hinit : (Cond.initialized y.cls).before args s = true)
    (hcode : (Cond.codeWith y bytes maxL ret hh).before args s = true) (hy : y.cls ≠ "java/lang/invoke/MethodHandle" ∧ y.cls ≠ "java/lang/invoke/VarHandle")
    {W9 : Nat} {Pre : Pt → Array Value → Prop} {Post : Pt → Array Value → Option Value → Pt → Prop} {PostX : Pt → Array Value → Addr → Pt → Prop} (hK : vx_Back l R p e below s args y 3 W9 Pre Post PostX)
    {g : JFrame} (hg : g.method = m) (hsize : g.locals.size = c.maxLocals) {argsL rest : List Value} (hlen : ∀ sig, parseMethodDescriptor y.desc = some sig → argsL.length = sig.parameters.length)
    (hstack : g.stack = argsL.reverse ++ rest) (hW : 2 * g.monitorRoom + (rest.map fun v => v.category).sum ≤ W9) (hdg : decode c.code g.pc = .ok (.invokestatic index, 3))
    (hpre : ∀ vm₁, s.WarmedH vm₁ → Pre ⟨T.setVm vm₁, locs, cells, slots⟩ argsL.toArray) :
    (∃ (v : Option Value) (vm₁ : Vm) (B : Pt), s.WarmedH vm₁ ∧ Stand p l e R s m args below meth c B.U B.locs B.cells B.slots ∧ Post ⟨T.setVm vm₁, locs, cells, slots⟩ argsL.toArray v B ∧
      ∀ target, Steps p.tables e below (B.U.setTop { g with pc := g.pc + 3, stack := v.toList ++ rest }) target → Steps p.tables e below (T.setTop g) target) ∨
    (∃ (q : Addr) (vm₁ : Vm) (B : Pt), s.WarmedH vm₁ ∧ Stand p l e R s m args below meth c B.U B.locs B.cells B.slots ∧ PostX ⟨T.setVm vm₁, locs, cells, slots⟩ argsL.toArray q B ∧
      Steps p.tables e below (T.setTop g) ((B.U.setTop { g with stack := rest }).pushFrame (.throwing q))) := by
  obtain ⟨mk, methM, cM, hnamed, hmethM, -, -, -, -, -, -, hsigM⟩ := Cond.codeWith_spec hcode
  have hstatic : methM.isStatic = true := Cond.static_spec hnamed hmethM hstat
  obtain ⟨kP, hkP, -⟩ := className_of_methodNamed hnamed
  have hinitP : kP.init = .initialized := Cond.initialized_spec (findClass_of_methodNamed hnamed) hkP hinit
  obtain ⟨vm₁, X₁, hstep₁⟩ := X.invokestatic hexec hown hlink hnamed hmethM hstatic hkP hinitP hy (g := g) hg (argsL := argsL) (rest := rest) (hlen _ hsigM) hstack hdg
  rcases hK m meth c ⟨T.setVm vm₁, locs, cells, slots⟩ { g with stack := rest } (.invokestatic index) mk argsL.toArray X₁ hg hsize hdg hW (X₁.named hnamed) (hpre vm₁ X₁.warmed) with ⟨v, B, X', hpost, hsteps⟩ | ⟨q, B, X', hpost, hsteps⟩
  · exact Or.inl ⟨v, vm₁, B, X₁.warmed, X', hpost, fun target h => hstep₁ _ fun acts => by rw [doInvoke_state]; exact hsteps.trans h⟩
  · exact Or.inr ⟨q, vm₁, B, X₁.warmed, X', hpost, hstep₁ _ fun acts => by rw [doInvoke_state]; exact hsteps⟩
theorem vx_callVW (X : Stand p l e R s m args below meth c T locs cells slots) (hexec : p.tables.exec = Jvm.exec) {own C : String} {index : Nat} {y : MethodName} {bytes : ByteArray} {maxL : Nat} {ret : Option FieldType} {hh : List (Nat × Nat × Nat × Nat)}
    (hown : s.vm.findClass own = some m.cls) (hlink : (Cond.methodLink own index y).before args s = true) (hinst : (Cond.instanceMethod y).before args s = true) (hsel : (Cond.selects C y y).before args s = true)
    (hcode : (Cond.codeWith y bytes maxL ret hh).before args s = true) (hy : y.cls ≠ "java/lang/invoke/MethodHandle" ∧ y.cls ≠ "java/lang/invoke/VarHandle")
    {W9 : Nat} {Pre : Pt → Array Value → Prop} {Post : Pt → Array Value → Option Value → Pt → Prop} (hK : Back l R p e below s args y 3 W9 Pre Post)
    {b : Addr} {cellB : Cell} (hcell : T.heap[b]? = some cellB) (hobj : cellB.vm.isStatics = false) (hcls : s.vm.findClass C = some cellB.cls)
    {g : JFrame} (hg : g.method = m) (hsize : g.locals.size = c.maxLocals) {argsL rest : List Value} (hlen : ∀ sig, parseMethodDescriptor y.desc = some sig → argsL.length = sig.parameters.length)
    (hstack : g.stack = argsL.reverse ++ .ref b :: rest) (hW : 2 * g.monitorRoom + (rest.map fun v => v.category).sum ≤ W9) (hdg : decode c.code g.pc = .ok (.invokevirtual index, 3))
    (hpre : ∀ vm₁, s.WarmedH vm₁ → Pre ⟨T.setVm vm₁, locs, cells, slots⟩ (Value.ref b :: argsL).toArray) :
    ∃ (v : Option Value) (vm₁ : Vm) (B : Pt), s.WarmedH vm₁ ∧ Stand p l e R s m args below meth c B.U B.locs B.cells B.slots ∧ Post ⟨T.setVm vm₁, locs, cells, slots⟩ (Value.ref b :: argsL).toArray v B ∧
      ∀ target, Steps p.tables e below (B.U.setTop { g with pc := g.pc + 3, stack := v.toList ++ rest }) target → Steps p.tables e below (T.setTop g) target := by
  obtain ⟨mk, methM, hnamed, hmethM, hstM, habM⟩ := Cond.instanceMethod_spec hinst
  obtain ⟨m8, methM', cM, hn8, hmethM', -, -, -, -, -, -, hsigM⟩ := Cond.codeWith_spec hcode
  cases Option.some.inj (hn8.symm.trans hnamed)
  cases hmethM.symm.trans hmethM'
  obtain ⟨c2, r2, m2, q1, q2, q3, q4, kP, hkP, hkPi⟩ := Cond.selects_spec hsel
  cases hcls.symm.trans q1
  cases (State.methodFound?_of_named hnamed hy).symm.trans q2
  cases hnamed.symm.trans q3
  have hselP : selectMethod e.platform s.vm cellB.cls mk = .method mk := by rw [Launch.admits_selectMethod X.admits]; exact q4
  obtain ⟨vm₁, X₁, hstep₁⟩ := X.invokevirtual hexec hown hlink hnamed hmethM hstM hkP hkPi hy (a := b) (cell := cellB) hcell
    (fun z h => by rw [h] at hobj; cases hobj) hselP hmethM habM hkP hkPi (g := g) hg (argsL := argsL) (rest := rest) (hlen _ hsigM) hstack hdg
  obtain ⟨v, B, X', hpost, hsteps⟩ := hK m meth c ⟨T.setVm vm₁, locs, cells, slots⟩ { g with stack := rest } (.invokevirtual index) mk (Value.ref b :: argsL).toArray X₁ hg hsize hdg hW (X₁.named hnamed) (hpre vm₁ X₁.warmed)
  exact ⟨v, vm₁, B, X₁.warmed, X', hpost, fun target h => hstep₁ _ fun acts => by rw [doInvoke_state]; exact hsteps.trans h⟩
abbrev vx_CVW (R : Room) (s : State) (args : Array Value) (own C : String) (index : Nat) (y : MethodName) (bytes : ByteArray) (maxL : Nat) (ret : Option FieldType) (hh : List (Nat × Nat × Nat × Nat)) (ws : List Cond) (rm : Room) (mc ms n : Nat) : Prop :=
  (rm.cells = mc ∧ rm.slots = ms ∧ rm.frames + 1 ≤ R.frames ∧ 8 + (maxL + 11) + rm.locals ≤ R.locals ∧ (∀ w ∈ ws, ∀ (a' : Array Value) (U : State), s.WarmedH U.vm → w.before a' U = true) ∧ Cond.codeWith y bytes maxL ret hh ∈ ws) ∧
  (Cond.codeWith y bytes maxL ret hh).before args s = true ∧ (Cond.initialized y.cls).before args s = true ∧ (y.cls ≠ "java/lang/invoke/MethodHandle" ∧ y.cls ≠ "java/lang/invoke/VarHandle") ∧
  (∀ sig, parseMethodDescriptor y.desc = some sig → n = sig.parameters.length) ∧ (Cond.methodLink own index y).before args s = true ∧ (Cond.instanceMethod y).before args s = true ∧ (Cond.selects C y y).before args s = true
theorem vx_cwVW {own C : String} {index maxL mc ms : Nat} {y : MethodName} {bytes : ByteArray} {ret : Option FieldType} {hh : List (Nat × Nat × Nat × Nat)} {Ts ws ws' : List Cond} {rm : Room} (n : Nat) (ht : ∀ w ∈ Ts, w.before args s = true) (hT : GoodIn Ts (wsV own index C y ws)) (hw : ws = Cond.codeWith y bytes maxL ret hh :: ws') (hrc : rm.cells = mc) (hrs : rm.slots = ms)
    (hd : y.cls = C ∧ y.cls ≠ "java/lang/invoke/MethodHandle" ∧ y.cls ≠ "java/lang/invoke/VarHandle" ∧ (parseMethodDescriptor y.desc).map (fun d => d.parameters.length) = some n) (hR : rm.frames + 1 ≤ R.frames ∧ 8 + (maxL + 11) + rm.locals ≤ R.locals) :
    vx_CVW R s args own C index y bytes maxL ret hh ws rm mc ms n := by
  obtain ⟨hC, hd⟩ := hd
  subst hC
  have ok : ∀ w ∈ wsV own index y.cls y ws, w.before args s = true := fun w h => ht w (hT w h).1
  have hG : GoodIn Ts ws := fun w h => hT w (by unfold wsV; exact List.mem_append_right _ h)
  have hc : Cond.codeWith y bytes maxL ret hh ∈ ws := by rw [hw]; exact List.mem_cons_self
  refine ⟨⟨hrc, hrs, hR.1, hR.2, pay_in ht hG, hc⟩, ht _ (hG _ hc).1, ok _ (by simp [wsV]), ⟨hd.1, hd.2.1⟩, fun sig h => ?_, ok _ (by simp [wsV]), ok _ (by simp [wsV]), ok _ (by simp [wsV])⟩
  have h2 := hd.2.2
  rw [h] at h2
  exact (Option.some.inj h2).symm
theorem vx_runVW {y : MethodName} {bytes cc : ByteArray} {maxL nL mc ms n index : Nat} {ret : Option FieldType} {hh : List (Nat × Nat × Nat × Nat)} {ws : List Cond} {rm : Room} {Pc : Array Value → State → Prop} {Qc : Array Value → State → Outcome → State → Prop} {free : Addr → Prop} {Ts : List Cond} {own C : String} {b : Addr} {As rest : List Value} {g : JFrame}
    (S : CallFix p m c cc nL s args Ts own) (hM : Met l y ws rm Pc Qc mc ms free) (cw : vx_CVW R s args own C index y bytes maxL ret hh ws rm mc ms n) (hp : PreV s H C b Pc As)
    (hg : g.method = m) (hn : As.length = n) (hsize : g.locals.size = nL) (hstack : g.stack = As.reverse ++ .ref b :: rest) (hW : 2 * g.monitorRoom + (rest.map fun v => v.category).sum ≤ 8) (hdg : decode cc g.pc = .ok (.invokevirtual index, 3)) (hf : cells + mc ≤ R.cells ∧ slots + ms ≤ R.slots) :
    va_Run p l e R s m args below meth c H locs cells slots mc ms g rest (Qc (Value.ref b :: As).toArray) free := by
  obtain ⟨⟨hrc, hrs, hfr, hlo, hws, hcw⟩, hcode, hini, hy, hlen, hl, hin, hse⟩ := cw
  have hK : Back l R p e below s args y 3 8 (PreOf R mc ms Pc) (PostOf Qc mc ms free) := va_backW (hh := hh) (bytes := bytes) (maxL := maxL) (ret := ret) hM hp.1 hrc hrs hfr hlo hws hcw (fun a' U hW => word_at hW (Or.inl (by first | rfl | simp [Cond.onTables, Cond.keeps, Cond.steady])) hini)
  obtain ⟨hx, hb, hml, ho, -⟩ := S
  obtain ⟨-, ⟨cellB, hcB, hoB, hclB⟩, hPc⟩ := hp
  intro T hT X
  obtain ⟨v, vm₁, ⟨U', l2, c2, s2⟩, hW₁, X', ⟨g', mk, t, L, e1, e2, hq, h1, hL, h2, h3⟩, st⟩ := vx_callVW X hx (C := C) (hh := hh) (bytes := bytes) (maxL := maxL) (ret := ret) ho hl hin hse hcode hy hK (by rw [hT]; exact hcB) hoB hclB hg (hsize.trans hml.symm) (argsL := As) (rest := rest) (fun sig h => hn.trans (hlen sig h)) hstack hW (by rw [hb]; exact hdg)
    (fun vm₁ hW₁ => ⟨hf.1, hf.2, hPc (T.setVm vm₁) hT hW₁⟩)
  dsimp only [Pt.U, Pt.locs, Pt.cells, Pt.slots] at X' e1 e2 h1 h2 h3 st
  subst h1; subst h2; subst h3
  exact ⟨v, (T.setVm vm₁).calling g' mk (Value.ref b :: As).toArray, t, U', L, hT, X', hL, e1, e2, hq, st⟩
section
variable {y : MethodName} {bytes cc : ByteArray} {maxL nL mc ms n index : Nat} {ret : Option FieldType} {ws : List Cond} {rm : Room} {Pc : Array Value → State → Prop} {Qc : Array Value → State → Outcome → State → Prop} {XC : String → State → State → Prop} {free : Addr → Prop} {Ts : List Cond} {own C : String} {b : Addr} {As rest : List Value} {g : JFrame}
theorem vx_runVX {hh : List (Nat × Nat × Nat × Nat)} (S : CallFix p m c cc nL s args Ts own) (hM : vx_Met l y ws rm Pc Qc XC mc ms free) (cw : vx_CVW R s args own C index y bytes maxL ret hh ws rm mc ms n) (hp : PreV s H C b Pc As)
    (hg : g.method = m) (hn : As.length = n) (hsize : g.locals.size = nL) (hstack : g.stack = As.reverse ++ .ref b :: rest) (hW : 2 * g.monitorRoom + (rest.map fun v => v.category).sum ≤ 8) (hdg : decode cc g.pc = .ok (.invokevirtual index, 3)) (hf : cells + mc ≤ R.cells ∧ slots + ms ≤ R.slots) :
    vx_Run p l e R s m args below meth c H locs cells slots mc ms g rest (Qc (Value.ref b :: As).toArray) XC free := by
  obtain ⟨⟨hrc, hrs, hfr, hlo, hws, hcw⟩, hcode, hini, hy, hlen, hl, hin, hse⟩ := cw
  have hK : vx_Back l R p e below s args y 3 8 (PreOf R mc ms Pc) (PostOf Qc mc ms free) (vx_Post XC mc ms free) := vx_backW (hh := hh) (bytes := bytes) (maxL := maxL) (ret := ret) hM hp.1 hrc hrs hfr hlo hws hcw (fun a' U hW => word_at hW (Or.inl (by first | rfl | simp [Cond.onTables, Cond.keeps, Cond.steady])) hini)
  obtain ⟨hx, hb, hml, ho, -⟩ := S
  obtain ⟨-, ⟨cellB, hcB, hoB, hclB⟩, hPc⟩ := hp
  intro T hT X
  rcases vx_callVX X hx (C := C) (hh := hh) (bytes := bytes) (maxL := maxL) (ret := ret) ho hl hin hse hcode hy hK (by rw [hT]; exact hcB) hoB hclB hg (hsize.trans hml.symm) (argsL := As) (rest := rest) (fun sig h => hn.trans (hlen sig h)) hstack hW (by rw [hb]; exact hdg)
    (fun vm₁ hW₁ => ⟨hf.1, hf.2, hPc (T.setVm vm₁) hT hW₁⟩) with ⟨v, vm₁, ⟨U', l2, c2, s2⟩, hW₁, X', ⟨g', mk, t, L, e1, e2, hq, h1, hL, h2, h3⟩, st⟩ | ⟨q, vm₁, ⟨U', l2, c2, s2⟩, hW₁, X', ⟨g', mk, t, L, E, ce, e1, e2, hq, hce, hcv, hcl, h1, hL, h2, h3⟩, st⟩
  · dsimp only [Pt.U, Pt.locs, Pt.cells, Pt.slots] at X' e1 e2 h1 h2 h3 st
    subst h1; subst h2; subst h3
    exact Or.inl ⟨v, (T.setVm vm₁).calling g' mk (Value.ref b :: As).toArray, t, U', L, hT, X', hL, e1, e2, hq, st⟩
  · dsimp only [Pt.U, Pt.locs, Pt.cells, Pt.slots] at X' e1 e2 h1 h2 h3 st hcl
    subst h1; subst h2; subst h3
    exact Or.inr ⟨q, (T.setVm vm₁).calling g' mk (Value.ref b :: As).toArray, t, U', L, E, ce, hT, X', hL, e1, e2, hq, hce, hcv, vx_cls hW₁ hcl, st⟩
theorem vx_runSX {hh : List (Nat × Nat × Nat × Nat)} (S : CallFix p m c cc nL s args Ts own) (hM : vx_Met l y ws rm Pc Qc XC mc ms free) (cw : vx_CSW R s args own index y bytes maxL ret hh ws rm mc ms n) (hp : PreS s H Pc As)
    (hg : g.method = m) (hn : As.length = n) (hsize : g.locals.size = nL) (hstack : g.stack = As.reverse ++ rest) (hW : 2 * g.monitorRoom + (rest.map fun v => v.category).sum ≤ 8) (hdg : decode cc g.pc = .ok (.invokestatic index, 3)) (hf : cells + mc ≤ R.cells ∧ slots + ms ≤ R.slots) :
    vx_Run p l e R s m args below meth c H locs cells slots mc ms g rest (Qc As.toArray) XC free := by
  obtain ⟨⟨hrc, hrs, hfr, hlo, hws, hcw⟩, hcode, hini, hy, hlen, hl, hstt⟩ := cw
  have hK : vx_Back l R p e below s args y 3 8 (PreOf R mc ms Pc) (PostOf Qc mc ms free) (vx_Post XC mc ms free) := vx_backW (hh := hh) (bytes := bytes) (maxL := maxL) (ret := ret) hM hp.1 hrc hrs hfr hlo hws hcw (fun a' U hW => word_at hW (Or.inl (by first | rfl | simp [Cond.onTables, Cond.keeps, Cond.steady])) hini)
  obtain ⟨hx, hb, hml, ho, -⟩ := S
  intro T hT X
  rcases vx_callSX X hx (hh := hh) (bytes := bytes) (maxL := maxL) (ret := ret) ho hl hstt hini hcode hy hK hg (hsize.trans hml.symm) (argsL := As) (rest := rest) (fun sig h => hn.trans (hlen sig h)) hstack hW (by rw [hb]; exact hdg)
    (fun vm₁ hW₁ => ⟨hf.1, hf.2, hp.2 (T.setVm vm₁) hT hW₁⟩) with ⟨v, vm₁, ⟨U', l2, c2, s2⟩, hW₁, X', ⟨g', mk, t, L, e1, e2, hq, h1, hL, h2, h3⟩, st⟩ | ⟨q, vm₁, ⟨U', l2, c2, s2⟩, hW₁, X', ⟨g', mk, t, L, E, ce, e1, e2, hq, hce, hcv, hcl, h1, hL, h2, h3⟩, st⟩
  · dsimp only [Pt.U, Pt.locs, Pt.cells, Pt.slots] at X' e1 e2 h1 h2 h3 st
    subst h1; subst h2; subst h3
    exact Or.inl ⟨v, (T.setVm vm₁).calling g' mk As.toArray, t, U', L, hT, X', hL, e1, e2, hq, st⟩
  · dsimp only [Pt.U, Pt.locs, Pt.cells, Pt.slots] at X' e1 e2 h1 h2 h3 st hcl
    subst h1; subst h2; subst h3
    exact Or.inr ⟨q, (T.setVm vm₁).calling g' mk As.toArray, t, U', L, E, ce, hT, X', hL, e1, e2, hq, hce, hcv, vx_cls hW₁ hcl, st⟩
end
end VXH
theorem vx_ofWH {l : Launch} {y : MethodName} {ws ws' : List Cond} {rm : Room} {Pc : Array Value → State → Prop} {Qc : Array Value → State → Outcome → State → Prop} {XC : String → State → State → Prop} {mc ms : Nat} {free : Addr → Prop} {cc : ByteArray} {maxL : Nat} {ret : Option FieldType} {hh : List (Nat × Nat × Nat × Nat)}
    (hy : plainName y.cls = true) (hw : ws = Cond.codeWith y cc maxL ret hh :: ws')
    (body : ∀ p e s m args below meth c s₁, BodyLoose p l y (headSpec ws rm) cc maxL ret e s m args below meth c s₁ → c.maxLocals = maxL → Pc args s →
      W p l e (headSpec ws rm).room s m args below meth c s.heap [] 0 0 (vx_MQ below Qc XC args s mc ms free) (entryFrame m args maxL)) : vx_Met l y ws rm Pc Qc XC mc ms free := by
  refine MetFree.of_bodyS (code := cc) (maxLocals := maxL) (ret := ret) hy ?_ ?_
  · intro args s m h hn
    obtain ⟨m9, meth, c, hn9, h1, h2, h3, h4, -, h5, h6, -⟩ := Cond.codeWith_spec (atoms_spec (ws := ws) h _ (by rw [hw]; exact List.mem_cons_self))
    cases hn.symm.trans hn9
    exact ⟨meth, c, h1, h2, h3, h4, h5, h6⟩
  · intro p e s m args below meth c s₁ B hml hP _
    have hh0 : s₁.heap = s.heap := by rw [B.state]; rfl
    obtain ⟨t, a1, o, b1, b2, b3⟩ := body p e s m args below meth c s₁ B hml hP s₁ hh0 (Stand.of_body B)
    exact ⟨t, o, a1, b1, b2, b3⟩
/-! ===== END ===== -/
end
section
/-! ===== BEGIN printed: names, fields, word lists, decode rows ===== -/
def RX0 : String := "Callgate$Book"
def TX0 : u_T := fun k => match k with
  | 0 => ("Callgate$Book", "methods", "[I", true)
  | 1 => ("Callgate$Book", "arguments", "[I", true)
  | 2 => ("Callgate$Book", "deadlines", "[I", true)
  | _ => ("Callgate$Book", "size", "I", false)
def tyX0 : Nat → FieldType := fun k => match k with
  | 0 => .array .int
  | 1 => .array .int
  | 2 => .array .int
  | _ => .int
abbrev wsX00 : List Cond := u_ws RX0 TX0 4
theorem nmX0 : ∀ a, a < 4 → ∀ b, b < 4 → a ≠ b → (TX0 a).2.1 ≠ (TX0 b).2.1 := by decide +kernel
theorem tyX0_ok : ∀ k, k < 4 → parseFieldDescriptor (TX0 k).2.2.1 = some (tyX0 k) := by decide +kernel
abbrev cX0_init : ByteArray := prog_2_method_1_code
def yX0_init : MethodName := ⟨RX0, "<init>", "()V"⟩
abbrev cX0_has : ByteArray := prog_2_method_2_code
def yX0_has : MethodName := ⟨RX0, "has", "(I)Z"⟩
abbrev cX0_isFull : ByteArray := prog_2_method_3_code
def yX0_isFull : MethodName := ⟨RX0, "isFull", "()Z"⟩
abbrev cX0_enter : ByteArray := prog_2_method_4_code
def yX0_enter : MethodName := ⟨RX0, "enter", "(III)I"⟩
abbrev cX0_isDue : ByteArray := prog_2_method_5_code
def yX0_isDue : MethodName := ⟨RX0, "isDue", "(II)Z"⟩
def RX1 : String := "Callgate$Caller"
def TX1 : u_T := fun k => match k with
  | 0 => ("Callgate$Caller", "book", "LCallgate$Book;", true)
  | 1 => ("Callgate$Caller", "toServer", "LCallgate$Lane;", true)
  | 2 => ("Callgate$Caller", "parents", "[I", true)
  | 3 => ("Callgate$Caller", "outcomes", "[I", true)
  | 4 => ("Callgate$Caller", "values", "[I", true)
  | 5 => ("Callgate$Caller", "requestsSent", "[I", true)
  | 6 => ("Callgate$Caller", "latestRequest", "[I", true)
  | 7 => ("Callgate$Caller", "itemsReceived", "[I", true)
  | 8 => ("Callgate$Caller", "sums", "[I", true)
  | _ => ("Callgate$Caller", "budget", "I", false)
def tyX1 : Nat → FieldType := fun k => match k with
  | 0 => .object "Callgate$Book"
  | 1 => .object "Callgate$Lane"
  | 2 => .array .int
  | 3 => .array .int
  | 4 => .array .int
  | 5 => .array .int
  | 6 => .array .int
  | 7 => .array .int
  | 8 => .array .int
  | _ => .int
abbrev wsX10 : List Cond := u_ws RX1 TX1 10
theorem nmX1 : ∀ a, a < 10 → ∀ b, b < 10 → a ≠ b → (TX1 a).2.1 ≠ (TX1 b).2.1 := by decide +kernel
theorem tyX1_ok : ∀ k, k < 10 → parseFieldDescriptor (TX1 k).2.2.1 = some (tyX1 k) := by decide +kernel
abbrev cX1_init : ByteArray := prog_3_method_1_code
def yX1_init : MethodName := ⟨RX1, "<init>", "(LCallgate$Book;LCallgate$Lane;)V"⟩
abbrev cX1_begin : ByteArray := prog_3_method_2_code
def yX1_begin : MethodName := ⟨RX1, "begin", "(III)V"⟩
abbrev cX1_sendRequest : ByteArray := prog_3_method_3_code
def yX1_sendRequest : MethodName := ⟨RX1, "sendRequest", "(II)V"⟩
abbrev cX1_endSilently : ByteArray := prog_3_method_4_code
def yX1_endSilently : MethodName := ⟨RX1, "endSilently", "(II)I"⟩
abbrev cX1_endAndTell : ByteArray := prog_3_method_5_code
def yX1_endAndTell : MethodName := ⟨RX1, "endAndTell", "(II)I"⟩
abbrev cX1_cancelOrphans : ByteArray := prog_3_method_6_code
def yX1_cancelOrphans : MethodName := ⟨RX1, "cancelOrphans", "(I)I"⟩
abbrev cX1_hasEndedParent : ByteArray := prog_3_method_7_code
def yX1_hasEndedParent : MethodName := ⟨RX1, "hasEndedParent", "(I)Z"⟩
abbrev cX1_take : ByteArray := prog_3_method_8_code
def yX1_take : MethodName := ⟨RX1, "take", "(IIII)V"⟩
abbrev cX1_takeAnswer : ByteArray := prog_3_method_9_code
def yX1_takeAnswer : MethodName := ⟨RX1, "takeAnswer", "(III)V"⟩
abbrev cX1_takeItem : ByteArray := prog_3_method_10_code
def yX1_takeItem : MethodName := ⟨RX1, "takeItem", "(III)V"⟩
abbrev cX1_endDueCalls : ByteArray := prog_3_method_11_code
def yX1_endDueCalls : MethodName := ⟨RX1, "endDueCalls", "(I)I"⟩
abbrev cX1_repeatRequests : ByteArray := prog_3_method_12_code
def yX1_repeatRequests : MethodName := ⟨RX1, "repeatRequests", "(I)V"⟩
abbrev cX1_isRepeatDue : ByteArray := prog_3_method_13_code
def yX1_isRepeatDue : MethodName := ⟨RX1, "isRepeatDue", "(II)Z"⟩
def RX2 : String := "Callgate$Lane"
def TX2 : u_T := fun k => match k with
  | 0 => ("Callgate$Lane", "kinds", "[I", true)
  | 1 => ("Callgate$Lane", "owners", "[I", true)
  | 2 => ("Callgate$Lane", "marks", "[I", true)
  | 3 => ("Callgate$Lane", "values", "[I", true)
  | 4 => ("Callgate$Lane", "first", "I", false)
  | _ => ("Callgate$Lane", "size", "I", false)
def tyX2 : Nat → FieldType := fun k => match k with
  | 0 => .array .int
  | 1 => .array .int
  | 2 => .array .int
  | 3 => .array .int
  | 4 => .int
  | _ => .int
abbrev wsX20 : List Cond := u_ws RX2 TX2 6
theorem nmX2 : ∀ a, a < 6 → ∀ b, b < 6 → a ≠ b → (TX2 a).2.1 ≠ (TX2 b).2.1 := by decide +kernel
theorem tyX2_ok : ∀ k, k < 6 → parseFieldDescriptor (TX2 k).2.2.1 = some (tyX2 k) := by decide +kernel
abbrev cX2_init : ByteArray := prog_4_method_1_code
def yX2_init : MethodName := ⟨RX2, "<init>", "()V"⟩
abbrev cX2_has : ByteArray := prog_4_method_2_code
def yX2_has : MethodName := ⟨RX2, "has", "(I)Z"⟩
abbrev cX2_slotOf : ByteArray := prog_4_method_3_code
def yX2_slotOf : MethodName := ⟨RX2, "slotOf", "(I)I"⟩
abbrev cX2_send : ByteArray := prog_4_method_4_code
def yX2_send : MethodName := ⟨RX2, "send", "(IIII)V"⟩
abbrev cX2_removeFirst : ByteArray := prog_4_method_5_code
def yX2_removeFirst : MethodName := ⟨RX2, "removeFirst", "()V"⟩
def RX3 : String := "Callgate$Server"
def TX3 : u_T := fun k => match k with
  | 0 => ("Callgate$Server", "book", "LCallgate$Book;", true)
  | 1 => ("Callgate$Server", "toCaller", "LCallgate$Lane;", true)
  | 2 => ("Callgate$Server", "states", "[I", true)
  | 3 => ("Callgate$Server", "creditsLeft", "[I", true)
  | 4 => ("Callgate$Server", "itemsSent", "[I", true)
  | 5 => ("Callgate$Server", "results", "[I", true)
  | 6 => ("Callgate$Server", "values", "[I", true)
  | _ => ("Callgate$Server", "added", "I", false)
def tyX3 : Nat → FieldType := fun k => match k with
  | 0 => .object "Callgate$Book"
  | 1 => .object "Callgate$Lane"
  | 2 => .array .int
  | 3 => .array .int
  | 4 => .array .int
  | 5 => .array .int
  | 6 => .array .int
  | _ => .int
abbrev wsX30 : List Cond := u_ws RX3 TX3 8
theorem nmX3 : ∀ a, a < 8 → ∀ b, b < 8 → a ≠ b → (TX3 a).2.1 ≠ (TX3 b).2.1 := by decide +kernel
theorem tyX3_ok : ∀ k, k < 8 → parseFieldDescriptor (TX3 k).2.2.1 = some (tyX3 k) := by decide +kernel
abbrev cX3_init : ByteArray := prog_5_method_1_code
def yX3_init : MethodName := ⟨RX3, "<init>", "(LCallgate$Book;LCallgate$Lane;)V"⟩
abbrev cX3_take : ByteArray := prog_5_method_2_code
def yX3_take : MethodName := ⟨RX3, "take", "(IIII)V"⟩
abbrev cX3_takeRequest : ByteArray := prog_5_method_3_code
def yX3_takeRequest : MethodName := ⟨RX3, "takeRequest", "(II)V"⟩
abbrev cX3_takeCancellation : ByteArray := prog_5_method_4_code
def yX3_takeCancellation : MethodName := ⟨RX3, "takeCancellation", "(I)V"⟩
abbrev cX3_closeDueTasks : ByteArray := prog_5_method_5_code
def yX3_closeDueTasks : MethodName := ⟨RX3, "closeDueTasks", "(I)V"⟩
abbrev cX3_step : ByteArray := prog_5_method_6_code
def yX3_step : MethodName := ⟨RX3, "step", "(I)V"⟩
abbrev cX3_isItemNext : ByteArray := prog_5_method_7_code
def yX3_isItemNext : MethodName := ⟨RX3, "isItemNext", "(I)Z"⟩
abbrev cX3_sendItem : ByteArray := prog_5_method_8_code
def yX3_sendItem : MethodName := ⟨RX3, "sendItem", "(I)V"⟩
abbrev cX3_perform : ByteArray := prog_5_method_9_code
def yX3_perform : MethodName := ⟨RX3, "perform", "(I)V"⟩
abbrev cX3_answerOf : ByteArray := prog_5_method_10_code
def yX3_answerOf : MethodName := ⟨RX3, "answerOf", "(II)I"⟩
abbrev cX3_sendAnswer : ByteArray := prog_5_method_11_code
def yX3_sendAnswer : MethodName := ⟨RX3, "sendAnswer", "(I)V"⟩
def RX4 : String := "Callgate"
def TX4 : u_T := fun k => match k with
  | 0 => ("Callgate", "book", "LCallgate$Book;", true)
  | 1 => ("Callgate", "toServer", "LCallgate$Lane;", true)
  | 2 => ("Callgate", "toCaller", "LCallgate$Lane;", true)
  | 3 => ("Callgate", "caller", "LCallgate$Caller;", true)
  | 4 => ("Callgate", "server", "LCallgate$Server;", true)
  | _ => ("Callgate", "time", "I", false)
def tyX4 : Nat → FieldType := fun k => match k with
  | 0 => .object "Callgate$Book"
  | 1 => .object "Callgate$Lane"
  | 2 => .object "Callgate$Lane"
  | 3 => .object "Callgate$Caller"
  | 4 => .object "Callgate$Server"
  | _ => .int
abbrev wsX40 : List Cond := u_ws RX4 TX4 6
theorem nmX4 : ∀ a, a < 6 → ∀ b, b < 6 → a ≠ b → (TX4 a).2.1 ≠ (TX4 b).2.1 := by decide +kernel
theorem tyX4_ok : ∀ k, k < 6 → parseFieldDescriptor (TX4 k).2.2.1 = some (tyX4 k) := by decide +kernel
abbrev cX4_init : ByteArray := prog_1_method_1_code
def yX4_init : MethodName := ⟨RX4, "<init>", "()V"⟩
abbrev cX4_open : ByteArray := prog_1_method_2_code
def yX4_open : MethodName := ⟨RX4, "open", "(IIII)I"⟩
abbrev cX4_cancel : ByteArray := prog_1_method_3_code
def yX4_cancel : MethodName := ⟨RX4, "cancel", "(I)I"⟩
abbrev cX4_grant : ByteArray := prog_1_method_4_code
def yX4_grant : MethodName := ⟨RX4, "grant", "(II)V"⟩
abbrev cX4_calls : ByteArray := prog_1_method_5_code
def yX4_calls : MethodName := ⟨RX4, "calls", "()I"⟩
abbrev cX4_outcome : ByteArray := prog_1_method_6_code
def yX4_outcome : MethodName := ⟨RX4, "outcome", "(I)I"⟩
abbrev cX4_value : ByteArray := prog_1_method_7_code
def yX4_value : MethodName := ⟨RX4, "value", "(I)I"⟩
abbrev cX4_deadline : ByteArray := prog_1_method_8_code
def yX4_deadline : MethodName := ⟨RX4, "deadline", "(I)I"⟩
abbrev cX4_attempts : ByteArray := prog_1_method_9_code
def yX4_attempts : MethodName := ⟨RX4, "attempts", "(I)I"⟩
abbrev cX4_received : ByteArray := prog_1_method_10_code
def yX4_received : MethodName := ⟨RX4, "received", "(I)I"⟩
abbrev cX4_sum : ByteArray := prog_1_method_11_code
def yX4_sum : MethodName := ⟨RX4, "sum", "(I)I"⟩
abbrev cX4_tokens : ByteArray := prog_1_method_12_code
def yX4_tokens : MethodName := ⟨RX4, "tokens", "()I"⟩
abbrev cX4_work : ByteArray := prog_1_method_13_code
def yX4_work : MethodName := ⟨RX4, "work", "(I)I"⟩
abbrev cX4_task : ByteArray := prog_1_method_14_code
def yX4_task : MethodName := ⟨RX4, "task", "(I)I"⟩
abbrev cX4_credits : ByteArray := prog_1_method_15_code
def yX4_credits : MethodName := ⟨RX4, "credits", "(I)I"⟩
abbrev cX4_total : ByteArray := prog_1_method_16_code
def yX4_total : MethodName := ⟨RX4, "total", "()I"⟩
abbrev cX4_local : ByteArray := prog_1_method_17_code
def yX4_local : MethodName := ⟨RX4, "local", "(II)I"⟩
abbrev cX4_deliver : ByteArray := prog_1_method_18_code
def yX4_deliver : MethodName := ⟨RX4, "deliver", "(I)I"⟩
abbrev cX4_lose : ByteArray := prog_1_method_19_code
def yX4_lose : MethodName := ⟨RX4, "lose", "(I)I"⟩
abbrev cX4_frames : ByteArray := prog_1_method_20_code
def yX4_frames : MethodName := ⟨RX4, "frames", "(I)I"⟩
abbrev cX4_pass : ByteArray := prog_1_method_23_code
def yX4_pass : MethodName := ⟨RX4, "pass", "(I)I"⟩
abbrev cX4_now : ByteArray := prog_1_method_24_code
def yX4_now : MethodName := ⟨RX4, "now", "()I"⟩
abbrev cX4_laneOf : ByteArray := prog_1_method_25_code
def yX4_laneOf : MethodName := ⟨RX4, "laneOf", "(I)LCallgate$Lane;"⟩
abbrev cX4_needCall : ByteArray := prog_1_method_26_code
def yX4_needCall : MethodName := ⟨RX4, "needCall", "(I)V"⟩
abbrev cX4_needOpenCall : ByteArray := prog_1_method_27_code
def yX4_needOpenCall : MethodName := ⟨RX4, "needOpenCall", "(I)V"⟩
abbrev cX4_needMethodAndArgument : ByteArray := prog_1_method_28_code
def yX4_needMethodAndArgument : MethodName := ⟨RX4, "needMethodAndArgument", "(II)V"⟩
abbrev cX4_needDirection : ByteArray := prog_1_method_29_code
def yX4_needDirection : MethodName := ⟨RX4, "needDirection", "(I)V"⟩
abbrev cX4_needAnyFrame : ByteArray := prog_1_method_30_code
def yX4_needAnyFrame : MethodName := ⟨RX4, "needAnyFrame", "(LCallgate$Lane;)V"⟩
def RX5 : String := "CallgateModel"
def TX5 : u_T := fun k => match k with
  | _ => ("", "", "", false)
def tyX5 : Nat → FieldType := fun k => match k with
  | _ => .int
abbrev wsX50 : List Cond := u_ws RX5 TX5 0
theorem nmX5 : ∀ a, a < 0 → ∀ b, b < 0 → a ≠ b → (TX5 a).2.1 ≠ (TX5 b).2.1 := by decide +kernel
theorem tyX5_ok : ∀ k, k < 0 → parseFieldDescriptor (TX5 k).2.2.1 = some (tyX5 k) := by decide +kernel
def RJ9 : String := "java/lang/Math"
def TJ9 : u_T := fun k => match k with
  | _ => ("", "", "", false)
def tyJ9 : Nat → FieldType := fun k => match k with
  | _ => .int
abbrev wsJ90 : List Cond := u_ws RJ9 TJ9 0
theorem nmJ9 : ∀ a, a < 0 → ∀ b, b < 0 → a ≠ b → (TJ9 a).2.1 ≠ (TJ9 b).2.1 := by decide +kernel
theorem tyJ9_ok : ∀ k, k < 0 → parseFieldDescriptor (TJ9 k).2.2.1 = some (tyJ9 k) := by decide +kernel
abbrev cJ9_floorMod_7cf53 : ByteArray := prog_12_method_50_code
def yJ9_floorMod_7cf53 : MethodName := ⟨RJ9, "floorMod", "(II)I"⟩
abbrev cJ9_max_7cf53 : ByteArray := prog_12_method_65_code
def yJ9_max_7cf53 : MethodName := ⟨RJ9, "max", "(II)I"⟩
abbrev cJ9_min_7cf53 : ByteArray := prog_12_method_69_code
def yJ9_min_7cf53 : MethodName := ⟨RJ9, "min", "(II)I"⟩
def RJ0 : String := "java/lang/String"
def TJ0 : u_T := fun k => match k with
  | _ => ("", "", "", false)
def tyJ0 : Nat → FieldType := fun k => match k with
  | _ => .int
abbrev wsJ00 : List Cond := u_ws RJ0 TJ0 0
theorem nmJ0 : ∀ a, a < 0 → ∀ b, b < 0 → a ≠ b → (TJ0 a).2.1 ≠ (TJ0 b).2.1 := by decide +kernel
theorem tyJ0_ok : ∀ k, k < 0 → parseFieldDescriptor (TJ0 k).2.2.1 = some (tyJ0 k) := by decide +kernel
def RL : String := "CallgateLaw"
abbrev cL_cell : ByteArray := method_2_code
def yL_cell : MethodName := ⟨RL, "cell", "([II)I"⟩
abbrev cL_low : ByteArray := method_3_code
def yL_low : MethodName := ⟨RL, "low", "(II)I"⟩
abbrev cL_isCall : ByteArray := method_4_code
def yL_isCall : MethodName := ⟨RL, "isCall", "(LCallgate;[I[I[I[II)Z"⟩
abbrev cL_isTotal : ByteArray := method_5_code
def yL_isTotal : MethodName := ⟨RL, "isTotal", "(LCallgate;[I[I)Z"⟩
abbrev cL_law : ByteArray := code
def yL_law : MethodName := ⟨RL, "law", "([I)Z"⟩
def wsX0_init : List Cond := .code yX0_init cX0_init 1 none :: ([.methodLink RX0 3 objectInit, .instanceMethod objectInit, .code objectInit ⟨#[0xb1]⟩ 1 none, .arrayClass .int, .fieldLink RX0 9 "Callgate$Book" "methods" "[I", .fieldLink RX0 15 "Callgate$Book" "arguments" "[I", .fieldLink RX0 18 "Callgate$Book" "deadlines" "[I"] ++ wsX00)
def wsX0_has : List Cond := .code yX0_has cX0_has 2 (some .boolean) :: ([.fieldLink RX0 21 "Callgate$Book" "size" "I"] ++ wsX00)
def wsX0_isFull : List Cond := .code yX0_isFull cX0_isFull 1 (some .boolean) :: ([.fieldLink RX0 21 "Callgate$Book" "size" "I"] ++ wsX00)
def wsX0_enter : List Cond := .code yX0_enter cX0_enter 5 (some .int) :: ([.fieldLink RX0 21 "Callgate$Book" "size" "I", .fieldLink RX0 9 "Callgate$Book" "methods" "[I", .fieldLink RX0 15 "Callgate$Book" "arguments" "[I", .fieldLink RX0 18 "Callgate$Book" "deadlines" "[I"] ++ wsX00)
def wsX0_isDue : List Cond := .code yX0_isDue cX0_isDue 3 (some .boolean) :: ([.fieldLink RX0 18 "Callgate$Book" "deadlines" "[I"] ++ wsX00)
def wsX1_init : List Cond := .code yX1_init cX1_init 3 none :: ([.methodLink RX1 3 objectInit, .instanceMethod objectInit, .code objectInit ⟨#[0xb1]⟩ 1 none, .arrayClass .int, .fieldLink RX1 9 "Callgate$Caller" "parents" "[I", .fieldLink RX1 15 "Callgate$Caller" "outcomes" "[I", .fieldLink RX1 18 "Callgate$Caller" "values" "[I", .fieldLink RX1 21 "Callgate$Caller" "requestsSent" "[I", .fieldLink RX1 24 "Callgate$Caller" "latestRequest" "[I", .fieldLink RX1 27 "Callgate$Caller" "itemsReceived" "[I", .fieldLink RX1 30 "Callgate$Caller" "sums" "[I", .fieldLink RX1 33 "Callgate$Caller" "budget" "I", .fieldLink RX1 37 "Callgate$Caller" "book" "LCallgate$Book;", .fieldLink RX1 41 "Callgate$Caller" "toServer" "LCallgate$Lane;"] ++ wsX10)
def wsJ9_floorMod_7cf53 : List Cond := .code yJ9_floorMod_7cf53 cJ9_floorMod_7cf53 3 (some .int) :: ([])
def wsX2_slotOf : List Cond := .code yX2_slotOf cX2_slotOf 2 (some .int) :: ([.fieldLink RX2 28 "Callgate$Lane" "first" "I", .methodLink RX2 31 yJ9_floorMod_7cf53, .static yJ9_floorMod_7cf53, .initialized RJ9, .code yJ9_floorMod_7cf53 cJ9_floorMod_7cf53 3 (some .int)] ++ wsX20)
def wsX2_send : List Cond := .code yX2_send cX2_send 6 none :: ([.fieldLink RX2 24 "Callgate$Lane" "size" "I", .fieldLink RX2 9 "Callgate$Lane" "kinds" "[I", .fieldLink RX2 15 "Callgate$Lane" "owners" "[I", .fieldLink RX2 18 "Callgate$Lane" "marks" "[I", .fieldLink RX2 21 "Callgate$Lane" "values" "[I", .methodLink RX2 37 yX2_slotOf, .instanceMethod yX2_slotOf, .selects RX2 yX2_slotOf yX2_slotOf, .initialized RX2, .code yX2_slotOf cX2_slotOf 2 (some .int), .fieldLink RX2 28 "Callgate$Lane" "first" "I", .methodLink RX2 31 yJ9_floorMod_7cf53, .static yJ9_floorMod_7cf53, .initialized RJ9, .code yJ9_floorMod_7cf53 cJ9_floorMod_7cf53 3 (some .int)] ++ wsX20)
def wsX1_sendRequest : List Cond := .code yX1_sendRequest cX1_sendRequest 3 none :: ([.fieldLink RX1 21 "Callgate$Caller" "requestsSent" "[I", .fieldLink RX1 24 "Callgate$Caller" "latestRequest" "[I", .fieldLink RX1 41 "Callgate$Caller" "toServer" "LCallgate$Lane;", .instanceMethod yX2_send, .initialized RX2, .selects RX2 yX2_send yX2_send, .code yX2_send cX2_send 6 none, .fieldLink RX2 24 "Callgate$Lane" "size" "I", .fieldLink RX2 9 "Callgate$Lane" "kinds" "[I", .fieldLink RX2 15 "Callgate$Lane" "owners" "[I", .fieldLink RX2 18 "Callgate$Lane" "marks" "[I", .fieldLink RX2 21 "Callgate$Lane" "values" "[I", .methodLink RX2 37 yX2_slotOf, .instanceMethod yX2_slotOf, .selects RX2 yX2_slotOf yX2_slotOf, .code yX2_slotOf cX2_slotOf 2 (some .int), .fieldLink RX2 28 "Callgate$Lane" "first" "I", .methodLink RX2 31 yJ9_floorMod_7cf53, .static yJ9_floorMod_7cf53, .initialized RJ9, .code yJ9_floorMod_7cf53 cJ9_floorMod_7cf53 3 (some .int)] ++ wsX10 ++ wsX20)
def wsX1_begin_r1 : List Cond := [Cond.fieldLink RX1 9 "Callgate$Caller" "parents" "[I", Cond.fieldLink RX1 15 "Callgate$Caller" "outcomes" "[I", Cond.methodLink RX1 45 yX1_sendRequest, Cond.instanceMethod yX1_sendRequest, Cond.selects RX1 yX1_sendRequest yX1_sendRequest, Cond.initialized RX1, Cond.code yX1_sendRequest cX1_sendRequest 3 none, Cond.fieldLink RX1 21 "Callgate$Caller" "requestsSent" "[I", Cond.fieldLink RX1 24 "Callgate$Caller" "latestRequest" "[I", Cond.fieldLink RX1 41 "Callgate$Caller" "toServer" "LCallgate$Lane;", Cond.instanceMethod yX2_send, Cond.initialized RX2, Cond.selects RX2 yX2_send yX2_send, Cond.code yX2_send cX2_send 6 none, Cond.fieldLink RX2 24 "Callgate$Lane" "size" "I", Cond.fieldLink RX2 9 "Callgate$Lane" "kinds" "[I", Cond.fieldLink RX2 15 "Callgate$Lane" "owners" "[I", Cond.fieldLink RX2 18 "Callgate$Lane" "marks" "[I", Cond.fieldLink RX2 21 "Callgate$Lane" "values" "[I", Cond.methodLink RX2 37 yX2_slotOf, Cond.instanceMethod yX2_slotOf, Cond.selects RX2 yX2_slotOf yX2_slotOf, Cond.code yX2_slotOf cX2_slotOf 2 (some .int), Cond.fieldLink RX2 28 "Callgate$Lane" "first" "I"]
def wsX1_begin_r2 : List Cond := [Cond.methodLink RX2 31 yJ9_floorMod_7cf53, Cond.static yJ9_floorMod_7cf53, Cond.initialized RJ9, Cond.code yJ9_floorMod_7cf53 cJ9_floorMod_7cf53 3 (some .int)]
def wsX1_begin : List Cond := .code yX1_begin cX1_begin 4 none :: ((wsX1_begin_r1 ++ wsX1_begin_r2) ++ wsX10 ++ wsX20)
def wsX1_hasEndedParent : List Cond := .code yX1_hasEndedParent cX1_hasEndedParent 3 (some .boolean) :: ([.fieldLink RX1 9 "Callgate$Caller" "parents" "[I", .fieldLink RX1 37 "Callgate$Caller" "book" "LCallgate$Book;", .fieldLink RX1 15 "Callgate$Caller" "outcomes" "[I", .instanceMethod yX0_has, .initialized RX0, .selects RX0 yX0_has yX0_has, .code yX0_has cX0_has 2 (some .boolean), .fieldLink RX0 21 "Callgate$Book" "size" "I"] ++ wsX10 ++ wsX00)
def wsX1_cancelOrphans_r1 : List Cond := [Cond.fieldLink RX1 37 "Callgate$Caller" "book" "LCallgate$Book;", Cond.fieldLink RX1 15 "Callgate$Caller" "outcomes" "[I", Cond.fieldLink RX1 41 "Callgate$Caller" "toServer" "LCallgate$Lane;", Cond.methodLink RX1 64 yX1_hasEndedParent, Cond.instanceMethod yX1_hasEndedParent, Cond.selects RX1 yX1_hasEndedParent yX1_hasEndedParent, Cond.initialized RX1, Cond.code yX1_hasEndedParent cX1_hasEndedParent 3 (some .boolean), Cond.fieldLink RX1 9 "Callgate$Caller" "parents" "[I", Cond.instanceMethod yX0_has, Cond.initialized RX0, Cond.selects RX0 yX0_has yX0_has, Cond.code yX0_has cX0_has 2 (some .boolean), Cond.fieldLink RX0 21 "Callgate$Book" "size" "I", Cond.instanceMethod yX2_send, Cond.initialized RX2, Cond.selects RX2 yX2_send yX2_send, Cond.code yX2_send cX2_send 6 none, Cond.fieldLink RX2 24 "Callgate$Lane" "size" "I", Cond.fieldLink RX2 9 "Callgate$Lane" "kinds" "[I", Cond.fieldLink RX2 15 "Callgate$Lane" "owners" "[I", Cond.fieldLink RX2 18 "Callgate$Lane" "marks" "[I", Cond.fieldLink RX2 21 "Callgate$Lane" "values" "[I", Cond.methodLink RX2 37 yX2_slotOf]
def wsX1_cancelOrphans_r2 : List Cond := [Cond.instanceMethod yX2_slotOf, Cond.selects RX2 yX2_slotOf yX2_slotOf, Cond.code yX2_slotOf cX2_slotOf 2 (some .int), Cond.fieldLink RX2 28 "Callgate$Lane" "first" "I", Cond.methodLink RX2 31 yJ9_floorMod_7cf53, Cond.static yJ9_floorMod_7cf53, Cond.initialized RJ9, Cond.code yJ9_floorMod_7cf53 cJ9_floorMod_7cf53 3 (some .int)]
def wsX1_cancelOrphans : List Cond := .code yX1_cancelOrphans cX1_cancelOrphans 4 (some .int) :: ((wsX1_cancelOrphans_r1 ++ wsX1_cancelOrphans_r2) ++ wsX10 ++ wsX00 ++ wsX20)
def wsX1_endSilently_r1 : List Cond := [Cond.fieldLink RX1 15 "Callgate$Caller" "outcomes" "[I", Cond.methodLink RX1 55 yX1_cancelOrphans, Cond.instanceMethod yX1_cancelOrphans, Cond.selects RX1 yX1_cancelOrphans yX1_cancelOrphans, Cond.initialized RX1, Cond.code yX1_cancelOrphans cX1_cancelOrphans 4 (some .int), Cond.fieldLink RX1 37 "Callgate$Caller" "book" "LCallgate$Book;", Cond.fieldLink RX1 41 "Callgate$Caller" "toServer" "LCallgate$Lane;", Cond.methodLink RX1 64 yX1_hasEndedParent, Cond.instanceMethod yX1_hasEndedParent, Cond.selects RX1 yX1_hasEndedParent yX1_hasEndedParent, Cond.code yX1_hasEndedParent cX1_hasEndedParent 3 (some .boolean), Cond.fieldLink RX1 9 "Callgate$Caller" "parents" "[I", Cond.instanceMethod yX0_has, Cond.initialized RX0, Cond.selects RX0 yX0_has yX0_has, Cond.code yX0_has cX0_has 2 (some .boolean), Cond.fieldLink RX0 21 "Callgate$Book" "size" "I", Cond.instanceMethod yX2_send, Cond.initialized RX2, Cond.selects RX2 yX2_send yX2_send, Cond.code yX2_send cX2_send 6 none, Cond.fieldLink RX2 24 "Callgate$Lane" "size" "I", Cond.fieldLink RX2 9 "Callgate$Lane" "kinds" "[I"]
def wsX1_endSilently_r2 : List Cond := [Cond.fieldLink RX2 15 "Callgate$Lane" "owners" "[I", Cond.fieldLink RX2 18 "Callgate$Lane" "marks" "[I", Cond.fieldLink RX2 21 "Callgate$Lane" "values" "[I", Cond.methodLink RX2 37 yX2_slotOf, Cond.instanceMethod yX2_slotOf, Cond.selects RX2 yX2_slotOf yX2_slotOf, Cond.code yX2_slotOf cX2_slotOf 2 (some .int), Cond.fieldLink RX2 28 "Callgate$Lane" "first" "I", Cond.methodLink RX2 31 yJ9_floorMod_7cf53, Cond.static yJ9_floorMod_7cf53, Cond.initialized RJ9, Cond.code yJ9_floorMod_7cf53 cJ9_floorMod_7cf53 3 (some .int)]
def wsX1_endSilently : List Cond := .code yX1_endSilently cX1_endSilently 3 (some .int) :: ((wsX1_endSilently_r1 ++ wsX1_endSilently_r2) ++ wsX10 ++ wsX00 ++ wsX20)
def wsX1_endAndTell_r1 : List Cond := [Cond.fieldLink RX1 15 "Callgate$Caller" "outcomes" "[I", Cond.fieldLink RX1 41 "Callgate$Caller" "toServer" "LCallgate$Lane;", Cond.instanceMethod yX2_send, Cond.initialized RX2, Cond.selects RX2 yX2_send yX2_send, Cond.code yX2_send cX2_send 6 none, Cond.fieldLink RX2 24 "Callgate$Lane" "size" "I", Cond.fieldLink RX2 9 "Callgate$Lane" "kinds" "[I", Cond.fieldLink RX2 15 "Callgate$Lane" "owners" "[I", Cond.fieldLink RX2 18 "Callgate$Lane" "marks" "[I", Cond.fieldLink RX2 21 "Callgate$Lane" "values" "[I", Cond.methodLink RX2 37 yX2_slotOf, Cond.instanceMethod yX2_slotOf, Cond.selects RX2 yX2_slotOf yX2_slotOf, Cond.code yX2_slotOf cX2_slotOf 2 (some .int), Cond.fieldLink RX2 28 "Callgate$Lane" "first" "I", Cond.methodLink RX2 31 yJ9_floorMod_7cf53, Cond.static yJ9_floorMod_7cf53, Cond.initialized RJ9, Cond.code yJ9_floorMod_7cf53 cJ9_floorMod_7cf53 3 (some .int), Cond.methodLink RX1 55 yX1_cancelOrphans, Cond.instanceMethod yX1_cancelOrphans, Cond.selects RX1 yX1_cancelOrphans yX1_cancelOrphans, Cond.initialized RX1]
def wsX1_endAndTell_r2 : List Cond := [Cond.code yX1_cancelOrphans cX1_cancelOrphans 4 (some .int), Cond.fieldLink RX1 37 "Callgate$Caller" "book" "LCallgate$Book;", Cond.methodLink RX1 64 yX1_hasEndedParent, Cond.instanceMethod yX1_hasEndedParent, Cond.selects RX1 yX1_hasEndedParent yX1_hasEndedParent, Cond.code yX1_hasEndedParent cX1_hasEndedParent 3 (some .boolean), Cond.fieldLink RX1 9 "Callgate$Caller" "parents" "[I", Cond.instanceMethod yX0_has, Cond.initialized RX0, Cond.selects RX0 yX0_has yX0_has, Cond.code yX0_has cX0_has 2 (some .boolean), Cond.fieldLink RX0 21 "Callgate$Book" "size" "I"]
def wsX1_endAndTell : List Cond := .code yX1_endAndTell cX1_endAndTell 3 (some .int) :: ((wsX1_endAndTell_r1 ++ wsX1_endAndTell_r2) ++ wsX10 ++ wsX20 ++ wsX00)
def wsX1_takeAnswer_r1 : List Cond := [Cond.fieldLink RX1 37 "Callgate$Caller" "book" "LCallgate$Book;", Cond.fieldLink RX1 27 "Callgate$Caller" "itemsReceived" "[I", Cond.fieldLink RX1 18 "Callgate$Caller" "values" "[I", Cond.fieldLink RX1 33 "Callgate$Caller" "budget" "I", Cond.methodLink RX1 85 Lib.Math.min.name, Cond.static Lib.Math.min.name, Cond.initialized "java/lang/Math", Cond.code Lib.Math.min.name Lib.Math.min.code 2 (some .int), Cond.methodLink RX1 81 yX1_endSilently, Cond.instanceMethod yX1_endSilently, Cond.selects RX1 yX1_endSilently yX1_endSilently, Cond.initialized RX1, Cond.code yX1_endSilently cX1_endSilently 3 (some .int), Cond.fieldLink RX1 15 "Callgate$Caller" "outcomes" "[I", Cond.methodLink RX1 55 yX1_cancelOrphans, Cond.instanceMethod yX1_cancelOrphans, Cond.selects RX1 yX1_cancelOrphans yX1_cancelOrphans, Cond.code yX1_cancelOrphans cX1_cancelOrphans 4 (some .int), Cond.fieldLink RX1 41 "Callgate$Caller" "toServer" "LCallgate$Lane;", Cond.methodLink RX1 64 yX1_hasEndedParent, Cond.instanceMethod yX1_hasEndedParent, Cond.selects RX1 yX1_hasEndedParent yX1_hasEndedParent, Cond.code yX1_hasEndedParent cX1_hasEndedParent 3 (some .boolean), Cond.fieldLink RX1 9 "Callgate$Caller" "parents" "[I"]
def wsX1_takeAnswer_r2 : List Cond := [Cond.instanceMethod yX0_has, Cond.initialized RX0, Cond.selects RX0 yX0_has yX0_has, Cond.code yX0_has cX0_has 2 (some .boolean), Cond.fieldLink RX0 21 "Callgate$Book" "size" "I", Cond.instanceMethod yX2_send, Cond.initialized RX2, Cond.selects RX2 yX2_send yX2_send, Cond.code yX2_send cX2_send 6 none, Cond.fieldLink RX2 24 "Callgate$Lane" "size" "I", Cond.fieldLink RX2 9 "Callgate$Lane" "kinds" "[I", Cond.fieldLink RX2 15 "Callgate$Lane" "owners" "[I", Cond.fieldLink RX2 18 "Callgate$Lane" "marks" "[I", Cond.fieldLink RX2 21 "Callgate$Lane" "values" "[I", Cond.methodLink RX2 37 yX2_slotOf, Cond.instanceMethod yX2_slotOf, Cond.selects RX2 yX2_slotOf yX2_slotOf, Cond.code yX2_slotOf cX2_slotOf 2 (some .int), Cond.fieldLink RX2 28 "Callgate$Lane" "first" "I", Cond.methodLink RX2 31 yJ9_floorMod_7cf53, Cond.static yJ9_floorMod_7cf53, Cond.initialized RJ9, Cond.code yJ9_floorMod_7cf53 cJ9_floorMod_7cf53 3 (some .int)]
def wsX1_takeAnswer : List Cond := .code yX1_takeAnswer cX1_takeAnswer 4 none :: ((wsX1_takeAnswer_r1 ++ wsX1_takeAnswer_r2) ++ wsX10 ++ wsX00 ++ wsX20)
def wsX1_takeItem_r1 : List Cond := [Cond.fieldLink RX1 27 "Callgate$Caller" "itemsReceived" "[I", Cond.fieldLink RX1 30 "Callgate$Caller" "sums" "[I", Cond.methodLink RX1 90 yX1_endAndTell, Cond.instanceMethod yX1_endAndTell, Cond.selects RX1 yX1_endAndTell yX1_endAndTell, Cond.initialized RX1, Cond.code yX1_endAndTell cX1_endAndTell 3 (some .int), Cond.fieldLink RX1 15 "Callgate$Caller" "outcomes" "[I", Cond.fieldLink RX1 41 "Callgate$Caller" "toServer" "LCallgate$Lane;", Cond.instanceMethod yX2_send, Cond.initialized RX2, Cond.selects RX2 yX2_send yX2_send, Cond.code yX2_send cX2_send 6 none, Cond.fieldLink RX2 24 "Callgate$Lane" "size" "I", Cond.fieldLink RX2 9 "Callgate$Lane" "kinds" "[I", Cond.fieldLink RX2 15 "Callgate$Lane" "owners" "[I", Cond.fieldLink RX2 18 "Callgate$Lane" "marks" "[I", Cond.fieldLink RX2 21 "Callgate$Lane" "values" "[I", Cond.methodLink RX2 37 yX2_slotOf, Cond.instanceMethod yX2_slotOf, Cond.selects RX2 yX2_slotOf yX2_slotOf, Cond.code yX2_slotOf cX2_slotOf 2 (some .int), Cond.fieldLink RX2 28 "Callgate$Lane" "first" "I", Cond.methodLink RX2 31 yJ9_floorMod_7cf53]
def wsX1_takeItem_r2 : List Cond := [Cond.static yJ9_floorMod_7cf53, Cond.initialized RJ9, Cond.code yJ9_floorMod_7cf53 cJ9_floorMod_7cf53 3 (some .int), Cond.methodLink RX1 55 yX1_cancelOrphans, Cond.instanceMethod yX1_cancelOrphans, Cond.selects RX1 yX1_cancelOrphans yX1_cancelOrphans, Cond.code yX1_cancelOrphans cX1_cancelOrphans 4 (some .int), Cond.fieldLink RX1 37 "Callgate$Caller" "book" "LCallgate$Book;", Cond.methodLink RX1 64 yX1_hasEndedParent, Cond.instanceMethod yX1_hasEndedParent, Cond.selects RX1 yX1_hasEndedParent yX1_hasEndedParent, Cond.code yX1_hasEndedParent cX1_hasEndedParent 3 (some .boolean), Cond.fieldLink RX1 9 "Callgate$Caller" "parents" "[I", Cond.instanceMethod yX0_has, Cond.initialized RX0, Cond.selects RX0 yX0_has yX0_has, Cond.code yX0_has cX0_has 2 (some .boolean), Cond.fieldLink RX0 21 "Callgate$Book" "size" "I"]
def wsX1_takeItem : List Cond := .code yX1_takeItem cX1_takeItem 4 none :: ((wsX1_takeItem_r1 ++ wsX1_takeItem_r2) ++ wsX10 ++ wsX20 ++ wsX00)
def wsX1_take_r1 : List Cond := [Cond.fieldLink RX1 15 "Callgate$Caller" "outcomes" "[I", Cond.methodLink RX1 71 yX1_takeAnswer, Cond.instanceMethod yX1_takeAnswer, Cond.selects RX1 yX1_takeAnswer yX1_takeAnswer, Cond.initialized RX1, Cond.code yX1_takeAnswer cX1_takeAnswer 4 none, Cond.fieldLink RX1 37 "Callgate$Caller" "book" "LCallgate$Book;", Cond.fieldLink RX1 27 "Callgate$Caller" "itemsReceived" "[I", Cond.fieldLink RX1 18 "Callgate$Caller" "values" "[I", Cond.fieldLink RX1 33 "Callgate$Caller" "budget" "I", Cond.methodLink RX1 85 Lib.Math.min.name, Cond.static Lib.Math.min.name, Cond.initialized "java/lang/Math", Cond.code Lib.Math.min.name Lib.Math.min.code 2 (some .int), Cond.methodLink RX1 81 yX1_endSilently, Cond.instanceMethod yX1_endSilently, Cond.selects RX1 yX1_endSilently yX1_endSilently, Cond.code yX1_endSilently cX1_endSilently 3 (some .int), Cond.methodLink RX1 55 yX1_cancelOrphans, Cond.instanceMethod yX1_cancelOrphans, Cond.selects RX1 yX1_cancelOrphans yX1_cancelOrphans, Cond.code yX1_cancelOrphans cX1_cancelOrphans 4 (some .int), Cond.fieldLink RX1 41 "Callgate$Caller" "toServer" "LCallgate$Lane;", Cond.methodLink RX1 64 yX1_hasEndedParent]
def wsX1_take_r2 : List Cond := [Cond.instanceMethod yX1_hasEndedParent, Cond.selects RX1 yX1_hasEndedParent yX1_hasEndedParent, Cond.code yX1_hasEndedParent cX1_hasEndedParent 3 (some .boolean), Cond.fieldLink RX1 9 "Callgate$Caller" "parents" "[I", Cond.instanceMethod yX0_has, Cond.initialized RX0, Cond.selects RX0 yX0_has yX0_has, Cond.code yX0_has cX0_has 2 (some .boolean), Cond.fieldLink RX0 21 "Callgate$Book" "size" "I", Cond.instanceMethod yX2_send, Cond.initialized RX2, Cond.selects RX2 yX2_send yX2_send, Cond.code yX2_send cX2_send 6 none, Cond.fieldLink RX2 24 "Callgate$Lane" "size" "I", Cond.fieldLink RX2 9 "Callgate$Lane" "kinds" "[I", Cond.fieldLink RX2 15 "Callgate$Lane" "owners" "[I", Cond.fieldLink RX2 18 "Callgate$Lane" "marks" "[I", Cond.fieldLink RX2 21 "Callgate$Lane" "values" "[I", Cond.methodLink RX2 37 yX2_slotOf, Cond.instanceMethod yX2_slotOf, Cond.selects RX2 yX2_slotOf yX2_slotOf, Cond.code yX2_slotOf cX2_slotOf 2 (some .int), Cond.fieldLink RX2 28 "Callgate$Lane" "first" "I", Cond.methodLink RX2 31 yJ9_floorMod_7cf53]
def wsX1_take_r3 : List Cond := [Cond.static yJ9_floorMod_7cf53, Cond.initialized RJ9, Cond.code yJ9_floorMod_7cf53 cJ9_floorMod_7cf53 3 (some .int), Cond.methodLink RX1 75 yX1_takeItem, Cond.instanceMethod yX1_takeItem, Cond.selects RX1 yX1_takeItem yX1_takeItem, Cond.code yX1_takeItem cX1_takeItem 4 none, Cond.fieldLink RX1 30 "Callgate$Caller" "sums" "[I", Cond.methodLink RX1 90 yX1_endAndTell, Cond.instanceMethod yX1_endAndTell, Cond.selects RX1 yX1_endAndTell yX1_endAndTell, Cond.code yX1_endAndTell cX1_endAndTell 3 (some .int)]
def wsX1_take : List Cond := .code yX1_take cX1_take 5 none :: ((wsX1_take_r1 ++ (wsX1_take_r2 ++ wsX1_take_r3)) ++ wsX10 ++ wsX00 ++ wsX20)
def wsX1_endDueCalls_r1 : List Cond := [Cond.fieldLink RX1 37 "Callgate$Caller" "book" "LCallgate$Book;", Cond.fieldLink RX1 15 "Callgate$Caller" "outcomes" "[I", Cond.instanceMethod yX0_isDue, Cond.initialized RX0, Cond.selects RX0 yX0_isDue yX0_isDue, Cond.code yX0_isDue cX0_isDue 3 (some .boolean), Cond.fieldLink RX0 18 "Callgate$Book" "deadlines" "[I", Cond.methodLink RX1 81 yX1_endSilently, Cond.instanceMethod yX1_endSilently, Cond.selects RX1 yX1_endSilently yX1_endSilently, Cond.initialized RX1, Cond.code yX1_endSilently cX1_endSilently 3 (some .int), Cond.methodLink RX1 55 yX1_cancelOrphans, Cond.instanceMethod yX1_cancelOrphans, Cond.selects RX1 yX1_cancelOrphans yX1_cancelOrphans, Cond.code yX1_cancelOrphans cX1_cancelOrphans 4 (some .int), Cond.fieldLink RX1 41 "Callgate$Caller" "toServer" "LCallgate$Lane;", Cond.methodLink RX1 64 yX1_hasEndedParent, Cond.instanceMethod yX1_hasEndedParent, Cond.selects RX1 yX1_hasEndedParent yX1_hasEndedParent, Cond.code yX1_hasEndedParent cX1_hasEndedParent 3 (some .boolean), Cond.fieldLink RX1 9 "Callgate$Caller" "parents" "[I", Cond.instanceMethod yX0_has, Cond.selects RX0 yX0_has yX0_has]
def wsX1_endDueCalls_r2 : List Cond := [Cond.code yX0_has cX0_has 2 (some .boolean), Cond.fieldLink RX0 21 "Callgate$Book" "size" "I", Cond.instanceMethod yX2_send, Cond.initialized RX2, Cond.selects RX2 yX2_send yX2_send, Cond.code yX2_send cX2_send 6 none, Cond.fieldLink RX2 24 "Callgate$Lane" "size" "I", Cond.fieldLink RX2 9 "Callgate$Lane" "kinds" "[I", Cond.fieldLink RX2 15 "Callgate$Lane" "owners" "[I", Cond.fieldLink RX2 18 "Callgate$Lane" "marks" "[I", Cond.fieldLink RX2 21 "Callgate$Lane" "values" "[I", Cond.methodLink RX2 37 yX2_slotOf, Cond.instanceMethod yX2_slotOf, Cond.selects RX2 yX2_slotOf yX2_slotOf, Cond.code yX2_slotOf cX2_slotOf 2 (some .int), Cond.fieldLink RX2 28 "Callgate$Lane" "first" "I", Cond.methodLink RX2 31 yJ9_floorMod_7cf53, Cond.static yJ9_floorMod_7cf53, Cond.initialized RJ9, Cond.code yJ9_floorMod_7cf53 cJ9_floorMod_7cf53 3 (some .int)]
def wsX1_endDueCalls : List Cond := .code yX1_endDueCalls cX1_endDueCalls 4 (some .int) :: ((wsX1_endDueCalls_r1 ++ wsX1_endDueCalls_r2) ++ wsX10 ++ wsX00 ++ wsX20)
def wsX1_isRepeatDue : List Cond := .code yX1_isRepeatDue cX1_isRepeatDue 3 (some .boolean) :: ([.fieldLink RX1 15 "Callgate$Caller" "outcomes" "[I", .fieldLink RX1 27 "Callgate$Caller" "itemsReceived" "[I", .fieldLink RX1 21 "Callgate$Caller" "requestsSent" "[I", .fieldLink RX1 24 "Callgate$Caller" "latestRequest" "[I"] ++ wsX10)
def wsX1_repeatRequests_r1 : List Cond := [Cond.fieldLink RX1 37 "Callgate$Caller" "book" "LCallgate$Book;", Cond.fieldLink RX1 33 "Callgate$Caller" "budget" "I", Cond.methodLink RX1 97 yX1_isRepeatDue, Cond.instanceMethod yX1_isRepeatDue, Cond.selects RX1 yX1_isRepeatDue yX1_isRepeatDue, Cond.initialized RX1, Cond.code yX1_isRepeatDue cX1_isRepeatDue 3 (some .boolean), Cond.fieldLink RX1 15 "Callgate$Caller" "outcomes" "[I", Cond.fieldLink RX1 27 "Callgate$Caller" "itemsReceived" "[I", Cond.fieldLink RX1 21 "Callgate$Caller" "requestsSent" "[I", Cond.fieldLink RX1 24 "Callgate$Caller" "latestRequest" "[I", Cond.methodLink RX1 45 yX1_sendRequest, Cond.instanceMethod yX1_sendRequest, Cond.selects RX1 yX1_sendRequest yX1_sendRequest, Cond.code yX1_sendRequest cX1_sendRequest 3 none, Cond.fieldLink RX1 41 "Callgate$Caller" "toServer" "LCallgate$Lane;", Cond.instanceMethod yX2_send, Cond.initialized RX2, Cond.selects RX2 yX2_send yX2_send, Cond.code yX2_send cX2_send 6 none, Cond.fieldLink RX2 24 "Callgate$Lane" "size" "I", Cond.fieldLink RX2 9 "Callgate$Lane" "kinds" "[I", Cond.fieldLink RX2 15 "Callgate$Lane" "owners" "[I", Cond.fieldLink RX2 18 "Callgate$Lane" "marks" "[I"]
def wsX1_repeatRequests_r2 : List Cond := [Cond.fieldLink RX2 21 "Callgate$Lane" "values" "[I", Cond.methodLink RX2 37 yX2_slotOf, Cond.instanceMethod yX2_slotOf, Cond.selects RX2 yX2_slotOf yX2_slotOf, Cond.code yX2_slotOf cX2_slotOf 2 (some .int), Cond.fieldLink RX2 28 "Callgate$Lane" "first" "I", Cond.methodLink RX2 31 yJ9_floorMod_7cf53, Cond.static yJ9_floorMod_7cf53, Cond.initialized RJ9, Cond.code yJ9_floorMod_7cf53 cJ9_floorMod_7cf53 3 (some .int)]
def wsX1_repeatRequests : List Cond := .code yX1_repeatRequests cX1_repeatRequests 3 none :: ((wsX1_repeatRequests_r1 ++ wsX1_repeatRequests_r2) ++ wsX10 ++ wsX00 ++ wsX20)
def wsX2_init : List Cond := .code yX2_init cX2_init 1 none :: ([.methodLink RX2 3 objectInit, .instanceMethod objectInit, .code objectInit ⟨#[0xb1]⟩ 1 none, .arrayClass .int, .fieldLink RX2 9 "Callgate$Lane" "kinds" "[I", .fieldLink RX2 15 "Callgate$Lane" "owners" "[I", .fieldLink RX2 18 "Callgate$Lane" "marks" "[I", .fieldLink RX2 21 "Callgate$Lane" "values" "[I"] ++ wsX20)
def wsX2_has : List Cond := .code yX2_has cX2_has 2 (some .boolean) :: ([.fieldLink RX2 24 "Callgate$Lane" "size" "I"] ++ wsX20)
def wsX2_removeFirst : List Cond := .code yX2_removeFirst cX2_removeFirst 1 none :: ([.fieldLink RX2 28 "Callgate$Lane" "first" "I", .fieldLink RX2 24 "Callgate$Lane" "size" "I", .methodLink RX2 37 yX2_slotOf, .instanceMethod yX2_slotOf, .selects RX2 yX2_slotOf yX2_slotOf, .initialized RX2, .code yX2_slotOf cX2_slotOf 2 (some .int), .methodLink RX2 31 yJ9_floorMod_7cf53, .static yJ9_floorMod_7cf53, .initialized RJ9, .code yJ9_floorMod_7cf53 cJ9_floorMod_7cf53 3 (some .int)] ++ wsX20)
def wsX3_init : List Cond := .code yX3_init cX3_init 3 none :: ([.methodLink RX3 3 objectInit, .instanceMethod objectInit, .code objectInit ⟨#[0xb1]⟩ 1 none, .arrayClass .int, .fieldLink RX3 9 "Callgate$Server" "states" "[I", .fieldLink RX3 15 "Callgate$Server" "creditsLeft" "[I", .fieldLink RX3 18 "Callgate$Server" "itemsSent" "[I", .fieldLink RX3 21 "Callgate$Server" "results" "[I", .fieldLink RX3 24 "Callgate$Server" "values" "[I", .fieldLink RX3 27 "Callgate$Server" "book" "LCallgate$Book;", .fieldLink RX3 31 "Callgate$Server" "toCaller" "LCallgate$Lane;"] ++ wsX30)
def wsX3_sendAnswer : List Cond := .code yX3_sendAnswer cX3_sendAnswer 2 none :: ([.fieldLink RX3 31 "Callgate$Server" "toCaller" "LCallgate$Lane;", .fieldLink RX3 21 "Callgate$Server" "results" "[I", .fieldLink RX3 24 "Callgate$Server" "values" "[I", .instanceMethod yX2_send, .initialized RX2, .selects RX2 yX2_send yX2_send, .code yX2_send cX2_send 6 none, .fieldLink RX2 24 "Callgate$Lane" "size" "I", .fieldLink RX2 9 "Callgate$Lane" "kinds" "[I", .fieldLink RX2 15 "Callgate$Lane" "owners" "[I", .fieldLink RX2 18 "Callgate$Lane" "marks" "[I", .fieldLink RX2 21 "Callgate$Lane" "values" "[I", .methodLink RX2 37 yX2_slotOf, .instanceMethod yX2_slotOf, .selects RX2 yX2_slotOf yX2_slotOf, .code yX2_slotOf cX2_slotOf 2 (some .int), .fieldLink RX2 28 "Callgate$Lane" "first" "I", .methodLink RX2 31 yJ9_floorMod_7cf53, .static yJ9_floorMod_7cf53, .initialized RJ9, .code yJ9_floorMod_7cf53 cJ9_floorMod_7cf53 3 (some .int)] ++ wsX30 ++ wsX20)
def wsX3_takeRequest_r1 : List Cond := [Cond.fieldLink RX3 9 "Callgate$Server" "states" "[I", Cond.fieldLink RX3 27 "Callgate$Server" "book" "LCallgate$Book;", Cond.fieldLink RX3 15 "Callgate$Server" "creditsLeft" "[I", Cond.methodLink RX3 43 yX3_sendAnswer, Cond.instanceMethod yX3_sendAnswer, Cond.selects RX3 yX3_sendAnswer yX3_sendAnswer, Cond.initialized RX3, Cond.code yX3_sendAnswer cX3_sendAnswer 2 none, Cond.fieldLink RX3 31 "Callgate$Server" "toCaller" "LCallgate$Lane;", Cond.fieldLink RX3 21 "Callgate$Server" "results" "[I", Cond.fieldLink RX3 24 "Callgate$Server" "values" "[I", Cond.instanceMethod yX2_send, Cond.initialized RX2, Cond.selects RX2 yX2_send yX2_send, Cond.code yX2_send cX2_send 6 none, Cond.fieldLink RX2 24 "Callgate$Lane" "size" "I", Cond.fieldLink RX2 9 "Callgate$Lane" "kinds" "[I", Cond.fieldLink RX2 15 "Callgate$Lane" "owners" "[I", Cond.fieldLink RX2 18 "Callgate$Lane" "marks" "[I", Cond.fieldLink RX2 21 "Callgate$Lane" "values" "[I", Cond.methodLink RX2 37 yX2_slotOf, Cond.instanceMethod yX2_slotOf, Cond.selects RX2 yX2_slotOf yX2_slotOf, Cond.code yX2_slotOf cX2_slotOf 2 (some .int)]
def wsX3_takeRequest_r2 : List Cond := [Cond.fieldLink RX2 28 "Callgate$Lane" "first" "I", Cond.methodLink RX2 31 yJ9_floorMod_7cf53, Cond.static yJ9_floorMod_7cf53, Cond.initialized RJ9, Cond.code yJ9_floorMod_7cf53 cJ9_floorMod_7cf53 3 (some .int), Cond.instanceMethod yX0_isDue, Cond.initialized RX0, Cond.selects RX0 yX0_isDue yX0_isDue, Cond.code yX0_isDue cX0_isDue 3 (some .boolean), Cond.fieldLink RX0 18 "Callgate$Book" "deadlines" "[I"]
def wsX3_takeRequest : List Cond := .code yX3_takeRequest cX3_takeRequest 3 none :: ((wsX3_takeRequest_r1 ++ wsX3_takeRequest_r2) ++ wsX30 ++ wsX20 ++ wsX00)
def wsX3_takeCancellation : List Cond := .code yX3_takeCancellation cX3_takeCancellation 2 none :: ([.fieldLink RX3 9 "Callgate$Server" "states" "[I"] ++ wsX30)
def wsX3_take_r1 : List Cond := [Cond.fieldLink RX3 9 "Callgate$Server" "states" "[I", Cond.fieldLink RX3 15 "Callgate$Server" "creditsLeft" "[I", Cond.methodLink RX3 35 yX3_takeRequest, Cond.instanceMethod yX3_takeRequest, Cond.selects RX3 yX3_takeRequest yX3_takeRequest, Cond.initialized RX3, Cond.code yX3_takeRequest cX3_takeRequest 3 none, Cond.fieldLink RX3 27 "Callgate$Server" "book" "LCallgate$Book;", Cond.methodLink RX3 43 yX3_sendAnswer, Cond.instanceMethod yX3_sendAnswer, Cond.selects RX3 yX3_sendAnswer yX3_sendAnswer, Cond.code yX3_sendAnswer cX3_sendAnswer 2 none, Cond.fieldLink RX3 31 "Callgate$Server" "toCaller" "LCallgate$Lane;", Cond.fieldLink RX3 21 "Callgate$Server" "results" "[I", Cond.fieldLink RX3 24 "Callgate$Server" "values" "[I", Cond.instanceMethod yX2_send, Cond.initialized RX2, Cond.selects RX2 yX2_send yX2_send, Cond.code yX2_send cX2_send 6 none, Cond.fieldLink RX2 24 "Callgate$Lane" "size" "I", Cond.fieldLink RX2 9 "Callgate$Lane" "kinds" "[I", Cond.fieldLink RX2 15 "Callgate$Lane" "owners" "[I", Cond.fieldLink RX2 18 "Callgate$Lane" "marks" "[I", Cond.fieldLink RX2 21 "Callgate$Lane" "values" "[I"]
def wsX3_take_r2 : List Cond := [Cond.methodLink RX2 37 yX2_slotOf, Cond.instanceMethod yX2_slotOf, Cond.selects RX2 yX2_slotOf yX2_slotOf, Cond.code yX2_slotOf cX2_slotOf 2 (some .int), Cond.fieldLink RX2 28 "Callgate$Lane" "first" "I", Cond.methodLink RX2 31 yJ9_floorMod_7cf53, Cond.static yJ9_floorMod_7cf53, Cond.initialized RJ9, Cond.code yJ9_floorMod_7cf53 cJ9_floorMod_7cf53 3 (some .int), Cond.instanceMethod yX0_isDue, Cond.initialized RX0, Cond.selects RX0 yX0_isDue yX0_isDue, Cond.code yX0_isDue cX0_isDue 3 (some .boolean), Cond.fieldLink RX0 18 "Callgate$Book" "deadlines" "[I", Cond.methodLink RX3 39 yX3_takeCancellation, Cond.instanceMethod yX3_takeCancellation, Cond.selects RX3 yX3_takeCancellation yX3_takeCancellation, Cond.code yX3_takeCancellation cX3_takeCancellation 2 none]
def wsX3_take : List Cond := .code yX3_take cX3_take 5 none :: ((wsX3_take_r1 ++ wsX3_take_r2) ++ wsX30 ++ wsX20 ++ wsX00)
def wsX3_closeDueTasks : List Cond := .code yX3_closeDueTasks cX3_closeDueTasks 3 none :: ([.fieldLink RX3 27 "Callgate$Server" "book" "LCallgate$Book;", .fieldLink RX3 9 "Callgate$Server" "states" "[I", .instanceMethod yX0_isDue, .initialized RX0, .selects RX0 yX0_isDue yX0_isDue, .code yX0_isDue cX0_isDue 3 (some .boolean), .fieldLink RX0 18 "Callgate$Book" "deadlines" "[I"] ++ wsX30 ++ wsX00)
def wsX3_isItemNext : List Cond := .code yX3_isItemNext cX3_isItemNext 2 (some .boolean) :: ([.fieldLink RX3 27 "Callgate$Server" "book" "LCallgate$Book;", .fieldLink RX3 18 "Callgate$Server" "itemsSent" "[I"] ++ wsX30 ++ wsX00)
def wsX3_sendItem : List Cond := .code yX3_sendItem cX3_sendItem 3 none :: ([.fieldLink RX3 18 "Callgate$Server" "itemsSent" "[I", .fieldLink RX3 31 "Callgate$Server" "toCaller" "LCallgate$Lane;", .fieldLink RX3 27 "Callgate$Server" "book" "LCallgate$Book;", .fieldLink RX3 15 "Callgate$Server" "creditsLeft" "[I", .instanceMethod yX2_send, .initialized RX2, .selects RX2 yX2_send yX2_send, .code yX2_send cX2_send 6 none, .fieldLink RX2 24 "Callgate$Lane" "size" "I", .fieldLink RX2 9 "Callgate$Lane" "kinds" "[I", .fieldLink RX2 15 "Callgate$Lane" "owners" "[I", .fieldLink RX2 18 "Callgate$Lane" "marks" "[I", .fieldLink RX2 21 "Callgate$Lane" "values" "[I", .methodLink RX2 37 yX2_slotOf, .instanceMethod yX2_slotOf, .selects RX2 yX2_slotOf yX2_slotOf, .code yX2_slotOf cX2_slotOf 2 (some .int), .fieldLink RX2 28 "Callgate$Lane" "first" "I", .methodLink RX2 31 yJ9_floorMod_7cf53, .static yJ9_floorMod_7cf53, .initialized RJ9, .code yJ9_floorMod_7cf53 cJ9_floorMod_7cf53 3 (some .int)] ++ wsX30 ++ wsX00 ++ wsX20)
def wsX3_answerOf : List Cond := .code yX3_answerOf cX3_answerOf 3 (some .int) :: ([.fieldLink RX3 82 "Callgate$Server" "added" "I", .methodLink RX3 85 Lib.Math.max.name, .static Lib.Math.max.name, .initialized "java/lang/Math", .code Lib.Math.max.name Lib.Math.max.code 2 (some .int)] ++ wsX30)
def wsX3_perform_r1 : List Cond := [Cond.fieldLink RX3 27 "Callgate$Server" "book" "LCallgate$Book;", Cond.fieldLink RX3 82 "Callgate$Server" "added" "I", Cond.fieldLink RX3 21 "Callgate$Server" "results" "[I", Cond.fieldLink RX3 24 "Callgate$Server" "values" "[I", Cond.fieldLink RX3 9 "Callgate$Server" "states" "[I", Cond.methodLink RX3 78 yX3_answerOf, Cond.instanceMethod yX3_answerOf, Cond.selects RX3 yX3_answerOf yX3_answerOf, Cond.initialized RX3, Cond.code yX3_answerOf cX3_answerOf 3 (some .int), Cond.methodLink RX3 85 Lib.Math.max.name, Cond.static Lib.Math.max.name, Cond.initialized "java/lang/Math", Cond.code Lib.Math.max.name Lib.Math.max.code 2 (some .int), Cond.methodLink RX3 43 yX3_sendAnswer, Cond.instanceMethod yX3_sendAnswer, Cond.selects RX3 yX3_sendAnswer yX3_sendAnswer, Cond.code yX3_sendAnswer cX3_sendAnswer 2 none, Cond.fieldLink RX3 31 "Callgate$Server" "toCaller" "LCallgate$Lane;", Cond.instanceMethod yX2_send, Cond.initialized RX2, Cond.selects RX2 yX2_send yX2_send, Cond.code yX2_send cX2_send 6 none, Cond.fieldLink RX2 24 "Callgate$Lane" "size" "I"]
def wsX3_perform_r2 : List Cond := [Cond.fieldLink RX2 9 "Callgate$Lane" "kinds" "[I", Cond.fieldLink RX2 15 "Callgate$Lane" "owners" "[I", Cond.fieldLink RX2 18 "Callgate$Lane" "marks" "[I", Cond.fieldLink RX2 21 "Callgate$Lane" "values" "[I", Cond.methodLink RX2 37 yX2_slotOf, Cond.instanceMethod yX2_slotOf, Cond.selects RX2 yX2_slotOf yX2_slotOf, Cond.code yX2_slotOf cX2_slotOf 2 (some .int), Cond.fieldLink RX2 28 "Callgate$Lane" "first" "I", Cond.methodLink RX2 31 yJ9_floorMod_7cf53, Cond.static yJ9_floorMod_7cf53, Cond.initialized RJ9, Cond.code yJ9_floorMod_7cf53 cJ9_floorMod_7cf53 3 (some .int)]
def wsX3_perform : List Cond := .code yX3_perform cX3_perform 4 none :: ((wsX3_perform_r1 ++ wsX3_perform_r2) ++ wsX30 ++ wsX00 ++ wsX20)
def wsX3_step_r1 : List Cond := [Cond.methodLink RX3 56 yX3_isItemNext, Cond.instanceMethod yX3_isItemNext, Cond.selects RX3 yX3_isItemNext yX3_isItemNext, Cond.initialized RX3, Cond.code yX3_isItemNext cX3_isItemNext 2 (some .boolean), Cond.fieldLink RX3 27 "Callgate$Server" "book" "LCallgate$Book;", Cond.fieldLink RX3 18 "Callgate$Server" "itemsSent" "[I", Cond.methodLink RX3 60 yX3_sendItem, Cond.instanceMethod yX3_sendItem, Cond.selects RX3 yX3_sendItem yX3_sendItem, Cond.code yX3_sendItem cX3_sendItem 3 none, Cond.fieldLink RX3 31 "Callgate$Server" "toCaller" "LCallgate$Lane;", Cond.fieldLink RX3 15 "Callgate$Server" "creditsLeft" "[I", Cond.instanceMethod yX2_send, Cond.initialized RX2, Cond.selects RX2 yX2_send yX2_send, Cond.code yX2_send cX2_send 6 none, Cond.fieldLink RX2 24 "Callgate$Lane" "size" "I", Cond.fieldLink RX2 9 "Callgate$Lane" "kinds" "[I", Cond.fieldLink RX2 15 "Callgate$Lane" "owners" "[I", Cond.fieldLink RX2 18 "Callgate$Lane" "marks" "[I", Cond.fieldLink RX2 21 "Callgate$Lane" "values" "[I", Cond.methodLink RX2 37 yX2_slotOf, Cond.instanceMethod yX2_slotOf]
def wsX3_step_r2 : List Cond := [Cond.selects RX2 yX2_slotOf yX2_slotOf, Cond.code yX2_slotOf cX2_slotOf 2 (some .int), Cond.fieldLink RX2 28 "Callgate$Lane" "first" "I", Cond.methodLink RX2 31 yJ9_floorMod_7cf53, Cond.static yJ9_floorMod_7cf53, Cond.initialized RJ9, Cond.code yJ9_floorMod_7cf53 cJ9_floorMod_7cf53 3 (some .int), Cond.methodLink RX3 63 yX3_perform, Cond.instanceMethod yX3_perform, Cond.selects RX3 yX3_perform yX3_perform, Cond.code yX3_perform cX3_perform 4 none, Cond.fieldLink RX3 82 "Callgate$Server" "added" "I", Cond.fieldLink RX3 21 "Callgate$Server" "results" "[I", Cond.fieldLink RX3 24 "Callgate$Server" "values" "[I", Cond.fieldLink RX3 9 "Callgate$Server" "states" "[I", Cond.methodLink RX3 78 yX3_answerOf, Cond.instanceMethod yX3_answerOf, Cond.selects RX3 yX3_answerOf yX3_answerOf, Cond.code yX3_answerOf cX3_answerOf 3 (some .int), Cond.methodLink RX3 85 Lib.Math.max.name, Cond.static Lib.Math.max.name, Cond.initialized "java/lang/Math", Cond.code Lib.Math.max.name Lib.Math.max.code 2 (some .int), Cond.methodLink RX3 43 yX3_sendAnswer]
def wsX3_step_r3 : List Cond := [Cond.instanceMethod yX3_sendAnswer, Cond.selects RX3 yX3_sendAnswer yX3_sendAnswer, Cond.code yX3_sendAnswer cX3_sendAnswer 2 none]
def wsX3_step : List Cond := .code yX3_step cX3_step 2 none :: ((wsX3_step_r1 ++ (wsX3_step_r2 ++ wsX3_step_r3)) ++ wsX30 ++ wsX00 ++ wsX20)
def wsX4_init_r1 : List Cond := [Cond.methodLink RX4 1 objectInit, Cond.instanceMethod objectInit, Cond.code objectInit ⟨#[0xb1]⟩ 1 none, Cond.classLink RX4 7 RX0, Cond.instantiable RX0 4, Cond.initialized RX0, Cond.fieldLink RX4 10 "Callgate" "book" "LCallgate$Book;", Cond.classLink RX4 16 RX2, Cond.instantiable RX2 6, Cond.initialized RX2, Cond.fieldLink RX4 19 "Callgate" "toServer" "LCallgate$Lane;", Cond.fieldLink RX4 23 "Callgate" "toCaller" "LCallgate$Lane;", Cond.classLink RX4 26 RX1, Cond.instantiable RX1 10, Cond.initialized RX1, Cond.fieldLink RX4 31 "Callgate" "caller" "LCallgate$Caller;", Cond.classLink RX4 35 RX3, Cond.instantiable RX3 8, Cond.initialized RX3, Cond.fieldLink RX4 38 "Callgate" "server" "LCallgate$Server;", Cond.instanceMethod yX0_init, Cond.code yX0_init cX0_init 1 none, Cond.methodLink RX0 3 objectInit, Cond.arrayClass .int]
def wsX4_init_r2 : List Cond := [Cond.fieldLink RX0 9 "Callgate$Book" "methods" "[I", Cond.fieldLink RX0 15 "Callgate$Book" "arguments" "[I", Cond.fieldLink RX0 18 "Callgate$Book" "deadlines" "[I", Cond.instanceMethod yX2_init, Cond.code yX2_init cX2_init 1 none, Cond.methodLink RX2 3 objectInit, Cond.fieldLink RX2 9 "Callgate$Lane" "kinds" "[I", Cond.fieldLink RX2 15 "Callgate$Lane" "owners" "[I", Cond.fieldLink RX2 18 "Callgate$Lane" "marks" "[I", Cond.fieldLink RX2 21 "Callgate$Lane" "values" "[I", Cond.instanceMethod yX1_init, Cond.code yX1_init cX1_init 3 none, Cond.methodLink RX1 3 objectInit, Cond.fieldLink RX1 9 "Callgate$Caller" "parents" "[I", Cond.fieldLink RX1 15 "Callgate$Caller" "outcomes" "[I", Cond.fieldLink RX1 18 "Callgate$Caller" "values" "[I", Cond.fieldLink RX1 21 "Callgate$Caller" "requestsSent" "[I", Cond.fieldLink RX1 24 "Callgate$Caller" "latestRequest" "[I", Cond.fieldLink RX1 27 "Callgate$Caller" "itemsReceived" "[I", Cond.fieldLink RX1 30 "Callgate$Caller" "sums" "[I", Cond.fieldLink RX1 33 "Callgate$Caller" "budget" "I", Cond.fieldLink RX1 37 "Callgate$Caller" "book" "LCallgate$Book;", Cond.fieldLink RX1 41 "Callgate$Caller" "toServer" "LCallgate$Lane;", Cond.instanceMethod yX3_init]
def wsX4_init_r3 : List Cond := [Cond.code yX3_init cX3_init 3 none, Cond.methodLink RX3 3 objectInit, Cond.fieldLink RX3 9 "Callgate$Server" "states" "[I", Cond.fieldLink RX3 15 "Callgate$Server" "creditsLeft" "[I", Cond.fieldLink RX3 18 "Callgate$Server" "itemsSent" "[I", Cond.fieldLink RX3 21 "Callgate$Server" "results" "[I", Cond.fieldLink RX3 24 "Callgate$Server" "values" "[I", Cond.fieldLink RX3 27 "Callgate$Server" "book" "LCallgate$Book;", Cond.fieldLink RX3 31 "Callgate$Server" "toCaller" "LCallgate$Lane;"]
def wsX4_init : List Cond := .code yX4_init cX4_init 1 none :: ((wsX4_init_r1 ++ (wsX4_init_r2 ++ wsX4_init_r3)) ++ wsX00 ++ wsX40 ++ wsX20 ++ wsX10 ++ wsX30)
def wsX4_needCall : List Cond := .code yX4_needCall cX4_needCall 2 none :: ([.classLink RX4 204 "java/lang/IndexOutOfBoundsException", .initialized "java/lang/IndexOutOfBoundsException", .fieldLink RX4 10 "Callgate" "book" "LCallgate$Book;", .instanceMethod yX0_has, .initialized RX0, .selects RX0 yX0_has yX0_has, .code yX0_has cX0_has 2 (some .boolean), .fieldLink RX0 21 "Callgate$Book" "size" "I"] ++ wsX40 ++ wsX00 ++ (vx_atS RX4 208 "java/lang/IndexOutOfBoundsException" ["java/lang/RuntimeException", "java/lang/Exception"]).filter goodWord)
def wsX4_needMethodAndArgument : List Cond := .code yX4_needMethodAndArgument cX4_needMethodAndArgument 2 none :: ([.classLink RX4 50 "java/lang/IllegalArgumentException", .initialized "java/lang/IllegalArgumentException"] ++ (vx_atS RX4 54 "java/lang/IllegalArgumentException" ["java/lang/RuntimeException", "java/lang/Exception"]).filter goodWord)
def wsX4_needOpenCall : List Cond := .code yX4_needOpenCall cX4_needOpenCall 2 none :: ([.classLink RX4 64 "java/lang/IllegalStateException", .initialized "java/lang/IllegalStateException", .fieldLink RX4 31 "Callgate" "caller" "LCallgate$Caller;"] ++ wsX40 ++ wsX10 ++ (vx_atS RX4 68 "java/lang/IllegalStateException" ["java/lang/RuntimeException", "java/lang/Exception"]).filter goodWord)
def wsX4_open_r1 : List Cond := [Cond.classLink RX4 50 "java/lang/IllegalArgumentException", Cond.initialized "java/lang/IllegalArgumentException", Cond.classLink RX4 64 "java/lang/IllegalStateException", Cond.initialized "java/lang/IllegalStateException", Cond.fieldLink RX4 10 "Callgate" "book" "LCallgate$Book;", Cond.fieldLink RX4 69 "Callgate" "time" "I", Cond.methodLink RX4 77 Lib.Math.min.name, Cond.static Lib.Math.min.name, Cond.initialized "java/lang/Math", Cond.code Lib.Math.min.name Lib.Math.min.code 2 (some .int), Cond.fieldLink RX4 31 "Callgate" "caller" "LCallgate$Caller;", Cond.methodLink RX4 42 yX4_needCall, Cond.instanceMethod yX4_needCall, Cond.selects RX4 yX4_needCall yX4_needCall, Cond.initialized RX4, Cond.code yX4_needCall cX4_needCall 2 none, Cond.classLink RX4 204 "java/lang/IndexOutOfBoundsException", Cond.initialized "java/lang/IndexOutOfBoundsException", Cond.instanceMethod yX0_has, Cond.initialized RX0, Cond.selects RX0 yX0_has yX0_has, Cond.code yX0_has cX0_has 2 (some .boolean), Cond.fieldLink RX0 21 "Callgate$Book" "size" "I", Cond.methodLink RX4 46 yX4_needMethodAndArgument]
def wsX4_open_r2 : List Cond := [Cond.static yX4_needMethodAndArgument, Cond.code yX4_needMethodAndArgument cX4_needMethodAndArgument 2 none, Cond.methodLink RX4 57 yX4_needOpenCall, Cond.instanceMethod yX4_needOpenCall, Cond.selects RX4 yX4_needOpenCall yX4_needOpenCall, Cond.code yX4_needOpenCall cX4_needOpenCall 2 none, Cond.instanceMethod yX0_isFull, Cond.selects RX0 yX0_isFull yX0_isFull, Cond.code yX0_isFull cX0_isFull 1 (some .boolean), Cond.instanceMethod yX0_enter, Cond.selects RX0 yX0_enter yX0_enter, Cond.code yX0_enter cX0_enter 5 (some .int), Cond.fieldLink RX0 9 "Callgate$Book" "methods" "[I", Cond.fieldLink RX0 15 "Callgate$Book" "arguments" "[I", Cond.fieldLink RX0 18 "Callgate$Book" "deadlines" "[I", Cond.instanceMethod yX1_begin, Cond.initialized RX1, Cond.selects RX1 yX1_begin yX1_begin, Cond.code yX1_begin cX1_begin 4 none, Cond.fieldLink RX1 9 "Callgate$Caller" "parents" "[I", Cond.fieldLink RX1 15 "Callgate$Caller" "outcomes" "[I", Cond.methodLink RX1 45 yX1_sendRequest, Cond.instanceMethod yX1_sendRequest, Cond.selects RX1 yX1_sendRequest yX1_sendRequest]
def wsX4_open_r3 : List Cond := [Cond.code yX1_sendRequest cX1_sendRequest 3 none, Cond.fieldLink RX1 21 "Callgate$Caller" "requestsSent" "[I", Cond.fieldLink RX1 24 "Callgate$Caller" "latestRequest" "[I", Cond.fieldLink RX1 41 "Callgate$Caller" "toServer" "LCallgate$Lane;", Cond.instanceMethod yX2_send, Cond.initialized RX2, Cond.selects RX2 yX2_send yX2_send, Cond.code yX2_send cX2_send 6 none, Cond.fieldLink RX2 24 "Callgate$Lane" "size" "I", Cond.fieldLink RX2 9 "Callgate$Lane" "kinds" "[I", Cond.fieldLink RX2 15 "Callgate$Lane" "owners" "[I", Cond.fieldLink RX2 18 "Callgate$Lane" "marks" "[I", Cond.fieldLink RX2 21 "Callgate$Lane" "values" "[I", Cond.methodLink RX2 37 yX2_slotOf, Cond.instanceMethod yX2_slotOf, Cond.selects RX2 yX2_slotOf yX2_slotOf, Cond.code yX2_slotOf cX2_slotOf 2 (some .int), Cond.fieldLink RX2 28 "Callgate$Lane" "first" "I", Cond.methodLink RX2 31 yJ9_floorMod_7cf53, Cond.static yJ9_floorMod_7cf53, Cond.initialized RJ9, Cond.code yJ9_floorMod_7cf53 cJ9_floorMod_7cf53 3 (some .int)]
def wsX4_open : List Cond := .code yX4_open cX4_open 7 (some .int) :: ((wsX4_open_r1 ++ (wsX4_open_r2 ++ wsX4_open_r3)) ++ wsX40 ++ wsX00 ++ wsX10 ++ wsX20 ++ (vx_atS RX4 54 "java/lang/IllegalArgumentException" ["java/lang/RuntimeException", "java/lang/Exception"]).filter goodWord ++ (vx_atS RX4 68 "java/lang/IllegalStateException" ["java/lang/RuntimeException", "java/lang/Exception"]).filter goodWord ++ (vx_atS RX4 208 "java/lang/IndexOutOfBoundsException" ["java/lang/RuntimeException", "java/lang/Exception"]).filter goodWord)
def wsX4_cancel_r1 : List Cond := [Cond.fieldLink RX4 31 "Callgate" "caller" "LCallgate$Caller;", Cond.methodLink RX4 42 yX4_needCall, Cond.instanceMethod yX4_needCall, Cond.selects RX4 yX4_needCall yX4_needCall, Cond.initialized RX4, Cond.code yX4_needCall cX4_needCall 2 none, Cond.classLink RX4 204 "java/lang/IndexOutOfBoundsException", Cond.initialized "java/lang/IndexOutOfBoundsException", Cond.fieldLink RX4 10 "Callgate" "book" "LCallgate$Book;", Cond.instanceMethod yX0_has, Cond.initialized RX0, Cond.selects RX0 yX0_has yX0_has, Cond.code yX0_has cX0_has 2 (some .boolean), Cond.fieldLink RX0 21 "Callgate$Book" "size" "I", Cond.methodLink RX4 57 yX4_needOpenCall, Cond.instanceMethod yX4_needOpenCall, Cond.selects RX4 yX4_needOpenCall yX4_needOpenCall, Cond.code yX4_needOpenCall cX4_needOpenCall 2 none, Cond.classLink RX4 64 "java/lang/IllegalStateException", Cond.initialized "java/lang/IllegalStateException", Cond.instanceMethod yX1_endAndTell, Cond.initialized RX1, Cond.selects RX1 yX1_endAndTell yX1_endAndTell, Cond.code yX1_endAndTell cX1_endAndTell 3 (some .int)]
def wsX4_cancel_r2 : List Cond := [Cond.fieldLink RX1 15 "Callgate$Caller" "outcomes" "[I", Cond.fieldLink RX1 41 "Callgate$Caller" "toServer" "LCallgate$Lane;", Cond.instanceMethod yX2_send, Cond.initialized RX2, Cond.selects RX2 yX2_send yX2_send, Cond.code yX2_send cX2_send 6 none, Cond.fieldLink RX2 24 "Callgate$Lane" "size" "I", Cond.fieldLink RX2 9 "Callgate$Lane" "kinds" "[I", Cond.fieldLink RX2 15 "Callgate$Lane" "owners" "[I", Cond.fieldLink RX2 18 "Callgate$Lane" "marks" "[I", Cond.fieldLink RX2 21 "Callgate$Lane" "values" "[I", Cond.methodLink RX2 37 yX2_slotOf, Cond.instanceMethod yX2_slotOf, Cond.selects RX2 yX2_slotOf yX2_slotOf, Cond.code yX2_slotOf cX2_slotOf 2 (some .int), Cond.fieldLink RX2 28 "Callgate$Lane" "first" "I", Cond.methodLink RX2 31 yJ9_floorMod_7cf53, Cond.static yJ9_floorMod_7cf53, Cond.initialized RJ9, Cond.code yJ9_floorMod_7cf53 cJ9_floorMod_7cf53 3 (some .int), Cond.methodLink RX1 55 yX1_cancelOrphans, Cond.instanceMethod yX1_cancelOrphans, Cond.selects RX1 yX1_cancelOrphans yX1_cancelOrphans, Cond.code yX1_cancelOrphans cX1_cancelOrphans 4 (some .int)]
def wsX4_cancel_r3 : List Cond := [Cond.fieldLink RX1 37 "Callgate$Caller" "book" "LCallgate$Book;", Cond.methodLink RX1 64 yX1_hasEndedParent, Cond.instanceMethod yX1_hasEndedParent, Cond.selects RX1 yX1_hasEndedParent yX1_hasEndedParent, Cond.code yX1_hasEndedParent cX1_hasEndedParent 3 (some .boolean), Cond.fieldLink RX1 9 "Callgate$Caller" "parents" "[I"]
def wsX4_cancel : List Cond := .code yX4_cancel cX4_cancel 2 (some .int) :: ((wsX4_cancel_r1 ++ (wsX4_cancel_r2 ++ wsX4_cancel_r3)) ++ wsX40 ++ wsX00 ++ wsX10 ++ wsX20 ++ (vx_atS RX4 208 "java/lang/IndexOutOfBoundsException" ["java/lang/RuntimeException", "java/lang/Exception"]).filter goodWord ++ (vx_atS RX4 68 "java/lang/IllegalStateException" ["java/lang/RuntimeException", "java/lang/Exception"]).filter goodWord)
def wsX4_grant_r1 : List Cond := [Cond.classLink RX4 50 "java/lang/IllegalArgumentException", Cond.initialized "java/lang/IllegalArgumentException", Cond.classLink RX4 64 "java/lang/IllegalStateException", Cond.initialized "java/lang/IllegalStateException", Cond.fieldLink RX4 10 "Callgate" "book" "LCallgate$Book;", Cond.fieldLink RX4 19 "Callgate" "toServer" "LCallgate$Lane;", Cond.methodLink RX4 42 yX4_needCall, Cond.instanceMethod yX4_needCall, Cond.selects RX4 yX4_needCall yX4_needCall, Cond.initialized RX4, Cond.code yX4_needCall cX4_needCall 2 none, Cond.classLink RX4 204 "java/lang/IndexOutOfBoundsException", Cond.initialized "java/lang/IndexOutOfBoundsException", Cond.instanceMethod yX0_has, Cond.initialized RX0, Cond.selects RX0 yX0_has yX0_has, Cond.code yX0_has cX0_has 2 (some .boolean), Cond.fieldLink RX0 21 "Callgate$Book" "size" "I", Cond.methodLink RX4 57 yX4_needOpenCall, Cond.instanceMethod yX4_needOpenCall, Cond.selects RX4 yX4_needOpenCall yX4_needOpenCall, Cond.code yX4_needOpenCall cX4_needOpenCall 2 none, Cond.fieldLink RX4 31 "Callgate" "caller" "LCallgate$Caller;", Cond.instanceMethod yX2_send]
def wsX4_grant_r2 : List Cond := [Cond.initialized RX2, Cond.selects RX2 yX2_send yX2_send, Cond.code yX2_send cX2_send 6 none, Cond.fieldLink RX2 24 "Callgate$Lane" "size" "I", Cond.fieldLink RX2 9 "Callgate$Lane" "kinds" "[I", Cond.fieldLink RX2 15 "Callgate$Lane" "owners" "[I", Cond.fieldLink RX2 18 "Callgate$Lane" "marks" "[I", Cond.fieldLink RX2 21 "Callgate$Lane" "values" "[I", Cond.methodLink RX2 37 yX2_slotOf, Cond.instanceMethod yX2_slotOf, Cond.selects RX2 yX2_slotOf yX2_slotOf, Cond.code yX2_slotOf cX2_slotOf 2 (some .int), Cond.fieldLink RX2 28 "Callgate$Lane" "first" "I", Cond.methodLink RX2 31 yJ9_floorMod_7cf53, Cond.static yJ9_floorMod_7cf53, Cond.initialized RJ9, Cond.code yJ9_floorMod_7cf53 cJ9_floorMod_7cf53 3 (some .int)]
def wsX4_grant : List Cond := .code yX4_grant cX4_grant 3 none :: ((wsX4_grant_r1 ++ wsX4_grant_r2) ++ wsX40 ++ wsX00 ++ wsX10 ++ wsX20 ++ (vx_atS RX4 54 "java/lang/IllegalArgumentException" ["java/lang/RuntimeException", "java/lang/Exception"]).filter goodWord ++ (vx_atS RX4 68 "java/lang/IllegalStateException" ["java/lang/RuntimeException", "java/lang/Exception"]).filter goodWord ++ (vx_atS RX4 208 "java/lang/IndexOutOfBoundsException" ["java/lang/RuntimeException", "java/lang/Exception"]).filter goodWord)
def wsX4_calls : List Cond := .code yX4_calls cX4_calls 1 (some .int) :: ([.fieldLink RX4 10 "Callgate" "book" "LCallgate$Book;"] ++ wsX40 ++ wsX00)
def wsX4_outcome : List Cond := .code yX4_outcome cX4_outcome 2 (some .int) :: ([.fieldLink RX4 31 "Callgate" "caller" "LCallgate$Caller;", .methodLink RX4 42 yX4_needCall, .instanceMethod yX4_needCall, .selects RX4 yX4_needCall yX4_needCall, .initialized RX4, .code yX4_needCall cX4_needCall 2 none, .classLink RX4 204 "java/lang/IndexOutOfBoundsException", .initialized "java/lang/IndexOutOfBoundsException", .fieldLink RX4 10 "Callgate" "book" "LCallgate$Book;", .instanceMethod yX0_has, .initialized RX0, .selects RX0 yX0_has yX0_has, .code yX0_has cX0_has 2 (some .boolean), .fieldLink RX0 21 "Callgate$Book" "size" "I"] ++ wsX40 ++ wsX10 ++ wsX00 ++ (vx_atS RX4 208 "java/lang/IndexOutOfBoundsException" ["java/lang/RuntimeException", "java/lang/Exception"]).filter goodWord)
def wsX4_value : List Cond := .code yX4_value cX4_value 2 (some .int) :: ([.classLink RX4 64 "java/lang/IllegalStateException", .initialized "java/lang/IllegalStateException", .fieldLink RX4 31 "Callgate" "caller" "LCallgate$Caller;", .methodLink RX4 42 yX4_needCall, .instanceMethod yX4_needCall, .selects RX4 yX4_needCall yX4_needCall, .initialized RX4, .code yX4_needCall cX4_needCall 2 none, .classLink RX4 204 "java/lang/IndexOutOfBoundsException", .initialized "java/lang/IndexOutOfBoundsException", .fieldLink RX4 10 "Callgate" "book" "LCallgate$Book;", .instanceMethod yX0_has, .initialized RX0, .selects RX0 yX0_has yX0_has, .code yX0_has cX0_has 2 (some .boolean), .fieldLink RX0 21 "Callgate$Book" "size" "I"] ++ wsX40 ++ wsX10 ++ wsX00 ++ (vx_atS RX4 68 "java/lang/IllegalStateException" ["java/lang/RuntimeException", "java/lang/Exception"]).filter goodWord ++ (vx_atS RX4 208 "java/lang/IndexOutOfBoundsException" ["java/lang/RuntimeException", "java/lang/Exception"]).filter goodWord)
def wsX4_deadline : List Cond := .code yX4_deadline cX4_deadline 2 (some .int) :: ([.fieldLink RX4 10 "Callgate" "book" "LCallgate$Book;", .methodLink RX4 42 yX4_needCall, .instanceMethod yX4_needCall, .selects RX4 yX4_needCall yX4_needCall, .initialized RX4, .code yX4_needCall cX4_needCall 2 none, .classLink RX4 204 "java/lang/IndexOutOfBoundsException", .initialized "java/lang/IndexOutOfBoundsException", .instanceMethod yX0_has, .initialized RX0, .selects RX0 yX0_has yX0_has, .code yX0_has cX0_has 2 (some .boolean), .fieldLink RX0 21 "Callgate$Book" "size" "I"] ++ wsX40 ++ wsX00 ++ (vx_atS RX4 208 "java/lang/IndexOutOfBoundsException" ["java/lang/RuntimeException", "java/lang/Exception"]).filter goodWord)
def wsX4_attempts : List Cond := .code yX4_attempts cX4_attempts 2 (some .int) :: ([.fieldLink RX4 31 "Callgate" "caller" "LCallgate$Caller;", .methodLink RX4 42 yX4_needCall, .instanceMethod yX4_needCall, .selects RX4 yX4_needCall yX4_needCall, .initialized RX4, .code yX4_needCall cX4_needCall 2 none, .classLink RX4 204 "java/lang/IndexOutOfBoundsException", .initialized "java/lang/IndexOutOfBoundsException", .fieldLink RX4 10 "Callgate" "book" "LCallgate$Book;", .instanceMethod yX0_has, .initialized RX0, .selects RX0 yX0_has yX0_has, .code yX0_has cX0_has 2 (some .boolean), .fieldLink RX0 21 "Callgate$Book" "size" "I"] ++ wsX40 ++ wsX10 ++ wsX00 ++ (vx_atS RX4 208 "java/lang/IndexOutOfBoundsException" ["java/lang/RuntimeException", "java/lang/Exception"]).filter goodWord)
def wsX4_received : List Cond := .code yX4_received cX4_received 2 (some .int) :: ([.fieldLink RX4 31 "Callgate" "caller" "LCallgate$Caller;", .methodLink RX4 42 yX4_needCall, .instanceMethod yX4_needCall, .selects RX4 yX4_needCall yX4_needCall, .initialized RX4, .code yX4_needCall cX4_needCall 2 none, .classLink RX4 204 "java/lang/IndexOutOfBoundsException", .initialized "java/lang/IndexOutOfBoundsException", .fieldLink RX4 10 "Callgate" "book" "LCallgate$Book;", .instanceMethod yX0_has, .initialized RX0, .selects RX0 yX0_has yX0_has, .code yX0_has cX0_has 2 (some .boolean), .fieldLink RX0 21 "Callgate$Book" "size" "I"] ++ wsX40 ++ wsX10 ++ wsX00 ++ (vx_atS RX4 208 "java/lang/IndexOutOfBoundsException" ["java/lang/RuntimeException", "java/lang/Exception"]).filter goodWord)
def wsX4_sum : List Cond := .code yX4_sum cX4_sum 2 (some .int) :: ([.fieldLink RX4 31 "Callgate" "caller" "LCallgate$Caller;", .methodLink RX4 42 yX4_needCall, .instanceMethod yX4_needCall, .selects RX4 yX4_needCall yX4_needCall, .initialized RX4, .code yX4_needCall cX4_needCall 2 none, .classLink RX4 204 "java/lang/IndexOutOfBoundsException", .initialized "java/lang/IndexOutOfBoundsException", .fieldLink RX4 10 "Callgate" "book" "LCallgate$Book;", .instanceMethod yX0_has, .initialized RX0, .selects RX0 yX0_has yX0_has, .code yX0_has cX0_has 2 (some .boolean), .fieldLink RX0 21 "Callgate$Book" "size" "I"] ++ wsX40 ++ wsX10 ++ wsX00 ++ (vx_atS RX4 208 "java/lang/IndexOutOfBoundsException" ["java/lang/RuntimeException", "java/lang/Exception"]).filter goodWord)
def wsX4_tokens : List Cond := .code yX4_tokens cX4_tokens 1 (some .int) :: ([.fieldLink RX4 31 "Callgate" "caller" "LCallgate$Caller;"] ++ wsX40 ++ wsX10)
def wsX4_work_r1 : List Cond := [Cond.classLink RX4 64 "java/lang/IllegalStateException", Cond.initialized "java/lang/IllegalStateException", Cond.fieldLink RX4 38 "Callgate" "server" "LCallgate$Server;", Cond.methodLink RX4 42 yX4_needCall, Cond.instanceMethod yX4_needCall, Cond.selects RX4 yX4_needCall yX4_needCall, Cond.initialized RX4, Cond.code yX4_needCall cX4_needCall 2 none, Cond.classLink RX4 204 "java/lang/IndexOutOfBoundsException", Cond.initialized "java/lang/IndexOutOfBoundsException", Cond.fieldLink RX4 10 "Callgate" "book" "LCallgate$Book;", Cond.instanceMethod yX0_has, Cond.initialized RX0, Cond.selects RX0 yX0_has yX0_has, Cond.code yX0_has cX0_has 2 (some .boolean), Cond.fieldLink RX0 21 "Callgate$Book" "size" "I", Cond.instanceMethod yX3_isItemNext, Cond.initialized RX3, Cond.selects RX3 yX3_isItemNext yX3_isItemNext, Cond.code yX3_isItemNext cX3_isItemNext 2 (some .boolean), Cond.fieldLink RX3 27 "Callgate$Server" "book" "LCallgate$Book;", Cond.fieldLink RX3 18 "Callgate$Server" "itemsSent" "[I", Cond.instanceMethod yX3_step, Cond.selects RX3 yX3_step yX3_step]
def wsX4_work_r2 : List Cond := [Cond.code yX3_step cX3_step 2 none, Cond.methodLink RX3 56 yX3_isItemNext, Cond.methodLink RX3 60 yX3_sendItem, Cond.instanceMethod yX3_sendItem, Cond.selects RX3 yX3_sendItem yX3_sendItem, Cond.code yX3_sendItem cX3_sendItem 3 none, Cond.fieldLink RX3 31 "Callgate$Server" "toCaller" "LCallgate$Lane;", Cond.fieldLink RX3 15 "Callgate$Server" "creditsLeft" "[I", Cond.instanceMethod yX2_send, Cond.initialized RX2, Cond.selects RX2 yX2_send yX2_send, Cond.code yX2_send cX2_send 6 none, Cond.fieldLink RX2 24 "Callgate$Lane" "size" "I", Cond.fieldLink RX2 9 "Callgate$Lane" "kinds" "[I", Cond.fieldLink RX2 15 "Callgate$Lane" "owners" "[I", Cond.fieldLink RX2 18 "Callgate$Lane" "marks" "[I", Cond.fieldLink RX2 21 "Callgate$Lane" "values" "[I", Cond.methodLink RX2 37 yX2_slotOf, Cond.instanceMethod yX2_slotOf, Cond.selects RX2 yX2_slotOf yX2_slotOf, Cond.code yX2_slotOf cX2_slotOf 2 (some .int), Cond.fieldLink RX2 28 "Callgate$Lane" "first" "I", Cond.methodLink RX2 31 yJ9_floorMod_7cf53, Cond.static yJ9_floorMod_7cf53]
def wsX4_work_r3 : List Cond := [Cond.initialized RJ9, Cond.code yJ9_floorMod_7cf53 cJ9_floorMod_7cf53 3 (some .int), Cond.methodLink RX3 63 yX3_perform, Cond.instanceMethod yX3_perform, Cond.selects RX3 yX3_perform yX3_perform, Cond.code yX3_perform cX3_perform 4 none, Cond.fieldLink RX3 82 "Callgate$Server" "added" "I", Cond.fieldLink RX3 21 "Callgate$Server" "results" "[I", Cond.fieldLink RX3 24 "Callgate$Server" "values" "[I", Cond.fieldLink RX3 9 "Callgate$Server" "states" "[I", Cond.methodLink RX3 78 yX3_answerOf, Cond.instanceMethod yX3_answerOf, Cond.selects RX3 yX3_answerOf yX3_answerOf, Cond.code yX3_answerOf cX3_answerOf 3 (some .int), Cond.methodLink RX3 85 Lib.Math.max.name, Cond.static Lib.Math.max.name, Cond.initialized "java/lang/Math", Cond.code Lib.Math.max.name Lib.Math.max.code 2 (some .int), Cond.methodLink RX3 43 yX3_sendAnswer, Cond.instanceMethod yX3_sendAnswer, Cond.selects RX3 yX3_sendAnswer yX3_sendAnswer, Cond.code yX3_sendAnswer cX3_sendAnswer 2 none]
def wsX4_work : List Cond := .code yX4_work cX4_work 2 (some .int) :: ((wsX4_work_r1 ++ (wsX4_work_r2 ++ wsX4_work_r3)) ++ wsX40 ++ wsX30 ++ wsX00 ++ wsX20 ++ (vx_atS RX4 68 "java/lang/IllegalStateException" ["java/lang/RuntimeException", "java/lang/Exception"]).filter goodWord ++ (vx_atS RX4 208 "java/lang/IndexOutOfBoundsException" ["java/lang/RuntimeException", "java/lang/Exception"]).filter goodWord)
def wsX4_task : List Cond := .code yX4_task cX4_task 2 (some .int) :: ([.fieldLink RX4 38 "Callgate" "server" "LCallgate$Server;", .methodLink RX4 42 yX4_needCall, .instanceMethod yX4_needCall, .selects RX4 yX4_needCall yX4_needCall, .initialized RX4, .code yX4_needCall cX4_needCall 2 none, .classLink RX4 204 "java/lang/IndexOutOfBoundsException", .initialized "java/lang/IndexOutOfBoundsException", .fieldLink RX4 10 "Callgate" "book" "LCallgate$Book;", .instanceMethod yX0_has, .initialized RX0, .selects RX0 yX0_has yX0_has, .code yX0_has cX0_has 2 (some .boolean), .fieldLink RX0 21 "Callgate$Book" "size" "I"] ++ wsX40 ++ wsX30 ++ wsX00 ++ (vx_atS RX4 208 "java/lang/IndexOutOfBoundsException" ["java/lang/RuntimeException", "java/lang/Exception"]).filter goodWord)
def wsX4_credits : List Cond := .code yX4_credits cX4_credits 2 (some .int) :: ([.fieldLink RX4 38 "Callgate" "server" "LCallgate$Server;", .methodLink RX4 42 yX4_needCall, .instanceMethod yX4_needCall, .selects RX4 yX4_needCall yX4_needCall, .initialized RX4, .code yX4_needCall cX4_needCall 2 none, .classLink RX4 204 "java/lang/IndexOutOfBoundsException", .initialized "java/lang/IndexOutOfBoundsException", .fieldLink RX4 10 "Callgate" "book" "LCallgate$Book;", .instanceMethod yX0_has, .initialized RX0, .selects RX0 yX0_has yX0_has, .code yX0_has cX0_has 2 (some .boolean), .fieldLink RX0 21 "Callgate$Book" "size" "I"] ++ wsX40 ++ wsX30 ++ wsX00 ++ (vx_atS RX4 208 "java/lang/IndexOutOfBoundsException" ["java/lang/RuntimeException", "java/lang/Exception"]).filter goodWord)
def wsX4_total : List Cond := .code yX4_total cX4_total 1 (some .int) :: ([.fieldLink RX4 38 "Callgate" "server" "LCallgate$Server;"] ++ wsX40 ++ wsX30)
def wsX4_local : List Cond := .code yX4_local cX4_local 3 (some .int) :: ([.classLink RX4 64 "java/lang/IllegalStateException", .initialized "java/lang/IllegalStateException", .fieldLink RX4 38 "Callgate" "server" "LCallgate$Server;", .methodLink RX4 46 yX4_needMethodAndArgument, .static yX4_needMethodAndArgument, .initialized RX4, .code yX4_needMethodAndArgument cX4_needMethodAndArgument 2 none, .classLink RX4 50 "java/lang/IllegalArgumentException", .initialized "java/lang/IllegalArgumentException", .instanceMethod yX3_answerOf, .initialized RX3, .selects RX3 yX3_answerOf yX3_answerOf, .code yX3_answerOf cX3_answerOf 3 (some .int), .fieldLink RX3 82 "Callgate$Server" "added" "I", .methodLink RX3 85 Lib.Math.max.name, .static Lib.Math.max.name, .initialized "java/lang/Math", .code Lib.Math.max.name Lib.Math.max.code 2 (some .int)] ++ wsX40 ++ wsX30 ++ (vx_atS RX4 68 "java/lang/IllegalStateException" ["java/lang/RuntimeException", "java/lang/Exception"]).filter goodWord ++ (vx_atS RX4 54 "java/lang/IllegalArgumentException" ["java/lang/RuntimeException", "java/lang/Exception"]).filter goodWord)
def wsX4_needDirection : List Cond := .code yX4_needDirection cX4_needDirection 1 none :: ([.classLink RX4 50 "java/lang/IllegalArgumentException", .initialized "java/lang/IllegalArgumentException"] ++ (vx_atS RX4 54 "java/lang/IllegalArgumentException" ["java/lang/RuntimeException", "java/lang/Exception"]).filter goodWord)
def wsX4_laneOf : List Cond := .code yX4_laneOf cX4_laneOf 2 (some (.object "Callgate$Lane")) :: ([.fieldLink RX4 19 "Callgate" "toServer" "LCallgate$Lane;", .fieldLink RX4 23 "Callgate" "toCaller" "LCallgate$Lane;"] ++ wsX40)
def wsX4_needAnyFrame : List Cond := .code yX4_needAnyFrame cX4_needAnyFrame 1 none :: ([.classLink RX4 64 "java/lang/IllegalStateException", .initialized "java/lang/IllegalStateException", .instanceMethod yX2_has, .initialized RX2, .selects RX2 yX2_has yX2_has, .code yX2_has cX2_has 2 (some .boolean), .fieldLink RX2 24 "Callgate$Lane" "size" "I"] ++ wsX20 ++ (vx_atS RX4 68 "java/lang/IllegalStateException" ["java/lang/RuntimeException", "java/lang/Exception"]).filter goodWord)
def wsX4_deliver_r1 : List Cond := [Cond.fieldLink RX4 10 "Callgate" "book" "LCallgate$Book;", Cond.fieldLink RX4 38 "Callgate" "server" "LCallgate$Server;", Cond.fieldLink RX4 69 "Callgate" "time" "I", Cond.fieldLink RX4 31 "Callgate" "caller" "LCallgate$Caller;", Cond.methodLink RX4 153 yX4_needDirection, Cond.static yX4_needDirection, Cond.initialized RX4, Cond.code yX4_needDirection cX4_needDirection 1 none, Cond.classLink RX4 50 "java/lang/IllegalArgumentException", Cond.initialized "java/lang/IllegalArgumentException", Cond.methodLink RX4 156 yX4_laneOf, Cond.instanceMethod yX4_laneOf, Cond.selects RX4 yX4_laneOf yX4_laneOf, Cond.code yX4_laneOf cX4_laneOf 2 (some (.object "Callgate$Lane")), Cond.fieldLink RX4 19 "Callgate" "toServer" "LCallgate$Lane;", Cond.fieldLink RX4 23 "Callgate" "toCaller" "LCallgate$Lane;", Cond.methodLink RX4 160 yX4_needAnyFrame, Cond.static yX4_needAnyFrame, Cond.code yX4_needAnyFrame cX4_needAnyFrame 1 none, Cond.classLink RX4 64 "java/lang/IllegalStateException", Cond.initialized "java/lang/IllegalStateException", Cond.instanceMethod yX2_has, Cond.initialized RX2, Cond.selects RX2 yX2_has yX2_has]
def wsX4_deliver_r2 : List Cond := [Cond.code yX2_has cX2_has 2 (some .boolean), Cond.fieldLink RX2 24 "Callgate$Lane" "size" "I", Cond.instanceMethod yX2_slotOf, Cond.selects RX2 yX2_slotOf yX2_slotOf, Cond.code yX2_slotOf cX2_slotOf 2 (some .int), Cond.fieldLink RX2 28 "Callgate$Lane" "first" "I", Cond.methodLink RX2 31 yJ9_floorMod_7cf53, Cond.static yJ9_floorMod_7cf53, Cond.initialized RJ9, Cond.code yJ9_floorMod_7cf53 cJ9_floorMod_7cf53 3 (some .int), Cond.instanceMethod yX2_removeFirst, Cond.selects RX2 yX2_removeFirst yX2_removeFirst, Cond.code yX2_removeFirst cX2_removeFirst 1 none, Cond.methodLink RX2 37 yX2_slotOf, Cond.instanceMethod yX0_has, Cond.initialized RX0, Cond.selects RX0 yX0_has yX0_has, Cond.code yX0_has cX0_has 2 (some .boolean), Cond.fieldLink RX0 21 "Callgate$Book" "size" "I", Cond.instanceMethod yX3_take, Cond.initialized RX3, Cond.selects RX3 yX3_take yX3_take, Cond.code yX3_take cX3_take 5 none, Cond.fieldLink RX3 9 "Callgate$Server" "states" "[I"]
def wsX4_deliver_r3 : List Cond := [Cond.fieldLink RX3 15 "Callgate$Server" "creditsLeft" "[I", Cond.methodLink RX3 35 yX3_takeRequest, Cond.instanceMethod yX3_takeRequest, Cond.selects RX3 yX3_takeRequest yX3_takeRequest, Cond.code yX3_takeRequest cX3_takeRequest 3 none, Cond.fieldLink RX3 27 "Callgate$Server" "book" "LCallgate$Book;", Cond.methodLink RX3 43 yX3_sendAnswer, Cond.instanceMethod yX3_sendAnswer, Cond.selects RX3 yX3_sendAnswer yX3_sendAnswer, Cond.code yX3_sendAnswer cX3_sendAnswer 2 none, Cond.fieldLink RX3 31 "Callgate$Server" "toCaller" "LCallgate$Lane;", Cond.fieldLink RX3 21 "Callgate$Server" "results" "[I", Cond.fieldLink RX3 24 "Callgate$Server" "values" "[I", Cond.instanceMethod yX2_send, Cond.selects RX2 yX2_send yX2_send, Cond.code yX2_send cX2_send 6 none, Cond.fieldLink RX2 9 "Callgate$Lane" "kinds" "[I", Cond.fieldLink RX2 15 "Callgate$Lane" "owners" "[I", Cond.fieldLink RX2 18 "Callgate$Lane" "marks" "[I", Cond.fieldLink RX2 21 "Callgate$Lane" "values" "[I", Cond.instanceMethod yX0_isDue, Cond.selects RX0 yX0_isDue yX0_isDue, Cond.code yX0_isDue cX0_isDue 3 (some .boolean), Cond.fieldLink RX0 18 "Callgate$Book" "deadlines" "[I"]
def wsX4_deliver_r4 : List Cond := [Cond.methodLink RX3 39 yX3_takeCancellation, Cond.instanceMethod yX3_takeCancellation, Cond.selects RX3 yX3_takeCancellation yX3_takeCancellation, Cond.code yX3_takeCancellation cX3_takeCancellation 2 none, Cond.instanceMethod yX1_take, Cond.initialized RX1, Cond.selects RX1 yX1_take yX1_take, Cond.code yX1_take cX1_take 5 none, Cond.fieldLink RX1 15 "Callgate$Caller" "outcomes" "[I", Cond.methodLink RX1 71 yX1_takeAnswer, Cond.instanceMethod yX1_takeAnswer, Cond.selects RX1 yX1_takeAnswer yX1_takeAnswer, Cond.code yX1_takeAnswer cX1_takeAnswer 4 none, Cond.fieldLink RX1 37 "Callgate$Caller" "book" "LCallgate$Book;", Cond.fieldLink RX1 27 "Callgate$Caller" "itemsReceived" "[I", Cond.fieldLink RX1 18 "Callgate$Caller" "values" "[I", Cond.fieldLink RX1 33 "Callgate$Caller" "budget" "I", Cond.methodLink RX1 85 Lib.Math.min.name, Cond.static Lib.Math.min.name, Cond.initialized "java/lang/Math", Cond.code Lib.Math.min.name Lib.Math.min.code 2 (some .int), Cond.methodLink RX1 81 yX1_endSilently, Cond.instanceMethod yX1_endSilently, Cond.selects RX1 yX1_endSilently yX1_endSilently]
def wsX4_deliver_r5 : List Cond := [Cond.code yX1_endSilently cX1_endSilently 3 (some .int), Cond.methodLink RX1 55 yX1_cancelOrphans, Cond.instanceMethod yX1_cancelOrphans, Cond.selects RX1 yX1_cancelOrphans yX1_cancelOrphans, Cond.code yX1_cancelOrphans cX1_cancelOrphans 4 (some .int), Cond.fieldLink RX1 41 "Callgate$Caller" "toServer" "LCallgate$Lane;", Cond.methodLink RX1 64 yX1_hasEndedParent, Cond.instanceMethod yX1_hasEndedParent, Cond.selects RX1 yX1_hasEndedParent yX1_hasEndedParent, Cond.code yX1_hasEndedParent cX1_hasEndedParent 3 (some .boolean), Cond.fieldLink RX1 9 "Callgate$Caller" "parents" "[I", Cond.methodLink RX1 75 yX1_takeItem, Cond.instanceMethod yX1_takeItem, Cond.selects RX1 yX1_takeItem yX1_takeItem, Cond.code yX1_takeItem cX1_takeItem 4 none, Cond.fieldLink RX1 30 "Callgate$Caller" "sums" "[I", Cond.methodLink RX1 90 yX1_endAndTell, Cond.instanceMethod yX1_endAndTell, Cond.selects RX1 yX1_endAndTell yX1_endAndTell, Cond.code yX1_endAndTell cX1_endAndTell 3 (some .int)]
def wsX4_deliver : List Cond := .code yX4_deliver cX4_deliver 8 (some .int) :: ((wsX4_deliver_r1 ++ (wsX4_deliver_r2 ++ (wsX4_deliver_r3 ++ (wsX4_deliver_r4 ++ wsX4_deliver_r5)))) ++ wsX20 ++ wsX40 ++ wsX00 ++ wsX30 ++ wsX10 ++ (vx_atS RX4 54 "java/lang/IllegalArgumentException" ["java/lang/RuntimeException", "java/lang/Exception"]).filter goodWord ++ (vx_atS RX4 68 "java/lang/IllegalStateException" ["java/lang/RuntimeException", "java/lang/Exception"]).filter goodWord)
def wsX4_lose_r1 : List Cond := [Cond.methodLink RX4 153 yX4_needDirection, Cond.static yX4_needDirection, Cond.initialized RX4, Cond.code yX4_needDirection cX4_needDirection 1 none, Cond.classLink RX4 50 "java/lang/IllegalArgumentException", Cond.initialized "java/lang/IllegalArgumentException", Cond.methodLink RX4 156 yX4_laneOf, Cond.instanceMethod yX4_laneOf, Cond.selects RX4 yX4_laneOf yX4_laneOf, Cond.code yX4_laneOf cX4_laneOf 2 (some (.object "Callgate$Lane")), Cond.fieldLink RX4 19 "Callgate" "toServer" "LCallgate$Lane;", Cond.fieldLink RX4 23 "Callgate" "toCaller" "LCallgate$Lane;", Cond.methodLink RX4 160 yX4_needAnyFrame, Cond.static yX4_needAnyFrame, Cond.code yX4_needAnyFrame cX4_needAnyFrame 1 none, Cond.classLink RX4 64 "java/lang/IllegalStateException", Cond.initialized "java/lang/IllegalStateException", Cond.instanceMethod yX2_has, Cond.initialized RX2, Cond.selects RX2 yX2_has yX2_has, Cond.code yX2_has cX2_has 2 (some .boolean), Cond.fieldLink RX2 24 "Callgate$Lane" "size" "I", Cond.instanceMethod yX2_slotOf, Cond.selects RX2 yX2_slotOf yX2_slotOf]
def wsX4_lose_r2 : List Cond := [Cond.code yX2_slotOf cX2_slotOf 2 (some .int), Cond.fieldLink RX2 28 "Callgate$Lane" "first" "I", Cond.methodLink RX2 31 yJ9_floorMod_7cf53, Cond.static yJ9_floorMod_7cf53, Cond.initialized RJ9, Cond.code yJ9_floorMod_7cf53 cJ9_floorMod_7cf53 3 (some .int), Cond.instanceMethod yX2_removeFirst, Cond.selects RX2 yX2_removeFirst yX2_removeFirst, Cond.code yX2_removeFirst cX2_removeFirst 1 none, Cond.methodLink RX2 37 yX2_slotOf]
def wsX4_lose : List Cond := .code yX4_lose cX4_lose 4 (some .int) :: ((wsX4_lose_r1 ++ wsX4_lose_r2) ++ wsX20 ++ wsX40 ++ (vx_atS RX4 54 "java/lang/IllegalArgumentException" ["java/lang/RuntimeException", "java/lang/Exception"]).filter goodWord ++ (vx_atS RX4 68 "java/lang/IllegalStateException" ["java/lang/RuntimeException", "java/lang/Exception"]).filter goodWord)
def wsX4_frames : List Cond := .code yX4_frames cX4_frames 2 (some .int) :: ([.methodLink RX4 153 yX4_needDirection, .static yX4_needDirection, .initialized RX4, .code yX4_needDirection cX4_needDirection 1 none, .classLink RX4 50 "java/lang/IllegalArgumentException", .initialized "java/lang/IllegalArgumentException", .methodLink RX4 156 yX4_laneOf, .instanceMethod yX4_laneOf, .selects RX4 yX4_laneOf yX4_laneOf, .code yX4_laneOf cX4_laneOf 2 (some (.object "Callgate$Lane")), .fieldLink RX4 19 "Callgate" "toServer" "LCallgate$Lane;", .fieldLink RX4 23 "Callgate" "toCaller" "LCallgate$Lane;"] ++ wsX20 ++ wsX40 ++ (vx_atS RX4 54 "java/lang/IllegalArgumentException" ["java/lang/RuntimeException", "java/lang/Exception"]).filter goodWord)
def wsX4_pass_r1 : List Cond := [Cond.classLink RX4 50 "java/lang/IllegalArgumentException", Cond.initialized "java/lang/IllegalArgumentException", Cond.fieldLink RX4 69 "Callgate" "time" "I", Cond.fieldLink RX4 31 "Callgate" "caller" "LCallgate$Caller;", Cond.fieldLink RX4 38 "Callgate" "server" "LCallgate$Server;", Cond.instanceMethod yX1_endDueCalls, Cond.initialized RX1, Cond.selects RX1 yX1_endDueCalls yX1_endDueCalls, Cond.code yX1_endDueCalls cX1_endDueCalls 4 (some .int), Cond.fieldLink RX1 37 "Callgate$Caller" "book" "LCallgate$Book;", Cond.fieldLink RX1 15 "Callgate$Caller" "outcomes" "[I", Cond.instanceMethod yX0_isDue, Cond.initialized RX0, Cond.selects RX0 yX0_isDue yX0_isDue, Cond.code yX0_isDue cX0_isDue 3 (some .boolean), Cond.fieldLink RX0 18 "Callgate$Book" "deadlines" "[I", Cond.methodLink RX1 81 yX1_endSilently, Cond.instanceMethod yX1_endSilently, Cond.selects RX1 yX1_endSilently yX1_endSilently, Cond.code yX1_endSilently cX1_endSilently 3 (some .int), Cond.methodLink RX1 55 yX1_cancelOrphans, Cond.instanceMethod yX1_cancelOrphans, Cond.selects RX1 yX1_cancelOrphans yX1_cancelOrphans, Cond.code yX1_cancelOrphans cX1_cancelOrphans 4 (some .int)]
def wsX4_pass_r2 : List Cond := [Cond.fieldLink RX1 41 "Callgate$Caller" "toServer" "LCallgate$Lane;", Cond.methodLink RX1 64 yX1_hasEndedParent, Cond.instanceMethod yX1_hasEndedParent, Cond.selects RX1 yX1_hasEndedParent yX1_hasEndedParent, Cond.code yX1_hasEndedParent cX1_hasEndedParent 3 (some .boolean), Cond.fieldLink RX1 9 "Callgate$Caller" "parents" "[I", Cond.instanceMethod yX0_has, Cond.selects RX0 yX0_has yX0_has, Cond.code yX0_has cX0_has 2 (some .boolean), Cond.fieldLink RX0 21 "Callgate$Book" "size" "I", Cond.instanceMethod yX2_send, Cond.initialized RX2, Cond.selects RX2 yX2_send yX2_send, Cond.code yX2_send cX2_send 6 none, Cond.fieldLink RX2 24 "Callgate$Lane" "size" "I", Cond.fieldLink RX2 9 "Callgate$Lane" "kinds" "[I", Cond.fieldLink RX2 15 "Callgate$Lane" "owners" "[I", Cond.fieldLink RX2 18 "Callgate$Lane" "marks" "[I", Cond.fieldLink RX2 21 "Callgate$Lane" "values" "[I", Cond.methodLink RX2 37 yX2_slotOf, Cond.instanceMethod yX2_slotOf, Cond.selects RX2 yX2_slotOf yX2_slotOf, Cond.code yX2_slotOf cX2_slotOf 2 (some .int), Cond.fieldLink RX2 28 "Callgate$Lane" "first" "I"]
def wsX4_pass_r3 : List Cond := [Cond.methodLink RX2 31 yJ9_floorMod_7cf53, Cond.static yJ9_floorMod_7cf53, Cond.initialized RJ9, Cond.code yJ9_floorMod_7cf53 cJ9_floorMod_7cf53 3 (some .int), Cond.instanceMethod yX3_closeDueTasks, Cond.initialized RX3, Cond.selects RX3 yX3_closeDueTasks yX3_closeDueTasks, Cond.code yX3_closeDueTasks cX3_closeDueTasks 3 none, Cond.fieldLink RX3 27 "Callgate$Server" "book" "LCallgate$Book;", Cond.fieldLink RX3 9 "Callgate$Server" "states" "[I", Cond.instanceMethod yX1_repeatRequests, Cond.selects RX1 yX1_repeatRequests yX1_repeatRequests, Cond.code yX1_repeatRequests cX1_repeatRequests 3 none, Cond.fieldLink RX1 33 "Callgate$Caller" "budget" "I", Cond.methodLink RX1 97 yX1_isRepeatDue, Cond.instanceMethod yX1_isRepeatDue, Cond.selects RX1 yX1_isRepeatDue yX1_isRepeatDue, Cond.code yX1_isRepeatDue cX1_isRepeatDue 3 (some .boolean), Cond.fieldLink RX1 27 "Callgate$Caller" "itemsReceived" "[I", Cond.fieldLink RX1 21 "Callgate$Caller" "requestsSent" "[I", Cond.fieldLink RX1 24 "Callgate$Caller" "latestRequest" "[I", Cond.methodLink RX1 45 yX1_sendRequest, Cond.instanceMethod yX1_sendRequest, Cond.selects RX1 yX1_sendRequest yX1_sendRequest]
def wsX4_pass_r4 : List Cond := [Cond.code yX1_sendRequest cX1_sendRequest 3 none]
def wsX4_pass : List Cond := .code yX4_pass cX4_pass 4 (some .int) :: ((wsX4_pass_r1 ++ (wsX4_pass_r2 ++ (wsX4_pass_r3 ++ wsX4_pass_r4))) ++ wsX40 ++ wsX10 ++ wsX00 ++ wsX20 ++ wsX30 ++ (vx_atS RX4 54 "java/lang/IllegalArgumentException" ["java/lang/RuntimeException", "java/lang/Exception"]).filter goodWord)
def wsX4_now : List Cond := .code yX4_now cX4_now 1 (some .int) :: ([.fieldLink RX4 69 "Callgate" "time" "I"] ++ wsX40)
def wsJ9_max_7cf53 : List Cond := .code yJ9_max_7cf53 cJ9_max_7cf53 2 (some .int) :: ([])
def wsJ9_min_7cf53 : List Cond := .code yJ9_min_7cf53 cJ9_min_7cf53 2 (some .int) :: ([])
def wsL_cell : List Cond := .code yL_cell cL_cell 2 (some .int) :: ([])
def wsL_low : List Cond := .code yL_low cL_low 2 (some .int) :: ([.constant RL 7 (2147483647)])
def wsL_isCall_r1 : List Cond := [Cond.methodLink RL 8 yX4_outcome, Cond.instanceMethod yX4_outcome, Cond.selects RX4 yX4_outcome yX4_outcome, Cond.initialized RX4, Cond.code yX4_outcome cX4_outcome 2 (some .int), Cond.fieldLink RX4 31 "Callgate" "caller" "LCallgate$Caller;", Cond.methodLink RX4 42 yX4_needCall, Cond.instanceMethod yX4_needCall, Cond.selects RX4 yX4_needCall yX4_needCall, Cond.code yX4_needCall cX4_needCall 2 none, Cond.classLink RX4 204 "java/lang/IndexOutOfBoundsException", Cond.initialized "java/lang/IndexOutOfBoundsException", Cond.fieldLink RX4 10 "Callgate" "book" "LCallgate$Book;", Cond.instanceMethod yX0_has, Cond.initialized RX0, Cond.selects RX0 yX0_has yX0_has, Cond.code yX0_has cX0_has 2 (some .boolean), Cond.fieldLink RX0 21 "Callgate$Book" "size" "I", Cond.methodLink RL 14 yX4_received, Cond.instanceMethod yX4_received, Cond.selects RX4 yX4_received yX4_received, Cond.code yX4_received cX4_received 2 (some .int), Cond.methodLink RL 17 yX4_now, Cond.instanceMethod yX4_now]
def wsL_isCall_r2 : List Cond := [Cond.selects RX4 yX4_now yX4_now, Cond.code yX4_now cX4_now 1 (some .int), Cond.fieldLink RX4 69 "Callgate" "time" "I", Cond.methodLink RL 21 yX4_deadline, Cond.instanceMethod yX4_deadline, Cond.selects RX4 yX4_deadline yX4_deadline, Cond.code yX4_deadline cX4_deadline 2 (some .int), Cond.methodLink RL 24 yX4_task, Cond.instanceMethod yX4_task, Cond.selects RX4 yX4_task yX4_task, Cond.code yX4_task cX4_task 2 (some .int), Cond.fieldLink RX4 38 "Callgate" "server" "LCallgate$Server;", Cond.methodLink RL 27 yX4_sum, Cond.instanceMethod yX4_sum, Cond.selects RX4 yX4_sum yX4_sum, Cond.code yX4_sum cX4_sum 2 (some .int), Cond.methodLink RL 30 yX4_value, Cond.instanceMethod yX4_value, Cond.selects RX4 yX4_value yX4_value, Cond.code yX4_value cX4_value 2 (some .int), Cond.classLink RX4 64 "java/lang/IllegalStateException", Cond.initialized "java/lang/IllegalStateException", Cond.methodLink RL 33 yX4_attempts, Cond.instanceMethod yX4_attempts]
def wsL_isCall_r3 : List Cond := [Cond.selects RX4 yX4_attempts yX4_attempts, Cond.code yX4_attempts cX4_attempts 2 (some .int)]
def wsL_isCall : List Cond := .code yL_isCall cL_isCall 17 (some .boolean) :: ((wsL_isCall_r1 ++ (wsL_isCall_r2 ++ wsL_isCall_r3)) ++ wsX40 ++ wsX10 ++ wsX00 ++ wsX30 ++ (vx_atS RX4 208 "java/lang/IndexOutOfBoundsException" ["java/lang/RuntimeException", "java/lang/Exception"]).filter goodWord ++ (vx_atS RX4 68 "java/lang/IllegalStateException" ["java/lang/RuntimeException", "java/lang/Exception"]).filter goodWord)
def wsL_isTotal_r1 : List Cond := [Cond.methodLink RL 36 yX4_calls, Cond.instanceMethod yX4_calls, Cond.selects RX4 yX4_calls yX4_calls, Cond.initialized RX4, Cond.code yX4_calls cX4_calls 1 (some .int), Cond.fieldLink RX4 10 "Callgate" "book" "LCallgate$Book;", Cond.methodLink RL 24 yX4_task, Cond.instanceMethod yX4_task, Cond.selects RX4 yX4_task yX4_task, Cond.code yX4_task cX4_task 2 (some .int), Cond.fieldLink RX4 38 "Callgate" "server" "LCallgate$Server;", Cond.methodLink RX4 42 yX4_needCall, Cond.instanceMethod yX4_needCall, Cond.selects RX4 yX4_needCall yX4_needCall, Cond.code yX4_needCall cX4_needCall 2 none, Cond.classLink RX4 204 "java/lang/IndexOutOfBoundsException", Cond.initialized "java/lang/IndexOutOfBoundsException", Cond.instanceMethod yX0_has, Cond.initialized RX0, Cond.selects RX0 yX0_has yX0_has, Cond.code yX0_has cX0_has 2 (some .boolean), Cond.fieldLink RX0 21 "Callgate$Book" "size" "I", Cond.methodLink RL 33 yX4_attempts, Cond.instanceMethod yX4_attempts]
def wsL_isTotal_r2 : List Cond := [Cond.selects RX4 yX4_attempts yX4_attempts, Cond.code yX4_attempts cX4_attempts 2 (some .int), Cond.fieldLink RX4 31 "Callgate" "caller" "LCallgate$Caller;", Cond.methodLink RL 8 yX4_outcome, Cond.instanceMethod yX4_outcome, Cond.selects RX4 yX4_outcome yX4_outcome, Cond.code yX4_outcome cX4_outcome 2 (some .int), Cond.methodLink RL 39 yX4_tokens, Cond.instanceMethod yX4_tokens, Cond.selects RX4 yX4_tokens yX4_tokens, Cond.code yX4_tokens cX4_tokens 1 (some .int), Cond.methodLink RL 42 yX4_total, Cond.instanceMethod yX4_total, Cond.selects RX4 yX4_total yX4_total, Cond.code yX4_total cX4_total 1 (some .int), Cond.methodLink RL 45 yX4_local, Cond.instanceMethod yX4_local, Cond.selects RX4 yX4_local yX4_local, Cond.code yX4_local cX4_local 3 (some .int), Cond.classLink RX4 64 "java/lang/IllegalStateException", Cond.initialized "java/lang/IllegalStateException", Cond.methodLink RX4 46 yX4_needMethodAndArgument, Cond.static yX4_needMethodAndArgument, Cond.code yX4_needMethodAndArgument cX4_needMethodAndArgument 2 none]
def wsL_isTotal_r3 : List Cond := [Cond.classLink RX4 50 "java/lang/IllegalArgumentException", Cond.initialized "java/lang/IllegalArgumentException", Cond.instanceMethod yX3_answerOf, Cond.initialized RX3, Cond.selects RX3 yX3_answerOf yX3_answerOf, Cond.code yX3_answerOf cX3_answerOf 3 (some .int), Cond.fieldLink RX3 82 "Callgate$Server" "added" "I", Cond.methodLink RX3 85 Lib.Math.max.name, Cond.static Lib.Math.max.name, Cond.initialized "java/lang/Math", Cond.code Lib.Math.max.name Lib.Math.max.code 2 (some .int)]
def wsL_isTotal : List Cond := .code yL_isTotal cL_isTotal 8 (some .boolean) :: ((wsL_isTotal_r1 ++ (wsL_isTotal_r2 ++ wsL_isTotal_r3)) ++ wsX40 ++ wsX00 ++ wsX30 ++ wsX10 ++ (vx_atS RX4 208 "java/lang/IndexOutOfBoundsException" ["java/lang/RuntimeException", "java/lang/Exception"]).filter goodWord ++ (vx_atS RX4 68 "java/lang/IllegalStateException" ["java/lang/RuntimeException", "java/lang/Exception"]).filter goodWord ++ (vx_atS RX4 54 "java/lang/IllegalArgumentException" ["java/lang/RuntimeException", "java/lang/Exception"]).filter goodWord)
def wsL_law0_r1 : List Cond := [Cond.classLink RL 9 RX4, Cond.instantiable RX4 6, Cond.initialized RX4, Cond.arrayClass .int, Cond.methodLink RL 49 yX4_init, Cond.instanceMethod yX4_init, Cond.code yX4_init cX4_init 1 none, Cond.methodLink RX4 1 objectInit, Cond.instanceMethod objectInit, Cond.code objectInit ⟨#[0xb1]⟩ 1 none, Cond.classLink RX4 7 RX0, Cond.instantiable RX0 4, Cond.initialized RX0, Cond.fieldLink RX4 10 "Callgate" "book" "LCallgate$Book;", Cond.classLink RX4 16 RX2, Cond.instantiable RX2 6, Cond.initialized RX2, Cond.fieldLink RX4 19 "Callgate" "toServer" "LCallgate$Lane;", Cond.fieldLink RX4 23 "Callgate" "toCaller" "LCallgate$Lane;", Cond.classLink RX4 26 RX1, Cond.instantiable RX1 10, Cond.initialized RX1, Cond.fieldLink RX4 31 "Callgate" "caller" "LCallgate$Caller;", Cond.classLink RX4 35 RX3]
def wsL_law0_r2 : List Cond := [Cond.instantiable RX3 8, Cond.initialized RX3, Cond.fieldLink RX4 38 "Callgate" "server" "LCallgate$Server;", Cond.instanceMethod yX0_init, Cond.code yX0_init cX0_init 1 none, Cond.methodLink RX0 3 objectInit, Cond.fieldLink RX0 9 "Callgate$Book" "methods" "[I", Cond.fieldLink RX0 15 "Callgate$Book" "arguments" "[I", Cond.fieldLink RX0 18 "Callgate$Book" "deadlines" "[I", Cond.instanceMethod yX2_init, Cond.code yX2_init cX2_init 1 none, Cond.methodLink RX2 3 objectInit, Cond.fieldLink RX2 9 "Callgate$Lane" "kinds" "[I", Cond.fieldLink RX2 15 "Callgate$Lane" "owners" "[I", Cond.fieldLink RX2 18 "Callgate$Lane" "marks" "[I", Cond.fieldLink RX2 21 "Callgate$Lane" "values" "[I", Cond.instanceMethod yX1_init, Cond.code yX1_init cX1_init 3 none, Cond.methodLink RX1 3 objectInit, Cond.fieldLink RX1 9 "Callgate$Caller" "parents" "[I", Cond.fieldLink RX1 15 "Callgate$Caller" "outcomes" "[I", Cond.fieldLink RX1 18 "Callgate$Caller" "values" "[I", Cond.fieldLink RX1 21 "Callgate$Caller" "requestsSent" "[I", Cond.fieldLink RX1 24 "Callgate$Caller" "latestRequest" "[I"]
def wsL_law0_r3 : List Cond := [Cond.fieldLink RX1 27 "Callgate$Caller" "itemsReceived" "[I", Cond.fieldLink RX1 30 "Callgate$Caller" "sums" "[I", Cond.fieldLink RX1 33 "Callgate$Caller" "budget" "I", Cond.fieldLink RX1 37 "Callgate$Caller" "book" "LCallgate$Book;", Cond.fieldLink RX1 41 "Callgate$Caller" "toServer" "LCallgate$Lane;", Cond.instanceMethod yX3_init, Cond.code yX3_init cX3_init 3 none, Cond.methodLink RX3 3 objectInit, Cond.fieldLink RX3 9 "Callgate$Server" "states" "[I", Cond.fieldLink RX3 15 "Callgate$Server" "creditsLeft" "[I", Cond.fieldLink RX3 18 "Callgate$Server" "itemsSent" "[I", Cond.fieldLink RX3 21 "Callgate$Server" "results" "[I", Cond.fieldLink RX3 24 "Callgate$Server" "values" "[I", Cond.fieldLink RX3 27 "Callgate$Server" "book" "LCallgate$Book;", Cond.fieldLink RX3 31 "Callgate$Server" "toCaller" "LCallgate$Lane;", Cond.methodLink RL 50 yL_cell, Cond.static yL_cell, Cond.initialized RL, Cond.code yL_cell cL_cell 2 (some .int), Cond.methodLink RL 56 yL_low, Cond.static yL_low, Cond.code yL_low cL_low 2 (some .int), Cond.constant RL 7 (2147483647), Cond.methodLink RL 36 yX4_calls]
def wsL_law0_r4 : List Cond := [Cond.instanceMethod yX4_calls, Cond.selects RX4 yX4_calls yX4_calls, Cond.code yX4_calls cX4_calls 1 (some .int), Cond.methodLink RL 8 yX4_outcome, Cond.instanceMethod yX4_outcome, Cond.selects RX4 yX4_outcome yX4_outcome, Cond.code yX4_outcome cX4_outcome 2 (some .int), Cond.methodLink RX4 42 yX4_needCall, Cond.instanceMethod yX4_needCall, Cond.selects RX4 yX4_needCall yX4_needCall, Cond.code yX4_needCall cX4_needCall 2 none, Cond.classLink RX4 204 "java/lang/IndexOutOfBoundsException", Cond.initialized "java/lang/IndexOutOfBoundsException", Cond.instanceMethod yX0_has, Cond.selects RX0 yX0_has yX0_has, Cond.code yX0_has cX0_has 2 (some .boolean), Cond.fieldLink RX0 21 "Callgate$Book" "size" "I", Cond.methodLink RL 59 yX4_open, Cond.instanceMethod yX4_open, Cond.selects RX4 yX4_open yX4_open, Cond.code yX4_open cX4_open 7 (some .int), Cond.classLink RX4 50 "java/lang/IllegalArgumentException", Cond.initialized "java/lang/IllegalArgumentException", Cond.classLink RX4 64 "java/lang/IllegalStateException"]
def wsL_law0_r5 : List Cond := [Cond.initialized "java/lang/IllegalStateException", Cond.fieldLink RX4 69 "Callgate" "time" "I", Cond.methodLink RX4 77 Lib.Math.min.name, Cond.static Lib.Math.min.name, Cond.initialized "java/lang/Math", Cond.code Lib.Math.min.name Lib.Math.min.code 2 (some .int), Cond.methodLink RX4 46 yX4_needMethodAndArgument, Cond.static yX4_needMethodAndArgument, Cond.code yX4_needMethodAndArgument cX4_needMethodAndArgument 2 none, Cond.methodLink RX4 57 yX4_needOpenCall, Cond.instanceMethod yX4_needOpenCall, Cond.selects RX4 yX4_needOpenCall yX4_needOpenCall, Cond.code yX4_needOpenCall cX4_needOpenCall 2 none, Cond.instanceMethod yX0_isFull, Cond.selects RX0 yX0_isFull yX0_isFull, Cond.code yX0_isFull cX0_isFull 1 (some .boolean), Cond.instanceMethod yX0_enter, Cond.selects RX0 yX0_enter yX0_enter, Cond.code yX0_enter cX0_enter 5 (some .int), Cond.instanceMethod yX1_begin, Cond.selects RX1 yX1_begin yX1_begin, Cond.code yX1_begin cX1_begin 4 none, Cond.methodLink RX1 45 yX1_sendRequest, Cond.instanceMethod yX1_sendRequest]
def wsL_law0_r6 : List Cond := [Cond.selects RX1 yX1_sendRequest yX1_sendRequest, Cond.code yX1_sendRequest cX1_sendRequest 3 none, Cond.instanceMethod yX2_send, Cond.selects RX2 yX2_send yX2_send, Cond.code yX2_send cX2_send 6 none, Cond.fieldLink RX2 24 "Callgate$Lane" "size" "I", Cond.methodLink RX2 37 yX2_slotOf, Cond.instanceMethod yX2_slotOf, Cond.selects RX2 yX2_slotOf yX2_slotOf, Cond.code yX2_slotOf cX2_slotOf 2 (some .int), Cond.fieldLink RX2 28 "Callgate$Lane" "first" "I", Cond.methodLink RX2 31 yJ9_floorMod_7cf53, Cond.static yJ9_floorMod_7cf53, Cond.initialized RJ9, Cond.code yJ9_floorMod_7cf53 cJ9_floorMod_7cf53 3 (some .int), Cond.methodLink RL 63 yX4_frames, Cond.instanceMethod yX4_frames, Cond.selects RX4 yX4_frames yX4_frames, Cond.code yX4_frames cX4_frames 2 (some .int), Cond.methodLink RX4 153 yX4_needDirection, Cond.static yX4_needDirection, Cond.code yX4_needDirection cX4_needDirection 1 none, Cond.methodLink RX4 156 yX4_laneOf, Cond.instanceMethod yX4_laneOf]
def wsL_law0_r7 : List Cond := [Cond.selects RX4 yX4_laneOf yX4_laneOf, Cond.code yX4_laneOf cX4_laneOf 2 (some (.object "Callgate$Lane")), Cond.methodLink RL 66 yX4_lose, Cond.instanceMethod yX4_lose, Cond.selects RX4 yX4_lose yX4_lose, Cond.code yX4_lose cX4_lose 4 (some .int), Cond.methodLink RX4 160 yX4_needAnyFrame, Cond.static yX4_needAnyFrame, Cond.code yX4_needAnyFrame cX4_needAnyFrame 1 none, Cond.instanceMethod yX2_has, Cond.selects RX2 yX2_has yX2_has, Cond.code yX2_has cX2_has 2 (some .boolean), Cond.instanceMethod yX2_removeFirst, Cond.selects RX2 yX2_removeFirst yX2_removeFirst, Cond.code yX2_removeFirst cX2_removeFirst 1 none, Cond.methodLink RL 69 yX4_deliver, Cond.instanceMethod yX4_deliver, Cond.selects RX4 yX4_deliver yX4_deliver, Cond.code yX4_deliver cX4_deliver 8 (some .int), Cond.instanceMethod yX3_take, Cond.selects RX3 yX3_take yX3_take, Cond.code yX3_take cX3_take 5 none, Cond.methodLink RX3 35 yX3_takeRequest, Cond.instanceMethod yX3_takeRequest]
def wsL_law0_r8 : List Cond := [Cond.selects RX3 yX3_takeRequest yX3_takeRequest, Cond.code yX3_takeRequest cX3_takeRequest 3 none, Cond.methodLink RX3 43 yX3_sendAnswer, Cond.instanceMethod yX3_sendAnswer, Cond.selects RX3 yX3_sendAnswer yX3_sendAnswer, Cond.code yX3_sendAnswer cX3_sendAnswer 2 none, Cond.instanceMethod yX0_isDue, Cond.selects RX0 yX0_isDue yX0_isDue, Cond.code yX0_isDue cX0_isDue 3 (some .boolean), Cond.methodLink RX3 39 yX3_takeCancellation, Cond.instanceMethod yX3_takeCancellation, Cond.selects RX3 yX3_takeCancellation yX3_takeCancellation, Cond.code yX3_takeCancellation cX3_takeCancellation 2 none, Cond.instanceMethod yX1_take, Cond.selects RX1 yX1_take yX1_take, Cond.code yX1_take cX1_take 5 none, Cond.methodLink RX1 71 yX1_takeAnswer, Cond.instanceMethod yX1_takeAnswer, Cond.selects RX1 yX1_takeAnswer yX1_takeAnswer, Cond.code yX1_takeAnswer cX1_takeAnswer 4 none, Cond.methodLink RX1 85 Lib.Math.min.name, Cond.methodLink RX1 81 yX1_endSilently, Cond.instanceMethod yX1_endSilently, Cond.selects RX1 yX1_endSilently yX1_endSilently]
def wsL_law0_r9 : List Cond := [Cond.code yX1_endSilently cX1_endSilently 3 (some .int), Cond.methodLink RX1 55 yX1_cancelOrphans, Cond.instanceMethod yX1_cancelOrphans, Cond.selects RX1 yX1_cancelOrphans yX1_cancelOrphans, Cond.code yX1_cancelOrphans cX1_cancelOrphans 4 (some .int), Cond.methodLink RX1 64 yX1_hasEndedParent, Cond.instanceMethod yX1_hasEndedParent, Cond.selects RX1 yX1_hasEndedParent yX1_hasEndedParent, Cond.code yX1_hasEndedParent cX1_hasEndedParent 3 (some .boolean), Cond.methodLink RX1 75 yX1_takeItem, Cond.instanceMethod yX1_takeItem, Cond.selects RX1 yX1_takeItem yX1_takeItem, Cond.code yX1_takeItem cX1_takeItem 4 none, Cond.methodLink RX1 90 yX1_endAndTell, Cond.instanceMethod yX1_endAndTell, Cond.selects RX1 yX1_endAndTell yX1_endAndTell, Cond.code yX1_endAndTell cX1_endAndTell 3 (some .int), Cond.methodLink RL 72 yX4_pass, Cond.instanceMethod yX4_pass, Cond.selects RX4 yX4_pass yX4_pass, Cond.code yX4_pass cX4_pass 4 (some .int), Cond.instanceMethod yX1_endDueCalls, Cond.selects RX1 yX1_endDueCalls yX1_endDueCalls, Cond.code yX1_endDueCalls cX1_endDueCalls 4 (some .int)]
def wsL_law0_r10 : List Cond := [Cond.instanceMethod yX3_closeDueTasks, Cond.selects RX3 yX3_closeDueTasks yX3_closeDueTasks, Cond.code yX3_closeDueTasks cX3_closeDueTasks 3 none, Cond.instanceMethod yX1_repeatRequests, Cond.selects RX1 yX1_repeatRequests yX1_repeatRequests, Cond.code yX1_repeatRequests cX1_repeatRequests 3 none, Cond.methodLink RX1 97 yX1_isRepeatDue, Cond.instanceMethod yX1_isRepeatDue, Cond.selects RX1 yX1_isRepeatDue yX1_isRepeatDue, Cond.code yX1_isRepeatDue cX1_isRepeatDue 3 (some .boolean), Cond.methodLink RL 75 yX4_cancel, Cond.instanceMethod yX4_cancel, Cond.selects RX4 yX4_cancel yX4_cancel, Cond.code yX4_cancel cX4_cancel 2 (some .int), Cond.methodLink RL 78 yX4_grant, Cond.instanceMethod yX4_grant, Cond.selects RX4 yX4_grant yX4_grant, Cond.code yX4_grant cX4_grant 3 none, Cond.methodLink RL 82 yX4_credits, Cond.instanceMethod yX4_credits, Cond.selects RX4 yX4_credits yX4_credits, Cond.code yX4_credits cX4_credits 2 (some .int), Cond.methodLink RL 24 yX4_task, Cond.instanceMethod yX4_task]
def wsL_law0_r11 : List Cond := [Cond.selects RX4 yX4_task yX4_task, Cond.code yX4_task cX4_task 2 (some .int), Cond.methodLink RL 85 yX4_work, Cond.instanceMethod yX4_work, Cond.selects RX4 yX4_work yX4_work, Cond.code yX4_work cX4_work 2 (some .int), Cond.instanceMethod yX3_isItemNext, Cond.selects RX3 yX3_isItemNext yX3_isItemNext, Cond.code yX3_isItemNext cX3_isItemNext 2 (some .boolean), Cond.instanceMethod yX3_step, Cond.selects RX3 yX3_step yX3_step, Cond.code yX3_step cX3_step 2 none, Cond.methodLink RX3 56 yX3_isItemNext, Cond.methodLink RX3 60 yX3_sendItem, Cond.instanceMethod yX3_sendItem, Cond.selects RX3 yX3_sendItem yX3_sendItem, Cond.code yX3_sendItem cX3_sendItem 3 none, Cond.methodLink RX3 63 yX3_perform, Cond.instanceMethod yX3_perform, Cond.selects RX3 yX3_perform yX3_perform, Cond.code yX3_perform cX3_perform 4 none, Cond.fieldLink RX3 82 "Callgate$Server" "added" "I", Cond.methodLink RX3 78 yX3_answerOf, Cond.instanceMethod yX3_answerOf]
def wsL_law0_r12 : List Cond := [Cond.selects RX3 yX3_answerOf yX3_answerOf, Cond.code yX3_answerOf cX3_answerOf 3 (some .int), Cond.methodLink RX3 85 Lib.Math.max.name, Cond.static Lib.Math.max.name, Cond.code Lib.Math.max.name Lib.Math.max.code 2 (some .int), Cond.methodLink RL 88 yL_isCall, Cond.static yL_isCall, Cond.code yL_isCall cL_isCall 17 (some .boolean), Cond.methodLink RL 14 yX4_received, Cond.instanceMethod yX4_received, Cond.selects RX4 yX4_received yX4_received, Cond.code yX4_received cX4_received 2 (some .int), Cond.methodLink RL 17 yX4_now, Cond.instanceMethod yX4_now, Cond.selects RX4 yX4_now yX4_now, Cond.code yX4_now cX4_now 1 (some .int), Cond.methodLink RL 21 yX4_deadline, Cond.instanceMethod yX4_deadline, Cond.selects RX4 yX4_deadline yX4_deadline, Cond.code yX4_deadline cX4_deadline 2 (some .int), Cond.methodLink RL 27 yX4_sum, Cond.instanceMethod yX4_sum, Cond.selects RX4 yX4_sum yX4_sum, Cond.code yX4_sum cX4_sum 2 (some .int)]
def wsL_law0_r13 : List Cond := [Cond.methodLink RL 30 yX4_value, Cond.instanceMethod yX4_value, Cond.selects RX4 yX4_value yX4_value, Cond.code yX4_value cX4_value 2 (some .int), Cond.methodLink RL 33 yX4_attempts, Cond.instanceMethod yX4_attempts, Cond.selects RX4 yX4_attempts yX4_attempts, Cond.code yX4_attempts cX4_attempts 2 (some .int), Cond.methodLink RL 92 yL_isTotal, Cond.static yL_isTotal, Cond.code yL_isTotal cL_isTotal 8 (some .boolean), Cond.methodLink RL 39 yX4_tokens, Cond.instanceMethod yX4_tokens, Cond.selects RX4 yX4_tokens yX4_tokens, Cond.code yX4_tokens cX4_tokens 1 (some .int), Cond.methodLink RL 42 yX4_total, Cond.instanceMethod yX4_total, Cond.selects RX4 yX4_total yX4_total, Cond.code yX4_total cX4_total 1 (some .int), Cond.methodLink RL 45 yX4_local, Cond.instanceMethod yX4_local, Cond.selects RX4 yX4_local yX4_local, Cond.code yX4_local cX4_local 3 (some .int)]
def wsL_law0 : List Cond := (wsL_law0_r1 ++ (wsL_law0_r2 ++ (wsL_law0_r3 ++ (wsL_law0_r4 ++ (wsL_law0_r5 ++ (wsL_law0_r6 ++ (wsL_law0_r7 ++ (wsL_law0_r8 ++ (wsL_law0_r9 ++ (wsL_law0_r10 ++ (wsL_law0_r11 ++ (wsL_law0_r12 ++ wsL_law0_r13)))))))))))) ++ wsX40 ++ wsX00 ++ wsX20 ++ wsX10 ++ wsX30 ++ ([] : List Cond)
def wsL_law : List Cond := wsL_law0 ++ (vx_atS RX4 208 "java/lang/IndexOutOfBoundsException" ["java/lang/RuntimeException", "java/lang/Exception"]).filter goodWord ++ (vx_atS RX4 54 "java/lang/IllegalArgumentException" ["java/lang/RuntimeException", "java/lang/Exception"]).filter goodWord ++ (vx_atS RX4 68 "java/lang/IllegalStateException" ["java/lang/RuntimeException", "java/lang/Exception"]).filter goodWord
end
section
theorem dX0_init_0 : decode cX0_init 0 = .ok (.aload_n 0, 1) := by decide +kernel
theorem dX0_init_1 : decode cX0_init 1 = .ok (.invokespecial 3, 3) := by decide +kernel
theorem dX0_init_4 : decode cX0_init 4 = .ok (.aload_n 0, 1) := by decide +kernel
theorem dX0_init_5 : decode cX0_init 5 = .ok (.bipush 40, 2) := by decide +kernel
theorem dX0_init_7 : decode cX0_init 7 = .ok (.newarray .int, 2) := by decide +kernel
theorem dX0_init_9 : decode cX0_init 9 = .ok (.putfield 9, 3) := by decide +kernel
theorem dX0_init_12 : decode cX0_init 12 = .ok (.aload_n 0, 1) := by decide +kernel
theorem dX0_init_13 : decode cX0_init 13 = .ok (.bipush 40, 2) := by decide +kernel
theorem dX0_init_15 : decode cX0_init 15 = .ok (.newarray .int, 2) := by decide +kernel
theorem dX0_init_17 : decode cX0_init 17 = .ok (.putfield 15, 3) := by decide +kernel
theorem dX0_init_20 : decode cX0_init 20 = .ok (.aload_n 0, 1) := by decide +kernel
theorem dX0_init_21 : decode cX0_init 21 = .ok (.bipush 40, 2) := by decide +kernel
theorem dX0_init_23 : decode cX0_init 23 = .ok (.newarray .int, 2) := by decide +kernel
theorem dX0_init_25 : decode cX0_init 25 = .ok (.putfield 18, 3) := by decide +kernel
theorem dX0_init_28 : decode cX0_init 28 = .ok (.return_, 1) := by decide +kernel
theorem dX0_has_0 : decode cX0_has 0 = .ok (.iload_n 1, 1) := by decide +kernel
theorem dX0_has_1 : decode cX0_has 1 = .ok (.ifCond .lt 15, 3) := by decide +kernel
theorem dX0_has_4 : decode cX0_has 4 = .ok (.iload_n 1, 1) := by decide +kernel
theorem dX0_has_5 : decode cX0_has 5 = .ok (.aload_n 0, 1) := by decide +kernel
theorem dX0_has_6 : decode cX0_has 6 = .ok (.getfield 21, 3) := by decide +kernel
theorem dX0_has_9 : decode cX0_has 9 = .ok (.if_icmp .ge 7, 3) := by decide +kernel
theorem dX0_has_12 : decode cX0_has 12 = .ok (.iconst 1, 1) := by decide +kernel
theorem dX0_has_13 : decode cX0_has 13 = .ok (.goto 4, 3) := by decide +kernel
theorem dX0_has_16 : decode cX0_has 16 = .ok (.iconst 0, 1) := by decide +kernel
theorem dX0_has_17 : decode cX0_has 17 = .ok (.ireturn, 1) := by decide +kernel
theorem dX0_isFull_0 : decode cX0_isFull 0 = .ok (.aload_n 0, 1) := by decide +kernel
theorem dX0_isFull_1 : decode cX0_isFull 1 = .ok (.getfield 21, 3) := by decide +kernel
theorem dX0_isFull_4 : decode cX0_isFull 4 = .ok (.bipush 40, 2) := by decide +kernel
theorem dX0_isFull_6 : decode cX0_isFull 6 = .ok (.if_icmp .lt 7, 3) := by decide +kernel
theorem dX0_isFull_9 : decode cX0_isFull 9 = .ok (.iconst 1, 1) := by decide +kernel
theorem dX0_isFull_10 : decode cX0_isFull 10 = .ok (.goto 4, 3) := by decide +kernel
theorem dX0_isFull_13 : decode cX0_isFull 13 = .ok (.iconst 0, 1) := by decide +kernel
theorem dX0_isFull_14 : decode cX0_isFull 14 = .ok (.ireturn, 1) := by decide +kernel
theorem dX0_enter_0 : decode cX0_enter 0 = .ok (.aload_n 0, 1) := by decide +kernel
theorem dX0_enter_1 : decode cX0_enter 1 = .ok (.getfield 21, 3) := by decide +kernel
theorem dX0_enter_4 : decode cX0_enter 4 = .ok (.istore 4, 2) := by decide +kernel
theorem dX0_enter_6 : decode cX0_enter 6 = .ok (.aload_n 0, 1) := by decide +kernel
theorem dX0_enter_7 : decode cX0_enter 7 = .ok (.getfield 9, 3) := by decide +kernel
theorem dX0_enter_10 : decode cX0_enter 10 = .ok (.iload 4, 2) := by decide +kernel
theorem dX0_enter_12 : decode cX0_enter 12 = .ok (.iload_n 1, 1) := by decide +kernel
theorem dX0_enter_13 : decode cX0_enter 13 = .ok (.iastore, 1) := by decide +kernel
theorem dX0_enter_14 : decode cX0_enter 14 = .ok (.aload_n 0, 1) := by decide +kernel
theorem dX0_enter_15 : decode cX0_enter 15 = .ok (.getfield 15, 3) := by decide +kernel
theorem dX0_enter_18 : decode cX0_enter 18 = .ok (.iload 4, 2) := by decide +kernel
theorem dX0_enter_20 : decode cX0_enter 20 = .ok (.iload_n 2, 1) := by decide +kernel
theorem dX0_enter_21 : decode cX0_enter 21 = .ok (.iastore, 1) := by decide +kernel
theorem dX0_enter_22 : decode cX0_enter 22 = .ok (.aload_n 0, 1) := by decide +kernel
theorem dX0_enter_23 : decode cX0_enter 23 = .ok (.getfield 18, 3) := by decide +kernel
theorem dX0_enter_26 : decode cX0_enter 26 = .ok (.iload 4, 2) := by decide +kernel
theorem dX0_enter_28 : decode cX0_enter 28 = .ok (.iload_n 3, 1) := by decide +kernel
theorem dX0_enter_29 : decode cX0_enter 29 = .ok (.iastore, 1) := by decide +kernel
theorem dX0_enter_30 : decode cX0_enter 30 = .ok (.aload_n 0, 1) := by decide +kernel
theorem dX0_enter_31 : decode cX0_enter 31 = .ok (.dup, 1) := by decide +kernel
theorem dX0_enter_32 : decode cX0_enter 32 = .ok (.getfield 21, 3) := by decide +kernel
theorem dX0_enter_35 : decode cX0_enter 35 = .ok (.iconst 1, 1) := by decide +kernel
theorem dX0_enter_36 : decode cX0_enter 36 = .ok (.iadd, 1) := by decide +kernel
theorem dX0_enter_37 : decode cX0_enter 37 = .ok (.putfield 21, 3) := by decide +kernel
theorem dX0_enter_40 : decode cX0_enter 40 = .ok (.iload 4, 2) := by decide +kernel
theorem dX0_enter_42 : decode cX0_enter 42 = .ok (.ireturn, 1) := by decide +kernel
theorem dX0_isDue_0 : decode cX0_isDue 0 = .ok (.aload_n 0, 1) := by decide +kernel
theorem dX0_isDue_1 : decode cX0_isDue 1 = .ok (.getfield 18, 3) := by decide +kernel
theorem dX0_isDue_4 : decode cX0_isDue 4 = .ok (.iload_n 1, 1) := by decide +kernel
theorem dX0_isDue_5 : decode cX0_isDue 5 = .ok (.iaload, 1) := by decide +kernel
theorem dX0_isDue_6 : decode cX0_isDue 6 = .ok (.iload_n 2, 1) := by decide +kernel
theorem dX0_isDue_7 : decode cX0_isDue 7 = .ok (.if_icmp .gt 7, 3) := by decide +kernel
theorem dX0_isDue_10 : decode cX0_isDue 10 = .ok (.iconst 1, 1) := by decide +kernel
theorem dX0_isDue_11 : decode cX0_isDue 11 = .ok (.goto 4, 3) := by decide +kernel
theorem dX0_isDue_14 : decode cX0_isDue 14 = .ok (.iconst 0, 1) := by decide +kernel
theorem dX0_isDue_15 : decode cX0_isDue 15 = .ok (.ireturn, 1) := by decide +kernel
theorem dX1_init_0 : decode cX1_init 0 = .ok (.aload_n 0, 1) := by decide +kernel
theorem dX1_init_1 : decode cX1_init 1 = .ok (.invokespecial 3, 3) := by decide +kernel
theorem dX1_init_4 : decode cX1_init 4 = .ok (.aload_n 0, 1) := by decide +kernel
theorem dX1_init_5 : decode cX1_init 5 = .ok (.bipush 40, 2) := by decide +kernel
theorem dX1_init_7 : decode cX1_init 7 = .ok (.newarray .int, 2) := by decide +kernel
theorem dX1_init_9 : decode cX1_init 9 = .ok (.putfield 9, 3) := by decide +kernel
theorem dX1_init_12 : decode cX1_init 12 = .ok (.aload_n 0, 1) := by decide +kernel
theorem dX1_init_13 : decode cX1_init 13 = .ok (.bipush 40, 2) := by decide +kernel
theorem dX1_init_15 : decode cX1_init 15 = .ok (.newarray .int, 2) := by decide +kernel
theorem dX1_init_17 : decode cX1_init 17 = .ok (.putfield 15, 3) := by decide +kernel
theorem dX1_init_20 : decode cX1_init 20 = .ok (.aload_n 0, 1) := by decide +kernel
theorem dX1_init_21 : decode cX1_init 21 = .ok (.bipush 40, 2) := by decide +kernel
theorem dX1_init_23 : decode cX1_init 23 = .ok (.newarray .int, 2) := by decide +kernel
theorem dX1_init_25 : decode cX1_init 25 = .ok (.putfield 18, 3) := by decide +kernel
theorem dX1_init_28 : decode cX1_init 28 = .ok (.aload_n 0, 1) := by decide +kernel
theorem dX1_init_29 : decode cX1_init 29 = .ok (.bipush 40, 2) := by decide +kernel
theorem dX1_init_31 : decode cX1_init 31 = .ok (.newarray .int, 2) := by decide +kernel
theorem dX1_init_33 : decode cX1_init 33 = .ok (.putfield 21, 3) := by decide +kernel
theorem dX1_init_36 : decode cX1_init 36 = .ok (.aload_n 0, 1) := by decide +kernel
theorem dX1_init_37 : decode cX1_init 37 = .ok (.bipush 40, 2) := by decide +kernel
theorem dX1_init_39 : decode cX1_init 39 = .ok (.newarray .int, 2) := by decide +kernel
theorem dX1_init_41 : decode cX1_init 41 = .ok (.putfield 24, 3) := by decide +kernel
theorem dX1_init_44 : decode cX1_init 44 = .ok (.aload_n 0, 1) := by decide +kernel
theorem dX1_init_45 : decode cX1_init 45 = .ok (.bipush 40, 2) := by decide +kernel
theorem dX1_init_47 : decode cX1_init 47 = .ok (.newarray .int, 2) := by decide +kernel
theorem dX1_init_49 : decode cX1_init 49 = .ok (.putfield 27, 3) := by decide +kernel
theorem dX1_init_52 : decode cX1_init 52 = .ok (.aload_n 0, 1) := by decide +kernel
theorem dX1_init_53 : decode cX1_init 53 = .ok (.bipush 40, 2) := by decide +kernel
theorem dX1_init_55 : decode cX1_init 55 = .ok (.newarray .int, 2) := by decide +kernel
theorem dX1_init_57 : decode cX1_init 57 = .ok (.putfield 30, 3) := by decide +kernel
theorem dX1_init_60 : decode cX1_init 60 = .ok (.aload_n 0, 1) := by decide +kernel
theorem dX1_init_61 : decode cX1_init 61 = .ok (.bipush 100, 2) := by decide +kernel
theorem dX1_init_63 : decode cX1_init 63 = .ok (.putfield 33, 3) := by decide +kernel
theorem dX1_init_66 : decode cX1_init 66 = .ok (.aload_n 0, 1) := by decide +kernel
theorem dX1_init_67 : decode cX1_init 67 = .ok (.aload_n 1, 1) := by decide +kernel
theorem dX1_init_68 : decode cX1_init 68 = .ok (.putfield 37, 3) := by decide +kernel
theorem dX1_init_71 : decode cX1_init 71 = .ok (.aload_n 0, 1) := by decide +kernel
theorem dX1_init_72 : decode cX1_init 72 = .ok (.aload_n 2, 1) := by decide +kernel
theorem dX1_init_73 : decode cX1_init 73 = .ok (.putfield 41, 3) := by decide +kernel
theorem dX1_init_76 : decode cX1_init 76 = .ok (.return_, 1) := by decide +kernel
set_option maxRecDepth 20000 in
theorem ggX1_begin_X1_sendRequest : GoodIn wsX1_begin wsX1_sendRequest := goodIn_r _ [7, 8, 9, 10, 11, 12, 13, 14, 15, 16, 17, 18, 19, 20, 21, 22, 23, 24, 25, 26, 27, 28, 29, 30, 31, 32, 33, 34, 35, 36, 37, 38, 39, 40, 41, 42, 43, 44] (by decide +kernel) (by decide +kernel)
set_option maxRecDepth 20000 in
theorem gX1_begin_X1_sendRequest : GoodIn wsX1_begin (wsV RX1 45 RX1 yX1_sendRequest wsX1_sendRequest) := goodIn_app (goodIn_of _ (by decide +kernel)) ggX1_begin_X1_sendRequest
theorem dX1_begin_0 : decode cX1_begin 0 = .ok (.aload_n 0, 1) := by decide +kernel
theorem dX1_begin_1 : decode cX1_begin 1 = .ok (.getfield 9, 3) := by decide +kernel
theorem dX1_begin_4 : decode cX1_begin 4 = .ok (.iload_n 1, 1) := by decide +kernel
theorem dX1_begin_5 : decode cX1_begin 5 = .ok (.iload_n 2, 1) := by decide +kernel
theorem dX1_begin_6 : decode cX1_begin 6 = .ok (.iastore, 1) := by decide +kernel
theorem dX1_begin_7 : decode cX1_begin 7 = .ok (.aload_n 0, 1) := by decide +kernel
theorem dX1_begin_8 : decode cX1_begin 8 = .ok (.getfield 15, 3) := by decide +kernel
theorem dX1_begin_11 : decode cX1_begin 11 = .ok (.iload_n 1, 1) := by decide +kernel
theorem dX1_begin_12 : decode cX1_begin 12 = .ok (.iconst (-1), 1) := by decide +kernel
theorem dX1_begin_13 : decode cX1_begin 13 = .ok (.iastore, 1) := by decide +kernel
theorem dX1_begin_14 : decode cX1_begin 14 = .ok (.aload_n 0, 1) := by decide +kernel
theorem dX1_begin_15 : decode cX1_begin 15 = .ok (.iload_n 1, 1) := by decide +kernel
theorem dX1_begin_16 : decode cX1_begin 16 = .ok (.iload_n 3, 1) := by decide +kernel
theorem dX1_begin_17 : decode cX1_begin 17 = .ok (.invokevirtual 45, 3) := by decide +kernel
theorem dX1_begin_20 : decode cX1_begin 20 = .ok (.return_, 1) := by decide +kernel
set_option maxRecDepth 20000 in
theorem ggX1_sendRequest_X2_send : GoodIn wsX1_sendRequest wsX2_send := goodIn_r _ [7, 8, 9, 10, 11, 12, 13, 14, 15, 5, 16, 17, 18, 19, 20, 21, 32, 33, 34, 35, 36, 37] (by decide +kernel) (by decide +kernel)
set_option maxRecDepth 20000 in
theorem gX1_sendRequest_X2_send_n49 : GoodIn wsX1_sendRequest (wsX2_send) := ggX1_sendRequest_X2_send
theorem dX1_sendRequest_0 : decode cX1_sendRequest 0 = .ok (.aload_n 0, 1) := by decide +kernel
theorem dX1_sendRequest_1 : decode cX1_sendRequest 1 = .ok (.getfield 21, 3) := by decide +kernel
theorem dX1_sendRequest_4 : decode cX1_sendRequest 4 = .ok (.iload_n 1, 1) := by decide +kernel
theorem dX1_sendRequest_5 : decode cX1_sendRequest 5 = .ok (.dup2, 1) := by decide +kernel
theorem dX1_sendRequest_6 : decode cX1_sendRequest 6 = .ok (.iaload, 1) := by decide +kernel
theorem dX1_sendRequest_7 : decode cX1_sendRequest 7 = .ok (.iconst 1, 1) := by decide +kernel
theorem dX1_sendRequest_8 : decode cX1_sendRequest 8 = .ok (.iadd, 1) := by decide +kernel
theorem dX1_sendRequest_9 : decode cX1_sendRequest 9 = .ok (.iastore, 1) := by decide +kernel
theorem dX1_sendRequest_10 : decode cX1_sendRequest 10 = .ok (.aload_n 0, 1) := by decide +kernel
theorem dX1_sendRequest_11 : decode cX1_sendRequest 11 = .ok (.getfield 24, 3) := by decide +kernel
theorem dX1_sendRequest_14 : decode cX1_sendRequest 14 = .ok (.iload_n 1, 1) := by decide +kernel
theorem dX1_sendRequest_15 : decode cX1_sendRequest 15 = .ok (.iload_n 2, 1) := by decide +kernel
theorem dX1_sendRequest_16 : decode cX1_sendRequest 16 = .ok (.iastore, 1) := by decide +kernel
theorem dX1_sendRequest_17 : decode cX1_sendRequest 17 = .ok (.aload_n 0, 1) := by decide +kernel
theorem dX1_sendRequest_18 : decode cX1_sendRequest 18 = .ok (.getfield 41, 3) := by decide +kernel
theorem dX1_sendRequest_21 : decode cX1_sendRequest 21 = .ok (.iconst 0, 1) := by decide +kernel
theorem dX1_sendRequest_22 : decode cX1_sendRequest 22 = .ok (.iload_n 1, 1) := by decide +kernel
theorem dX1_sendRequest_23 : decode cX1_sendRequest 23 = .ok (.iconst 0, 1) := by decide +kernel
theorem dX1_sendRequest_24 : decode cX1_sendRequest 24 = .ok (.iconst 0, 1) := by decide +kernel
theorem dX1_sendRequest_25 : decode cX1_sendRequest 25 = .ok (.invokevirtual 49, 3) := by decide +kernel
theorem dX1_sendRequest_28 : decode cX1_sendRequest 28 = .ok (.return_, 1) := by decide +kernel
set_option maxRecDepth 20000 in
theorem ggX1_endSilently_X1_cancelOrphans : GoodIn wsX1_endSilently wsX1_cancelOrphans := goodIn_r _ [6, 7, 1, 8, 9, 10, 11, 5, 12, 13, 14, 15, 16, 17, 18, 19, 20, 21, 22, 23, 24, 25, 26, 27, 28, 29, 30, 31, 32, 33, 34, 35, 36, 37, 38, 39, 40, 41, 42, 43, 44, 45, 46, 47, 48, 49, 50, 51, 52, 53, 54, 55, 56] (by decide +kernel) (by decide +kernel)
set_option maxRecDepth 20000 in
theorem gX1_endSilently_X1_cancelOrphans : GoodIn wsX1_endSilently (wsV RX1 55 RX1 yX1_cancelOrphans wsX1_cancelOrphans) := goodIn_app (goodIn_of _ (by decide +kernel)) ggX1_endSilently_X1_cancelOrphans
theorem dX1_endSilently_0 : decode cX1_endSilently 0 = .ok (.aload_n 0, 1) := by decide +kernel
theorem dX1_endSilently_1 : decode cX1_endSilently 1 = .ok (.getfield 15, 3) := by decide +kernel
theorem dX1_endSilently_4 : decode cX1_endSilently 4 = .ok (.iload_n 1, 1) := by decide +kernel
theorem dX1_endSilently_5 : decode cX1_endSilently 5 = .ok (.iload_n 2, 1) := by decide +kernel
theorem dX1_endSilently_6 : decode cX1_endSilently 6 = .ok (.iastore, 1) := by decide +kernel
theorem dX1_endSilently_7 : decode cX1_endSilently 7 = .ok (.iconst 1, 1) := by decide +kernel
theorem dX1_endSilently_8 : decode cX1_endSilently 8 = .ok (.aload_n 0, 1) := by decide +kernel
theorem dX1_endSilently_9 : decode cX1_endSilently 9 = .ok (.iload_n 1, 1) := by decide +kernel
theorem dX1_endSilently_10 : decode cX1_endSilently 10 = .ok (.invokevirtual 55, 3) := by decide +kernel
theorem dX1_endSilently_13 : decode cX1_endSilently 13 = .ok (.iadd, 1) := by decide +kernel
theorem dX1_endSilently_14 : decode cX1_endSilently 14 = .ok (.ireturn, 1) := by decide +kernel
set_option maxRecDepth 20000 in
theorem ggX1_endAndTell_X2_send : GoodIn wsX1_endAndTell wsX2_send := goodIn_r _ [6, 7, 8, 9, 10, 11, 12, 13, 14, 4, 15, 16, 17, 18, 19, 20, 47, 48, 49, 50, 51, 52] (by decide +kernel) (by decide +kernel)
set_option maxRecDepth 20000 in
theorem gX1_endAndTell_X2_send_n49 : GoodIn wsX1_endAndTell (wsX2_send) := ggX1_endAndTell_X2_send
set_option maxRecDepth 20000 in
theorem ggX1_endAndTell_X1_cancelOrphans : GoodIn wsX1_endAndTell wsX1_cancelOrphans := goodIn_r _ [25, 26, 1, 2, 27, 28, 29, 24, 30, 31, 32, 33, 34, 35, 36, 3, 4, 5, 6, 7, 8, 9, 10, 11, 12, 13, 14, 15, 16, 17, 18, 19, 20, 37, 38, 39, 40, 41, 42, 43, 44, 45, 46, 53, 54, 55, 56, 47, 48, 49, 50, 51, 52] (by decide +kernel) (by decide +kernel)
set_option maxRecDepth 20000 in
theorem gX1_endAndTell_X1_cancelOrphans : GoodIn wsX1_endAndTell (wsV RX1 55 RX1 yX1_cancelOrphans wsX1_cancelOrphans) := goodIn_app (goodIn_of _ (by decide +kernel)) ggX1_endAndTell_X1_cancelOrphans
theorem dX1_endAndTell_0 : decode cX1_endAndTell 0 = .ok (.aload_n 0, 1) := by decide +kernel
theorem dX1_endAndTell_1 : decode cX1_endAndTell 1 = .ok (.getfield 15, 3) := by decide +kernel
theorem dX1_endAndTell_4 : decode cX1_endAndTell 4 = .ok (.iload_n 1, 1) := by decide +kernel
theorem dX1_endAndTell_5 : decode cX1_endAndTell 5 = .ok (.iload_n 2, 1) := by decide +kernel
theorem dX1_endAndTell_6 : decode cX1_endAndTell 6 = .ok (.iastore, 1) := by decide +kernel
theorem dX1_endAndTell_7 : decode cX1_endAndTell 7 = .ok (.aload_n 0, 1) := by decide +kernel
theorem dX1_endAndTell_8 : decode cX1_endAndTell 8 = .ok (.getfield 41, 3) := by decide +kernel
theorem dX1_endAndTell_11 : decode cX1_endAndTell 11 = .ok (.iconst 1, 1) := by decide +kernel
theorem dX1_endAndTell_12 : decode cX1_endAndTell 12 = .ok (.iload_n 1, 1) := by decide +kernel
theorem dX1_endAndTell_13 : decode cX1_endAndTell 13 = .ok (.iconst 0, 1) := by decide +kernel
theorem dX1_endAndTell_14 : decode cX1_endAndTell 14 = .ok (.iconst 0, 1) := by decide +kernel
theorem dX1_endAndTell_15 : decode cX1_endAndTell 15 = .ok (.invokevirtual 49, 3) := by decide +kernel
theorem dX1_endAndTell_18 : decode cX1_endAndTell 18 = .ok (.iconst 1, 1) := by decide +kernel
theorem dX1_endAndTell_19 : decode cX1_endAndTell 19 = .ok (.aload_n 0, 1) := by decide +kernel
theorem dX1_endAndTell_20 : decode cX1_endAndTell 20 = .ok (.iload_n 1, 1) := by decide +kernel
theorem dX1_endAndTell_21 : decode cX1_endAndTell 21 = .ok (.invokevirtual 55, 3) := by decide +kernel
theorem dX1_endAndTell_24 : decode cX1_endAndTell 24 = .ok (.iadd, 1) := by decide +kernel
theorem dX1_endAndTell_25 : decode cX1_endAndTell 25 = .ok (.ireturn, 1) := by decide +kernel
set_option maxRecDepth 20000 in
theorem ggX1_cancelOrphans_X1_hasEndedParent : GoodIn wsX1_cancelOrphans wsX1_hasEndedParent := goodIn_r _ [8, 9, 1, 2, 10, 11, 12, 13, 14, 33, 34, 35, 36, 37, 38, 39, 40, 41, 42, 43, 44, 45, 46] (by decide +kernel) (by decide +kernel)
set_option maxRecDepth 20000 in
theorem gX1_cancelOrphans_X1_hasEndedParent : GoodIn wsX1_cancelOrphans (wsV RX1 64 RX1 yX1_hasEndedParent wsX1_hasEndedParent) := goodIn_app (goodIn_of _ (by decide +kernel)) ggX1_cancelOrphans_X1_hasEndedParent
set_option maxRecDepth 20000 in
theorem ggX1_cancelOrphans_X2_send : GoodIn wsX1_cancelOrphans wsX2_send := goodIn_r _ [18, 19, 20, 21, 22, 23, 24, 25, 26, 16, 27, 28, 29, 30, 31, 32, 47, 48, 49, 50, 51, 52] (by decide +kernel) (by decide +kernel)
set_option maxRecDepth 20000 in
theorem gX1_cancelOrphans_X2_send_n49 : GoodIn wsX1_cancelOrphans (wsX2_send) := ggX1_cancelOrphans_X2_send
theorem dX1_cancelOrphans_0 : decode cX1_cancelOrphans 0 = .ok (.iconst 0, 1) := by decide +kernel
theorem dX1_cancelOrphans_1 : decode cX1_cancelOrphans 1 = .ok (.istore_n 2, 1) := by decide +kernel
theorem dX1_cancelOrphans_2 : decode cX1_cancelOrphans 2 = .ok (.iload_n 1, 1) := by decide +kernel
theorem dX1_cancelOrphans_3 : decode cX1_cancelOrphans 3 = .ok (.iconst 1, 1) := by decide +kernel
theorem dX1_cancelOrphans_4 : decode cX1_cancelOrphans 4 = .ok (.iadd, 1) := by decide +kernel
theorem dX1_cancelOrphans_5 : decode cX1_cancelOrphans 5 = .ok (.istore_n 3, 1) := by decide +kernel
theorem dX1_cancelOrphans_6 : decode cX1_cancelOrphans 6 = .ok (.iload_n 3, 1) := by decide +kernel
theorem dX1_cancelOrphans_7 : decode cX1_cancelOrphans 7 = .ok (.aload_n 0, 1) := by decide +kernel
theorem dX1_cancelOrphans_8 : decode cX1_cancelOrphans 8 = .ok (.getfield 37, 3) := by decide +kernel
theorem dX1_cancelOrphans_11 : decode cX1_cancelOrphans 11 = .ok (.getfield 59, 3) := by decide +kernel
theorem dX1_cancelOrphans_14 : decode cX1_cancelOrphans 14 = .ok (.if_icmp .ge 48, 3) := by decide +kernel
theorem dX1_cancelOrphans_17 : decode cX1_cancelOrphans 17 = .ok (.aload_n 0, 1) := by decide +kernel
theorem dX1_cancelOrphans_18 : decode cX1_cancelOrphans 18 = .ok (.getfield 15, 3) := by decide +kernel
theorem dX1_cancelOrphans_21 : decode cX1_cancelOrphans 21 = .ok (.iload_n 3, 1) := by decide +kernel
theorem dX1_cancelOrphans_22 : decode cX1_cancelOrphans 22 = .ok (.iaload, 1) := by decide +kernel
theorem dX1_cancelOrphans_23 : decode cX1_cancelOrphans 23 = .ok (.iconst (-1), 1) := by decide +kernel
theorem dX1_cancelOrphans_24 : decode cX1_cancelOrphans 24 = .ok (.if_icmp .ne 32, 3) := by decide +kernel
theorem dX1_cancelOrphans_27 : decode cX1_cancelOrphans 27 = .ok (.aload_n 0, 1) := by decide +kernel
theorem dX1_cancelOrphans_28 : decode cX1_cancelOrphans 28 = .ok (.iload_n 3, 1) := by decide +kernel
theorem dX1_cancelOrphans_29 : decode cX1_cancelOrphans 29 = .ok (.invokevirtual 64, 3) := by decide +kernel
theorem dX1_cancelOrphans_32 : decode cX1_cancelOrphans 32 = .ok (.ifCond .eq 24, 3) := by decide +kernel
theorem dX1_cancelOrphans_35 : decode cX1_cancelOrphans 35 = .ok (.aload_n 0, 1) := by decide +kernel
theorem dX1_cancelOrphans_36 : decode cX1_cancelOrphans 36 = .ok (.getfield 15, 3) := by decide +kernel
theorem dX1_cancelOrphans_39 : decode cX1_cancelOrphans 39 = .ok (.iload_n 3, 1) := by decide +kernel
theorem dX1_cancelOrphans_40 : decode cX1_cancelOrphans 40 = .ok (.iconst 1, 1) := by decide +kernel
theorem dX1_cancelOrphans_41 : decode cX1_cancelOrphans 41 = .ok (.iastore, 1) := by decide +kernel
theorem dX1_cancelOrphans_42 : decode cX1_cancelOrphans 42 = .ok (.aload_n 0, 1) := by decide +kernel
theorem dX1_cancelOrphans_43 : decode cX1_cancelOrphans 43 = .ok (.getfield 41, 3) := by decide +kernel
theorem dX1_cancelOrphans_46 : decode cX1_cancelOrphans 46 = .ok (.iconst 1, 1) := by decide +kernel
theorem dX1_cancelOrphans_47 : decode cX1_cancelOrphans 47 = .ok (.iload_n 3, 1) := by decide +kernel
theorem dX1_cancelOrphans_48 : decode cX1_cancelOrphans 48 = .ok (.iconst 0, 1) := by decide +kernel
theorem dX1_cancelOrphans_49 : decode cX1_cancelOrphans 49 = .ok (.iconst 0, 1) := by decide +kernel
theorem dX1_cancelOrphans_50 : decode cX1_cancelOrphans 50 = .ok (.invokevirtual 49, 3) := by decide +kernel
theorem dX1_cancelOrphans_53 : decode cX1_cancelOrphans 53 = .ok (.iinc 2 1, 3) := by decide +kernel
theorem dX1_cancelOrphans_56 : decode cX1_cancelOrphans 56 = .ok (.iinc 3 1, 3) := by decide +kernel
theorem dX1_cancelOrphans_59 : decode cX1_cancelOrphans 59 = .ok (.goto (-53), 3) := by decide +kernel
theorem dX1_cancelOrphans_62 : decode cX1_cancelOrphans 62 = .ok (.iload_n 2, 1) := by decide +kernel
theorem dX1_cancelOrphans_63 : decode cX1_cancelOrphans 63 = .ok (.ireturn, 1) := by decide +kernel
set_option maxRecDepth 20000 in
theorem ggX1_hasEndedParent_X0_has : GoodIn wsX1_hasEndedParent wsX0_has := goodIn_r _ [7, 8, 19, 20, 21, 22] (by decide +kernel) (by decide +kernel)
set_option maxRecDepth 20000 in
theorem gX1_hasEndedParent_X0_has_n68 : GoodIn wsX1_hasEndedParent (wsX0_has) := ggX1_hasEndedParent_X0_has
theorem dX1_hasEndedParent_0 : decode cX1_hasEndedParent 0 = .ok (.aload_n 0, 1) := by decide +kernel
theorem dX1_hasEndedParent_1 : decode cX1_hasEndedParent 1 = .ok (.getfield 9, 3) := by decide +kernel
theorem dX1_hasEndedParent_4 : decode cX1_hasEndedParent 4 = .ok (.iload_n 1, 1) := by decide +kernel
theorem dX1_hasEndedParent_5 : decode cX1_hasEndedParent 5 = .ok (.iaload, 1) := by decide +kernel
theorem dX1_hasEndedParent_6 : decode cX1_hasEndedParent 6 = .ok (.istore_n 2, 1) := by decide +kernel
theorem dX1_hasEndedParent_7 : decode cX1_hasEndedParent 7 = .ok (.aload_n 0, 1) := by decide +kernel
theorem dX1_hasEndedParent_8 : decode cX1_hasEndedParent 8 = .ok (.getfield 37, 3) := by decide +kernel
theorem dX1_hasEndedParent_11 : decode cX1_hasEndedParent 11 = .ok (.iload_n 2, 1) := by decide +kernel
theorem dX1_hasEndedParent_12 : decode cX1_hasEndedParent 12 = .ok (.invokevirtual 68, 3) := by decide +kernel
theorem dX1_hasEndedParent_15 : decode cX1_hasEndedParent 15 = .ok (.ifCond .eq 17, 3) := by decide +kernel
theorem dX1_hasEndedParent_18 : decode cX1_hasEndedParent 18 = .ok (.aload_n 0, 1) := by decide +kernel
theorem dX1_hasEndedParent_19 : decode cX1_hasEndedParent 19 = .ok (.getfield 15, 3) := by decide +kernel
theorem dX1_hasEndedParent_22 : decode cX1_hasEndedParent 22 = .ok (.iload_n 2, 1) := by decide +kernel
theorem dX1_hasEndedParent_23 : decode cX1_hasEndedParent 23 = .ok (.iaload, 1) := by decide +kernel
theorem dX1_hasEndedParent_24 : decode cX1_hasEndedParent 24 = .ok (.iconst (-1), 1) := by decide +kernel
theorem dX1_hasEndedParent_25 : decode cX1_hasEndedParent 25 = .ok (.if_icmp .eq 7, 3) := by decide +kernel
theorem dX1_hasEndedParent_28 : decode cX1_hasEndedParent 28 = .ok (.iconst 1, 1) := by decide +kernel
theorem dX1_hasEndedParent_29 : decode cX1_hasEndedParent 29 = .ok (.goto 4, 3) := by decide +kernel
theorem dX1_hasEndedParent_32 : decode cX1_hasEndedParent 32 = .ok (.iconst 0, 1) := by decide +kernel
theorem dX1_hasEndedParent_33 : decode cX1_hasEndedParent 33 = .ok (.ireturn, 1) := by decide +kernel
set_option maxRecDepth 20000 in
theorem ggX1_take_X1_takeAnswer : GoodIn wsX1_take wsX1_takeAnswer := goodIn_r _ [6, 7, 8, 9, 10, 11, 12, 13, 14, 15, 16, 17, 5, 18, 1, 19, 20, 21, 22, 23, 24, 25, 26, 27, 28, 29, 30, 31, 32, 33, 34, 35, 36, 37, 38, 39, 40, 41, 42, 43, 44, 45, 46, 47, 48, 49, 50, 51, 61, 62, 63, 64, 65, 66, 67, 68, 69, 70, 71, 72, 73, 74, 75, 76, 77, 78, 79, 80] (by decide +kernel) (by decide +kernel)
set_option maxRecDepth 20000 in
theorem gX1_take_X1_takeAnswer : GoodIn wsX1_take (wsV RX1 71 RX1 yX1_takeAnswer wsX1_takeAnswer) := goodIn_app (goodIn_of _ (by decide +kernel)) ggX1_take_X1_takeAnswer
set_option maxRecDepth 20000 in
theorem ggX1_take_X1_takeItem : GoodIn wsX1_take wsX1_takeItem := goodIn_r _ [55, 8, 56, 57, 58, 59, 5, 60, 1, 23, 34, 35, 36, 37, 38, 39, 40, 41, 42, 43, 44, 45, 46, 47, 48, 49, 50, 51, 19, 20, 21, 22, 7, 24, 25, 26, 27, 28, 29, 30, 31, 32, 33, 61, 62, 63, 64, 65, 66, 67, 68, 69, 70, 75, 76, 77, 78, 79, 80, 71, 72, 73, 74] (by decide +kernel) (by decide +kernel)
set_option maxRecDepth 20000 in
theorem gX1_take_X1_takeItem : GoodIn wsX1_take (wsV RX1 75 RX1 yX1_takeItem wsX1_takeItem) := goodIn_app (goodIn_of _ (by decide +kernel)) ggX1_take_X1_takeItem
theorem dX1_take_0 : decode cX1_take 0 = .ok (.aload_n 0, 1) := by decide +kernel
theorem dX1_take_1 : decode cX1_take 1 = .ok (.getfield 15, 3) := by decide +kernel
theorem dX1_take_4 : decode cX1_take 4 = .ok (.iload_n 2, 1) := by decide +kernel
theorem dX1_take_5 : decode cX1_take 5 = .ok (.iaload, 1) := by decide +kernel
theorem dX1_take_6 : decode cX1_take 6 = .ok (.iconst (-1), 1) := by decide +kernel
theorem dX1_take_7 : decode cX1_take 7 = .ok (.if_icmp .eq 4, 3) := by decide +kernel
theorem dX1_take_10 : decode cX1_take 10 = .ok (.return_, 1) := by decide +kernel
theorem dX1_take_11 : decode cX1_take 11 = .ok (.iload_n 1, 1) := by decide +kernel
theorem dX1_take_12 : decode cX1_take 12 = .ok (.iconst 3, 1) := by decide +kernel
theorem dX1_take_13 : decode cX1_take 13 = .ok (.if_icmp .ne 14, 3) := by decide +kernel
theorem dX1_take_16 : decode cX1_take 16 = .ok (.aload_n 0, 1) := by decide +kernel
theorem dX1_take_17 : decode cX1_take 17 = .ok (.iload_n 2, 1) := by decide +kernel
theorem dX1_take_18 : decode cX1_take 18 = .ok (.iload_n 3, 1) := by decide +kernel
theorem dX1_take_19 : decode cX1_take 19 = .ok (.iload 4, 2) := by decide +kernel
theorem dX1_take_21 : decode cX1_take 21 = .ok (.invokevirtual 71, 3) := by decide +kernel
theorem dX1_take_24 : decode cX1_take 24 = .ok (.goto 11, 3) := by decide +kernel
theorem dX1_take_27 : decode cX1_take 27 = .ok (.aload_n 0, 1) := by decide +kernel
theorem dX1_take_28 : decode cX1_take 28 = .ok (.iload_n 2, 1) := by decide +kernel
theorem dX1_take_29 : decode cX1_take 29 = .ok (.iload_n 3, 1) := by decide +kernel
theorem dX1_take_30 : decode cX1_take 30 = .ok (.iload 4, 2) := by decide +kernel
theorem dX1_take_32 : decode cX1_take 32 = .ok (.invokevirtual 75, 3) := by decide +kernel
theorem dX1_take_35 : decode cX1_take 35 = .ok (.return_, 1) := by decide +kernel
set_option maxRecDepth 20000 in
theorem ggX1_takeAnswer_X1_endSilently : GoodIn wsX1_takeAnswer wsX1_endSilently := goodIn_r _ [13, 14, 15, 16, 17, 12, 18, 1, 19, 20, 21, 22, 23, 24, 25, 26, 27, 28, 29, 30, 31, 32, 33, 34, 35, 36, 37, 38, 39, 40, 41, 42, 43, 44, 45, 46, 47, 48, 49, 50, 51, 52, 53, 54, 55, 56, 57, 58, 59, 60, 61, 62, 63, 64, 65, 66, 67] (by decide +kernel) (by decide +kernel)
set_option maxRecDepth 20000 in
theorem gX1_takeAnswer_X1_endSilently : GoodIn wsX1_takeAnswer (wsV RX1 81 RX1 yX1_endSilently wsX1_endSilently) := goodIn_app (goodIn_of _ (by decide +kernel)) ggX1_takeAnswer_X1_endSilently
theorem dX1_takeAnswer_0 : decode cX1_takeAnswer 0 = .ok (.aload_n 0, 1) := by decide +kernel
theorem dX1_takeAnswer_1 : decode cX1_takeAnswer 1 = .ok (.getfield 37, 3) := by decide +kernel
theorem dX1_takeAnswer_4 : decode cX1_takeAnswer 4 = .ok (.getfield 78, 3) := by decide +kernel
theorem dX1_takeAnswer_7 : decode cX1_takeAnswer 7 = .ok (.iload_n 1, 1) := by decide +kernel
theorem dX1_takeAnswer_8 : decode cX1_takeAnswer 8 = .ok (.iaload, 1) := by decide +kernel
theorem dX1_takeAnswer_9 : decode cX1_takeAnswer 9 = .ok (.iconst 3, 1) := by decide +kernel
theorem dX1_takeAnswer_10 : decode cX1_takeAnswer 10 = .ok (.if_icmp .ne 21, 3) := by decide +kernel
theorem dX1_takeAnswer_13 : decode cX1_takeAnswer 13 = .ok (.iload_n 3, 1) := by decide +kernel
theorem dX1_takeAnswer_14 : decode cX1_takeAnswer 14 = .ok (.aload_n 0, 1) := by decide +kernel
theorem dX1_takeAnswer_15 : decode cX1_takeAnswer 15 = .ok (.getfield 27, 3) := by decide +kernel
theorem dX1_takeAnswer_18 : decode cX1_takeAnswer 18 = .ok (.iload_n 1, 1) := by decide +kernel
theorem dX1_takeAnswer_19 : decode cX1_takeAnswer 19 = .ok (.iaload, 1) := by decide +kernel
theorem dX1_takeAnswer_20 : decode cX1_takeAnswer 20 = .ok (.if_icmp .eq 11, 3) := by decide +kernel
theorem dX1_takeAnswer_23 : decode cX1_takeAnswer 23 = .ok (.aload_n 0, 1) := by decide +kernel
theorem dX1_takeAnswer_24 : decode cX1_takeAnswer 24 = .ok (.iload_n 1, 1) := by decide +kernel
theorem dX1_takeAnswer_25 : decode cX1_takeAnswer 25 = .ok (.iconst 4, 1) := by decide +kernel
theorem dX1_takeAnswer_26 : decode cX1_takeAnswer 26 = .ok (.invokevirtual 81, 3) := by decide +kernel
theorem dX1_takeAnswer_29 : decode cX1_takeAnswer 29 = .ok (.pop, 1) := by decide +kernel
theorem dX1_takeAnswer_30 : decode cX1_takeAnswer 30 = .ok (.return_, 1) := by decide +kernel
theorem dX1_takeAnswer_31 : decode cX1_takeAnswer 31 = .ok (.aload_n 0, 1) := by decide +kernel
theorem dX1_takeAnswer_32 : decode cX1_takeAnswer 32 = .ok (.getfield 18, 3) := by decide +kernel
theorem dX1_takeAnswer_35 : decode cX1_takeAnswer 35 = .ok (.iload_n 1, 1) := by decide +kernel
theorem dX1_takeAnswer_36 : decode cX1_takeAnswer 36 = .ok (.iload_n 3, 1) := by decide +kernel
theorem dX1_takeAnswer_37 : decode cX1_takeAnswer 37 = .ok (.iastore, 1) := by decide +kernel
theorem dX1_takeAnswer_38 : decode cX1_takeAnswer 38 = .ok (.aload_n 0, 1) := by decide +kernel
theorem dX1_takeAnswer_39 : decode cX1_takeAnswer 39 = .ok (.iload_n 1, 1) := by decide +kernel
theorem dX1_takeAnswer_40 : decode cX1_takeAnswer 40 = .ok (.iload_n 2, 1) := by decide +kernel
theorem dX1_takeAnswer_41 : decode cX1_takeAnswer 41 = .ok (.invokevirtual 81, 3) := by decide +kernel
theorem dX1_takeAnswer_44 : decode cX1_takeAnswer 44 = .ok (.pop, 1) := by decide +kernel
theorem dX1_takeAnswer_45 : decode cX1_takeAnswer 45 = .ok (.iload_n 2, 1) := by decide +kernel
theorem dX1_takeAnswer_46 : decode cX1_takeAnswer 46 = .ok (.ifCond .ne 18, 3) := by decide +kernel
theorem dX1_takeAnswer_49 : decode cX1_takeAnswer 49 = .ok (.aload_n 0, 1) := by decide +kernel
theorem dX1_takeAnswer_50 : decode cX1_takeAnswer 50 = .ok (.aload_n 0, 1) := by decide +kernel
theorem dX1_takeAnswer_51 : decode cX1_takeAnswer 51 = .ok (.getfield 33, 3) := by decide +kernel
theorem dX1_takeAnswer_54 : decode cX1_takeAnswer 54 = .ok (.iconst 1, 1) := by decide +kernel
theorem dX1_takeAnswer_55 : decode cX1_takeAnswer 55 = .ok (.iadd, 1) := by decide +kernel
theorem dX1_takeAnswer_56 : decode cX1_takeAnswer 56 = .ok (.bipush 100, 2) := by decide +kernel
theorem dX1_takeAnswer_58 : decode cX1_takeAnswer 58 = .ok (.invokestatic 85, 3) := by decide +kernel
theorem dX1_takeAnswer_61 : decode cX1_takeAnswer 61 = .ok (.putfield 33, 3) := by decide +kernel
theorem dX1_takeAnswer_64 : decode cX1_takeAnswer 64 = .ok (.return_, 1) := by decide +kernel
set_option maxRecDepth 20000 in
theorem ggX1_takeItem_X1_endAndTell : GoodIn wsX1_takeItem wsX1_endAndTell := goodIn_r _ [7, 8, 9, 10, 11, 12, 13, 14, 15, 16, 17, 18, 19, 20, 21, 22, 23, 24, 25, 26, 27, 28, 29, 30, 6, 31, 32, 33, 34, 35, 36, 37, 38, 39, 40, 41, 42, 43, 44, 45, 46, 47, 48, 49, 50, 51, 52, 53, 54, 55, 56, 57, 58, 59, 60, 61, 62] (by decide +kernel) (by decide +kernel)
set_option maxRecDepth 20000 in
theorem gX1_takeItem_X1_endAndTell : GoodIn wsX1_takeItem (wsV RX1 90 RX1 yX1_endAndTell wsX1_endAndTell) := goodIn_app (goodIn_of _ (by decide +kernel)) ggX1_takeItem_X1_endAndTell
theorem dX1_takeItem_0 : decode cX1_takeItem 0 = .ok (.iload_n 2, 1) := by decide +kernel
theorem dX1_takeItem_1 : decode cX1_takeItem 1 = .ok (.aload_n 0, 1) := by decide +kernel
theorem dX1_takeItem_2 : decode cX1_takeItem 2 = .ok (.getfield 27, 3) := by decide +kernel
theorem dX1_takeItem_5 : decode cX1_takeItem 5 = .ok (.iload_n 1, 1) := by decide +kernel
theorem dX1_takeItem_6 : decode cX1_takeItem 6 = .ok (.iaload, 1) := by decide +kernel
theorem dX1_takeItem_7 : decode cX1_takeItem 7 = .ok (.if_icmp .eq 11, 3) := by decide +kernel
theorem dX1_takeItem_10 : decode cX1_takeItem 10 = .ok (.aload_n 0, 1) := by decide +kernel
theorem dX1_takeItem_11 : decode cX1_takeItem 11 = .ok (.iload_n 1, 1) := by decide +kernel
theorem dX1_takeItem_12 : decode cX1_takeItem 12 = .ok (.iconst 4, 1) := by decide +kernel
theorem dX1_takeItem_13 : decode cX1_takeItem 13 = .ok (.invokevirtual 90, 3) := by decide +kernel
theorem dX1_takeItem_16 : decode cX1_takeItem 16 = .ok (.pop, 1) := by decide +kernel
theorem dX1_takeItem_17 : decode cX1_takeItem 17 = .ok (.return_, 1) := by decide +kernel
theorem dX1_takeItem_18 : decode cX1_takeItem 18 = .ok (.aload_n 0, 1) := by decide +kernel
theorem dX1_takeItem_19 : decode cX1_takeItem 19 = .ok (.getfield 27, 3) := by decide +kernel
theorem dX1_takeItem_22 : decode cX1_takeItem 22 = .ok (.iload_n 1, 1) := by decide +kernel
theorem dX1_takeItem_23 : decode cX1_takeItem 23 = .ok (.dup2, 1) := by decide +kernel
theorem dX1_takeItem_24 : decode cX1_takeItem 24 = .ok (.iaload, 1) := by decide +kernel
theorem dX1_takeItem_25 : decode cX1_takeItem 25 = .ok (.iconst 1, 1) := by decide +kernel
theorem dX1_takeItem_26 : decode cX1_takeItem 26 = .ok (.iadd, 1) := by decide +kernel
theorem dX1_takeItem_27 : decode cX1_takeItem 27 = .ok (.iastore, 1) := by decide +kernel
theorem dX1_takeItem_28 : decode cX1_takeItem 28 = .ok (.aload_n 0, 1) := by decide +kernel
theorem dX1_takeItem_29 : decode cX1_takeItem 29 = .ok (.getfield 30, 3) := by decide +kernel
theorem dX1_takeItem_32 : decode cX1_takeItem 32 = .ok (.iload_n 1, 1) := by decide +kernel
theorem dX1_takeItem_33 : decode cX1_takeItem 33 = .ok (.dup2, 1) := by decide +kernel
theorem dX1_takeItem_34 : decode cX1_takeItem 34 = .ok (.iaload, 1) := by decide +kernel
theorem dX1_takeItem_35 : decode cX1_takeItem 35 = .ok (.iload_n 3, 1) := by decide +kernel
theorem dX1_takeItem_36 : decode cX1_takeItem 36 = .ok (.iadd, 1) := by decide +kernel
theorem dX1_takeItem_37 : decode cX1_takeItem 37 = .ok (.iastore, 1) := by decide +kernel
theorem dX1_takeItem_38 : decode cX1_takeItem 38 = .ok (.return_, 1) := by decide +kernel
set_option maxRecDepth 20000 in
theorem ggX1_endDueCalls_X0_isDue : GoodIn wsX1_endDueCalls wsX0_isDue := goodIn_r _ [6, 7, 55, 56, 57, 58] (by decide +kernel) (by decide +kernel)
set_option maxRecDepth 20000 in
theorem gX1_endDueCalls_X0_isDue_n93 : GoodIn wsX1_endDueCalls (wsX0_isDue) := ggX1_endDueCalls_X0_isDue
set_option maxRecDepth 20000 in
theorem ggX1_endDueCalls_X1_endSilently : GoodIn wsX1_endDueCalls wsX1_endSilently := goodIn_r _ [12, 2, 13, 14, 15, 11, 16, 1, 17, 18, 19, 20, 21, 22, 23, 4, 24, 25, 26, 27, 28, 29, 30, 31, 32, 33, 34, 35, 36, 37, 38, 39, 40, 41, 42, 43, 44, 45, 46, 47, 48, 49, 50, 51, 52, 53, 54, 55, 56, 57, 58, 59, 60, 61, 62, 63, 64] (by decide +kernel) (by decide +kernel)
set_option maxRecDepth 20000 in
theorem gX1_endDueCalls_X1_endSilently : GoodIn wsX1_endDueCalls (wsV RX1 81 RX1 yX1_endSilently wsX1_endSilently) := goodIn_app (goodIn_of _ (by decide +kernel)) ggX1_endDueCalls_X1_endSilently
theorem dX1_endDueCalls_0 : decode cX1_endDueCalls 0 = .ok (.iconst 0, 1) := by decide +kernel
theorem dX1_endDueCalls_1 : decode cX1_endDueCalls 1 = .ok (.istore_n 2, 1) := by decide +kernel
theorem dX1_endDueCalls_2 : decode cX1_endDueCalls 2 = .ok (.iconst 0, 1) := by decide +kernel
theorem dX1_endDueCalls_3 : decode cX1_endDueCalls 3 = .ok (.istore_n 3, 1) := by decide +kernel
theorem dX1_endDueCalls_4 : decode cX1_endDueCalls 4 = .ok (.iload_n 3, 1) := by decide +kernel
theorem dX1_endDueCalls_5 : decode cX1_endDueCalls 5 = .ok (.aload_n 0, 1) := by decide +kernel
theorem dX1_endDueCalls_6 : decode cX1_endDueCalls 6 = .ok (.getfield 37, 3) := by decide +kernel
theorem dX1_endDueCalls_9 : decode cX1_endDueCalls 9 = .ok (.getfield 59, 3) := by decide +kernel
theorem dX1_endDueCalls_12 : decode cX1_endDueCalls 12 = .ok (.if_icmp .ge 40, 3) := by decide +kernel
theorem dX1_endDueCalls_15 : decode cX1_endDueCalls 15 = .ok (.aload_n 0, 1) := by decide +kernel
theorem dX1_endDueCalls_16 : decode cX1_endDueCalls 16 = .ok (.getfield 15, 3) := by decide +kernel
theorem dX1_endDueCalls_19 : decode cX1_endDueCalls 19 = .ok (.iload_n 3, 1) := by decide +kernel
theorem dX1_endDueCalls_20 : decode cX1_endDueCalls 20 = .ok (.iaload, 1) := by decide +kernel
theorem dX1_endDueCalls_21 : decode cX1_endDueCalls 21 = .ok (.iconst (-1), 1) := by decide +kernel
theorem dX1_endDueCalls_22 : decode cX1_endDueCalls 22 = .ok (.if_icmp .ne 24, 3) := by decide +kernel
theorem dX1_endDueCalls_25 : decode cX1_endDueCalls 25 = .ok (.aload_n 0, 1) := by decide +kernel
theorem dX1_endDueCalls_26 : decode cX1_endDueCalls 26 = .ok (.getfield 37, 3) := by decide +kernel
theorem dX1_endDueCalls_29 : decode cX1_endDueCalls 29 = .ok (.iload_n 3, 1) := by decide +kernel
theorem dX1_endDueCalls_30 : decode cX1_endDueCalls 30 = .ok (.iload_n 1, 1) := by decide +kernel
theorem dX1_endDueCalls_31 : decode cX1_endDueCalls 31 = .ok (.invokevirtual 93, 3) := by decide +kernel
theorem dX1_endDueCalls_34 : decode cX1_endDueCalls 34 = .ok (.ifCond .eq 12, 3) := by decide +kernel
theorem dX1_endDueCalls_37 : decode cX1_endDueCalls 37 = .ok (.iload_n 2, 1) := by decide +kernel
theorem dX1_endDueCalls_38 : decode cX1_endDueCalls 38 = .ok (.aload_n 0, 1) := by decide +kernel
theorem dX1_endDueCalls_39 : decode cX1_endDueCalls 39 = .ok (.iload_n 3, 1) := by decide +kernel
theorem dX1_endDueCalls_40 : decode cX1_endDueCalls 40 = .ok (.iconst 2, 1) := by decide +kernel
theorem dX1_endDueCalls_41 : decode cX1_endDueCalls 41 = .ok (.invokevirtual 81, 3) := by decide +kernel
theorem dX1_endDueCalls_44 : decode cX1_endDueCalls 44 = .ok (.iadd, 1) := by decide +kernel
theorem dX1_endDueCalls_45 : decode cX1_endDueCalls 45 = .ok (.istore_n 2, 1) := by decide +kernel
theorem dX1_endDueCalls_46 : decode cX1_endDueCalls 46 = .ok (.iinc 3 1, 3) := by decide +kernel
theorem dX1_endDueCalls_49 : decode cX1_endDueCalls 49 = .ok (.goto (-45), 3) := by decide +kernel
theorem dX1_endDueCalls_52 : decode cX1_endDueCalls 52 = .ok (.iload_n 2, 1) := by decide +kernel
theorem dX1_endDueCalls_53 : decode cX1_endDueCalls 53 = .ok (.ireturn, 1) := by decide +kernel
set_option maxRecDepth 20000 in
theorem ggX1_repeatRequests_X1_isRepeatDue : GoodIn wsX1_repeatRequests wsX1_isRepeatDue := goodIn_r _ [7, 8, 9, 10, 11, 35, 36, 37, 38, 39, 40, 41, 42, 43, 44] (by decide +kernel) (by decide +kernel)
set_option maxRecDepth 20000 in
theorem gX1_repeatRequests_X1_isRepeatDue : GoodIn wsX1_repeatRequests (wsV RX1 97 RX1 yX1_isRepeatDue wsX1_isRepeatDue) := goodIn_app (goodIn_of _ (by decide +kernel)) ggX1_repeatRequests_X1_isRepeatDue
set_option maxRecDepth 20000 in
theorem ggX1_repeatRequests_X1_sendRequest : GoodIn wsX1_repeatRequests wsX1_sendRequest := goodIn_r _ [15, 10, 11, 16, 17, 18, 19, 20, 21, 22, 23, 24, 25, 26, 27, 28, 29, 30, 31, 32, 33, 34, 35, 36, 37, 38, 39, 40, 41, 42, 43, 44, 49, 50, 51, 52, 53, 54] (by decide +kernel) (by decide +kernel)
set_option maxRecDepth 20000 in
theorem gX1_repeatRequests_X1_sendRequest : GoodIn wsX1_repeatRequests (wsV RX1 45 RX1 yX1_sendRequest wsX1_sendRequest) := goodIn_app (goodIn_of _ (by decide +kernel)) ggX1_repeatRequests_X1_sendRequest
theorem dX1_repeatRequests_0 : decode cX1_repeatRequests 0 = .ok (.iconst 0, 1) := by decide +kernel
theorem dX1_repeatRequests_1 : decode cX1_repeatRequests 1 = .ok (.istore_n 2, 1) := by decide +kernel
theorem dX1_repeatRequests_2 : decode cX1_repeatRequests 2 = .ok (.iload_n 2, 1) := by decide +kernel
theorem dX1_repeatRequests_3 : decode cX1_repeatRequests 3 = .ok (.aload_n 0, 1) := by decide +kernel
theorem dX1_repeatRequests_4 : decode cX1_repeatRequests 4 = .ok (.getfield 37, 3) := by decide +kernel
theorem dX1_repeatRequests_7 : decode cX1_repeatRequests 7 = .ok (.getfield 59, 3) := by decide +kernel
theorem dX1_repeatRequests_10 : decode cX1_repeatRequests 10 = .ok (.if_icmp .ge 44, 3) := by decide +kernel
theorem dX1_repeatRequests_13 : decode cX1_repeatRequests 13 = .ok (.aload_n 0, 1) := by decide +kernel
theorem dX1_repeatRequests_14 : decode cX1_repeatRequests 14 = .ok (.iload_n 2, 1) := by decide +kernel
theorem dX1_repeatRequests_15 : decode cX1_repeatRequests 15 = .ok (.iload_n 1, 1) := by decide +kernel
theorem dX1_repeatRequests_16 : decode cX1_repeatRequests 16 = .ok (.invokevirtual 97, 3) := by decide +kernel
theorem dX1_repeatRequests_19 : decode cX1_repeatRequests 19 = .ok (.ifCond .eq 29, 3) := by decide +kernel
theorem dX1_repeatRequests_22 : decode cX1_repeatRequests 22 = .ok (.aload_n 0, 1) := by decide +kernel
theorem dX1_repeatRequests_23 : decode cX1_repeatRequests 23 = .ok (.getfield 33, 3) := by decide +kernel
theorem dX1_repeatRequests_26 : decode cX1_repeatRequests 26 = .ok (.bipush 10, 2) := by decide +kernel
theorem dX1_repeatRequests_28 : decode cX1_repeatRequests 28 = .ok (.if_icmp .lt 20, 3) := by decide +kernel
theorem dX1_repeatRequests_31 : decode cX1_repeatRequests 31 = .ok (.aload_n 0, 1) := by decide +kernel
theorem dX1_repeatRequests_32 : decode cX1_repeatRequests 32 = .ok (.dup, 1) := by decide +kernel
theorem dX1_repeatRequests_33 : decode cX1_repeatRequests 33 = .ok (.getfield 33, 3) := by decide +kernel
theorem dX1_repeatRequests_36 : decode cX1_repeatRequests 36 = .ok (.bipush 10, 2) := by decide +kernel
theorem dX1_repeatRequests_38 : decode cX1_repeatRequests 38 = .ok (.isub, 1) := by decide +kernel
theorem dX1_repeatRequests_39 : decode cX1_repeatRequests 39 = .ok (.putfield 33, 3) := by decide +kernel
theorem dX1_repeatRequests_42 : decode cX1_repeatRequests 42 = .ok (.aload_n 0, 1) := by decide +kernel
theorem dX1_repeatRequests_43 : decode cX1_repeatRequests 43 = .ok (.iload_n 2, 1) := by decide +kernel
theorem dX1_repeatRequests_44 : decode cX1_repeatRequests 44 = .ok (.iload_n 1, 1) := by decide +kernel
theorem dX1_repeatRequests_45 : decode cX1_repeatRequests 45 = .ok (.invokevirtual 45, 3) := by decide +kernel
theorem dX1_repeatRequests_48 : decode cX1_repeatRequests 48 = .ok (.iinc 2 1, 3) := by decide +kernel
theorem dX1_repeatRequests_51 : decode cX1_repeatRequests 51 = .ok (.goto (-49), 3) := by decide +kernel
theorem dX1_repeatRequests_54 : decode cX1_repeatRequests 54 = .ok (.return_, 1) := by decide +kernel
theorem dX1_isRepeatDue_0 : decode cX1_isRepeatDue 0 = .ok (.aload_n 0, 1) := by decide +kernel
theorem dX1_isRepeatDue_1 : decode cX1_isRepeatDue 1 = .ok (.getfield 15, 3) := by decide +kernel
theorem dX1_isRepeatDue_4 : decode cX1_isRepeatDue 4 = .ok (.iload_n 1, 1) := by decide +kernel
theorem dX1_isRepeatDue_5 : decode cX1_isRepeatDue 5 = .ok (.iaload, 1) := by decide +kernel
theorem dX1_isRepeatDue_6 : decode cX1_isRepeatDue 6 = .ok (.iconst (-1), 1) := by decide +kernel
theorem dX1_isRepeatDue_7 : decode cX1_isRepeatDue 7 = .ok (.if_icmp .ne 39, 3) := by decide +kernel
theorem dX1_isRepeatDue_10 : decode cX1_isRepeatDue 10 = .ok (.aload_n 0, 1) := by decide +kernel
theorem dX1_isRepeatDue_11 : decode cX1_isRepeatDue 11 = .ok (.getfield 27, 3) := by decide +kernel
theorem dX1_isRepeatDue_14 : decode cX1_isRepeatDue 14 = .ok (.iload_n 1, 1) := by decide +kernel
theorem dX1_isRepeatDue_15 : decode cX1_isRepeatDue 15 = .ok (.iaload, 1) := by decide +kernel
theorem dX1_isRepeatDue_16 : decode cX1_isRepeatDue 16 = .ok (.ifCond .ne 30, 3) := by decide +kernel
theorem dX1_isRepeatDue_19 : decode cX1_isRepeatDue 19 = .ok (.aload_n 0, 1) := by decide +kernel
theorem dX1_isRepeatDue_20 : decode cX1_isRepeatDue 20 = .ok (.getfield 21, 3) := by decide +kernel
theorem dX1_isRepeatDue_23 : decode cX1_isRepeatDue 23 = .ok (.iload_n 1, 1) := by decide +kernel
theorem dX1_isRepeatDue_24 : decode cX1_isRepeatDue 24 = .ok (.iaload, 1) := by decide +kernel
theorem dX1_isRepeatDue_25 : decode cX1_isRepeatDue 25 = .ok (.iconst 4, 1) := by decide +kernel
theorem dX1_isRepeatDue_26 : decode cX1_isRepeatDue 26 = .ok (.if_icmp .ge 20, 3) := by decide +kernel
theorem dX1_isRepeatDue_29 : decode cX1_isRepeatDue 29 = .ok (.iload_n 2, 1) := by decide +kernel
theorem dX1_isRepeatDue_30 : decode cX1_isRepeatDue 30 = .ok (.aload_n 0, 1) := by decide +kernel
theorem dX1_isRepeatDue_31 : decode cX1_isRepeatDue 31 = .ok (.getfield 24, 3) := by decide +kernel
theorem dX1_isRepeatDue_34 : decode cX1_isRepeatDue 34 = .ok (.iload_n 1, 1) := by decide +kernel
theorem dX1_isRepeatDue_35 : decode cX1_isRepeatDue 35 = .ok (.iaload, 1) := by decide +kernel
theorem dX1_isRepeatDue_36 : decode cX1_isRepeatDue 36 = .ok (.isub, 1) := by decide +kernel
theorem dX1_isRepeatDue_37 : decode cX1_isRepeatDue 37 = .ok (.bipush 8, 2) := by decide +kernel
theorem dX1_isRepeatDue_39 : decode cX1_isRepeatDue 39 = .ok (.if_icmp .lt 7, 3) := by decide +kernel
theorem dX1_isRepeatDue_42 : decode cX1_isRepeatDue 42 = .ok (.iconst 1, 1) := by decide +kernel
theorem dX1_isRepeatDue_43 : decode cX1_isRepeatDue 43 = .ok (.goto 4, 3) := by decide +kernel
theorem dX1_isRepeatDue_46 : decode cX1_isRepeatDue 46 = .ok (.iconst 0, 1) := by decide +kernel
theorem dX1_isRepeatDue_47 : decode cX1_isRepeatDue 47 = .ok (.ireturn, 1) := by decide +kernel
theorem dX2_init_0 : decode cX2_init 0 = .ok (.aload_n 0, 1) := by decide +kernel
theorem dX2_init_1 : decode cX2_init 1 = .ok (.invokespecial 3, 3) := by decide +kernel
theorem dX2_init_4 : decode cX2_init 4 = .ok (.aload_n 0, 1) := by decide +kernel
theorem dX2_init_5 : decode cX2_init 5 = .ok (.bipush 40, 2) := by decide +kernel
theorem dX2_init_7 : decode cX2_init 7 = .ok (.newarray .int, 2) := by decide +kernel
theorem dX2_init_9 : decode cX2_init 9 = .ok (.putfield 9, 3) := by decide +kernel
theorem dX2_init_12 : decode cX2_init 12 = .ok (.aload_n 0, 1) := by decide +kernel
theorem dX2_init_13 : decode cX2_init 13 = .ok (.bipush 40, 2) := by decide +kernel
theorem dX2_init_15 : decode cX2_init 15 = .ok (.newarray .int, 2) := by decide +kernel
theorem dX2_init_17 : decode cX2_init 17 = .ok (.putfield 15, 3) := by decide +kernel
theorem dX2_init_20 : decode cX2_init 20 = .ok (.aload_n 0, 1) := by decide +kernel
theorem dX2_init_21 : decode cX2_init 21 = .ok (.bipush 40, 2) := by decide +kernel
theorem dX2_init_23 : decode cX2_init 23 = .ok (.newarray .int, 2) := by decide +kernel
theorem dX2_init_25 : decode cX2_init 25 = .ok (.putfield 18, 3) := by decide +kernel
theorem dX2_init_28 : decode cX2_init 28 = .ok (.aload_n 0, 1) := by decide +kernel
theorem dX2_init_29 : decode cX2_init 29 = .ok (.bipush 40, 2) := by decide +kernel
theorem dX2_init_31 : decode cX2_init 31 = .ok (.newarray .int, 2) := by decide +kernel
theorem dX2_init_33 : decode cX2_init 33 = .ok (.putfield 21, 3) := by decide +kernel
theorem dX2_init_36 : decode cX2_init 36 = .ok (.return_, 1) := by decide +kernel
theorem dX2_has_0 : decode cX2_has 0 = .ok (.iload_n 1, 1) := by decide +kernel
theorem dX2_has_1 : decode cX2_has 1 = .ok (.ifCond .lt 15, 3) := by decide +kernel
theorem dX2_has_4 : decode cX2_has 4 = .ok (.iload_n 1, 1) := by decide +kernel
theorem dX2_has_5 : decode cX2_has 5 = .ok (.aload_n 0, 1) := by decide +kernel
theorem dX2_has_6 : decode cX2_has 6 = .ok (.getfield 24, 3) := by decide +kernel
theorem dX2_has_9 : decode cX2_has 9 = .ok (.if_icmp .ge 7, 3) := by decide +kernel
theorem dX2_has_12 : decode cX2_has 12 = .ok (.iconst 1, 1) := by decide +kernel
theorem dX2_has_13 : decode cX2_has 13 = .ok (.goto 4, 3) := by decide +kernel
theorem dX2_has_16 : decode cX2_has 16 = .ok (.iconst 0, 1) := by decide +kernel
theorem dX2_has_17 : decode cX2_has 17 = .ok (.ireturn, 1) := by decide +kernel
set_option maxRecDepth 20000 in
theorem ggX2_slotOf_J9_floorMod_7cf53 : GoodIn wsX2_slotOf wsJ9_floorMod_7cf53 := goodIn_r _ [5] (by decide +kernel) (by decide +kernel)
set_option maxRecDepth 20000 in
theorem gX2_slotOf_J9_floorMod_7cf53 : GoodIn wsX2_slotOf (va_wsS RX2 31 yJ9_floorMod_7cf53 wsJ9_floorMod_7cf53) := goodIn_app (goodIn_of _ (by decide +kernel)) ggX2_slotOf_J9_floorMod_7cf53
theorem dX2_slotOf_0 : decode cX2_slotOf 0 = .ok (.aload_n 0, 1) := by decide +kernel
theorem dX2_slotOf_1 : decode cX2_slotOf 1 = .ok (.getfield 28, 3) := by decide +kernel
theorem dX2_slotOf_4 : decode cX2_slotOf 4 = .ok (.iload_n 1, 1) := by decide +kernel
theorem dX2_slotOf_5 : decode cX2_slotOf 5 = .ok (.iadd, 1) := by decide +kernel
theorem dX2_slotOf_6 : decode cX2_slotOf 6 = .ok (.bipush 40, 2) := by decide +kernel
theorem dX2_slotOf_8 : decode cX2_slotOf 8 = .ok (.invokestatic 31, 3) := by decide +kernel
theorem dX2_slotOf_11 : decode cX2_slotOf 11 = .ok (.ireturn, 1) := by decide +kernel
set_option maxRecDepth 20000 in
theorem ggX2_send_X2_slotOf : GoodIn wsX2_send wsX2_slotOf := goodIn_r _ [10, 11, 12, 13, 14, 15, 16, 17, 18, 19, 20, 21] (by decide +kernel) (by decide +kernel)
set_option maxRecDepth 20000 in
theorem gX2_send_X2_slotOf : GoodIn wsX2_send (wsV RX2 37 RX2 yX2_slotOf wsX2_slotOf) := goodIn_app (goodIn_of _ (by decide +kernel)) ggX2_send_X2_slotOf
theorem dX2_send_0 : decode cX2_send 0 = .ok (.aload_n 0, 1) := by decide +kernel
theorem dX2_send_1 : decode cX2_send 1 = .ok (.getfield 24, 3) := by decide +kernel
theorem dX2_send_4 : decode cX2_send 4 = .ok (.bipush 40, 2) := by decide +kernel
theorem dX2_send_6 : decode cX2_send 6 = .ok (.if_icmp .lt 4, 3) := by decide +kernel
theorem dX2_send_9 : decode cX2_send 9 = .ok (.return_, 1) := by decide +kernel
theorem dX2_send_10 : decode cX2_send 10 = .ok (.aload_n 0, 1) := by decide +kernel
theorem dX2_send_11 : decode cX2_send 11 = .ok (.aload_n 0, 1) := by decide +kernel
theorem dX2_send_12 : decode cX2_send 12 = .ok (.getfield 24, 3) := by decide +kernel
theorem dX2_send_15 : decode cX2_send 15 = .ok (.invokevirtual 37, 3) := by decide +kernel
theorem dX2_send_18 : decode cX2_send 18 = .ok (.istore 5, 2) := by decide +kernel
theorem dX2_send_20 : decode cX2_send 20 = .ok (.aload_n 0, 1) := by decide +kernel
theorem dX2_send_21 : decode cX2_send 21 = .ok (.getfield 9, 3) := by decide +kernel
theorem dX2_send_24 : decode cX2_send 24 = .ok (.iload 5, 2) := by decide +kernel
theorem dX2_send_26 : decode cX2_send 26 = .ok (.iload_n 1, 1) := by decide +kernel
theorem dX2_send_27 : decode cX2_send 27 = .ok (.iastore, 1) := by decide +kernel
theorem dX2_send_28 : decode cX2_send 28 = .ok (.aload_n 0, 1) := by decide +kernel
theorem dX2_send_29 : decode cX2_send 29 = .ok (.getfield 15, 3) := by decide +kernel
theorem dX2_send_32 : decode cX2_send 32 = .ok (.iload 5, 2) := by decide +kernel
theorem dX2_send_34 : decode cX2_send 34 = .ok (.iload_n 2, 1) := by decide +kernel
theorem dX2_send_35 : decode cX2_send 35 = .ok (.iastore, 1) := by decide +kernel
theorem dX2_send_36 : decode cX2_send 36 = .ok (.aload_n 0, 1) := by decide +kernel
theorem dX2_send_37 : decode cX2_send 37 = .ok (.getfield 18, 3) := by decide +kernel
theorem dX2_send_40 : decode cX2_send 40 = .ok (.iload 5, 2) := by decide +kernel
theorem dX2_send_42 : decode cX2_send 42 = .ok (.iload_n 3, 1) := by decide +kernel
theorem dX2_send_43 : decode cX2_send 43 = .ok (.iastore, 1) := by decide +kernel
theorem dX2_send_44 : decode cX2_send 44 = .ok (.aload_n 0, 1) := by decide +kernel
theorem dX2_send_45 : decode cX2_send 45 = .ok (.getfield 21, 3) := by decide +kernel
theorem dX2_send_48 : decode cX2_send 48 = .ok (.iload 5, 2) := by decide +kernel
theorem dX2_send_50 : decode cX2_send 50 = .ok (.iload 4, 2) := by decide +kernel
theorem dX2_send_52 : decode cX2_send 52 = .ok (.iastore, 1) := by decide +kernel
theorem dX2_send_53 : decode cX2_send 53 = .ok (.aload_n 0, 1) := by decide +kernel
theorem dX2_send_54 : decode cX2_send 54 = .ok (.dup, 1) := by decide +kernel
theorem dX2_send_55 : decode cX2_send 55 = .ok (.getfield 24, 3) := by decide +kernel
theorem dX2_send_58 : decode cX2_send 58 = .ok (.iconst 1, 1) := by decide +kernel
theorem dX2_send_59 : decode cX2_send 59 = .ok (.iadd, 1) := by decide +kernel
theorem dX2_send_60 : decode cX2_send 60 = .ok (.putfield 24, 3) := by decide +kernel
theorem dX2_send_63 : decode cX2_send 63 = .ok (.return_, 1) := by decide +kernel
set_option maxRecDepth 20000 in
theorem ggX2_removeFirst_X2_slotOf : GoodIn wsX2_removeFirst wsX2_slotOf := goodIn_r _ [7, 1, 8, 9, 10, 11, 12, 13, 14, 15, 16, 17] (by decide +kernel) (by decide +kernel)
set_option maxRecDepth 20000 in
theorem gX2_removeFirst_X2_slotOf : GoodIn wsX2_removeFirst (wsV RX2 37 RX2 yX2_slotOf wsX2_slotOf) := goodIn_app (goodIn_of _ (by decide +kernel)) ggX2_removeFirst_X2_slotOf
theorem dX2_removeFirst_0 : decode cX2_removeFirst 0 = .ok (.aload_n 0, 1) := by decide +kernel
theorem dX2_removeFirst_1 : decode cX2_removeFirst 1 = .ok (.aload_n 0, 1) := by decide +kernel
theorem dX2_removeFirst_2 : decode cX2_removeFirst 2 = .ok (.iconst 1, 1) := by decide +kernel
theorem dX2_removeFirst_3 : decode cX2_removeFirst 3 = .ok (.invokevirtual 37, 3) := by decide +kernel
theorem dX2_removeFirst_6 : decode cX2_removeFirst 6 = .ok (.putfield 28, 3) := by decide +kernel
theorem dX2_removeFirst_9 : decode cX2_removeFirst 9 = .ok (.aload_n 0, 1) := by decide +kernel
theorem dX2_removeFirst_10 : decode cX2_removeFirst 10 = .ok (.dup, 1) := by decide +kernel
theorem dX2_removeFirst_11 : decode cX2_removeFirst 11 = .ok (.getfield 24, 3) := by decide +kernel
theorem dX2_removeFirst_14 : decode cX2_removeFirst 14 = .ok (.iconst 1, 1) := by decide +kernel
theorem dX2_removeFirst_15 : decode cX2_removeFirst 15 = .ok (.isub, 1) := by decide +kernel
theorem dX2_removeFirst_16 : decode cX2_removeFirst 16 = .ok (.putfield 24, 3) := by decide +kernel
theorem dX2_removeFirst_19 : decode cX2_removeFirst 19 = .ok (.return_, 1) := by decide +kernel
theorem dX3_init_0 : decode cX3_init 0 = .ok (.aload_n 0, 1) := by decide +kernel
theorem dX3_init_1 : decode cX3_init 1 = .ok (.invokespecial 3, 3) := by decide +kernel
theorem dX3_init_4 : decode cX3_init 4 = .ok (.aload_n 0, 1) := by decide +kernel
theorem dX3_init_5 : decode cX3_init 5 = .ok (.bipush 40, 2) := by decide +kernel
theorem dX3_init_7 : decode cX3_init 7 = .ok (.newarray .int, 2) := by decide +kernel
theorem dX3_init_9 : decode cX3_init 9 = .ok (.putfield 9, 3) := by decide +kernel
theorem dX3_init_12 : decode cX3_init 12 = .ok (.aload_n 0, 1) := by decide +kernel
theorem dX3_init_13 : decode cX3_init 13 = .ok (.bipush 40, 2) := by decide +kernel
theorem dX3_init_15 : decode cX3_init 15 = .ok (.newarray .int, 2) := by decide +kernel
theorem dX3_init_17 : decode cX3_init 17 = .ok (.putfield 15, 3) := by decide +kernel
theorem dX3_init_20 : decode cX3_init 20 = .ok (.aload_n 0, 1) := by decide +kernel
theorem dX3_init_21 : decode cX3_init 21 = .ok (.bipush 40, 2) := by decide +kernel
theorem dX3_init_23 : decode cX3_init 23 = .ok (.newarray .int, 2) := by decide +kernel
theorem dX3_init_25 : decode cX3_init 25 = .ok (.putfield 18, 3) := by decide +kernel
theorem dX3_init_28 : decode cX3_init 28 = .ok (.aload_n 0, 1) := by decide +kernel
theorem dX3_init_29 : decode cX3_init 29 = .ok (.bipush 40, 2) := by decide +kernel
theorem dX3_init_31 : decode cX3_init 31 = .ok (.newarray .int, 2) := by decide +kernel
theorem dX3_init_33 : decode cX3_init 33 = .ok (.putfield 21, 3) := by decide +kernel
theorem dX3_init_36 : decode cX3_init 36 = .ok (.aload_n 0, 1) := by decide +kernel
theorem dX3_init_37 : decode cX3_init 37 = .ok (.bipush 40, 2) := by decide +kernel
theorem dX3_init_39 : decode cX3_init 39 = .ok (.newarray .int, 2) := by decide +kernel
theorem dX3_init_41 : decode cX3_init 41 = .ok (.putfield 24, 3) := by decide +kernel
theorem dX3_init_44 : decode cX3_init 44 = .ok (.aload_n 0, 1) := by decide +kernel
theorem dX3_init_45 : decode cX3_init 45 = .ok (.aload_n 1, 1) := by decide +kernel
theorem dX3_init_46 : decode cX3_init 46 = .ok (.putfield 27, 3) := by decide +kernel
theorem dX3_init_49 : decode cX3_init 49 = .ok (.aload_n 0, 1) := by decide +kernel
theorem dX3_init_50 : decode cX3_init 50 = .ok (.aload_n 2, 1) := by decide +kernel
theorem dX3_init_51 : decode cX3_init 51 = .ok (.putfield 31, 3) := by decide +kernel
theorem dX3_init_54 : decode cX3_init 54 = .ok (.return_, 1) := by decide +kernel
set_option maxRecDepth 20000 in
theorem ggX3_take_X3_takeRequest : GoodIn wsX3_take wsX3_takeRequest := goodIn_r _ [7, 1, 8, 2, 9, 10, 11, 6, 12, 13, 14, 15, 16, 17, 18, 19, 20, 21, 22, 23, 24, 25, 26, 27, 28, 29, 30, 31, 32, 33, 34, 35, 36, 37, 38, 43, 44, 45, 46, 47, 48, 49, 50, 51, 52, 53, 54, 55, 56, 57, 58, 59, 60] (by decide +kernel) (by decide +kernel)
set_option maxRecDepth 20000 in
theorem gX3_take_X3_takeRequest : GoodIn wsX3_take (wsV RX3 35 RX3 yX3_takeRequest wsX3_takeRequest) := goodIn_app (goodIn_of _ (by decide +kernel)) ggX3_take_X3_takeRequest
set_option maxRecDepth 20000 in
theorem ggX3_take_X3_takeCancellation : GoodIn wsX3_take wsX3_takeCancellation := goodIn_r _ [42, 1, 43, 44, 45, 46, 47, 48, 49, 50] (by decide +kernel) (by decide +kernel)
set_option maxRecDepth 20000 in
theorem gX3_take_X3_takeCancellation : GoodIn wsX3_take (wsV RX3 39 RX3 yX3_takeCancellation wsX3_takeCancellation) := goodIn_app (goodIn_of _ (by decide +kernel)) ggX3_take_X3_takeCancellation
theorem dX3_take_0 : decode cX3_take 0 = .ok (.iload_n 1, 1) := by decide +kernel
theorem dX3_take_1 : decode cX3_take 1 = .ok (.ifCond .ne 13, 3) := by decide +kernel
theorem dX3_take_4 : decode cX3_take 4 = .ok (.aload_n 0, 1) := by decide +kernel
theorem dX3_take_5 : decode cX3_take 5 = .ok (.iload_n 2, 1) := by decide +kernel
theorem dX3_take_6 : decode cX3_take 6 = .ok (.iload 4, 2) := by decide +kernel
theorem dX3_take_8 : decode cX3_take 8 = .ok (.invokevirtual 35, 3) := by decide +kernel
theorem dX3_take_11 : decode cX3_take 11 = .ok (.goto 36, 3) := by decide +kernel
theorem dX3_take_14 : decode cX3_take 14 = .ok (.iload_n 1, 1) := by decide +kernel
theorem dX3_take_15 : decode cX3_take 15 = .ok (.iconst 1, 1) := by decide +kernel
theorem dX3_take_16 : decode cX3_take 16 = .ok (.if_icmp .ne 11, 3) := by decide +kernel
theorem dX3_take_19 : decode cX3_take 19 = .ok (.aload_n 0, 1) := by decide +kernel
theorem dX3_take_20 : decode cX3_take 20 = .ok (.iload_n 2, 1) := by decide +kernel
theorem dX3_take_21 : decode cX3_take 21 = .ok (.invokevirtual 39, 3) := by decide +kernel
theorem dX3_take_24 : decode cX3_take 24 = .ok (.goto 23, 3) := by decide +kernel
theorem dX3_take_27 : decode cX3_take 27 = .ok (.aload_n 0, 1) := by decide +kernel
theorem dX3_take_28 : decode cX3_take 28 = .ok (.getfield 9, 3) := by decide +kernel
theorem dX3_take_31 : decode cX3_take 31 = .ok (.iload_n 2, 1) := by decide +kernel
theorem dX3_take_32 : decode cX3_take 32 = .ok (.iaload, 1) := by decide +kernel
theorem dX3_take_33 : decode cX3_take 33 = .ok (.iconst 1, 1) := by decide +kernel
theorem dX3_take_34 : decode cX3_take 34 = .ok (.if_icmp .ne 13, 3) := by decide +kernel
theorem dX3_take_37 : decode cX3_take 37 = .ok (.aload_n 0, 1) := by decide +kernel
theorem dX3_take_38 : decode cX3_take 38 = .ok (.getfield 15, 3) := by decide +kernel
theorem dX3_take_41 : decode cX3_take 41 = .ok (.iload_n 2, 1) := by decide +kernel
theorem dX3_take_42 : decode cX3_take 42 = .ok (.dup2, 1) := by decide +kernel
theorem dX3_take_43 : decode cX3_take 43 = .ok (.iaload, 1) := by decide +kernel
theorem dX3_take_44 : decode cX3_take 44 = .ok (.iload_n 3, 1) := by decide +kernel
theorem dX3_take_45 : decode cX3_take 45 = .ok (.iadd, 1) := by decide +kernel
theorem dX3_take_46 : decode cX3_take 46 = .ok (.iastore, 1) := by decide +kernel
theorem dX3_take_47 : decode cX3_take 47 = .ok (.return_, 1) := by decide +kernel
set_option maxRecDepth 20000 in
theorem ggX3_takeRequest_X3_sendAnswer : GoodIn wsX3_takeRequest wsX3_sendAnswer := goodIn_r _ [8, 9, 10, 11, 12, 13, 14, 15, 16, 17, 18, 19, 20, 21, 22, 23, 24, 25, 26, 27, 28, 29, 35, 36, 37, 38, 39, 40, 41, 42, 43, 44, 45, 46, 47, 48] (by decide +kernel) (by decide +kernel)
set_option maxRecDepth 20000 in
theorem gX3_takeRequest_X3_sendAnswer : GoodIn wsX3_takeRequest (wsV RX3 43 RX3 yX3_sendAnswer wsX3_sendAnswer) := goodIn_app (goodIn_of _ (by decide +kernel)) ggX3_takeRequest_X3_sendAnswer
set_option maxRecDepth 20000 in
theorem ggX3_takeRequest_X0_isDue : GoodIn wsX3_takeRequest wsX0_isDue := goodIn_r _ [33, 34, 49, 50, 51, 52] (by decide +kernel) (by decide +kernel)
set_option maxRecDepth 20000 in
theorem gX3_takeRequest_X0_isDue_n46 : GoodIn wsX3_takeRequest (wsX0_isDue) := ggX3_takeRequest_X0_isDue
theorem dX3_takeRequest_0 : decode cX3_takeRequest 0 = .ok (.aload_n 0, 1) := by decide +kernel
theorem dX3_takeRequest_1 : decode cX3_takeRequest 1 = .ok (.getfield 9, 3) := by decide +kernel
theorem dX3_takeRequest_4 : decode cX3_takeRequest 4 = .ok (.iload_n 1, 1) := by decide +kernel
theorem dX3_takeRequest_5 : decode cX3_takeRequest 5 = .ok (.iaload, 1) := by decide +kernel
theorem dX3_takeRequest_6 : decode cX3_takeRequest 6 = .ok (.iconst 2, 1) := by decide +kernel
theorem dX3_takeRequest_7 : decode cX3_takeRequest 7 = .ok (.if_icmp .ne 11, 3) := by decide +kernel
theorem dX3_takeRequest_10 : decode cX3_takeRequest 10 = .ok (.aload_n 0, 1) := by decide +kernel
theorem dX3_takeRequest_11 : decode cX3_takeRequest 11 = .ok (.iload_n 1, 1) := by decide +kernel
theorem dX3_takeRequest_12 : decode cX3_takeRequest 12 = .ok (.invokevirtual 43, 3) := by decide +kernel
theorem dX3_takeRequest_15 : decode cX3_takeRequest 15 = .ok (.goto 38, 3) := by decide +kernel
theorem dX3_takeRequest_18 : decode cX3_takeRequest 18 = .ok (.aload_n 0, 1) := by decide +kernel
theorem dX3_takeRequest_19 : decode cX3_takeRequest 19 = .ok (.getfield 9, 3) := by decide +kernel
theorem dX3_takeRequest_22 : decode cX3_takeRequest 22 = .ok (.iload_n 1, 1) := by decide +kernel
theorem dX3_takeRequest_23 : decode cX3_takeRequest 23 = .ok (.iaload, 1) := by decide +kernel
theorem dX3_takeRequest_24 : decode cX3_takeRequest 24 = .ok (.ifCond .ne 29, 3) := by decide +kernel
theorem dX3_takeRequest_27 : decode cX3_takeRequest 27 = .ok (.aload_n 0, 1) := by decide +kernel
theorem dX3_takeRequest_28 : decode cX3_takeRequest 28 = .ok (.getfield 27, 3) := by decide +kernel
theorem dX3_takeRequest_31 : decode cX3_takeRequest 31 = .ok (.iload_n 1, 1) := by decide +kernel
theorem dX3_takeRequest_32 : decode cX3_takeRequest 32 = .ok (.iload_n 2, 1) := by decide +kernel
theorem dX3_takeRequest_33 : decode cX3_takeRequest 33 = .ok (.invokevirtual 46, 3) := by decide +kernel
theorem dX3_takeRequest_36 : decode cX3_takeRequest 36 = .ok (.ifCond .ne 17, 3) := by decide +kernel
theorem dX3_takeRequest_39 : decode cX3_takeRequest 39 = .ok (.aload_n 0, 1) := by decide +kernel
theorem dX3_takeRequest_40 : decode cX3_takeRequest 40 = .ok (.getfield 9, 3) := by decide +kernel
theorem dX3_takeRequest_43 : decode cX3_takeRequest 43 = .ok (.iload_n 1, 1) := by decide +kernel
theorem dX3_takeRequest_44 : decode cX3_takeRequest 44 = .ok (.iconst 1, 1) := by decide +kernel
theorem dX3_takeRequest_45 : decode cX3_takeRequest 45 = .ok (.iastore, 1) := by decide +kernel
theorem dX3_takeRequest_46 : decode cX3_takeRequest 46 = .ok (.aload_n 0, 1) := by decide +kernel
theorem dX3_takeRequest_47 : decode cX3_takeRequest 47 = .ok (.getfield 15, 3) := by decide +kernel
theorem dX3_takeRequest_50 : decode cX3_takeRequest 50 = .ok (.iload_n 1, 1) := by decide +kernel
theorem dX3_takeRequest_51 : decode cX3_takeRequest 51 = .ok (.iconst 2, 1) := by decide +kernel
theorem dX3_takeRequest_52 : decode cX3_takeRequest 52 = .ok (.iastore, 1) := by decide +kernel
theorem dX3_takeRequest_53 : decode cX3_takeRequest 53 = .ok (.return_, 1) := by decide +kernel
theorem dX3_takeCancellation_0 : decode cX3_takeCancellation 0 = .ok (.aload_n 0, 1) := by decide +kernel
theorem dX3_takeCancellation_1 : decode cX3_takeCancellation 1 = .ok (.getfield 9, 3) := by decide +kernel
theorem dX3_takeCancellation_4 : decode cX3_takeCancellation 4 = .ok (.iload_n 1, 1) := by decide +kernel
theorem dX3_takeCancellation_5 : decode cX3_takeCancellation 5 = .ok (.iaload, 1) := by decide +kernel
theorem dX3_takeCancellation_6 : decode cX3_takeCancellation 6 = .ok (.iconst 2, 1) := by decide +kernel
theorem dX3_takeCancellation_7 : decode cX3_takeCancellation 7 = .ok (.if_icmp .eq 10, 3) := by decide +kernel
theorem dX3_takeCancellation_10 : decode cX3_takeCancellation 10 = .ok (.aload_n 0, 1) := by decide +kernel
theorem dX3_takeCancellation_11 : decode cX3_takeCancellation 11 = .ok (.getfield 9, 3) := by decide +kernel
theorem dX3_takeCancellation_14 : decode cX3_takeCancellation 14 = .ok (.iload_n 1, 1) := by decide +kernel
theorem dX3_takeCancellation_15 : decode cX3_takeCancellation 15 = .ok (.iconst 3, 1) := by decide +kernel
theorem dX3_takeCancellation_16 : decode cX3_takeCancellation 16 = .ok (.iastore, 1) := by decide +kernel
theorem dX3_takeCancellation_17 : decode cX3_takeCancellation 17 = .ok (.return_, 1) := by decide +kernel
set_option maxRecDepth 20000 in
theorem ggX3_closeDueTasks_X0_isDue : GoodIn wsX3_closeDueTasks wsX0_isDue := goodIn_r _ [6, 7, 16, 17, 18, 19] (by decide +kernel) (by decide +kernel)
set_option maxRecDepth 20000 in
theorem gX3_closeDueTasks_X0_isDue_n46 : GoodIn wsX3_closeDueTasks (wsX0_isDue) := ggX3_closeDueTasks_X0_isDue
theorem dX3_closeDueTasks_0 : decode cX3_closeDueTasks 0 = .ok (.iconst 0, 1) := by decide +kernel
theorem dX3_closeDueTasks_1 : decode cX3_closeDueTasks 1 = .ok (.istore_n 2, 1) := by decide +kernel
theorem dX3_closeDueTasks_2 : decode cX3_closeDueTasks 2 = .ok (.iload_n 2, 1) := by decide +kernel
theorem dX3_closeDueTasks_3 : decode cX3_closeDueTasks 3 = .ok (.aload_n 0, 1) := by decide +kernel
theorem dX3_closeDueTasks_4 : decode cX3_closeDueTasks 4 = .ok (.getfield 27, 3) := by decide +kernel
theorem dX3_closeDueTasks_7 : decode cX3_closeDueTasks 7 = .ok (.getfield 52, 3) := by decide +kernel
theorem dX3_closeDueTasks_10 : decode cX3_closeDueTasks 10 = .ok (.if_icmp .ge 38, 3) := by decide +kernel
theorem dX3_closeDueTasks_13 : decode cX3_closeDueTasks 13 = .ok (.aload_n 0, 1) := by decide +kernel
theorem dX3_closeDueTasks_14 : decode cX3_closeDueTasks 14 = .ok (.getfield 9, 3) := by decide +kernel
theorem dX3_closeDueTasks_17 : decode cX3_closeDueTasks 17 = .ok (.iload_n 2, 1) := by decide +kernel
theorem dX3_closeDueTasks_18 : decode cX3_closeDueTasks 18 = .ok (.iaload, 1) := by decide +kernel
theorem dX3_closeDueTasks_19 : decode cX3_closeDueTasks 19 = .ok (.iconst 1, 1) := by decide +kernel
theorem dX3_closeDueTasks_20 : decode cX3_closeDueTasks 20 = .ok (.if_icmp .ne 22, 3) := by decide +kernel
theorem dX3_closeDueTasks_23 : decode cX3_closeDueTasks 23 = .ok (.aload_n 0, 1) := by decide +kernel
theorem dX3_closeDueTasks_24 : decode cX3_closeDueTasks 24 = .ok (.getfield 27, 3) := by decide +kernel
theorem dX3_closeDueTasks_27 : decode cX3_closeDueTasks 27 = .ok (.iload_n 2, 1) := by decide +kernel
theorem dX3_closeDueTasks_28 : decode cX3_closeDueTasks 28 = .ok (.iload_n 1, 1) := by decide +kernel
theorem dX3_closeDueTasks_29 : decode cX3_closeDueTasks 29 = .ok (.invokevirtual 46, 3) := by decide +kernel
theorem dX3_closeDueTasks_32 : decode cX3_closeDueTasks 32 = .ok (.ifCond .eq 10, 3) := by decide +kernel
theorem dX3_closeDueTasks_35 : decode cX3_closeDueTasks 35 = .ok (.aload_n 0, 1) := by decide +kernel
theorem dX3_closeDueTasks_36 : decode cX3_closeDueTasks 36 = .ok (.getfield 9, 3) := by decide +kernel
theorem dX3_closeDueTasks_39 : decode cX3_closeDueTasks 39 = .ok (.iload_n 2, 1) := by decide +kernel
theorem dX3_closeDueTasks_40 : decode cX3_closeDueTasks 40 = .ok (.iconst 3, 1) := by decide +kernel
theorem dX3_closeDueTasks_41 : decode cX3_closeDueTasks 41 = .ok (.iastore, 1) := by decide +kernel
theorem dX3_closeDueTasks_42 : decode cX3_closeDueTasks 42 = .ok (.iinc 2 1, 3) := by decide +kernel
theorem dX3_closeDueTasks_45 : decode cX3_closeDueTasks 45 = .ok (.goto (-43), 3) := by decide +kernel
theorem dX3_closeDueTasks_48 : decode cX3_closeDueTasks 48 = .ok (.return_, 1) := by decide +kernel
set_option maxRecDepth 20000 in
theorem ggX3_step_X3_isItemNext : GoodIn wsX3_step wsX3_isItemNext := goodIn_r _ [5, 6, 7, 52, 53, 54, 55, 56, 57, 58, 59, 60, 61, 62, 63] (by decide +kernel) (by decide +kernel)
set_option maxRecDepth 20000 in
theorem gX3_step_X3_isItemNext : GoodIn wsX3_step (wsV RX3 56 RX3 yX3_isItemNext wsX3_isItemNext) := goodIn_app (goodIn_of _ (by decide +kernel)) ggX3_step_X3_isItemNext
set_option maxRecDepth 20000 in
theorem ggX3_step_X3_sendItem : GoodIn wsX3_step wsX3_sendItem := goodIn_r _ [11, 7, 12, 6, 13, 14, 15, 16, 17, 18, 19, 20, 21, 22, 23, 24, 25, 26, 27, 28, 29, 30, 31, 52, 53, 54, 55, 56, 57, 58, 59, 60, 61, 62, 63, 64, 65, 66, 67, 68, 69] (by decide +kernel) (by decide +kernel)
set_option maxRecDepth 20000 in
theorem gX3_step_X3_sendItem : GoodIn wsX3_step (wsV RX3 60 RX3 yX3_sendItem wsX3_sendItem) := goodIn_app (goodIn_of _ (by decide +kernel)) ggX3_step_X3_sendItem
set_option maxRecDepth 20000 in
theorem ggX3_step_X3_perform : GoodIn wsX3_step wsX3_perform := goodIn_r _ [35, 6, 36, 37, 38, 39, 40, 41, 42, 4, 43, 44, 45, 46, 47, 48, 49, 50, 51, 12, 14, 15, 16, 17, 18, 19, 20, 21, 22, 23, 24, 25, 26, 27, 28, 29, 30, 31, 52, 53, 54, 55, 56, 57, 58, 59, 60, 61, 62, 63, 64, 65, 66, 67, 68, 69] (by decide +kernel) (by decide +kernel)
set_option maxRecDepth 20000 in
theorem gX3_step_X3_perform : GoodIn wsX3_step (wsV RX3 63 RX3 yX3_perform wsX3_perform) := goodIn_app (goodIn_of _ (by decide +kernel)) ggX3_step_X3_perform
theorem dX3_step_0 : decode cX3_step 0 = .ok (.aload_n 0, 1) := by decide +kernel
theorem dX3_step_1 : decode cX3_step 1 = .ok (.iload_n 1, 1) := by decide +kernel
theorem dX3_step_2 : decode cX3_step 2 = .ok (.invokevirtual 56, 3) := by decide +kernel
theorem dX3_step_5 : decode cX3_step 5 = .ok (.ifCond .eq 11, 3) := by decide +kernel
theorem dX3_step_8 : decode cX3_step 8 = .ok (.aload_n 0, 1) := by decide +kernel
theorem dX3_step_9 : decode cX3_step 9 = .ok (.iload_n 1, 1) := by decide +kernel
theorem dX3_step_10 : decode cX3_step 10 = .ok (.invokevirtual 60, 3) := by decide +kernel
theorem dX3_step_13 : decode cX3_step 13 = .ok (.goto 8, 3) := by decide +kernel
theorem dX3_step_16 : decode cX3_step 16 = .ok (.aload_n 0, 1) := by decide +kernel
theorem dX3_step_17 : decode cX3_step 17 = .ok (.iload_n 1, 1) := by decide +kernel
theorem dX3_step_18 : decode cX3_step 18 = .ok (.invokevirtual 63, 3) := by decide +kernel
theorem dX3_step_21 : decode cX3_step 21 = .ok (.return_, 1) := by decide +kernel
theorem dX3_isItemNext_0 : decode cX3_isItemNext 0 = .ok (.aload_n 0, 1) := by decide +kernel
theorem dX3_isItemNext_1 : decode cX3_isItemNext 1 = .ok (.getfield 27, 3) := by decide +kernel
theorem dX3_isItemNext_4 : decode cX3_isItemNext 4 = .ok (.getfield 66, 3) := by decide +kernel
theorem dX3_isItemNext_7 : decode cX3_isItemNext 7 = .ok (.iload_n 1, 1) := by decide +kernel
theorem dX3_isItemNext_8 : decode cX3_isItemNext 8 = .ok (.iaload, 1) := by decide +kernel
theorem dX3_isItemNext_9 : decode cX3_isItemNext 9 = .ok (.iconst 3, 1) := by decide +kernel
theorem dX3_isItemNext_10 : decode cX3_isItemNext 10 = .ok (.if_icmp .ne 25, 3) := by decide +kernel
theorem dX3_isItemNext_13 : decode cX3_isItemNext 13 = .ok (.aload_n 0, 1) := by decide +kernel
theorem dX3_isItemNext_14 : decode cX3_isItemNext 14 = .ok (.getfield 18, 3) := by decide +kernel
theorem dX3_isItemNext_17 : decode cX3_isItemNext 17 = .ok (.iload_n 1, 1) := by decide +kernel
theorem dX3_isItemNext_18 : decode cX3_isItemNext 18 = .ok (.iaload, 1) := by decide +kernel
theorem dX3_isItemNext_19 : decode cX3_isItemNext 19 = .ok (.aload_n 0, 1) := by decide +kernel
theorem dX3_isItemNext_20 : decode cX3_isItemNext 20 = .ok (.getfield 27, 3) := by decide +kernel
theorem dX3_isItemNext_23 : decode cX3_isItemNext 23 = .ok (.getfield 69, 3) := by decide +kernel
theorem dX3_isItemNext_26 : decode cX3_isItemNext 26 = .ok (.iload_n 1, 1) := by decide +kernel
theorem dX3_isItemNext_27 : decode cX3_isItemNext 27 = .ok (.iaload, 1) := by decide +kernel
theorem dX3_isItemNext_28 : decode cX3_isItemNext 28 = .ok (.if_icmp .ge 7, 3) := by decide +kernel
theorem dX3_isItemNext_31 : decode cX3_isItemNext 31 = .ok (.iconst 1, 1) := by decide +kernel
theorem dX3_isItemNext_32 : decode cX3_isItemNext 32 = .ok (.goto 4, 3) := by decide +kernel
theorem dX3_isItemNext_35 : decode cX3_isItemNext 35 = .ok (.iconst 0, 1) := by decide +kernel
theorem dX3_isItemNext_36 : decode cX3_isItemNext 36 = .ok (.ireturn, 1) := by decide +kernel
set_option maxRecDepth 20000 in
theorem ggX3_sendItem_X2_send : GoodIn wsX3_sendItem wsX2_send := goodIn_r _ [8, 9, 10, 11, 12, 13, 14, 15, 16, 6, 17, 18, 19, 20, 21, 22, 35, 36, 37, 38, 39, 40] (by decide +kernel) (by decide +kernel)
set_option maxRecDepth 20000 in
theorem gX3_sendItem_X2_send_n72 : GoodIn wsX3_sendItem (wsX2_send) := ggX3_sendItem_X2_send
theorem dX3_sendItem_0 : decode cX3_sendItem 0 = .ok (.aload_n 0, 1) := by decide +kernel
theorem dX3_sendItem_1 : decode cX3_sendItem 1 = .ok (.getfield 18, 3) := by decide +kernel
theorem dX3_sendItem_4 : decode cX3_sendItem 4 = .ok (.iload_n 1, 1) := by decide +kernel
theorem dX3_sendItem_5 : decode cX3_sendItem 5 = .ok (.iaload, 1) := by decide +kernel
theorem dX3_sendItem_6 : decode cX3_sendItem 6 = .ok (.istore_n 2, 1) := by decide +kernel
theorem dX3_sendItem_7 : decode cX3_sendItem 7 = .ok (.aload_n 0, 1) := by decide +kernel
theorem dX3_sendItem_8 : decode cX3_sendItem 8 = .ok (.getfield 31, 3) := by decide +kernel
theorem dX3_sendItem_11 : decode cX3_sendItem 11 = .ok (.iconst 4, 1) := by decide +kernel
theorem dX3_sendItem_12 : decode cX3_sendItem 12 = .ok (.iload_n 1, 1) := by decide +kernel
theorem dX3_sendItem_13 : decode cX3_sendItem 13 = .ok (.iload_n 2, 1) := by decide +kernel
theorem dX3_sendItem_14 : decode cX3_sendItem 14 = .ok (.aload_n 0, 1) := by decide +kernel
theorem dX3_sendItem_15 : decode cX3_sendItem 15 = .ok (.getfield 27, 3) := by decide +kernel
theorem dX3_sendItem_18 : decode cX3_sendItem 18 = .ok (.getfield 69, 3) := by decide +kernel
theorem dX3_sendItem_21 : decode cX3_sendItem 21 = .ok (.iload_n 1, 1) := by decide +kernel
theorem dX3_sendItem_22 : decode cX3_sendItem 22 = .ok (.iaload, 1) := by decide +kernel
theorem dX3_sendItem_23 : decode cX3_sendItem 23 = .ok (.iload_n 2, 1) := by decide +kernel
theorem dX3_sendItem_24 : decode cX3_sendItem 24 = .ok (.isub, 1) := by decide +kernel
theorem dX3_sendItem_25 : decode cX3_sendItem 25 = .ok (.invokevirtual 72, 3) := by decide +kernel
theorem dX3_sendItem_28 : decode cX3_sendItem 28 = .ok (.aload_n 0, 1) := by decide +kernel
theorem dX3_sendItem_29 : decode cX3_sendItem 29 = .ok (.getfield 15, 3) := by decide +kernel
theorem dX3_sendItem_32 : decode cX3_sendItem 32 = .ok (.iload_n 1, 1) := by decide +kernel
theorem dX3_sendItem_33 : decode cX3_sendItem 33 = .ok (.dup2, 1) := by decide +kernel
theorem dX3_sendItem_34 : decode cX3_sendItem 34 = .ok (.iaload, 1) := by decide +kernel
theorem dX3_sendItem_35 : decode cX3_sendItem 35 = .ok (.iconst 1, 1) := by decide +kernel
theorem dX3_sendItem_36 : decode cX3_sendItem 36 = .ok (.isub, 1) := by decide +kernel
theorem dX3_sendItem_37 : decode cX3_sendItem 37 = .ok (.iastore, 1) := by decide +kernel
theorem dX3_sendItem_38 : decode cX3_sendItem 38 = .ok (.aload_n 0, 1) := by decide +kernel
theorem dX3_sendItem_39 : decode cX3_sendItem 39 = .ok (.getfield 18, 3) := by decide +kernel
theorem dX3_sendItem_42 : decode cX3_sendItem 42 = .ok (.iload_n 1, 1) := by decide +kernel
theorem dX3_sendItem_43 : decode cX3_sendItem 43 = .ok (.dup2, 1) := by decide +kernel
theorem dX3_sendItem_44 : decode cX3_sendItem 44 = .ok (.iaload, 1) := by decide +kernel
theorem dX3_sendItem_45 : decode cX3_sendItem 45 = .ok (.iconst 1, 1) := by decide +kernel
theorem dX3_sendItem_46 : decode cX3_sendItem 46 = .ok (.iadd, 1) := by decide +kernel
theorem dX3_sendItem_47 : decode cX3_sendItem 47 = .ok (.iastore, 1) := by decide +kernel
theorem dX3_sendItem_48 : decode cX3_sendItem 48 = .ok (.return_, 1) := by decide +kernel
set_option maxRecDepth 20000 in
theorem ggX3_perform_X3_answerOf : GoodIn wsX3_perform wsX3_answerOf := goodIn_r _ [10, 2, 11, 12, 13, 14, 38, 39, 40, 41, 42, 43, 44, 45] (by decide +kernel) (by decide +kernel)
set_option maxRecDepth 20000 in
theorem gX3_perform_X3_answerOf : GoodIn wsX3_perform (wsV RX3 78 RX3 yX3_answerOf wsX3_answerOf) := goodIn_app (goodIn_of _ (by decide +kernel)) ggX3_perform_X3_answerOf
set_option maxRecDepth 20000 in
theorem ggX3_perform_X3_sendAnswer : GoodIn wsX3_perform wsX3_sendAnswer := goodIn_r _ [18, 19, 3, 4, 20, 21, 22, 23, 24, 25, 26, 27, 28, 29, 30, 31, 32, 33, 34, 35, 36, 37, 38, 39, 40, 41, 42, 43, 44, 45, 50, 51, 52, 53, 54, 55] (by decide +kernel) (by decide +kernel)
set_option maxRecDepth 20000 in
theorem gX3_perform_X3_sendAnswer : GoodIn wsX3_perform (wsV RX3 43 RX3 yX3_sendAnswer wsX3_sendAnswer) := goodIn_app (goodIn_of _ (by decide +kernel)) ggX3_perform_X3_sendAnswer
theorem dX3_perform_0 : decode cX3_perform 0 = .ok (.aload_n 0, 1) := by decide +kernel
theorem dX3_perform_1 : decode cX3_perform 1 = .ok (.getfield 27, 3) := by decide +kernel
theorem dX3_perform_4 : decode cX3_perform 4 = .ok (.getfield 66, 3) := by decide +kernel
theorem dX3_perform_7 : decode cX3_perform 7 = .ok (.iload_n 1, 1) := by decide +kernel
theorem dX3_perform_8 : decode cX3_perform 8 = .ok (.iaload, 1) := by decide +kernel
theorem dX3_perform_9 : decode cX3_perform 9 = .ok (.istore_n 2, 1) := by decide +kernel
theorem dX3_perform_10 : decode cX3_perform 10 = .ok (.aload_n 0, 1) := by decide +kernel
theorem dX3_perform_11 : decode cX3_perform 11 = .ok (.iload_n 2, 1) := by decide +kernel
theorem dX3_perform_12 : decode cX3_perform 12 = .ok (.aload_n 0, 1) := by decide +kernel
theorem dX3_perform_13 : decode cX3_perform 13 = .ok (.getfield 27, 3) := by decide +kernel
theorem dX3_perform_16 : decode cX3_perform 16 = .ok (.getfield 69, 3) := by decide +kernel
theorem dX3_perform_19 : decode cX3_perform 19 = .ok (.iload_n 1, 1) := by decide +kernel
theorem dX3_perform_20 : decode cX3_perform 20 = .ok (.iaload, 1) := by decide +kernel
theorem dX3_perform_21 : decode cX3_perform 21 = .ok (.invokevirtual 78, 3) := by decide +kernel
theorem dX3_perform_24 : decode cX3_perform 24 = .ok (.istore_n 3, 1) := by decide +kernel
theorem dX3_perform_25 : decode cX3_perform 25 = .ok (.iload_n 2, 1) := by decide +kernel
theorem dX3_perform_26 : decode cX3_perform 26 = .ok (.iconst 1, 1) := by decide +kernel
theorem dX3_perform_27 : decode cX3_perform 27 = .ok (.if_icmp .ne 8, 3) := by decide +kernel
theorem dX3_perform_30 : decode cX3_perform 30 = .ok (.aload_n 0, 1) := by decide +kernel
theorem dX3_perform_31 : decode cX3_perform 31 = .ok (.iload_n 3, 1) := by decide +kernel
theorem dX3_perform_32 : decode cX3_perform 32 = .ok (.putfield 82, 3) := by decide +kernel
theorem dX3_perform_35 : decode cX3_perform 35 = .ok (.aload_n 0, 1) := by decide +kernel
theorem dX3_perform_36 : decode cX3_perform 36 = .ok (.getfield 21, 3) := by decide +kernel
theorem dX3_perform_39 : decode cX3_perform 39 = .ok (.iload_n 1, 1) := by decide +kernel
theorem dX3_perform_40 : decode cX3_perform 40 = .ok (.iload_n 2, 1) := by decide +kernel
theorem dX3_perform_41 : decode cX3_perform 41 = .ok (.iconst 2, 1) := by decide +kernel
theorem dX3_perform_42 : decode cX3_perform 42 = .ok (.if_icmp .ne 7, 3) := by decide +kernel
theorem dX3_perform_45 : decode cX3_perform 45 = .ok (.iconst 3, 1) := by decide +kernel
theorem dX3_perform_46 : decode cX3_perform 46 = .ok (.goto 4, 3) := by decide +kernel
theorem dX3_perform_49 : decode cX3_perform 49 = .ok (.iconst 0, 1) := by decide +kernel
theorem dX3_perform_50 : decode cX3_perform 50 = .ok (.iastore, 1) := by decide +kernel
theorem dX3_perform_51 : decode cX3_perform 51 = .ok (.aload_n 0, 1) := by decide +kernel
theorem dX3_perform_52 : decode cX3_perform 52 = .ok (.getfield 24, 3) := by decide +kernel
theorem dX3_perform_55 : decode cX3_perform 55 = .ok (.iload_n 1, 1) := by decide +kernel
theorem dX3_perform_56 : decode cX3_perform 56 = .ok (.iload_n 3, 1) := by decide +kernel
theorem dX3_perform_57 : decode cX3_perform 57 = .ok (.iastore, 1) := by decide +kernel
theorem dX3_perform_58 : decode cX3_perform 58 = .ok (.aload_n 0, 1) := by decide +kernel
theorem dX3_perform_59 : decode cX3_perform 59 = .ok (.getfield 9, 3) := by decide +kernel
theorem dX3_perform_62 : decode cX3_perform 62 = .ok (.iload_n 1, 1) := by decide +kernel
theorem dX3_perform_63 : decode cX3_perform 63 = .ok (.iconst 2, 1) := by decide +kernel
theorem dX3_perform_64 : decode cX3_perform 64 = .ok (.iastore, 1) := by decide +kernel
theorem dX3_perform_65 : decode cX3_perform 65 = .ok (.aload_n 0, 1) := by decide +kernel
theorem dX3_perform_66 : decode cX3_perform 66 = .ok (.iload_n 1, 1) := by decide +kernel
theorem dX3_perform_67 : decode cX3_perform 67 = .ok (.invokevirtual 43, 3) := by decide +kernel
theorem dX3_perform_70 : decode cX3_perform 70 = .ok (.return_, 1) := by decide +kernel
theorem dX3_answerOf_0 : decode cX3_answerOf 0 = .ok (.iload_n 1, 1) := by decide +kernel
theorem dX3_answerOf_1 : decode cX3_answerOf 1 = .ok (.tableswitch 48 0 3 #[31, 35, 48, 42], 31) := by decide +kernel
theorem dX3_answerOf_32 : decode cX3_answerOf 32 = .ok (.iload_n 2, 1) := by decide +kernel
theorem dX3_answerOf_33 : decode cX3_answerOf 33 = .ok (.iload_n 2, 1) := by decide +kernel
theorem dX3_answerOf_34 : decode cX3_answerOf 34 = .ok (.imul, 1) := by decide +kernel
theorem dX3_answerOf_35 : decode cX3_answerOf 35 = .ok (.ireturn, 1) := by decide +kernel
theorem dX3_answerOf_36 : decode cX3_answerOf 36 = .ok (.aload_n 0, 1) := by decide +kernel
theorem dX3_answerOf_37 : decode cX3_answerOf 37 = .ok (.getfield 82, 3) := by decide +kernel
theorem dX3_answerOf_40 : decode cX3_answerOf 40 = .ok (.iload_n 2, 1) := by decide +kernel
theorem dX3_answerOf_41 : decode cX3_answerOf 41 = .ok (.iadd, 1) := by decide +kernel
theorem dX3_answerOf_42 : decode cX3_answerOf 42 = .ok (.ireturn, 1) := by decide +kernel
theorem dX3_answerOf_43 : decode cX3_answerOf 43 = .ok (.iload_n 2, 1) := by decide +kernel
theorem dX3_answerOf_44 : decode cX3_answerOf 44 = .ok (.iconst 0, 1) := by decide +kernel
theorem dX3_answerOf_45 : decode cX3_answerOf 45 = .ok (.invokestatic 85, 3) := by decide +kernel
theorem dX3_answerOf_48 : decode cX3_answerOf 48 = .ok (.ireturn, 1) := by decide +kernel
theorem dX3_answerOf_49 : decode cX3_answerOf 49 = .ok (.iconst 0, 1) := by decide +kernel
theorem dX3_answerOf_50 : decode cX3_answerOf 50 = .ok (.ireturn, 1) := by decide +kernel
set_option maxRecDepth 20000 in
theorem ggX3_sendAnswer_X2_send : GoodIn wsX3_sendAnswer wsX2_send := goodIn_r _ [7, 8, 9, 10, 11, 12, 13, 14, 15, 5, 16, 17, 18, 19, 20, 21, 30, 31, 32, 33, 34, 35] (by decide +kernel) (by decide +kernel)
set_option maxRecDepth 20000 in
theorem gX3_sendAnswer_X2_send_n72 : GoodIn wsX3_sendAnswer (wsX2_send) := ggX3_sendAnswer_X2_send
theorem dX3_sendAnswer_0 : decode cX3_sendAnswer 0 = .ok (.aload_n 0, 1) := by decide +kernel
theorem dX3_sendAnswer_1 : decode cX3_sendAnswer 1 = .ok (.getfield 31, 3) := by decide +kernel
theorem dX3_sendAnswer_4 : decode cX3_sendAnswer 4 = .ok (.iconst 3, 1) := by decide +kernel
theorem dX3_sendAnswer_5 : decode cX3_sendAnswer 5 = .ok (.iload_n 1, 1) := by decide +kernel
theorem dX3_sendAnswer_6 : decode cX3_sendAnswer 6 = .ok (.aload_n 0, 1) := by decide +kernel
theorem dX3_sendAnswer_7 : decode cX3_sendAnswer 7 = .ok (.getfield 21, 3) := by decide +kernel
theorem dX3_sendAnswer_10 : decode cX3_sendAnswer 10 = .ok (.iload_n 1, 1) := by decide +kernel
theorem dX3_sendAnswer_11 : decode cX3_sendAnswer 11 = .ok (.iaload, 1) := by decide +kernel
theorem dX3_sendAnswer_12 : decode cX3_sendAnswer 12 = .ok (.aload_n 0, 1) := by decide +kernel
theorem dX3_sendAnswer_13 : decode cX3_sendAnswer 13 = .ok (.getfield 24, 3) := by decide +kernel
theorem dX3_sendAnswer_16 : decode cX3_sendAnswer 16 = .ok (.iload_n 1, 1) := by decide +kernel
theorem dX3_sendAnswer_17 : decode cX3_sendAnswer 17 = .ok (.iaload, 1) := by decide +kernel
theorem dX3_sendAnswer_18 : decode cX3_sendAnswer 18 = .ok (.invokevirtual 72, 3) := by decide +kernel
theorem dX3_sendAnswer_21 : decode cX3_sendAnswer 21 = .ok (.return_, 1) := by decide +kernel
theorem dJ9_floorMod_7cf53_0 : decode cJ9_floorMod_7cf53 0 = .ok (.iload_n 0, 1) := by decide +kernel
theorem dJ9_floorMod_7cf53_1 : decode cJ9_floorMod_7cf53 1 = .ok (.iload_n 1, 1) := by decide +kernel
theorem dJ9_floorMod_7cf53_2 : decode cJ9_floorMod_7cf53 2 = .ok (.irem, 1) := by decide +kernel
theorem dJ9_floorMod_7cf53_3 : decode cJ9_floorMod_7cf53 3 = .ok (.istore_n 2, 1) := by decide +kernel
theorem dJ9_floorMod_7cf53_4 : decode cJ9_floorMod_7cf53 4 = .ok (.iload_n 0, 1) := by decide +kernel
theorem dJ9_floorMod_7cf53_5 : decode cJ9_floorMod_7cf53 5 = .ok (.iload_n 1, 1) := by decide +kernel
theorem dJ9_floorMod_7cf53_6 : decode cJ9_floorMod_7cf53 6 = .ok (.ixor, 1) := by decide +kernel
theorem dJ9_floorMod_7cf53_7 : decode cJ9_floorMod_7cf53 7 = .ok (.ifCond .ge 11, 3) := by decide +kernel
theorem dJ9_floorMod_7cf53_10 : decode cJ9_floorMod_7cf53 10 = .ok (.iload_n 2, 1) := by decide +kernel
theorem dJ9_floorMod_7cf53_11 : decode cJ9_floorMod_7cf53 11 = .ok (.ifCond .eq 7, 3) := by decide +kernel
theorem dJ9_floorMod_7cf53_14 : decode cJ9_floorMod_7cf53 14 = .ok (.iload_n 2, 1) := by decide +kernel
theorem dJ9_floorMod_7cf53_15 : decode cJ9_floorMod_7cf53 15 = .ok (.iload_n 1, 1) := by decide +kernel
theorem dJ9_floorMod_7cf53_16 : decode cJ9_floorMod_7cf53 16 = .ok (.iadd, 1) := by decide +kernel
theorem dJ9_floorMod_7cf53_17 : decode cJ9_floorMod_7cf53 17 = .ok (.ireturn, 1) := by decide +kernel
theorem dJ9_floorMod_7cf53_18 : decode cJ9_floorMod_7cf53 18 = .ok (.iload_n 2, 1) := by decide +kernel
theorem dJ9_floorMod_7cf53_19 : decode cJ9_floorMod_7cf53 19 = .ok (.ireturn, 1) := by decide +kernel
theorem dJ9_max_7cf53_0 : decode cJ9_max_7cf53 0 = .ok (.iload_n 0, 1) := by decide +kernel
theorem dJ9_max_7cf53_1 : decode cJ9_max_7cf53 1 = .ok (.iload_n 1, 1) := by decide +kernel
theorem dJ9_max_7cf53_2 : decode cJ9_max_7cf53 2 = .ok (.if_icmp .lt 7, 3) := by decide +kernel
theorem dJ9_max_7cf53_5 : decode cJ9_max_7cf53 5 = .ok (.iload_n 0, 1) := by decide +kernel
theorem dJ9_max_7cf53_6 : decode cJ9_max_7cf53 6 = .ok (.goto 4, 3) := by decide +kernel
theorem dJ9_max_7cf53_9 : decode cJ9_max_7cf53 9 = .ok (.iload_n 1, 1) := by decide +kernel
theorem dJ9_max_7cf53_10 : decode cJ9_max_7cf53 10 = .ok (.ireturn, 1) := by decide +kernel
theorem dJ9_min_7cf53_0 : decode cJ9_min_7cf53 0 = .ok (.iload_n 0, 1) := by decide +kernel
theorem dJ9_min_7cf53_1 : decode cJ9_min_7cf53 1 = .ok (.iload_n 1, 1) := by decide +kernel
theorem dJ9_min_7cf53_2 : decode cJ9_min_7cf53 2 = .ok (.if_icmp .gt 7, 3) := by decide +kernel
theorem dJ9_min_7cf53_5 : decode cJ9_min_7cf53 5 = .ok (.iload_n 0, 1) := by decide +kernel
theorem dJ9_min_7cf53_6 : decode cJ9_min_7cf53 6 = .ok (.goto 4, 3) := by decide +kernel
theorem dJ9_min_7cf53_9 : decode cJ9_min_7cf53 9 = .ok (.iload_n 1, 1) := by decide +kernel
theorem dJ9_min_7cf53_10 : decode cJ9_min_7cf53 10 = .ok (.ireturn, 1) := by decide +kernel
abbrev vwCl : List vw_C := [(RX0, TX0, 4), (RX1, TX1, 10), (RX2, TX2, 6), (RX3, TX3, 8), (RX4, TX4, 6)]
end
section
abbrev Fn : Type := Nat → Int32
def nx_nest : List Cond := [
  .methodLinkNest RX4 9 yX0_init RX4,
  .fieldLinkNest RX4 96 "Callgate$Book" "methods" "[I" RX4,
  .fieldLinkNest RX3 66 "Callgate$Book" "methods" "[I" RX4,
  .fieldLinkNest RX1 78 "Callgate$Book" "methods" "[I" RX4,
  .fieldLinkNest RX3 69 "Callgate$Book" "arguments" "[I" RX4,
  .fieldLinkNest RX4 73 "Callgate$Book" "deadlines" "[I" RX4,
  .fieldLinkNest RX4 105 "Callgate$Book" "size" "I" RX4,
  .fieldLinkNest RX3 52 "Callgate$Book" "size" "I" RX4,
  .fieldLinkNest RX1 59 "Callgate$Book" "size" "I" RX4,
  .methodLinkNest RX4 18 yX2_init RX4,
  .fieldLinkNest RX4 168 "Callgate$Lane" "kinds" "[I" RX4,
  .fieldLinkNest RX4 171 "Callgate$Lane" "owners" "[I" RX4,
  .fieldLinkNest RX4 174 "Callgate$Lane" "marks" "[I" RX4,
  .fieldLinkNest RX4 177 "Callgate$Lane" "values" "[I" RX4,
  .fieldLinkNest RX4 188 "Callgate$Lane" "size" "I" RX4,
  .methodLinkNest RX4 28 yX1_init RX4,
  .fieldLinkNest RX4 108 "Callgate$Caller" "outcomes" "[I" RX4,
  .fieldLinkNest RX4 113 "Callgate$Caller" "values" "[I" RX4,
  .fieldLinkNest RX4 116 "Callgate$Caller" "requestsSent" "[I" RX4,
  .fieldLinkNest RX4 119 "Callgate$Caller" "itemsReceived" "[I" RX4,
  .fieldLinkNest RX4 122 "Callgate$Caller" "sums" "[I" RX4,
  .fieldLinkNest RX4 125 "Callgate$Caller" "budget" "I" RX4,
  .methodLinkNest RX4 37 yX3_init RX4,
  .fieldLinkNest RX4 128 "Callgate$Server" "states" "[I" RX4,
  .fieldLinkNest RX4 137 "Callgate$Server" "creditsLeft" "[I" RX4,
  .fieldLinkNest RX4 145 "Callgate$Server" "added" "I" RX4,
  .methodLinkNest RX4 181 yX0_has RX4,
  .methodLinkNest RX4 60 yX0_isFull RX4,
  .methodLinkNest RX4 83 yX0_enter RX4,
  .methodLinkNest RX4 87 yX1_begin RX4,
  .methodLinkNest RX1 49 yX2_send RX4,
  .methodLinkNest RX4 91 yX1_endAndTell RX4,
  .methodLinkNest RX1 68 yX0_has RX4,
  .methodLinkNest RX4 101 yX2_send RX4,
  .methodLinkNest RX4 133 yX3_isItemNext RX4,
  .methodLinkNest RX4 142 yX3_step RX4,
  .methodLinkNest RX3 72 yX2_send RX4,
  .methodLinkNest RX4 217 yX2_has RX4,
  .methodLinkNest RX4 164 yX2_slotOf RX4,
  .methodLinkNest RX4 178 yX2_removeFirst RX4,
  .methodLinkNest RX4 184 yX3_take RX4,
  .methodLinkNest RX3 46 yX0_isDue RX4,
  .methodLinkNest RX4 187 yX1_take RX4,
  .methodLinkNest RX4 195 yX1_endDueCalls RX4,
  .methodLinkNest RX1 93 yX0_isDue RX4,
  .methodLinkNest RX4 198 yX3_closeDueTasks RX4,
  .methodLinkNest RX4 201 yX1_repeatRequests RX4,
  .methodLinkNest RX4 150 yX3_answerOf RX4]
def nx_str : List (Nat × String) := [(52, "the timeout is 1 to 1000"), (66, "there are 40 calls"), (94, "the number is 1 to 10"), (99, "the call is no stream"), (111, "the call has not ended as answered"), (131, "the server has no running task for the call"), (140, "there is no credit for the next item"), (148, "the method fails"), (193, "the ticks are 1 to 200"), (206, "there is no such call"), (209, "the call has ended"), (211, "the method is 0 to 3"), (213, "the argument is -1000 to 1000"), (215, "the direction is 0 or 1"), (218, "there is no frame")]
def nx_isNest (w : Cond) : Bool := match w with
  | .fieldLinkNest .. => true
  | .methodLinkNest .. => true
  | _ => false
theorem nx_nest_all : nx_nest.all nx_isNest = true := by decide +kernel
theorem nx_nest_warm {s U : State} (hW : s.WarmedH U.vm) {w : Cond} (hn : nx_isNest w = true) (h : va_Nw w s) : va_Nw w U := by
  cases w <;> first | exact va_Nw.warmF hW h | exact va_Nw.warmM hW h | (exact absurd hn (by simp [nx_isNest]))
/-- the words that a throw of the class's needs beside the good ones -/
def nx_names : List String := ["java/lang/RuntimeException", "java/lang/Exception"]
def nx_ex : List (Nat × Nat × String) := [(50, 54, "java/lang/IllegalArgumentException"), (64, 68, "java/lang/IllegalStateException"), (204, 208, "java/lang/IndexOutOfBoundsException")]
def nx_cast : List Cond := [.declares (Bundle.initS "java/lang/RuntimeException"), .declares (Bundle.initS "java/lang/Exception"), .declares (Bundle.initS Bundle.tN), .castable "java/lang/IllegalArgumentException" "java/lang/IllegalArgumentException", .castable "java/lang/IllegalStateException" "java/lang/IllegalStateException", .castable "java/lang/IndexOutOfBoundsException" "java/lang/IndexOutOfBoundsException"]
theorem nx_cast_warm {s U : State} (hW : s.WarmedH U.vm) (h : ∀ w ∈ nx_cast, va_Nw w s) : ∀ w ∈ nx_cast, va_Nw w U := by
  intro w hw
  have h0 := h w hw
  simp only [nx_cast, List.mem_cons, List.not_mem_nil, or_false] at hw
  rcases hw with rfl | rfl | rfl | rfl | rfl | rfl <;> first | exact va_Nw.warmD hW h0 | exact va_Nw.warmC hW h0
theorem nx_bad1 : ∀ w ∈ (vx_atS RX4 54 "java/lang/IllegalArgumentException" nx_names).filter (fun w => !goodWord w), w ∈ nx_cast := by decide +kernel
theorem nx_bad2 : ∀ w ∈ (vx_atS RX4 68 "java/lang/IllegalStateException" nx_names).filter (fun w => !goodWord w), w ∈ nx_cast := by decide +kernel
theorem nx_bad3 : ∀ w ∈ (vx_atS RX4 208 "java/lang/IndexOutOfBoundsException" nx_names).filter (fun w => !goodWord w), w ∈ nx_cast := by decide +kernel
theorem nx_ot {w : Cond} (h : w ∈ nx_nest) : w.onTables = true := by
  have h1 := List.all_eq_true.mp nx_nest_all w h
  cases w <;> first | rfl | (exact absurd h1 (by simp [nx_isNest]))
theorem nx_oc {w : Cond} (h : w ∈ nx_cast) : w.onTables = true := by
  simp only [nx_cast, List.mem_cons, List.not_mem_nil, or_false] at h
  rcases h with rfl | rfl | rfl | rfl | rfl | rfl <;> rfl
/-- what holds at every place of a run, beside the world: nest mates' words, texts, throws, the statics of Throwable -/
def NX (A : Nat → Prop) (U : State) (H : Heap) : Prop :=
  (∀ w ∈ nx_nest, va_Nw w U) ∧ (∀ q ∈ nx_str, ∃ a, vk_R RX4 q.1 q.2 a U) ∧ (∀ w ∈ nx_cast, va_Nw w U) ∧ vx_Zq Bundle.tN "UNASSIGNED_STACK" Bundle.steD A U H ∧ vx_Zq Bundle.tN "SUPPRESSED_SENTINEL" Bundle.listD A U H
theorem NX.to {A A' : Nat → Prop} {s U : State} {H : Heap} {locs : List Loc} (h : NX A s s.heap) (hS : va_S A s.heap H locs) (hW : s.WarmedH U.vm) (hA : ∀ q, A' q → A q) : NX A' U H := by
  obtain ⟨h1, h2, h3, h4, h5⟩ := h
  have hq : ∀ a : Nat, a < s.heap.size → ¬ A a → H[a]? = s.heap[a]? := hS.2.1
  refine ⟨fun w hw => nx_nest_warm hW (List.all_eq_true.mp nx_nest_all w hw) (h1 w hw), fun q hq => ?_, nx_cast_warm hW h3, vx_Zq.moved hW.alike (vx_Zq.narrow (vx_Zq.kept h4 hq) hA), vx_Zq.moved hW.alike (vx_Zq.narrow (vx_Zq.kept h5 hq) hA)⟩
  obtain ⟨a, ha⟩ := h2 q hq
  exact ⟨a, vk_R.warm hW ha⟩
theorem NX.calling {A : Nat → Prop} {U : State} {g : JFrame} {mk : MethodId} {a : Array Value} (h : NX A U U.heap) : NX A (U.calling g mk a) (U.calling g mk a).heap := by
  obtain ⟨h1, h2, h3, h4, h5⟩ := h
  refine ⟨fun w hw => va_Nw.same (u := U) (U := U.calling g mk a) (nx_ot hw) rfl (h1 w hw), fun q hq => ?_, fun w hw => va_Nw.same (u := U) (U := U.calling g mk a) (nx_oc hw) rfl (h3 w hw), vx_Zq.moved (u := U) (U := U.calling g mk a) (Vm.Alike.refl U.vm) h4, vx_Zq.moved (u := U) (U := U.calling g mk a) (Vm.Alike.refl U.vm) h5⟩
  obtain ⟨b, hb⟩ := h2 q hq
  exact ⟨b, vk_R.same (u := U) rfl hb⟩
/-- a method's start and end, in one form for all -/
def kPre (G : va_G) (cI : ClassId) (wc : va_W) (sz : Nat) (U : State) : Prop := U.heap.size = sz ∧ va_P G vwCl wc U.heap ∧ va_K G vwCl [(cI, .int)] U ∧ va_D (fun _ => True) wc ∧ NX (va_A wc sz) U U.heap
def kQ (G : va_G) (w : va_W) (A : Nat → Prop) (t : State) : Prop := va_P G vwCl w t.heap ∧ va_D A w
theorem kPre.blind {As : List Value} {G : va_G} {cI : ClassId} {wc : va_W} {sz : Nat} : FrameBlind (va_Pc As (kPre G cI wc sz)) := fun a U g mk q => by
  obtain ⟨q0, q1, qP, qK, qD, qN⟩ := q
  exact ⟨q0, q1, qP, va_K.moved (u := U) (U := U.calling g mk a) (Vm.Alike.refl U.vm) qK, qD, NX.calling qN⟩
theorem kPre.at {G : va_G} {cI : ClassId} {ws wc : va_W} {A : Nat → Prop} {s : State} {H : Heap} {locs : List Loc} {As : List Value} (hP : va_P G vwCl ws H) (hK : va_K G vwCl [(cI, .int)] s) (hD : va_D A ws) (hS : va_S A s.heap H locs) (hA : ∀ q, s.heap.size ≤ q → A q) (hN : NX A s s.heap) (isC : List Nat) (hn : va_nd isC = true) (hC : isC.map (fun i => ws[i]?) = wc.map some) :
    ∀ U : State, U.heap = H → s.WarmedH U.vm → va_Pc As (kPre G cI wc H.size) As.toArray U := by
  intro U hU hW
  have hPc : va_P G vwCl wc H := by
    intro k q hq
    have h1 : (isC.map (fun i => ws[i]?))[k]? = some (some q) := by rw [hC, List.getElem?_map, hq]; rfl
    rw [List.getElem?_map] at h1
    cases hi : isC[k]? with
    | none => rw [hi] at h1; cases h1
    | some i => rw [hi] at h1; exact hP i q (Option.some.inj h1)
  refine ⟨rfl, by rw [hU], by rw [hU]; exact hPc, va_K.moved hW.alike hK, (hD.sub isC hn hC).weaken (fun _ _ _ _ => trivial), ?_⟩
  rw [hU]
  exact NX.to hN hS hW (va_free hD hS hA isC hC)
section KC
variable {p : Program} {l : Launch} {e : Env} {R : Room} {s : State} {m : MethodId} {args : Array Value} {below : List Frame} {meth : Method} {c : Code} {H : Heap} {locs : List Loc} {cells slots : Nat} {Q : State → Prop}
variable {pc : Nat} {ls : Array Slot} {rest st0 : List Value} {mc ms : Nat}
theorem gz_top {x y : Int32} (h : x = y) (k : W p l e R s m args below meth c H locs cells slots Q (F0 m pc ls (.int y :: rest))) : W p l e R s m args below meth c H locs cells slots Q (F0 m pc ls (.int x :: rest)) := by rw [h]; exact k
theorem gz_iald {cc : ByteArray} (hexec : p.tables.exec = Jvm.exec) (hb : c.code = cc) {G : va_G} {cl : List vw_C} {tys : List (ClassId × FieldType)} {ws : va_W} {a : Nat} (hK : va_K G cl tys s) (hP : va_P G cl ws H) (q0 : Nat) {cA : ClassId} {n : Nat} {f : Nat → Int32} (ha : ws[q0]? = some (a, .inl (cA, n, .inl f))) (ht : tys[0]? = some (cA, .int)) {i : Int32} {k : Nat} (hi : i = nI k) (hk : k < n) (hn : n < 2 ^ 31) (hdg : decode cc pc = .ok (.iaload, 1))
    (kk : W p l e R s m args below meth c H locs cells slots Q (F0 m (pc + 1) ls (.int (f k) :: rest))) : W p l e R s m args below meth c H locs cells slots Q (F0 m pc ls (.int i :: .ref a :: rest)) := by
  subst hi
  refine va_iald hexec hb hK hP q0 0 ha ht (vp_in_nI hk hn) hdg ?_
  rw [nI_clamp (Nat.lt_trans hk hn)]
  exact kk
theorem gz_iast {cc : ByteArray} (hexec : p.tables.exec = Jvm.exec) (hb : c.code = cc) {G : va_G} {cl : List vw_C} {tys : List (ClassId × FieldType)} {ws : va_W} {a : Nat} {A : Nat → Prop} {H0 : Heap} (hK : va_K G cl tys s) (hP : va_P G cl ws H) (hD : va_D A ws) (hS : va_S A H0 H locs) (q0 : Nat) {cA : ClassId} {n : Nat} {f : Nat → Int32} (ha : ws[q0]? = some (a, .inl (cA, n, .inl f))) (ht : tys[0]? = some (cA, .int)) {i x : Int32} {k : Nat} (hi : i = nI k) (hk : k < n) (hn : n < 2 ^ 31) (hdg : decode cc pc = .ok (.iastore, 1))
    (kk : ∀ (H1 : Heap) (locs1 : List Loc), va_P G cl (ws.set q0 (a, .inl (cA, n, .inl (upd f k x)))) H1 → va_D A (ws.set q0 (a, .inl (cA, n, .inl (upd f k x)))) → va_S A H0 H1 locs1 → W p l e R s m args below meth c H1 locs1 cells slots Q (F0 m (pc + 1) ls rest)) : W p l e R s m args below meth c H locs cells slots Q (F0 m pc ls (.int x :: .int i :: .ref a :: rest)) := by
  subst hi
  refine va_iast hexec hb hK hP hD hS q0 0 ha ht (vp_in_nI hk hn) hdg (fun H1 locs1 h1 h2 h3 => ?_)
  rw [nI_clamp (Nat.lt_trans hk hn)] at h1 h2
  exact kk H1 locs1 h1 h2 h3
theorem k_join {G : va_G} {A : Nat → Prop} {ws wc wr w1 w2 : va_W} {H1 : Heap} (hP : va_P G vwCl ws H) (hD : va_D A ws) (isC isR perm : List Nat) (hC : isC.map (fun i => ws[i]?) = wc.map some) (hR : isR.map (fun i => ws[i]?) = wr.map some) (hd : va_nd isR = true ∧ (∀ i ∈ isR, i ∉ isC) ∧ va_nd perm = true)
    (hp : perm.map (fun i => (wr ++ w1)[i]?) = w2.map some) (hk : ∀ q : Nat, q < H.size → ¬ va_A wc H.size q → H1[q]? = H[q]?) (hF : ∀ q, va_A wc H.size q → A q) (hP1 : va_P G vwCl w1 H1) (hD1 : va_D (va_A wc H.size) w1) : va_P G vwCl w2 H1 ∧ va_D A w2 := by
  obtain ⟨h1, h2⟩ := va_join hP hD isC isR hC hR hd.1 hd.2.1 hk hF hP1 hD1
  refine ⟨?_, h2.sub perm hd.2.2 hp⟩
  intro k q hq
  have h3 : (perm.map (fun i => (wr ++ w1)[i]?))[k]? = some (some q) := by rw [hp, List.getElem?_map, hq]; rfl
  rw [List.getElem?_map] at h3
  cases hi : perm[k]? with
  | none => rw [hi] at h3; cases h3
  | some i => rw [hi] at h3; exact h1 i q (Option.some.inj h3)
theorem k_calli {S : Type} {post : Int32 → S → Prop} {G : va_G} {A : Nat → Prop} {ws wc wr : va_W} {w1 w2 : S → va_W} {a : Array Value} (hr : va_Run p l e R s m args below meth c H locs cells slots 0 0 (F0 m pc ls st0) rest (va_Qi post (fun u t => kQ G (w1 u) (va_A wc H.size) t) (va_A wc H.size) a) (va_A wc H.size))
    (hP : va_P G vwCl ws H) (hD : va_D A ws) (hS : va_S A s.heap H locs) (hA : ∀ q, s.heap.size ≤ q → A q) (isC isR perm : List Nat) (hC : isC.map (fun i => ws[i]?) = wc.map some) (hR : isR.map (fun i => ws[i]?) = wr.map some) (hd : va_nd isR = true ∧ (∀ i ∈ isR, i ∉ isC) ∧ va_nd perm = true) (hp : ∀ u, perm.map (fun i => (wr ++ w1 u)[i]?) = (w2 u).map some)
    (kk : ∀ (r : Int32) (u : S) (H1 : Heap) (locs1 : List Loc), post r u → va_P G vwCl (w2 u) H1 → va_D A (w2 u) → va_S A s.heap H1 locs1 → W p l e R s m args below meth c H1 locs1 cells slots Q (F0 m (pc + 3) ls (.int r :: rest))) : W p l e R s m args below meth c H locs cells slots Q (F0 m pc ls st0) := by
  have hF := va_free hD hS hA isC hC
  refine va_calli hr hS (fun q _ h => hF q h) hF (fun r u t H1 locs1 ht hvm hw hB hz1 hk1 hS1 => ?_)
  obtain ⟨hP1, hD1⟩ := hB
  rw [ht] at hP1
  obtain ⟨h1, h2⟩ := k_join hP hD isC isR perm hC hR hd (hp u) hk1 hF hP1 hD1
  exact kk r u H1 locs1 hw h1 h2 hS1
theorem k_callv {S : Type} {post : S → Prop} {G : va_G} {A : Nat → Prop} {ws wc wr : va_W} {w1 w2 : S → va_W} {a : Array Value} (hr : va_Run p l e R s m args below meth c H locs cells slots 0 0 (F0 m pc ls st0) rest (va_Qv post (fun u t => kQ G (w1 u) (va_A wc H.size) t) (va_A wc H.size) a) (va_A wc H.size))
    (hP : va_P G vwCl ws H) (hD : va_D A ws) (hS : va_S A s.heap H locs) (hA : ∀ q, s.heap.size ≤ q → A q) (isC isR perm : List Nat) (hC : isC.map (fun i => ws[i]?) = wc.map some) (hR : isR.map (fun i => ws[i]?) = wr.map some) (hd : va_nd isR = true ∧ (∀ i ∈ isR, i ∉ isC) ∧ va_nd perm = true) (hp : ∀ u, perm.map (fun i => (wr ++ w1 u)[i]?) = (w2 u).map some)
    (kk : ∀ (u : S) (H1 : Heap) (locs1 : List Loc), post u → va_P G vwCl (w2 u) H1 → va_D A (w2 u) → va_S A s.heap H1 locs1 → W p l e R s m args below meth c H1 locs1 cells slots Q (F0 m (pc + 3) ls rest)) : W p l e R s m args below meth c H locs cells slots Q (F0 m pc ls st0) := by
  have hF := va_free hD hS hA isC hC
  refine va_callv hr hS (fun q _ h => hF q h) hF (fun u t H1 locs1 ht hvm hw hB hz1 hk1 hS1 => ?_)
  obtain ⟨hP1, hD1⟩ := hB
  rw [ht] at hP1
  obtain ⟨h1, h2⟩ := k_join hP hD isC isR perm hC hR hd (hp u) hk1 hF hP1 hD1
  exact kk u H1 locs1 hw h1 h2 hS1
theorem k_bool1 {P : Prop} [Decidable P] {r : Int32} (h : r = if P then nI 1 else nI 0) (h1 : ¬ r = 0) : P := by
  by_cases q : P
  · exact q
  · rw [if_neg q] at h; exact absurd (h.trans (by decide +kernel)) h1
theorem k_bool0 {P : Prop} [Decidable P] {r : Int32} (h : r = if P then nI 1 else nI 0) (h1 : r = 0) : ¬ P := by
  intro q
  rw [if_pos q] at h
  rw [h] at h1
  exact absurd h1 (by decide +kernel)
theorem k_loop {σ : Type} {pc : Nat} (I : σ → Heap → List Loc → Array Slot → Prop) (μ : σ → Nat) (hs : ∀ (x : σ) (H : Heap) (locs : List Loc) (ls : Array Slot), I x H locs ls → (∀ (y : σ) (H' : Heap) (locs' : List Loc) (ls' : Array Slot), I y H' locs' ls' → μ y < μ x → W p l e R s m args below meth c H' locs' cells slots Q (F0 m pc ls' [])) → W p l e R s m args below meth c H locs cells slots Q (F0 m pc ls []))
    (x : σ) (H : Heap) (locs : List Loc) (ls : Array Slot) (h : I x H locs ls) : W p l e R s m args below meth c H locs cells slots Q (F0 m pc ls []) := by
  have key : ∀ (k : Nat) (x : σ) (H : Heap) (locs : List Loc) (ls : Array Slot), μ x < k → I x H locs ls → W p l e R s m args below meth c H locs cells slots Q (F0 m pc ls []) := by
    intro k
    induction k with
    | zero => intro x H locs ls hk; exact absurd hk (Nat.not_lt_zero _)
    | succ k ih => intro x H locs ls hk hI; exact hs x H locs ls hI (fun y H' locs' ls' hy hlt => ih y H' locs' ls' (by omega) hy)
  exact key (μ x + 1) x H locs ls (Nat.lt_succ_self _) h
theorem k_cut {σ : Type} {pc2 pc1 : Nat} {H0 : Heap} {locs0 : List Loc} {ls0 : Array Slot} {st1 : List Value} (I : σ → Heap → List Loc → Array Slot → Prop) (stk : σ → List Value) (h1 : ∀ (x : σ) (H : Heap) (locs : List Loc) (ls : Array Slot), I x H locs ls → W p l e R s m args below meth c H locs cells slots Q (F0 m pc2 ls (stk x)))
    (h2 : (∀ (x : σ) (H : Heap) (locs : List Loc) (ls : Array Slot), I x H locs ls → W p l e R s m args below meth c H locs cells slots Q (F0 m pc2 ls (stk x))) → W p l e R s m args below meth c H0 locs0 cells slots Q (F0 m pc1 ls0 st1)) : W p l e R s m args below meth c H0 locs0 cells slots Q (F0 m pc1 ls0 st1) := h2 h1
theorem k_has {x : Int32} {n : Nat} (h : ¬ x < 0 ∧ ¬ nI n ≤ x) (hn : n < 2 ^ 31) : ∃ j : Nat, j < n ∧ x = nI j := by
  rcases pk_ix x hn with q | q | q
  · exact absurd q h.1
  · exact absurd q h.2
  · exact q
end KC
end
section
abbrev LaneS : Type := Fn × Fn × Fn × Fn × Nat × Nat
abbrev BookS : Type := Fn × Fn × Fn × Nat
abbrev CalS : Type := Fn × Fn × Fn × Fn × Fn × Fn × Fn × Int32
abbrev SerS : Type := Fn × Fn × Fn × Fn × Fn × Int32
/-- a walk from i upwards, f steps -/
def it {σ : Type} (st : Nat → σ → σ) : Nat → Nat → σ → σ
  | 0, _, x => x
  | f + 1, i, x => it st f (i + 1) (st i x)
theorem it_step {σ : Type} {st : Nat → σ → σ} {n i : Nat} {x : σ} (h : i < n) : it st (n - i) i x = it st (n - (i + 1)) (i + 1) (st i x) := by
  rw [show n - i = (n - (i + 1)) + 1 by omega]; rfl
theorem it_end {σ : Type} {st : Nat → σ → σ} {n i : Nat} {x : σ} (h : ¬ i < n) : it st (n - i) i x = x := by
  rw [show n - i = 0 by omega]; rfl
/-- a frame is put behind the others, if there is room -/
def l_send (L : LaneS) (kd o q v : Int32) : LaneS := match L with
  | (ki, ow, mr, va, fi, sz) => if sz < 40 then (upd ki ((fi + sz) % 40) kd, upd ow ((fi + sz) % 40) o, upd mr ((fi + sz) % 40) q, upd va ((fi + sz) % 40) v, fi, sz + 1) else (ki, ow, mr, va, fi, sz)
def k_req (C : CalS) (L : LaneS) (c : Nat) (t : Int32) : CalS × LaneS := match C with
  | (pa, oc, cv, rq, la, rc, su, bu) => ((pa, oc, cv, upd rq c (rq c + nI 1), upd la c t, rc, su, bu), l_send L (nI 0) (nI c) (nI 0) (nI 0))
def k_begin (C : CalS) (L : LaneS) (c : Nat) (p t : Int32) : CalS × LaneS := match C with
  | (pa, oc, cv, rq, la, rc, su, bu) => k_req (upd pa c p, upd oc c (-1), cv, rq, la, rc, su, bu) L c t
def k_hep (pa oc : Fn) (n c : Nat) : Bool := decide (¬ pa c < 0 ∧ ¬ nI n ≤ pa c) && decide (¬ oc (pa c).toNatClampNeg = -1)
def k_orph1 (n : Nat) (i : Nat) (x : CalS × LaneS × Int32) : CalS × LaneS × Int32 := match x with
  | ((pa, oc, cv, rq, la, rc, su, bu), L, k) => if oc i = -1 ∧ k_hep pa oc n i = true then ((pa, upd oc i (nI 1), cv, rq, la, rc, su, bu), l_send L (nI 1) (nI i) (nI 0) (nI 0), k + nI 1) else ((pa, oc, cv, rq, la, rc, su, bu), L, k)
def k_orph (n e : Nat) (C : CalS) (L : LaneS) : CalS × LaneS × Int32 := it (k_orph1 n) (n - (e + 1)) (e + 1) (C, L, nI 0)
def k_endS (n : Nat) (C : CalS) (L : LaneS) (c : Nat) (o : Int32) : CalS × LaneS × Int32 := match C with
  | (pa, oc, cv, rq, la, rc, su, bu) => match k_orph n c (pa, upd oc c o, cv, rq, la, rc, su, bu) L with
    | (C2, L2, k) => (C2, L2, nI 1 + k)
def k_endT (n : Nat) (C : CalS) (L : LaneS) (c : Nat) (o : Int32) : CalS × LaneS × Int32 := match C with
  | (pa, oc, cv, rq, la, rc, su, bu) => match k_orph n c (pa, upd oc c o, cv, rq, la, rc, su, bu) (l_send L (nI 1) (nI c) (nI 0) (nI 0)) with
    | (C2, L2, k) => (C2, L2, nI 1 + k)
def k_bud (C : CalS) (b : Int32) : CalS := match C with
  | (pa, oc, cv, rq, la, rc, su, _) => (pa, oc, cv, rq, la, rc, su, b)
def k_tans (n : Nat) (me : Fn) (C : CalS) (L : LaneS) (c : Nat) (q v : Int32) : CalS × LaneS := match C with
  | (pa, oc, cv, rq, la, rc, su, bu) => if me c = nI 3 ∧ ¬ v = rc c then (match k_endS n (pa, oc, cv, rq, la, rc, su, bu) L c (nI 4) with | (C2, L2, _) => (C2, L2))
    else match k_endS n (pa, oc, upd cv c v, rq, la, rc, su, bu) L c q with
      | ((pa2, oc2, cv2, rq2, la2, rc2, su2, bu2), L2, _) => if q = 0 then ((pa2, oc2, cv2, rq2, la2, rc2, su2, if nI 100 < bu2 + nI 1 then nI 100 else bu2 + nI 1), L2) else ((pa2, oc2, cv2, rq2, la2, rc2, su2, bu2), L2)
def k_titem (n : Nat) (C : CalS) (L : LaneS) (c : Nat) (q v : Int32) : CalS × LaneS := match C with
  | (pa, oc, cv, rq, la, rc, su, bu) => if q = rc c then ((pa, oc, cv, rq, la, upd rc c (rc c + nI 1), upd su c (su c + v), bu), L)
    else match k_endT n (pa, oc, cv, rq, la, rc, su, bu) L c (nI 4) with | (C2, L2, _) => (C2, L2)
def k_take (n : Nat) (me : Fn) (C : CalS) (L : LaneS) (kd : Int32) (c : Nat) (q v : Int32) : CalS × LaneS := match C with
  | (pa, oc, cv, rq, la, rc, su, bu) => if oc c = -1 then (if kd = nI 3 then k_tans n me (pa, oc, cv, rq, la, rc, su, bu) L c q v else k_titem n (pa, oc, cv, rq, la, rc, su, bu) L c q v) else ((pa, oc, cv, rq, la, rc, su, bu), L)
def k_due1 (n : Nat) (dl : Fn) (t : Int32) (i : Nat) (x : CalS × LaneS × Int32) : CalS × LaneS × Int32 := match x with
  | ((pa, oc, cv, rq, la, rc, su, bu), L, k) => if oc i = -1 ∧ ¬ t < dl i then (match k_endS n (pa, oc, cv, rq, la, rc, su, bu) L i (nI 2) with | (C2, L2, j) => (C2, L2, k + j)) else ((pa, oc, cv, rq, la, rc, su, bu), L, k)
def k_due (n : Nat) (dl : Fn) (t : Int32) (C : CalS) (L : LaneS) : CalS × LaneS × Int32 := it (k_due1 n dl t) (n - 0) 0 (C, L, nI 0)
def k_isrep (C : CalS) (c : Nat) (t : Int32) : Bool := match C with
  | (_, oc, _, rq, la, rc, _, _) => decide (oc c = -1) && (decide (rc c = 0) && (decide (¬ nI 4 ≤ rq c) && decide (¬ t - la c < nI 8)))
def k_rep1 (t : Int32) (i : Nat) (x : CalS × LaneS) : CalS × LaneS := match x with
  | ((pa, oc, cv, rq, la, rc, su, bu), L) => if k_isrep (pa, oc, cv, rq, la, rc, su, bu) i t = true ∧ ¬ bu < nI 10 then k_req (pa, oc, cv, rq, la, rc, su, bu - nI 10) L i t else ((pa, oc, cv, rq, la, rc, su, bu), L)
def k_rep (n : Nat) (t : Int32) (C : CalS) (L : LaneS) : CalS × LaneS := it (k_rep1 t) (n - 0) 0 (C, L)
-- the server
def s_ans (ad m x : Int32) : Int32 := if m = nI 0 then x * x else if m = nI 1 then ad + x else if m = nI 2 then nI 0 else if m = nI 3 then (if x < nI 0 then nI 0 else x) else nI 0
def s_sendA (S : SerS) (L : LaneS) (c : Nat) : LaneS := match S with
  | (_, _, _, re, sv, _) => l_send L (nI 3) (nI c) (re c) (sv c)
def s_next (me ar : Fn) (S : SerS) (c : Nat) : Bool := match S with
  | (_, _, se, _, _, _) => decide (me c = nI 3) && decide (¬ ar c ≤ se c)
def s_item (ar : Fn) (S : SerS) (L : LaneS) (c : Nat) : SerS × LaneS := match S with
  | (ss, cr, se, re, sv, ad) => ((ss, upd cr c (cr c - nI 1), upd se c (se c + nI 1), re, sv, ad), l_send L (nI 4) (nI c) (se c) (ar c - se c))
def s_perf (me ar : Fn) (S : SerS) (L : LaneS) (c : Nat) : SerS × LaneS := match S with
  | (ss, cr, se, re, sv, ad) => let S2 : SerS := (upd ss c (nI 2), cr, se, upd re c (if me c = nI 2 then nI 3 else nI 0), upd sv c (s_ans ad (me c) (ar c)), if me c = nI 1 then s_ans ad (me c) (ar c) else ad)
    (S2, s_sendA S2 L c)
def s_step (me ar : Fn) (S : SerS) (L : LaneS) (c : Nat) : SerS × LaneS := if s_next me ar S c = true then s_item ar S L c else s_perf me ar S L c
def s_treq (dl : Fn) (S : SerS) (L : LaneS) (c : Nat) (t : Int32) : SerS × LaneS := match S with
  | (ss, cr, se, re, sv, ad) => if ss c = nI 2 then ((ss, cr, se, re, sv, ad), s_sendA (ss, cr, se, re, sv, ad) L c)
    else if ss c = 0 ∧ ¬ ¬ t < dl c then ((upd ss c (nI 1), upd cr c (nI 2), se, re, sv, ad), L) else ((ss, cr, se, re, sv, ad), L)
def s_tcan (S : SerS) (c : Nat) : SerS := match S with
  | (ss, cr, se, re, sv, ad) => if ss c = nI 2 then (ss, cr, se, re, sv, ad) else (upd ss c (nI 3), cr, se, re, sv, ad)
def s_take (dl : Fn) (S : SerS) (L : LaneS) (kd : Int32) (c : Nat) (q t : Int32) : SerS × LaneS := match S with
  | (ss, cr, se, re, sv, ad) => if kd = 0 then s_treq dl (ss, cr, se, re, sv, ad) L c t else if kd = nI 1 then (s_tcan (ss, cr, se, re, sv, ad) c, L)
    else if ss c = nI 1 then ((ss, upd cr c (cr c + q), se, re, sv, ad), L) else ((ss, cr, se, re, sv, ad), L)
def s_close1 (dl : Fn) (t : Int32) (i : Nat) (x : SerS) : SerS := match x with
  | (ss, cr, se, re, sv, ad) => if ss i = nI 1 ∧ ¬ t < dl i then (upd ss i (nI 3), cr, se, re, sv, ad) else (ss, cr, se, re, sv, ad)
def s_close (n : Nat) (dl : Fn) (t : Int32) (S : SerS) : SerS := it (s_close1 dl t) (n - 0) 0 S
theorem nI_10 : (nI 1 = nI 0) = False := by decide +kernel
theorem k_tab4 {x : Int32} (h0 : ¬ x = nI 0) (h1 : ¬ x = nI 1) (h2 : ¬ x = nI 2) (h3 : ¬ x = nI 3) : x.toInt < 0 ∨ 3 < x.toInt := by
  have e : ∀ k : Nat, k < 4 → ¬ x = nI k → ¬ x.toInt = (k : Int) := fun k hk h q => h (Int32.toInt_inj.mp (by rw [q, nI_toInt (by omega)]))
  have e0 := e 0 (by decide) h0
  have e1 := e 1 (by decide) h1
  have e2 := e 2 (by decide) h2
  have e3 := e 3 (by decide) h3
  omega
end
section
theorem fm_x {k : Nat} (hk : k ≤ 80) : 0 ≤ nI k ^^^ nI 40 := by
  have h : ∀ j : Fin 81, 0 ≤ nI j.1 ^^^ nI 40 := by decide +kernel
  exact h ⟨k, by omega⟩
/-- a contract by a walk, for a method that no entry runs instead, whatever its class -/
theorem fm_ofW {l : Launch} {y : MethodName} {ws wt : List Cond} {rm : Room} {Pc : Array Value → State → Prop} {Qc : Array Value → State → Outcome → State → Prop} {mc ms : Nat} {free : Addr → Prop} {cc : ByteArray} {maxL : Nat} {ret : Option FieldType}
    (hy : plainFor y = true) (hw : ws = Cond.code y cc maxL ret :: wt)
    (walk : ∀ p e s m args below meth c t, BodyLoose p l y (headSpec ws rm) cc maxL ret e s m args below meth c t → c.maxLocals = maxL → Pc args s → W p l e (headSpec ws rm).room s m args below meth c s.heap [] 0 0 (MQ below Qc args s mc ms free) (entryFrame m args maxL)) : Met l y ws rm Pc Qc mc ms free := by
  have hcode : ∀ args (s : State) m, (headSpec ws rm).pre.before args s = true → s.methodNamed? y = some m → ∃ meth c, s.vm.method? m = some meth ∧ meth.code = some c ∧ c.code = cc ∧ c.maxLocals = maxL ∧ meth.sig.returnType = ret ∧ meth.locks = false := fun args s m h hn => by
    have h1 := atoms_spec (ws := ws) h (Cond.code y cc maxL ret) (by rw [hw]; exact List.mem_cons_self)
    obtain ⟨meth, c, z1, z2, z3, z4, z5, z6, _⟩ := Cond.code_spec hn h1
    exact ⟨meth, c, z1, z2, z3, z4, z5, z6⟩
  refine MetFree.of_bodySF hy hcode (fun p e s m args below meth c t B hl hP _ => ?_)
  have hh : t.heap = s.heap := by rw [B.state]; rfl
  obtain ⟨u, g, o, k1, k2, k3, k4⟩ := walk p e s m args below meth c t B hl hP t hh (Stand.of_body B)
  exact ⟨u, o, g, k1, k2, k3, k4⟩

theorem hk_X0_has_f21 : (.fieldLink RX0 21 "Callgate$Book" "size" "I" : Cond) ∈ wsX0_has := by decide +kernel
theorem hi_X0_has_X0 : ∀ w ∈ u_ws RX0 TX0 4, w ∈ wsX0_has := by decide +kernel
set_option maxHeartbeats 4000000 in
set_option maxRecDepth 100000 in
theorem c_X0_has (l : Launch) (G : va_G) (cI : ClassId) (b : Nat → Nat) (me : Fn) (ar : Fn) (dl : Fn) (n : Nat) (x : Int32) (hn : n ≤ 40) (zz : Nat) : Met l yX0_has wsX0_has ({ frames := 0, cells := 0, slots := 0, locals := 0 }) (va_Pc [.ref (b 0), .int x] (kPre G cI [(b 0, .inr (0, [.ref (b 1), .ref (b 2), .ref (b 3), .int (nI n)])), (b 1, .inl (cI, 40, .inl me)), (b 2, .inl (cI, 40, .inl ar)), (b 3, .inl (cI, 40, .inl dl))] zz)) (va_Qi (fun (r : Int32) (u : Unit) => (r = if (¬ x < 0 ∧ ¬ nI n ≤ x) then nI 1 else nI 0)) (fun (u : Unit) t => kQ G [(b 0, .inr (0, [.ref (b 1), .ref (b 2), .ref (b 3), .int (nI n)])), (b 1, .inl (cI, 40, .inl me)), (b 2, .inl (cI, 40, .inl ar)), (b 3, .inl (cI, 40, .inl dl))] (va_A [(b 0, .inr (0, [.ref (b 1), .ref (b 2), .ref (b 3), .int (nI n)])), (b 1, .inl (cI, 40, .inl me)), (b 2, .inl (cI, 40, .inl ar)), (b 3, .inl (cI, 40, .inl dl))] zz) t) (va_A [(b 0, .inr (0, [.ref (b 1), .ref (b 2), .ref (b 3), .int (nI n)])), (b 1, .inl (cI, 40, .inl me)), (b 2, .inl (cI, 40, .inl ar)), (b 3, .inl (cI, 40, .inl dl))] zz)) 0 0 (va_A [(b 0, .inr (0, [.ref (b 1), .ref (b 2), .ref (b 3), .int (nI n)])), (b 1, .inl (cI, 40, .inl me)), (b 2, .inl (cI, 40, .inl ar)), (b 3, .inl (cI, 40, .inl dl))] zz) := by
  refine Met.ofW (cc := cX0_has) (maxL := 2) (ret := (some .boolean)) (by decide) rfl ?_
  intro p e s m args below meth c s₁ B hml hv
  obtain ⟨rfl, hsz, hP, hK, hD0, hN⟩ := hv
  have hx := B.exec
  have hb := B.bytes
  have hr := B.returns
  have hts := atoms_spec (ws := wsX0_has) B.pre
  have hown : s.vm.findClass RX0 = some m.cls := findClass_of_methodNamed B.named
  have hlocks := B.notSynchronized
  subst hsz
  have hD := hD0.self (sz := s.heap.size)
  generalize hAe : va_A [(b 0, .inr (0, [.ref (b 1), .ref (b 2), .ref (b 3), .int (nI n)])), (b 1, .inl (cI, 40, .inl me)), (b 2, .inl (cI, 40, .inl ar)), (b 3, .inl (cI, 40, .inl dl))] s.heap.size = A at hD hN ⊢
  have hA : ∀ q : Nat, s.heap.size ≤ q → A q := fun q h => by rw [← hAe]; exact Or.inr h
  have hS : va_S A s.heap s.heap [] := va_S.rf
  have hl := lv_entry ([.ref (b 0), .int x]) (n := 2) (Nat.le_of_ble_eq_true rfl)
  rw [lg_entry_eq]
  generalize (lg_sl ([.ref (b 0), .int x]) ++ List.replicate (2 - (lg_sl ([.ref (b 0), .int x])).length) Slot.unset).toArray = ls at hl ⊢
  have hl : lv_has ls 2 [(0, .ref (b 0)), (1, .int x)] := hl
  have hP : va_P G vwCl [(b 0, .inr (0, [.ref (b 1), .ref (b 2), .ref (b 3), .int (nI n)])), (b 1, .inl (cI, 40, .inl me)), (b 2, .inl (cI, 40, .inl ar)), (b 3, .inl (cI, 40, .inl dl))] s.heap := hP
  obtain ⟨H, hH⟩ : ∃ H, H = s.heap := ⟨_, rfl⟩
  rw [← hH] at hP
  have hS : va_S A s.heap H [] := by rw [hH]; exact hS
  show W _ _ _ _ _ _ _ _ _ _ s.heap _ _ _ _ _
  rw [← hH]
  obtain ⟨locs, hlo⟩ : ∃ z : List Loc, z = [] := ⟨_, rfl⟩
  rw [← hlo] at hS ⊢
  refine lv_iload_n hx hb dX0_has_0 rfl (lv_at hl 1 rfl) ?_
  refine lv_if_lt (tgt := 16) hx hb dX0_has_1 (by decide) (fun c_1 => ?_) (fun c_1 => ?_)
  · skip
    refine lv_iconst (v := nI 0) hx hb dX0_has_16 (by decide +kernel) ?_
    have hS9 := hS.2.2
    have hq9 : ((nI 0) = if (¬ x < 0 ∧ ¬ nI n ≤ x) then nI 1 else nI 0) := by simp only [↓reduceIte, eq_self, nI_10, and_true, true_and, and_false, false_and, not_true_eq_false, not_false_eq_true, Bool.and_true, Bool.true_and, Bool.and_false, Bool.false_and, decide_true, decide_false, Bool.false_eq_true, eq_true c_1]
    exact W.zret (v := nI 0) hx hb hr rfl (fun t ht hW => ⟨⟨nI 0, (), rfl, hq9, by rw [ht]; exact hP, hD⟩, hS.F ht⟩) hS9 dX0_has_17
  · skip
    refine lv_iload_n hx hb dX0_has_4 rfl (lv_at hl 1 rfl) ?_
    refine lv_aload_n hx hb dX0_has_5 rfl (lv_at hl 0 rfl) ?_
    refine va_get (D := G) (ci := 0) (v := .int (nI n)) (C := RX0) (T := TX0) (N := 4) hx hb hts hi_X0_has_X0 hown hK hP 0 rfl rfl 3 (by decide) (hts _ hk_X0_has_f21) (fun _ h9 => h9) rfl dX0_has_6 ?_
    refine lv_icmp_ge (tgt := 16) hx hb dX0_has_9 (by decide) (fun c_2 => ?_) (fun c_2 => ?_)
    · skip
      refine lv_iconst (v := nI 0) hx hb dX0_has_16 (by decide +kernel) ?_
      have hS9 := hS.2.2
      have hq9 : ((nI 0) = if (¬ x < 0 ∧ ¬ nI n ≤ x) then nI 1 else nI 0) := by simp only [↓reduceIte, eq_self, nI_10, and_true, true_and, and_false, false_and, not_true_eq_false, not_false_eq_true, Bool.and_true, Bool.true_and, Bool.and_false, Bool.false_and, decide_true, decide_false, Bool.false_eq_true, eq_false c_1, eq_true c_2]
      exact W.zret (v := nI 0) hx hb hr rfl (fun t ht hW => ⟨⟨nI 0, (), rfl, hq9, by rw [ht]; exact hP, hD⟩, hS.F ht⟩) hS9 dX0_has_17
    · skip
      refine lv_iconst (v := nI 1) hx hb dX0_has_12 (by decide +kernel) ?_
      refine lv_goto (tgt := 17) hx hb dX0_has_13 (by decide) ?_
      have hS9 := hS.2.2
      have hq9 : ((nI 1) = if (¬ x < 0 ∧ ¬ nI n ≤ x) then nI 1 else nI 0) := by simp only [↓reduceIte, eq_self, nI_10, and_true, true_and, and_false, false_and, not_true_eq_false, not_false_eq_true, Bool.and_true, Bool.true_and, Bool.and_false, Bool.false_and, decide_true, decide_false, Bool.false_eq_true, eq_false c_1, eq_false c_2]
      exact W.zret (v := nI 1) hx hb hr rfl (fun t ht hW => ⟨⟨nI 1, (), rfl, hq9, by rw [ht]; exact hP, hD⟩, hS.F ht⟩) hS9 dX0_has_17

theorem hk_X0_isFull_f21 : (.fieldLink RX0 21 "Callgate$Book" "size" "I" : Cond) ∈ wsX0_isFull := by decide +kernel
theorem hi_X0_isFull_X0 : ∀ w ∈ u_ws RX0 TX0 4, w ∈ wsX0_isFull := by decide +kernel
set_option maxHeartbeats 4000000 in
set_option maxRecDepth 100000 in
theorem c_X0_isFull (l : Launch) (G : va_G) (cI : ClassId) (b : Nat → Nat) (me : Fn) (ar : Fn) (dl : Fn) (n : Nat) (hn : n ≤ 40) (zz : Nat) : Met l yX0_isFull wsX0_isFull ({ frames := 0, cells := 0, slots := 0, locals := 0 }) (va_Pc [.ref (b 0)] (kPre G cI [(b 0, .inr (0, [.ref (b 1), .ref (b 2), .ref (b 3), .int (nI n)])), (b 1, .inl (cI, 40, .inl me)), (b 2, .inl (cI, 40, .inl ar)), (b 3, .inl (cI, 40, .inl dl))] zz)) (va_Qi (fun (r : Int32) (u : Unit) => (r = if ¬ n < 40 then nI 1 else nI 0)) (fun (u : Unit) t => kQ G [(b 0, .inr (0, [.ref (b 1), .ref (b 2), .ref (b 3), .int (nI n)])), (b 1, .inl (cI, 40, .inl me)), (b 2, .inl (cI, 40, .inl ar)), (b 3, .inl (cI, 40, .inl dl))] (va_A [(b 0, .inr (0, [.ref (b 1), .ref (b 2), .ref (b 3), .int (nI n)])), (b 1, .inl (cI, 40, .inl me)), (b 2, .inl (cI, 40, .inl ar)), (b 3, .inl (cI, 40, .inl dl))] zz) t) (va_A [(b 0, .inr (0, [.ref (b 1), .ref (b 2), .ref (b 3), .int (nI n)])), (b 1, .inl (cI, 40, .inl me)), (b 2, .inl (cI, 40, .inl ar)), (b 3, .inl (cI, 40, .inl dl))] zz)) 0 0 (va_A [(b 0, .inr (0, [.ref (b 1), .ref (b 2), .ref (b 3), .int (nI n)])), (b 1, .inl (cI, 40, .inl me)), (b 2, .inl (cI, 40, .inl ar)), (b 3, .inl (cI, 40, .inl dl))] zz) := by
  refine Met.ofW (cc := cX0_isFull) (maxL := 1) (ret := (some .boolean)) (by decide) rfl ?_
  intro p e s m args below meth c s₁ B hml hv
  obtain ⟨rfl, hsz, hP, hK, hD0, hN⟩ := hv
  have hx := B.exec
  have hb := B.bytes
  have hr := B.returns
  have hts := atoms_spec (ws := wsX0_isFull) B.pre
  have hown : s.vm.findClass RX0 = some m.cls := findClass_of_methodNamed B.named
  have hlocks := B.notSynchronized
  subst hsz
  have hD := hD0.self (sz := s.heap.size)
  generalize hAe : va_A [(b 0, .inr (0, [.ref (b 1), .ref (b 2), .ref (b 3), .int (nI n)])), (b 1, .inl (cI, 40, .inl me)), (b 2, .inl (cI, 40, .inl ar)), (b 3, .inl (cI, 40, .inl dl))] s.heap.size = A at hD hN ⊢
  have hA : ∀ q : Nat, s.heap.size ≤ q → A q := fun q h => by rw [← hAe]; exact Or.inr h
  have hS : va_S A s.heap s.heap [] := va_S.rf
  have hl := lv_entry ([.ref (b 0)]) (n := 1) (Nat.le_of_ble_eq_true rfl)
  rw [lg_entry_eq]
  generalize (lg_sl ([.ref (b 0)]) ++ List.replicate (1 - (lg_sl ([.ref (b 0)])).length) Slot.unset).toArray = ls at hl ⊢
  have hl : lv_has ls 1 [(0, .ref (b 0))] := hl
  have hP : va_P G vwCl [(b 0, .inr (0, [.ref (b 1), .ref (b 2), .ref (b 3), .int (nI n)])), (b 1, .inl (cI, 40, .inl me)), (b 2, .inl (cI, 40, .inl ar)), (b 3, .inl (cI, 40, .inl dl))] s.heap := hP
  obtain ⟨H, hH⟩ : ∃ H, H = s.heap := ⟨_, rfl⟩
  rw [← hH] at hP
  have hS : va_S A s.heap H [] := by rw [hH]; exact hS
  show W _ _ _ _ _ _ _ _ _ _ s.heap _ _ _ _ _
  rw [← hH]
  obtain ⟨locs, hlo⟩ : ∃ z : List Loc, z = [] := ⟨_, rfl⟩
  rw [← hlo] at hS ⊢
  refine lv_aload_n hx hb dX0_isFull_0 rfl (lv_at hl 0 rfl) ?_
  refine va_get (D := G) (ci := 0) (v := .int (nI n)) (C := RX0) (T := TX0) (N := 4) hx hb hts hi_X0_isFull_X0 hown hK hP 0 rfl rfl 3 (by decide) (hts _ hk_X0_isFull_f21) (fun _ h9 => h9) rfl dX0_isFull_1 ?_
  refine lv_bipush (v := nI 40) hx hb dX0_isFull_4 (by decide +kernel) ?_
  refine lv_icmp_lt (tgt := 13) hx hb dX0_isFull_6 (by decide) (fun c_1 => ?_) (fun c_1 => ?_)
  · have g_1 := (nI_ltI (a := n) (b := 40) (by omega) (by omega)).mp c_1
    refine lv_iconst (v := nI 0) hx hb dX0_isFull_13 (by decide +kernel) ?_
    have hS9 := hS.2.2
    have hq9 : ((nI 0) = if ¬ n < 40 then nI 1 else nI 0) := by simp only [↓reduceIte, eq_self, nI_10, and_true, true_and, and_false, false_and, not_true_eq_false, not_false_eq_true, Bool.and_true, Bool.true_and, Bool.and_false, Bool.false_and, decide_true, decide_false, Bool.false_eq_true, eq_true g_1]
    exact W.zret (v := nI 0) hx hb hr rfl (fun t ht hW => ⟨⟨nI 0, (), rfl, hq9, by rw [ht]; exact hP, hD⟩, hS.F ht⟩) hS9 dX0_isFull_14
  · have g_1 := (not_congr (nI_ltI (a := n) (b := 40) (by omega) (by omega))).mp c_1
    refine lv_iconst (v := nI 1) hx hb dX0_isFull_9 (by decide +kernel) ?_
    refine lv_goto (tgt := 14) hx hb dX0_isFull_10 (by decide) ?_
    have hS9 := hS.2.2
    have hq9 : ((nI 1) = if ¬ n < 40 then nI 1 else nI 0) := by simp only [↓reduceIte, eq_self, nI_10, and_true, true_and, and_false, false_and, not_true_eq_false, not_false_eq_true, Bool.and_true, Bool.true_and, Bool.and_false, Bool.false_and, decide_true, decide_false, Bool.false_eq_true, eq_false g_1]
    exact W.zret (v := nI 1) hx hb hr rfl (fun t ht hW => ⟨⟨nI 1, (), rfl, hq9, by rw [ht]; exact hP, hD⟩, hS.F ht⟩) hS9 dX0_isFull_14

theorem hk_X0_enter_f21 : (.fieldLink RX0 21 "Callgate$Book" "size" "I" : Cond) ∈ wsX0_enter := by decide +kernel
theorem hi_X0_enter_X0 : ∀ w ∈ u_ws RX0 TX0 4, w ∈ wsX0_enter := by decide +kernel
theorem hk_X0_enter_f9 : (.fieldLink RX0 9 "Callgate$Book" "methods" "[I" : Cond) ∈ wsX0_enter := by decide +kernel
theorem hk_X0_enter_f15 : (.fieldLink RX0 15 "Callgate$Book" "arguments" "[I" : Cond) ∈ wsX0_enter := by decide +kernel
theorem hk_X0_enter_f18 : (.fieldLink RX0 18 "Callgate$Book" "deadlines" "[I" : Cond) ∈ wsX0_enter := by decide +kernel
set_option maxHeartbeats 4000000 in
set_option maxRecDepth 100000 in
theorem c_X0_enter (l : Launch) (G : va_G) (cI : ClassId) (b : Nat → Nat) (me : Fn) (ar : Fn) (dl : Fn) (n : Nat) (x : Int32) (y : Int32) (z : Int32) (hn : n < 40) (zz : Nat) : Met l yX0_enter wsX0_enter ({ frames := 0, cells := 0, slots := 0, locals := 0 }) (va_Pc [.ref (b 0), .int x, .int y, .int z] (kPre G cI [(b 0, .inr (0, [.ref (b 1), .ref (b 2), .ref (b 3), .int (nI n)])), (b 1, .inl (cI, 40, .inl me)), (b 2, .inl (cI, 40, .inl ar)), (b 3, .inl (cI, 40, .inl dl))] zz)) (va_Qi (fun (r : Int32) (u : Unit) => (r = nI n)) (fun (u : Unit) t => kQ G [(b 0, .inr (0, [.ref (b 1), .ref (b 2), .ref (b 3), .int (nI (n + 1))])), (b 1, .inl (cI, 40, .inl (upd me n x))), (b 2, .inl (cI, 40, .inl (upd ar n y))), (b 3, .inl (cI, 40, .inl (upd dl n z)))] (va_A [(b 0, .inr (0, [.ref (b 1), .ref (b 2), .ref (b 3), .int (nI n)])), (b 1, .inl (cI, 40, .inl me)), (b 2, .inl (cI, 40, .inl ar)), (b 3, .inl (cI, 40, .inl dl))] zz) t) (va_A [(b 0, .inr (0, [.ref (b 1), .ref (b 2), .ref (b 3), .int (nI n)])), (b 1, .inl (cI, 40, .inl me)), (b 2, .inl (cI, 40, .inl ar)), (b 3, .inl (cI, 40, .inl dl))] zz)) 0 0 (va_A [(b 0, .inr (0, [.ref (b 1), .ref (b 2), .ref (b 3), .int (nI n)])), (b 1, .inl (cI, 40, .inl me)), (b 2, .inl (cI, 40, .inl ar)), (b 3, .inl (cI, 40, .inl dl))] zz) := by
  refine Met.ofW (cc := cX0_enter) (maxL := 5) (ret := (some .int)) (by decide) rfl ?_
  intro p e s m args below meth c s₁ B hml hv
  obtain ⟨rfl, hsz, hP, hK, hD0, hN⟩ := hv
  have hx := B.exec
  have hb := B.bytes
  have hr := B.returns
  have hts := atoms_spec (ws := wsX0_enter) B.pre
  have hown : s.vm.findClass RX0 = some m.cls := findClass_of_methodNamed B.named
  have hlocks := B.notSynchronized
  subst hsz
  have hD := hD0.self (sz := s.heap.size)
  generalize hAe : va_A [(b 0, .inr (0, [.ref (b 1), .ref (b 2), .ref (b 3), .int (nI n)])), (b 1, .inl (cI, 40, .inl me)), (b 2, .inl (cI, 40, .inl ar)), (b 3, .inl (cI, 40, .inl dl))] s.heap.size = A at hD hN ⊢
  have hA : ∀ q : Nat, s.heap.size ≤ q → A q := fun q h => by rw [← hAe]; exact Or.inr h
  have hS : va_S A s.heap s.heap [] := va_S.rf
  have hl := lv_entry ([.ref (b 0), .int x, .int y, .int z]) (n := 5) (Nat.le_of_ble_eq_true rfl)
  rw [lg_entry_eq]
  generalize (lg_sl ([.ref (b 0), .int x, .int y, .int z]) ++ List.replicate (5 - (lg_sl ([.ref (b 0), .int x, .int y, .int z])).length) Slot.unset).toArray = ls at hl ⊢
  have hl : lv_has ls 5 [(0, .ref (b 0)), (1, .int x), (2, .int y), (3, .int z)] := hl
  have hP : va_P G vwCl [(b 0, .inr (0, [.ref (b 1), .ref (b 2), .ref (b 3), .int (nI n)])), (b 1, .inl (cI, 40, .inl me)), (b 2, .inl (cI, 40, .inl ar)), (b 3, .inl (cI, 40, .inl dl))] s.heap := hP
  obtain ⟨H, hH⟩ : ∃ H, H = s.heap := ⟨_, rfl⟩
  rw [← hH] at hP
  have hS : va_S A s.heap H [] := by rw [hH]; exact hS
  show W _ _ _ _ _ _ _ _ _ _ s.heap _ _ _ _ _
  rw [← hH]
  obtain ⟨locs, hlo⟩ : ∃ z : List Loc, z = [] := ⟨_, rfl⟩
  rw [← hlo] at hS ⊢
  refine lv_aload_n hx hb dX0_enter_0 rfl (lv_at hl 0 rfl) ?_
  refine va_get (D := G) (ci := 0) (v := .int (nI n)) (C := RX0) (T := TX0) (N := 4) hx hb hts hi_X0_enter_X0 hown hK hP 0 rfl rfl 3 (by decide) (hts _ hk_X0_enter_f21) (fun _ h9 => h9) rfl dX0_enter_1 ?_
  refine lv_istore (lv' := [(4, .int (nI n)), (0, .ref (b 0)), (1, .int x), (2, .int y), (3, .int z)]) hx hb dX0_enter_4 hl (by decide) rfl (fun ls hl => ?_)
  refine lv_aload_n hx hb dX0_enter_6 rfl (lv_at hl 1 rfl) ?_
  refine va_get (D := G) (ci := 0) (v := .ref (b 1)) (C := RX0) (T := TX0) (N := 4) hx hb hts hi_X0_enter_X0 hown hK hP 0 rfl rfl 0 (by decide) (hts _ hk_X0_enter_f9) (fun _ h9 => h9) rfl dX0_enter_7 ?_
  refine lv_iload hx hb dX0_enter_10 (lv_at hl 0 rfl) ?_
  refine lv_iload_n hx hb dX0_enter_12 rfl (lv_at hl 2 rfl) ?_
  refine gz_iast hx hb hK hP hD hS 1 rfl rfl (k := n) rfl (by omega) (by decide) dX0_enter_13 (fun H locs hP hD hS => ?_)
  have hP : va_P G vwCl [(b 0, .inr (0, [.ref (b 1), .ref (b 2), .ref (b 3), .int (nI n)])), (b 1, .inl (cI, 40, .inl (upd me n x))), (b 2, .inl (cI, 40, .inl ar)), (b 3, .inl (cI, 40, .inl dl))] H := hP
  have hD : va_D A [(b 0, .inr (0, [.ref (b 1), .ref (b 2), .ref (b 3), .int (nI n)])), (b 1, .inl (cI, 40, .inl (upd me n x))), (b 2, .inl (cI, 40, .inl ar)), (b 3, .inl (cI, 40, .inl dl))] := hD
  refine lv_aload_n hx hb dX0_enter_14 rfl (lv_at hl 1 rfl) ?_
  refine va_get (D := G) (ci := 0) (v := .ref (b 2)) (C := RX0) (T := TX0) (N := 4) hx hb hts hi_X0_enter_X0 hown hK hP 0 rfl rfl 1 (by decide) (hts _ hk_X0_enter_f15) (fun _ h9 => h9) rfl dX0_enter_15 ?_
  refine lv_iload hx hb dX0_enter_18 (lv_at hl 0 rfl) ?_
  refine lv_iload_n hx hb dX0_enter_20 rfl (lv_at hl 3 rfl) ?_
  refine gz_iast hx hb hK hP hD hS 2 rfl rfl (k := n) rfl (by omega) (by decide) dX0_enter_21 (fun H locs hP hD hS => ?_)
  have hP : va_P G vwCl [(b 0, .inr (0, [.ref (b 1), .ref (b 2), .ref (b 3), .int (nI n)])), (b 1, .inl (cI, 40, .inl (upd me n x))), (b 2, .inl (cI, 40, .inl (upd ar n y))), (b 3, .inl (cI, 40, .inl dl))] H := hP
  have hD : va_D A [(b 0, .inr (0, [.ref (b 1), .ref (b 2), .ref (b 3), .int (nI n)])), (b 1, .inl (cI, 40, .inl (upd me n x))), (b 2, .inl (cI, 40, .inl (upd ar n y))), (b 3, .inl (cI, 40, .inl dl))] := hD
  refine lv_aload_n hx hb dX0_enter_22 rfl (lv_at hl 1 rfl) ?_
  refine va_get (D := G) (ci := 0) (v := .ref (b 3)) (C := RX0) (T := TX0) (N := 4) hx hb hts hi_X0_enter_X0 hown hK hP 0 rfl rfl 2 (by decide) (hts _ hk_X0_enter_f18) (fun _ h9 => h9) rfl dX0_enter_23 ?_
  refine lv_iload hx hb dX0_enter_26 (lv_at hl 0 rfl) ?_
  refine lv_iload_n hx hb dX0_enter_28 rfl (lv_at hl 4 rfl) ?_
  refine gz_iast hx hb hK hP hD hS 3 rfl rfl (k := n) rfl (by omega) (by decide) dX0_enter_29 (fun H locs hP hD hS => ?_)
  have hP : va_P G vwCl [(b 0, .inr (0, [.ref (b 1), .ref (b 2), .ref (b 3), .int (nI n)])), (b 1, .inl (cI, 40, .inl (upd me n x))), (b 2, .inl (cI, 40, .inl (upd ar n y))), (b 3, .inl (cI, 40, .inl (upd dl n z)))] H := hP
  have hD : va_D A [(b 0, .inr (0, [.ref (b 1), .ref (b 2), .ref (b 3), .int (nI n)])), (b 1, .inl (cI, 40, .inl (upd me n x))), (b 2, .inl (cI, 40, .inl (upd ar n y))), (b 3, .inl (cI, 40, .inl (upd dl n z)))] := hD
  refine lv_aload_n hx hb dX0_enter_30 rfl (lv_at hl 1 rfl) ?_
  refine lv_dup hx hb dX0_enter_31 rfl ?_
  refine va_get (D := G) (ci := 0) (v := .int (nI n)) (C := RX0) (T := TX0) (N := 4) hx hb hts hi_X0_enter_X0 hown hK hP 0 rfl rfl 3 (by decide) (hts _ hk_X0_enter_f21) (fun _ h9 => h9) rfl dX0_enter_32 ?_
  refine lv_iconst (v := nI 1) hx hb dX0_enter_35 (by decide +kernel) ?_
  refine lv_iadd hx hb dX0_enter_36 ?_
  refine gz_top (nI_add _ _) ?_
  refine va_put (D := G) (ci := 0) (v := .int (nI (n + 1))) (ty := .int) (C := RX0) (T := TX0) (N := 4) hx hb hts hi_X0_enter_X0 tyX0 tyX0_ok nmX0 hown hK hP hD hS 0 rfl rfl 3 (by decide) (hts _ hk_X0_enter_f21) (fun _ h9 => h9) rfl (by decide +kernel) rfl rfl (Nat.le_of_ble_eq_true rfl) dX0_enter_37 (fun H locs hP hD hS => ?_)
  have hP : va_P G vwCl [(b 0, .inr (0, [.ref (b 1), .ref (b 2), .ref (b 3), .int (nI (n + 1))])), (b 1, .inl (cI, 40, .inl (upd me n x))), (b 2, .inl (cI, 40, .inl (upd ar n y))), (b 3, .inl (cI, 40, .inl (upd dl n z)))] H := hP
  have hD : va_D A [(b 0, .inr (0, [.ref (b 1), .ref (b 2), .ref (b 3), .int (nI (n + 1))])), (b 1, .inl (cI, 40, .inl (upd me n x))), (b 2, .inl (cI, 40, .inl (upd ar n y))), (b 3, .inl (cI, 40, .inl (upd dl n z)))] := hD
  refine lv_iload hx hb dX0_enter_40 (lv_at hl 0 rfl) ?_
  have hS9 := hS.2.2
  have hq9 : ((nI n) = nI n) := by rfl
  exact W.iret (v := nI n) hx hb hr (fun t ht hW => ⟨⟨nI n, (), rfl, hq9, by rw [ht]; exact hP, hD⟩, hS.F ht⟩) hS9 dX0_enter_42

theorem hk_X0_isDue_f18 : (.fieldLink RX0 18 "Callgate$Book" "deadlines" "[I" : Cond) ∈ wsX0_isDue := by decide +kernel
theorem hi_X0_isDue_X0 : ∀ w ∈ u_ws RX0 TX0 4, w ∈ wsX0_isDue := by decide +kernel
set_option maxHeartbeats 4000000 in
set_option maxRecDepth 100000 in
theorem c_X0_isDue (l : Launch) (G : va_G) (cI : ClassId) (b : Nat → Nat) (me : Fn) (ar : Fn) (dl : Fn) (n : Nat) (k : Nat) (tm : Int32) (hn : k < 40) (zz : Nat) : Met l yX0_isDue wsX0_isDue ({ frames := 0, cells := 0, slots := 0, locals := 0 }) (va_Pc [.ref (b 0), .int (nI k), .int tm] (kPre G cI [(b 0, .inr (0, [.ref (b 1), .ref (b 2), .ref (b 3), .int (nI n)])), (b 1, .inl (cI, 40, .inl me)), (b 2, .inl (cI, 40, .inl ar)), (b 3, .inl (cI, 40, .inl dl))] zz)) (va_Qi (fun (r : Int32) (u : Unit) => (r = if (¬ tm < dl k) then nI 1 else nI 0)) (fun (u : Unit) t => kQ G [(b 0, .inr (0, [.ref (b 1), .ref (b 2), .ref (b 3), .int (nI n)])), (b 1, .inl (cI, 40, .inl me)), (b 2, .inl (cI, 40, .inl ar)), (b 3, .inl (cI, 40, .inl dl))] (va_A [(b 0, .inr (0, [.ref (b 1), .ref (b 2), .ref (b 3), .int (nI n)])), (b 1, .inl (cI, 40, .inl me)), (b 2, .inl (cI, 40, .inl ar)), (b 3, .inl (cI, 40, .inl dl))] zz) t) (va_A [(b 0, .inr (0, [.ref (b 1), .ref (b 2), .ref (b 3), .int (nI n)])), (b 1, .inl (cI, 40, .inl me)), (b 2, .inl (cI, 40, .inl ar)), (b 3, .inl (cI, 40, .inl dl))] zz)) 0 0 (va_A [(b 0, .inr (0, [.ref (b 1), .ref (b 2), .ref (b 3), .int (nI n)])), (b 1, .inl (cI, 40, .inl me)), (b 2, .inl (cI, 40, .inl ar)), (b 3, .inl (cI, 40, .inl dl))] zz) := by
  refine Met.ofW (cc := cX0_isDue) (maxL := 3) (ret := (some .boolean)) (by decide) rfl ?_
  intro p e s m args below meth c s₁ B hml hv
  obtain ⟨rfl, hsz, hP, hK, hD0, hN⟩ := hv
  have hx := B.exec
  have hb := B.bytes
  have hr := B.returns
  have hts := atoms_spec (ws := wsX0_isDue) B.pre
  have hown : s.vm.findClass RX0 = some m.cls := findClass_of_methodNamed B.named
  have hlocks := B.notSynchronized
  subst hsz
  have hD := hD0.self (sz := s.heap.size)
  generalize hAe : va_A [(b 0, .inr (0, [.ref (b 1), .ref (b 2), .ref (b 3), .int (nI n)])), (b 1, .inl (cI, 40, .inl me)), (b 2, .inl (cI, 40, .inl ar)), (b 3, .inl (cI, 40, .inl dl))] s.heap.size = A at hD hN ⊢
  have hA : ∀ q : Nat, s.heap.size ≤ q → A q := fun q h => by rw [← hAe]; exact Or.inr h
  have hS : va_S A s.heap s.heap [] := va_S.rf
  have hl := lv_entry ([.ref (b 0), .int (nI k), .int tm]) (n := 3) (Nat.le_of_ble_eq_true rfl)
  rw [lg_entry_eq]
  generalize (lg_sl ([.ref (b 0), .int (nI k), .int tm]) ++ List.replicate (3 - (lg_sl ([.ref (b 0), .int (nI k), .int tm])).length) Slot.unset).toArray = ls at hl ⊢
  have hl : lv_has ls 3 [(0, .ref (b 0)), (1, .int (nI k)), (2, .int tm)] := hl
  have hP : va_P G vwCl [(b 0, .inr (0, [.ref (b 1), .ref (b 2), .ref (b 3), .int (nI n)])), (b 1, .inl (cI, 40, .inl me)), (b 2, .inl (cI, 40, .inl ar)), (b 3, .inl (cI, 40, .inl dl))] s.heap := hP
  obtain ⟨H, hH⟩ : ∃ H, H = s.heap := ⟨_, rfl⟩
  rw [← hH] at hP
  have hS : va_S A s.heap H [] := by rw [hH]; exact hS
  show W _ _ _ _ _ _ _ _ _ _ s.heap _ _ _ _ _
  rw [← hH]
  obtain ⟨locs, hlo⟩ : ∃ z : List Loc, z = [] := ⟨_, rfl⟩
  rw [← hlo] at hS ⊢
  refine lv_aload_n hx hb dX0_isDue_0 rfl (lv_at hl 0 rfl) ?_
  refine va_get (D := G) (ci := 0) (v := .ref (b 3)) (C := RX0) (T := TX0) (N := 4) hx hb hts hi_X0_isDue_X0 hown hK hP 0 rfl rfl 2 (by decide) (hts _ hk_X0_isDue_f18) (fun _ h9 => h9) rfl dX0_isDue_1 ?_
  refine lv_iload_n hx hb dX0_isDue_4 rfl (lv_at hl 1 rfl) ?_
  refine gz_iald hx hb hK hP 3 rfl rfl (k := k) rfl (by omega) (by decide) dX0_isDue_5 ?_
  refine lv_iload_n hx hb dX0_isDue_6 rfl (lv_at hl 2 rfl) ?_
  refine lv_icmp_gt (tgt := 14) hx hb dX0_isDue_7 (by decide) (fun c_1 => ?_) (fun c_1 => ?_)
  · skip
    refine lv_iconst (v := nI 0) hx hb dX0_isDue_14 (by decide +kernel) ?_
    have hS9 := hS.2.2
    have hq9 : ((nI 0) = if (¬ tm < dl k) then nI 1 else nI 0) := by simp only [↓reduceIte, eq_self, nI_10, and_true, true_and, and_false, false_and, not_true_eq_false, not_false_eq_true, Bool.and_true, Bool.true_and, Bool.and_false, Bool.false_and, decide_true, decide_false, Bool.false_eq_true, eq_true c_1]
    exact W.zret (v := nI 0) hx hb hr rfl (fun t ht hW => ⟨⟨nI 0, (), rfl, hq9, by rw [ht]; exact hP, hD⟩, hS.F ht⟩) hS9 dX0_isDue_15
  · skip
    refine lv_iconst (v := nI 1) hx hb dX0_isDue_10 (by decide +kernel) ?_
    refine lv_goto (tgt := 15) hx hb dX0_isDue_11 (by decide) ?_
    have hS9 := hS.2.2
    have hq9 : ((nI 1) = if (¬ tm < dl k) then nI 1 else nI 0) := by simp only [↓reduceIte, eq_self, nI_10, and_true, true_and, and_false, false_and, not_true_eq_false, not_false_eq_true, Bool.and_true, Bool.true_and, Bool.and_false, Bool.false_and, decide_true, decide_false, Bool.false_eq_true, eq_false c_1]
    exact W.zret (v := nI 1) hx hb hr rfl (fun t ht hW => ⟨⟨nI 1, (), rfl, hq9, by rw [ht]; exact hP, hD⟩, hS.F ht⟩) hS9 dX0_isDue_15

theorem hk_X2_has_f24 : (.fieldLink RX2 24 "Callgate$Lane" "size" "I" : Cond) ∈ wsX2_has := by decide +kernel
theorem hi_X2_has_X2 : ∀ w ∈ u_ws RX2 TX2 6, w ∈ wsX2_has := by decide +kernel
set_option maxHeartbeats 4000000 in
set_option maxRecDepth 100000 in
theorem c_X2_has (l : Launch) (G : va_G) (cI : ClassId) (d : Nat → Nat) (ki : Fn) (ow : Fn) (mr : Fn) (va : Fn) (fi : Nat) (sz : Nat) (x : Int32) (hs : sz ≤ 40) (zz : Nat) : Met l yX2_has wsX2_has ({ frames := 0, cells := 0, slots := 0, locals := 0 }) (va_Pc [.ref (d 0), .int x] (kPre G cI [(d 0, .inr (2, [.ref (d 1), .ref (d 2), .ref (d 3), .ref (d 4), .int (nI fi), .int (nI sz)])), (d 1, .inl (cI, 40, .inl ki)), (d 2, .inl (cI, 40, .inl ow)), (d 3, .inl (cI, 40, .inl mr)), (d 4, .inl (cI, 40, .inl va))] zz)) (va_Qi (fun (r : Int32) (u : Unit) => (r = if (¬ x < 0 ∧ ¬ nI sz ≤ x) then nI 1 else nI 0)) (fun (u : Unit) t => kQ G [(d 0, .inr (2, [.ref (d 1), .ref (d 2), .ref (d 3), .ref (d 4), .int (nI fi), .int (nI sz)])), (d 1, .inl (cI, 40, .inl ki)), (d 2, .inl (cI, 40, .inl ow)), (d 3, .inl (cI, 40, .inl mr)), (d 4, .inl (cI, 40, .inl va))] (va_A [(d 0, .inr (2, [.ref (d 1), .ref (d 2), .ref (d 3), .ref (d 4), .int (nI fi), .int (nI sz)])), (d 1, .inl (cI, 40, .inl ki)), (d 2, .inl (cI, 40, .inl ow)), (d 3, .inl (cI, 40, .inl mr)), (d 4, .inl (cI, 40, .inl va))] zz) t) (va_A [(d 0, .inr (2, [.ref (d 1), .ref (d 2), .ref (d 3), .ref (d 4), .int (nI fi), .int (nI sz)])), (d 1, .inl (cI, 40, .inl ki)), (d 2, .inl (cI, 40, .inl ow)), (d 3, .inl (cI, 40, .inl mr)), (d 4, .inl (cI, 40, .inl va))] zz)) 0 0 (va_A [(d 0, .inr (2, [.ref (d 1), .ref (d 2), .ref (d 3), .ref (d 4), .int (nI fi), .int (nI sz)])), (d 1, .inl (cI, 40, .inl ki)), (d 2, .inl (cI, 40, .inl ow)), (d 3, .inl (cI, 40, .inl mr)), (d 4, .inl (cI, 40, .inl va))] zz) := by
  refine Met.ofW (cc := cX2_has) (maxL := 2) (ret := (some .boolean)) (by decide) rfl ?_
  intro p e s m args below meth c s₁ B hml hv
  obtain ⟨rfl, hsz, hP, hK, hD0, hN⟩ := hv
  have hx := B.exec
  have hb := B.bytes
  have hr := B.returns
  have hts := atoms_spec (ws := wsX2_has) B.pre
  have hown : s.vm.findClass RX2 = some m.cls := findClass_of_methodNamed B.named
  have hlocks := B.notSynchronized
  subst hsz
  have hD := hD0.self (sz := s.heap.size)
  generalize hAe : va_A [(d 0, .inr (2, [.ref (d 1), .ref (d 2), .ref (d 3), .ref (d 4), .int (nI fi), .int (nI sz)])), (d 1, .inl (cI, 40, .inl ki)), (d 2, .inl (cI, 40, .inl ow)), (d 3, .inl (cI, 40, .inl mr)), (d 4, .inl (cI, 40, .inl va))] s.heap.size = A at hD hN ⊢
  have hA : ∀ q : Nat, s.heap.size ≤ q → A q := fun q h => by rw [← hAe]; exact Or.inr h
  have hS : va_S A s.heap s.heap [] := va_S.rf
  have hl := lv_entry ([.ref (d 0), .int x]) (n := 2) (Nat.le_of_ble_eq_true rfl)
  rw [lg_entry_eq]
  generalize (lg_sl ([.ref (d 0), .int x]) ++ List.replicate (2 - (lg_sl ([.ref (d 0), .int x])).length) Slot.unset).toArray = ls at hl ⊢
  have hl : lv_has ls 2 [(0, .ref (d 0)), (1, .int x)] := hl
  have hP : va_P G vwCl [(d 0, .inr (2, [.ref (d 1), .ref (d 2), .ref (d 3), .ref (d 4), .int (nI fi), .int (nI sz)])), (d 1, .inl (cI, 40, .inl ki)), (d 2, .inl (cI, 40, .inl ow)), (d 3, .inl (cI, 40, .inl mr)), (d 4, .inl (cI, 40, .inl va))] s.heap := hP
  obtain ⟨H, hH⟩ : ∃ H, H = s.heap := ⟨_, rfl⟩
  rw [← hH] at hP
  have hS : va_S A s.heap H [] := by rw [hH]; exact hS
  show W _ _ _ _ _ _ _ _ _ _ s.heap _ _ _ _ _
  rw [← hH]
  obtain ⟨locs, hlo⟩ : ∃ z : List Loc, z = [] := ⟨_, rfl⟩
  rw [← hlo] at hS ⊢
  refine lv_iload_n hx hb dX2_has_0 rfl (lv_at hl 1 rfl) ?_
  refine lv_if_lt (tgt := 16) hx hb dX2_has_1 (by decide) (fun c_1 => ?_) (fun c_1 => ?_)
  · skip
    refine lv_iconst (v := nI 0) hx hb dX2_has_16 (by decide +kernel) ?_
    have hS9 := hS.2.2
    have hq9 : ((nI 0) = if (¬ x < 0 ∧ ¬ nI sz ≤ x) then nI 1 else nI 0) := by simp only [↓reduceIte, eq_self, nI_10, and_true, true_and, and_false, false_and, not_true_eq_false, not_false_eq_true, Bool.and_true, Bool.true_and, Bool.and_false, Bool.false_and, decide_true, decide_false, Bool.false_eq_true, eq_true c_1]
    exact W.zret (v := nI 0) hx hb hr rfl (fun t ht hW => ⟨⟨nI 0, (), rfl, hq9, by rw [ht]; exact hP, hD⟩, hS.F ht⟩) hS9 dX2_has_17
  · skip
    refine lv_iload_n hx hb dX2_has_4 rfl (lv_at hl 1 rfl) ?_
    refine lv_aload_n hx hb dX2_has_5 rfl (lv_at hl 0 rfl) ?_
    refine va_get (D := G) (ci := 2) (v := .int (nI sz)) (C := RX2) (T := TX2) (N := 6) hx hb hts hi_X2_has_X2 hown hK hP 0 rfl rfl 5 (by decide) (hts _ hk_X2_has_f24) (fun _ h9 => h9) rfl dX2_has_6 ?_
    refine lv_icmp_ge (tgt := 16) hx hb dX2_has_9 (by decide) (fun c_2 => ?_) (fun c_2 => ?_)
    · skip
      refine lv_iconst (v := nI 0) hx hb dX2_has_16 (by decide +kernel) ?_
      have hS9 := hS.2.2
      have hq9 : ((nI 0) = if (¬ x < 0 ∧ ¬ nI sz ≤ x) then nI 1 else nI 0) := by simp only [↓reduceIte, eq_self, nI_10, and_true, true_and, and_false, false_and, not_true_eq_false, not_false_eq_true, Bool.and_true, Bool.true_and, Bool.and_false, Bool.false_and, decide_true, decide_false, Bool.false_eq_true, eq_false c_1, eq_true c_2]
      exact W.zret (v := nI 0) hx hb hr rfl (fun t ht hW => ⟨⟨nI 0, (), rfl, hq9, by rw [ht]; exact hP, hD⟩, hS.F ht⟩) hS9 dX2_has_17
    · skip
      refine lv_iconst (v := nI 1) hx hb dX2_has_12 (by decide +kernel) ?_
      refine lv_goto (tgt := 17) hx hb dX2_has_13 (by decide) ?_
      have hS9 := hS.2.2
      have hq9 : ((nI 1) = if (¬ x < 0 ∧ ¬ nI sz ≤ x) then nI 1 else nI 0) := by simp only [↓reduceIte, eq_self, nI_10, and_true, true_and, and_false, false_and, not_true_eq_false, not_false_eq_true, Bool.and_true, Bool.true_and, Bool.and_false, Bool.false_and, decide_true, decide_false, Bool.false_eq_true, eq_false c_1, eq_false c_2]
      exact W.zret (v := nI 1) hx hb hr rfl (fun t ht hW => ⟨⟨nI 1, (), rfl, hq9, by rw [ht]; exact hP, hD⟩, hS.F ht⟩) hS9 dX2_has_17


set_option maxHeartbeats 4000000 in
set_option maxRecDepth 100000 in
theorem c_J9_floorMod_7cf53 (l : Launch) (G : va_G) (cI : ClassId) (k : Nat) (hk : k ≤ 80) (zz : Nat) : Met l yJ9_floorMod_7cf53 wsJ9_floorMod_7cf53 ({ frames := 0, cells := 0, slots := 0, locals := 0 }) (va_Pc [.int (nI k), .int (nI 40)] (kPre G cI [] zz)) (va_Qi (fun (r : Int32) (u : Unit) => (r = nI (k % 40))) (fun (u : Unit) t => kQ G [] (va_A [] zz) t) (va_A [] zz)) 0 0 (va_A [] zz) := by
  refine fm_ofW (cc := cJ9_floorMod_7cf53) (maxL := 3) (ret := (some .int)) (by decide +kernel) rfl ?_
  intro p e s m args below meth c s₁ B hml hv
  obtain ⟨rfl, hsz, hP, hK, hD0, hN⟩ := hv
  have hx := B.exec
  have hb := B.bytes
  have hr := B.returns
  have hts := atoms_spec (ws := wsJ9_floorMod_7cf53) B.pre
  have hown : s.vm.findClass RJ9 = some m.cls := findClass_of_methodNamed B.named
  have hlocks := B.notSynchronized
  subst hsz
  have hD := hD0.self (sz := s.heap.size)
  generalize hAe : va_A [] s.heap.size = A at hD hN ⊢
  have hA : ∀ q : Nat, s.heap.size ≤ q → A q := fun q h => by rw [← hAe]; exact Or.inr h
  have hS : va_S A s.heap s.heap [] := va_S.rf
  have hl := lv_entry ([.int (nI k), .int (nI 40)]) (n := 3) (Nat.le_of_ble_eq_true rfl)
  rw [lg_entry_eq]
  generalize (lg_sl ([.int (nI k), .int (nI 40)]) ++ List.replicate (3 - (lg_sl ([.int (nI k), .int (nI 40)])).length) Slot.unset).toArray = ls at hl ⊢
  have hl : lv_has ls 3 [(0, .int (nI k)), (1, .int (nI 40))] := hl
  have hP : va_P G vwCl [] s.heap := hP
  obtain ⟨H, hH⟩ : ∃ H, H = s.heap := ⟨_, rfl⟩
  rw [← hH] at hP
  have hS : va_S A s.heap H [] := by rw [hH]; exact hS
  show W _ _ _ _ _ _ _ _ _ _ s.heap _ _ _ _ _
  rw [← hH]
  obtain ⟨locs, hlo⟩ : ∃ z : List Loc, z = [] := ⟨_, rfl⟩
  rw [← hlo] at hS ⊢
  refine lv_iload_n hx hb dJ9_floorMod_7cf53_0 rfl (lv_at hl 0 rfl) ?_
  refine lv_iload_n hx hb dJ9_floorMod_7cf53_1 rfl (lv_at hl 1 rfl) ?_
  refine lv_irem hx hb dJ9_floorMod_7cf53_2 (by decide +kernel) ?_
  refine gz_top (pk_rem (by omega) (by decide) (by decide)) ?_
  refine lv_istore_n (lv' := [(2, .int (nI (k % 40))), (0, .int (nI k)), (1, .int (nI 40))]) hx hb dJ9_floorMod_7cf53_3 rfl hl (by decide) rfl (fun ls hl => ?_)
  refine lv_iload_n hx hb dJ9_floorMod_7cf53_4 rfl (lv_at hl 1 rfl) ?_
  refine lv_iload_n hx hb dJ9_floorMod_7cf53_5 rfl (lv_at hl 2 rfl) ?_
  refine lv_ixor hx hb dJ9_floorMod_7cf53_6 ?_
  refine lv_if_ge (tgt := 18) hx hb dJ9_floorMod_7cf53_7 (by decide) (fun c_1 => ?_) (fun c_1 => ?_)
  · skip
    refine lv_iload_n hx hb dJ9_floorMod_7cf53_18 rfl (lv_at hl 0 rfl) ?_
    have hS9 := hS.2.2
    have hq9 : ((nI (k % 40)) = nI (k % 40)) := by rfl
    exact W.iret (v := nI (k % 40)) hx hb hr (fun t ht hW => ⟨⟨nI (k % 40), (), rfl, hq9, by rw [ht]; exact hP, hD⟩, hS.F ht⟩) hS9 dJ9_floorMod_7cf53_19
  · exact ((absurd (fm_x hk) c_1 : False)).elim

theorem hk_X2_slotOf_f28 : (.fieldLink RX2 28 "Callgate$Lane" "first" "I" : Cond) ∈ wsX2_slotOf := by decide +kernel
theorem hi_X2_slotOf_X2 : ∀ w ∈ u_ws RX2 TX2 6, w ∈ wsX2_slotOf := by decide +kernel
set_option maxHeartbeats 4000000 in
set_option maxRecDepth 100000 in
theorem c_X2_slotOf (l : Launch) (G : va_G) (cI : ClassId) (d : Nat → Nat) (ki : Fn) (ow : Fn) (mr : Fn) (va : Fn) (fi : Nat) (sz : Nat) (k : Nat) (hf : fi < 40) (hk : k ≤ 40) (zz : Nat) : Met l yX2_slotOf wsX2_slotOf ({ frames := 1, cells := 0, slots := 0, locals := 22 }) (va_Pc [.ref (d 0), .int (nI k)] (kPre G cI [(d 0, .inr (2, [.ref (d 1), .ref (d 2), .ref (d 3), .ref (d 4), .int (nI fi), .int (nI sz)])), (d 1, .inl (cI, 40, .inl ki)), (d 2, .inl (cI, 40, .inl ow)), (d 3, .inl (cI, 40, .inl mr)), (d 4, .inl (cI, 40, .inl va))] zz)) (va_Qi (fun (r : Int32) (u : Unit) => (r = nI ((fi + k) % 40))) (fun (u : Unit) t => kQ G [(d 0, .inr (2, [.ref (d 1), .ref (d 2), .ref (d 3), .ref (d 4), .int (nI fi), .int (nI sz)])), (d 1, .inl (cI, 40, .inl ki)), (d 2, .inl (cI, 40, .inl ow)), (d 3, .inl (cI, 40, .inl mr)), (d 4, .inl (cI, 40, .inl va))] (va_A [(d 0, .inr (2, [.ref (d 1), .ref (d 2), .ref (d 3), .ref (d 4), .int (nI fi), .int (nI sz)])), (d 1, .inl (cI, 40, .inl ki)), (d 2, .inl (cI, 40, .inl ow)), (d 3, .inl (cI, 40, .inl mr)), (d 4, .inl (cI, 40, .inl va))] zz) t) (va_A [(d 0, .inr (2, [.ref (d 1), .ref (d 2), .ref (d 3), .ref (d 4), .int (nI fi), .int (nI sz)])), (d 1, .inl (cI, 40, .inl ki)), (d 2, .inl (cI, 40, .inl ow)), (d 3, .inl (cI, 40, .inl mr)), (d 4, .inl (cI, 40, .inl va))] zz)) 0 0 (va_A [(d 0, .inr (2, [.ref (d 1), .ref (d 2), .ref (d 3), .ref (d 4), .int (nI fi), .int (nI sz)])), (d 1, .inl (cI, 40, .inl ki)), (d 2, .inl (cI, 40, .inl ow)), (d 3, .inl (cI, 40, .inl mr)), (d 4, .inl (cI, 40, .inl va))] zz) := by
  refine Met.ofW (cc := cX2_slotOf) (maxL := 2) (ret := (some .int)) (by decide) rfl ?_
  intro p e s m args below meth c s₁ B hml hv
  obtain ⟨rfl, hsz, hP, hK, hD0, hN⟩ := hv
  have hx := B.exec
  have hb := B.bytes
  have hr := B.returns
  have hts := atoms_spec (ws := wsX2_slotOf) B.pre
  have hown : s.vm.findClass RX2 = some m.cls := findClass_of_methodNamed B.named
  have hlocks := B.notSynchronized
  subst hsz
  have hD := hD0.self (sz := s.heap.size)
  generalize hAe : va_A [(d 0, .inr (2, [.ref (d 1), .ref (d 2), .ref (d 3), .ref (d 4), .int (nI fi), .int (nI sz)])), (d 1, .inl (cI, 40, .inl ki)), (d 2, .inl (cI, 40, .inl ow)), (d 3, .inl (cI, 40, .inl mr)), (d 4, .inl (cI, 40, .inl va))] s.heap.size = A at hD hN ⊢
  have hA : ∀ q : Nat, s.heap.size ≤ q → A q := fun q h => by rw [← hAe]; exact Or.inr h
  have hS : va_S A s.heap s.heap [] := va_S.rf
  have hl := lv_entry ([.ref (d 0), .int (nI k)]) (n := 2) (Nat.le_of_ble_eq_true rfl)
  rw [lg_entry_eq]
  generalize (lg_sl ([.ref (d 0), .int (nI k)]) ++ List.replicate (2 - (lg_sl ([.ref (d 0), .int (nI k)])).length) Slot.unset).toArray = ls at hl ⊢
  have hl : lv_has ls 2 [(0, .ref (d 0)), (1, .int (nI k))] := hl
  have hP : va_P G vwCl [(d 0, .inr (2, [.ref (d 1), .ref (d 2), .ref (d 3), .ref (d 4), .int (nI fi), .int (nI sz)])), (d 1, .inl (cI, 40, .inl ki)), (d 2, .inl (cI, 40, .inl ow)), (d 3, .inl (cI, 40, .inl mr)), (d 4, .inl (cI, 40, .inl va))] s.heap := hP
  obtain ⟨H, hH⟩ : ∃ H, H = s.heap := ⟨_, rfl⟩
  rw [← hH] at hP
  have hS : va_S A s.heap H [] := by rw [hH]; exact hS
  show W _ _ _ _ _ _ _ _ _ _ s.heap _ _ _ _ _
  rw [← hH]
  obtain ⟨locs, hlo⟩ : ∃ z : List Loc, z = [] := ⟨_, rfl⟩
  rw [← hlo] at hS ⊢
  refine lv_aload_n hx hb dX2_slotOf_0 rfl (lv_at hl 0 rfl) ?_
  refine va_get (D := G) (ci := 2) (v := .int (nI fi)) (C := RX2) (T := TX2) (N := 6) hx hb hts hi_X2_slotOf_X2 hown hK hP 0 rfl rfl 4 (by decide) (hts _ hk_X2_slotOf_f28) (fun _ h9 => h9) rfl dX2_slotOf_1 ?_
  refine lv_iload_n hx hb dX2_slotOf_4 rfl (lv_at hl 1 rfl) ?_
  refine lv_iadd hx hb dX2_slotOf_5 ?_
  refine gz_top (nI_add _ _) ?_
  refine lv_bipush (v := nI 40) hx hb dX2_slotOf_6 (by decide +kernel) ?_
  refine k_calli (S := Unit) (wc := []) (wr := [(d 0, .inr (2, [.ref (d 1), .ref (d 2), .ref (d 3), .ref (d 4), .int (nI fi), .int (nI sz)])), (d 1, .inl (cI, 40, .inl ki)), (d 2, .inl (cI, 40, .inl ow)), (d 3, .inl (cI, 40, .inl mr)), (d 4, .inl (cI, 40, .inl va))]) (w1 := fun u => []) (w2 := fun u => [(d 0, .inr (2, [.ref (d 1), .ref (d 2), .ref (d 3), .ref (d 4), .int (nI fi), .int (nI sz)])), (d 1, .inl (cI, 40, .inl ki)), (d 2, .inl (cI, 40, .inl ow)), (d 3, .inl (cI, 40, .inl mr)), (d 4, .inl (cI, 40, .inl va))]) (va_runS (As := [.int (nI (fi + k)), .int (nI 40)]) (rest := []) ⟨hx, hb, hml, hown, hts⟩ (c_J9_floorMod_7cf53 l G cI (fi + k) (by first | omega | assumption) H.size) (va_cwS 2 hts gX2_slotOf_J9_floorMod_7cf53 rfl rfl rfl (by decide +kernel) ⟨Nat.le_of_ble_eq_true rfl, Nat.le_of_ble_eq_true rfl⟩) ⟨kPre.blind, kPre.at hP hK hD hS hA hN [] rfl rfl⟩ rfl rfl hl.1 rfl (lv_room (Nat.le_of_ble_eq_true rfl)) dX2_slotOf_8 ⟨Nat.le_of_ble_eq_true rfl, Nat.le_of_ble_eq_true rfl⟩) hP hD hS hA [] [0, 1, 2, 3, 4] [0, 1, 2, 3, 4] rfl rfl ⟨rfl, by decide, rfl⟩ (fun _ => rfl) (fun r_1 u H locs hw_1 hP hD hS => ?_)
  subst hw_1
  have hP : va_P G vwCl [(d 0, .inr (2, [.ref (d 1), .ref (d 2), .ref (d 3), .ref (d 4), .int (nI fi), .int (nI sz)])), (d 1, .inl (cI, 40, .inl ki)), (d 2, .inl (cI, 40, .inl ow)), (d 3, .inl (cI, 40, .inl mr)), (d 4, .inl (cI, 40, .inl va))] H := hP
  have hD : va_D A [(d 0, .inr (2, [.ref (d 1), .ref (d 2), .ref (d 3), .ref (d 4), .int (nI fi), .int (nI sz)])), (d 1, .inl (cI, 40, .inl ki)), (d 2, .inl (cI, 40, .inl ow)), (d 3, .inl (cI, 40, .inl mr)), (d 4, .inl (cI, 40, .inl va))] := hD
  have hS9 := hS.2.2
  have hq9 : ((nI ((fi + k) % 40)) = nI ((fi + k) % 40)) := by rfl
  exact W.iret (v := nI ((fi + k) % 40)) hx hb hr (fun t ht hW => ⟨⟨nI ((fi + k) % 40), (), rfl, hq9, by rw [ht]; exact hP, hD⟩, hS.F ht⟩) hS9 dX2_slotOf_11

theorem hk_X2_send_f24 : (.fieldLink RX2 24 "Callgate$Lane" "size" "I" : Cond) ∈ wsX2_send := by decide +kernel
theorem hi_X2_send_X2 : ∀ w ∈ u_ws RX2 TX2 6, w ∈ wsX2_send := by decide +kernel
theorem hk_X2_send_f9 : (.fieldLink RX2 9 "Callgate$Lane" "kinds" "[I" : Cond) ∈ wsX2_send := by decide +kernel
theorem hk_X2_send_f15 : (.fieldLink RX2 15 "Callgate$Lane" "owners" "[I" : Cond) ∈ wsX2_send := by decide +kernel
theorem hk_X2_send_f18 : (.fieldLink RX2 18 "Callgate$Lane" "marks" "[I" : Cond) ∈ wsX2_send := by decide +kernel
theorem hk_X2_send_f21 : (.fieldLink RX2 21 "Callgate$Lane" "values" "[I" : Cond) ∈ wsX2_send := by decide +kernel
set_option maxHeartbeats 4000000 in
set_option maxRecDepth 100000 in
theorem c_X2_send (l : Launch) (G : va_G) (cI : ClassId) (d : Nat → Nat) (ki : Fn) (ow : Fn) (mr : Fn) (va : Fn) (fi : Nat) (sz : Nat) (kd : Int32) (o : Int32) (q : Int32) (v : Int32) (hf : fi < 40) (hs : sz ≤ 40) (zz : Nat) : Met l yX2_send wsX2_send ({ frames := 2, cells := 0, slots := 0, locals := 43 }) (va_Pc [.ref (d 0), .int kd, .int o, .int q, .int v] (kPre G cI [(d 0, .inr (2, [.ref (d 1), .ref (d 2), .ref (d 3), .ref (d 4), .int (nI fi), .int (nI sz)])), (d 1, .inl (cI, 40, .inl ki)), (d 2, .inl (cI, 40, .inl ow)), (d 3, .inl (cI, 40, .inl mr)), (d 4, .inl (cI, 40, .inl va))] zz)) (va_Qv (fun (u : Fn × Fn × Fn × Fn × Nat × Nat) => (u = l_send (ki, ow, mr, va, fi, sz) kd o q v) ∧ u.2.2.2.2.1 < 40 ∧ u.2.2.2.2.2 ≤ 40) (fun (u : Fn × Fn × Fn × Fn × Nat × Nat) t => kQ G [(d 0, .inr (2, [.ref (d 1), .ref (d 2), .ref (d 3), .ref (d 4), .int (nI u.2.2.2.2.1), .int (nI u.2.2.2.2.2)])), (d 1, .inl (cI, 40, .inl u.1)), (d 2, .inl (cI, 40, .inl u.2.1)), (d 3, .inl (cI, 40, .inl u.2.2.1)), (d 4, .inl (cI, 40, .inl u.2.2.2.1))] (va_A [(d 0, .inr (2, [.ref (d 1), .ref (d 2), .ref (d 3), .ref (d 4), .int (nI fi), .int (nI sz)])), (d 1, .inl (cI, 40, .inl ki)), (d 2, .inl (cI, 40, .inl ow)), (d 3, .inl (cI, 40, .inl mr)), (d 4, .inl (cI, 40, .inl va))] zz) t) (va_A [(d 0, .inr (2, [.ref (d 1), .ref (d 2), .ref (d 3), .ref (d 4), .int (nI fi), .int (nI sz)])), (d 1, .inl (cI, 40, .inl ki)), (d 2, .inl (cI, 40, .inl ow)), (d 3, .inl (cI, 40, .inl mr)), (d 4, .inl (cI, 40, .inl va))] zz)) 0 0 (va_A [(d 0, .inr (2, [.ref (d 1), .ref (d 2), .ref (d 3), .ref (d 4), .int (nI fi), .int (nI sz)])), (d 1, .inl (cI, 40, .inl ki)), (d 2, .inl (cI, 40, .inl ow)), (d 3, .inl (cI, 40, .inl mr)), (d 4, .inl (cI, 40, .inl va))] zz) := by
  refine Met.ofW (cc := cX2_send) (maxL := 6) (ret := none) (by decide) rfl ?_
  intro p e s m args below meth c s₁ B hml hv
  obtain ⟨rfl, hsz, hP, hK, hD0, hN⟩ := hv
  have hx := B.exec
  have hb := B.bytes
  have hr := B.returns
  have hts := atoms_spec (ws := wsX2_send) B.pre
  have hown : s.vm.findClass RX2 = some m.cls := findClass_of_methodNamed B.named
  have hlocks := B.notSynchronized
  subst hsz
  have hD := hD0.self (sz := s.heap.size)
  generalize hAe : va_A [(d 0, .inr (2, [.ref (d 1), .ref (d 2), .ref (d 3), .ref (d 4), .int (nI fi), .int (nI sz)])), (d 1, .inl (cI, 40, .inl ki)), (d 2, .inl (cI, 40, .inl ow)), (d 3, .inl (cI, 40, .inl mr)), (d 4, .inl (cI, 40, .inl va))] s.heap.size = A at hD hN ⊢
  have hA : ∀ q : Nat, s.heap.size ≤ q → A q := fun q h => by rw [← hAe]; exact Or.inr h
  have hS : va_S A s.heap s.heap [] := va_S.rf
  have hl := lv_entry ([.ref (d 0), .int kd, .int o, .int q, .int v]) (n := 6) (Nat.le_of_ble_eq_true rfl)
  rw [lg_entry_eq]
  generalize (lg_sl ([.ref (d 0), .int kd, .int o, .int q, .int v]) ++ List.replicate (6 - (lg_sl ([.ref (d 0), .int kd, .int o, .int q, .int v])).length) Slot.unset).toArray = ls at hl ⊢
  have hl : lv_has ls 6 [(0, .ref (d 0)), (1, .int kd), (2, .int o), (3, .int q), (4, .int v)] := hl
  have hP : va_P G vwCl [(d 0, .inr (2, [.ref (d 1), .ref (d 2), .ref (d 3), .ref (d 4), .int (nI fi), .int (nI sz)])), (d 1, .inl (cI, 40, .inl ki)), (d 2, .inl (cI, 40, .inl ow)), (d 3, .inl (cI, 40, .inl mr)), (d 4, .inl (cI, 40, .inl va))] s.heap := hP
  obtain ⟨H, hH⟩ : ∃ H, H = s.heap := ⟨_, rfl⟩
  rw [← hH] at hP
  have hS : va_S A s.heap H [] := by rw [hH]; exact hS
  show W _ _ _ _ _ _ _ _ _ _ s.heap _ _ _ _ _
  rw [← hH]
  obtain ⟨locs, hlo⟩ : ∃ z : List Loc, z = [] := ⟨_, rfl⟩
  rw [← hlo] at hS ⊢
  refine lv_aload_n hx hb dX2_send_0 rfl (lv_at hl 0 rfl) ?_
  refine va_get (D := G) (ci := 2) (v := .int (nI sz)) (C := RX2) (T := TX2) (N := 6) hx hb hts hi_X2_send_X2 hown hK hP 0 rfl rfl 5 (by decide) (hts _ hk_X2_send_f24) (fun _ h9 => h9) rfl dX2_send_1 ?_
  refine lv_bipush (v := nI 40) hx hb dX2_send_4 (by decide +kernel) ?_
  refine lv_icmp_lt (tgt := 10) hx hb dX2_send_6 (by decide) (fun c_1 => ?_) (fun c_1 => ?_)
  · have g_1 := (nI_ltI (a := sz) (b := 40) (by omega) (by omega)).mp c_1
    refine lv_aload_n hx hb dX2_send_10 rfl (lv_at hl 0 rfl) ?_
    refine lv_aload_n hx hb dX2_send_11 rfl (lv_at hl 0 rfl) ?_
    refine va_get (D := G) (ci := 2) (v := .int (nI sz)) (C := RX2) (T := TX2) (N := 6) hx hb hts hi_X2_send_X2 hown hK hP 0 rfl rfl 5 (by decide) (hts _ hk_X2_send_f24) (fun _ h9 => h9) rfl dX2_send_12 ?_
    refine k_calli (S := Unit) (wc := [(d 0, .inr (2, [.ref (d 1), .ref (d 2), .ref (d 3), .ref (d 4), .int (nI fi), .int (nI sz)])), (d 1, .inl (cI, 40, .inl ki)), (d 2, .inl (cI, 40, .inl ow)), (d 3, .inl (cI, 40, .inl mr)), (d 4, .inl (cI, 40, .inl va))]) (wr := []) (w1 := fun u => [(d 0, .inr (2, [.ref (d 1), .ref (d 2), .ref (d 3), .ref (d 4), .int (nI fi), .int (nI sz)])), (d 1, .inl (cI, 40, .inl ki)), (d 2, .inl (cI, 40, .inl ow)), (d 3, .inl (cI, 40, .inl mr)), (d 4, .inl (cI, 40, .inl va))]) (w2 := fun u => [(d 0, .inr (2, [.ref (d 1), .ref (d 2), .ref (d 3), .ref (d 4), .int (nI fi), .int (nI sz)])), (d 1, .inl (cI, 40, .inl ki)), (d 2, .inl (cI, 40, .inl ow)), (d 3, .inl (cI, 40, .inl mr)), (d 4, .inl (cI, 40, .inl va))]) (va_runV (As := [.int (nI sz)]) (rest := []) ⟨hx, hb, hml, hown, hts⟩ (c_X2_slotOf l G cI d ki ow mr va fi sz sz (by first | omega | assumption) (by first | omega | assumption) H.size) (cwV 1 hts gX2_send_X2_slotOf rfl rfl rfl (by decide +kernel) ⟨Nat.le_of_ble_eq_true rfl, Nat.le_of_ble_eq_true rfl⟩) ⟨kPre.blind, va_recv hK hP (ci := 2) (q0 := 0) rfl rfl, kPre.at hP hK hD hS hA hN [0, 1, 2, 3, 4] rfl rfl⟩ rfl rfl hl.1 rfl (lv_room (Nat.le_of_ble_eq_true rfl)) dX2_send_15 ⟨Nat.le_of_ble_eq_true rfl, Nat.le_of_ble_eq_true rfl⟩) hP hD hS hA [0, 1, 2, 3, 4] [] [0, 1, 2, 3, 4] rfl rfl ⟨rfl, by decide, rfl⟩ (fun _ => rfl) (fun r_2 u H locs hw_2 hP hD hS => ?_)
    subst hw_2
    have hP : va_P G vwCl [(d 0, .inr (2, [.ref (d 1), .ref (d 2), .ref (d 3), .ref (d 4), .int (nI fi), .int (nI sz)])), (d 1, .inl (cI, 40, .inl ki)), (d 2, .inl (cI, 40, .inl ow)), (d 3, .inl (cI, 40, .inl mr)), (d 4, .inl (cI, 40, .inl va))] H := hP
    have hD : va_D A [(d 0, .inr (2, [.ref (d 1), .ref (d 2), .ref (d 3), .ref (d 4), .int (nI fi), .int (nI sz)])), (d 1, .inl (cI, 40, .inl ki)), (d 2, .inl (cI, 40, .inl ow)), (d 3, .inl (cI, 40, .inl mr)), (d 4, .inl (cI, 40, .inl va))] := hD
    refine lv_istore (lv' := [(5, .int (nI ((fi + sz) % 40))), (0, .ref (d 0)), (1, .int kd), (2, .int o), (3, .int q), (4, .int v)]) hx hb dX2_send_18 hl (by decide) rfl (fun ls hl => ?_)
    refine lv_aload_n hx hb dX2_send_20 rfl (lv_at hl 1 rfl) ?_
    refine va_get (D := G) (ci := 2) (v := .ref (d 1)) (C := RX2) (T := TX2) (N := 6) hx hb hts hi_X2_send_X2 hown hK hP 0 rfl rfl 0 (by decide) (hts _ hk_X2_send_f9) (fun _ h9 => h9) rfl dX2_send_21 ?_
    refine lv_iload hx hb dX2_send_24 (lv_at hl 0 rfl) ?_
    refine lv_iload_n hx hb dX2_send_26 rfl (lv_at hl 2 rfl) ?_
    refine gz_iast hx hb hK hP hD hS 1 rfl rfl (k := (fi + sz) % 40) rfl (by omega) (by decide) dX2_send_27 (fun H locs hP hD hS => ?_)
    have hP : va_P G vwCl [(d 0, .inr (2, [.ref (d 1), .ref (d 2), .ref (d 3), .ref (d 4), .int (nI fi), .int (nI sz)])), (d 1, .inl (cI, 40, .inl (upd ki ((fi + sz) % 40) kd))), (d 2, .inl (cI, 40, .inl ow)), (d 3, .inl (cI, 40, .inl mr)), (d 4, .inl (cI, 40, .inl va))] H := hP
    have hD : va_D A [(d 0, .inr (2, [.ref (d 1), .ref (d 2), .ref (d 3), .ref (d 4), .int (nI fi), .int (nI sz)])), (d 1, .inl (cI, 40, .inl (upd ki ((fi + sz) % 40) kd))), (d 2, .inl (cI, 40, .inl ow)), (d 3, .inl (cI, 40, .inl mr)), (d 4, .inl (cI, 40, .inl va))] := hD
    refine lv_aload_n hx hb dX2_send_28 rfl (lv_at hl 1 rfl) ?_
    refine va_get (D := G) (ci := 2) (v := .ref (d 2)) (C := RX2) (T := TX2) (N := 6) hx hb hts hi_X2_send_X2 hown hK hP 0 rfl rfl 1 (by decide) (hts _ hk_X2_send_f15) (fun _ h9 => h9) rfl dX2_send_29 ?_
    refine lv_iload hx hb dX2_send_32 (lv_at hl 0 rfl) ?_
    refine lv_iload_n hx hb dX2_send_34 rfl (lv_at hl 3 rfl) ?_
    refine gz_iast hx hb hK hP hD hS 2 rfl rfl (k := (fi + sz) % 40) rfl (by omega) (by decide) dX2_send_35 (fun H locs hP hD hS => ?_)
    have hP : va_P G vwCl [(d 0, .inr (2, [.ref (d 1), .ref (d 2), .ref (d 3), .ref (d 4), .int (nI fi), .int (nI sz)])), (d 1, .inl (cI, 40, .inl (upd ki ((fi + sz) % 40) kd))), (d 2, .inl (cI, 40, .inl (upd ow ((fi + sz) % 40) o))), (d 3, .inl (cI, 40, .inl mr)), (d 4, .inl (cI, 40, .inl va))] H := hP
    have hD : va_D A [(d 0, .inr (2, [.ref (d 1), .ref (d 2), .ref (d 3), .ref (d 4), .int (nI fi), .int (nI sz)])), (d 1, .inl (cI, 40, .inl (upd ki ((fi + sz) % 40) kd))), (d 2, .inl (cI, 40, .inl (upd ow ((fi + sz) % 40) o))), (d 3, .inl (cI, 40, .inl mr)), (d 4, .inl (cI, 40, .inl va))] := hD
    refine lv_aload_n hx hb dX2_send_36 rfl (lv_at hl 1 rfl) ?_
    refine va_get (D := G) (ci := 2) (v := .ref (d 3)) (C := RX2) (T := TX2) (N := 6) hx hb hts hi_X2_send_X2 hown hK hP 0 rfl rfl 2 (by decide) (hts _ hk_X2_send_f18) (fun _ h9 => h9) rfl dX2_send_37 ?_
    refine lv_iload hx hb dX2_send_40 (lv_at hl 0 rfl) ?_
    refine lv_iload_n hx hb dX2_send_42 rfl (lv_at hl 4 rfl) ?_
    refine gz_iast hx hb hK hP hD hS 3 rfl rfl (k := (fi + sz) % 40) rfl (by omega) (by decide) dX2_send_43 (fun H locs hP hD hS => ?_)
    have hP : va_P G vwCl [(d 0, .inr (2, [.ref (d 1), .ref (d 2), .ref (d 3), .ref (d 4), .int (nI fi), .int (nI sz)])), (d 1, .inl (cI, 40, .inl (upd ki ((fi + sz) % 40) kd))), (d 2, .inl (cI, 40, .inl (upd ow ((fi + sz) % 40) o))), (d 3, .inl (cI, 40, .inl (upd mr ((fi + sz) % 40) q))), (d 4, .inl (cI, 40, .inl va))] H := hP
    have hD : va_D A [(d 0, .inr (2, [.ref (d 1), .ref (d 2), .ref (d 3), .ref (d 4), .int (nI fi), .int (nI sz)])), (d 1, .inl (cI, 40, .inl (upd ki ((fi + sz) % 40) kd))), (d 2, .inl (cI, 40, .inl (upd ow ((fi + sz) % 40) o))), (d 3, .inl (cI, 40, .inl (upd mr ((fi + sz) % 40) q))), (d 4, .inl (cI, 40, .inl va))] := hD
    refine lv_aload_n hx hb dX2_send_44 rfl (lv_at hl 1 rfl) ?_
    refine va_get (D := G) (ci := 2) (v := .ref (d 4)) (C := RX2) (T := TX2) (N := 6) hx hb hts hi_X2_send_X2 hown hK hP 0 rfl rfl 3 (by decide) (hts _ hk_X2_send_f21) (fun _ h9 => h9) rfl dX2_send_45 ?_
    refine lv_iload hx hb dX2_send_48 (lv_at hl 0 rfl) ?_
    refine lv_iload hx hb dX2_send_50 (lv_at hl 5 rfl) ?_
    refine gz_iast hx hb hK hP hD hS 4 rfl rfl (k := (fi + sz) % 40) rfl (by omega) (by decide) dX2_send_52 (fun H locs hP hD hS => ?_)
    have hP : va_P G vwCl [(d 0, .inr (2, [.ref (d 1), .ref (d 2), .ref (d 3), .ref (d 4), .int (nI fi), .int (nI sz)])), (d 1, .inl (cI, 40, .inl (upd ki ((fi + sz) % 40) kd))), (d 2, .inl (cI, 40, .inl (upd ow ((fi + sz) % 40) o))), (d 3, .inl (cI, 40, .inl (upd mr ((fi + sz) % 40) q))), (d 4, .inl (cI, 40, .inl (upd va ((fi + sz) % 40) v)))] H := hP
    have hD : va_D A [(d 0, .inr (2, [.ref (d 1), .ref (d 2), .ref (d 3), .ref (d 4), .int (nI fi), .int (nI sz)])), (d 1, .inl (cI, 40, .inl (upd ki ((fi + sz) % 40) kd))), (d 2, .inl (cI, 40, .inl (upd ow ((fi + sz) % 40) o))), (d 3, .inl (cI, 40, .inl (upd mr ((fi + sz) % 40) q))), (d 4, .inl (cI, 40, .inl (upd va ((fi + sz) % 40) v)))] := hD
    refine lv_aload_n hx hb dX2_send_53 rfl (lv_at hl 1 rfl) ?_
    refine lv_dup hx hb dX2_send_54 rfl ?_
    refine va_get (D := G) (ci := 2) (v := .int (nI sz)) (C := RX2) (T := TX2) (N := 6) hx hb hts hi_X2_send_X2 hown hK hP 0 rfl rfl 5 (by decide) (hts _ hk_X2_send_f24) (fun _ h9 => h9) rfl dX2_send_55 ?_
    refine lv_iconst (v := nI 1) hx hb dX2_send_58 (by decide +kernel) ?_
    refine lv_iadd hx hb dX2_send_59 ?_
    refine gz_top (nI_add _ _) ?_
    refine va_put (D := G) (ci := 2) (v := .int (nI (sz + 1))) (ty := .int) (C := RX2) (T := TX2) (N := 6) hx hb hts hi_X2_send_X2 tyX2 tyX2_ok nmX2 hown hK hP hD hS 0 rfl rfl 5 (by decide) (hts _ hk_X2_send_f24) (fun _ h9 => h9) rfl (by decide +kernel) rfl rfl (Nat.le_of_ble_eq_true rfl) dX2_send_60 (fun H locs hP hD hS => ?_)
    have hP : va_P G vwCl [(d 0, .inr (2, [.ref (d 1), .ref (d 2), .ref (d 3), .ref (d 4), .int (nI fi), .int (nI (sz + 1))])), (d 1, .inl (cI, 40, .inl (upd ki ((fi + sz) % 40) kd))), (d 2, .inl (cI, 40, .inl (upd ow ((fi + sz) % 40) o))), (d 3, .inl (cI, 40, .inl (upd mr ((fi + sz) % 40) q))), (d 4, .inl (cI, 40, .inl (upd va ((fi + sz) % 40) v)))] H := hP
    have hD : va_D A [(d 0, .inr (2, [.ref (d 1), .ref (d 2), .ref (d 3), .ref (d 4), .int (nI fi), .int (nI (sz + 1))])), (d 1, .inl (cI, 40, .inl (upd ki ((fi + sz) % 40) kd))), (d 2, .inl (cI, 40, .inl (upd ow ((fi + sz) % 40) o))), (d 3, .inl (cI, 40, .inl (upd mr ((fi + sz) % 40) q))), (d 4, .inl (cI, 40, .inl (upd va ((fi + sz) % 40) v)))] := hD
    have hS9 := hS.2.2
    have hq9 : (((upd ki ((fi + sz) % 40) kd, upd ow ((fi + sz) % 40) o, upd mr ((fi + sz) % 40) q, upd va ((fi + sz) % 40) v, fi, sz + 1) : Fn × Fn × Fn × Fn × Nat × Nat) = l_send (ki, ow, mr, va, fi, sz) kd o q v) ∧ fi < 40 ∧ sz + 1 ≤ 40 := by refine ⟨?_, by omega, by omega⟩; simp only [l_send, ↓reduceIte, eq_self, nI_10, and_true, true_and, and_false, false_and, not_true_eq_false, not_false_eq_true, Bool.and_true, Bool.true_and, Bool.and_false, Bool.false_and, decide_true, decide_false, Bool.false_eq_true, eq_true g_1]
    exact W.vret hx hb hr (fun t ht hW => ⟨⟨(upd ki ((fi + sz) % 40) kd, upd ow ((fi + sz) % 40) o, upd mr ((fi + sz) % 40) q, upd va ((fi + sz) % 40) v, fi, sz + 1), rfl, hq9, by rw [ht]; exact hP, hD⟩, hS.F ht⟩) hS9 dX2_send_63
  · have g_1 := (not_congr (nI_ltI (a := sz) (b := 40) (by omega) (by omega))).mp c_1
    have hS9 := hS.2.2
    have hq9 : (((ki, ow, mr, va, fi, sz) : Fn × Fn × Fn × Fn × Nat × Nat) = l_send (ki, ow, mr, va, fi, sz) kd o q v) ∧ fi < 40 ∧ sz ≤ 40 := by refine ⟨?_, by omega, by omega⟩; simp only [l_send, ↓reduceIte, eq_self, nI_10, and_true, true_and, and_false, false_and, not_true_eq_false, not_false_eq_true, Bool.and_true, Bool.true_and, Bool.and_false, Bool.false_and, decide_true, decide_false, Bool.false_eq_true, eq_false g_1]
    exact W.vret hx hb hr (fun t ht hW => ⟨⟨(ki, ow, mr, va, fi, sz), rfl, hq9, by rw [ht]; exact hP, hD⟩, hS.F ht⟩) hS9 dX2_send_9

theorem hk_X2_removeFirst_f28 : (.fieldLink RX2 28 "Callgate$Lane" "first" "I" : Cond) ∈ wsX2_removeFirst := by decide +kernel
theorem hi_X2_removeFirst_X2 : ∀ w ∈ u_ws RX2 TX2 6, w ∈ wsX2_removeFirst := by decide +kernel
theorem hk_X2_removeFirst_f24 : (.fieldLink RX2 24 "Callgate$Lane" "size" "I" : Cond) ∈ wsX2_removeFirst := by decide +kernel
set_option maxHeartbeats 4000000 in
set_option maxRecDepth 100000 in
theorem c_X2_removeFirst (l : Launch) (G : va_G) (cI : ClassId) (d : Nat → Nat) (ki : Fn) (ow : Fn) (mr : Fn) (va : Fn) (fi : Nat) (sz : Nat) (hf : fi < 40) (hs : sz ≤ 40) (h0 : 0 < sz) (zz : Nat) : Met l yX2_removeFirst wsX2_removeFirst ({ frames := 2, cells := 0, slots := 0, locals := 43 }) (va_Pc [.ref (d 0)] (kPre G cI [(d 0, .inr (2, [.ref (d 1), .ref (d 2), .ref (d 3), .ref (d 4), .int (nI fi), .int (nI sz)])), (d 1, .inl (cI, 40, .inl ki)), (d 2, .inl (cI, 40, .inl ow)), (d 3, .inl (cI, 40, .inl mr)), (d 4, .inl (cI, 40, .inl va))] zz)) (va_Qv (fun (u : Unit) => (True)) (fun (u : Unit) t => kQ G [(d 0, .inr (2, [.ref (d 1), .ref (d 2), .ref (d 3), .ref (d 4), .int (nI ((fi + 1) % 40)), .int (nI (sz - 1))])), (d 1, .inl (cI, 40, .inl ki)), (d 2, .inl (cI, 40, .inl ow)), (d 3, .inl (cI, 40, .inl mr)), (d 4, .inl (cI, 40, .inl va))] (va_A [(d 0, .inr (2, [.ref (d 1), .ref (d 2), .ref (d 3), .ref (d 4), .int (nI fi), .int (nI sz)])), (d 1, .inl (cI, 40, .inl ki)), (d 2, .inl (cI, 40, .inl ow)), (d 3, .inl (cI, 40, .inl mr)), (d 4, .inl (cI, 40, .inl va))] zz) t) (va_A [(d 0, .inr (2, [.ref (d 1), .ref (d 2), .ref (d 3), .ref (d 4), .int (nI fi), .int (nI sz)])), (d 1, .inl (cI, 40, .inl ki)), (d 2, .inl (cI, 40, .inl ow)), (d 3, .inl (cI, 40, .inl mr)), (d 4, .inl (cI, 40, .inl va))] zz)) 0 0 (va_A [(d 0, .inr (2, [.ref (d 1), .ref (d 2), .ref (d 3), .ref (d 4), .int (nI fi), .int (nI sz)])), (d 1, .inl (cI, 40, .inl ki)), (d 2, .inl (cI, 40, .inl ow)), (d 3, .inl (cI, 40, .inl mr)), (d 4, .inl (cI, 40, .inl va))] zz) := by
  refine Met.ofW (cc := cX2_removeFirst) (maxL := 1) (ret := none) (by decide) rfl ?_
  intro p e s m args below meth c s₁ B hml hv
  obtain ⟨rfl, hsz, hP, hK, hD0, hN⟩ := hv
  have hx := B.exec
  have hb := B.bytes
  have hr := B.returns
  have hts := atoms_spec (ws := wsX2_removeFirst) B.pre
  have hown : s.vm.findClass RX2 = some m.cls := findClass_of_methodNamed B.named
  have hlocks := B.notSynchronized
  subst hsz
  have hD := hD0.self (sz := s.heap.size)
  generalize hAe : va_A [(d 0, .inr (2, [.ref (d 1), .ref (d 2), .ref (d 3), .ref (d 4), .int (nI fi), .int (nI sz)])), (d 1, .inl (cI, 40, .inl ki)), (d 2, .inl (cI, 40, .inl ow)), (d 3, .inl (cI, 40, .inl mr)), (d 4, .inl (cI, 40, .inl va))] s.heap.size = A at hD hN ⊢
  have hA : ∀ q : Nat, s.heap.size ≤ q → A q := fun q h => by rw [← hAe]; exact Or.inr h
  have hS : va_S A s.heap s.heap [] := va_S.rf
  have hl := lv_entry ([.ref (d 0)]) (n := 1) (Nat.le_of_ble_eq_true rfl)
  rw [lg_entry_eq]
  generalize (lg_sl ([.ref (d 0)]) ++ List.replicate (1 - (lg_sl ([.ref (d 0)])).length) Slot.unset).toArray = ls at hl ⊢
  have hl : lv_has ls 1 [(0, .ref (d 0))] := hl
  have hP : va_P G vwCl [(d 0, .inr (2, [.ref (d 1), .ref (d 2), .ref (d 3), .ref (d 4), .int (nI fi), .int (nI sz)])), (d 1, .inl (cI, 40, .inl ki)), (d 2, .inl (cI, 40, .inl ow)), (d 3, .inl (cI, 40, .inl mr)), (d 4, .inl (cI, 40, .inl va))] s.heap := hP
  obtain ⟨H, hH⟩ : ∃ H, H = s.heap := ⟨_, rfl⟩
  rw [← hH] at hP
  have hS : va_S A s.heap H [] := by rw [hH]; exact hS
  show W _ _ _ _ _ _ _ _ _ _ s.heap _ _ _ _ _
  rw [← hH]
  obtain ⟨locs, hlo⟩ : ∃ z : List Loc, z = [] := ⟨_, rfl⟩
  rw [← hlo] at hS ⊢
  refine lv_aload_n hx hb dX2_removeFirst_0 rfl (lv_at hl 0 rfl) ?_
  refine lv_aload_n hx hb dX2_removeFirst_1 rfl (lv_at hl 0 rfl) ?_
  refine lv_iconst (v := nI 1) hx hb dX2_removeFirst_2 (by decide +kernel) ?_
  refine k_calli (S := Unit) (wc := [(d 0, .inr (2, [.ref (d 1), .ref (d 2), .ref (d 3), .ref (d 4), .int (nI fi), .int (nI sz)])), (d 1, .inl (cI, 40, .inl ki)), (d 2, .inl (cI, 40, .inl ow)), (d 3, .inl (cI, 40, .inl mr)), (d 4, .inl (cI, 40, .inl va))]) (wr := []) (w1 := fun u => [(d 0, .inr (2, [.ref (d 1), .ref (d 2), .ref (d 3), .ref (d 4), .int (nI fi), .int (nI sz)])), (d 1, .inl (cI, 40, .inl ki)), (d 2, .inl (cI, 40, .inl ow)), (d 3, .inl (cI, 40, .inl mr)), (d 4, .inl (cI, 40, .inl va))]) (w2 := fun u => [(d 0, .inr (2, [.ref (d 1), .ref (d 2), .ref (d 3), .ref (d 4), .int (nI fi), .int (nI sz)])), (d 1, .inl (cI, 40, .inl ki)), (d 2, .inl (cI, 40, .inl ow)), (d 3, .inl (cI, 40, .inl mr)), (d 4, .inl (cI, 40, .inl va))]) (va_runV (As := [.int (nI 1)]) (rest := [.ref (d 0)]) ⟨hx, hb, hml, hown, hts⟩ (c_X2_slotOf l G cI d ki ow mr va fi sz 1 (by first | omega | assumption) (by first | omega | assumption) H.size) (cwV 1 hts gX2_removeFirst_X2_slotOf rfl rfl rfl (by decide +kernel) ⟨Nat.le_of_ble_eq_true rfl, Nat.le_of_ble_eq_true rfl⟩) ⟨kPre.blind, va_recv hK hP (ci := 2) (q0 := 0) rfl rfl, kPre.at hP hK hD hS hA hN [0, 1, 2, 3, 4] rfl rfl⟩ rfl rfl hl.1 rfl (lv_room (Nat.le_of_ble_eq_true rfl)) dX2_removeFirst_3 ⟨Nat.le_of_ble_eq_true rfl, Nat.le_of_ble_eq_true rfl⟩) hP hD hS hA [0, 1, 2, 3, 4] [] [0, 1, 2, 3, 4] rfl rfl ⟨rfl, by decide, rfl⟩ (fun _ => rfl) (fun r_1 u H locs hw_1 hP hD hS => ?_)
  subst hw_1
  have hP : va_P G vwCl [(d 0, .inr (2, [.ref (d 1), .ref (d 2), .ref (d 3), .ref (d 4), .int (nI fi), .int (nI sz)])), (d 1, .inl (cI, 40, .inl ki)), (d 2, .inl (cI, 40, .inl ow)), (d 3, .inl (cI, 40, .inl mr)), (d 4, .inl (cI, 40, .inl va))] H := hP
  have hD : va_D A [(d 0, .inr (2, [.ref (d 1), .ref (d 2), .ref (d 3), .ref (d 4), .int (nI fi), .int (nI sz)])), (d 1, .inl (cI, 40, .inl ki)), (d 2, .inl (cI, 40, .inl ow)), (d 3, .inl (cI, 40, .inl mr)), (d 4, .inl (cI, 40, .inl va))] := hD
  refine va_put (D := G) (ci := 2) (v := .int (nI ((fi + 1) % 40))) (ty := .int) (C := RX2) (T := TX2) (N := 6) hx hb hts hi_X2_removeFirst_X2 tyX2 tyX2_ok nmX2 hown hK hP hD hS 0 rfl rfl 4 (by decide) (hts _ hk_X2_removeFirst_f28) (fun _ h9 => h9) rfl (by decide +kernel) rfl rfl (Nat.le_of_ble_eq_true rfl) dX2_removeFirst_6 (fun H locs hP hD hS => ?_)
  have hP : va_P G vwCl [(d 0, .inr (2, [.ref (d 1), .ref (d 2), .ref (d 3), .ref (d 4), .int (nI ((fi + 1) % 40)), .int (nI sz)])), (d 1, .inl (cI, 40, .inl ki)), (d 2, .inl (cI, 40, .inl ow)), (d 3, .inl (cI, 40, .inl mr)), (d 4, .inl (cI, 40, .inl va))] H := hP
  have hD : va_D A [(d 0, .inr (2, [.ref (d 1), .ref (d 2), .ref (d 3), .ref (d 4), .int (nI ((fi + 1) % 40)), .int (nI sz)])), (d 1, .inl (cI, 40, .inl ki)), (d 2, .inl (cI, 40, .inl ow)), (d 3, .inl (cI, 40, .inl mr)), (d 4, .inl (cI, 40, .inl va))] := hD
  refine lv_aload_n hx hb dX2_removeFirst_9 rfl (lv_at hl 0 rfl) ?_
  refine lv_dup hx hb dX2_removeFirst_10 rfl ?_
  refine va_get (D := G) (ci := 2) (v := .int (nI sz)) (C := RX2) (T := TX2) (N := 6) hx hb hts hi_X2_removeFirst_X2 hown hK hP 0 rfl rfl 5 (by decide) (hts _ hk_X2_removeFirst_f24) (fun _ h9 => h9) rfl dX2_removeFirst_11 ?_
  refine lv_iconst (v := nI 1) hx hb dX2_removeFirst_14 (by decide +kernel) ?_
  refine lv_isub hx hb dX2_removeFirst_15 ?_
  refine gz_top (pk_sub (by omega)) ?_
  refine va_put (D := G) (ci := 2) (v := .int (nI (sz - 1))) (ty := .int) (C := RX2) (T := TX2) (N := 6) hx hb hts hi_X2_removeFirst_X2 tyX2 tyX2_ok nmX2 hown hK hP hD hS 0 rfl rfl 5 (by decide) (hts _ hk_X2_removeFirst_f24) (fun _ h9 => h9) rfl (by decide +kernel) rfl rfl (Nat.le_of_ble_eq_true rfl) dX2_removeFirst_16 (fun H locs hP hD hS => ?_)
  have hP : va_P G vwCl [(d 0, .inr (2, [.ref (d 1), .ref (d 2), .ref (d 3), .ref (d 4), .int (nI ((fi + 1) % 40)), .int (nI (sz - 1))])), (d 1, .inl (cI, 40, .inl ki)), (d 2, .inl (cI, 40, .inl ow)), (d 3, .inl (cI, 40, .inl mr)), (d 4, .inl (cI, 40, .inl va))] H := hP
  have hD : va_D A [(d 0, .inr (2, [.ref (d 1), .ref (d 2), .ref (d 3), .ref (d 4), .int (nI ((fi + 1) % 40)), .int (nI (sz - 1))])), (d 1, .inl (cI, 40, .inl ki)), (d 2, .inl (cI, 40, .inl ow)), (d 3, .inl (cI, 40, .inl mr)), (d 4, .inl (cI, 40, .inl va))] := hD
  have hS9 := hS.2.2
  have hq9 : (True) := by trivial
  exact W.vret hx hb hr (fun t ht hW => ⟨⟨(), rfl, hq9, by rw [ht]; exact hP, hD⟩, hS.F ht⟩) hS9 dX2_removeFirst_19
end
section

theorem hk_X1_sendRequest_f21 : (.fieldLink RX1 21 "Callgate$Caller" "requestsSent" "[I" : Cond) ∈ wsX1_sendRequest := by decide +kernel
theorem hi_X1_sendRequest_X1 : ∀ w ∈ u_ws RX1 TX1 10, w ∈ wsX1_sendRequest := by decide +kernel
theorem hk_X1_sendRequest_f24 : (.fieldLink RX1 24 "Callgate$Caller" "latestRequest" "[I" : Cond) ∈ wsX1_sendRequest := by decide +kernel
theorem hk_X1_sendRequest_f41 : (.fieldLink RX1 41 "Callgate$Caller" "toServer" "LCallgate$Lane;" : Cond) ∈ wsX1_sendRequest := by decide +kernel
theorem hk_X1_sendRequest_iX2 : (.initialized RX2 : Cond) ∈ wsX1_sendRequest := by decide +kernel
theorem hk_X1_sendRequest_nX2_send : (.instanceMethod yX2_send : Cond) ∈ wsX1_sendRequest := by decide +kernel
theorem hk_X1_sendRequest_sX2_send : (.selects RX2 yX2_send yX2_send : Cond) ∈ wsX1_sendRequest := by decide +kernel
set_option maxHeartbeats 4000000 in
set_option maxRecDepth 100000 in
theorem c_X1_sendRequest (l : Launch) (G : va_G) (cI : ClassId) (a b d : Nat → Nat) (pa : Fn) (oc : Fn) (cv : Fn) (rq : Fn) (la : Fn) (rc : Fn) (su : Fn) (bu : Int32) (me : Fn) (ar : Fn) (dl : Fn) (n : Nat) (ki : Fn) (ow : Fn) (mr : Fn) (va : Fn) (fi : Nat) (sz : Nat) (k : Nat) (tm : Int32) (hk : k < 40) (hn : n ≤ 40) (hf : fi < 40) (hs : sz ≤ 40) (zz : Nat) : Met l yX1_sendRequest wsX1_sendRequest ({ frames := 3, cells := 0, slots := 0, locals := 68 }) (va_Pc [.ref (a 0), .int (nI k), .int tm] (kPre G cI [(a 0, .inr (1, [.ref (b 0), .ref (d 0), .ref (a 1), .ref (a 2), .ref (a 3), .ref (a 4), .ref (a 5), .ref (a 6), .ref (a 7), .int bu])), (a 1, .inl (cI, 40, .inl pa)), (a 2, .inl (cI, 40, .inl oc)), (a 3, .inl (cI, 40, .inl cv)), (a 4, .inl (cI, 40, .inl rq)), (a 5, .inl (cI, 40, .inl la)), (a 6, .inl (cI, 40, .inl rc)), (a 7, .inl (cI, 40, .inl su)), (b 0, .inr (0, [.ref (b 1), .ref (b 2), .ref (b 3), .int (nI n)])), (b 1, .inl (cI, 40, .inl me)), (b 2, .inl (cI, 40, .inl ar)), (b 3, .inl (cI, 40, .inl dl)), (d 0, .inr (2, [.ref (d 1), .ref (d 2), .ref (d 3), .ref (d 4), .int (nI fi), .int (nI sz)])), (d 1, .inl (cI, 40, .inl ki)), (d 2, .inl (cI, 40, .inl ow)), (d 3, .inl (cI, 40, .inl mr)), (d 4, .inl (cI, 40, .inl va))] zz)) (va_Qv (fun (u : CalS × LaneS) => (u = k_req (pa, oc, cv, rq, la, rc, su, bu) (ki, ow, mr, va, fi, sz) k tm) ∧ u.2.2.2.2.2.1 < 40 ∧ u.2.2.2.2.2.2 ≤ 40) (fun (u : CalS × LaneS) t => kQ G [(a 0, .inr (1, [.ref (b 0), .ref (d 0), .ref (a 1), .ref (a 2), .ref (a 3), .ref (a 4), .ref (a 5), .ref (a 6), .ref (a 7), .int u.1.2.2.2.2.2.2.2])), (a 1, .inl (cI, 40, .inl u.1.1)), (a 2, .inl (cI, 40, .inl u.1.2.1)), (a 3, .inl (cI, 40, .inl u.1.2.2.1)), (a 4, .inl (cI, 40, .inl u.1.2.2.2.1)), (a 5, .inl (cI, 40, .inl u.1.2.2.2.2.1)), (a 6, .inl (cI, 40, .inl u.1.2.2.2.2.2.1)), (a 7, .inl (cI, 40, .inl u.1.2.2.2.2.2.2.1)), (b 0, .inr (0, [.ref (b 1), .ref (b 2), .ref (b 3), .int (nI n)])), (b 1, .inl (cI, 40, .inl me)), (b 2, .inl (cI, 40, .inl ar)), (b 3, .inl (cI, 40, .inl dl)), (d 0, .inr (2, [.ref (d 1), .ref (d 2), .ref (d 3), .ref (d 4), .int (nI u.2.2.2.2.2.1), .int (nI u.2.2.2.2.2.2)])), (d 1, .inl (cI, 40, .inl u.2.1)), (d 2, .inl (cI, 40, .inl u.2.2.1)), (d 3, .inl (cI, 40, .inl u.2.2.2.1)), (d 4, .inl (cI, 40, .inl u.2.2.2.2.1))] (va_A [(a 0, .inr (1, [.ref (b 0), .ref (d 0), .ref (a 1), .ref (a 2), .ref (a 3), .ref (a 4), .ref (a 5), .ref (a 6), .ref (a 7), .int bu])), (a 1, .inl (cI, 40, .inl pa)), (a 2, .inl (cI, 40, .inl oc)), (a 3, .inl (cI, 40, .inl cv)), (a 4, .inl (cI, 40, .inl rq)), (a 5, .inl (cI, 40, .inl la)), (a 6, .inl (cI, 40, .inl rc)), (a 7, .inl (cI, 40, .inl su)), (b 0, .inr (0, [.ref (b 1), .ref (b 2), .ref (b 3), .int (nI n)])), (b 1, .inl (cI, 40, .inl me)), (b 2, .inl (cI, 40, .inl ar)), (b 3, .inl (cI, 40, .inl dl)), (d 0, .inr (2, [.ref (d 1), .ref (d 2), .ref (d 3), .ref (d 4), .int (nI fi), .int (nI sz)])), (d 1, .inl (cI, 40, .inl ki)), (d 2, .inl (cI, 40, .inl ow)), (d 3, .inl (cI, 40, .inl mr)), (d 4, .inl (cI, 40, .inl va))] zz) t) (va_A [(a 0, .inr (1, [.ref (b 0), .ref (d 0), .ref (a 1), .ref (a 2), .ref (a 3), .ref (a 4), .ref (a 5), .ref (a 6), .ref (a 7), .int bu])), (a 1, .inl (cI, 40, .inl pa)), (a 2, .inl (cI, 40, .inl oc)), (a 3, .inl (cI, 40, .inl cv)), (a 4, .inl (cI, 40, .inl rq)), (a 5, .inl (cI, 40, .inl la)), (a 6, .inl (cI, 40, .inl rc)), (a 7, .inl (cI, 40, .inl su)), (b 0, .inr (0, [.ref (b 1), .ref (b 2), .ref (b 3), .int (nI n)])), (b 1, .inl (cI, 40, .inl me)), (b 2, .inl (cI, 40, .inl ar)), (b 3, .inl (cI, 40, .inl dl)), (d 0, .inr (2, [.ref (d 1), .ref (d 2), .ref (d 3), .ref (d 4), .int (nI fi), .int (nI sz)])), (d 1, .inl (cI, 40, .inl ki)), (d 2, .inl (cI, 40, .inl ow)), (d 3, .inl (cI, 40, .inl mr)), (d 4, .inl (cI, 40, .inl va))] zz)) 0 0 (va_A [(a 0, .inr (1, [.ref (b 0), .ref (d 0), .ref (a 1), .ref (a 2), .ref (a 3), .ref (a 4), .ref (a 5), .ref (a 6), .ref (a 7), .int bu])), (a 1, .inl (cI, 40, .inl pa)), (a 2, .inl (cI, 40, .inl oc)), (a 3, .inl (cI, 40, .inl cv)), (a 4, .inl (cI, 40, .inl rq)), (a 5, .inl (cI, 40, .inl la)), (a 6, .inl (cI, 40, .inl rc)), (a 7, .inl (cI, 40, .inl su)), (b 0, .inr (0, [.ref (b 1), .ref (b 2), .ref (b 3), .int (nI n)])), (b 1, .inl (cI, 40, .inl me)), (b 2, .inl (cI, 40, .inl ar)), (b 3, .inl (cI, 40, .inl dl)), (d 0, .inr (2, [.ref (d 1), .ref (d 2), .ref (d 3), .ref (d 4), .int (nI fi), .int (nI sz)])), (d 1, .inl (cI, 40, .inl ki)), (d 2, .inl (cI, 40, .inl ow)), (d 3, .inl (cI, 40, .inl mr)), (d 4, .inl (cI, 40, .inl va))] zz) := by
  refine Met.ofW (cc := cX1_sendRequest) (maxL := 3) (ret := none) (by decide) rfl ?_
  intro p e s m args below meth c s₁ B hml hv
  obtain ⟨rfl, hsz, hP, hK, hD0, hN⟩ := hv
  have hx := B.exec
  have hb := B.bytes
  have hr := B.returns
  have hts := atoms_spec (ws := wsX1_sendRequest) B.pre
  have hown : s.vm.findClass RX1 = some m.cls := findClass_of_methodNamed B.named
  have hlocks := B.notSynchronized
  subst hsz
  have hD := hD0.self (sz := s.heap.size)
  generalize hAe : va_A [(a 0, .inr (1, [.ref (b 0), .ref (d 0), .ref (a 1), .ref (a 2), .ref (a 3), .ref (a 4), .ref (a 5), .ref (a 6), .ref (a 7), .int bu])), (a 1, .inl (cI, 40, .inl pa)), (a 2, .inl (cI, 40, .inl oc)), (a 3, .inl (cI, 40, .inl cv)), (a 4, .inl (cI, 40, .inl rq)), (a 5, .inl (cI, 40, .inl la)), (a 6, .inl (cI, 40, .inl rc)), (a 7, .inl (cI, 40, .inl su)), (b 0, .inr (0, [.ref (b 1), .ref (b 2), .ref (b 3), .int (nI n)])), (b 1, .inl (cI, 40, .inl me)), (b 2, .inl (cI, 40, .inl ar)), (b 3, .inl (cI, 40, .inl dl)), (d 0, .inr (2, [.ref (d 1), .ref (d 2), .ref (d 3), .ref (d 4), .int (nI fi), .int (nI sz)])), (d 1, .inl (cI, 40, .inl ki)), (d 2, .inl (cI, 40, .inl ow)), (d 3, .inl (cI, 40, .inl mr)), (d 4, .inl (cI, 40, .inl va))] s.heap.size = A at hD hN ⊢
  have hA : ∀ q : Nat, s.heap.size ≤ q → A q := fun q h => by rw [← hAe]; exact Or.inr h
  have hS : va_S A s.heap s.heap [] := va_S.rf
  have hl := lv_entry ([.ref (a 0), .int (nI k), .int tm]) (n := 3) (Nat.le_of_ble_eq_true rfl)
  rw [lg_entry_eq]
  generalize (lg_sl ([.ref (a 0), .int (nI k), .int tm]) ++ List.replicate (3 - (lg_sl ([.ref (a 0), .int (nI k), .int tm])).length) Slot.unset).toArray = ls at hl ⊢
  have hl : lv_has ls 3 [(0, .ref (a 0)), (1, .int (nI k)), (2, .int tm)] := hl
  have hP : va_P G vwCl [(a 0, .inr (1, [.ref (b 0), .ref (d 0), .ref (a 1), .ref (a 2), .ref (a 3), .ref (a 4), .ref (a 5), .ref (a 6), .ref (a 7), .int bu])), (a 1, .inl (cI, 40, .inl pa)), (a 2, .inl (cI, 40, .inl oc)), (a 3, .inl (cI, 40, .inl cv)), (a 4, .inl (cI, 40, .inl rq)), (a 5, .inl (cI, 40, .inl la)), (a 6, .inl (cI, 40, .inl rc)), (a 7, .inl (cI, 40, .inl su)), (b 0, .inr (0, [.ref (b 1), .ref (b 2), .ref (b 3), .int (nI n)])), (b 1, .inl (cI, 40, .inl me)), (b 2, .inl (cI, 40, .inl ar)), (b 3, .inl (cI, 40, .inl dl)), (d 0, .inr (2, [.ref (d 1), .ref (d 2), .ref (d 3), .ref (d 4), .int (nI fi), .int (nI sz)])), (d 1, .inl (cI, 40, .inl ki)), (d 2, .inl (cI, 40, .inl ow)), (d 3, .inl (cI, 40, .inl mr)), (d 4, .inl (cI, 40, .inl va))] s.heap := hP
  obtain ⟨H, hH⟩ : ∃ H, H = s.heap := ⟨_, rfl⟩
  rw [← hH] at hP
  have hS : va_S A s.heap H [] := by rw [hH]; exact hS
  show W _ _ _ _ _ _ _ _ _ _ s.heap _ _ _ _ _
  rw [← hH]
  obtain ⟨locs, hlo⟩ : ∃ z : List Loc, z = [] := ⟨_, rfl⟩
  rw [← hlo] at hS ⊢
  refine lv_aload_n hx hb dX1_sendRequest_0 rfl (lv_at hl 0 rfl) ?_
  refine va_get (D := G) (ci := 1) (v := .ref (a 4)) (C := RX1) (T := TX1) (N := 10) hx hb hts hi_X1_sendRequest_X1 hown hK hP 0 rfl rfl 5 (by decide) (hts _ hk_X1_sendRequest_f21) (fun _ h9 => h9) rfl dX1_sendRequest_1 ?_
  refine lv_iload_n hx hb dX1_sendRequest_4 rfl (lv_at hl 1 rfl) ?_
  refine lv_dup2_11 hx hb dX1_sendRequest_5 rfl rfl ?_
  refine gz_iald hx hb hK hP 4 rfl rfl (k := k) rfl (by omega) (by decide) dX1_sendRequest_6 ?_
  refine lv_iconst (v := nI 1) hx hb dX1_sendRequest_7 (by decide +kernel) ?_
  refine lv_iadd hx hb dX1_sendRequest_8 ?_
  refine gz_iast hx hb hK hP hD hS 4 rfl rfl (k := k) rfl (by omega) (by decide) dX1_sendRequest_9 (fun H locs hP hD hS => ?_)
  have hP : va_P G vwCl [(a 0, .inr (1, [.ref (b 0), .ref (d 0), .ref (a 1), .ref (a 2), .ref (a 3), .ref (a 4), .ref (a 5), .ref (a 6), .ref (a 7), .int bu])), (a 1, .inl (cI, 40, .inl pa)), (a 2, .inl (cI, 40, .inl oc)), (a 3, .inl (cI, 40, .inl cv)), (a 4, .inl (cI, 40, .inl (upd rq k ((rq k) + nI 1)))), (a 5, .inl (cI, 40, .inl la)), (a 6, .inl (cI, 40, .inl rc)), (a 7, .inl (cI, 40, .inl su)), (b 0, .inr (0, [.ref (b 1), .ref (b 2), .ref (b 3), .int (nI n)])), (b 1, .inl (cI, 40, .inl me)), (b 2, .inl (cI, 40, .inl ar)), (b 3, .inl (cI, 40, .inl dl)), (d 0, .inr (2, [.ref (d 1), .ref (d 2), .ref (d 3), .ref (d 4), .int (nI fi), .int (nI sz)])), (d 1, .inl (cI, 40, .inl ki)), (d 2, .inl (cI, 40, .inl ow)), (d 3, .inl (cI, 40, .inl mr)), (d 4, .inl (cI, 40, .inl va))] H := hP
  have hD : va_D A [(a 0, .inr (1, [.ref (b 0), .ref (d 0), .ref (a 1), .ref (a 2), .ref (a 3), .ref (a 4), .ref (a 5), .ref (a 6), .ref (a 7), .int bu])), (a 1, .inl (cI, 40, .inl pa)), (a 2, .inl (cI, 40, .inl oc)), (a 3, .inl (cI, 40, .inl cv)), (a 4, .inl (cI, 40, .inl (upd rq k ((rq k) + nI 1)))), (a 5, .inl (cI, 40, .inl la)), (a 6, .inl (cI, 40, .inl rc)), (a 7, .inl (cI, 40, .inl su)), (b 0, .inr (0, [.ref (b 1), .ref (b 2), .ref (b 3), .int (nI n)])), (b 1, .inl (cI, 40, .inl me)), (b 2, .inl (cI, 40, .inl ar)), (b 3, .inl (cI, 40, .inl dl)), (d 0, .inr (2, [.ref (d 1), .ref (d 2), .ref (d 3), .ref (d 4), .int (nI fi), .int (nI sz)])), (d 1, .inl (cI, 40, .inl ki)), (d 2, .inl (cI, 40, .inl ow)), (d 3, .inl (cI, 40, .inl mr)), (d 4, .inl (cI, 40, .inl va))] := hD
  refine lv_aload_n hx hb dX1_sendRequest_10 rfl (lv_at hl 0 rfl) ?_
  refine va_get (D := G) (ci := 1) (v := .ref (a 5)) (C := RX1) (T := TX1) (N := 10) hx hb hts hi_X1_sendRequest_X1 hown hK hP 0 rfl rfl 6 (by decide) (hts _ hk_X1_sendRequest_f24) (fun _ h9 => h9) rfl dX1_sendRequest_11 ?_
  refine lv_iload_n hx hb dX1_sendRequest_14 rfl (lv_at hl 1 rfl) ?_
  refine lv_iload_n hx hb dX1_sendRequest_15 rfl (lv_at hl 2 rfl) ?_
  refine gz_iast hx hb hK hP hD hS 5 rfl rfl (k := k) rfl (by omega) (by decide) dX1_sendRequest_16 (fun H locs hP hD hS => ?_)
  have hP : va_P G vwCl [(a 0, .inr (1, [.ref (b 0), .ref (d 0), .ref (a 1), .ref (a 2), .ref (a 3), .ref (a 4), .ref (a 5), .ref (a 6), .ref (a 7), .int bu])), (a 1, .inl (cI, 40, .inl pa)), (a 2, .inl (cI, 40, .inl oc)), (a 3, .inl (cI, 40, .inl cv)), (a 4, .inl (cI, 40, .inl (upd rq k ((rq k) + nI 1)))), (a 5, .inl (cI, 40, .inl (upd la k tm))), (a 6, .inl (cI, 40, .inl rc)), (a 7, .inl (cI, 40, .inl su)), (b 0, .inr (0, [.ref (b 1), .ref (b 2), .ref (b 3), .int (nI n)])), (b 1, .inl (cI, 40, .inl me)), (b 2, .inl (cI, 40, .inl ar)), (b 3, .inl (cI, 40, .inl dl)), (d 0, .inr (2, [.ref (d 1), .ref (d 2), .ref (d 3), .ref (d 4), .int (nI fi), .int (nI sz)])), (d 1, .inl (cI, 40, .inl ki)), (d 2, .inl (cI, 40, .inl ow)), (d 3, .inl (cI, 40, .inl mr)), (d 4, .inl (cI, 40, .inl va))] H := hP
  have hD : va_D A [(a 0, .inr (1, [.ref (b 0), .ref (d 0), .ref (a 1), .ref (a 2), .ref (a 3), .ref (a 4), .ref (a 5), .ref (a 6), .ref (a 7), .int bu])), (a 1, .inl (cI, 40, .inl pa)), (a 2, .inl (cI, 40, .inl oc)), (a 3, .inl (cI, 40, .inl cv)), (a 4, .inl (cI, 40, .inl (upd rq k ((rq k) + nI 1)))), (a 5, .inl (cI, 40, .inl (upd la k tm))), (a 6, .inl (cI, 40, .inl rc)), (a 7, .inl (cI, 40, .inl su)), (b 0, .inr (0, [.ref (b 1), .ref (b 2), .ref (b 3), .int (nI n)])), (b 1, .inl (cI, 40, .inl me)), (b 2, .inl (cI, 40, .inl ar)), (b 3, .inl (cI, 40, .inl dl)), (d 0, .inr (2, [.ref (d 1), .ref (d 2), .ref (d 3), .ref (d 4), .int (nI fi), .int (nI sz)])), (d 1, .inl (cI, 40, .inl ki)), (d 2, .inl (cI, 40, .inl ow)), (d 3, .inl (cI, 40, .inl mr)), (d 4, .inl (cI, 40, .inl va))] := hD
  refine lv_aload_n hx hb dX1_sendRequest_17 rfl (lv_at hl 0 rfl) ?_
  refine va_get (D := G) (ci := 1) (v := .ref (d 0)) (C := RX1) (T := TX1) (N := 10) hx hb hts hi_X1_sendRequest_X1 hown hK hP 0 rfl rfl 1 (by decide) (hts _ hk_X1_sendRequest_f41) (fun _ h9 => h9) rfl dX1_sendRequest_18 ?_
  refine lv_iconst (v := nI 0) hx hb dX1_sendRequest_21 (by decide +kernel) ?_
  refine lv_iload_n hx hb dX1_sendRequest_22 rfl (lv_at hl 1 rfl) ?_
  refine lv_iconst (v := nI 0) hx hb dX1_sendRequest_23 (by decide +kernel) ?_
  refine lv_iconst (v := nI 0) hx hb dX1_sendRequest_24 (by decide +kernel) ?_
  refine k_callv (S := Fn × Fn × Fn × Fn × Nat × Nat) (wc := [(d 0, .inr (2, [.ref (d 1), .ref (d 2), .ref (d 3), .ref (d 4), .int (nI fi), .int (nI sz)])), (d 1, .inl (cI, 40, .inl ki)), (d 2, .inl (cI, 40, .inl ow)), (d 3, .inl (cI, 40, .inl mr)), (d 4, .inl (cI, 40, .inl va))]) (wr := [(a 0, .inr (1, [.ref (b 0), .ref (d 0), .ref (a 1), .ref (a 2), .ref (a 3), .ref (a 4), .ref (a 5), .ref (a 6), .ref (a 7), .int bu])), (a 1, .inl (cI, 40, .inl pa)), (a 2, .inl (cI, 40, .inl oc)), (a 3, .inl (cI, 40, .inl cv)), (a 4, .inl (cI, 40, .inl (upd rq k ((rq k) + nI 1)))), (a 5, .inl (cI, 40, .inl (upd la k tm))), (a 6, .inl (cI, 40, .inl rc)), (a 7, .inl (cI, 40, .inl su)), (b 0, .inr (0, [.ref (b 1), .ref (b 2), .ref (b 3), .int (nI n)])), (b 1, .inl (cI, 40, .inl me)), (b 2, .inl (cI, 40, .inl ar)), (b 3, .inl (cI, 40, .inl dl))]) (w1 := fun u => [(d 0, .inr (2, [.ref (d 1), .ref (d 2), .ref (d 3), .ref (d 4), .int (nI u.2.2.2.2.1), .int (nI u.2.2.2.2.2)])), (d 1, .inl (cI, 40, .inl u.1)), (d 2, .inl (cI, 40, .inl u.2.1)), (d 3, .inl (cI, 40, .inl u.2.2.1)), (d 4, .inl (cI, 40, .inl u.2.2.2.1))]) (w2 := fun u => [(a 0, .inr (1, [.ref (b 0), .ref (d 0), .ref (a 1), .ref (a 2), .ref (a 3), .ref (a 4), .ref (a 5), .ref (a 6), .ref (a 7), .int bu])), (a 1, .inl (cI, 40, .inl pa)), (a 2, .inl (cI, 40, .inl oc)), (a 3, .inl (cI, 40, .inl cv)), (a 4, .inl (cI, 40, .inl (upd rq k ((rq k) + nI 1)))), (a 5, .inl (cI, 40, .inl (upd la k tm))), (a 6, .inl (cI, 40, .inl rc)), (a 7, .inl (cI, 40, .inl su)), (b 0, .inr (0, [.ref (b 1), .ref (b 2), .ref (b 3), .int (nI n)])), (b 1, .inl (cI, 40, .inl me)), (b 2, .inl (cI, 40, .inl ar)), (b 3, .inl (cI, 40, .inl dl)), (d 0, .inr (2, [.ref (d 1), .ref (d 2), .ref (d 3), .ref (d 4), .int (nI u.2.2.2.2.1), .int (nI u.2.2.2.2.2)])), (d 1, .inl (cI, 40, .inl u.1)), (d 2, .inl (cI, 40, .inl u.2.1)), (d 3, .inl (cI, 40, .inl u.2.2.1)), (d 4, .inl (cI, 40, .inl u.2.2.2.1))]) (va_runVN (As := [.int (nI 0), .int (nI k), .int (nI 0), .int (nI 0)]) (rest := []) ⟨hx, hb, hml, hown, hts⟩ (c_X2_send l G cI d ki ow mr va fi sz (nI 0) (nI k) (nI 0) (nI 0) (by first | omega | assumption) (by first | omega | assumption) H.size) ⟨va_cnB (host := RX4) 4 hts gX1_sendRequest_X2_send_n49 rfl rfl rfl (hN.1 _ (List.mem_of_getElem? (i := 30) rfl)) (hts _ hk_X1_sendRequest_iX2) (by decide +kernel) ⟨Nat.le_of_ble_eq_true rfl, Nat.le_of_ble_eq_true rfl⟩, (hts _ hk_X1_sendRequest_nX2_send), (hts _ hk_X1_sendRequest_sX2_send)⟩ ⟨kPre.blind, va_recv hK hP (ci := 2) (q0 := 12) rfl rfl, kPre.at hP hK hD hS hA hN [12, 13, 14, 15, 16] rfl rfl⟩ rfl rfl hl.1 rfl (lv_room (Nat.le_of_ble_eq_true rfl)) dX1_sendRequest_25 ⟨Nat.le_of_ble_eq_true rfl, Nat.le_of_ble_eq_true rfl⟩) hP hD hS hA [12, 13, 14, 15, 16] [0, 1, 2, 3, 4, 5, 6, 7, 8, 9, 10, 11] [0, 1, 2, 3, 4, 5, 6, 7, 8, 9, 10, 11, 12, 13, 14, 15, 16] rfl rfl ⟨rfl, by decide, rfl⟩ (fun _ => rfl) (fun u H locs hw_1 hP hD hS => ?_)
  obtain ⟨ki_1, ow_1, mr_1, va_1, fi_1, sz_1⟩ := u
  obtain ⟨hw_1, hf_1, hs_1⟩ := hw_1
  have hf_1 : fi_1 < 40 := hf_1
  have hs_1 : sz_1 ≤ 40 := hs_1
  have hw_1 : ((ki_1, ow_1, mr_1, va_1, fi_1, sz_1) : Fn × Fn × Fn × Fn × Nat × Nat) = l_send (ki, ow, mr, va, fi, sz) (nI 0) (nI k) (nI 0) (nI 0) := hw_1
  have hP : va_P G vwCl [(a 0, .inr (1, [.ref (b 0), .ref (d 0), .ref (a 1), .ref (a 2), .ref (a 3), .ref (a 4), .ref (a 5), .ref (a 6), .ref (a 7), .int bu])), (a 1, .inl (cI, 40, .inl pa)), (a 2, .inl (cI, 40, .inl oc)), (a 3, .inl (cI, 40, .inl cv)), (a 4, .inl (cI, 40, .inl (upd rq k ((rq k) + nI 1)))), (a 5, .inl (cI, 40, .inl (upd la k tm))), (a 6, .inl (cI, 40, .inl rc)), (a 7, .inl (cI, 40, .inl su)), (b 0, .inr (0, [.ref (b 1), .ref (b 2), .ref (b 3), .int (nI n)])), (b 1, .inl (cI, 40, .inl me)), (b 2, .inl (cI, 40, .inl ar)), (b 3, .inl (cI, 40, .inl dl)), (d 0, .inr (2, [.ref (d 1), .ref (d 2), .ref (d 3), .ref (d 4), .int (nI fi_1), .int (nI sz_1)])), (d 1, .inl (cI, 40, .inl ki_1)), (d 2, .inl (cI, 40, .inl ow_1)), (d 3, .inl (cI, 40, .inl mr_1)), (d 4, .inl (cI, 40, .inl va_1))] H := hP
  have hD : va_D A [(a 0, .inr (1, [.ref (b 0), .ref (d 0), .ref (a 1), .ref (a 2), .ref (a 3), .ref (a 4), .ref (a 5), .ref (a 6), .ref (a 7), .int bu])), (a 1, .inl (cI, 40, .inl pa)), (a 2, .inl (cI, 40, .inl oc)), (a 3, .inl (cI, 40, .inl cv)), (a 4, .inl (cI, 40, .inl (upd rq k ((rq k) + nI 1)))), (a 5, .inl (cI, 40, .inl (upd la k tm))), (a 6, .inl (cI, 40, .inl rc)), (a 7, .inl (cI, 40, .inl su)), (b 0, .inr (0, [.ref (b 1), .ref (b 2), .ref (b 3), .int (nI n)])), (b 1, .inl (cI, 40, .inl me)), (b 2, .inl (cI, 40, .inl ar)), (b 3, .inl (cI, 40, .inl dl)), (d 0, .inr (2, [.ref (d 1), .ref (d 2), .ref (d 3), .ref (d 4), .int (nI fi_1), .int (nI sz_1)])), (d 1, .inl (cI, 40, .inl ki_1)), (d 2, .inl (cI, 40, .inl ow_1)), (d 3, .inl (cI, 40, .inl mr_1)), (d 4, .inl (cI, 40, .inl va_1))] := hD
  have hS9 := hS.2.2
  have hq9 : ((((pa, oc, cv, upd rq k ((rq k) + nI 1), upd la k tm, rc, su, bu), (ki_1, ow_1, mr_1, va_1, fi_1, sz_1)) : CalS × LaneS) = k_req (pa, oc, cv, rq, la, rc, su, bu) (ki, ow, mr, va, fi, sz) k tm) ∧ fi_1 < 40 ∧ sz_1 ≤ 40 := by refine ⟨?_, by omega, by omega⟩; simp only [k_req, ↓reduceIte, eq_self, nI_10, and_true, true_and, and_false, false_and, not_true_eq_false, not_false_eq_true, Bool.and_true, Bool.true_and, Bool.and_false, Bool.false_and, decide_true, decide_false, Bool.false_eq_true, ← hw_1]
  exact W.vret hx hb hr (fun t ht hW => ⟨⟨((pa, oc, cv, upd rq k ((rq k) + nI 1), upd la k tm, rc, su, bu), (ki_1, ow_1, mr_1, va_1, fi_1, sz_1)), rfl, hq9, by rw [ht]; exact hP, hD⟩, hS.F ht⟩) hS9 dX1_sendRequest_28

theorem hk_X1_begin_f9 : (.fieldLink RX1 9 "Callgate$Caller" "parents" "[I" : Cond) ∈ wsX1_begin := by decide +kernel
theorem hi_X1_begin_X1 : ∀ w ∈ u_ws RX1 TX1 10, w ∈ wsX1_begin := by decide +kernel
theorem hk_X1_begin_f15 : (.fieldLink RX1 15 "Callgate$Caller" "outcomes" "[I" : Cond) ∈ wsX1_begin := by decide +kernel
set_option maxHeartbeats 4000000 in
set_option maxRecDepth 100000 in
theorem c_X1_begin (l : Launch) (G : va_G) (cI : ClassId) (a b d : Nat → Nat) (pa : Fn) (oc : Fn) (cv : Fn) (rq : Fn) (la : Fn) (rc : Fn) (su : Fn) (bu : Int32) (me : Fn) (ar : Fn) (dl : Fn) (n : Nat) (ki : Fn) (ow : Fn) (mr : Fn) (va : Fn) (fi : Nat) (sz : Nat) (k : Nat) (pp : Int32) (tm : Int32) (hk : k < 40) (hn : n ≤ 40) (hf : fi < 40) (hs : sz ≤ 40) (zz : Nat) : Met l yX1_begin wsX1_begin ({ frames := 4, cells := 0, slots := 0, locals := 90 }) (va_Pc [.ref (a 0), .int (nI k), .int pp, .int tm] (kPre G cI [(a 0, .inr (1, [.ref (b 0), .ref (d 0), .ref (a 1), .ref (a 2), .ref (a 3), .ref (a 4), .ref (a 5), .ref (a 6), .ref (a 7), .int bu])), (a 1, .inl (cI, 40, .inl pa)), (a 2, .inl (cI, 40, .inl oc)), (a 3, .inl (cI, 40, .inl cv)), (a 4, .inl (cI, 40, .inl rq)), (a 5, .inl (cI, 40, .inl la)), (a 6, .inl (cI, 40, .inl rc)), (a 7, .inl (cI, 40, .inl su)), (b 0, .inr (0, [.ref (b 1), .ref (b 2), .ref (b 3), .int (nI n)])), (b 1, .inl (cI, 40, .inl me)), (b 2, .inl (cI, 40, .inl ar)), (b 3, .inl (cI, 40, .inl dl)), (d 0, .inr (2, [.ref (d 1), .ref (d 2), .ref (d 3), .ref (d 4), .int (nI fi), .int (nI sz)])), (d 1, .inl (cI, 40, .inl ki)), (d 2, .inl (cI, 40, .inl ow)), (d 3, .inl (cI, 40, .inl mr)), (d 4, .inl (cI, 40, .inl va))] zz)) (va_Qv (fun (u : CalS × LaneS) => (u = k_begin (pa, oc, cv, rq, la, rc, su, bu) (ki, ow, mr, va, fi, sz) k pp tm) ∧ u.2.2.2.2.2.1 < 40 ∧ u.2.2.2.2.2.2 ≤ 40) (fun (u : CalS × LaneS) t => kQ G [(a 0, .inr (1, [.ref (b 0), .ref (d 0), .ref (a 1), .ref (a 2), .ref (a 3), .ref (a 4), .ref (a 5), .ref (a 6), .ref (a 7), .int u.1.2.2.2.2.2.2.2])), (a 1, .inl (cI, 40, .inl u.1.1)), (a 2, .inl (cI, 40, .inl u.1.2.1)), (a 3, .inl (cI, 40, .inl u.1.2.2.1)), (a 4, .inl (cI, 40, .inl u.1.2.2.2.1)), (a 5, .inl (cI, 40, .inl u.1.2.2.2.2.1)), (a 6, .inl (cI, 40, .inl u.1.2.2.2.2.2.1)), (a 7, .inl (cI, 40, .inl u.1.2.2.2.2.2.2.1)), (b 0, .inr (0, [.ref (b 1), .ref (b 2), .ref (b 3), .int (nI n)])), (b 1, .inl (cI, 40, .inl me)), (b 2, .inl (cI, 40, .inl ar)), (b 3, .inl (cI, 40, .inl dl)), (d 0, .inr (2, [.ref (d 1), .ref (d 2), .ref (d 3), .ref (d 4), .int (nI u.2.2.2.2.2.1), .int (nI u.2.2.2.2.2.2)])), (d 1, .inl (cI, 40, .inl u.2.1)), (d 2, .inl (cI, 40, .inl u.2.2.1)), (d 3, .inl (cI, 40, .inl u.2.2.2.1)), (d 4, .inl (cI, 40, .inl u.2.2.2.2.1))] (va_A [(a 0, .inr (1, [.ref (b 0), .ref (d 0), .ref (a 1), .ref (a 2), .ref (a 3), .ref (a 4), .ref (a 5), .ref (a 6), .ref (a 7), .int bu])), (a 1, .inl (cI, 40, .inl pa)), (a 2, .inl (cI, 40, .inl oc)), (a 3, .inl (cI, 40, .inl cv)), (a 4, .inl (cI, 40, .inl rq)), (a 5, .inl (cI, 40, .inl la)), (a 6, .inl (cI, 40, .inl rc)), (a 7, .inl (cI, 40, .inl su)), (b 0, .inr (0, [.ref (b 1), .ref (b 2), .ref (b 3), .int (nI n)])), (b 1, .inl (cI, 40, .inl me)), (b 2, .inl (cI, 40, .inl ar)), (b 3, .inl (cI, 40, .inl dl)), (d 0, .inr (2, [.ref (d 1), .ref (d 2), .ref (d 3), .ref (d 4), .int (nI fi), .int (nI sz)])), (d 1, .inl (cI, 40, .inl ki)), (d 2, .inl (cI, 40, .inl ow)), (d 3, .inl (cI, 40, .inl mr)), (d 4, .inl (cI, 40, .inl va))] zz) t) (va_A [(a 0, .inr (1, [.ref (b 0), .ref (d 0), .ref (a 1), .ref (a 2), .ref (a 3), .ref (a 4), .ref (a 5), .ref (a 6), .ref (a 7), .int bu])), (a 1, .inl (cI, 40, .inl pa)), (a 2, .inl (cI, 40, .inl oc)), (a 3, .inl (cI, 40, .inl cv)), (a 4, .inl (cI, 40, .inl rq)), (a 5, .inl (cI, 40, .inl la)), (a 6, .inl (cI, 40, .inl rc)), (a 7, .inl (cI, 40, .inl su)), (b 0, .inr (0, [.ref (b 1), .ref (b 2), .ref (b 3), .int (nI n)])), (b 1, .inl (cI, 40, .inl me)), (b 2, .inl (cI, 40, .inl ar)), (b 3, .inl (cI, 40, .inl dl)), (d 0, .inr (2, [.ref (d 1), .ref (d 2), .ref (d 3), .ref (d 4), .int (nI fi), .int (nI sz)])), (d 1, .inl (cI, 40, .inl ki)), (d 2, .inl (cI, 40, .inl ow)), (d 3, .inl (cI, 40, .inl mr)), (d 4, .inl (cI, 40, .inl va))] zz)) 0 0 (va_A [(a 0, .inr (1, [.ref (b 0), .ref (d 0), .ref (a 1), .ref (a 2), .ref (a 3), .ref (a 4), .ref (a 5), .ref (a 6), .ref (a 7), .int bu])), (a 1, .inl (cI, 40, .inl pa)), (a 2, .inl (cI, 40, .inl oc)), (a 3, .inl (cI, 40, .inl cv)), (a 4, .inl (cI, 40, .inl rq)), (a 5, .inl (cI, 40, .inl la)), (a 6, .inl (cI, 40, .inl rc)), (a 7, .inl (cI, 40, .inl su)), (b 0, .inr (0, [.ref (b 1), .ref (b 2), .ref (b 3), .int (nI n)])), (b 1, .inl (cI, 40, .inl me)), (b 2, .inl (cI, 40, .inl ar)), (b 3, .inl (cI, 40, .inl dl)), (d 0, .inr (2, [.ref (d 1), .ref (d 2), .ref (d 3), .ref (d 4), .int (nI fi), .int (nI sz)])), (d 1, .inl (cI, 40, .inl ki)), (d 2, .inl (cI, 40, .inl ow)), (d 3, .inl (cI, 40, .inl mr)), (d 4, .inl (cI, 40, .inl va))] zz) := by
  refine Met.ofW (cc := cX1_begin) (maxL := 4) (ret := none) (by decide) rfl ?_
  intro p e s m args below meth c s₁ B hml hv
  obtain ⟨rfl, hsz, hP, hK, hD0, hN⟩ := hv
  have hx := B.exec
  have hb := B.bytes
  have hr := B.returns
  have hts := atoms_spec (ws := wsX1_begin) B.pre
  have hown : s.vm.findClass RX1 = some m.cls := findClass_of_methodNamed B.named
  have hlocks := B.notSynchronized
  subst hsz
  have hD := hD0.self (sz := s.heap.size)
  generalize hAe : va_A [(a 0, .inr (1, [.ref (b 0), .ref (d 0), .ref (a 1), .ref (a 2), .ref (a 3), .ref (a 4), .ref (a 5), .ref (a 6), .ref (a 7), .int bu])), (a 1, .inl (cI, 40, .inl pa)), (a 2, .inl (cI, 40, .inl oc)), (a 3, .inl (cI, 40, .inl cv)), (a 4, .inl (cI, 40, .inl rq)), (a 5, .inl (cI, 40, .inl la)), (a 6, .inl (cI, 40, .inl rc)), (a 7, .inl (cI, 40, .inl su)), (b 0, .inr (0, [.ref (b 1), .ref (b 2), .ref (b 3), .int (nI n)])), (b 1, .inl (cI, 40, .inl me)), (b 2, .inl (cI, 40, .inl ar)), (b 3, .inl (cI, 40, .inl dl)), (d 0, .inr (2, [.ref (d 1), .ref (d 2), .ref (d 3), .ref (d 4), .int (nI fi), .int (nI sz)])), (d 1, .inl (cI, 40, .inl ki)), (d 2, .inl (cI, 40, .inl ow)), (d 3, .inl (cI, 40, .inl mr)), (d 4, .inl (cI, 40, .inl va))] s.heap.size = A at hD hN ⊢
  have hA : ∀ q : Nat, s.heap.size ≤ q → A q := fun q h => by rw [← hAe]; exact Or.inr h
  have hS : va_S A s.heap s.heap [] := va_S.rf
  have hl := lv_entry ([.ref (a 0), .int (nI k), .int pp, .int tm]) (n := 4) (Nat.le_of_ble_eq_true rfl)
  rw [lg_entry_eq]
  generalize (lg_sl ([.ref (a 0), .int (nI k), .int pp, .int tm]) ++ List.replicate (4 - (lg_sl ([.ref (a 0), .int (nI k), .int pp, .int tm])).length) Slot.unset).toArray = ls at hl ⊢
  have hl : lv_has ls 4 [(0, .ref (a 0)), (1, .int (nI k)), (2, .int pp), (3, .int tm)] := hl
  have hP : va_P G vwCl [(a 0, .inr (1, [.ref (b 0), .ref (d 0), .ref (a 1), .ref (a 2), .ref (a 3), .ref (a 4), .ref (a 5), .ref (a 6), .ref (a 7), .int bu])), (a 1, .inl (cI, 40, .inl pa)), (a 2, .inl (cI, 40, .inl oc)), (a 3, .inl (cI, 40, .inl cv)), (a 4, .inl (cI, 40, .inl rq)), (a 5, .inl (cI, 40, .inl la)), (a 6, .inl (cI, 40, .inl rc)), (a 7, .inl (cI, 40, .inl su)), (b 0, .inr (0, [.ref (b 1), .ref (b 2), .ref (b 3), .int (nI n)])), (b 1, .inl (cI, 40, .inl me)), (b 2, .inl (cI, 40, .inl ar)), (b 3, .inl (cI, 40, .inl dl)), (d 0, .inr (2, [.ref (d 1), .ref (d 2), .ref (d 3), .ref (d 4), .int (nI fi), .int (nI sz)])), (d 1, .inl (cI, 40, .inl ki)), (d 2, .inl (cI, 40, .inl ow)), (d 3, .inl (cI, 40, .inl mr)), (d 4, .inl (cI, 40, .inl va))] s.heap := hP
  obtain ⟨H, hH⟩ : ∃ H, H = s.heap := ⟨_, rfl⟩
  rw [← hH] at hP
  have hS : va_S A s.heap H [] := by rw [hH]; exact hS
  show W _ _ _ _ _ _ _ _ _ _ s.heap _ _ _ _ _
  rw [← hH]
  obtain ⟨locs, hlo⟩ : ∃ z : List Loc, z = [] := ⟨_, rfl⟩
  rw [← hlo] at hS ⊢
  refine lv_aload_n hx hb dX1_begin_0 rfl (lv_at hl 0 rfl) ?_
  refine va_get (D := G) (ci := 1) (v := .ref (a 1)) (C := RX1) (T := TX1) (N := 10) hx hb hts hi_X1_begin_X1 hown hK hP 0 rfl rfl 2 (by decide) (hts _ hk_X1_begin_f9) (fun _ h9 => h9) rfl dX1_begin_1 ?_
  refine lv_iload_n hx hb dX1_begin_4 rfl (lv_at hl 1 rfl) ?_
  refine lv_iload_n hx hb dX1_begin_5 rfl (lv_at hl 2 rfl) ?_
  refine gz_iast hx hb hK hP hD hS 1 rfl rfl (k := k) rfl (by omega) (by decide) dX1_begin_6 (fun H locs hP hD hS => ?_)
  have hP : va_P G vwCl [(a 0, .inr (1, [.ref (b 0), .ref (d 0), .ref (a 1), .ref (a 2), .ref (a 3), .ref (a 4), .ref (a 5), .ref (a 6), .ref (a 7), .int bu])), (a 1, .inl (cI, 40, .inl (upd pa k pp))), (a 2, .inl (cI, 40, .inl oc)), (a 3, .inl (cI, 40, .inl cv)), (a 4, .inl (cI, 40, .inl rq)), (a 5, .inl (cI, 40, .inl la)), (a 6, .inl (cI, 40, .inl rc)), (a 7, .inl (cI, 40, .inl su)), (b 0, .inr (0, [.ref (b 1), .ref (b 2), .ref (b 3), .int (nI n)])), (b 1, .inl (cI, 40, .inl me)), (b 2, .inl (cI, 40, .inl ar)), (b 3, .inl (cI, 40, .inl dl)), (d 0, .inr (2, [.ref (d 1), .ref (d 2), .ref (d 3), .ref (d 4), .int (nI fi), .int (nI sz)])), (d 1, .inl (cI, 40, .inl ki)), (d 2, .inl (cI, 40, .inl ow)), (d 3, .inl (cI, 40, .inl mr)), (d 4, .inl (cI, 40, .inl va))] H := hP
  have hD : va_D A [(a 0, .inr (1, [.ref (b 0), .ref (d 0), .ref (a 1), .ref (a 2), .ref (a 3), .ref (a 4), .ref (a 5), .ref (a 6), .ref (a 7), .int bu])), (a 1, .inl (cI, 40, .inl (upd pa k pp))), (a 2, .inl (cI, 40, .inl oc)), (a 3, .inl (cI, 40, .inl cv)), (a 4, .inl (cI, 40, .inl rq)), (a 5, .inl (cI, 40, .inl la)), (a 6, .inl (cI, 40, .inl rc)), (a 7, .inl (cI, 40, .inl su)), (b 0, .inr (0, [.ref (b 1), .ref (b 2), .ref (b 3), .int (nI n)])), (b 1, .inl (cI, 40, .inl me)), (b 2, .inl (cI, 40, .inl ar)), (b 3, .inl (cI, 40, .inl dl)), (d 0, .inr (2, [.ref (d 1), .ref (d 2), .ref (d 3), .ref (d 4), .int (nI fi), .int (nI sz)])), (d 1, .inl (cI, 40, .inl ki)), (d 2, .inl (cI, 40, .inl ow)), (d 3, .inl (cI, 40, .inl mr)), (d 4, .inl (cI, 40, .inl va))] := hD
  refine lv_aload_n hx hb dX1_begin_7 rfl (lv_at hl 0 rfl) ?_
  refine va_get (D := G) (ci := 1) (v := .ref (a 2)) (C := RX1) (T := TX1) (N := 10) hx hb hts hi_X1_begin_X1 hown hK hP 0 rfl rfl 3 (by decide) (hts _ hk_X1_begin_f15) (fun _ h9 => h9) rfl dX1_begin_8 ?_
  refine lv_iload_n hx hb dX1_begin_11 rfl (lv_at hl 1 rfl) ?_
  refine lv_iconst (v := (-1)) hx hb dX1_begin_12 (by decide +kernel) ?_
  refine gz_iast hx hb hK hP hD hS 2 rfl rfl (k := k) rfl (by omega) (by decide) dX1_begin_13 (fun H locs hP hD hS => ?_)
  have hP : va_P G vwCl [(a 0, .inr (1, [.ref (b 0), .ref (d 0), .ref (a 1), .ref (a 2), .ref (a 3), .ref (a 4), .ref (a 5), .ref (a 6), .ref (a 7), .int bu])), (a 1, .inl (cI, 40, .inl (upd pa k pp))), (a 2, .inl (cI, 40, .inl (upd oc k (-1)))), (a 3, .inl (cI, 40, .inl cv)), (a 4, .inl (cI, 40, .inl rq)), (a 5, .inl (cI, 40, .inl la)), (a 6, .inl (cI, 40, .inl rc)), (a 7, .inl (cI, 40, .inl su)), (b 0, .inr (0, [.ref (b 1), .ref (b 2), .ref (b 3), .int (nI n)])), (b 1, .inl (cI, 40, .inl me)), (b 2, .inl (cI, 40, .inl ar)), (b 3, .inl (cI, 40, .inl dl)), (d 0, .inr (2, [.ref (d 1), .ref (d 2), .ref (d 3), .ref (d 4), .int (nI fi), .int (nI sz)])), (d 1, .inl (cI, 40, .inl ki)), (d 2, .inl (cI, 40, .inl ow)), (d 3, .inl (cI, 40, .inl mr)), (d 4, .inl (cI, 40, .inl va))] H := hP
  have hD : va_D A [(a 0, .inr (1, [.ref (b 0), .ref (d 0), .ref (a 1), .ref (a 2), .ref (a 3), .ref (a 4), .ref (a 5), .ref (a 6), .ref (a 7), .int bu])), (a 1, .inl (cI, 40, .inl (upd pa k pp))), (a 2, .inl (cI, 40, .inl (upd oc k (-1)))), (a 3, .inl (cI, 40, .inl cv)), (a 4, .inl (cI, 40, .inl rq)), (a 5, .inl (cI, 40, .inl la)), (a 6, .inl (cI, 40, .inl rc)), (a 7, .inl (cI, 40, .inl su)), (b 0, .inr (0, [.ref (b 1), .ref (b 2), .ref (b 3), .int (nI n)])), (b 1, .inl (cI, 40, .inl me)), (b 2, .inl (cI, 40, .inl ar)), (b 3, .inl (cI, 40, .inl dl)), (d 0, .inr (2, [.ref (d 1), .ref (d 2), .ref (d 3), .ref (d 4), .int (nI fi), .int (nI sz)])), (d 1, .inl (cI, 40, .inl ki)), (d 2, .inl (cI, 40, .inl ow)), (d 3, .inl (cI, 40, .inl mr)), (d 4, .inl (cI, 40, .inl va))] := hD
  refine lv_aload_n hx hb dX1_begin_14 rfl (lv_at hl 0 rfl) ?_
  refine lv_iload_n hx hb dX1_begin_15 rfl (lv_at hl 1 rfl) ?_
  refine lv_iload_n hx hb dX1_begin_16 rfl (lv_at hl 3 rfl) ?_
  refine k_callv (S := CalS × LaneS) (wc := [(a 0, .inr (1, [.ref (b 0), .ref (d 0), .ref (a 1), .ref (a 2), .ref (a 3), .ref (a 4), .ref (a 5), .ref (a 6), .ref (a 7), .int bu])), (a 1, .inl (cI, 40, .inl (upd pa k pp))), (a 2, .inl (cI, 40, .inl (upd oc k (-1)))), (a 3, .inl (cI, 40, .inl cv)), (a 4, .inl (cI, 40, .inl rq)), (a 5, .inl (cI, 40, .inl la)), (a 6, .inl (cI, 40, .inl rc)), (a 7, .inl (cI, 40, .inl su)), (b 0, .inr (0, [.ref (b 1), .ref (b 2), .ref (b 3), .int (nI n)])), (b 1, .inl (cI, 40, .inl me)), (b 2, .inl (cI, 40, .inl ar)), (b 3, .inl (cI, 40, .inl dl)), (d 0, .inr (2, [.ref (d 1), .ref (d 2), .ref (d 3), .ref (d 4), .int (nI fi), .int (nI sz)])), (d 1, .inl (cI, 40, .inl ki)), (d 2, .inl (cI, 40, .inl ow)), (d 3, .inl (cI, 40, .inl mr)), (d 4, .inl (cI, 40, .inl va))]) (wr := []) (w1 := fun u => [(a 0, .inr (1, [.ref (b 0), .ref (d 0), .ref (a 1), .ref (a 2), .ref (a 3), .ref (a 4), .ref (a 5), .ref (a 6), .ref (a 7), .int u.1.2.2.2.2.2.2.2])), (a 1, .inl (cI, 40, .inl u.1.1)), (a 2, .inl (cI, 40, .inl u.1.2.1)), (a 3, .inl (cI, 40, .inl u.1.2.2.1)), (a 4, .inl (cI, 40, .inl u.1.2.2.2.1)), (a 5, .inl (cI, 40, .inl u.1.2.2.2.2.1)), (a 6, .inl (cI, 40, .inl u.1.2.2.2.2.2.1)), (a 7, .inl (cI, 40, .inl u.1.2.2.2.2.2.2.1)), (b 0, .inr (0, [.ref (b 1), .ref (b 2), .ref (b 3), .int (nI n)])), (b 1, .inl (cI, 40, .inl me)), (b 2, .inl (cI, 40, .inl ar)), (b 3, .inl (cI, 40, .inl dl)), (d 0, .inr (2, [.ref (d 1), .ref (d 2), .ref (d 3), .ref (d 4), .int (nI u.2.2.2.2.2.1), .int (nI u.2.2.2.2.2.2)])), (d 1, .inl (cI, 40, .inl u.2.1)), (d 2, .inl (cI, 40, .inl u.2.2.1)), (d 3, .inl (cI, 40, .inl u.2.2.2.1)), (d 4, .inl (cI, 40, .inl u.2.2.2.2.1))]) (w2 := fun u => [(a 0, .inr (1, [.ref (b 0), .ref (d 0), .ref (a 1), .ref (a 2), .ref (a 3), .ref (a 4), .ref (a 5), .ref (a 6), .ref (a 7), .int u.1.2.2.2.2.2.2.2])), (a 1, .inl (cI, 40, .inl u.1.1)), (a 2, .inl (cI, 40, .inl u.1.2.1)), (a 3, .inl (cI, 40, .inl u.1.2.2.1)), (a 4, .inl (cI, 40, .inl u.1.2.2.2.1)), (a 5, .inl (cI, 40, .inl u.1.2.2.2.2.1)), (a 6, .inl (cI, 40, .inl u.1.2.2.2.2.2.1)), (a 7, .inl (cI, 40, .inl u.1.2.2.2.2.2.2.1)), (b 0, .inr (0, [.ref (b 1), .ref (b 2), .ref (b 3), .int (nI n)])), (b 1, .inl (cI, 40, .inl me)), (b 2, .inl (cI, 40, .inl ar)), (b 3, .inl (cI, 40, .inl dl)), (d 0, .inr (2, [.ref (d 1), .ref (d 2), .ref (d 3), .ref (d 4), .int (nI u.2.2.2.2.2.1), .int (nI u.2.2.2.2.2.2)])), (d 1, .inl (cI, 40, .inl u.2.1)), (d 2, .inl (cI, 40, .inl u.2.2.1)), (d 3, .inl (cI, 40, .inl u.2.2.2.1)), (d 4, .inl (cI, 40, .inl u.2.2.2.2.1))]) (va_runV (As := [.int (nI k), .int tm]) (rest := []) ⟨hx, hb, hml, hown, hts⟩ (c_X1_sendRequest l G cI a b d (upd pa k pp) (upd oc k (-1)) cv rq la rc su bu me ar dl n ki ow mr va fi sz k tm (by first | omega | assumption) (by first | omega | assumption) (by first | omega | assumption) (by first | omega | assumption) H.size) (cwV 2 hts gX1_begin_X1_sendRequest rfl rfl rfl (by decide +kernel) ⟨Nat.le_of_ble_eq_true rfl, Nat.le_of_ble_eq_true rfl⟩) ⟨kPre.blind, va_recv hK hP (ci := 1) (q0 := 0) rfl rfl, kPre.at hP hK hD hS hA hN [0, 1, 2, 3, 4, 5, 6, 7, 8, 9, 10, 11, 12, 13, 14, 15, 16] rfl rfl⟩ rfl rfl hl.1 rfl (lv_room (Nat.le_of_ble_eq_true rfl)) dX1_begin_17 ⟨Nat.le_of_ble_eq_true rfl, Nat.le_of_ble_eq_true rfl⟩) hP hD hS hA [0, 1, 2, 3, 4, 5, 6, 7, 8, 9, 10, 11, 12, 13, 14, 15, 16] [] [0, 1, 2, 3, 4, 5, 6, 7, 8, 9, 10, 11, 12, 13, 14, 15, 16] rfl rfl ⟨rfl, by decide, rfl⟩ (fun _ => rfl) (fun u H locs hw_1 hP hD hS => ?_)
  obtain ⟨⟨pa_1, oc_1, cv_1, rq_1, la_1, rc_1, su_1, bu_1⟩, ⟨ki_1, ow_1, mr_1, va_1, fi_1, sz_1⟩⟩ := u
  obtain ⟨hw_1, hf_1, hs_1⟩ := hw_1
  have hf_1 : fi_1 < 40 := hf_1
  have hs_1 : sz_1 ≤ 40 := hs_1
  have hw_1 : (((pa_1, oc_1, cv_1, rq_1, la_1, rc_1, su_1, bu_1), (ki_1, ow_1, mr_1, va_1, fi_1, sz_1)) : CalS × LaneS) = k_req ((upd pa k pp), (upd oc k (-1)), cv, rq, la, rc, su, bu) (ki, ow, mr, va, fi, sz) k tm := hw_1
  have hP : va_P G vwCl [(a 0, .inr (1, [.ref (b 0), .ref (d 0), .ref (a 1), .ref (a 2), .ref (a 3), .ref (a 4), .ref (a 5), .ref (a 6), .ref (a 7), .int bu_1])), (a 1, .inl (cI, 40, .inl pa_1)), (a 2, .inl (cI, 40, .inl oc_1)), (a 3, .inl (cI, 40, .inl cv_1)), (a 4, .inl (cI, 40, .inl rq_1)), (a 5, .inl (cI, 40, .inl la_1)), (a 6, .inl (cI, 40, .inl rc_1)), (a 7, .inl (cI, 40, .inl su_1)), (b 0, .inr (0, [.ref (b 1), .ref (b 2), .ref (b 3), .int (nI n)])), (b 1, .inl (cI, 40, .inl me)), (b 2, .inl (cI, 40, .inl ar)), (b 3, .inl (cI, 40, .inl dl)), (d 0, .inr (2, [.ref (d 1), .ref (d 2), .ref (d 3), .ref (d 4), .int (nI fi_1), .int (nI sz_1)])), (d 1, .inl (cI, 40, .inl ki_1)), (d 2, .inl (cI, 40, .inl ow_1)), (d 3, .inl (cI, 40, .inl mr_1)), (d 4, .inl (cI, 40, .inl va_1))] H := hP
  have hD : va_D A [(a 0, .inr (1, [.ref (b 0), .ref (d 0), .ref (a 1), .ref (a 2), .ref (a 3), .ref (a 4), .ref (a 5), .ref (a 6), .ref (a 7), .int bu_1])), (a 1, .inl (cI, 40, .inl pa_1)), (a 2, .inl (cI, 40, .inl oc_1)), (a 3, .inl (cI, 40, .inl cv_1)), (a 4, .inl (cI, 40, .inl rq_1)), (a 5, .inl (cI, 40, .inl la_1)), (a 6, .inl (cI, 40, .inl rc_1)), (a 7, .inl (cI, 40, .inl su_1)), (b 0, .inr (0, [.ref (b 1), .ref (b 2), .ref (b 3), .int (nI n)])), (b 1, .inl (cI, 40, .inl me)), (b 2, .inl (cI, 40, .inl ar)), (b 3, .inl (cI, 40, .inl dl)), (d 0, .inr (2, [.ref (d 1), .ref (d 2), .ref (d 3), .ref (d 4), .int (nI fi_1), .int (nI sz_1)])), (d 1, .inl (cI, 40, .inl ki_1)), (d 2, .inl (cI, 40, .inl ow_1)), (d 3, .inl (cI, 40, .inl mr_1)), (d 4, .inl (cI, 40, .inl va_1))] := hD
  have hS9 := hS.2.2
  have hq9 : ((((pa_1, oc_1, cv_1, rq_1, la_1, rc_1, su_1, bu_1), (ki_1, ow_1, mr_1, va_1, fi_1, sz_1)) : CalS × LaneS) = k_begin (pa, oc, cv, rq, la, rc, su, bu) (ki, ow, mr, va, fi, sz) k pp tm) ∧ fi_1 < 40 ∧ sz_1 ≤ 40 := by refine ⟨?_, by omega, by omega⟩; simp only [k_begin, ↓reduceIte, eq_self, nI_10, and_true, true_and, and_false, false_and, not_true_eq_false, not_false_eq_true, Bool.and_true, Bool.true_and, Bool.and_false, Bool.false_and, decide_true, decide_false, Bool.false_eq_true, ← hw_1]
  exact W.vret hx hb hr (fun t ht hW => ⟨⟨((pa_1, oc_1, cv_1, rq_1, la_1, rc_1, su_1, bu_1), (ki_1, ow_1, mr_1, va_1, fi_1, sz_1)), rfl, hq9, by rw [ht]; exact hP, hD⟩, hS.F ht⟩) hS9 dX1_begin_20

theorem hk_X1_hasEndedParent_f9 : (.fieldLink RX1 9 "Callgate$Caller" "parents" "[I" : Cond) ∈ wsX1_hasEndedParent := by decide +kernel
theorem hi_X1_hasEndedParent_X1 : ∀ w ∈ u_ws RX1 TX1 10, w ∈ wsX1_hasEndedParent := by decide +kernel
theorem hk_X1_hasEndedParent_f37 : (.fieldLink RX1 37 "Callgate$Caller" "book" "LCallgate$Book;" : Cond) ∈ wsX1_hasEndedParent := by decide +kernel
theorem hk_X1_hasEndedParent_iX0 : (.initialized RX0 : Cond) ∈ wsX1_hasEndedParent := by decide +kernel
theorem hk_X1_hasEndedParent_nX0_has : (.instanceMethod yX0_has : Cond) ∈ wsX1_hasEndedParent := by decide +kernel
theorem hk_X1_hasEndedParent_sX0_has : (.selects RX0 yX0_has yX0_has : Cond) ∈ wsX1_hasEndedParent := by decide +kernel
theorem hk_X1_hasEndedParent_f15 : (.fieldLink RX1 15 "Callgate$Caller" "outcomes" "[I" : Cond) ∈ wsX1_hasEndedParent := by decide +kernel
set_option maxHeartbeats 4000000 in
set_option maxRecDepth 100000 in
theorem c_X1_hasEndedParent (l : Launch) (G : va_G) (cI : ClassId) (a b d : Nat → Nat) (pa : Fn) (oc : Fn) (cv : Fn) (rq : Fn) (la : Fn) (rc : Fn) (su : Fn) (bu : Int32) (me : Fn) (ar : Fn) (dl : Fn) (n : Nat) (ki : Fn) (ow : Fn) (mr : Fn) (va : Fn) (fi : Nat) (sz : Nat) (k : Nat) (hk : k < 40) (hn : n ≤ 40) (hf : fi < 40) (hs : sz ≤ 40) (zz : Nat) : Met l yX1_hasEndedParent wsX1_hasEndedParent ({ frames := 1, cells := 0, slots := 0, locals := 21 }) (va_Pc [.ref (a 0), .int (nI k)] (kPre G cI [(a 0, .inr (1, [.ref (b 0), .ref (d 0), .ref (a 1), .ref (a 2), .ref (a 3), .ref (a 4), .ref (a 5), .ref (a 6), .ref (a 7), .int bu])), (a 1, .inl (cI, 40, .inl pa)), (a 2, .inl (cI, 40, .inl oc)), (a 3, .inl (cI, 40, .inl cv)), (a 4, .inl (cI, 40, .inl rq)), (a 5, .inl (cI, 40, .inl la)), (a 6, .inl (cI, 40, .inl rc)), (a 7, .inl (cI, 40, .inl su)), (b 0, .inr (0, [.ref (b 1), .ref (b 2), .ref (b 3), .int (nI n)])), (b 1, .inl (cI, 40, .inl me)), (b 2, .inl (cI, 40, .inl ar)), (b 3, .inl (cI, 40, .inl dl)), (d 0, .inr (2, [.ref (d 1), .ref (d 2), .ref (d 3), .ref (d 4), .int (nI fi), .int (nI sz)])), (d 1, .inl (cI, 40, .inl ki)), (d 2, .inl (cI, 40, .inl ow)), (d 3, .inl (cI, 40, .inl mr)), (d 4, .inl (cI, 40, .inl va))] zz)) (va_Qi (fun (r : Int32) (u : Unit) => (r = if k_hep pa oc n k = true then nI 1 else nI 0)) (fun (u : Unit) t => kQ G [(a 0, .inr (1, [.ref (b 0), .ref (d 0), .ref (a 1), .ref (a 2), .ref (a 3), .ref (a 4), .ref (a 5), .ref (a 6), .ref (a 7), .int bu])), (a 1, .inl (cI, 40, .inl pa)), (a 2, .inl (cI, 40, .inl oc)), (a 3, .inl (cI, 40, .inl cv)), (a 4, .inl (cI, 40, .inl rq)), (a 5, .inl (cI, 40, .inl la)), (a 6, .inl (cI, 40, .inl rc)), (a 7, .inl (cI, 40, .inl su)), (b 0, .inr (0, [.ref (b 1), .ref (b 2), .ref (b 3), .int (nI n)])), (b 1, .inl (cI, 40, .inl me)), (b 2, .inl (cI, 40, .inl ar)), (b 3, .inl (cI, 40, .inl dl)), (d 0, .inr (2, [.ref (d 1), .ref (d 2), .ref (d 3), .ref (d 4), .int (nI fi), .int (nI sz)])), (d 1, .inl (cI, 40, .inl ki)), (d 2, .inl (cI, 40, .inl ow)), (d 3, .inl (cI, 40, .inl mr)), (d 4, .inl (cI, 40, .inl va))] (va_A [(a 0, .inr (1, [.ref (b 0), .ref (d 0), .ref (a 1), .ref (a 2), .ref (a 3), .ref (a 4), .ref (a 5), .ref (a 6), .ref (a 7), .int bu])), (a 1, .inl (cI, 40, .inl pa)), (a 2, .inl (cI, 40, .inl oc)), (a 3, .inl (cI, 40, .inl cv)), (a 4, .inl (cI, 40, .inl rq)), (a 5, .inl (cI, 40, .inl la)), (a 6, .inl (cI, 40, .inl rc)), (a 7, .inl (cI, 40, .inl su)), (b 0, .inr (0, [.ref (b 1), .ref (b 2), .ref (b 3), .int (nI n)])), (b 1, .inl (cI, 40, .inl me)), (b 2, .inl (cI, 40, .inl ar)), (b 3, .inl (cI, 40, .inl dl)), (d 0, .inr (2, [.ref (d 1), .ref (d 2), .ref (d 3), .ref (d 4), .int (nI fi), .int (nI sz)])), (d 1, .inl (cI, 40, .inl ki)), (d 2, .inl (cI, 40, .inl ow)), (d 3, .inl (cI, 40, .inl mr)), (d 4, .inl (cI, 40, .inl va))] zz) t) (va_A [(a 0, .inr (1, [.ref (b 0), .ref (d 0), .ref (a 1), .ref (a 2), .ref (a 3), .ref (a 4), .ref (a 5), .ref (a 6), .ref (a 7), .int bu])), (a 1, .inl (cI, 40, .inl pa)), (a 2, .inl (cI, 40, .inl oc)), (a 3, .inl (cI, 40, .inl cv)), (a 4, .inl (cI, 40, .inl rq)), (a 5, .inl (cI, 40, .inl la)), (a 6, .inl (cI, 40, .inl rc)), (a 7, .inl (cI, 40, .inl su)), (b 0, .inr (0, [.ref (b 1), .ref (b 2), .ref (b 3), .int (nI n)])), (b 1, .inl (cI, 40, .inl me)), (b 2, .inl (cI, 40, .inl ar)), (b 3, .inl (cI, 40, .inl dl)), (d 0, .inr (2, [.ref (d 1), .ref (d 2), .ref (d 3), .ref (d 4), .int (nI fi), .int (nI sz)])), (d 1, .inl (cI, 40, .inl ki)), (d 2, .inl (cI, 40, .inl ow)), (d 3, .inl (cI, 40, .inl mr)), (d 4, .inl (cI, 40, .inl va))] zz)) 0 0 (va_A [(a 0, .inr (1, [.ref (b 0), .ref (d 0), .ref (a 1), .ref (a 2), .ref (a 3), .ref (a 4), .ref (a 5), .ref (a 6), .ref (a 7), .int bu])), (a 1, .inl (cI, 40, .inl pa)), (a 2, .inl (cI, 40, .inl oc)), (a 3, .inl (cI, 40, .inl cv)), (a 4, .inl (cI, 40, .inl rq)), (a 5, .inl (cI, 40, .inl la)), (a 6, .inl (cI, 40, .inl rc)), (a 7, .inl (cI, 40, .inl su)), (b 0, .inr (0, [.ref (b 1), .ref (b 2), .ref (b 3), .int (nI n)])), (b 1, .inl (cI, 40, .inl me)), (b 2, .inl (cI, 40, .inl ar)), (b 3, .inl (cI, 40, .inl dl)), (d 0, .inr (2, [.ref (d 1), .ref (d 2), .ref (d 3), .ref (d 4), .int (nI fi), .int (nI sz)])), (d 1, .inl (cI, 40, .inl ki)), (d 2, .inl (cI, 40, .inl ow)), (d 3, .inl (cI, 40, .inl mr)), (d 4, .inl (cI, 40, .inl va))] zz) := by
  refine Met.ofW (cc := cX1_hasEndedParent) (maxL := 3) (ret := (some .boolean)) (by decide) rfl ?_
  intro p e s m args below meth c s₁ B hml hv
  obtain ⟨rfl, hsz, hP, hK, hD0, hN⟩ := hv
  have hx := B.exec
  have hb := B.bytes
  have hr := B.returns
  have hts := atoms_spec (ws := wsX1_hasEndedParent) B.pre
  have hown : s.vm.findClass RX1 = some m.cls := findClass_of_methodNamed B.named
  have hlocks := B.notSynchronized
  subst hsz
  have hD := hD0.self (sz := s.heap.size)
  generalize hAe : va_A [(a 0, .inr (1, [.ref (b 0), .ref (d 0), .ref (a 1), .ref (a 2), .ref (a 3), .ref (a 4), .ref (a 5), .ref (a 6), .ref (a 7), .int bu])), (a 1, .inl (cI, 40, .inl pa)), (a 2, .inl (cI, 40, .inl oc)), (a 3, .inl (cI, 40, .inl cv)), (a 4, .inl (cI, 40, .inl rq)), (a 5, .inl (cI, 40, .inl la)), (a 6, .inl (cI, 40, .inl rc)), (a 7, .inl (cI, 40, .inl su)), (b 0, .inr (0, [.ref (b 1), .ref (b 2), .ref (b 3), .int (nI n)])), (b 1, .inl (cI, 40, .inl me)), (b 2, .inl (cI, 40, .inl ar)), (b 3, .inl (cI, 40, .inl dl)), (d 0, .inr (2, [.ref (d 1), .ref (d 2), .ref (d 3), .ref (d 4), .int (nI fi), .int (nI sz)])), (d 1, .inl (cI, 40, .inl ki)), (d 2, .inl (cI, 40, .inl ow)), (d 3, .inl (cI, 40, .inl mr)), (d 4, .inl (cI, 40, .inl va))] s.heap.size = A at hD hN ⊢
  have hA : ∀ q : Nat, s.heap.size ≤ q → A q := fun q h => by rw [← hAe]; exact Or.inr h
  have hS : va_S A s.heap s.heap [] := va_S.rf
  have hl := lv_entry ([.ref (a 0), .int (nI k)]) (n := 3) (Nat.le_of_ble_eq_true rfl)
  rw [lg_entry_eq]
  generalize (lg_sl ([.ref (a 0), .int (nI k)]) ++ List.replicate (3 - (lg_sl ([.ref (a 0), .int (nI k)])).length) Slot.unset).toArray = ls at hl ⊢
  have hl : lv_has ls 3 [(0, .ref (a 0)), (1, .int (nI k))] := hl
  have hP : va_P G vwCl [(a 0, .inr (1, [.ref (b 0), .ref (d 0), .ref (a 1), .ref (a 2), .ref (a 3), .ref (a 4), .ref (a 5), .ref (a 6), .ref (a 7), .int bu])), (a 1, .inl (cI, 40, .inl pa)), (a 2, .inl (cI, 40, .inl oc)), (a 3, .inl (cI, 40, .inl cv)), (a 4, .inl (cI, 40, .inl rq)), (a 5, .inl (cI, 40, .inl la)), (a 6, .inl (cI, 40, .inl rc)), (a 7, .inl (cI, 40, .inl su)), (b 0, .inr (0, [.ref (b 1), .ref (b 2), .ref (b 3), .int (nI n)])), (b 1, .inl (cI, 40, .inl me)), (b 2, .inl (cI, 40, .inl ar)), (b 3, .inl (cI, 40, .inl dl)), (d 0, .inr (2, [.ref (d 1), .ref (d 2), .ref (d 3), .ref (d 4), .int (nI fi), .int (nI sz)])), (d 1, .inl (cI, 40, .inl ki)), (d 2, .inl (cI, 40, .inl ow)), (d 3, .inl (cI, 40, .inl mr)), (d 4, .inl (cI, 40, .inl va))] s.heap := hP
  obtain ⟨H, hH⟩ : ∃ H, H = s.heap := ⟨_, rfl⟩
  rw [← hH] at hP
  have hS : va_S A s.heap H [] := by rw [hH]; exact hS
  show W _ _ _ _ _ _ _ _ _ _ s.heap _ _ _ _ _
  rw [← hH]
  obtain ⟨locs, hlo⟩ : ∃ z : List Loc, z = [] := ⟨_, rfl⟩
  rw [← hlo] at hS ⊢
  refine lv_aload_n hx hb dX1_hasEndedParent_0 rfl (lv_at hl 0 rfl) ?_
  refine va_get (D := G) (ci := 1) (v := .ref (a 1)) (C := RX1) (T := TX1) (N := 10) hx hb hts hi_X1_hasEndedParent_X1 hown hK hP 0 rfl rfl 2 (by decide) (hts _ hk_X1_hasEndedParent_f9) (fun _ h9 => h9) rfl dX1_hasEndedParent_1 ?_
  refine lv_iload_n hx hb dX1_hasEndedParent_4 rfl (lv_at hl 1 rfl) ?_
  refine gz_iald hx hb hK hP 1 rfl rfl (k := k) rfl (by omega) (by decide) dX1_hasEndedParent_5 ?_
  refine lv_istore_n (lv' := [(2, .int (pa k)), (0, .ref (a 0)), (1, .int (nI k))]) hx hb dX1_hasEndedParent_6 rfl hl (by decide) rfl (fun ls hl => ?_)
  refine lv_aload_n hx hb dX1_hasEndedParent_7 rfl (lv_at hl 1 rfl) ?_
  refine va_get (D := G) (ci := 1) (v := .ref (b 0)) (C := RX1) (T := TX1) (N := 10) hx hb hts hi_X1_hasEndedParent_X1 hown hK hP 0 rfl rfl 0 (by decide) (hts _ hk_X1_hasEndedParent_f37) (fun _ h9 => h9) rfl dX1_hasEndedParent_8 ?_
  refine lv_iload_n hx hb dX1_hasEndedParent_11 rfl (lv_at hl 0 rfl) ?_
  refine k_calli (S := Unit) (wc := [(b 0, .inr (0, [.ref (b 1), .ref (b 2), .ref (b 3), .int (nI n)])), (b 1, .inl (cI, 40, .inl me)), (b 2, .inl (cI, 40, .inl ar)), (b 3, .inl (cI, 40, .inl dl))]) (wr := [(a 0, .inr (1, [.ref (b 0), .ref (d 0), .ref (a 1), .ref (a 2), .ref (a 3), .ref (a 4), .ref (a 5), .ref (a 6), .ref (a 7), .int bu])), (a 1, .inl (cI, 40, .inl pa)), (a 2, .inl (cI, 40, .inl oc)), (a 3, .inl (cI, 40, .inl cv)), (a 4, .inl (cI, 40, .inl rq)), (a 5, .inl (cI, 40, .inl la)), (a 6, .inl (cI, 40, .inl rc)), (a 7, .inl (cI, 40, .inl su)), (d 0, .inr (2, [.ref (d 1), .ref (d 2), .ref (d 3), .ref (d 4), .int (nI fi), .int (nI sz)])), (d 1, .inl (cI, 40, .inl ki)), (d 2, .inl (cI, 40, .inl ow)), (d 3, .inl (cI, 40, .inl mr)), (d 4, .inl (cI, 40, .inl va))]) (w1 := fun u => [(b 0, .inr (0, [.ref (b 1), .ref (b 2), .ref (b 3), .int (nI n)])), (b 1, .inl (cI, 40, .inl me)), (b 2, .inl (cI, 40, .inl ar)), (b 3, .inl (cI, 40, .inl dl))]) (w2 := fun u => [(a 0, .inr (1, [.ref (b 0), .ref (d 0), .ref (a 1), .ref (a 2), .ref (a 3), .ref (a 4), .ref (a 5), .ref (a 6), .ref (a 7), .int bu])), (a 1, .inl (cI, 40, .inl pa)), (a 2, .inl (cI, 40, .inl oc)), (a 3, .inl (cI, 40, .inl cv)), (a 4, .inl (cI, 40, .inl rq)), (a 5, .inl (cI, 40, .inl la)), (a 6, .inl (cI, 40, .inl rc)), (a 7, .inl (cI, 40, .inl su)), (b 0, .inr (0, [.ref (b 1), .ref (b 2), .ref (b 3), .int (nI n)])), (b 1, .inl (cI, 40, .inl me)), (b 2, .inl (cI, 40, .inl ar)), (b 3, .inl (cI, 40, .inl dl)), (d 0, .inr (2, [.ref (d 1), .ref (d 2), .ref (d 3), .ref (d 4), .int (nI fi), .int (nI sz)])), (d 1, .inl (cI, 40, .inl ki)), (d 2, .inl (cI, 40, .inl ow)), (d 3, .inl (cI, 40, .inl mr)), (d 4, .inl (cI, 40, .inl va))]) (va_runVN (As := [.int (pa k)]) (rest := []) ⟨hx, hb, hml, hown, hts⟩ (c_X0_has l G cI b me ar dl n (pa k) (by first | omega | assumption) H.size) ⟨va_cnB (host := RX4) 1 hts gX1_hasEndedParent_X0_has_n68 rfl rfl rfl (hN.1 _ (List.mem_of_getElem? (i := 32) rfl)) (hts _ hk_X1_hasEndedParent_iX0) (by decide +kernel) ⟨Nat.le_of_ble_eq_true rfl, Nat.le_of_ble_eq_true rfl⟩, (hts _ hk_X1_hasEndedParent_nX0_has), (hts _ hk_X1_hasEndedParent_sX0_has)⟩ ⟨kPre.blind, va_recv hK hP (ci := 0) (q0 := 8) rfl rfl, kPre.at hP hK hD hS hA hN [8, 9, 10, 11] rfl rfl⟩ rfl rfl hl.1 rfl (lv_room (Nat.le_of_ble_eq_true rfl)) dX1_hasEndedParent_12 ⟨Nat.le_of_ble_eq_true rfl, Nat.le_of_ble_eq_true rfl⟩) hP hD hS hA [8, 9, 10, 11] [0, 1, 2, 3, 4, 5, 6, 7, 12, 13, 14, 15, 16] [0, 1, 2, 3, 4, 5, 6, 7, 13, 14, 15, 16, 8, 9, 10, 11, 12] rfl rfl ⟨rfl, by decide, rfl⟩ (fun _ => rfl) (fun r_1 u H locs hw_1 hP hD hS => ?_)
  have hP : va_P G vwCl [(a 0, .inr (1, [.ref (b 0), .ref (d 0), .ref (a 1), .ref (a 2), .ref (a 3), .ref (a 4), .ref (a 5), .ref (a 6), .ref (a 7), .int bu])), (a 1, .inl (cI, 40, .inl pa)), (a 2, .inl (cI, 40, .inl oc)), (a 3, .inl (cI, 40, .inl cv)), (a 4, .inl (cI, 40, .inl rq)), (a 5, .inl (cI, 40, .inl la)), (a 6, .inl (cI, 40, .inl rc)), (a 7, .inl (cI, 40, .inl su)), (b 0, .inr (0, [.ref (b 1), .ref (b 2), .ref (b 3), .int (nI n)])), (b 1, .inl (cI, 40, .inl me)), (b 2, .inl (cI, 40, .inl ar)), (b 3, .inl (cI, 40, .inl dl)), (d 0, .inr (2, [.ref (d 1), .ref (d 2), .ref (d 3), .ref (d 4), .int (nI fi), .int (nI sz)])), (d 1, .inl (cI, 40, .inl ki)), (d 2, .inl (cI, 40, .inl ow)), (d 3, .inl (cI, 40, .inl mr)), (d 4, .inl (cI, 40, .inl va))] H := hP
  have hD : va_D A [(a 0, .inr (1, [.ref (b 0), .ref (d 0), .ref (a 1), .ref (a 2), .ref (a 3), .ref (a 4), .ref (a 5), .ref (a 6), .ref (a 7), .int bu])), (a 1, .inl (cI, 40, .inl pa)), (a 2, .inl (cI, 40, .inl oc)), (a 3, .inl (cI, 40, .inl cv)), (a 4, .inl (cI, 40, .inl rq)), (a 5, .inl (cI, 40, .inl la)), (a 6, .inl (cI, 40, .inl rc)), (a 7, .inl (cI, 40, .inl su)), (b 0, .inr (0, [.ref (b 1), .ref (b 2), .ref (b 3), .int (nI n)])), (b 1, .inl (cI, 40, .inl me)), (b 2, .inl (cI, 40, .inl ar)), (b 3, .inl (cI, 40, .inl dl)), (d 0, .inr (2, [.ref (d 1), .ref (d 2), .ref (d 3), .ref (d 4), .int (nI fi), .int (nI sz)])), (d 1, .inl (cI, 40, .inl ki)), (d 2, .inl (cI, 40, .inl ow)), (d 3, .inl (cI, 40, .inl mr)), (d 4, .inl (cI, 40, .inl va))] := hD
  refine lv_if_eq (tgt := 32) hx hb dX1_hasEndedParent_15 (by decide) (fun c_2 => ?_) (fun c_2 => ?_)
  · have g_2 := k_bool0 hw_1 c_2
    refine lv_iconst (v := nI 0) hx hb dX1_hasEndedParent_32 (by decide +kernel) ?_
    have hS9 := hS.2.2
    have hq9 : ((nI 0) = if k_hep pa oc n k = true then nI 1 else nI 0) := by simp only [k_hep, ↓reduceIte, eq_self, nI_10, and_true, true_and, and_false, false_and, not_true_eq_false, not_false_eq_true, Bool.and_true, Bool.true_and, Bool.and_false, Bool.false_and, decide_true, decide_false, Bool.false_eq_true, eq_false g_2]
    exact W.zret (v := nI 0) hx hb hr rfl (fun t ht hW => ⟨⟨nI 0, (), rfl, hq9, by rw [ht]; exact hP, hD⟩, hS.F ht⟩) hS9 dX1_hasEndedParent_33
  · have g_2 := k_bool1 hw_1 c_2
    obtain ⟨j, hj, ej⟩ := k_has g_2 (by omega)
    have e2 : (pa k).toNatClampNeg = j := by rw [ej]; exact nI_clamp (by omega)
    refine lv_aload_n hx hb dX1_hasEndedParent_18 rfl (lv_at hl 1 rfl) ?_
    refine va_get (D := G) (ci := 1) (v := .ref (a 2)) (C := RX1) (T := TX1) (N := 10) hx hb hts hi_X1_hasEndedParent_X1 hown hK hP 0 rfl rfl 3 (by decide) (hts _ hk_X1_hasEndedParent_f15) (fun _ h9 => h9) rfl dX1_hasEndedParent_19 ?_
    refine lv_iload_n hx hb dX1_hasEndedParent_22 rfl (lv_at hl 0 rfl) ?_
    refine gz_iald hx hb hK hP 2 rfl rfl (k := j) ej (by omega) (by decide) dX1_hasEndedParent_23 ?_
    refine lv_iconst (v := (-1)) hx hb dX1_hasEndedParent_24 (by decide +kernel) ?_
    refine lv_icmp_eq (tgt := 32) hx hb dX1_hasEndedParent_25 (by decide) (fun c_3 => ?_) (fun c_3 => ?_)
    · skip
      refine lv_iconst (v := nI 0) hx hb dX1_hasEndedParent_32 (by decide +kernel) ?_
      have hS9 := hS.2.2
      have hq9 : ((nI 0) = if k_hep pa oc n k = true then nI 1 else nI 0) := by simp only [k_hep, ↓reduceIte, eq_self, nI_10, and_true, true_and, and_false, false_and, not_true_eq_false, not_false_eq_true, Bool.and_true, Bool.true_and, Bool.and_false, Bool.false_and, decide_true, decide_false, Bool.false_eq_true, eq_true g_2, e2, eq_true c_3]
      exact W.zret (v := nI 0) hx hb hr rfl (fun t ht hW => ⟨⟨nI 0, (), rfl, hq9, by rw [ht]; exact hP, hD⟩, hS.F ht⟩) hS9 dX1_hasEndedParent_33
    · skip
      refine lv_iconst (v := nI 1) hx hb dX1_hasEndedParent_28 (by decide +kernel) ?_
      refine lv_goto (tgt := 33) hx hb dX1_hasEndedParent_29 (by decide) ?_
      have hS9 := hS.2.2
      have hq9 : ((nI 1) = if k_hep pa oc n k = true then nI 1 else nI 0) := by simp only [k_hep, ↓reduceIte, eq_self, nI_10, and_true, true_and, and_false, false_and, not_true_eq_false, not_false_eq_true, Bool.and_true, Bool.true_and, Bool.and_false, Bool.false_and, decide_true, decide_false, Bool.false_eq_true, eq_true g_2, e2, eq_false c_3]
      exact W.zret (v := nI 1) hx hb hr rfl (fun t ht hW => ⟨⟨nI 1, (), rfl, hq9, by rw [ht]; exact hP, hD⟩, hS.F ht⟩) hS9 dX1_hasEndedParent_33

theorem hk_X1_cancelOrphans_f37 : (.fieldLink RX1 37 "Callgate$Caller" "book" "LCallgate$Book;" : Cond) ∈ wsX1_cancelOrphans := by decide +kernel
theorem hi_X1_cancelOrphans_X1 : ∀ w ∈ u_ws RX1 TX1 10, w ∈ wsX1_cancelOrphans := by decide +kernel
theorem hi_X1_cancelOrphans_X0 : ∀ w ∈ u_ws RX0 TX0 4, w ∈ wsX1_cancelOrphans := by decide +kernel
theorem hk_X1_cancelOrphans_f15 : (.fieldLink RX1 15 "Callgate$Caller" "outcomes" "[I" : Cond) ∈ wsX1_cancelOrphans := by decide +kernel
theorem hk_X1_cancelOrphans_f41 : (.fieldLink RX1 41 "Callgate$Caller" "toServer" "LCallgate$Lane;" : Cond) ∈ wsX1_cancelOrphans := by decide +kernel
theorem hk_X1_cancelOrphans_iX2 : (.initialized RX2 : Cond) ∈ wsX1_cancelOrphans := by decide +kernel
theorem hk_X1_cancelOrphans_nX2_send : (.instanceMethod yX2_send : Cond) ∈ wsX1_cancelOrphans := by decide +kernel
theorem hk_X1_cancelOrphans_sX2_send : (.selects RX2 yX2_send yX2_send : Cond) ∈ wsX1_cancelOrphans := by decide +kernel
set_option maxHeartbeats 4000000 in
set_option maxRecDepth 100000 in
theorem c_X1_cancelOrphans (l : Launch) (G : va_G) (cI : ClassId) (a b d : Nat → Nat) (pa : Fn) (oc : Fn) (cv : Fn) (rq : Fn) (la : Fn) (rc : Fn) (su : Fn) (bu : Int32) (me : Fn) (ar : Fn) (dl : Fn) (n : Nat) (ki : Fn) (ow : Fn) (mr : Fn) (va : Fn) (fi : Nat) (sz : Nat) (k : Nat) (hk : k < n) (hn : n ≤ 40) (hf : fi < 40) (hs : sz ≤ 40) (zz : Nat) : Met l yX1_cancelOrphans wsX1_cancelOrphans ({ frames := 3, cells := 0, slots := 0, locals := 68 }) (va_Pc [.ref (a 0), .int (nI k)] (kPre G cI [(a 0, .inr (1, [.ref (b 0), .ref (d 0), .ref (a 1), .ref (a 2), .ref (a 3), .ref (a 4), .ref (a 5), .ref (a 6), .ref (a 7), .int bu])), (a 1, .inl (cI, 40, .inl pa)), (a 2, .inl (cI, 40, .inl oc)), (a 3, .inl (cI, 40, .inl cv)), (a 4, .inl (cI, 40, .inl rq)), (a 5, .inl (cI, 40, .inl la)), (a 6, .inl (cI, 40, .inl rc)), (a 7, .inl (cI, 40, .inl su)), (b 0, .inr (0, [.ref (b 1), .ref (b 2), .ref (b 3), .int (nI n)])), (b 1, .inl (cI, 40, .inl me)), (b 2, .inl (cI, 40, .inl ar)), (b 3, .inl (cI, 40, .inl dl)), (d 0, .inr (2, [.ref (d 1), .ref (d 2), .ref (d 3), .ref (d 4), .int (nI fi), .int (nI sz)])), (d 1, .inl (cI, 40, .inl ki)), (d 2, .inl (cI, 40, .inl ow)), (d 3, .inl (cI, 40, .inl mr)), (d 4, .inl (cI, 40, .inl va))] zz)) (va_Qi (fun (r : Int32) (u : CalS × LaneS) => ((u.1, u.2, r) = k_orph n k (pa, oc, cv, rq, la, rc, su, bu) (ki, ow, mr, va, fi, sz)) ∧ u.2.2.2.2.2.1 < 40 ∧ u.2.2.2.2.2.2 ≤ 40) (fun (u : CalS × LaneS) t => kQ G [(a 0, .inr (1, [.ref (b 0), .ref (d 0), .ref (a 1), .ref (a 2), .ref (a 3), .ref (a 4), .ref (a 5), .ref (a 6), .ref (a 7), .int u.1.2.2.2.2.2.2.2])), (a 1, .inl (cI, 40, .inl u.1.1)), (a 2, .inl (cI, 40, .inl u.1.2.1)), (a 3, .inl (cI, 40, .inl u.1.2.2.1)), (a 4, .inl (cI, 40, .inl u.1.2.2.2.1)), (a 5, .inl (cI, 40, .inl u.1.2.2.2.2.1)), (a 6, .inl (cI, 40, .inl u.1.2.2.2.2.2.1)), (a 7, .inl (cI, 40, .inl u.1.2.2.2.2.2.2.1)), (b 0, .inr (0, [.ref (b 1), .ref (b 2), .ref (b 3), .int (nI n)])), (b 1, .inl (cI, 40, .inl me)), (b 2, .inl (cI, 40, .inl ar)), (b 3, .inl (cI, 40, .inl dl)), (d 0, .inr (2, [.ref (d 1), .ref (d 2), .ref (d 3), .ref (d 4), .int (nI u.2.2.2.2.2.1), .int (nI u.2.2.2.2.2.2)])), (d 1, .inl (cI, 40, .inl u.2.1)), (d 2, .inl (cI, 40, .inl u.2.2.1)), (d 3, .inl (cI, 40, .inl u.2.2.2.1)), (d 4, .inl (cI, 40, .inl u.2.2.2.2.1))] (va_A [(a 0, .inr (1, [.ref (b 0), .ref (d 0), .ref (a 1), .ref (a 2), .ref (a 3), .ref (a 4), .ref (a 5), .ref (a 6), .ref (a 7), .int bu])), (a 1, .inl (cI, 40, .inl pa)), (a 2, .inl (cI, 40, .inl oc)), (a 3, .inl (cI, 40, .inl cv)), (a 4, .inl (cI, 40, .inl rq)), (a 5, .inl (cI, 40, .inl la)), (a 6, .inl (cI, 40, .inl rc)), (a 7, .inl (cI, 40, .inl su)), (b 0, .inr (0, [.ref (b 1), .ref (b 2), .ref (b 3), .int (nI n)])), (b 1, .inl (cI, 40, .inl me)), (b 2, .inl (cI, 40, .inl ar)), (b 3, .inl (cI, 40, .inl dl)), (d 0, .inr (2, [.ref (d 1), .ref (d 2), .ref (d 3), .ref (d 4), .int (nI fi), .int (nI sz)])), (d 1, .inl (cI, 40, .inl ki)), (d 2, .inl (cI, 40, .inl ow)), (d 3, .inl (cI, 40, .inl mr)), (d 4, .inl (cI, 40, .inl va))] zz) t) (va_A [(a 0, .inr (1, [.ref (b 0), .ref (d 0), .ref (a 1), .ref (a 2), .ref (a 3), .ref (a 4), .ref (a 5), .ref (a 6), .ref (a 7), .int bu])), (a 1, .inl (cI, 40, .inl pa)), (a 2, .inl (cI, 40, .inl oc)), (a 3, .inl (cI, 40, .inl cv)), (a 4, .inl (cI, 40, .inl rq)), (a 5, .inl (cI, 40, .inl la)), (a 6, .inl (cI, 40, .inl rc)), (a 7, .inl (cI, 40, .inl su)), (b 0, .inr (0, [.ref (b 1), .ref (b 2), .ref (b 3), .int (nI n)])), (b 1, .inl (cI, 40, .inl me)), (b 2, .inl (cI, 40, .inl ar)), (b 3, .inl (cI, 40, .inl dl)), (d 0, .inr (2, [.ref (d 1), .ref (d 2), .ref (d 3), .ref (d 4), .int (nI fi), .int (nI sz)])), (d 1, .inl (cI, 40, .inl ki)), (d 2, .inl (cI, 40, .inl ow)), (d 3, .inl (cI, 40, .inl mr)), (d 4, .inl (cI, 40, .inl va))] zz)) 0 0 (va_A [(a 0, .inr (1, [.ref (b 0), .ref (d 0), .ref (a 1), .ref (a 2), .ref (a 3), .ref (a 4), .ref (a 5), .ref (a 6), .ref (a 7), .int bu])), (a 1, .inl (cI, 40, .inl pa)), (a 2, .inl (cI, 40, .inl oc)), (a 3, .inl (cI, 40, .inl cv)), (a 4, .inl (cI, 40, .inl rq)), (a 5, .inl (cI, 40, .inl la)), (a 6, .inl (cI, 40, .inl rc)), (a 7, .inl (cI, 40, .inl su)), (b 0, .inr (0, [.ref (b 1), .ref (b 2), .ref (b 3), .int (nI n)])), (b 1, .inl (cI, 40, .inl me)), (b 2, .inl (cI, 40, .inl ar)), (b 3, .inl (cI, 40, .inl dl)), (d 0, .inr (2, [.ref (d 1), .ref (d 2), .ref (d 3), .ref (d 4), .int (nI fi), .int (nI sz)])), (d 1, .inl (cI, 40, .inl ki)), (d 2, .inl (cI, 40, .inl ow)), (d 3, .inl (cI, 40, .inl mr)), (d 4, .inl (cI, 40, .inl va))] zz) := by
  refine Met.ofW (cc := cX1_cancelOrphans) (maxL := 4) (ret := (some .int)) (by decide) rfl ?_
  intro p e s m args below meth c s₁ B hml hv
  obtain ⟨rfl, hsz, hP, hK, hD0, hN⟩ := hv
  have hx := B.exec
  have hb := B.bytes
  have hr := B.returns
  have hts := atoms_spec (ws := wsX1_cancelOrphans) B.pre
  have hown : s.vm.findClass RX1 = some m.cls := findClass_of_methodNamed B.named
  have hlocks := B.notSynchronized
  subst hsz
  have hD := hD0.self (sz := s.heap.size)
  generalize hAe : va_A [(a 0, .inr (1, [.ref (b 0), .ref (d 0), .ref (a 1), .ref (a 2), .ref (a 3), .ref (a 4), .ref (a 5), .ref (a 6), .ref (a 7), .int bu])), (a 1, .inl (cI, 40, .inl pa)), (a 2, .inl (cI, 40, .inl oc)), (a 3, .inl (cI, 40, .inl cv)), (a 4, .inl (cI, 40, .inl rq)), (a 5, .inl (cI, 40, .inl la)), (a 6, .inl (cI, 40, .inl rc)), (a 7, .inl (cI, 40, .inl su)), (b 0, .inr (0, [.ref (b 1), .ref (b 2), .ref (b 3), .int (nI n)])), (b 1, .inl (cI, 40, .inl me)), (b 2, .inl (cI, 40, .inl ar)), (b 3, .inl (cI, 40, .inl dl)), (d 0, .inr (2, [.ref (d 1), .ref (d 2), .ref (d 3), .ref (d 4), .int (nI fi), .int (nI sz)])), (d 1, .inl (cI, 40, .inl ki)), (d 2, .inl (cI, 40, .inl ow)), (d 3, .inl (cI, 40, .inl mr)), (d 4, .inl (cI, 40, .inl va))] s.heap.size = A at hD hN ⊢
  have hA : ∀ q : Nat, s.heap.size ≤ q → A q := fun q h => by rw [← hAe]; exact Or.inr h
  have hS : va_S A s.heap s.heap [] := va_S.rf
  have hl := lv_entry ([.ref (a 0), .int (nI k)]) (n := 4) (Nat.le_of_ble_eq_true rfl)
  rw [lg_entry_eq]
  generalize (lg_sl ([.ref (a 0), .int (nI k)]) ++ List.replicate (4 - (lg_sl ([.ref (a 0), .int (nI k)])).length) Slot.unset).toArray = ls at hl ⊢
  have hl : lv_has ls 4 [(0, .ref (a 0)), (1, .int (nI k))] := hl
  have hP : va_P G vwCl [(a 0, .inr (1, [.ref (b 0), .ref (d 0), .ref (a 1), .ref (a 2), .ref (a 3), .ref (a 4), .ref (a 5), .ref (a 6), .ref (a 7), .int bu])), (a 1, .inl (cI, 40, .inl pa)), (a 2, .inl (cI, 40, .inl oc)), (a 3, .inl (cI, 40, .inl cv)), (a 4, .inl (cI, 40, .inl rq)), (a 5, .inl (cI, 40, .inl la)), (a 6, .inl (cI, 40, .inl rc)), (a 7, .inl (cI, 40, .inl su)), (b 0, .inr (0, [.ref (b 1), .ref (b 2), .ref (b 3), .int (nI n)])), (b 1, .inl (cI, 40, .inl me)), (b 2, .inl (cI, 40, .inl ar)), (b 3, .inl (cI, 40, .inl dl)), (d 0, .inr (2, [.ref (d 1), .ref (d 2), .ref (d 3), .ref (d 4), .int (nI fi), .int (nI sz)])), (d 1, .inl (cI, 40, .inl ki)), (d 2, .inl (cI, 40, .inl ow)), (d 3, .inl (cI, 40, .inl mr)), (d 4, .inl (cI, 40, .inl va))] s.heap := hP
  obtain ⟨H, hH⟩ : ∃ H, H = s.heap := ⟨_, rfl⟩
  rw [← hH] at hP
  have hS : va_S A s.heap H [] := by rw [hH]; exact hS
  show W _ _ _ _ _ _ _ _ _ _ s.heap _ _ _ _ _
  rw [← hH]
  obtain ⟨locs, hlo⟩ : ∃ z : List Loc, z = [] := ⟨_, rfl⟩
  rw [← hlo] at hS ⊢
  refine lv_iconst (v := nI 0) hx hb dX1_cancelOrphans_0 (by decide +kernel) ?_
  refine lv_istore_n (lv' := [(2, .int (nI 0)), (0, .ref (a 0)), (1, .int (nI k))]) hx hb dX1_cancelOrphans_1 rfl hl (by decide) rfl (fun ls hl => ?_)
  refine lv_iload_n hx hb dX1_cancelOrphans_2 rfl (lv_at hl 2 rfl) ?_
  refine lv_iconst (v := nI 1) hx hb dX1_cancelOrphans_3 (by decide +kernel) ?_
  refine lv_iadd hx hb dX1_cancelOrphans_4 ?_
  refine gz_top (nI_add _ _) ?_
  refine lv_istore_n (lv' := [(3, .int (nI (k + 1))), (2, .int (nI 0)), (0, .ref (a 0)), (1, .int (nI k))]) hx hb dX1_cancelOrphans_5 rfl hl (by decide) rfl (fun ls hl => ?_)
  refine k_loop (σ := Nat × Int32 × Fn × Fn × Fn × Fn × Fn × Nat × Nat) (I := fun x H locs ls => (x.1 ≤ n) ∧ (x.2.2.2.2.2.2.2.1 < 40) ∧ (x.2.2.2.2.2.2.2.2 ≤ 40) ∧ (it (k_orph1 n) (n - x.1) x.1 (((pa, x.2.2.1, cv, rq, la, rc, su, bu), (x.2.2.2.1, x.2.2.2.2.1, x.2.2.2.2.2.1, x.2.2.2.2.2.2.1, x.2.2.2.2.2.2.2.1, x.2.2.2.2.2.2.2.2), x.2.1) : CalS × LaneS × Int32) = k_orph n k (pa, oc, cv, rq, la, rc, su, bu) (ki, ow, mr, va, fi, sz)) ∧ va_P G vwCl [(a 0, .inr (1, [.ref (b 0), .ref (d 0), .ref (a 1), .ref (a 2), .ref (a 3), .ref (a 4), .ref (a 5), .ref (a 6), .ref (a 7), .int bu])), (a 1, .inl (cI, 40, .inl pa)), (a 2, .inl (cI, 40, .inl x.2.2.1)), (a 3, .inl (cI, 40, .inl cv)), (a 4, .inl (cI, 40, .inl rq)), (a 5, .inl (cI, 40, .inl la)), (a 6, .inl (cI, 40, .inl rc)), (a 7, .inl (cI, 40, .inl su)), (b 0, .inr (0, [.ref (b 1), .ref (b 2), .ref (b 3), .int (nI n)])), (b 1, .inl (cI, 40, .inl me)), (b 2, .inl (cI, 40, .inl ar)), (b 3, .inl (cI, 40, .inl dl)), (d 0, .inr (2, [.ref (d 1), .ref (d 2), .ref (d 3), .ref (d 4), .int (nI x.2.2.2.2.2.2.2.1), .int (nI x.2.2.2.2.2.2.2.2)])), (d 1, .inl (cI, 40, .inl x.2.2.2.1)), (d 2, .inl (cI, 40, .inl x.2.2.2.2.1)), (d 3, .inl (cI, 40, .inl x.2.2.2.2.2.1)), (d 4, .inl (cI, 40, .inl x.2.2.2.2.2.2.1))] H ∧ va_D A [(a 0, .inr (1, [.ref (b 0), .ref (d 0), .ref (a 1), .ref (a 2), .ref (a 3), .ref (a 4), .ref (a 5), .ref (a 6), .ref (a 7), .int bu])), (a 1, .inl (cI, 40, .inl pa)), (a 2, .inl (cI, 40, .inl x.2.2.1)), (a 3, .inl (cI, 40, .inl cv)), (a 4, .inl (cI, 40, .inl rq)), (a 5, .inl (cI, 40, .inl la)), (a 6, .inl (cI, 40, .inl rc)), (a 7, .inl (cI, 40, .inl su)), (b 0, .inr (0, [.ref (b 1), .ref (b 2), .ref (b 3), .int (nI n)])), (b 1, .inl (cI, 40, .inl me)), (b 2, .inl (cI, 40, .inl ar)), (b 3, .inl (cI, 40, .inl dl)), (d 0, .inr (2, [.ref (d 1), .ref (d 2), .ref (d 3), .ref (d 4), .int (nI x.2.2.2.2.2.2.2.1), .int (nI x.2.2.2.2.2.2.2.2)])), (d 1, .inl (cI, 40, .inl x.2.2.2.1)), (d 2, .inl (cI, 40, .inl x.2.2.2.2.1)), (d 3, .inl (cI, 40, .inl x.2.2.2.2.2.1)), (d 4, .inl (cI, 40, .inl x.2.2.2.2.2.2.1))] ∧ va_S A s.heap H locs ∧ lv_has ls 4 [(0, .ref (a 0)), (1, .int (nI k)), (2, .int x.2.1), (3, .int (nI x.1))]) (fun x => n - x.1) ?_ (k + 1, nI 0, oc, ki, ow, mr, va, fi, sz) H locs ls ⟨(by omega), (by omega), (by omega), rfl, hP, hD, hS, lv_sub hl [2, 3, 1, 0] rfl⟩
  intro x H locs ls hI ih
  obtain ⟨i, k1, oc1, ki1, ow1, mr1, va1, fi1, sz1⟩ := x
  obtain ⟨hi, hf1, hs1, hv, hP, hD, hS, hl⟩ := hI
  have hi : i ≤ n := hi
  have hf1 : fi1 < 40 := hf1
  have hs1 : sz1 ≤ 40 := hs1
  have hv : it (k_orph1 n) (n - i) i (((pa, oc1, cv, rq, la, rc, su, bu), (ki1, ow1, mr1, va1, fi1, sz1), k1) : CalS × LaneS × Int32) = k_orph n k (pa, oc, cv, rq, la, rc, su, bu) (ki, ow, mr, va, fi, sz) := hv
  have hP : va_P G vwCl [(a 0, .inr (1, [.ref (b 0), .ref (d 0), .ref (a 1), .ref (a 2), .ref (a 3), .ref (a 4), .ref (a 5), .ref (a 6), .ref (a 7), .int bu])), (a 1, .inl (cI, 40, .inl pa)), (a 2, .inl (cI, 40, .inl oc1)), (a 3, .inl (cI, 40, .inl cv)), (a 4, .inl (cI, 40, .inl rq)), (a 5, .inl (cI, 40, .inl la)), (a 6, .inl (cI, 40, .inl rc)), (a 7, .inl (cI, 40, .inl su)), (b 0, .inr (0, [.ref (b 1), .ref (b 2), .ref (b 3), .int (nI n)])), (b 1, .inl (cI, 40, .inl me)), (b 2, .inl (cI, 40, .inl ar)), (b 3, .inl (cI, 40, .inl dl)), (d 0, .inr (2, [.ref (d 1), .ref (d 2), .ref (d 3), .ref (d 4), .int (nI fi1), .int (nI sz1)])), (d 1, .inl (cI, 40, .inl ki1)), (d 2, .inl (cI, 40, .inl ow1)), (d 3, .inl (cI, 40, .inl mr1)), (d 4, .inl (cI, 40, .inl va1))] H := hP
  have hD : va_D A [(a 0, .inr (1, [.ref (b 0), .ref (d 0), .ref (a 1), .ref (a 2), .ref (a 3), .ref (a 4), .ref (a 5), .ref (a 6), .ref (a 7), .int bu])), (a 1, .inl (cI, 40, .inl pa)), (a 2, .inl (cI, 40, .inl oc1)), (a 3, .inl (cI, 40, .inl cv)), (a 4, .inl (cI, 40, .inl rq)), (a 5, .inl (cI, 40, .inl la)), (a 6, .inl (cI, 40, .inl rc)), (a 7, .inl (cI, 40, .inl su)), (b 0, .inr (0, [.ref (b 1), .ref (b 2), .ref (b 3), .int (nI n)])), (b 1, .inl (cI, 40, .inl me)), (b 2, .inl (cI, 40, .inl ar)), (b 3, .inl (cI, 40, .inl dl)), (d 0, .inr (2, [.ref (d 1), .ref (d 2), .ref (d 3), .ref (d 4), .int (nI fi1), .int (nI sz1)])), (d 1, .inl (cI, 40, .inl ki1)), (d 2, .inl (cI, 40, .inl ow1)), (d 3, .inl (cI, 40, .inl mr1)), (d 4, .inl (cI, 40, .inl va1))] := hD
  have hl : lv_has ls 4 [(0, .ref (a 0)), (1, .int (nI k)), (2, .int k1), (3, .int (nI i))] := hl
  refine lv_iload_n hx hb dX1_cancelOrphans_6 rfl (lv_at hl 3 rfl) ?_
  refine lv_aload_n hx hb dX1_cancelOrphans_7 rfl (lv_at hl 0 rfl) ?_
  refine va_get (D := G) (ci := 1) (v := .ref (b 0)) (C := RX1) (T := TX1) (N := 10) hx hb hts hi_X1_cancelOrphans_X1 hown hK hP 0 rfl rfl 0 (by decide) (hts _ hk_X1_cancelOrphans_f37) (fun _ h9 => h9) rfl dX1_cancelOrphans_8 ?_
  refine va_getN (D := G) (ci := 0) (v := .int (nI n)) (C := RX0) (T := TX0) (N := 4) hx hb hts hi_X1_cancelOrphans_X0 hown hK hP 8 rfl rfl 3 (by decide) (va_Nw.use rfl (hN.1 _ (List.mem_of_getElem? (i := 8) rfl))) (fun _ h9 => h9) rfl dX1_cancelOrphans_11 ?_
  refine lv_icmp_ge (tgt := 62) hx hb dX1_cancelOrphans_14 (by decide) (fun c_2 => ?_) (fun c_2 => ?_)
  · have g_2 := (nI_leI (a := n) (b := i) (by omega) (by omega)).mp c_2
    refine lv_iload_n hx hb dX1_cancelOrphans_62 rfl (lv_at hl 2 rfl) ?_
    have hS9 := hS.2.2
    have hq9 : (((((pa, oc1, cv, rq, la, rc, su, bu), (ki1, ow1, mr1, va1, fi1, sz1)) : CalS × LaneS).1, (((pa, oc1, cv, rq, la, rc, su, bu), (ki1, ow1, mr1, va1, fi1, sz1)) : CalS × LaneS).2, k1) = k_orph n k (pa, oc, cv, rq, la, rc, su, bu) (ki, ow, mr, va, fi, sz)) ∧ fi1 < 40 ∧ sz1 ≤ 40 := by refine ⟨?_, by omega, by omega⟩; rw [← hv, it_end (by omega)]
    exact W.iret (v := k1) hx hb hr (fun t ht hW => ⟨⟨k1, ((pa, oc1, cv, rq, la, rc, su, bu), (ki1, ow1, mr1, va1, fi1, sz1)), rfl, hq9, by rw [ht]; exact hP, hD⟩, hS.F ht⟩) hS9 dX1_cancelOrphans_63
  · have g_2 := (not_congr (nI_leI (a := n) (b := i) (by omega) (by omega))).mp c_2
    refine lv_aload_n hx hb dX1_cancelOrphans_17 rfl (lv_at hl 0 rfl) ?_
    refine va_get (D := G) (ci := 1) (v := .ref (a 2)) (C := RX1) (T := TX1) (N := 10) hx hb hts hi_X1_cancelOrphans_X1 hown hK hP 0 rfl rfl 3 (by decide) (hts _ hk_X1_cancelOrphans_f15) (fun _ h9 => h9) rfl dX1_cancelOrphans_18 ?_
    refine lv_iload_n hx hb dX1_cancelOrphans_21 rfl (lv_at hl 3 rfl) ?_
    refine gz_iald hx hb hK hP 2 rfl rfl (k := i) rfl (by omega) (by decide) dX1_cancelOrphans_22 ?_
    refine lv_iconst (v := (-1)) hx hb dX1_cancelOrphans_23 (by decide +kernel) ?_
    refine lv_icmp_ne (tgt := 56) hx hb dX1_cancelOrphans_24 (by decide) (fun c_3 => ?_) (fun c_3 => ?_)
    · skip
      refine lv_iinc (v := nI (i + 1)) (lv' := [(3, .int (nI (i + 1))), (0, .ref (a 0)), (1, .int (nI k)), (2, .int k1)]) hx hb dX1_cancelOrphans_56 hl (k := 3) rfl (nI_1 _) (by decide) rfl (fun ls hl => ?_)
      refine lv_goto (tgt := 6) hx hb dX1_cancelOrphans_59 (by decide) ?_
      have n_hi : (i + 1) ≤ n := by omega
      have n_hf1 : fi1 < 40 := by omega
      have n_hs1 : sz1 ≤ 40 := by omega
      have n_hv : it (k_orph1 n) (n - (i + 1)) (i + 1) (((pa, oc1, cv, rq, la, rc, su, bu), (ki1, ow1, mr1, va1, fi1, sz1), k1) : CalS × LaneS × Int32) = k_orph n k (pa, oc, cv, rq, la, rc, su, bu) (ki, ow, mr, va, fi, sz) := by (have e1 : k_orph1 n i (((pa, oc1, cv, rq, la, rc, su, bu), (ki1, ow1, mr1, va1, fi1, sz1), k1) : CalS × LaneS × Int32) = ((pa, oc1, cv, rq, la, rc, su, bu), (ki1, ow1, mr1, va1, fi1, sz1), k1) := by simp only [k_orph1, ↓reduceIte, eq_self, nI_10, and_true, true_and, and_false, false_and, not_true_eq_false, not_false_eq_true, Bool.and_true, Bool.true_and, Bool.and_false, Bool.false_and, decide_true, decide_false, Bool.false_eq_true, eq_false g_2, eq_false c_3]); rw [← hv]; exact ((it_step (by omega)).trans (congrArg _ e1)).symm
      exact ih (i + 1, k1, oc1, ki1, ow1, mr1, va1, fi1, sz1) H locs ls ⟨n_hi, n_hf1, n_hs1, n_hv, hP, hD, hS, lv_sub hl [1, 2, 3, 0] rfl⟩ (by show n - (i + 1) < n - i; omega)
    · skip
      refine lv_aload_n hx hb dX1_cancelOrphans_27 rfl (lv_at hl 0 rfl) ?_
      refine lv_iload_n hx hb dX1_cancelOrphans_28 rfl (lv_at hl 3 rfl) ?_
      refine k_calli (S := Unit) (wc := [(a 0, .inr (1, [.ref (b 0), .ref (d 0), .ref (a 1), .ref (a 2), .ref (a 3), .ref (a 4), .ref (a 5), .ref (a 6), .ref (a 7), .int bu])), (a 1, .inl (cI, 40, .inl pa)), (a 2, .inl (cI, 40, .inl oc1)), (a 3, .inl (cI, 40, .inl cv)), (a 4, .inl (cI, 40, .inl rq)), (a 5, .inl (cI, 40, .inl la)), (a 6, .inl (cI, 40, .inl rc)), (a 7, .inl (cI, 40, .inl su)), (b 0, .inr (0, [.ref (b 1), .ref (b 2), .ref (b 3), .int (nI n)])), (b 1, .inl (cI, 40, .inl me)), (b 2, .inl (cI, 40, .inl ar)), (b 3, .inl (cI, 40, .inl dl)), (d 0, .inr (2, [.ref (d 1), .ref (d 2), .ref (d 3), .ref (d 4), .int (nI fi1), .int (nI sz1)])), (d 1, .inl (cI, 40, .inl ki1)), (d 2, .inl (cI, 40, .inl ow1)), (d 3, .inl (cI, 40, .inl mr1)), (d 4, .inl (cI, 40, .inl va1))]) (wr := []) (w1 := fun u => [(a 0, .inr (1, [.ref (b 0), .ref (d 0), .ref (a 1), .ref (a 2), .ref (a 3), .ref (a 4), .ref (a 5), .ref (a 6), .ref (a 7), .int bu])), (a 1, .inl (cI, 40, .inl pa)), (a 2, .inl (cI, 40, .inl oc1)), (a 3, .inl (cI, 40, .inl cv)), (a 4, .inl (cI, 40, .inl rq)), (a 5, .inl (cI, 40, .inl la)), (a 6, .inl (cI, 40, .inl rc)), (a 7, .inl (cI, 40, .inl su)), (b 0, .inr (0, [.ref (b 1), .ref (b 2), .ref (b 3), .int (nI n)])), (b 1, .inl (cI, 40, .inl me)), (b 2, .inl (cI, 40, .inl ar)), (b 3, .inl (cI, 40, .inl dl)), (d 0, .inr (2, [.ref (d 1), .ref (d 2), .ref (d 3), .ref (d 4), .int (nI fi1), .int (nI sz1)])), (d 1, .inl (cI, 40, .inl ki1)), (d 2, .inl (cI, 40, .inl ow1)), (d 3, .inl (cI, 40, .inl mr1)), (d 4, .inl (cI, 40, .inl va1))]) (w2 := fun u => [(a 0, .inr (1, [.ref (b 0), .ref (d 0), .ref (a 1), .ref (a 2), .ref (a 3), .ref (a 4), .ref (a 5), .ref (a 6), .ref (a 7), .int bu])), (a 1, .inl (cI, 40, .inl pa)), (a 2, .inl (cI, 40, .inl oc1)), (a 3, .inl (cI, 40, .inl cv)), (a 4, .inl (cI, 40, .inl rq)), (a 5, .inl (cI, 40, .inl la)), (a 6, .inl (cI, 40, .inl rc)), (a 7, .inl (cI, 40, .inl su)), (b 0, .inr (0, [.ref (b 1), .ref (b 2), .ref (b 3), .int (nI n)])), (b 1, .inl (cI, 40, .inl me)), (b 2, .inl (cI, 40, .inl ar)), (b 3, .inl (cI, 40, .inl dl)), (d 0, .inr (2, [.ref (d 1), .ref (d 2), .ref (d 3), .ref (d 4), .int (nI fi1), .int (nI sz1)])), (d 1, .inl (cI, 40, .inl ki1)), (d 2, .inl (cI, 40, .inl ow1)), (d 3, .inl (cI, 40, .inl mr1)), (d 4, .inl (cI, 40, .inl va1))]) (va_runV (As := [.int (nI i)]) (rest := []) ⟨hx, hb, hml, hown, hts⟩ (c_X1_hasEndedParent l G cI a b d pa oc1 cv rq la rc su bu me ar dl n ki1 ow1 mr1 va1 fi1 sz1 i (by first | omega | assumption) (by first | omega | assumption) (by first | omega | assumption) (by first | omega | assumption) H.size) (cwV 1 hts gX1_cancelOrphans_X1_hasEndedParent rfl rfl rfl (by decide +kernel) ⟨Nat.le_of_ble_eq_true rfl, Nat.le_of_ble_eq_true rfl⟩) ⟨kPre.blind, va_recv hK hP (ci := 1) (q0 := 0) rfl rfl, kPre.at hP hK hD hS hA hN [0, 1, 2, 3, 4, 5, 6, 7, 8, 9, 10, 11, 12, 13, 14, 15, 16] rfl rfl⟩ rfl rfl hl.1 rfl (lv_room (Nat.le_of_ble_eq_true rfl)) dX1_cancelOrphans_29 ⟨Nat.le_of_ble_eq_true rfl, Nat.le_of_ble_eq_true rfl⟩) hP hD hS hA [0, 1, 2, 3, 4, 5, 6, 7, 8, 9, 10, 11, 12, 13, 14, 15, 16] [] [0, 1, 2, 3, 4, 5, 6, 7, 8, 9, 10, 11, 12, 13, 14, 15, 16] rfl rfl ⟨rfl, by decide, rfl⟩ (fun _ => rfl) (fun r_4 u H locs hw_4 hP hD hS => ?_)
      have hP : va_P G vwCl [(a 0, .inr (1, [.ref (b 0), .ref (d 0), .ref (a 1), .ref (a 2), .ref (a 3), .ref (a 4), .ref (a 5), .ref (a 6), .ref (a 7), .int bu])), (a 1, .inl (cI, 40, .inl pa)), (a 2, .inl (cI, 40, .inl oc1)), (a 3, .inl (cI, 40, .inl cv)), (a 4, .inl (cI, 40, .inl rq)), (a 5, .inl (cI, 40, .inl la)), (a 6, .inl (cI, 40, .inl rc)), (a 7, .inl (cI, 40, .inl su)), (b 0, .inr (0, [.ref (b 1), .ref (b 2), .ref (b 3), .int (nI n)])), (b 1, .inl (cI, 40, .inl me)), (b 2, .inl (cI, 40, .inl ar)), (b 3, .inl (cI, 40, .inl dl)), (d 0, .inr (2, [.ref (d 1), .ref (d 2), .ref (d 3), .ref (d 4), .int (nI fi1), .int (nI sz1)])), (d 1, .inl (cI, 40, .inl ki1)), (d 2, .inl (cI, 40, .inl ow1)), (d 3, .inl (cI, 40, .inl mr1)), (d 4, .inl (cI, 40, .inl va1))] H := hP
      have hD : va_D A [(a 0, .inr (1, [.ref (b 0), .ref (d 0), .ref (a 1), .ref (a 2), .ref (a 3), .ref (a 4), .ref (a 5), .ref (a 6), .ref (a 7), .int bu])), (a 1, .inl (cI, 40, .inl pa)), (a 2, .inl (cI, 40, .inl oc1)), (a 3, .inl (cI, 40, .inl cv)), (a 4, .inl (cI, 40, .inl rq)), (a 5, .inl (cI, 40, .inl la)), (a 6, .inl (cI, 40, .inl rc)), (a 7, .inl (cI, 40, .inl su)), (b 0, .inr (0, [.ref (b 1), .ref (b 2), .ref (b 3), .int (nI n)])), (b 1, .inl (cI, 40, .inl me)), (b 2, .inl (cI, 40, .inl ar)), (b 3, .inl (cI, 40, .inl dl)), (d 0, .inr (2, [.ref (d 1), .ref (d 2), .ref (d 3), .ref (d 4), .int (nI fi1), .int (nI sz1)])), (d 1, .inl (cI, 40, .inl ki1)), (d 2, .inl (cI, 40, .inl ow1)), (d 3, .inl (cI, 40, .inl mr1)), (d 4, .inl (cI, 40, .inl va1))] := hD
      refine lv_if_eq (tgt := 56) hx hb dX1_cancelOrphans_32 (by decide) (fun c_5 => ?_) (fun c_5 => ?_)
      · have g_5 := k_bool0 hw_4 c_5
        refine lv_iinc (v := nI (i + 1)) (lv' := [(3, .int (nI (i + 1))), (0, .ref (a 0)), (1, .int (nI k)), (2, .int k1)]) hx hb dX1_cancelOrphans_56 hl (k := 3) rfl (nI_1 _) (by decide) rfl (fun ls hl => ?_)
        refine lv_goto (tgt := 6) hx hb dX1_cancelOrphans_59 (by decide) ?_
        have n_hi : (i + 1) ≤ n := by omega
        have n_hf1 : fi1 < 40 := by omega
        have n_hs1 : sz1 ≤ 40 := by omega
        have n_hv : it (k_orph1 n) (n - (i + 1)) (i + 1) (((pa, oc1, cv, rq, la, rc, su, bu), (ki1, ow1, mr1, va1, fi1, sz1), k1) : CalS × LaneS × Int32) = k_orph n k (pa, oc, cv, rq, la, rc, su, bu) (ki, ow, mr, va, fi, sz) := by (have e1 : k_orph1 n i (((pa, oc1, cv, rq, la, rc, su, bu), (ki1, ow1, mr1, va1, fi1, sz1), k1) : CalS × LaneS × Int32) = ((pa, oc1, cv, rq, la, rc, su, bu), (ki1, ow1, mr1, va1, fi1, sz1), k1) := by simp only [k_orph1, ↓reduceIte, eq_self, nI_10, and_true, true_and, and_false, false_and, not_true_eq_false, not_false_eq_true, Bool.and_true, Bool.true_and, Bool.and_false, Bool.false_and, decide_true, decide_false, Bool.false_eq_true, eq_false g_2, eq_true c_3, eq_false g_5]); rw [← hv]; exact ((it_step (by omega)).trans (congrArg _ e1)).symm
        exact ih (i + 1, k1, oc1, ki1, ow1, mr1, va1, fi1, sz1) H locs ls ⟨n_hi, n_hf1, n_hs1, n_hv, hP, hD, hS, lv_sub hl [1, 2, 3, 0] rfl⟩ (by show n - (i + 1) < n - i; omega)
      · have g_5 := k_bool1 hw_4 c_5
        refine lv_aload_n hx hb dX1_cancelOrphans_35 rfl (lv_at hl 0 rfl) ?_
        refine va_get (D := G) (ci := 1) (v := .ref (a 2)) (C := RX1) (T := TX1) (N := 10) hx hb hts hi_X1_cancelOrphans_X1 hown hK hP 0 rfl rfl 3 (by decide) (hts _ hk_X1_cancelOrphans_f15) (fun _ h9 => h9) rfl dX1_cancelOrphans_36 ?_
        refine lv_iload_n hx hb dX1_cancelOrphans_39 rfl (lv_at hl 3 rfl) ?_
        refine lv_iconst (v := nI 1) hx hb dX1_cancelOrphans_40 (by decide +kernel) ?_
        refine gz_iast hx hb hK hP hD hS 2 rfl rfl (k := i) rfl (by omega) (by decide) dX1_cancelOrphans_41 (fun H locs hP hD hS => ?_)
        have hP : va_P G vwCl [(a 0, .inr (1, [.ref (b 0), .ref (d 0), .ref (a 1), .ref (a 2), .ref (a 3), .ref (a 4), .ref (a 5), .ref (a 6), .ref (a 7), .int bu])), (a 1, .inl (cI, 40, .inl pa)), (a 2, .inl (cI, 40, .inl (upd oc1 i (nI 1)))), (a 3, .inl (cI, 40, .inl cv)), (a 4, .inl (cI, 40, .inl rq)), (a 5, .inl (cI, 40, .inl la)), (a 6, .inl (cI, 40, .inl rc)), (a 7, .inl (cI, 40, .inl su)), (b 0, .inr (0, [.ref (b 1), .ref (b 2), .ref (b 3), .int (nI n)])), (b 1, .inl (cI, 40, .inl me)), (b 2, .inl (cI, 40, .inl ar)), (b 3, .inl (cI, 40, .inl dl)), (d 0, .inr (2, [.ref (d 1), .ref (d 2), .ref (d 3), .ref (d 4), .int (nI fi1), .int (nI sz1)])), (d 1, .inl (cI, 40, .inl ki1)), (d 2, .inl (cI, 40, .inl ow1)), (d 3, .inl (cI, 40, .inl mr1)), (d 4, .inl (cI, 40, .inl va1))] H := hP
        have hD : va_D A [(a 0, .inr (1, [.ref (b 0), .ref (d 0), .ref (a 1), .ref (a 2), .ref (a 3), .ref (a 4), .ref (a 5), .ref (a 6), .ref (a 7), .int bu])), (a 1, .inl (cI, 40, .inl pa)), (a 2, .inl (cI, 40, .inl (upd oc1 i (nI 1)))), (a 3, .inl (cI, 40, .inl cv)), (a 4, .inl (cI, 40, .inl rq)), (a 5, .inl (cI, 40, .inl la)), (a 6, .inl (cI, 40, .inl rc)), (a 7, .inl (cI, 40, .inl su)), (b 0, .inr (0, [.ref (b 1), .ref (b 2), .ref (b 3), .int (nI n)])), (b 1, .inl (cI, 40, .inl me)), (b 2, .inl (cI, 40, .inl ar)), (b 3, .inl (cI, 40, .inl dl)), (d 0, .inr (2, [.ref (d 1), .ref (d 2), .ref (d 3), .ref (d 4), .int (nI fi1), .int (nI sz1)])), (d 1, .inl (cI, 40, .inl ki1)), (d 2, .inl (cI, 40, .inl ow1)), (d 3, .inl (cI, 40, .inl mr1)), (d 4, .inl (cI, 40, .inl va1))] := hD
        refine lv_aload_n hx hb dX1_cancelOrphans_42 rfl (lv_at hl 0 rfl) ?_
        refine va_get (D := G) (ci := 1) (v := .ref (d 0)) (C := RX1) (T := TX1) (N := 10) hx hb hts hi_X1_cancelOrphans_X1 hown hK hP 0 rfl rfl 1 (by decide) (hts _ hk_X1_cancelOrphans_f41) (fun _ h9 => h9) rfl dX1_cancelOrphans_43 ?_
        refine lv_iconst (v := nI 1) hx hb dX1_cancelOrphans_46 (by decide +kernel) ?_
        refine lv_iload_n hx hb dX1_cancelOrphans_47 rfl (lv_at hl 3 rfl) ?_
        refine lv_iconst (v := nI 0) hx hb dX1_cancelOrphans_48 (by decide +kernel) ?_
        refine lv_iconst (v := nI 0) hx hb dX1_cancelOrphans_49 (by decide +kernel) ?_
        refine k_callv (S := Fn × Fn × Fn × Fn × Nat × Nat) (wc := [(d 0, .inr (2, [.ref (d 1), .ref (d 2), .ref (d 3), .ref (d 4), .int (nI fi1), .int (nI sz1)])), (d 1, .inl (cI, 40, .inl ki1)), (d 2, .inl (cI, 40, .inl ow1)), (d 3, .inl (cI, 40, .inl mr1)), (d 4, .inl (cI, 40, .inl va1))]) (wr := [(a 0, .inr (1, [.ref (b 0), .ref (d 0), .ref (a 1), .ref (a 2), .ref (a 3), .ref (a 4), .ref (a 5), .ref (a 6), .ref (a 7), .int bu])), (a 1, .inl (cI, 40, .inl pa)), (a 2, .inl (cI, 40, .inl (upd oc1 i (nI 1)))), (a 3, .inl (cI, 40, .inl cv)), (a 4, .inl (cI, 40, .inl rq)), (a 5, .inl (cI, 40, .inl la)), (a 6, .inl (cI, 40, .inl rc)), (a 7, .inl (cI, 40, .inl su)), (b 0, .inr (0, [.ref (b 1), .ref (b 2), .ref (b 3), .int (nI n)])), (b 1, .inl (cI, 40, .inl me)), (b 2, .inl (cI, 40, .inl ar)), (b 3, .inl (cI, 40, .inl dl))]) (w1 := fun u => [(d 0, .inr (2, [.ref (d 1), .ref (d 2), .ref (d 3), .ref (d 4), .int (nI u.2.2.2.2.1), .int (nI u.2.2.2.2.2)])), (d 1, .inl (cI, 40, .inl u.1)), (d 2, .inl (cI, 40, .inl u.2.1)), (d 3, .inl (cI, 40, .inl u.2.2.1)), (d 4, .inl (cI, 40, .inl u.2.2.2.1))]) (w2 := fun u => [(a 0, .inr (1, [.ref (b 0), .ref (d 0), .ref (a 1), .ref (a 2), .ref (a 3), .ref (a 4), .ref (a 5), .ref (a 6), .ref (a 7), .int bu])), (a 1, .inl (cI, 40, .inl pa)), (a 2, .inl (cI, 40, .inl (upd oc1 i (nI 1)))), (a 3, .inl (cI, 40, .inl cv)), (a 4, .inl (cI, 40, .inl rq)), (a 5, .inl (cI, 40, .inl la)), (a 6, .inl (cI, 40, .inl rc)), (a 7, .inl (cI, 40, .inl su)), (b 0, .inr (0, [.ref (b 1), .ref (b 2), .ref (b 3), .int (nI n)])), (b 1, .inl (cI, 40, .inl me)), (b 2, .inl (cI, 40, .inl ar)), (b 3, .inl (cI, 40, .inl dl)), (d 0, .inr (2, [.ref (d 1), .ref (d 2), .ref (d 3), .ref (d 4), .int (nI u.2.2.2.2.1), .int (nI u.2.2.2.2.2)])), (d 1, .inl (cI, 40, .inl u.1)), (d 2, .inl (cI, 40, .inl u.2.1)), (d 3, .inl (cI, 40, .inl u.2.2.1)), (d 4, .inl (cI, 40, .inl u.2.2.2.1))]) (va_runVN (As := [.int (nI 1), .int (nI i), .int (nI 0), .int (nI 0)]) (rest := []) ⟨hx, hb, hml, hown, hts⟩ (c_X2_send l G cI d ki1 ow1 mr1 va1 fi1 sz1 (nI 1) (nI i) (nI 0) (nI 0) (by first | omega | assumption) (by first | omega | assumption) H.size) ⟨va_cnB (host := RX4) 4 hts gX1_cancelOrphans_X2_send_n49 rfl rfl rfl (hN.1 _ (List.mem_of_getElem? (i := 30) rfl)) (hts _ hk_X1_cancelOrphans_iX2) (by decide +kernel) ⟨Nat.le_of_ble_eq_true rfl, Nat.le_of_ble_eq_true rfl⟩, (hts _ hk_X1_cancelOrphans_nX2_send), (hts _ hk_X1_cancelOrphans_sX2_send)⟩ ⟨kPre.blind, va_recv hK hP (ci := 2) (q0 := 12) rfl rfl, kPre.at hP hK hD hS hA hN [12, 13, 14, 15, 16] rfl rfl⟩ rfl rfl hl.1 rfl (lv_room (Nat.le_of_ble_eq_true rfl)) dX1_cancelOrphans_50 ⟨Nat.le_of_ble_eq_true rfl, Nat.le_of_ble_eq_true rfl⟩) hP hD hS hA [12, 13, 14, 15, 16] [0, 1, 2, 3, 4, 5, 6, 7, 8, 9, 10, 11] [0, 1, 2, 3, 4, 5, 6, 7, 8, 9, 10, 11, 12, 13, 14, 15, 16] rfl rfl ⟨rfl, by decide, rfl⟩ (fun _ => rfl) (fun u H locs hw_6 hP hD hS => ?_)
        obtain ⟨ki_6, ow_6, mr_6, va_6, fi_6, sz_6⟩ := u
        obtain ⟨hw_6, hf_6, hs_6⟩ := hw_6
        have hf_6 : fi_6 < 40 := hf_6
        have hs_6 : sz_6 ≤ 40 := hs_6
        have hw_6 : ((ki_6, ow_6, mr_6, va_6, fi_6, sz_6) : Fn × Fn × Fn × Fn × Nat × Nat) = l_send (ki1, ow1, mr1, va1, fi1, sz1) (nI 1) (nI i) (nI 0) (nI 0) := hw_6
        have hP : va_P G vwCl [(a 0, .inr (1, [.ref (b 0), .ref (d 0), .ref (a 1), .ref (a 2), .ref (a 3), .ref (a 4), .ref (a 5), .ref (a 6), .ref (a 7), .int bu])), (a 1, .inl (cI, 40, .inl pa)), (a 2, .inl (cI, 40, .inl (upd oc1 i (nI 1)))), (a 3, .inl (cI, 40, .inl cv)), (a 4, .inl (cI, 40, .inl rq)), (a 5, .inl (cI, 40, .inl la)), (a 6, .inl (cI, 40, .inl rc)), (a 7, .inl (cI, 40, .inl su)), (b 0, .inr (0, [.ref (b 1), .ref (b 2), .ref (b 3), .int (nI n)])), (b 1, .inl (cI, 40, .inl me)), (b 2, .inl (cI, 40, .inl ar)), (b 3, .inl (cI, 40, .inl dl)), (d 0, .inr (2, [.ref (d 1), .ref (d 2), .ref (d 3), .ref (d 4), .int (nI fi_6), .int (nI sz_6)])), (d 1, .inl (cI, 40, .inl ki_6)), (d 2, .inl (cI, 40, .inl ow_6)), (d 3, .inl (cI, 40, .inl mr_6)), (d 4, .inl (cI, 40, .inl va_6))] H := hP
        have hD : va_D A [(a 0, .inr (1, [.ref (b 0), .ref (d 0), .ref (a 1), .ref (a 2), .ref (a 3), .ref (a 4), .ref (a 5), .ref (a 6), .ref (a 7), .int bu])), (a 1, .inl (cI, 40, .inl pa)), (a 2, .inl (cI, 40, .inl (upd oc1 i (nI 1)))), (a 3, .inl (cI, 40, .inl cv)), (a 4, .inl (cI, 40, .inl rq)), (a 5, .inl (cI, 40, .inl la)), (a 6, .inl (cI, 40, .inl rc)), (a 7, .inl (cI, 40, .inl su)), (b 0, .inr (0, [.ref (b 1), .ref (b 2), .ref (b 3), .int (nI n)])), (b 1, .inl (cI, 40, .inl me)), (b 2, .inl (cI, 40, .inl ar)), (b 3, .inl (cI, 40, .inl dl)), (d 0, .inr (2, [.ref (d 1), .ref (d 2), .ref (d 3), .ref (d 4), .int (nI fi_6), .int (nI sz_6)])), (d 1, .inl (cI, 40, .inl ki_6)), (d 2, .inl (cI, 40, .inl ow_6)), (d 3, .inl (cI, 40, .inl mr_6)), (d 4, .inl (cI, 40, .inl va_6))] := hD
        refine lv_iinc (v := k1 + nI 1) (lv' := [(2, .int (k1 + nI 1)), (0, .ref (a 0)), (1, .int (nI k)), (3, .int (nI i))]) hx hb dX1_cancelOrphans_53 hl (k := 2) rfl rfl (by decide) rfl (fun ls hl => ?_)
        refine lv_iinc (v := nI (i + 1)) (lv' := [(3, .int (nI (i + 1))), (2, .int (k1 + nI 1)), (0, .ref (a 0)), (1, .int (nI k))]) hx hb dX1_cancelOrphans_56 hl (k := 3) rfl (nI_1 _) (by decide) rfl (fun ls hl => ?_)
        refine lv_goto (tgt := 6) hx hb dX1_cancelOrphans_59 (by decide) ?_
        have n_hi : (i + 1) ≤ n := by omega
        have n_hf1 : fi_6 < 40 := by omega
        have n_hs1 : sz_6 ≤ 40 := by omega
        have n_hv : it (k_orph1 n) (n - (i + 1)) (i + 1) (((pa, (upd oc1 i (nI 1)), cv, rq, la, rc, su, bu), (ki_6, ow_6, mr_6, va_6, fi_6, sz_6), (k1 + nI 1)) : CalS × LaneS × Int32) = k_orph n k (pa, oc, cv, rq, la, rc, su, bu) (ki, ow, mr, va, fi, sz) := by (have e1 : k_orph1 n i (((pa, oc1, cv, rq, la, rc, su, bu), (ki1, ow1, mr1, va1, fi1, sz1), k1) : CalS × LaneS × Int32) = ((pa, upd oc1 i (nI 1), cv, rq, la, rc, su, bu), (ki_6, ow_6, mr_6, va_6, fi_6, sz_6), k1 + nI 1) := by simp only [k_orph1, ↓reduceIte, eq_self, nI_10, and_true, true_and, and_false, false_and, not_true_eq_false, not_false_eq_true, Bool.and_true, Bool.true_and, Bool.and_false, Bool.false_and, decide_true, decide_false, Bool.false_eq_true, eq_false g_2, eq_true c_3, eq_true g_5, ← hw_6]); rw [← hv]; exact ((it_step (by omega)).trans (congrArg _ e1)).symm
        exact ih (i + 1, k1 + nI 1, upd oc1 i (nI 1), ki_6, ow_6, mr_6, va_6, fi_6, sz_6) H locs ls ⟨n_hi, n_hf1, n_hs1, n_hv, hP, hD, hS, lv_sub hl [2, 3, 1, 0] rfl⟩ (by show n - (i + 1) < n - i; omega)

theorem hk_X1_endSilently_f15 : (.fieldLink RX1 15 "Callgate$Caller" "outcomes" "[I" : Cond) ∈ wsX1_endSilently := by decide +kernel
theorem hi_X1_endSilently_X1 : ∀ w ∈ u_ws RX1 TX1 10, w ∈ wsX1_endSilently := by decide +kernel
set_option maxHeartbeats 4000000 in
set_option maxRecDepth 100000 in
theorem c_X1_endSilently (l : Launch) (G : va_G) (cI : ClassId) (a b d : Nat → Nat) (pa : Fn) (oc : Fn) (cv : Fn) (rq : Fn) (la : Fn) (rc : Fn) (su : Fn) (bu : Int32) (me : Fn) (ar : Fn) (dl : Fn) (n : Nat) (ki : Fn) (ow : Fn) (mr : Fn) (va : Fn) (fi : Nat) (sz : Nat) (k : Nat) (o : Int32) (hk : k < n) (hn : n ≤ 40) (hf : fi < 40) (hs : sz ≤ 40) (zz : Nat) : Met l yX1_endSilently wsX1_endSilently ({ frames := 4, cells := 0, slots := 0, locals := 91 }) (va_Pc [.ref (a 0), .int (nI k), .int o] (kPre G cI [(a 0, .inr (1, [.ref (b 0), .ref (d 0), .ref (a 1), .ref (a 2), .ref (a 3), .ref (a 4), .ref (a 5), .ref (a 6), .ref (a 7), .int bu])), (a 1, .inl (cI, 40, .inl pa)), (a 2, .inl (cI, 40, .inl oc)), (a 3, .inl (cI, 40, .inl cv)), (a 4, .inl (cI, 40, .inl rq)), (a 5, .inl (cI, 40, .inl la)), (a 6, .inl (cI, 40, .inl rc)), (a 7, .inl (cI, 40, .inl su)), (b 0, .inr (0, [.ref (b 1), .ref (b 2), .ref (b 3), .int (nI n)])), (b 1, .inl (cI, 40, .inl me)), (b 2, .inl (cI, 40, .inl ar)), (b 3, .inl (cI, 40, .inl dl)), (d 0, .inr (2, [.ref (d 1), .ref (d 2), .ref (d 3), .ref (d 4), .int (nI fi), .int (nI sz)])), (d 1, .inl (cI, 40, .inl ki)), (d 2, .inl (cI, 40, .inl ow)), (d 3, .inl (cI, 40, .inl mr)), (d 4, .inl (cI, 40, .inl va))] zz)) (va_Qi (fun (r : Int32) (u : CalS × LaneS) => ((u.1, u.2, r) = k_endS n (pa, oc, cv, rq, la, rc, su, bu) (ki, ow, mr, va, fi, sz) k o) ∧ u.2.2.2.2.2.1 < 40 ∧ u.2.2.2.2.2.2 ≤ 40) (fun (u : CalS × LaneS) t => kQ G [(a 0, .inr (1, [.ref (b 0), .ref (d 0), .ref (a 1), .ref (a 2), .ref (a 3), .ref (a 4), .ref (a 5), .ref (a 6), .ref (a 7), .int u.1.2.2.2.2.2.2.2])), (a 1, .inl (cI, 40, .inl u.1.1)), (a 2, .inl (cI, 40, .inl u.1.2.1)), (a 3, .inl (cI, 40, .inl u.1.2.2.1)), (a 4, .inl (cI, 40, .inl u.1.2.2.2.1)), (a 5, .inl (cI, 40, .inl u.1.2.2.2.2.1)), (a 6, .inl (cI, 40, .inl u.1.2.2.2.2.2.1)), (a 7, .inl (cI, 40, .inl u.1.2.2.2.2.2.2.1)), (b 0, .inr (0, [.ref (b 1), .ref (b 2), .ref (b 3), .int (nI n)])), (b 1, .inl (cI, 40, .inl me)), (b 2, .inl (cI, 40, .inl ar)), (b 3, .inl (cI, 40, .inl dl)), (d 0, .inr (2, [.ref (d 1), .ref (d 2), .ref (d 3), .ref (d 4), .int (nI u.2.2.2.2.2.1), .int (nI u.2.2.2.2.2.2)])), (d 1, .inl (cI, 40, .inl u.2.1)), (d 2, .inl (cI, 40, .inl u.2.2.1)), (d 3, .inl (cI, 40, .inl u.2.2.2.1)), (d 4, .inl (cI, 40, .inl u.2.2.2.2.1))] (va_A [(a 0, .inr (1, [.ref (b 0), .ref (d 0), .ref (a 1), .ref (a 2), .ref (a 3), .ref (a 4), .ref (a 5), .ref (a 6), .ref (a 7), .int bu])), (a 1, .inl (cI, 40, .inl pa)), (a 2, .inl (cI, 40, .inl oc)), (a 3, .inl (cI, 40, .inl cv)), (a 4, .inl (cI, 40, .inl rq)), (a 5, .inl (cI, 40, .inl la)), (a 6, .inl (cI, 40, .inl rc)), (a 7, .inl (cI, 40, .inl su)), (b 0, .inr (0, [.ref (b 1), .ref (b 2), .ref (b 3), .int (nI n)])), (b 1, .inl (cI, 40, .inl me)), (b 2, .inl (cI, 40, .inl ar)), (b 3, .inl (cI, 40, .inl dl)), (d 0, .inr (2, [.ref (d 1), .ref (d 2), .ref (d 3), .ref (d 4), .int (nI fi), .int (nI sz)])), (d 1, .inl (cI, 40, .inl ki)), (d 2, .inl (cI, 40, .inl ow)), (d 3, .inl (cI, 40, .inl mr)), (d 4, .inl (cI, 40, .inl va))] zz) t) (va_A [(a 0, .inr (1, [.ref (b 0), .ref (d 0), .ref (a 1), .ref (a 2), .ref (a 3), .ref (a 4), .ref (a 5), .ref (a 6), .ref (a 7), .int bu])), (a 1, .inl (cI, 40, .inl pa)), (a 2, .inl (cI, 40, .inl oc)), (a 3, .inl (cI, 40, .inl cv)), (a 4, .inl (cI, 40, .inl rq)), (a 5, .inl (cI, 40, .inl la)), (a 6, .inl (cI, 40, .inl rc)), (a 7, .inl (cI, 40, .inl su)), (b 0, .inr (0, [.ref (b 1), .ref (b 2), .ref (b 3), .int (nI n)])), (b 1, .inl (cI, 40, .inl me)), (b 2, .inl (cI, 40, .inl ar)), (b 3, .inl (cI, 40, .inl dl)), (d 0, .inr (2, [.ref (d 1), .ref (d 2), .ref (d 3), .ref (d 4), .int (nI fi), .int (nI sz)])), (d 1, .inl (cI, 40, .inl ki)), (d 2, .inl (cI, 40, .inl ow)), (d 3, .inl (cI, 40, .inl mr)), (d 4, .inl (cI, 40, .inl va))] zz)) 0 0 (va_A [(a 0, .inr (1, [.ref (b 0), .ref (d 0), .ref (a 1), .ref (a 2), .ref (a 3), .ref (a 4), .ref (a 5), .ref (a 6), .ref (a 7), .int bu])), (a 1, .inl (cI, 40, .inl pa)), (a 2, .inl (cI, 40, .inl oc)), (a 3, .inl (cI, 40, .inl cv)), (a 4, .inl (cI, 40, .inl rq)), (a 5, .inl (cI, 40, .inl la)), (a 6, .inl (cI, 40, .inl rc)), (a 7, .inl (cI, 40, .inl su)), (b 0, .inr (0, [.ref (b 1), .ref (b 2), .ref (b 3), .int (nI n)])), (b 1, .inl (cI, 40, .inl me)), (b 2, .inl (cI, 40, .inl ar)), (b 3, .inl (cI, 40, .inl dl)), (d 0, .inr (2, [.ref (d 1), .ref (d 2), .ref (d 3), .ref (d 4), .int (nI fi), .int (nI sz)])), (d 1, .inl (cI, 40, .inl ki)), (d 2, .inl (cI, 40, .inl ow)), (d 3, .inl (cI, 40, .inl mr)), (d 4, .inl (cI, 40, .inl va))] zz) := by
  refine Met.ofW (cc := cX1_endSilently) (maxL := 3) (ret := (some .int)) (by decide) rfl ?_
  intro p e s m args below meth c s₁ B hml hv
  obtain ⟨rfl, hsz, hP, hK, hD0, hN⟩ := hv
  have hx := B.exec
  have hb := B.bytes
  have hr := B.returns
  have hts := atoms_spec (ws := wsX1_endSilently) B.pre
  have hown : s.vm.findClass RX1 = some m.cls := findClass_of_methodNamed B.named
  have hlocks := B.notSynchronized
  subst hsz
  have hD := hD0.self (sz := s.heap.size)
  generalize hAe : va_A [(a 0, .inr (1, [.ref (b 0), .ref (d 0), .ref (a 1), .ref (a 2), .ref (a 3), .ref (a 4), .ref (a 5), .ref (a 6), .ref (a 7), .int bu])), (a 1, .inl (cI, 40, .inl pa)), (a 2, .inl (cI, 40, .inl oc)), (a 3, .inl (cI, 40, .inl cv)), (a 4, .inl (cI, 40, .inl rq)), (a 5, .inl (cI, 40, .inl la)), (a 6, .inl (cI, 40, .inl rc)), (a 7, .inl (cI, 40, .inl su)), (b 0, .inr (0, [.ref (b 1), .ref (b 2), .ref (b 3), .int (nI n)])), (b 1, .inl (cI, 40, .inl me)), (b 2, .inl (cI, 40, .inl ar)), (b 3, .inl (cI, 40, .inl dl)), (d 0, .inr (2, [.ref (d 1), .ref (d 2), .ref (d 3), .ref (d 4), .int (nI fi), .int (nI sz)])), (d 1, .inl (cI, 40, .inl ki)), (d 2, .inl (cI, 40, .inl ow)), (d 3, .inl (cI, 40, .inl mr)), (d 4, .inl (cI, 40, .inl va))] s.heap.size = A at hD hN ⊢
  have hA : ∀ q : Nat, s.heap.size ≤ q → A q := fun q h => by rw [← hAe]; exact Or.inr h
  have hS : va_S A s.heap s.heap [] := va_S.rf
  have hl := lv_entry ([.ref (a 0), .int (nI k), .int o]) (n := 3) (Nat.le_of_ble_eq_true rfl)
  rw [lg_entry_eq]
  generalize (lg_sl ([.ref (a 0), .int (nI k), .int o]) ++ List.replicate (3 - (lg_sl ([.ref (a 0), .int (nI k), .int o])).length) Slot.unset).toArray = ls at hl ⊢
  have hl : lv_has ls 3 [(0, .ref (a 0)), (1, .int (nI k)), (2, .int o)] := hl
  have hP : va_P G vwCl [(a 0, .inr (1, [.ref (b 0), .ref (d 0), .ref (a 1), .ref (a 2), .ref (a 3), .ref (a 4), .ref (a 5), .ref (a 6), .ref (a 7), .int bu])), (a 1, .inl (cI, 40, .inl pa)), (a 2, .inl (cI, 40, .inl oc)), (a 3, .inl (cI, 40, .inl cv)), (a 4, .inl (cI, 40, .inl rq)), (a 5, .inl (cI, 40, .inl la)), (a 6, .inl (cI, 40, .inl rc)), (a 7, .inl (cI, 40, .inl su)), (b 0, .inr (0, [.ref (b 1), .ref (b 2), .ref (b 3), .int (nI n)])), (b 1, .inl (cI, 40, .inl me)), (b 2, .inl (cI, 40, .inl ar)), (b 3, .inl (cI, 40, .inl dl)), (d 0, .inr (2, [.ref (d 1), .ref (d 2), .ref (d 3), .ref (d 4), .int (nI fi), .int (nI sz)])), (d 1, .inl (cI, 40, .inl ki)), (d 2, .inl (cI, 40, .inl ow)), (d 3, .inl (cI, 40, .inl mr)), (d 4, .inl (cI, 40, .inl va))] s.heap := hP
  obtain ⟨H, hH⟩ : ∃ H, H = s.heap := ⟨_, rfl⟩
  rw [← hH] at hP
  have hS : va_S A s.heap H [] := by rw [hH]; exact hS
  show W _ _ _ _ _ _ _ _ _ _ s.heap _ _ _ _ _
  rw [← hH]
  obtain ⟨locs, hlo⟩ : ∃ z : List Loc, z = [] := ⟨_, rfl⟩
  rw [← hlo] at hS ⊢
  refine lv_aload_n hx hb dX1_endSilently_0 rfl (lv_at hl 0 rfl) ?_
  refine va_get (D := G) (ci := 1) (v := .ref (a 2)) (C := RX1) (T := TX1) (N := 10) hx hb hts hi_X1_endSilently_X1 hown hK hP 0 rfl rfl 3 (by decide) (hts _ hk_X1_endSilently_f15) (fun _ h9 => h9) rfl dX1_endSilently_1 ?_
  refine lv_iload_n hx hb dX1_endSilently_4 rfl (lv_at hl 1 rfl) ?_
  refine lv_iload_n hx hb dX1_endSilently_5 rfl (lv_at hl 2 rfl) ?_
  refine gz_iast hx hb hK hP hD hS 2 rfl rfl (k := k) rfl (by omega) (by decide) dX1_endSilently_6 (fun H locs hP hD hS => ?_)
  have hP : va_P G vwCl [(a 0, .inr (1, [.ref (b 0), .ref (d 0), .ref (a 1), .ref (a 2), .ref (a 3), .ref (a 4), .ref (a 5), .ref (a 6), .ref (a 7), .int bu])), (a 1, .inl (cI, 40, .inl pa)), (a 2, .inl (cI, 40, .inl (upd oc k o))), (a 3, .inl (cI, 40, .inl cv)), (a 4, .inl (cI, 40, .inl rq)), (a 5, .inl (cI, 40, .inl la)), (a 6, .inl (cI, 40, .inl rc)), (a 7, .inl (cI, 40, .inl su)), (b 0, .inr (0, [.ref (b 1), .ref (b 2), .ref (b 3), .int (nI n)])), (b 1, .inl (cI, 40, .inl me)), (b 2, .inl (cI, 40, .inl ar)), (b 3, .inl (cI, 40, .inl dl)), (d 0, .inr (2, [.ref (d 1), .ref (d 2), .ref (d 3), .ref (d 4), .int (nI fi), .int (nI sz)])), (d 1, .inl (cI, 40, .inl ki)), (d 2, .inl (cI, 40, .inl ow)), (d 3, .inl (cI, 40, .inl mr)), (d 4, .inl (cI, 40, .inl va))] H := hP
  have hD : va_D A [(a 0, .inr (1, [.ref (b 0), .ref (d 0), .ref (a 1), .ref (a 2), .ref (a 3), .ref (a 4), .ref (a 5), .ref (a 6), .ref (a 7), .int bu])), (a 1, .inl (cI, 40, .inl pa)), (a 2, .inl (cI, 40, .inl (upd oc k o))), (a 3, .inl (cI, 40, .inl cv)), (a 4, .inl (cI, 40, .inl rq)), (a 5, .inl (cI, 40, .inl la)), (a 6, .inl (cI, 40, .inl rc)), (a 7, .inl (cI, 40, .inl su)), (b 0, .inr (0, [.ref (b 1), .ref (b 2), .ref (b 3), .int (nI n)])), (b 1, .inl (cI, 40, .inl me)), (b 2, .inl (cI, 40, .inl ar)), (b 3, .inl (cI, 40, .inl dl)), (d 0, .inr (2, [.ref (d 1), .ref (d 2), .ref (d 3), .ref (d 4), .int (nI fi), .int (nI sz)])), (d 1, .inl (cI, 40, .inl ki)), (d 2, .inl (cI, 40, .inl ow)), (d 3, .inl (cI, 40, .inl mr)), (d 4, .inl (cI, 40, .inl va))] := hD
  refine lv_iconst (v := nI 1) hx hb dX1_endSilently_7 (by decide +kernel) ?_
  refine lv_aload_n hx hb dX1_endSilently_8 rfl (lv_at hl 0 rfl) ?_
  refine lv_iload_n hx hb dX1_endSilently_9 rfl (lv_at hl 1 rfl) ?_
  refine k_calli (S := CalS × LaneS) (wc := [(a 0, .inr (1, [.ref (b 0), .ref (d 0), .ref (a 1), .ref (a 2), .ref (a 3), .ref (a 4), .ref (a 5), .ref (a 6), .ref (a 7), .int bu])), (a 1, .inl (cI, 40, .inl pa)), (a 2, .inl (cI, 40, .inl (upd oc k o))), (a 3, .inl (cI, 40, .inl cv)), (a 4, .inl (cI, 40, .inl rq)), (a 5, .inl (cI, 40, .inl la)), (a 6, .inl (cI, 40, .inl rc)), (a 7, .inl (cI, 40, .inl su)), (b 0, .inr (0, [.ref (b 1), .ref (b 2), .ref (b 3), .int (nI n)])), (b 1, .inl (cI, 40, .inl me)), (b 2, .inl (cI, 40, .inl ar)), (b 3, .inl (cI, 40, .inl dl)), (d 0, .inr (2, [.ref (d 1), .ref (d 2), .ref (d 3), .ref (d 4), .int (nI fi), .int (nI sz)])), (d 1, .inl (cI, 40, .inl ki)), (d 2, .inl (cI, 40, .inl ow)), (d 3, .inl (cI, 40, .inl mr)), (d 4, .inl (cI, 40, .inl va))]) (wr := []) (w1 := fun u => [(a 0, .inr (1, [.ref (b 0), .ref (d 0), .ref (a 1), .ref (a 2), .ref (a 3), .ref (a 4), .ref (a 5), .ref (a 6), .ref (a 7), .int u.1.2.2.2.2.2.2.2])), (a 1, .inl (cI, 40, .inl u.1.1)), (a 2, .inl (cI, 40, .inl u.1.2.1)), (a 3, .inl (cI, 40, .inl u.1.2.2.1)), (a 4, .inl (cI, 40, .inl u.1.2.2.2.1)), (a 5, .inl (cI, 40, .inl u.1.2.2.2.2.1)), (a 6, .inl (cI, 40, .inl u.1.2.2.2.2.2.1)), (a 7, .inl (cI, 40, .inl u.1.2.2.2.2.2.2.1)), (b 0, .inr (0, [.ref (b 1), .ref (b 2), .ref (b 3), .int (nI n)])), (b 1, .inl (cI, 40, .inl me)), (b 2, .inl (cI, 40, .inl ar)), (b 3, .inl (cI, 40, .inl dl)), (d 0, .inr (2, [.ref (d 1), .ref (d 2), .ref (d 3), .ref (d 4), .int (nI u.2.2.2.2.2.1), .int (nI u.2.2.2.2.2.2)])), (d 1, .inl (cI, 40, .inl u.2.1)), (d 2, .inl (cI, 40, .inl u.2.2.1)), (d 3, .inl (cI, 40, .inl u.2.2.2.1)), (d 4, .inl (cI, 40, .inl u.2.2.2.2.1))]) (w2 := fun u => [(a 0, .inr (1, [.ref (b 0), .ref (d 0), .ref (a 1), .ref (a 2), .ref (a 3), .ref (a 4), .ref (a 5), .ref (a 6), .ref (a 7), .int u.1.2.2.2.2.2.2.2])), (a 1, .inl (cI, 40, .inl u.1.1)), (a 2, .inl (cI, 40, .inl u.1.2.1)), (a 3, .inl (cI, 40, .inl u.1.2.2.1)), (a 4, .inl (cI, 40, .inl u.1.2.2.2.1)), (a 5, .inl (cI, 40, .inl u.1.2.2.2.2.1)), (a 6, .inl (cI, 40, .inl u.1.2.2.2.2.2.1)), (a 7, .inl (cI, 40, .inl u.1.2.2.2.2.2.2.1)), (b 0, .inr (0, [.ref (b 1), .ref (b 2), .ref (b 3), .int (nI n)])), (b 1, .inl (cI, 40, .inl me)), (b 2, .inl (cI, 40, .inl ar)), (b 3, .inl (cI, 40, .inl dl)), (d 0, .inr (2, [.ref (d 1), .ref (d 2), .ref (d 3), .ref (d 4), .int (nI u.2.2.2.2.2.1), .int (nI u.2.2.2.2.2.2)])), (d 1, .inl (cI, 40, .inl u.2.1)), (d 2, .inl (cI, 40, .inl u.2.2.1)), (d 3, .inl (cI, 40, .inl u.2.2.2.1)), (d 4, .inl (cI, 40, .inl u.2.2.2.2.1))]) (va_runV (As := [.int (nI k)]) (rest := [.int (nI 1)]) ⟨hx, hb, hml, hown, hts⟩ (c_X1_cancelOrphans l G cI a b d pa (upd oc k o) cv rq la rc su bu me ar dl n ki ow mr va fi sz k (by first | omega | assumption) (by first | omega | assumption) (by first | omega | assumption) (by first | omega | assumption) H.size) (cwV 1 hts gX1_endSilently_X1_cancelOrphans rfl rfl rfl (by decide +kernel) ⟨Nat.le_of_ble_eq_true rfl, Nat.le_of_ble_eq_true rfl⟩) ⟨kPre.blind, va_recv hK hP (ci := 1) (q0 := 0) rfl rfl, kPre.at hP hK hD hS hA hN [0, 1, 2, 3, 4, 5, 6, 7, 8, 9, 10, 11, 12, 13, 14, 15, 16] rfl rfl⟩ rfl rfl hl.1 rfl (lv_room (Nat.le_of_ble_eq_true rfl)) dX1_endSilently_10 ⟨Nat.le_of_ble_eq_true rfl, Nat.le_of_ble_eq_true rfl⟩) hP hD hS hA [0, 1, 2, 3, 4, 5, 6, 7, 8, 9, 10, 11, 12, 13, 14, 15, 16] [] [0, 1, 2, 3, 4, 5, 6, 7, 8, 9, 10, 11, 12, 13, 14, 15, 16] rfl rfl ⟨rfl, by decide, rfl⟩ (fun _ => rfl) (fun r_1 u H locs hw_1 hP hD hS => ?_)
  obtain ⟨⟨pa_1, oc_1, cv_1, rq_1, la_1, rc_1, su_1, bu_1⟩, ⟨ki_1, ow_1, mr_1, va_1, fi_1, sz_1⟩⟩ := u
  obtain ⟨hw_1, hf_1, hs_1⟩ := hw_1
  have hf_1 : fi_1 < 40 := hf_1
  have hs_1 : sz_1 ≤ 40 := hs_1
  have hw_1 : ((((pa_1, oc_1, cv_1, rq_1, la_1, rc_1, su_1, bu_1), (ki_1, ow_1, mr_1, va_1, fi_1, sz_1)) : CalS × LaneS).1, (((pa_1, oc_1, cv_1, rq_1, la_1, rc_1, su_1, bu_1), (ki_1, ow_1, mr_1, va_1, fi_1, sz_1)) : CalS × LaneS).2, r_1) = k_orph n k (pa, (upd oc k o), cv, rq, la, rc, su, bu) (ki, ow, mr, va, fi, sz) := hw_1
  have hP : va_P G vwCl [(a 0, .inr (1, [.ref (b 0), .ref (d 0), .ref (a 1), .ref (a 2), .ref (a 3), .ref (a 4), .ref (a 5), .ref (a 6), .ref (a 7), .int bu_1])), (a 1, .inl (cI, 40, .inl pa_1)), (a 2, .inl (cI, 40, .inl oc_1)), (a 3, .inl (cI, 40, .inl cv_1)), (a 4, .inl (cI, 40, .inl rq_1)), (a 5, .inl (cI, 40, .inl la_1)), (a 6, .inl (cI, 40, .inl rc_1)), (a 7, .inl (cI, 40, .inl su_1)), (b 0, .inr (0, [.ref (b 1), .ref (b 2), .ref (b 3), .int (nI n)])), (b 1, .inl (cI, 40, .inl me)), (b 2, .inl (cI, 40, .inl ar)), (b 3, .inl (cI, 40, .inl dl)), (d 0, .inr (2, [.ref (d 1), .ref (d 2), .ref (d 3), .ref (d 4), .int (nI fi_1), .int (nI sz_1)])), (d 1, .inl (cI, 40, .inl ki_1)), (d 2, .inl (cI, 40, .inl ow_1)), (d 3, .inl (cI, 40, .inl mr_1)), (d 4, .inl (cI, 40, .inl va_1))] H := hP
  have hD : va_D A [(a 0, .inr (1, [.ref (b 0), .ref (d 0), .ref (a 1), .ref (a 2), .ref (a 3), .ref (a 4), .ref (a 5), .ref (a 6), .ref (a 7), .int bu_1])), (a 1, .inl (cI, 40, .inl pa_1)), (a 2, .inl (cI, 40, .inl oc_1)), (a 3, .inl (cI, 40, .inl cv_1)), (a 4, .inl (cI, 40, .inl rq_1)), (a 5, .inl (cI, 40, .inl la_1)), (a 6, .inl (cI, 40, .inl rc_1)), (a 7, .inl (cI, 40, .inl su_1)), (b 0, .inr (0, [.ref (b 1), .ref (b 2), .ref (b 3), .int (nI n)])), (b 1, .inl (cI, 40, .inl me)), (b 2, .inl (cI, 40, .inl ar)), (b 3, .inl (cI, 40, .inl dl)), (d 0, .inr (2, [.ref (d 1), .ref (d 2), .ref (d 3), .ref (d 4), .int (nI fi_1), .int (nI sz_1)])), (d 1, .inl (cI, 40, .inl ki_1)), (d 2, .inl (cI, 40, .inl ow_1)), (d 3, .inl (cI, 40, .inl mr_1)), (d 4, .inl (cI, 40, .inl va_1))] := hD
  refine lv_iadd hx hb dX1_endSilently_13 ?_
  have hS9 := hS.2.2
  have hq9 : (((((pa_1, oc_1, cv_1, rq_1, la_1, rc_1, su_1, bu_1), (ki_1, ow_1, mr_1, va_1, fi_1, sz_1)) : CalS × LaneS).1, (((pa_1, oc_1, cv_1, rq_1, la_1, rc_1, su_1, bu_1), (ki_1, ow_1, mr_1, va_1, fi_1, sz_1)) : CalS × LaneS).2, (nI 1 + r_1)) = k_endS n (pa, oc, cv, rq, la, rc, su, bu) (ki, ow, mr, va, fi, sz) k o) ∧ fi_1 < 40 ∧ sz_1 ≤ 40 := by refine ⟨?_, by omega, by omega⟩; simp only [k_endS, ↓reduceIte, eq_self, nI_10, and_true, true_and, and_false, false_and, not_true_eq_false, not_false_eq_true, Bool.and_true, Bool.true_and, Bool.and_false, Bool.false_and, decide_true, decide_false, Bool.false_eq_true, ← hw_1]
  exact W.iret (v := nI 1 + r_1) hx hb hr (fun t ht hW => ⟨⟨nI 1 + r_1, ((pa_1, oc_1, cv_1, rq_1, la_1, rc_1, su_1, bu_1), (ki_1, ow_1, mr_1, va_1, fi_1, sz_1)), rfl, hq9, by rw [ht]; exact hP, hD⟩, hS.F ht⟩) hS9 dX1_endSilently_14

theorem hk_X1_endAndTell_f15 : (.fieldLink RX1 15 "Callgate$Caller" "outcomes" "[I" : Cond) ∈ wsX1_endAndTell := by decide +kernel
theorem hi_X1_endAndTell_X1 : ∀ w ∈ u_ws RX1 TX1 10, w ∈ wsX1_endAndTell := by decide +kernel
theorem hk_X1_endAndTell_f41 : (.fieldLink RX1 41 "Callgate$Caller" "toServer" "LCallgate$Lane;" : Cond) ∈ wsX1_endAndTell := by decide +kernel
theorem hk_X1_endAndTell_iX2 : (.initialized RX2 : Cond) ∈ wsX1_endAndTell := by decide +kernel
theorem hk_X1_endAndTell_nX2_send : (.instanceMethod yX2_send : Cond) ∈ wsX1_endAndTell := by decide +kernel
theorem hk_X1_endAndTell_sX2_send : (.selects RX2 yX2_send yX2_send : Cond) ∈ wsX1_endAndTell := by decide +kernel
set_option maxHeartbeats 4000000 in
set_option maxRecDepth 100000 in
theorem c_X1_endAndTell (l : Launch) (G : va_G) (cI : ClassId) (a b d : Nat → Nat) (pa : Fn) (oc : Fn) (cv : Fn) (rq : Fn) (la : Fn) (rc : Fn) (su : Fn) (bu : Int32) (me : Fn) (ar : Fn) (dl : Fn) (n : Nat) (ki : Fn) (ow : Fn) (mr : Fn) (va : Fn) (fi : Nat) (sz : Nat) (k : Nat) (o : Int32) (hk : k < n) (hn : n ≤ 40) (hf : fi < 40) (hs : sz ≤ 40) (zz : Nat) : Met l yX1_endAndTell wsX1_endAndTell ({ frames := 4, cells := 0, slots := 0, locals := 91 }) (va_Pc [.ref (a 0), .int (nI k), .int o] (kPre G cI [(a 0, .inr (1, [.ref (b 0), .ref (d 0), .ref (a 1), .ref (a 2), .ref (a 3), .ref (a 4), .ref (a 5), .ref (a 6), .ref (a 7), .int bu])), (a 1, .inl (cI, 40, .inl pa)), (a 2, .inl (cI, 40, .inl oc)), (a 3, .inl (cI, 40, .inl cv)), (a 4, .inl (cI, 40, .inl rq)), (a 5, .inl (cI, 40, .inl la)), (a 6, .inl (cI, 40, .inl rc)), (a 7, .inl (cI, 40, .inl su)), (b 0, .inr (0, [.ref (b 1), .ref (b 2), .ref (b 3), .int (nI n)])), (b 1, .inl (cI, 40, .inl me)), (b 2, .inl (cI, 40, .inl ar)), (b 3, .inl (cI, 40, .inl dl)), (d 0, .inr (2, [.ref (d 1), .ref (d 2), .ref (d 3), .ref (d 4), .int (nI fi), .int (nI sz)])), (d 1, .inl (cI, 40, .inl ki)), (d 2, .inl (cI, 40, .inl ow)), (d 3, .inl (cI, 40, .inl mr)), (d 4, .inl (cI, 40, .inl va))] zz)) (va_Qi (fun (r : Int32) (u : CalS × LaneS) => ((u.1, u.2, r) = k_endT n (pa, oc, cv, rq, la, rc, su, bu) (ki, ow, mr, va, fi, sz) k o) ∧ u.2.2.2.2.2.1 < 40 ∧ u.2.2.2.2.2.2 ≤ 40) (fun (u : CalS × LaneS) t => kQ G [(a 0, .inr (1, [.ref (b 0), .ref (d 0), .ref (a 1), .ref (a 2), .ref (a 3), .ref (a 4), .ref (a 5), .ref (a 6), .ref (a 7), .int u.1.2.2.2.2.2.2.2])), (a 1, .inl (cI, 40, .inl u.1.1)), (a 2, .inl (cI, 40, .inl u.1.2.1)), (a 3, .inl (cI, 40, .inl u.1.2.2.1)), (a 4, .inl (cI, 40, .inl u.1.2.2.2.1)), (a 5, .inl (cI, 40, .inl u.1.2.2.2.2.1)), (a 6, .inl (cI, 40, .inl u.1.2.2.2.2.2.1)), (a 7, .inl (cI, 40, .inl u.1.2.2.2.2.2.2.1)), (b 0, .inr (0, [.ref (b 1), .ref (b 2), .ref (b 3), .int (nI n)])), (b 1, .inl (cI, 40, .inl me)), (b 2, .inl (cI, 40, .inl ar)), (b 3, .inl (cI, 40, .inl dl)), (d 0, .inr (2, [.ref (d 1), .ref (d 2), .ref (d 3), .ref (d 4), .int (nI u.2.2.2.2.2.1), .int (nI u.2.2.2.2.2.2)])), (d 1, .inl (cI, 40, .inl u.2.1)), (d 2, .inl (cI, 40, .inl u.2.2.1)), (d 3, .inl (cI, 40, .inl u.2.2.2.1)), (d 4, .inl (cI, 40, .inl u.2.2.2.2.1))] (va_A [(a 0, .inr (1, [.ref (b 0), .ref (d 0), .ref (a 1), .ref (a 2), .ref (a 3), .ref (a 4), .ref (a 5), .ref (a 6), .ref (a 7), .int bu])), (a 1, .inl (cI, 40, .inl pa)), (a 2, .inl (cI, 40, .inl oc)), (a 3, .inl (cI, 40, .inl cv)), (a 4, .inl (cI, 40, .inl rq)), (a 5, .inl (cI, 40, .inl la)), (a 6, .inl (cI, 40, .inl rc)), (a 7, .inl (cI, 40, .inl su)), (b 0, .inr (0, [.ref (b 1), .ref (b 2), .ref (b 3), .int (nI n)])), (b 1, .inl (cI, 40, .inl me)), (b 2, .inl (cI, 40, .inl ar)), (b 3, .inl (cI, 40, .inl dl)), (d 0, .inr (2, [.ref (d 1), .ref (d 2), .ref (d 3), .ref (d 4), .int (nI fi), .int (nI sz)])), (d 1, .inl (cI, 40, .inl ki)), (d 2, .inl (cI, 40, .inl ow)), (d 3, .inl (cI, 40, .inl mr)), (d 4, .inl (cI, 40, .inl va))] zz) t) (va_A [(a 0, .inr (1, [.ref (b 0), .ref (d 0), .ref (a 1), .ref (a 2), .ref (a 3), .ref (a 4), .ref (a 5), .ref (a 6), .ref (a 7), .int bu])), (a 1, .inl (cI, 40, .inl pa)), (a 2, .inl (cI, 40, .inl oc)), (a 3, .inl (cI, 40, .inl cv)), (a 4, .inl (cI, 40, .inl rq)), (a 5, .inl (cI, 40, .inl la)), (a 6, .inl (cI, 40, .inl rc)), (a 7, .inl (cI, 40, .inl su)), (b 0, .inr (0, [.ref (b 1), .ref (b 2), .ref (b 3), .int (nI n)])), (b 1, .inl (cI, 40, .inl me)), (b 2, .inl (cI, 40, .inl ar)), (b 3, .inl (cI, 40, .inl dl)), (d 0, .inr (2, [.ref (d 1), .ref (d 2), .ref (d 3), .ref (d 4), .int (nI fi), .int (nI sz)])), (d 1, .inl (cI, 40, .inl ki)), (d 2, .inl (cI, 40, .inl ow)), (d 3, .inl (cI, 40, .inl mr)), (d 4, .inl (cI, 40, .inl va))] zz)) 0 0 (va_A [(a 0, .inr (1, [.ref (b 0), .ref (d 0), .ref (a 1), .ref (a 2), .ref (a 3), .ref (a 4), .ref (a 5), .ref (a 6), .ref (a 7), .int bu])), (a 1, .inl (cI, 40, .inl pa)), (a 2, .inl (cI, 40, .inl oc)), (a 3, .inl (cI, 40, .inl cv)), (a 4, .inl (cI, 40, .inl rq)), (a 5, .inl (cI, 40, .inl la)), (a 6, .inl (cI, 40, .inl rc)), (a 7, .inl (cI, 40, .inl su)), (b 0, .inr (0, [.ref (b 1), .ref (b 2), .ref (b 3), .int (nI n)])), (b 1, .inl (cI, 40, .inl me)), (b 2, .inl (cI, 40, .inl ar)), (b 3, .inl (cI, 40, .inl dl)), (d 0, .inr (2, [.ref (d 1), .ref (d 2), .ref (d 3), .ref (d 4), .int (nI fi), .int (nI sz)])), (d 1, .inl (cI, 40, .inl ki)), (d 2, .inl (cI, 40, .inl ow)), (d 3, .inl (cI, 40, .inl mr)), (d 4, .inl (cI, 40, .inl va))] zz) := by
  refine Met.ofW (cc := cX1_endAndTell) (maxL := 3) (ret := (some .int)) (by decide) rfl ?_
  intro p e s m args below meth c s₁ B hml hv
  obtain ⟨rfl, hsz, hP, hK, hD0, hN⟩ := hv
  have hx := B.exec
  have hb := B.bytes
  have hr := B.returns
  have hts := atoms_spec (ws := wsX1_endAndTell) B.pre
  have hown : s.vm.findClass RX1 = some m.cls := findClass_of_methodNamed B.named
  have hlocks := B.notSynchronized
  subst hsz
  have hD := hD0.self (sz := s.heap.size)
  generalize hAe : va_A [(a 0, .inr (1, [.ref (b 0), .ref (d 0), .ref (a 1), .ref (a 2), .ref (a 3), .ref (a 4), .ref (a 5), .ref (a 6), .ref (a 7), .int bu])), (a 1, .inl (cI, 40, .inl pa)), (a 2, .inl (cI, 40, .inl oc)), (a 3, .inl (cI, 40, .inl cv)), (a 4, .inl (cI, 40, .inl rq)), (a 5, .inl (cI, 40, .inl la)), (a 6, .inl (cI, 40, .inl rc)), (a 7, .inl (cI, 40, .inl su)), (b 0, .inr (0, [.ref (b 1), .ref (b 2), .ref (b 3), .int (nI n)])), (b 1, .inl (cI, 40, .inl me)), (b 2, .inl (cI, 40, .inl ar)), (b 3, .inl (cI, 40, .inl dl)), (d 0, .inr (2, [.ref (d 1), .ref (d 2), .ref (d 3), .ref (d 4), .int (nI fi), .int (nI sz)])), (d 1, .inl (cI, 40, .inl ki)), (d 2, .inl (cI, 40, .inl ow)), (d 3, .inl (cI, 40, .inl mr)), (d 4, .inl (cI, 40, .inl va))] s.heap.size = A at hD hN ⊢
  have hA : ∀ q : Nat, s.heap.size ≤ q → A q := fun q h => by rw [← hAe]; exact Or.inr h
  have hS : va_S A s.heap s.heap [] := va_S.rf
  have hl := lv_entry ([.ref (a 0), .int (nI k), .int o]) (n := 3) (Nat.le_of_ble_eq_true rfl)
  rw [lg_entry_eq]
  generalize (lg_sl ([.ref (a 0), .int (nI k), .int o]) ++ List.replicate (3 - (lg_sl ([.ref (a 0), .int (nI k), .int o])).length) Slot.unset).toArray = ls at hl ⊢
  have hl : lv_has ls 3 [(0, .ref (a 0)), (1, .int (nI k)), (2, .int o)] := hl
  have hP : va_P G vwCl [(a 0, .inr (1, [.ref (b 0), .ref (d 0), .ref (a 1), .ref (a 2), .ref (a 3), .ref (a 4), .ref (a 5), .ref (a 6), .ref (a 7), .int bu])), (a 1, .inl (cI, 40, .inl pa)), (a 2, .inl (cI, 40, .inl oc)), (a 3, .inl (cI, 40, .inl cv)), (a 4, .inl (cI, 40, .inl rq)), (a 5, .inl (cI, 40, .inl la)), (a 6, .inl (cI, 40, .inl rc)), (a 7, .inl (cI, 40, .inl su)), (b 0, .inr (0, [.ref (b 1), .ref (b 2), .ref (b 3), .int (nI n)])), (b 1, .inl (cI, 40, .inl me)), (b 2, .inl (cI, 40, .inl ar)), (b 3, .inl (cI, 40, .inl dl)), (d 0, .inr (2, [.ref (d 1), .ref (d 2), .ref (d 3), .ref (d 4), .int (nI fi), .int (nI sz)])), (d 1, .inl (cI, 40, .inl ki)), (d 2, .inl (cI, 40, .inl ow)), (d 3, .inl (cI, 40, .inl mr)), (d 4, .inl (cI, 40, .inl va))] s.heap := hP
  obtain ⟨H, hH⟩ : ∃ H, H = s.heap := ⟨_, rfl⟩
  rw [← hH] at hP
  have hS : va_S A s.heap H [] := by rw [hH]; exact hS
  show W _ _ _ _ _ _ _ _ _ _ s.heap _ _ _ _ _
  rw [← hH]
  obtain ⟨locs, hlo⟩ : ∃ z : List Loc, z = [] := ⟨_, rfl⟩
  rw [← hlo] at hS ⊢
  refine lv_aload_n hx hb dX1_endAndTell_0 rfl (lv_at hl 0 rfl) ?_
  refine va_get (D := G) (ci := 1) (v := .ref (a 2)) (C := RX1) (T := TX1) (N := 10) hx hb hts hi_X1_endAndTell_X1 hown hK hP 0 rfl rfl 3 (by decide) (hts _ hk_X1_endAndTell_f15) (fun _ h9 => h9) rfl dX1_endAndTell_1 ?_
  refine lv_iload_n hx hb dX1_endAndTell_4 rfl (lv_at hl 1 rfl) ?_
  refine lv_iload_n hx hb dX1_endAndTell_5 rfl (lv_at hl 2 rfl) ?_
  refine gz_iast hx hb hK hP hD hS 2 rfl rfl (k := k) rfl (by omega) (by decide) dX1_endAndTell_6 (fun H locs hP hD hS => ?_)
  have hP : va_P G vwCl [(a 0, .inr (1, [.ref (b 0), .ref (d 0), .ref (a 1), .ref (a 2), .ref (a 3), .ref (a 4), .ref (a 5), .ref (a 6), .ref (a 7), .int bu])), (a 1, .inl (cI, 40, .inl pa)), (a 2, .inl (cI, 40, .inl (upd oc k o))), (a 3, .inl (cI, 40, .inl cv)), (a 4, .inl (cI, 40, .inl rq)), (a 5, .inl (cI, 40, .inl la)), (a 6, .inl (cI, 40, .inl rc)), (a 7, .inl (cI, 40, .inl su)), (b 0, .inr (0, [.ref (b 1), .ref (b 2), .ref (b 3), .int (nI n)])), (b 1, .inl (cI, 40, .inl me)), (b 2, .inl (cI, 40, .inl ar)), (b 3, .inl (cI, 40, .inl dl)), (d 0, .inr (2, [.ref (d 1), .ref (d 2), .ref (d 3), .ref (d 4), .int (nI fi), .int (nI sz)])), (d 1, .inl (cI, 40, .inl ki)), (d 2, .inl (cI, 40, .inl ow)), (d 3, .inl (cI, 40, .inl mr)), (d 4, .inl (cI, 40, .inl va))] H := hP
  have hD : va_D A [(a 0, .inr (1, [.ref (b 0), .ref (d 0), .ref (a 1), .ref (a 2), .ref (a 3), .ref (a 4), .ref (a 5), .ref (a 6), .ref (a 7), .int bu])), (a 1, .inl (cI, 40, .inl pa)), (a 2, .inl (cI, 40, .inl (upd oc k o))), (a 3, .inl (cI, 40, .inl cv)), (a 4, .inl (cI, 40, .inl rq)), (a 5, .inl (cI, 40, .inl la)), (a 6, .inl (cI, 40, .inl rc)), (a 7, .inl (cI, 40, .inl su)), (b 0, .inr (0, [.ref (b 1), .ref (b 2), .ref (b 3), .int (nI n)])), (b 1, .inl (cI, 40, .inl me)), (b 2, .inl (cI, 40, .inl ar)), (b 3, .inl (cI, 40, .inl dl)), (d 0, .inr (2, [.ref (d 1), .ref (d 2), .ref (d 3), .ref (d 4), .int (nI fi), .int (nI sz)])), (d 1, .inl (cI, 40, .inl ki)), (d 2, .inl (cI, 40, .inl ow)), (d 3, .inl (cI, 40, .inl mr)), (d 4, .inl (cI, 40, .inl va))] := hD
  refine lv_aload_n hx hb dX1_endAndTell_7 rfl (lv_at hl 0 rfl) ?_
  refine va_get (D := G) (ci := 1) (v := .ref (d 0)) (C := RX1) (T := TX1) (N := 10) hx hb hts hi_X1_endAndTell_X1 hown hK hP 0 rfl rfl 1 (by decide) (hts _ hk_X1_endAndTell_f41) (fun _ h9 => h9) rfl dX1_endAndTell_8 ?_
  refine lv_iconst (v := nI 1) hx hb dX1_endAndTell_11 (by decide +kernel) ?_
  refine lv_iload_n hx hb dX1_endAndTell_12 rfl (lv_at hl 1 rfl) ?_
  refine lv_iconst (v := nI 0) hx hb dX1_endAndTell_13 (by decide +kernel) ?_
  refine lv_iconst (v := nI 0) hx hb dX1_endAndTell_14 (by decide +kernel) ?_
  refine k_callv (S := Fn × Fn × Fn × Fn × Nat × Nat) (wc := [(d 0, .inr (2, [.ref (d 1), .ref (d 2), .ref (d 3), .ref (d 4), .int (nI fi), .int (nI sz)])), (d 1, .inl (cI, 40, .inl ki)), (d 2, .inl (cI, 40, .inl ow)), (d 3, .inl (cI, 40, .inl mr)), (d 4, .inl (cI, 40, .inl va))]) (wr := [(a 0, .inr (1, [.ref (b 0), .ref (d 0), .ref (a 1), .ref (a 2), .ref (a 3), .ref (a 4), .ref (a 5), .ref (a 6), .ref (a 7), .int bu])), (a 1, .inl (cI, 40, .inl pa)), (a 2, .inl (cI, 40, .inl (upd oc k o))), (a 3, .inl (cI, 40, .inl cv)), (a 4, .inl (cI, 40, .inl rq)), (a 5, .inl (cI, 40, .inl la)), (a 6, .inl (cI, 40, .inl rc)), (a 7, .inl (cI, 40, .inl su)), (b 0, .inr (0, [.ref (b 1), .ref (b 2), .ref (b 3), .int (nI n)])), (b 1, .inl (cI, 40, .inl me)), (b 2, .inl (cI, 40, .inl ar)), (b 3, .inl (cI, 40, .inl dl))]) (w1 := fun u => [(d 0, .inr (2, [.ref (d 1), .ref (d 2), .ref (d 3), .ref (d 4), .int (nI u.2.2.2.2.1), .int (nI u.2.2.2.2.2)])), (d 1, .inl (cI, 40, .inl u.1)), (d 2, .inl (cI, 40, .inl u.2.1)), (d 3, .inl (cI, 40, .inl u.2.2.1)), (d 4, .inl (cI, 40, .inl u.2.2.2.1))]) (w2 := fun u => [(a 0, .inr (1, [.ref (b 0), .ref (d 0), .ref (a 1), .ref (a 2), .ref (a 3), .ref (a 4), .ref (a 5), .ref (a 6), .ref (a 7), .int bu])), (a 1, .inl (cI, 40, .inl pa)), (a 2, .inl (cI, 40, .inl (upd oc k o))), (a 3, .inl (cI, 40, .inl cv)), (a 4, .inl (cI, 40, .inl rq)), (a 5, .inl (cI, 40, .inl la)), (a 6, .inl (cI, 40, .inl rc)), (a 7, .inl (cI, 40, .inl su)), (b 0, .inr (0, [.ref (b 1), .ref (b 2), .ref (b 3), .int (nI n)])), (b 1, .inl (cI, 40, .inl me)), (b 2, .inl (cI, 40, .inl ar)), (b 3, .inl (cI, 40, .inl dl)), (d 0, .inr (2, [.ref (d 1), .ref (d 2), .ref (d 3), .ref (d 4), .int (nI u.2.2.2.2.1), .int (nI u.2.2.2.2.2)])), (d 1, .inl (cI, 40, .inl u.1)), (d 2, .inl (cI, 40, .inl u.2.1)), (d 3, .inl (cI, 40, .inl u.2.2.1)), (d 4, .inl (cI, 40, .inl u.2.2.2.1))]) (va_runVN (As := [.int (nI 1), .int (nI k), .int (nI 0), .int (nI 0)]) (rest := []) ⟨hx, hb, hml, hown, hts⟩ (c_X2_send l G cI d ki ow mr va fi sz (nI 1) (nI k) (nI 0) (nI 0) (by first | omega | assumption) (by first | omega | assumption) H.size) ⟨va_cnB (host := RX4) 4 hts gX1_endAndTell_X2_send_n49 rfl rfl rfl (hN.1 _ (List.mem_of_getElem? (i := 30) rfl)) (hts _ hk_X1_endAndTell_iX2) (by decide +kernel) ⟨Nat.le_of_ble_eq_true rfl, Nat.le_of_ble_eq_true rfl⟩, (hts _ hk_X1_endAndTell_nX2_send), (hts _ hk_X1_endAndTell_sX2_send)⟩ ⟨kPre.blind, va_recv hK hP (ci := 2) (q0 := 12) rfl rfl, kPre.at hP hK hD hS hA hN [12, 13, 14, 15, 16] rfl rfl⟩ rfl rfl hl.1 rfl (lv_room (Nat.le_of_ble_eq_true rfl)) dX1_endAndTell_15 ⟨Nat.le_of_ble_eq_true rfl, Nat.le_of_ble_eq_true rfl⟩) hP hD hS hA [12, 13, 14, 15, 16] [0, 1, 2, 3, 4, 5, 6, 7, 8, 9, 10, 11] [0, 1, 2, 3, 4, 5, 6, 7, 8, 9, 10, 11, 12, 13, 14, 15, 16] rfl rfl ⟨rfl, by decide, rfl⟩ (fun _ => rfl) (fun u H locs hw_1 hP hD hS => ?_)
  obtain ⟨ki_1, ow_1, mr_1, va_1, fi_1, sz_1⟩ := u
  obtain ⟨hw_1, hf_1, hs_1⟩ := hw_1
  have hf_1 : fi_1 < 40 := hf_1
  have hs_1 : sz_1 ≤ 40 := hs_1
  have hw_1 : ((ki_1, ow_1, mr_1, va_1, fi_1, sz_1) : Fn × Fn × Fn × Fn × Nat × Nat) = l_send (ki, ow, mr, va, fi, sz) (nI 1) (nI k) (nI 0) (nI 0) := hw_1
  have hP : va_P G vwCl [(a 0, .inr (1, [.ref (b 0), .ref (d 0), .ref (a 1), .ref (a 2), .ref (a 3), .ref (a 4), .ref (a 5), .ref (a 6), .ref (a 7), .int bu])), (a 1, .inl (cI, 40, .inl pa)), (a 2, .inl (cI, 40, .inl (upd oc k o))), (a 3, .inl (cI, 40, .inl cv)), (a 4, .inl (cI, 40, .inl rq)), (a 5, .inl (cI, 40, .inl la)), (a 6, .inl (cI, 40, .inl rc)), (a 7, .inl (cI, 40, .inl su)), (b 0, .inr (0, [.ref (b 1), .ref (b 2), .ref (b 3), .int (nI n)])), (b 1, .inl (cI, 40, .inl me)), (b 2, .inl (cI, 40, .inl ar)), (b 3, .inl (cI, 40, .inl dl)), (d 0, .inr (2, [.ref (d 1), .ref (d 2), .ref (d 3), .ref (d 4), .int (nI fi_1), .int (nI sz_1)])), (d 1, .inl (cI, 40, .inl ki_1)), (d 2, .inl (cI, 40, .inl ow_1)), (d 3, .inl (cI, 40, .inl mr_1)), (d 4, .inl (cI, 40, .inl va_1))] H := hP
  have hD : va_D A [(a 0, .inr (1, [.ref (b 0), .ref (d 0), .ref (a 1), .ref (a 2), .ref (a 3), .ref (a 4), .ref (a 5), .ref (a 6), .ref (a 7), .int bu])), (a 1, .inl (cI, 40, .inl pa)), (a 2, .inl (cI, 40, .inl (upd oc k o))), (a 3, .inl (cI, 40, .inl cv)), (a 4, .inl (cI, 40, .inl rq)), (a 5, .inl (cI, 40, .inl la)), (a 6, .inl (cI, 40, .inl rc)), (a 7, .inl (cI, 40, .inl su)), (b 0, .inr (0, [.ref (b 1), .ref (b 2), .ref (b 3), .int (nI n)])), (b 1, .inl (cI, 40, .inl me)), (b 2, .inl (cI, 40, .inl ar)), (b 3, .inl (cI, 40, .inl dl)), (d 0, .inr (2, [.ref (d 1), .ref (d 2), .ref (d 3), .ref (d 4), .int (nI fi_1), .int (nI sz_1)])), (d 1, .inl (cI, 40, .inl ki_1)), (d 2, .inl (cI, 40, .inl ow_1)), (d 3, .inl (cI, 40, .inl mr_1)), (d 4, .inl (cI, 40, .inl va_1))] := hD
  refine lv_iconst (v := nI 1) hx hb dX1_endAndTell_18 (by decide +kernel) ?_
  refine lv_aload_n hx hb dX1_endAndTell_19 rfl (lv_at hl 0 rfl) ?_
  refine lv_iload_n hx hb dX1_endAndTell_20 rfl (lv_at hl 1 rfl) ?_
  refine k_calli (S := CalS × LaneS) (wc := [(a 0, .inr (1, [.ref (b 0), .ref (d 0), .ref (a 1), .ref (a 2), .ref (a 3), .ref (a 4), .ref (a 5), .ref (a 6), .ref (a 7), .int bu])), (a 1, .inl (cI, 40, .inl pa)), (a 2, .inl (cI, 40, .inl (upd oc k o))), (a 3, .inl (cI, 40, .inl cv)), (a 4, .inl (cI, 40, .inl rq)), (a 5, .inl (cI, 40, .inl la)), (a 6, .inl (cI, 40, .inl rc)), (a 7, .inl (cI, 40, .inl su)), (b 0, .inr (0, [.ref (b 1), .ref (b 2), .ref (b 3), .int (nI n)])), (b 1, .inl (cI, 40, .inl me)), (b 2, .inl (cI, 40, .inl ar)), (b 3, .inl (cI, 40, .inl dl)), (d 0, .inr (2, [.ref (d 1), .ref (d 2), .ref (d 3), .ref (d 4), .int (nI fi_1), .int (nI sz_1)])), (d 1, .inl (cI, 40, .inl ki_1)), (d 2, .inl (cI, 40, .inl ow_1)), (d 3, .inl (cI, 40, .inl mr_1)), (d 4, .inl (cI, 40, .inl va_1))]) (wr := []) (w1 := fun u => [(a 0, .inr (1, [.ref (b 0), .ref (d 0), .ref (a 1), .ref (a 2), .ref (a 3), .ref (a 4), .ref (a 5), .ref (a 6), .ref (a 7), .int u.1.2.2.2.2.2.2.2])), (a 1, .inl (cI, 40, .inl u.1.1)), (a 2, .inl (cI, 40, .inl u.1.2.1)), (a 3, .inl (cI, 40, .inl u.1.2.2.1)), (a 4, .inl (cI, 40, .inl u.1.2.2.2.1)), (a 5, .inl (cI, 40, .inl u.1.2.2.2.2.1)), (a 6, .inl (cI, 40, .inl u.1.2.2.2.2.2.1)), (a 7, .inl (cI, 40, .inl u.1.2.2.2.2.2.2.1)), (b 0, .inr (0, [.ref (b 1), .ref (b 2), .ref (b 3), .int (nI n)])), (b 1, .inl (cI, 40, .inl me)), (b 2, .inl (cI, 40, .inl ar)), (b 3, .inl (cI, 40, .inl dl)), (d 0, .inr (2, [.ref (d 1), .ref (d 2), .ref (d 3), .ref (d 4), .int (nI u.2.2.2.2.2.1), .int (nI u.2.2.2.2.2.2)])), (d 1, .inl (cI, 40, .inl u.2.1)), (d 2, .inl (cI, 40, .inl u.2.2.1)), (d 3, .inl (cI, 40, .inl u.2.2.2.1)), (d 4, .inl (cI, 40, .inl u.2.2.2.2.1))]) (w2 := fun u => [(a 0, .inr (1, [.ref (b 0), .ref (d 0), .ref (a 1), .ref (a 2), .ref (a 3), .ref (a 4), .ref (a 5), .ref (a 6), .ref (a 7), .int u.1.2.2.2.2.2.2.2])), (a 1, .inl (cI, 40, .inl u.1.1)), (a 2, .inl (cI, 40, .inl u.1.2.1)), (a 3, .inl (cI, 40, .inl u.1.2.2.1)), (a 4, .inl (cI, 40, .inl u.1.2.2.2.1)), (a 5, .inl (cI, 40, .inl u.1.2.2.2.2.1)), (a 6, .inl (cI, 40, .inl u.1.2.2.2.2.2.1)), (a 7, .inl (cI, 40, .inl u.1.2.2.2.2.2.2.1)), (b 0, .inr (0, [.ref (b 1), .ref (b 2), .ref (b 3), .int (nI n)])), (b 1, .inl (cI, 40, .inl me)), (b 2, .inl (cI, 40, .inl ar)), (b 3, .inl (cI, 40, .inl dl)), (d 0, .inr (2, [.ref (d 1), .ref (d 2), .ref (d 3), .ref (d 4), .int (nI u.2.2.2.2.2.1), .int (nI u.2.2.2.2.2.2)])), (d 1, .inl (cI, 40, .inl u.2.1)), (d 2, .inl (cI, 40, .inl u.2.2.1)), (d 3, .inl (cI, 40, .inl u.2.2.2.1)), (d 4, .inl (cI, 40, .inl u.2.2.2.2.1))]) (va_runV (As := [.int (nI k)]) (rest := [.int (nI 1)]) ⟨hx, hb, hml, hown, hts⟩ (c_X1_cancelOrphans l G cI a b d pa (upd oc k o) cv rq la rc su bu me ar dl n ki_1 ow_1 mr_1 va_1 fi_1 sz_1 k (by first | omega | assumption) (by first | omega | assumption) (by first | omega | assumption) (by first | omega | assumption) H.size) (cwV 1 hts gX1_endAndTell_X1_cancelOrphans rfl rfl rfl (by decide +kernel) ⟨Nat.le_of_ble_eq_true rfl, Nat.le_of_ble_eq_true rfl⟩) ⟨kPre.blind, va_recv hK hP (ci := 1) (q0 := 0) rfl rfl, kPre.at hP hK hD hS hA hN [0, 1, 2, 3, 4, 5, 6, 7, 8, 9, 10, 11, 12, 13, 14, 15, 16] rfl rfl⟩ rfl rfl hl.1 rfl (lv_room (Nat.le_of_ble_eq_true rfl)) dX1_endAndTell_21 ⟨Nat.le_of_ble_eq_true rfl, Nat.le_of_ble_eq_true rfl⟩) hP hD hS hA [0, 1, 2, 3, 4, 5, 6, 7, 8, 9, 10, 11, 12, 13, 14, 15, 16] [] [0, 1, 2, 3, 4, 5, 6, 7, 8, 9, 10, 11, 12, 13, 14, 15, 16] rfl rfl ⟨rfl, by decide, rfl⟩ (fun _ => rfl) (fun r_2 u H locs hw_2 hP hD hS => ?_)
  obtain ⟨⟨pa_2, oc_2, cv_2, rq_2, la_2, rc_2, su_2, bu_2⟩, ⟨ki_2, ow_2, mr_2, va_2, fi_2, sz_2⟩⟩ := u
  obtain ⟨hw_2, hf_2, hs_2⟩ := hw_2
  have hf_2 : fi_2 < 40 := hf_2
  have hs_2 : sz_2 ≤ 40 := hs_2
  have hw_2 : ((((pa_2, oc_2, cv_2, rq_2, la_2, rc_2, su_2, bu_2), (ki_2, ow_2, mr_2, va_2, fi_2, sz_2)) : CalS × LaneS).1, (((pa_2, oc_2, cv_2, rq_2, la_2, rc_2, su_2, bu_2), (ki_2, ow_2, mr_2, va_2, fi_2, sz_2)) : CalS × LaneS).2, r_2) = k_orph n k (pa, (upd oc k o), cv, rq, la, rc, su, bu) (ki_1, ow_1, mr_1, va_1, fi_1, sz_1) := hw_2
  have hP : va_P G vwCl [(a 0, .inr (1, [.ref (b 0), .ref (d 0), .ref (a 1), .ref (a 2), .ref (a 3), .ref (a 4), .ref (a 5), .ref (a 6), .ref (a 7), .int bu_2])), (a 1, .inl (cI, 40, .inl pa_2)), (a 2, .inl (cI, 40, .inl oc_2)), (a 3, .inl (cI, 40, .inl cv_2)), (a 4, .inl (cI, 40, .inl rq_2)), (a 5, .inl (cI, 40, .inl la_2)), (a 6, .inl (cI, 40, .inl rc_2)), (a 7, .inl (cI, 40, .inl su_2)), (b 0, .inr (0, [.ref (b 1), .ref (b 2), .ref (b 3), .int (nI n)])), (b 1, .inl (cI, 40, .inl me)), (b 2, .inl (cI, 40, .inl ar)), (b 3, .inl (cI, 40, .inl dl)), (d 0, .inr (2, [.ref (d 1), .ref (d 2), .ref (d 3), .ref (d 4), .int (nI fi_2), .int (nI sz_2)])), (d 1, .inl (cI, 40, .inl ki_2)), (d 2, .inl (cI, 40, .inl ow_2)), (d 3, .inl (cI, 40, .inl mr_2)), (d 4, .inl (cI, 40, .inl va_2))] H := hP
  have hD : va_D A [(a 0, .inr (1, [.ref (b 0), .ref (d 0), .ref (a 1), .ref (a 2), .ref (a 3), .ref (a 4), .ref (a 5), .ref (a 6), .ref (a 7), .int bu_2])), (a 1, .inl (cI, 40, .inl pa_2)), (a 2, .inl (cI, 40, .inl oc_2)), (a 3, .inl (cI, 40, .inl cv_2)), (a 4, .inl (cI, 40, .inl rq_2)), (a 5, .inl (cI, 40, .inl la_2)), (a 6, .inl (cI, 40, .inl rc_2)), (a 7, .inl (cI, 40, .inl su_2)), (b 0, .inr (0, [.ref (b 1), .ref (b 2), .ref (b 3), .int (nI n)])), (b 1, .inl (cI, 40, .inl me)), (b 2, .inl (cI, 40, .inl ar)), (b 3, .inl (cI, 40, .inl dl)), (d 0, .inr (2, [.ref (d 1), .ref (d 2), .ref (d 3), .ref (d 4), .int (nI fi_2), .int (nI sz_2)])), (d 1, .inl (cI, 40, .inl ki_2)), (d 2, .inl (cI, 40, .inl ow_2)), (d 3, .inl (cI, 40, .inl mr_2)), (d 4, .inl (cI, 40, .inl va_2))] := hD
  refine lv_iadd hx hb dX1_endAndTell_24 ?_
  have hS9 := hS.2.2
  have hq9 : (((((pa_2, oc_2, cv_2, rq_2, la_2, rc_2, su_2, bu_2), (ki_2, ow_2, mr_2, va_2, fi_2, sz_2)) : CalS × LaneS).1, (((pa_2, oc_2, cv_2, rq_2, la_2, rc_2, su_2, bu_2), (ki_2, ow_2, mr_2, va_2, fi_2, sz_2)) : CalS × LaneS).2, (nI 1 + r_2)) = k_endT n (pa, oc, cv, rq, la, rc, su, bu) (ki, ow, mr, va, fi, sz) k o) ∧ fi_2 < 40 ∧ sz_2 ≤ 40 := by refine ⟨?_, by omega, by omega⟩; simp only [k_endT, ↓reduceIte, eq_self, nI_10, and_true, true_and, and_false, false_and, not_true_eq_false, not_false_eq_true, Bool.and_true, Bool.true_and, Bool.and_false, Bool.false_and, decide_true, decide_false, Bool.false_eq_true, ← hw_1, ← hw_2]
  exact W.iret (v := nI 1 + r_2) hx hb hr (fun t ht hW => ⟨⟨nI 1 + r_2, ((pa_2, oc_2, cv_2, rq_2, la_2, rc_2, su_2, bu_2), (ki_2, ow_2, mr_2, va_2, fi_2, sz_2)), rfl, hq9, by rw [ht]; exact hP, hD⟩, hS.F ht⟩) hS9 dX1_endAndTell_25

theorem hk_X1_takeAnswer_f37 : (.fieldLink RX1 37 "Callgate$Caller" "book" "LCallgate$Book;" : Cond) ∈ wsX1_takeAnswer := by decide +kernel
theorem hi_X1_takeAnswer_X1 : ∀ w ∈ u_ws RX1 TX1 10, w ∈ wsX1_takeAnswer := by decide +kernel
theorem hi_X1_takeAnswer_X0 : ∀ w ∈ u_ws RX0 TX0 4, w ∈ wsX1_takeAnswer := by decide +kernel
theorem hk_X1_takeAnswer_f18 : (.fieldLink RX1 18 "Callgate$Caller" "values" "[I" : Cond) ∈ wsX1_takeAnswer := by decide +kernel
theorem hk_X1_takeAnswer_f33 : (.fieldLink RX1 33 "Callgate$Caller" "budget" "I" : Cond) ∈ wsX1_takeAnswer := by decide +kernel
theorem hk_X1_takeAnswer_m85 : (.methodLink RX1 85 Lib.Math.min.name : Cond) ∈ wsX1_takeAnswer := by decide +kernel
theorem hk_X1_takeAnswer_msmin : (.static Lib.Math.min.name : Cond) ∈ wsX1_takeAnswer := by decide +kernel
theorem hk_X1_takeAnswer_mi : (.initialized "java/lang/Math" : Cond) ∈ wsX1_takeAnswer := by decide +kernel
theorem hk_X1_takeAnswer_mcmin : (.code Lib.Math.min.name Lib.Math.min.code 2 (some .int) : Cond) ∈ wsX1_takeAnswer := by decide +kernel
theorem hk_X1_takeAnswer_f27 : (.fieldLink RX1 27 "Callgate$Caller" "itemsReceived" "[I" : Cond) ∈ wsX1_takeAnswer := by decide +kernel
set_option maxHeartbeats 4000000 in
set_option maxRecDepth 100000 in
theorem c_X1_takeAnswer (l : Launch) (G : va_G) (cI : ClassId) (a b d : Nat → Nat) (pa : Fn) (oc : Fn) (cv : Fn) (rq : Fn) (la : Fn) (rc : Fn) (su : Fn) (bu : Int32) (me : Fn) (ar : Fn) (dl : Fn) (n : Nat) (ki : Fn) (ow : Fn) (mr : Fn) (va : Fn) (fi : Nat) (sz : Nat) (k : Nat) (q : Int32) (v : Int32) (hk : k < n) (hn : n ≤ 40) (hf : fi < 40) (hs : sz ≤ 40) (zz : Nat) : Met l yX1_takeAnswer wsX1_takeAnswer ({ frames := 5, cells := 0, slots := 0, locals := 113 }) (va_Pc [.ref (a 0), .int (nI k), .int q, .int v] (kPre G cI [(a 0, .inr (1, [.ref (b 0), .ref (d 0), .ref (a 1), .ref (a 2), .ref (a 3), .ref (a 4), .ref (a 5), .ref (a 6), .ref (a 7), .int bu])), (a 1, .inl (cI, 40, .inl pa)), (a 2, .inl (cI, 40, .inl oc)), (a 3, .inl (cI, 40, .inl cv)), (a 4, .inl (cI, 40, .inl rq)), (a 5, .inl (cI, 40, .inl la)), (a 6, .inl (cI, 40, .inl rc)), (a 7, .inl (cI, 40, .inl su)), (b 0, .inr (0, [.ref (b 1), .ref (b 2), .ref (b 3), .int (nI n)])), (b 1, .inl (cI, 40, .inl me)), (b 2, .inl (cI, 40, .inl ar)), (b 3, .inl (cI, 40, .inl dl)), (d 0, .inr (2, [.ref (d 1), .ref (d 2), .ref (d 3), .ref (d 4), .int (nI fi), .int (nI sz)])), (d 1, .inl (cI, 40, .inl ki)), (d 2, .inl (cI, 40, .inl ow)), (d 3, .inl (cI, 40, .inl mr)), (d 4, .inl (cI, 40, .inl va))] zz)) (va_Qv (fun (u : CalS × LaneS) => (u = k_tans n me (pa, oc, cv, rq, la, rc, su, bu) (ki, ow, mr, va, fi, sz) k q v) ∧ u.2.2.2.2.2.1 < 40 ∧ u.2.2.2.2.2.2 ≤ 40) (fun (u : CalS × LaneS) t => kQ G [(a 0, .inr (1, [.ref (b 0), .ref (d 0), .ref (a 1), .ref (a 2), .ref (a 3), .ref (a 4), .ref (a 5), .ref (a 6), .ref (a 7), .int u.1.2.2.2.2.2.2.2])), (a 1, .inl (cI, 40, .inl u.1.1)), (a 2, .inl (cI, 40, .inl u.1.2.1)), (a 3, .inl (cI, 40, .inl u.1.2.2.1)), (a 4, .inl (cI, 40, .inl u.1.2.2.2.1)), (a 5, .inl (cI, 40, .inl u.1.2.2.2.2.1)), (a 6, .inl (cI, 40, .inl u.1.2.2.2.2.2.1)), (a 7, .inl (cI, 40, .inl u.1.2.2.2.2.2.2.1)), (b 0, .inr (0, [.ref (b 1), .ref (b 2), .ref (b 3), .int (nI n)])), (b 1, .inl (cI, 40, .inl me)), (b 2, .inl (cI, 40, .inl ar)), (b 3, .inl (cI, 40, .inl dl)), (d 0, .inr (2, [.ref (d 1), .ref (d 2), .ref (d 3), .ref (d 4), .int (nI u.2.2.2.2.2.1), .int (nI u.2.2.2.2.2.2)])), (d 1, .inl (cI, 40, .inl u.2.1)), (d 2, .inl (cI, 40, .inl u.2.2.1)), (d 3, .inl (cI, 40, .inl u.2.2.2.1)), (d 4, .inl (cI, 40, .inl u.2.2.2.2.1))] (va_A [(a 0, .inr (1, [.ref (b 0), .ref (d 0), .ref (a 1), .ref (a 2), .ref (a 3), .ref (a 4), .ref (a 5), .ref (a 6), .ref (a 7), .int bu])), (a 1, .inl (cI, 40, .inl pa)), (a 2, .inl (cI, 40, .inl oc)), (a 3, .inl (cI, 40, .inl cv)), (a 4, .inl (cI, 40, .inl rq)), (a 5, .inl (cI, 40, .inl la)), (a 6, .inl (cI, 40, .inl rc)), (a 7, .inl (cI, 40, .inl su)), (b 0, .inr (0, [.ref (b 1), .ref (b 2), .ref (b 3), .int (nI n)])), (b 1, .inl (cI, 40, .inl me)), (b 2, .inl (cI, 40, .inl ar)), (b 3, .inl (cI, 40, .inl dl)), (d 0, .inr (2, [.ref (d 1), .ref (d 2), .ref (d 3), .ref (d 4), .int (nI fi), .int (nI sz)])), (d 1, .inl (cI, 40, .inl ki)), (d 2, .inl (cI, 40, .inl ow)), (d 3, .inl (cI, 40, .inl mr)), (d 4, .inl (cI, 40, .inl va))] zz) t) (va_A [(a 0, .inr (1, [.ref (b 0), .ref (d 0), .ref (a 1), .ref (a 2), .ref (a 3), .ref (a 4), .ref (a 5), .ref (a 6), .ref (a 7), .int bu])), (a 1, .inl (cI, 40, .inl pa)), (a 2, .inl (cI, 40, .inl oc)), (a 3, .inl (cI, 40, .inl cv)), (a 4, .inl (cI, 40, .inl rq)), (a 5, .inl (cI, 40, .inl la)), (a 6, .inl (cI, 40, .inl rc)), (a 7, .inl (cI, 40, .inl su)), (b 0, .inr (0, [.ref (b 1), .ref (b 2), .ref (b 3), .int (nI n)])), (b 1, .inl (cI, 40, .inl me)), (b 2, .inl (cI, 40, .inl ar)), (b 3, .inl (cI, 40, .inl dl)), (d 0, .inr (2, [.ref (d 1), .ref (d 2), .ref (d 3), .ref (d 4), .int (nI fi), .int (nI sz)])), (d 1, .inl (cI, 40, .inl ki)), (d 2, .inl (cI, 40, .inl ow)), (d 3, .inl (cI, 40, .inl mr)), (d 4, .inl (cI, 40, .inl va))] zz)) 0 0 (va_A [(a 0, .inr (1, [.ref (b 0), .ref (d 0), .ref (a 1), .ref (a 2), .ref (a 3), .ref (a 4), .ref (a 5), .ref (a 6), .ref (a 7), .int bu])), (a 1, .inl (cI, 40, .inl pa)), (a 2, .inl (cI, 40, .inl oc)), (a 3, .inl (cI, 40, .inl cv)), (a 4, .inl (cI, 40, .inl rq)), (a 5, .inl (cI, 40, .inl la)), (a 6, .inl (cI, 40, .inl rc)), (a 7, .inl (cI, 40, .inl su)), (b 0, .inr (0, [.ref (b 1), .ref (b 2), .ref (b 3), .int (nI n)])), (b 1, .inl (cI, 40, .inl me)), (b 2, .inl (cI, 40, .inl ar)), (b 3, .inl (cI, 40, .inl dl)), (d 0, .inr (2, [.ref (d 1), .ref (d 2), .ref (d 3), .ref (d 4), .int (nI fi), .int (nI sz)])), (d 1, .inl (cI, 40, .inl ki)), (d 2, .inl (cI, 40, .inl ow)), (d 3, .inl (cI, 40, .inl mr)), (d 4, .inl (cI, 40, .inl va))] zz) := by
  refine Met.ofW (cc := cX1_takeAnswer) (maxL := 4) (ret := none) (by decide) rfl ?_
  intro p e s m args below meth c s₁ B hml hv
  obtain ⟨rfl, hsz, hP, hK, hD0, hN⟩ := hv
  have hx := B.exec
  have hb := B.bytes
  have hr := B.returns
  have hts := atoms_spec (ws := wsX1_takeAnswer) B.pre
  have hown : s.vm.findClass RX1 = some m.cls := findClass_of_methodNamed B.named
  have hlocks := B.notSynchronized
  subst hsz
  have hD := hD0.self (sz := s.heap.size)
  generalize hAe : va_A [(a 0, .inr (1, [.ref (b 0), .ref (d 0), .ref (a 1), .ref (a 2), .ref (a 3), .ref (a 4), .ref (a 5), .ref (a 6), .ref (a 7), .int bu])), (a 1, .inl (cI, 40, .inl pa)), (a 2, .inl (cI, 40, .inl oc)), (a 3, .inl (cI, 40, .inl cv)), (a 4, .inl (cI, 40, .inl rq)), (a 5, .inl (cI, 40, .inl la)), (a 6, .inl (cI, 40, .inl rc)), (a 7, .inl (cI, 40, .inl su)), (b 0, .inr (0, [.ref (b 1), .ref (b 2), .ref (b 3), .int (nI n)])), (b 1, .inl (cI, 40, .inl me)), (b 2, .inl (cI, 40, .inl ar)), (b 3, .inl (cI, 40, .inl dl)), (d 0, .inr (2, [.ref (d 1), .ref (d 2), .ref (d 3), .ref (d 4), .int (nI fi), .int (nI sz)])), (d 1, .inl (cI, 40, .inl ki)), (d 2, .inl (cI, 40, .inl ow)), (d 3, .inl (cI, 40, .inl mr)), (d 4, .inl (cI, 40, .inl va))] s.heap.size = A at hD hN ⊢
  have hA : ∀ q : Nat, s.heap.size ≤ q → A q := fun q h => by rw [← hAe]; exact Or.inr h
  have hS : va_S A s.heap s.heap [] := va_S.rf
  have hl := lv_entry ([.ref (a 0), .int (nI k), .int q, .int v]) (n := 4) (Nat.le_of_ble_eq_true rfl)
  rw [lg_entry_eq]
  generalize (lg_sl ([.ref (a 0), .int (nI k), .int q, .int v]) ++ List.replicate (4 - (lg_sl ([.ref (a 0), .int (nI k), .int q, .int v])).length) Slot.unset).toArray = ls at hl ⊢
  have hl : lv_has ls 4 [(0, .ref (a 0)), (1, .int (nI k)), (2, .int q), (3, .int v)] := hl
  have hP : va_P G vwCl [(a 0, .inr (1, [.ref (b 0), .ref (d 0), .ref (a 1), .ref (a 2), .ref (a 3), .ref (a 4), .ref (a 5), .ref (a 6), .ref (a 7), .int bu])), (a 1, .inl (cI, 40, .inl pa)), (a 2, .inl (cI, 40, .inl oc)), (a 3, .inl (cI, 40, .inl cv)), (a 4, .inl (cI, 40, .inl rq)), (a 5, .inl (cI, 40, .inl la)), (a 6, .inl (cI, 40, .inl rc)), (a 7, .inl (cI, 40, .inl su)), (b 0, .inr (0, [.ref (b 1), .ref (b 2), .ref (b 3), .int (nI n)])), (b 1, .inl (cI, 40, .inl me)), (b 2, .inl (cI, 40, .inl ar)), (b 3, .inl (cI, 40, .inl dl)), (d 0, .inr (2, [.ref (d 1), .ref (d 2), .ref (d 3), .ref (d 4), .int (nI fi), .int (nI sz)])), (d 1, .inl (cI, 40, .inl ki)), (d 2, .inl (cI, 40, .inl ow)), (d 3, .inl (cI, 40, .inl mr)), (d 4, .inl (cI, 40, .inl va))] s.heap := hP
  obtain ⟨H, hH⟩ : ∃ H, H = s.heap := ⟨_, rfl⟩
  rw [← hH] at hP
  have hS : va_S A s.heap H [] := by rw [hH]; exact hS
  show W _ _ _ _ _ _ _ _ _ _ s.heap _ _ _ _ _
  rw [← hH]
  obtain ⟨locs, hlo⟩ : ∃ z : List Loc, z = [] := ⟨_, rfl⟩
  rw [← hlo] at hS ⊢
  refine lv_aload_n hx hb dX1_takeAnswer_0 rfl (lv_at hl 0 rfl) ?_
  refine va_get (D := G) (ci := 1) (v := .ref (b 0)) (C := RX1) (T := TX1) (N := 10) hx hb hts hi_X1_takeAnswer_X1 hown hK hP 0 rfl rfl 0 (by decide) (hts _ hk_X1_takeAnswer_f37) (fun _ h9 => h9) rfl dX1_takeAnswer_1 ?_
  refine va_getN (D := G) (ci := 0) (v := .ref (b 1)) (C := RX0) (T := TX0) (N := 4) hx hb hts hi_X1_takeAnswer_X0 hown hK hP 8 rfl rfl 0 (by decide) (va_Nw.use rfl (hN.1 _ (List.mem_of_getElem? (i := 3) rfl))) (fun _ h9 => h9) rfl dX1_takeAnswer_4 ?_
  refine lv_iload_n hx hb dX1_takeAnswer_7 rfl (lv_at hl 1 rfl) ?_
  refine gz_iald hx hb hK hP 9 rfl rfl (k := k) rfl (by omega) (by decide) dX1_takeAnswer_8 ?_
  refine lv_iconst (v := nI 3) hx hb dX1_takeAnswer_9 (by decide +kernel) ?_
  refine lv_icmp_ne (tgt := 31) hx hb dX1_takeAnswer_10 (by decide) (fun c_1 => ?_) (fun c_1 => ?_)
  · skip
    refine lv_aload_n hx hb dX1_takeAnswer_31 rfl (lv_at hl 0 rfl) ?_
    refine va_get (D := G) (ci := 1) (v := .ref (a 3)) (C := RX1) (T := TX1) (N := 10) hx hb hts hi_X1_takeAnswer_X1 hown hK hP 0 rfl rfl 4 (by decide) (hts _ hk_X1_takeAnswer_f18) (fun _ h9 => h9) rfl dX1_takeAnswer_32 ?_
    refine lv_iload_n hx hb dX1_takeAnswer_35 rfl (lv_at hl 1 rfl) ?_
    refine lv_iload_n hx hb dX1_takeAnswer_36 rfl (lv_at hl 3 rfl) ?_
    refine gz_iast hx hb hK hP hD hS 3 rfl rfl (k := k) rfl (by omega) (by decide) dX1_takeAnswer_37 (fun H locs hP hD hS => ?_)
    have hP : va_P G vwCl [(a 0, .inr (1, [.ref (b 0), .ref (d 0), .ref (a 1), .ref (a 2), .ref (a 3), .ref (a 4), .ref (a 5), .ref (a 6), .ref (a 7), .int bu])), (a 1, .inl (cI, 40, .inl pa)), (a 2, .inl (cI, 40, .inl oc)), (a 3, .inl (cI, 40, .inl (upd cv k v))), (a 4, .inl (cI, 40, .inl rq)), (a 5, .inl (cI, 40, .inl la)), (a 6, .inl (cI, 40, .inl rc)), (a 7, .inl (cI, 40, .inl su)), (b 0, .inr (0, [.ref (b 1), .ref (b 2), .ref (b 3), .int (nI n)])), (b 1, .inl (cI, 40, .inl me)), (b 2, .inl (cI, 40, .inl ar)), (b 3, .inl (cI, 40, .inl dl)), (d 0, .inr (2, [.ref (d 1), .ref (d 2), .ref (d 3), .ref (d 4), .int (nI fi), .int (nI sz)])), (d 1, .inl (cI, 40, .inl ki)), (d 2, .inl (cI, 40, .inl ow)), (d 3, .inl (cI, 40, .inl mr)), (d 4, .inl (cI, 40, .inl va))] H := hP
    have hD : va_D A [(a 0, .inr (1, [.ref (b 0), .ref (d 0), .ref (a 1), .ref (a 2), .ref (a 3), .ref (a 4), .ref (a 5), .ref (a 6), .ref (a 7), .int bu])), (a 1, .inl (cI, 40, .inl pa)), (a 2, .inl (cI, 40, .inl oc)), (a 3, .inl (cI, 40, .inl (upd cv k v))), (a 4, .inl (cI, 40, .inl rq)), (a 5, .inl (cI, 40, .inl la)), (a 6, .inl (cI, 40, .inl rc)), (a 7, .inl (cI, 40, .inl su)), (b 0, .inr (0, [.ref (b 1), .ref (b 2), .ref (b 3), .int (nI n)])), (b 1, .inl (cI, 40, .inl me)), (b 2, .inl (cI, 40, .inl ar)), (b 3, .inl (cI, 40, .inl dl)), (d 0, .inr (2, [.ref (d 1), .ref (d 2), .ref (d 3), .ref (d 4), .int (nI fi), .int (nI sz)])), (d 1, .inl (cI, 40, .inl ki)), (d 2, .inl (cI, 40, .inl ow)), (d 3, .inl (cI, 40, .inl mr)), (d 4, .inl (cI, 40, .inl va))] := hD
    refine lv_aload_n hx hb dX1_takeAnswer_38 rfl (lv_at hl 0 rfl) ?_
    refine lv_iload_n hx hb dX1_takeAnswer_39 rfl (lv_at hl 1 rfl) ?_
    refine lv_iload_n hx hb dX1_takeAnswer_40 rfl (lv_at hl 2 rfl) ?_
    refine k_calli (S := CalS × LaneS) (wc := [(a 0, .inr (1, [.ref (b 0), .ref (d 0), .ref (a 1), .ref (a 2), .ref (a 3), .ref (a 4), .ref (a 5), .ref (a 6), .ref (a 7), .int bu])), (a 1, .inl (cI, 40, .inl pa)), (a 2, .inl (cI, 40, .inl oc)), (a 3, .inl (cI, 40, .inl (upd cv k v))), (a 4, .inl (cI, 40, .inl rq)), (a 5, .inl (cI, 40, .inl la)), (a 6, .inl (cI, 40, .inl rc)), (a 7, .inl (cI, 40, .inl su)), (b 0, .inr (0, [.ref (b 1), .ref (b 2), .ref (b 3), .int (nI n)])), (b 1, .inl (cI, 40, .inl me)), (b 2, .inl (cI, 40, .inl ar)), (b 3, .inl (cI, 40, .inl dl)), (d 0, .inr (2, [.ref (d 1), .ref (d 2), .ref (d 3), .ref (d 4), .int (nI fi), .int (nI sz)])), (d 1, .inl (cI, 40, .inl ki)), (d 2, .inl (cI, 40, .inl ow)), (d 3, .inl (cI, 40, .inl mr)), (d 4, .inl (cI, 40, .inl va))]) (wr := []) (w1 := fun u => [(a 0, .inr (1, [.ref (b 0), .ref (d 0), .ref (a 1), .ref (a 2), .ref (a 3), .ref (a 4), .ref (a 5), .ref (a 6), .ref (a 7), .int u.1.2.2.2.2.2.2.2])), (a 1, .inl (cI, 40, .inl u.1.1)), (a 2, .inl (cI, 40, .inl u.1.2.1)), (a 3, .inl (cI, 40, .inl u.1.2.2.1)), (a 4, .inl (cI, 40, .inl u.1.2.2.2.1)), (a 5, .inl (cI, 40, .inl u.1.2.2.2.2.1)), (a 6, .inl (cI, 40, .inl u.1.2.2.2.2.2.1)), (a 7, .inl (cI, 40, .inl u.1.2.2.2.2.2.2.1)), (b 0, .inr (0, [.ref (b 1), .ref (b 2), .ref (b 3), .int (nI n)])), (b 1, .inl (cI, 40, .inl me)), (b 2, .inl (cI, 40, .inl ar)), (b 3, .inl (cI, 40, .inl dl)), (d 0, .inr (2, [.ref (d 1), .ref (d 2), .ref (d 3), .ref (d 4), .int (nI u.2.2.2.2.2.1), .int (nI u.2.2.2.2.2.2)])), (d 1, .inl (cI, 40, .inl u.2.1)), (d 2, .inl (cI, 40, .inl u.2.2.1)), (d 3, .inl (cI, 40, .inl u.2.2.2.1)), (d 4, .inl (cI, 40, .inl u.2.2.2.2.1))]) (w2 := fun u => [(a 0, .inr (1, [.ref (b 0), .ref (d 0), .ref (a 1), .ref (a 2), .ref (a 3), .ref (a 4), .ref (a 5), .ref (a 6), .ref (a 7), .int u.1.2.2.2.2.2.2.2])), (a 1, .inl (cI, 40, .inl u.1.1)), (a 2, .inl (cI, 40, .inl u.1.2.1)), (a 3, .inl (cI, 40, .inl u.1.2.2.1)), (a 4, .inl (cI, 40, .inl u.1.2.2.2.1)), (a 5, .inl (cI, 40, .inl u.1.2.2.2.2.1)), (a 6, .inl (cI, 40, .inl u.1.2.2.2.2.2.1)), (a 7, .inl (cI, 40, .inl u.1.2.2.2.2.2.2.1)), (b 0, .inr (0, [.ref (b 1), .ref (b 2), .ref (b 3), .int (nI n)])), (b 1, .inl (cI, 40, .inl me)), (b 2, .inl (cI, 40, .inl ar)), (b 3, .inl (cI, 40, .inl dl)), (d 0, .inr (2, [.ref (d 1), .ref (d 2), .ref (d 3), .ref (d 4), .int (nI u.2.2.2.2.2.1), .int (nI u.2.2.2.2.2.2)])), (d 1, .inl (cI, 40, .inl u.2.1)), (d 2, .inl (cI, 40, .inl u.2.2.1)), (d 3, .inl (cI, 40, .inl u.2.2.2.1)), (d 4, .inl (cI, 40, .inl u.2.2.2.2.1))]) (va_runV (As := [.int (nI k), .int q]) (rest := []) ⟨hx, hb, hml, hown, hts⟩ (c_X1_endSilently l G cI a b d pa oc (upd cv k v) rq la rc su bu me ar dl n ki ow mr va fi sz k q (by first | omega | assumption) (by first | omega | assumption) (by first | omega | assumption) (by first | omega | assumption) H.size) (cwV 2 hts gX1_takeAnswer_X1_endSilently rfl rfl rfl (by decide +kernel) ⟨Nat.le_of_ble_eq_true rfl, Nat.le_of_ble_eq_true rfl⟩) ⟨kPre.blind, va_recv hK hP (ci := 1) (q0 := 0) rfl rfl, kPre.at hP hK hD hS hA hN [0, 1, 2, 3, 4, 5, 6, 7, 8, 9, 10, 11, 12, 13, 14, 15, 16] rfl rfl⟩ rfl rfl hl.1 rfl (lv_room (Nat.le_of_ble_eq_true rfl)) dX1_takeAnswer_41 ⟨Nat.le_of_ble_eq_true rfl, Nat.le_of_ble_eq_true rfl⟩) hP hD hS hA [0, 1, 2, 3, 4, 5, 6, 7, 8, 9, 10, 11, 12, 13, 14, 15, 16] [] [0, 1, 2, 3, 4, 5, 6, 7, 8, 9, 10, 11, 12, 13, 14, 15, 16] rfl rfl ⟨rfl, by decide, rfl⟩ (fun _ => rfl) (fun r_2 u H locs hw_2 hP hD hS => ?_)
    obtain ⟨⟨pa_2, oc_2, cv_2, rq_2, la_2, rc_2, su_2, bu_2⟩, ⟨ki_2, ow_2, mr_2, va_2, fi_2, sz_2⟩⟩ := u
    obtain ⟨hw_2, hf_2, hs_2⟩ := hw_2
    have hf_2 : fi_2 < 40 := hf_2
    have hs_2 : sz_2 ≤ 40 := hs_2
    have hw_2 : ((((pa_2, oc_2, cv_2, rq_2, la_2, rc_2, su_2, bu_2), (ki_2, ow_2, mr_2, va_2, fi_2, sz_2)) : CalS × LaneS).1, (((pa_2, oc_2, cv_2, rq_2, la_2, rc_2, su_2, bu_2), (ki_2, ow_2, mr_2, va_2, fi_2, sz_2)) : CalS × LaneS).2, r_2) = k_endS n (pa, oc, (upd cv k v), rq, la, rc, su, bu) (ki, ow, mr, va, fi, sz) k q := hw_2
    have hP : va_P G vwCl [(a 0, .inr (1, [.ref (b 0), .ref (d 0), .ref (a 1), .ref (a 2), .ref (a 3), .ref (a 4), .ref (a 5), .ref (a 6), .ref (a 7), .int bu_2])), (a 1, .inl (cI, 40, .inl pa_2)), (a 2, .inl (cI, 40, .inl oc_2)), (a 3, .inl (cI, 40, .inl cv_2)), (a 4, .inl (cI, 40, .inl rq_2)), (a 5, .inl (cI, 40, .inl la_2)), (a 6, .inl (cI, 40, .inl rc_2)), (a 7, .inl (cI, 40, .inl su_2)), (b 0, .inr (0, [.ref (b 1), .ref (b 2), .ref (b 3), .int (nI n)])), (b 1, .inl (cI, 40, .inl me)), (b 2, .inl (cI, 40, .inl ar)), (b 3, .inl (cI, 40, .inl dl)), (d 0, .inr (2, [.ref (d 1), .ref (d 2), .ref (d 3), .ref (d 4), .int (nI fi_2), .int (nI sz_2)])), (d 1, .inl (cI, 40, .inl ki_2)), (d 2, .inl (cI, 40, .inl ow_2)), (d 3, .inl (cI, 40, .inl mr_2)), (d 4, .inl (cI, 40, .inl va_2))] H := hP
    have hD : va_D A [(a 0, .inr (1, [.ref (b 0), .ref (d 0), .ref (a 1), .ref (a 2), .ref (a 3), .ref (a 4), .ref (a 5), .ref (a 6), .ref (a 7), .int bu_2])), (a 1, .inl (cI, 40, .inl pa_2)), (a 2, .inl (cI, 40, .inl oc_2)), (a 3, .inl (cI, 40, .inl cv_2)), (a 4, .inl (cI, 40, .inl rq_2)), (a 5, .inl (cI, 40, .inl la_2)), (a 6, .inl (cI, 40, .inl rc_2)), (a 7, .inl (cI, 40, .inl su_2)), (b 0, .inr (0, [.ref (b 1), .ref (b 2), .ref (b 3), .int (nI n)])), (b 1, .inl (cI, 40, .inl me)), (b 2, .inl (cI, 40, .inl ar)), (b 3, .inl (cI, 40, .inl dl)), (d 0, .inr (2, [.ref (d 1), .ref (d 2), .ref (d 3), .ref (d 4), .int (nI fi_2), .int (nI sz_2)])), (d 1, .inl (cI, 40, .inl ki_2)), (d 2, .inl (cI, 40, .inl ow_2)), (d 3, .inl (cI, 40, .inl mr_2)), (d 4, .inl (cI, 40, .inl va_2))] := hD
    refine lv_pop hx hb dX1_takeAnswer_44 rfl ?_
    refine lv_iload_n hx hb dX1_takeAnswer_45 rfl (lv_at hl 2 rfl) ?_
    refine lv_if_ne (tgt := 64) hx hb dX1_takeAnswer_46 (by decide) (fun c_3 => ?_) (fun c_3 => ?_)
    · skip
      have hS9 := hS.2.2
      have hq9 : ((((pa_2, oc_2, cv_2, rq_2, la_2, rc_2, su_2, bu_2), (ki_2, ow_2, mr_2, va_2, fi_2, sz_2)) : CalS × LaneS) = k_tans n me (pa, oc, cv, rq, la, rc, su, bu) (ki, ow, mr, va, fi, sz) k q v) ∧ fi_2 < 40 ∧ sz_2 ≤ 40 := by refine ⟨?_, by omega, by omega⟩; simp only [k_tans, ↓reduceIte, eq_self, nI_10, and_true, true_and, and_false, false_and, not_true_eq_false, not_false_eq_true, Bool.and_true, Bool.true_and, Bool.and_false, Bool.false_and, decide_true, decide_false, Bool.false_eq_true, eq_false c_1, ← hw_2, eq_false c_3]
      exact W.vret hx hb hr (fun t ht hW => ⟨⟨((pa_2, oc_2, cv_2, rq_2, la_2, rc_2, su_2, bu_2), (ki_2, ow_2, mr_2, va_2, fi_2, sz_2)), rfl, hq9, by rw [ht]; exact hP, hD⟩, hS.F ht⟩) hS9 dX1_takeAnswer_64
    · skip
      refine lv_aload_n hx hb dX1_takeAnswer_49 rfl (lv_at hl 0 rfl) ?_
      refine lv_aload_n hx hb dX1_takeAnswer_50 rfl (lv_at hl 0 rfl) ?_
      refine va_get (D := G) (ci := 1) (v := .int bu_2) (C := RX1) (T := TX1) (N := 10) hx hb hts hi_X1_takeAnswer_X1 hown hK hP 0 rfl rfl 9 (by decide) (hts _ hk_X1_takeAnswer_f33) (fun _ h9 => h9) rfl dX1_takeAnswer_51 ?_
      refine lv_iconst (v := nI 1) hx hb dX1_takeAnswer_54 (by decide +kernel) ?_
      refine lv_iadd hx hb dX1_takeAnswer_55 ?_
      refine lv_bipush (v := nI 100) hx hb dX1_takeAnswer_56 (by decide +kernel) ?_
      refine va_mmin hx hb (by rw [hml]; exact hl.1.symm) hown (hts _ hk_X1_takeAnswer_m85) (hts _ hk_X1_takeAnswer_msmin) (hts _ hk_X1_takeAnswer_mi) (hts _ hk_X1_takeAnswer_mcmin) (Nat.le_of_ble_eq_true rfl) (Nat.le_of_ble_eq_true rfl) (Nat.le_of_ble_eq_true rfl) (Nat.le_of_ble_eq_true rfl) dX1_takeAnswer_58 ?_
      refine va_put (D := G) (ci := 1) (v := .int (if nI 100 < bu_2 + nI 1 then nI 100 else bu_2 + nI 1)) (ty := .int) (C := RX1) (T := TX1) (N := 10) hx hb hts hi_X1_takeAnswer_X1 tyX1 tyX1_ok nmX1 hown hK hP hD hS 0 rfl rfl 9 (by decide) (hts _ hk_X1_takeAnswer_f33) (fun _ h9 => h9) rfl (by decide +kernel) rfl rfl (Nat.le_of_ble_eq_true rfl) dX1_takeAnswer_61 (fun H locs hP hD hS => ?_)
      have hP : va_P G vwCl [(a 0, .inr (1, [.ref (b 0), .ref (d 0), .ref (a 1), .ref (a 2), .ref (a 3), .ref (a 4), .ref (a 5), .ref (a 6), .ref (a 7), .int (if nI 100 < bu_2 + nI 1 then nI 100 else bu_2 + nI 1)])), (a 1, .inl (cI, 40, .inl pa_2)), (a 2, .inl (cI, 40, .inl oc_2)), (a 3, .inl (cI, 40, .inl cv_2)), (a 4, .inl (cI, 40, .inl rq_2)), (a 5, .inl (cI, 40, .inl la_2)), (a 6, .inl (cI, 40, .inl rc_2)), (a 7, .inl (cI, 40, .inl su_2)), (b 0, .inr (0, [.ref (b 1), .ref (b 2), .ref (b 3), .int (nI n)])), (b 1, .inl (cI, 40, .inl me)), (b 2, .inl (cI, 40, .inl ar)), (b 3, .inl (cI, 40, .inl dl)), (d 0, .inr (2, [.ref (d 1), .ref (d 2), .ref (d 3), .ref (d 4), .int (nI fi_2), .int (nI sz_2)])), (d 1, .inl (cI, 40, .inl ki_2)), (d 2, .inl (cI, 40, .inl ow_2)), (d 3, .inl (cI, 40, .inl mr_2)), (d 4, .inl (cI, 40, .inl va_2))] H := hP
      have hD : va_D A [(a 0, .inr (1, [.ref (b 0), .ref (d 0), .ref (a 1), .ref (a 2), .ref (a 3), .ref (a 4), .ref (a 5), .ref (a 6), .ref (a 7), .int (if nI 100 < bu_2 + nI 1 then nI 100 else bu_2 + nI 1)])), (a 1, .inl (cI, 40, .inl pa_2)), (a 2, .inl (cI, 40, .inl oc_2)), (a 3, .inl (cI, 40, .inl cv_2)), (a 4, .inl (cI, 40, .inl rq_2)), (a 5, .inl (cI, 40, .inl la_2)), (a 6, .inl (cI, 40, .inl rc_2)), (a 7, .inl (cI, 40, .inl su_2)), (b 0, .inr (0, [.ref (b 1), .ref (b 2), .ref (b 3), .int (nI n)])), (b 1, .inl (cI, 40, .inl me)), (b 2, .inl (cI, 40, .inl ar)), (b 3, .inl (cI, 40, .inl dl)), (d 0, .inr (2, [.ref (d 1), .ref (d 2), .ref (d 3), .ref (d 4), .int (nI fi_2), .int (nI sz_2)])), (d 1, .inl (cI, 40, .inl ki_2)), (d 2, .inl (cI, 40, .inl ow_2)), (d 3, .inl (cI, 40, .inl mr_2)), (d 4, .inl (cI, 40, .inl va_2))] := hD
      have hS9 := hS.2.2
      have hq9 : ((((pa_2, oc_2, cv_2, rq_2, la_2, rc_2, su_2, if nI 100 < bu_2 + nI 1 then nI 100 else bu_2 + nI 1), (ki_2, ow_2, mr_2, va_2, fi_2, sz_2)) : CalS × LaneS) = k_tans n me (pa, oc, cv, rq, la, rc, su, bu) (ki, ow, mr, va, fi, sz) k q v) ∧ fi_2 < 40 ∧ sz_2 ≤ 40 := by refine ⟨?_, by omega, by omega⟩; simp only [k_tans, ↓reduceIte, eq_self, nI_10, and_true, true_and, and_false, false_and, not_true_eq_false, not_false_eq_true, Bool.and_true, Bool.true_and, Bool.and_false, Bool.false_and, decide_true, decide_false, Bool.false_eq_true, eq_false c_1, ← hw_2, eq_true c_3]
      exact W.vret hx hb hr (fun t ht hW => ⟨⟨((pa_2, oc_2, cv_2, rq_2, la_2, rc_2, su_2, if nI 100 < bu_2 + nI 1 then nI 100 else bu_2 + nI 1), (ki_2, ow_2, mr_2, va_2, fi_2, sz_2)), rfl, hq9, by rw [ht]; exact hP, hD⟩, hS.F ht⟩) hS9 dX1_takeAnswer_64
  · skip
    refine lv_iload_n hx hb dX1_takeAnswer_13 rfl (lv_at hl 3 rfl) ?_
    refine lv_aload_n hx hb dX1_takeAnswer_14 rfl (lv_at hl 0 rfl) ?_
    refine va_get (D := G) (ci := 1) (v := .ref (a 6)) (C := RX1) (T := TX1) (N := 10) hx hb hts hi_X1_takeAnswer_X1 hown hK hP 0 rfl rfl 7 (by decide) (hts _ hk_X1_takeAnswer_f27) (fun _ h9 => h9) rfl dX1_takeAnswer_15 ?_
    refine lv_iload_n hx hb dX1_takeAnswer_18 rfl (lv_at hl 1 rfl) ?_
    refine gz_iald hx hb hK hP 6 rfl rfl (k := k) rfl (by omega) (by decide) dX1_takeAnswer_19 ?_
    refine lv_icmp_eq (tgt := 31) hx hb dX1_takeAnswer_20 (by decide) (fun c_4 => ?_) (fun c_4 => ?_)
    · skip
      refine lv_aload_n hx hb dX1_takeAnswer_31 rfl (lv_at hl 0 rfl) ?_
      refine va_get (D := G) (ci := 1) (v := .ref (a 3)) (C := RX1) (T := TX1) (N := 10) hx hb hts hi_X1_takeAnswer_X1 hown hK hP 0 rfl rfl 4 (by decide) (hts _ hk_X1_takeAnswer_f18) (fun _ h9 => h9) rfl dX1_takeAnswer_32 ?_
      refine lv_iload_n hx hb dX1_takeAnswer_35 rfl (lv_at hl 1 rfl) ?_
      refine lv_iload_n hx hb dX1_takeAnswer_36 rfl (lv_at hl 3 rfl) ?_
      refine gz_iast hx hb hK hP hD hS 3 rfl rfl (k := k) rfl (by omega) (by decide) dX1_takeAnswer_37 (fun H locs hP hD hS => ?_)
      have hP : va_P G vwCl [(a 0, .inr (1, [.ref (b 0), .ref (d 0), .ref (a 1), .ref (a 2), .ref (a 3), .ref (a 4), .ref (a 5), .ref (a 6), .ref (a 7), .int bu])), (a 1, .inl (cI, 40, .inl pa)), (a 2, .inl (cI, 40, .inl oc)), (a 3, .inl (cI, 40, .inl (upd cv k v))), (a 4, .inl (cI, 40, .inl rq)), (a 5, .inl (cI, 40, .inl la)), (a 6, .inl (cI, 40, .inl rc)), (a 7, .inl (cI, 40, .inl su)), (b 0, .inr (0, [.ref (b 1), .ref (b 2), .ref (b 3), .int (nI n)])), (b 1, .inl (cI, 40, .inl me)), (b 2, .inl (cI, 40, .inl ar)), (b 3, .inl (cI, 40, .inl dl)), (d 0, .inr (2, [.ref (d 1), .ref (d 2), .ref (d 3), .ref (d 4), .int (nI fi), .int (nI sz)])), (d 1, .inl (cI, 40, .inl ki)), (d 2, .inl (cI, 40, .inl ow)), (d 3, .inl (cI, 40, .inl mr)), (d 4, .inl (cI, 40, .inl va))] H := hP
      have hD : va_D A [(a 0, .inr (1, [.ref (b 0), .ref (d 0), .ref (a 1), .ref (a 2), .ref (a 3), .ref (a 4), .ref (a 5), .ref (a 6), .ref (a 7), .int bu])), (a 1, .inl (cI, 40, .inl pa)), (a 2, .inl (cI, 40, .inl oc)), (a 3, .inl (cI, 40, .inl (upd cv k v))), (a 4, .inl (cI, 40, .inl rq)), (a 5, .inl (cI, 40, .inl la)), (a 6, .inl (cI, 40, .inl rc)), (a 7, .inl (cI, 40, .inl su)), (b 0, .inr (0, [.ref (b 1), .ref (b 2), .ref (b 3), .int (nI n)])), (b 1, .inl (cI, 40, .inl me)), (b 2, .inl (cI, 40, .inl ar)), (b 3, .inl (cI, 40, .inl dl)), (d 0, .inr (2, [.ref (d 1), .ref (d 2), .ref (d 3), .ref (d 4), .int (nI fi), .int (nI sz)])), (d 1, .inl (cI, 40, .inl ki)), (d 2, .inl (cI, 40, .inl ow)), (d 3, .inl (cI, 40, .inl mr)), (d 4, .inl (cI, 40, .inl va))] := hD
      refine lv_aload_n hx hb dX1_takeAnswer_38 rfl (lv_at hl 0 rfl) ?_
      refine lv_iload_n hx hb dX1_takeAnswer_39 rfl (lv_at hl 1 rfl) ?_
      refine lv_iload_n hx hb dX1_takeAnswer_40 rfl (lv_at hl 2 rfl) ?_
      refine k_calli (S := CalS × LaneS) (wc := [(a 0, .inr (1, [.ref (b 0), .ref (d 0), .ref (a 1), .ref (a 2), .ref (a 3), .ref (a 4), .ref (a 5), .ref (a 6), .ref (a 7), .int bu])), (a 1, .inl (cI, 40, .inl pa)), (a 2, .inl (cI, 40, .inl oc)), (a 3, .inl (cI, 40, .inl (upd cv k v))), (a 4, .inl (cI, 40, .inl rq)), (a 5, .inl (cI, 40, .inl la)), (a 6, .inl (cI, 40, .inl rc)), (a 7, .inl (cI, 40, .inl su)), (b 0, .inr (0, [.ref (b 1), .ref (b 2), .ref (b 3), .int (nI n)])), (b 1, .inl (cI, 40, .inl me)), (b 2, .inl (cI, 40, .inl ar)), (b 3, .inl (cI, 40, .inl dl)), (d 0, .inr (2, [.ref (d 1), .ref (d 2), .ref (d 3), .ref (d 4), .int (nI fi), .int (nI sz)])), (d 1, .inl (cI, 40, .inl ki)), (d 2, .inl (cI, 40, .inl ow)), (d 3, .inl (cI, 40, .inl mr)), (d 4, .inl (cI, 40, .inl va))]) (wr := []) (w1 := fun u => [(a 0, .inr (1, [.ref (b 0), .ref (d 0), .ref (a 1), .ref (a 2), .ref (a 3), .ref (a 4), .ref (a 5), .ref (a 6), .ref (a 7), .int u.1.2.2.2.2.2.2.2])), (a 1, .inl (cI, 40, .inl u.1.1)), (a 2, .inl (cI, 40, .inl u.1.2.1)), (a 3, .inl (cI, 40, .inl u.1.2.2.1)), (a 4, .inl (cI, 40, .inl u.1.2.2.2.1)), (a 5, .inl (cI, 40, .inl u.1.2.2.2.2.1)), (a 6, .inl (cI, 40, .inl u.1.2.2.2.2.2.1)), (a 7, .inl (cI, 40, .inl u.1.2.2.2.2.2.2.1)), (b 0, .inr (0, [.ref (b 1), .ref (b 2), .ref (b 3), .int (nI n)])), (b 1, .inl (cI, 40, .inl me)), (b 2, .inl (cI, 40, .inl ar)), (b 3, .inl (cI, 40, .inl dl)), (d 0, .inr (2, [.ref (d 1), .ref (d 2), .ref (d 3), .ref (d 4), .int (nI u.2.2.2.2.2.1), .int (nI u.2.2.2.2.2.2)])), (d 1, .inl (cI, 40, .inl u.2.1)), (d 2, .inl (cI, 40, .inl u.2.2.1)), (d 3, .inl (cI, 40, .inl u.2.2.2.1)), (d 4, .inl (cI, 40, .inl u.2.2.2.2.1))]) (w2 := fun u => [(a 0, .inr (1, [.ref (b 0), .ref (d 0), .ref (a 1), .ref (a 2), .ref (a 3), .ref (a 4), .ref (a 5), .ref (a 6), .ref (a 7), .int u.1.2.2.2.2.2.2.2])), (a 1, .inl (cI, 40, .inl u.1.1)), (a 2, .inl (cI, 40, .inl u.1.2.1)), (a 3, .inl (cI, 40, .inl u.1.2.2.1)), (a 4, .inl (cI, 40, .inl u.1.2.2.2.1)), (a 5, .inl (cI, 40, .inl u.1.2.2.2.2.1)), (a 6, .inl (cI, 40, .inl u.1.2.2.2.2.2.1)), (a 7, .inl (cI, 40, .inl u.1.2.2.2.2.2.2.1)), (b 0, .inr (0, [.ref (b 1), .ref (b 2), .ref (b 3), .int (nI n)])), (b 1, .inl (cI, 40, .inl me)), (b 2, .inl (cI, 40, .inl ar)), (b 3, .inl (cI, 40, .inl dl)), (d 0, .inr (2, [.ref (d 1), .ref (d 2), .ref (d 3), .ref (d 4), .int (nI u.2.2.2.2.2.1), .int (nI u.2.2.2.2.2.2)])), (d 1, .inl (cI, 40, .inl u.2.1)), (d 2, .inl (cI, 40, .inl u.2.2.1)), (d 3, .inl (cI, 40, .inl u.2.2.2.1)), (d 4, .inl (cI, 40, .inl u.2.2.2.2.1))]) (va_runV (As := [.int (nI k), .int q]) (rest := []) ⟨hx, hb, hml, hown, hts⟩ (c_X1_endSilently l G cI a b d pa oc (upd cv k v) rq la rc su bu me ar dl n ki ow mr va fi sz k q (by first | omega | assumption) (by first | omega | assumption) (by first | omega | assumption) (by first | omega | assumption) H.size) (cwV 2 hts gX1_takeAnswer_X1_endSilently rfl rfl rfl (by decide +kernel) ⟨Nat.le_of_ble_eq_true rfl, Nat.le_of_ble_eq_true rfl⟩) ⟨kPre.blind, va_recv hK hP (ci := 1) (q0 := 0) rfl rfl, kPre.at hP hK hD hS hA hN [0, 1, 2, 3, 4, 5, 6, 7, 8, 9, 10, 11, 12, 13, 14, 15, 16] rfl rfl⟩ rfl rfl hl.1 rfl (lv_room (Nat.le_of_ble_eq_true rfl)) dX1_takeAnswer_41 ⟨Nat.le_of_ble_eq_true rfl, Nat.le_of_ble_eq_true rfl⟩) hP hD hS hA [0, 1, 2, 3, 4, 5, 6, 7, 8, 9, 10, 11, 12, 13, 14, 15, 16] [] [0, 1, 2, 3, 4, 5, 6, 7, 8, 9, 10, 11, 12, 13, 14, 15, 16] rfl rfl ⟨rfl, by decide, rfl⟩ (fun _ => rfl) (fun r_5 u H locs hw_5 hP hD hS => ?_)
      obtain ⟨⟨pa_5, oc_5, cv_5, rq_5, la_5, rc_5, su_5, bu_5⟩, ⟨ki_5, ow_5, mr_5, va_5, fi_5, sz_5⟩⟩ := u
      obtain ⟨hw_5, hf_5, hs_5⟩ := hw_5
      have hf_5 : fi_5 < 40 := hf_5
      have hs_5 : sz_5 ≤ 40 := hs_5
      have hw_5 : ((((pa_5, oc_5, cv_5, rq_5, la_5, rc_5, su_5, bu_5), (ki_5, ow_5, mr_5, va_5, fi_5, sz_5)) : CalS × LaneS).1, (((pa_5, oc_5, cv_5, rq_5, la_5, rc_5, su_5, bu_5), (ki_5, ow_5, mr_5, va_5, fi_5, sz_5)) : CalS × LaneS).2, r_5) = k_endS n (pa, oc, (upd cv k v), rq, la, rc, su, bu) (ki, ow, mr, va, fi, sz) k q := hw_5
      have hP : va_P G vwCl [(a 0, .inr (1, [.ref (b 0), .ref (d 0), .ref (a 1), .ref (a 2), .ref (a 3), .ref (a 4), .ref (a 5), .ref (a 6), .ref (a 7), .int bu_5])), (a 1, .inl (cI, 40, .inl pa_5)), (a 2, .inl (cI, 40, .inl oc_5)), (a 3, .inl (cI, 40, .inl cv_5)), (a 4, .inl (cI, 40, .inl rq_5)), (a 5, .inl (cI, 40, .inl la_5)), (a 6, .inl (cI, 40, .inl rc_5)), (a 7, .inl (cI, 40, .inl su_5)), (b 0, .inr (0, [.ref (b 1), .ref (b 2), .ref (b 3), .int (nI n)])), (b 1, .inl (cI, 40, .inl me)), (b 2, .inl (cI, 40, .inl ar)), (b 3, .inl (cI, 40, .inl dl)), (d 0, .inr (2, [.ref (d 1), .ref (d 2), .ref (d 3), .ref (d 4), .int (nI fi_5), .int (nI sz_5)])), (d 1, .inl (cI, 40, .inl ki_5)), (d 2, .inl (cI, 40, .inl ow_5)), (d 3, .inl (cI, 40, .inl mr_5)), (d 4, .inl (cI, 40, .inl va_5))] H := hP
      have hD : va_D A [(a 0, .inr (1, [.ref (b 0), .ref (d 0), .ref (a 1), .ref (a 2), .ref (a 3), .ref (a 4), .ref (a 5), .ref (a 6), .ref (a 7), .int bu_5])), (a 1, .inl (cI, 40, .inl pa_5)), (a 2, .inl (cI, 40, .inl oc_5)), (a 3, .inl (cI, 40, .inl cv_5)), (a 4, .inl (cI, 40, .inl rq_5)), (a 5, .inl (cI, 40, .inl la_5)), (a 6, .inl (cI, 40, .inl rc_5)), (a 7, .inl (cI, 40, .inl su_5)), (b 0, .inr (0, [.ref (b 1), .ref (b 2), .ref (b 3), .int (nI n)])), (b 1, .inl (cI, 40, .inl me)), (b 2, .inl (cI, 40, .inl ar)), (b 3, .inl (cI, 40, .inl dl)), (d 0, .inr (2, [.ref (d 1), .ref (d 2), .ref (d 3), .ref (d 4), .int (nI fi_5), .int (nI sz_5)])), (d 1, .inl (cI, 40, .inl ki_5)), (d 2, .inl (cI, 40, .inl ow_5)), (d 3, .inl (cI, 40, .inl mr_5)), (d 4, .inl (cI, 40, .inl va_5))] := hD
      refine lv_pop hx hb dX1_takeAnswer_44 rfl ?_
      refine lv_iload_n hx hb dX1_takeAnswer_45 rfl (lv_at hl 2 rfl) ?_
      refine lv_if_ne (tgt := 64) hx hb dX1_takeAnswer_46 (by decide) (fun c_6 => ?_) (fun c_6 => ?_)
      · skip
        have hS9 := hS.2.2
        have hq9 : ((((pa_5, oc_5, cv_5, rq_5, la_5, rc_5, su_5, bu_5), (ki_5, ow_5, mr_5, va_5, fi_5, sz_5)) : CalS × LaneS) = k_tans n me (pa, oc, cv, rq, la, rc, su, bu) (ki, ow, mr, va, fi, sz) k q v) ∧ fi_5 < 40 ∧ sz_5 ≤ 40 := by refine ⟨?_, by omega, by omega⟩; simp only [k_tans, ↓reduceIte, eq_self, nI_10, and_true, true_and, and_false, false_and, not_true_eq_false, not_false_eq_true, Bool.and_true, Bool.true_and, Bool.and_false, Bool.false_and, decide_true, decide_false, Bool.false_eq_true, eq_true c_1, eq_true c_4, ← hw_5, eq_false c_6]
        exact W.vret hx hb hr (fun t ht hW => ⟨⟨((pa_5, oc_5, cv_5, rq_5, la_5, rc_5, su_5, bu_5), (ki_5, ow_5, mr_5, va_5, fi_5, sz_5)), rfl, hq9, by rw [ht]; exact hP, hD⟩, hS.F ht⟩) hS9 dX1_takeAnswer_64
      · skip
        refine lv_aload_n hx hb dX1_takeAnswer_49 rfl (lv_at hl 0 rfl) ?_
        refine lv_aload_n hx hb dX1_takeAnswer_50 rfl (lv_at hl 0 rfl) ?_
        refine va_get (D := G) (ci := 1) (v := .int bu_5) (C := RX1) (T := TX1) (N := 10) hx hb hts hi_X1_takeAnswer_X1 hown hK hP 0 rfl rfl 9 (by decide) (hts _ hk_X1_takeAnswer_f33) (fun _ h9 => h9) rfl dX1_takeAnswer_51 ?_
        refine lv_iconst (v := nI 1) hx hb dX1_takeAnswer_54 (by decide +kernel) ?_
        refine lv_iadd hx hb dX1_takeAnswer_55 ?_
        refine lv_bipush (v := nI 100) hx hb dX1_takeAnswer_56 (by decide +kernel) ?_
        refine va_mmin hx hb (by rw [hml]; exact hl.1.symm) hown (hts _ hk_X1_takeAnswer_m85) (hts _ hk_X1_takeAnswer_msmin) (hts _ hk_X1_takeAnswer_mi) (hts _ hk_X1_takeAnswer_mcmin) (Nat.le_of_ble_eq_true rfl) (Nat.le_of_ble_eq_true rfl) (Nat.le_of_ble_eq_true rfl) (Nat.le_of_ble_eq_true rfl) dX1_takeAnswer_58 ?_
        refine va_put (D := G) (ci := 1) (v := .int (if nI 100 < bu_5 + nI 1 then nI 100 else bu_5 + nI 1)) (ty := .int) (C := RX1) (T := TX1) (N := 10) hx hb hts hi_X1_takeAnswer_X1 tyX1 tyX1_ok nmX1 hown hK hP hD hS 0 rfl rfl 9 (by decide) (hts _ hk_X1_takeAnswer_f33) (fun _ h9 => h9) rfl (by decide +kernel) rfl rfl (Nat.le_of_ble_eq_true rfl) dX1_takeAnswer_61 (fun H locs hP hD hS => ?_)
        have hP : va_P G vwCl [(a 0, .inr (1, [.ref (b 0), .ref (d 0), .ref (a 1), .ref (a 2), .ref (a 3), .ref (a 4), .ref (a 5), .ref (a 6), .ref (a 7), .int (if nI 100 < bu_5 + nI 1 then nI 100 else bu_5 + nI 1)])), (a 1, .inl (cI, 40, .inl pa_5)), (a 2, .inl (cI, 40, .inl oc_5)), (a 3, .inl (cI, 40, .inl cv_5)), (a 4, .inl (cI, 40, .inl rq_5)), (a 5, .inl (cI, 40, .inl la_5)), (a 6, .inl (cI, 40, .inl rc_5)), (a 7, .inl (cI, 40, .inl su_5)), (b 0, .inr (0, [.ref (b 1), .ref (b 2), .ref (b 3), .int (nI n)])), (b 1, .inl (cI, 40, .inl me)), (b 2, .inl (cI, 40, .inl ar)), (b 3, .inl (cI, 40, .inl dl)), (d 0, .inr (2, [.ref (d 1), .ref (d 2), .ref (d 3), .ref (d 4), .int (nI fi_5), .int (nI sz_5)])), (d 1, .inl (cI, 40, .inl ki_5)), (d 2, .inl (cI, 40, .inl ow_5)), (d 3, .inl (cI, 40, .inl mr_5)), (d 4, .inl (cI, 40, .inl va_5))] H := hP
        have hD : va_D A [(a 0, .inr (1, [.ref (b 0), .ref (d 0), .ref (a 1), .ref (a 2), .ref (a 3), .ref (a 4), .ref (a 5), .ref (a 6), .ref (a 7), .int (if nI 100 < bu_5 + nI 1 then nI 100 else bu_5 + nI 1)])), (a 1, .inl (cI, 40, .inl pa_5)), (a 2, .inl (cI, 40, .inl oc_5)), (a 3, .inl (cI, 40, .inl cv_5)), (a 4, .inl (cI, 40, .inl rq_5)), (a 5, .inl (cI, 40, .inl la_5)), (a 6, .inl (cI, 40, .inl rc_5)), (a 7, .inl (cI, 40, .inl su_5)), (b 0, .inr (0, [.ref (b 1), .ref (b 2), .ref (b 3), .int (nI n)])), (b 1, .inl (cI, 40, .inl me)), (b 2, .inl (cI, 40, .inl ar)), (b 3, .inl (cI, 40, .inl dl)), (d 0, .inr (2, [.ref (d 1), .ref (d 2), .ref (d 3), .ref (d 4), .int (nI fi_5), .int (nI sz_5)])), (d 1, .inl (cI, 40, .inl ki_5)), (d 2, .inl (cI, 40, .inl ow_5)), (d 3, .inl (cI, 40, .inl mr_5)), (d 4, .inl (cI, 40, .inl va_5))] := hD
        have hS9 := hS.2.2
        have hq9 : ((((pa_5, oc_5, cv_5, rq_5, la_5, rc_5, su_5, if nI 100 < bu_5 + nI 1 then nI 100 else bu_5 + nI 1), (ki_5, ow_5, mr_5, va_5, fi_5, sz_5)) : CalS × LaneS) = k_tans n me (pa, oc, cv, rq, la, rc, su, bu) (ki, ow, mr, va, fi, sz) k q v) ∧ fi_5 < 40 ∧ sz_5 ≤ 40 := by refine ⟨?_, by omega, by omega⟩; simp only [k_tans, ↓reduceIte, eq_self, nI_10, and_true, true_and, and_false, false_and, not_true_eq_false, not_false_eq_true, Bool.and_true, Bool.true_and, Bool.and_false, Bool.false_and, decide_true, decide_false, Bool.false_eq_true, eq_true c_1, eq_true c_4, ← hw_5, eq_true c_6]
        exact W.vret hx hb hr (fun t ht hW => ⟨⟨((pa_5, oc_5, cv_5, rq_5, la_5, rc_5, su_5, if nI 100 < bu_5 + nI 1 then nI 100 else bu_5 + nI 1), (ki_5, ow_5, mr_5, va_5, fi_5, sz_5)), rfl, hq9, by rw [ht]; exact hP, hD⟩, hS.F ht⟩) hS9 dX1_takeAnswer_64
    · skip
      refine lv_aload_n hx hb dX1_takeAnswer_23 rfl (lv_at hl 0 rfl) ?_
      refine lv_iload_n hx hb dX1_takeAnswer_24 rfl (lv_at hl 1 rfl) ?_
      refine lv_iconst (v := nI 4) hx hb dX1_takeAnswer_25 (by decide +kernel) ?_
      refine k_calli (S := CalS × LaneS) (wc := [(a 0, .inr (1, [.ref (b 0), .ref (d 0), .ref (a 1), .ref (a 2), .ref (a 3), .ref (a 4), .ref (a 5), .ref (a 6), .ref (a 7), .int bu])), (a 1, .inl (cI, 40, .inl pa)), (a 2, .inl (cI, 40, .inl oc)), (a 3, .inl (cI, 40, .inl cv)), (a 4, .inl (cI, 40, .inl rq)), (a 5, .inl (cI, 40, .inl la)), (a 6, .inl (cI, 40, .inl rc)), (a 7, .inl (cI, 40, .inl su)), (b 0, .inr (0, [.ref (b 1), .ref (b 2), .ref (b 3), .int (nI n)])), (b 1, .inl (cI, 40, .inl me)), (b 2, .inl (cI, 40, .inl ar)), (b 3, .inl (cI, 40, .inl dl)), (d 0, .inr (2, [.ref (d 1), .ref (d 2), .ref (d 3), .ref (d 4), .int (nI fi), .int (nI sz)])), (d 1, .inl (cI, 40, .inl ki)), (d 2, .inl (cI, 40, .inl ow)), (d 3, .inl (cI, 40, .inl mr)), (d 4, .inl (cI, 40, .inl va))]) (wr := []) (w1 := fun u => [(a 0, .inr (1, [.ref (b 0), .ref (d 0), .ref (a 1), .ref (a 2), .ref (a 3), .ref (a 4), .ref (a 5), .ref (a 6), .ref (a 7), .int u.1.2.2.2.2.2.2.2])), (a 1, .inl (cI, 40, .inl u.1.1)), (a 2, .inl (cI, 40, .inl u.1.2.1)), (a 3, .inl (cI, 40, .inl u.1.2.2.1)), (a 4, .inl (cI, 40, .inl u.1.2.2.2.1)), (a 5, .inl (cI, 40, .inl u.1.2.2.2.2.1)), (a 6, .inl (cI, 40, .inl u.1.2.2.2.2.2.1)), (a 7, .inl (cI, 40, .inl u.1.2.2.2.2.2.2.1)), (b 0, .inr (0, [.ref (b 1), .ref (b 2), .ref (b 3), .int (nI n)])), (b 1, .inl (cI, 40, .inl me)), (b 2, .inl (cI, 40, .inl ar)), (b 3, .inl (cI, 40, .inl dl)), (d 0, .inr (2, [.ref (d 1), .ref (d 2), .ref (d 3), .ref (d 4), .int (nI u.2.2.2.2.2.1), .int (nI u.2.2.2.2.2.2)])), (d 1, .inl (cI, 40, .inl u.2.1)), (d 2, .inl (cI, 40, .inl u.2.2.1)), (d 3, .inl (cI, 40, .inl u.2.2.2.1)), (d 4, .inl (cI, 40, .inl u.2.2.2.2.1))]) (w2 := fun u => [(a 0, .inr (1, [.ref (b 0), .ref (d 0), .ref (a 1), .ref (a 2), .ref (a 3), .ref (a 4), .ref (a 5), .ref (a 6), .ref (a 7), .int u.1.2.2.2.2.2.2.2])), (a 1, .inl (cI, 40, .inl u.1.1)), (a 2, .inl (cI, 40, .inl u.1.2.1)), (a 3, .inl (cI, 40, .inl u.1.2.2.1)), (a 4, .inl (cI, 40, .inl u.1.2.2.2.1)), (a 5, .inl (cI, 40, .inl u.1.2.2.2.2.1)), (a 6, .inl (cI, 40, .inl u.1.2.2.2.2.2.1)), (a 7, .inl (cI, 40, .inl u.1.2.2.2.2.2.2.1)), (b 0, .inr (0, [.ref (b 1), .ref (b 2), .ref (b 3), .int (nI n)])), (b 1, .inl (cI, 40, .inl me)), (b 2, .inl (cI, 40, .inl ar)), (b 3, .inl (cI, 40, .inl dl)), (d 0, .inr (2, [.ref (d 1), .ref (d 2), .ref (d 3), .ref (d 4), .int (nI u.2.2.2.2.2.1), .int (nI u.2.2.2.2.2.2)])), (d 1, .inl (cI, 40, .inl u.2.1)), (d 2, .inl (cI, 40, .inl u.2.2.1)), (d 3, .inl (cI, 40, .inl u.2.2.2.1)), (d 4, .inl (cI, 40, .inl u.2.2.2.2.1))]) (va_runV (As := [.int (nI k), .int (nI 4)]) (rest := []) ⟨hx, hb, hml, hown, hts⟩ (c_X1_endSilently l G cI a b d pa oc cv rq la rc su bu me ar dl n ki ow mr va fi sz k (nI 4) (by first | omega | assumption) (by first | omega | assumption) (by first | omega | assumption) (by first | omega | assumption) H.size) (cwV 2 hts gX1_takeAnswer_X1_endSilently rfl rfl rfl (by decide +kernel) ⟨Nat.le_of_ble_eq_true rfl, Nat.le_of_ble_eq_true rfl⟩) ⟨kPre.blind, va_recv hK hP (ci := 1) (q0 := 0) rfl rfl, kPre.at hP hK hD hS hA hN [0, 1, 2, 3, 4, 5, 6, 7, 8, 9, 10, 11, 12, 13, 14, 15, 16] rfl rfl⟩ rfl rfl hl.1 rfl (lv_room (Nat.le_of_ble_eq_true rfl)) dX1_takeAnswer_26 ⟨Nat.le_of_ble_eq_true rfl, Nat.le_of_ble_eq_true rfl⟩) hP hD hS hA [0, 1, 2, 3, 4, 5, 6, 7, 8, 9, 10, 11, 12, 13, 14, 15, 16] [] [0, 1, 2, 3, 4, 5, 6, 7, 8, 9, 10, 11, 12, 13, 14, 15, 16] rfl rfl ⟨rfl, by decide, rfl⟩ (fun _ => rfl) (fun r_7 u H locs hw_7 hP hD hS => ?_)
      obtain ⟨⟨pa_7, oc_7, cv_7, rq_7, la_7, rc_7, su_7, bu_7⟩, ⟨ki_7, ow_7, mr_7, va_7, fi_7, sz_7⟩⟩ := u
      obtain ⟨hw_7, hf_7, hs_7⟩ := hw_7
      have hf_7 : fi_7 < 40 := hf_7
      have hs_7 : sz_7 ≤ 40 := hs_7
      have hw_7 : ((((pa_7, oc_7, cv_7, rq_7, la_7, rc_7, su_7, bu_7), (ki_7, ow_7, mr_7, va_7, fi_7, sz_7)) : CalS × LaneS).1, (((pa_7, oc_7, cv_7, rq_7, la_7, rc_7, su_7, bu_7), (ki_7, ow_7, mr_7, va_7, fi_7, sz_7)) : CalS × LaneS).2, r_7) = k_endS n (pa, oc, cv, rq, la, rc, su, bu) (ki, ow, mr, va, fi, sz) k (nI 4) := hw_7
      have hP : va_P G vwCl [(a 0, .inr (1, [.ref (b 0), .ref (d 0), .ref (a 1), .ref (a 2), .ref (a 3), .ref (a 4), .ref (a 5), .ref (a 6), .ref (a 7), .int bu_7])), (a 1, .inl (cI, 40, .inl pa_7)), (a 2, .inl (cI, 40, .inl oc_7)), (a 3, .inl (cI, 40, .inl cv_7)), (a 4, .inl (cI, 40, .inl rq_7)), (a 5, .inl (cI, 40, .inl la_7)), (a 6, .inl (cI, 40, .inl rc_7)), (a 7, .inl (cI, 40, .inl su_7)), (b 0, .inr (0, [.ref (b 1), .ref (b 2), .ref (b 3), .int (nI n)])), (b 1, .inl (cI, 40, .inl me)), (b 2, .inl (cI, 40, .inl ar)), (b 3, .inl (cI, 40, .inl dl)), (d 0, .inr (2, [.ref (d 1), .ref (d 2), .ref (d 3), .ref (d 4), .int (nI fi_7), .int (nI sz_7)])), (d 1, .inl (cI, 40, .inl ki_7)), (d 2, .inl (cI, 40, .inl ow_7)), (d 3, .inl (cI, 40, .inl mr_7)), (d 4, .inl (cI, 40, .inl va_7))] H := hP
      have hD : va_D A [(a 0, .inr (1, [.ref (b 0), .ref (d 0), .ref (a 1), .ref (a 2), .ref (a 3), .ref (a 4), .ref (a 5), .ref (a 6), .ref (a 7), .int bu_7])), (a 1, .inl (cI, 40, .inl pa_7)), (a 2, .inl (cI, 40, .inl oc_7)), (a 3, .inl (cI, 40, .inl cv_7)), (a 4, .inl (cI, 40, .inl rq_7)), (a 5, .inl (cI, 40, .inl la_7)), (a 6, .inl (cI, 40, .inl rc_7)), (a 7, .inl (cI, 40, .inl su_7)), (b 0, .inr (0, [.ref (b 1), .ref (b 2), .ref (b 3), .int (nI n)])), (b 1, .inl (cI, 40, .inl me)), (b 2, .inl (cI, 40, .inl ar)), (b 3, .inl (cI, 40, .inl dl)), (d 0, .inr (2, [.ref (d 1), .ref (d 2), .ref (d 3), .ref (d 4), .int (nI fi_7), .int (nI sz_7)])), (d 1, .inl (cI, 40, .inl ki_7)), (d 2, .inl (cI, 40, .inl ow_7)), (d 3, .inl (cI, 40, .inl mr_7)), (d 4, .inl (cI, 40, .inl va_7))] := hD
      refine lv_pop hx hb dX1_takeAnswer_29 rfl ?_
      have hS9 := hS.2.2
      have hq9 : ((((pa_7, oc_7, cv_7, rq_7, la_7, rc_7, su_7, bu_7), (ki_7, ow_7, mr_7, va_7, fi_7, sz_7)) : CalS × LaneS) = k_tans n me (pa, oc, cv, rq, la, rc, su, bu) (ki, ow, mr, va, fi, sz) k q v) ∧ fi_7 < 40 ∧ sz_7 ≤ 40 := by refine ⟨?_, by omega, by omega⟩; simp only [k_tans, ↓reduceIte, eq_self, nI_10, and_true, true_and, and_false, false_and, not_true_eq_false, not_false_eq_true, Bool.and_true, Bool.true_and, Bool.and_false, Bool.false_and, decide_true, decide_false, Bool.false_eq_true, eq_true c_1, eq_false c_4, ← hw_7]
      exact W.vret hx hb hr (fun t ht hW => ⟨⟨((pa_7, oc_7, cv_7, rq_7, la_7, rc_7, su_7, bu_7), (ki_7, ow_7, mr_7, va_7, fi_7, sz_7)), rfl, hq9, by rw [ht]; exact hP, hD⟩, hS.F ht⟩) hS9 dX1_takeAnswer_30

theorem hk_X1_takeItem_f27 : (.fieldLink RX1 27 "Callgate$Caller" "itemsReceived" "[I" : Cond) ∈ wsX1_takeItem := by decide +kernel
theorem hi_X1_takeItem_X1 : ∀ w ∈ u_ws RX1 TX1 10, w ∈ wsX1_takeItem := by decide +kernel
theorem hk_X1_takeItem_f30 : (.fieldLink RX1 30 "Callgate$Caller" "sums" "[I" : Cond) ∈ wsX1_takeItem := by decide +kernel
set_option maxHeartbeats 4000000 in
set_option maxRecDepth 100000 in
theorem c_X1_takeItem (l : Launch) (G : va_G) (cI : ClassId) (a b d : Nat → Nat) (pa : Fn) (oc : Fn) (cv : Fn) (rq : Fn) (la : Fn) (rc : Fn) (su : Fn) (bu : Int32) (me : Fn) (ar : Fn) (dl : Fn) (n : Nat) (ki : Fn) (ow : Fn) (mr : Fn) (va : Fn) (fi : Nat) (sz : Nat) (k : Nat) (q : Int32) (v : Int32) (hk : k < n) (hn : n ≤ 40) (hf : fi < 40) (hs : sz ≤ 40) (zz : Nat) : Met l yX1_takeItem wsX1_takeItem ({ frames := 5, cells := 0, slots := 0, locals := 113 }) (va_Pc [.ref (a 0), .int (nI k), .int q, .int v] (kPre G cI [(a 0, .inr (1, [.ref (b 0), .ref (d 0), .ref (a 1), .ref (a 2), .ref (a 3), .ref (a 4), .ref (a 5), .ref (a 6), .ref (a 7), .int bu])), (a 1, .inl (cI, 40, .inl pa)), (a 2, .inl (cI, 40, .inl oc)), (a 3, .inl (cI, 40, .inl cv)), (a 4, .inl (cI, 40, .inl rq)), (a 5, .inl (cI, 40, .inl la)), (a 6, .inl (cI, 40, .inl rc)), (a 7, .inl (cI, 40, .inl su)), (b 0, .inr (0, [.ref (b 1), .ref (b 2), .ref (b 3), .int (nI n)])), (b 1, .inl (cI, 40, .inl me)), (b 2, .inl (cI, 40, .inl ar)), (b 3, .inl (cI, 40, .inl dl)), (d 0, .inr (2, [.ref (d 1), .ref (d 2), .ref (d 3), .ref (d 4), .int (nI fi), .int (nI sz)])), (d 1, .inl (cI, 40, .inl ki)), (d 2, .inl (cI, 40, .inl ow)), (d 3, .inl (cI, 40, .inl mr)), (d 4, .inl (cI, 40, .inl va))] zz)) (va_Qv (fun (u : CalS × LaneS) => (u = k_titem n (pa, oc, cv, rq, la, rc, su, bu) (ki, ow, mr, va, fi, sz) k q v) ∧ u.2.2.2.2.2.1 < 40 ∧ u.2.2.2.2.2.2 ≤ 40) (fun (u : CalS × LaneS) t => kQ G [(a 0, .inr (1, [.ref (b 0), .ref (d 0), .ref (a 1), .ref (a 2), .ref (a 3), .ref (a 4), .ref (a 5), .ref (a 6), .ref (a 7), .int u.1.2.2.2.2.2.2.2])), (a 1, .inl (cI, 40, .inl u.1.1)), (a 2, .inl (cI, 40, .inl u.1.2.1)), (a 3, .inl (cI, 40, .inl u.1.2.2.1)), (a 4, .inl (cI, 40, .inl u.1.2.2.2.1)), (a 5, .inl (cI, 40, .inl u.1.2.2.2.2.1)), (a 6, .inl (cI, 40, .inl u.1.2.2.2.2.2.1)), (a 7, .inl (cI, 40, .inl u.1.2.2.2.2.2.2.1)), (b 0, .inr (0, [.ref (b 1), .ref (b 2), .ref (b 3), .int (nI n)])), (b 1, .inl (cI, 40, .inl me)), (b 2, .inl (cI, 40, .inl ar)), (b 3, .inl (cI, 40, .inl dl)), (d 0, .inr (2, [.ref (d 1), .ref (d 2), .ref (d 3), .ref (d 4), .int (nI u.2.2.2.2.2.1), .int (nI u.2.2.2.2.2.2)])), (d 1, .inl (cI, 40, .inl u.2.1)), (d 2, .inl (cI, 40, .inl u.2.2.1)), (d 3, .inl (cI, 40, .inl u.2.2.2.1)), (d 4, .inl (cI, 40, .inl u.2.2.2.2.1))] (va_A [(a 0, .inr (1, [.ref (b 0), .ref (d 0), .ref (a 1), .ref (a 2), .ref (a 3), .ref (a 4), .ref (a 5), .ref (a 6), .ref (a 7), .int bu])), (a 1, .inl (cI, 40, .inl pa)), (a 2, .inl (cI, 40, .inl oc)), (a 3, .inl (cI, 40, .inl cv)), (a 4, .inl (cI, 40, .inl rq)), (a 5, .inl (cI, 40, .inl la)), (a 6, .inl (cI, 40, .inl rc)), (a 7, .inl (cI, 40, .inl su)), (b 0, .inr (0, [.ref (b 1), .ref (b 2), .ref (b 3), .int (nI n)])), (b 1, .inl (cI, 40, .inl me)), (b 2, .inl (cI, 40, .inl ar)), (b 3, .inl (cI, 40, .inl dl)), (d 0, .inr (2, [.ref (d 1), .ref (d 2), .ref (d 3), .ref (d 4), .int (nI fi), .int (nI sz)])), (d 1, .inl (cI, 40, .inl ki)), (d 2, .inl (cI, 40, .inl ow)), (d 3, .inl (cI, 40, .inl mr)), (d 4, .inl (cI, 40, .inl va))] zz) t) (va_A [(a 0, .inr (1, [.ref (b 0), .ref (d 0), .ref (a 1), .ref (a 2), .ref (a 3), .ref (a 4), .ref (a 5), .ref (a 6), .ref (a 7), .int bu])), (a 1, .inl (cI, 40, .inl pa)), (a 2, .inl (cI, 40, .inl oc)), (a 3, .inl (cI, 40, .inl cv)), (a 4, .inl (cI, 40, .inl rq)), (a 5, .inl (cI, 40, .inl la)), (a 6, .inl (cI, 40, .inl rc)), (a 7, .inl (cI, 40, .inl su)), (b 0, .inr (0, [.ref (b 1), .ref (b 2), .ref (b 3), .int (nI n)])), (b 1, .inl (cI, 40, .inl me)), (b 2, .inl (cI, 40, .inl ar)), (b 3, .inl (cI, 40, .inl dl)), (d 0, .inr (2, [.ref (d 1), .ref (d 2), .ref (d 3), .ref (d 4), .int (nI fi), .int (nI sz)])), (d 1, .inl (cI, 40, .inl ki)), (d 2, .inl (cI, 40, .inl ow)), (d 3, .inl (cI, 40, .inl mr)), (d 4, .inl (cI, 40, .inl va))] zz)) 0 0 (va_A [(a 0, .inr (1, [.ref (b 0), .ref (d 0), .ref (a 1), .ref (a 2), .ref (a 3), .ref (a 4), .ref (a 5), .ref (a 6), .ref (a 7), .int bu])), (a 1, .inl (cI, 40, .inl pa)), (a 2, .inl (cI, 40, .inl oc)), (a 3, .inl (cI, 40, .inl cv)), (a 4, .inl (cI, 40, .inl rq)), (a 5, .inl (cI, 40, .inl la)), (a 6, .inl (cI, 40, .inl rc)), (a 7, .inl (cI, 40, .inl su)), (b 0, .inr (0, [.ref (b 1), .ref (b 2), .ref (b 3), .int (nI n)])), (b 1, .inl (cI, 40, .inl me)), (b 2, .inl (cI, 40, .inl ar)), (b 3, .inl (cI, 40, .inl dl)), (d 0, .inr (2, [.ref (d 1), .ref (d 2), .ref (d 3), .ref (d 4), .int (nI fi), .int (nI sz)])), (d 1, .inl (cI, 40, .inl ki)), (d 2, .inl (cI, 40, .inl ow)), (d 3, .inl (cI, 40, .inl mr)), (d 4, .inl (cI, 40, .inl va))] zz) := by
  refine Met.ofW (cc := cX1_takeItem) (maxL := 4) (ret := none) (by decide) rfl ?_
  intro p e s m args below meth c s₁ B hml hv
  obtain ⟨rfl, hsz, hP, hK, hD0, hN⟩ := hv
  have hx := B.exec
  have hb := B.bytes
  have hr := B.returns
  have hts := atoms_spec (ws := wsX1_takeItem) B.pre
  have hown : s.vm.findClass RX1 = some m.cls := findClass_of_methodNamed B.named
  have hlocks := B.notSynchronized
  subst hsz
  have hD := hD0.self (sz := s.heap.size)
  generalize hAe : va_A [(a 0, .inr (1, [.ref (b 0), .ref (d 0), .ref (a 1), .ref (a 2), .ref (a 3), .ref (a 4), .ref (a 5), .ref (a 6), .ref (a 7), .int bu])), (a 1, .inl (cI, 40, .inl pa)), (a 2, .inl (cI, 40, .inl oc)), (a 3, .inl (cI, 40, .inl cv)), (a 4, .inl (cI, 40, .inl rq)), (a 5, .inl (cI, 40, .inl la)), (a 6, .inl (cI, 40, .inl rc)), (a 7, .inl (cI, 40, .inl su)), (b 0, .inr (0, [.ref (b 1), .ref (b 2), .ref (b 3), .int (nI n)])), (b 1, .inl (cI, 40, .inl me)), (b 2, .inl (cI, 40, .inl ar)), (b 3, .inl (cI, 40, .inl dl)), (d 0, .inr (2, [.ref (d 1), .ref (d 2), .ref (d 3), .ref (d 4), .int (nI fi), .int (nI sz)])), (d 1, .inl (cI, 40, .inl ki)), (d 2, .inl (cI, 40, .inl ow)), (d 3, .inl (cI, 40, .inl mr)), (d 4, .inl (cI, 40, .inl va))] s.heap.size = A at hD hN ⊢
  have hA : ∀ q : Nat, s.heap.size ≤ q → A q := fun q h => by rw [← hAe]; exact Or.inr h
  have hS : va_S A s.heap s.heap [] := va_S.rf
  have hl := lv_entry ([.ref (a 0), .int (nI k), .int q, .int v]) (n := 4) (Nat.le_of_ble_eq_true rfl)
  rw [lg_entry_eq]
  generalize (lg_sl ([.ref (a 0), .int (nI k), .int q, .int v]) ++ List.replicate (4 - (lg_sl ([.ref (a 0), .int (nI k), .int q, .int v])).length) Slot.unset).toArray = ls at hl ⊢
  have hl : lv_has ls 4 [(0, .ref (a 0)), (1, .int (nI k)), (2, .int q), (3, .int v)] := hl
  have hP : va_P G vwCl [(a 0, .inr (1, [.ref (b 0), .ref (d 0), .ref (a 1), .ref (a 2), .ref (a 3), .ref (a 4), .ref (a 5), .ref (a 6), .ref (a 7), .int bu])), (a 1, .inl (cI, 40, .inl pa)), (a 2, .inl (cI, 40, .inl oc)), (a 3, .inl (cI, 40, .inl cv)), (a 4, .inl (cI, 40, .inl rq)), (a 5, .inl (cI, 40, .inl la)), (a 6, .inl (cI, 40, .inl rc)), (a 7, .inl (cI, 40, .inl su)), (b 0, .inr (0, [.ref (b 1), .ref (b 2), .ref (b 3), .int (nI n)])), (b 1, .inl (cI, 40, .inl me)), (b 2, .inl (cI, 40, .inl ar)), (b 3, .inl (cI, 40, .inl dl)), (d 0, .inr (2, [.ref (d 1), .ref (d 2), .ref (d 3), .ref (d 4), .int (nI fi), .int (nI sz)])), (d 1, .inl (cI, 40, .inl ki)), (d 2, .inl (cI, 40, .inl ow)), (d 3, .inl (cI, 40, .inl mr)), (d 4, .inl (cI, 40, .inl va))] s.heap := hP
  obtain ⟨H, hH⟩ : ∃ H, H = s.heap := ⟨_, rfl⟩
  rw [← hH] at hP
  have hS : va_S A s.heap H [] := by rw [hH]; exact hS
  show W _ _ _ _ _ _ _ _ _ _ s.heap _ _ _ _ _
  rw [← hH]
  obtain ⟨locs, hlo⟩ : ∃ z : List Loc, z = [] := ⟨_, rfl⟩
  rw [← hlo] at hS ⊢
  refine lv_iload_n hx hb dX1_takeItem_0 rfl (lv_at hl 2 rfl) ?_
  refine lv_aload_n hx hb dX1_takeItem_1 rfl (lv_at hl 0 rfl) ?_
  refine va_get (D := G) (ci := 1) (v := .ref (a 6)) (C := RX1) (T := TX1) (N := 10) hx hb hts hi_X1_takeItem_X1 hown hK hP 0 rfl rfl 7 (by decide) (hts _ hk_X1_takeItem_f27) (fun _ h9 => h9) rfl dX1_takeItem_2 ?_
  refine lv_iload_n hx hb dX1_takeItem_5 rfl (lv_at hl 1 rfl) ?_
  refine gz_iald hx hb hK hP 6 rfl rfl (k := k) rfl (by omega) (by decide) dX1_takeItem_6 ?_
  refine lv_icmp_eq (tgt := 18) hx hb dX1_takeItem_7 (by decide) (fun c_1 => ?_) (fun c_1 => ?_)
  · skip
    refine lv_aload_n hx hb dX1_takeItem_18 rfl (lv_at hl 0 rfl) ?_
    refine va_get (D := G) (ci := 1) (v := .ref (a 6)) (C := RX1) (T := TX1) (N := 10) hx hb hts hi_X1_takeItem_X1 hown hK hP 0 rfl rfl 7 (by decide) (hts _ hk_X1_takeItem_f27) (fun _ h9 => h9) rfl dX1_takeItem_19 ?_
    refine lv_iload_n hx hb dX1_takeItem_22 rfl (lv_at hl 1 rfl) ?_
    refine lv_dup2_11 hx hb dX1_takeItem_23 rfl rfl ?_
    refine gz_iald hx hb hK hP 6 rfl rfl (k := k) rfl (by omega) (by decide) dX1_takeItem_24 ?_
    refine lv_iconst (v := nI 1) hx hb dX1_takeItem_25 (by decide +kernel) ?_
    refine lv_iadd hx hb dX1_takeItem_26 ?_
    refine gz_iast hx hb hK hP hD hS 6 rfl rfl (k := k) rfl (by omega) (by decide) dX1_takeItem_27 (fun H locs hP hD hS => ?_)
    have hP : va_P G vwCl [(a 0, .inr (1, [.ref (b 0), .ref (d 0), .ref (a 1), .ref (a 2), .ref (a 3), .ref (a 4), .ref (a 5), .ref (a 6), .ref (a 7), .int bu])), (a 1, .inl (cI, 40, .inl pa)), (a 2, .inl (cI, 40, .inl oc)), (a 3, .inl (cI, 40, .inl cv)), (a 4, .inl (cI, 40, .inl rq)), (a 5, .inl (cI, 40, .inl la)), (a 6, .inl (cI, 40, .inl (upd rc k ((rc k) + nI 1)))), (a 7, .inl (cI, 40, .inl su)), (b 0, .inr (0, [.ref (b 1), .ref (b 2), .ref (b 3), .int (nI n)])), (b 1, .inl (cI, 40, .inl me)), (b 2, .inl (cI, 40, .inl ar)), (b 3, .inl (cI, 40, .inl dl)), (d 0, .inr (2, [.ref (d 1), .ref (d 2), .ref (d 3), .ref (d 4), .int (nI fi), .int (nI sz)])), (d 1, .inl (cI, 40, .inl ki)), (d 2, .inl (cI, 40, .inl ow)), (d 3, .inl (cI, 40, .inl mr)), (d 4, .inl (cI, 40, .inl va))] H := hP
    have hD : va_D A [(a 0, .inr (1, [.ref (b 0), .ref (d 0), .ref (a 1), .ref (a 2), .ref (a 3), .ref (a 4), .ref (a 5), .ref (a 6), .ref (a 7), .int bu])), (a 1, .inl (cI, 40, .inl pa)), (a 2, .inl (cI, 40, .inl oc)), (a 3, .inl (cI, 40, .inl cv)), (a 4, .inl (cI, 40, .inl rq)), (a 5, .inl (cI, 40, .inl la)), (a 6, .inl (cI, 40, .inl (upd rc k ((rc k) + nI 1)))), (a 7, .inl (cI, 40, .inl su)), (b 0, .inr (0, [.ref (b 1), .ref (b 2), .ref (b 3), .int (nI n)])), (b 1, .inl (cI, 40, .inl me)), (b 2, .inl (cI, 40, .inl ar)), (b 3, .inl (cI, 40, .inl dl)), (d 0, .inr (2, [.ref (d 1), .ref (d 2), .ref (d 3), .ref (d 4), .int (nI fi), .int (nI sz)])), (d 1, .inl (cI, 40, .inl ki)), (d 2, .inl (cI, 40, .inl ow)), (d 3, .inl (cI, 40, .inl mr)), (d 4, .inl (cI, 40, .inl va))] := hD
    refine lv_aload_n hx hb dX1_takeItem_28 rfl (lv_at hl 0 rfl) ?_
    refine va_get (D := G) (ci := 1) (v := .ref (a 7)) (C := RX1) (T := TX1) (N := 10) hx hb hts hi_X1_takeItem_X1 hown hK hP 0 rfl rfl 8 (by decide) (hts _ hk_X1_takeItem_f30) (fun _ h9 => h9) rfl dX1_takeItem_29 ?_
    refine lv_iload_n hx hb dX1_takeItem_32 rfl (lv_at hl 1 rfl) ?_
    refine lv_dup2_11 hx hb dX1_takeItem_33 rfl rfl ?_
    refine gz_iald hx hb hK hP 7 rfl rfl (k := k) rfl (by omega) (by decide) dX1_takeItem_34 ?_
    refine lv_iload_n hx hb dX1_takeItem_35 rfl (lv_at hl 3 rfl) ?_
    refine lv_iadd hx hb dX1_takeItem_36 ?_
    refine gz_iast hx hb hK hP hD hS 7 rfl rfl (k := k) rfl (by omega) (by decide) dX1_takeItem_37 (fun H locs hP hD hS => ?_)
    have hP : va_P G vwCl [(a 0, .inr (1, [.ref (b 0), .ref (d 0), .ref (a 1), .ref (a 2), .ref (a 3), .ref (a 4), .ref (a 5), .ref (a 6), .ref (a 7), .int bu])), (a 1, .inl (cI, 40, .inl pa)), (a 2, .inl (cI, 40, .inl oc)), (a 3, .inl (cI, 40, .inl cv)), (a 4, .inl (cI, 40, .inl rq)), (a 5, .inl (cI, 40, .inl la)), (a 6, .inl (cI, 40, .inl (upd rc k ((rc k) + nI 1)))), (a 7, .inl (cI, 40, .inl (upd su k ((su k) + v)))), (b 0, .inr (0, [.ref (b 1), .ref (b 2), .ref (b 3), .int (nI n)])), (b 1, .inl (cI, 40, .inl me)), (b 2, .inl (cI, 40, .inl ar)), (b 3, .inl (cI, 40, .inl dl)), (d 0, .inr (2, [.ref (d 1), .ref (d 2), .ref (d 3), .ref (d 4), .int (nI fi), .int (nI sz)])), (d 1, .inl (cI, 40, .inl ki)), (d 2, .inl (cI, 40, .inl ow)), (d 3, .inl (cI, 40, .inl mr)), (d 4, .inl (cI, 40, .inl va))] H := hP
    have hD : va_D A [(a 0, .inr (1, [.ref (b 0), .ref (d 0), .ref (a 1), .ref (a 2), .ref (a 3), .ref (a 4), .ref (a 5), .ref (a 6), .ref (a 7), .int bu])), (a 1, .inl (cI, 40, .inl pa)), (a 2, .inl (cI, 40, .inl oc)), (a 3, .inl (cI, 40, .inl cv)), (a 4, .inl (cI, 40, .inl rq)), (a 5, .inl (cI, 40, .inl la)), (a 6, .inl (cI, 40, .inl (upd rc k ((rc k) + nI 1)))), (a 7, .inl (cI, 40, .inl (upd su k ((su k) + v)))), (b 0, .inr (0, [.ref (b 1), .ref (b 2), .ref (b 3), .int (nI n)])), (b 1, .inl (cI, 40, .inl me)), (b 2, .inl (cI, 40, .inl ar)), (b 3, .inl (cI, 40, .inl dl)), (d 0, .inr (2, [.ref (d 1), .ref (d 2), .ref (d 3), .ref (d 4), .int (nI fi), .int (nI sz)])), (d 1, .inl (cI, 40, .inl ki)), (d 2, .inl (cI, 40, .inl ow)), (d 3, .inl (cI, 40, .inl mr)), (d 4, .inl (cI, 40, .inl va))] := hD
    have hS9 := hS.2.2
    have hq9 : ((((pa, oc, cv, rq, la, upd rc k ((rc k) + nI 1), upd su k ((su k) + v), bu), (ki, ow, mr, va, fi, sz)) : CalS × LaneS) = k_titem n (pa, oc, cv, rq, la, rc, su, bu) (ki, ow, mr, va, fi, sz) k q v) ∧ fi < 40 ∧ sz ≤ 40 := by refine ⟨?_, by omega, by omega⟩; simp only [k_titem, ↓reduceIte, eq_self, nI_10, and_true, true_and, and_false, false_and, not_true_eq_false, not_false_eq_true, Bool.and_true, Bool.true_and, Bool.and_false, Bool.false_and, decide_true, decide_false, Bool.false_eq_true, eq_true c_1]
    exact W.vret hx hb hr (fun t ht hW => ⟨⟨((pa, oc, cv, rq, la, upd rc k ((rc k) + nI 1), upd su k ((su k) + v), bu), (ki, ow, mr, va, fi, sz)), rfl, hq9, by rw [ht]; exact hP, hD⟩, hS.F ht⟩) hS9 dX1_takeItem_38
  · skip
    refine lv_aload_n hx hb dX1_takeItem_10 rfl (lv_at hl 0 rfl) ?_
    refine lv_iload_n hx hb dX1_takeItem_11 rfl (lv_at hl 1 rfl) ?_
    refine lv_iconst (v := nI 4) hx hb dX1_takeItem_12 (by decide +kernel) ?_
    refine k_calli (S := CalS × LaneS) (wc := [(a 0, .inr (1, [.ref (b 0), .ref (d 0), .ref (a 1), .ref (a 2), .ref (a 3), .ref (a 4), .ref (a 5), .ref (a 6), .ref (a 7), .int bu])), (a 1, .inl (cI, 40, .inl pa)), (a 2, .inl (cI, 40, .inl oc)), (a 3, .inl (cI, 40, .inl cv)), (a 4, .inl (cI, 40, .inl rq)), (a 5, .inl (cI, 40, .inl la)), (a 6, .inl (cI, 40, .inl rc)), (a 7, .inl (cI, 40, .inl su)), (b 0, .inr (0, [.ref (b 1), .ref (b 2), .ref (b 3), .int (nI n)])), (b 1, .inl (cI, 40, .inl me)), (b 2, .inl (cI, 40, .inl ar)), (b 3, .inl (cI, 40, .inl dl)), (d 0, .inr (2, [.ref (d 1), .ref (d 2), .ref (d 3), .ref (d 4), .int (nI fi), .int (nI sz)])), (d 1, .inl (cI, 40, .inl ki)), (d 2, .inl (cI, 40, .inl ow)), (d 3, .inl (cI, 40, .inl mr)), (d 4, .inl (cI, 40, .inl va))]) (wr := []) (w1 := fun u => [(a 0, .inr (1, [.ref (b 0), .ref (d 0), .ref (a 1), .ref (a 2), .ref (a 3), .ref (a 4), .ref (a 5), .ref (a 6), .ref (a 7), .int u.1.2.2.2.2.2.2.2])), (a 1, .inl (cI, 40, .inl u.1.1)), (a 2, .inl (cI, 40, .inl u.1.2.1)), (a 3, .inl (cI, 40, .inl u.1.2.2.1)), (a 4, .inl (cI, 40, .inl u.1.2.2.2.1)), (a 5, .inl (cI, 40, .inl u.1.2.2.2.2.1)), (a 6, .inl (cI, 40, .inl u.1.2.2.2.2.2.1)), (a 7, .inl (cI, 40, .inl u.1.2.2.2.2.2.2.1)), (b 0, .inr (0, [.ref (b 1), .ref (b 2), .ref (b 3), .int (nI n)])), (b 1, .inl (cI, 40, .inl me)), (b 2, .inl (cI, 40, .inl ar)), (b 3, .inl (cI, 40, .inl dl)), (d 0, .inr (2, [.ref (d 1), .ref (d 2), .ref (d 3), .ref (d 4), .int (nI u.2.2.2.2.2.1), .int (nI u.2.2.2.2.2.2)])), (d 1, .inl (cI, 40, .inl u.2.1)), (d 2, .inl (cI, 40, .inl u.2.2.1)), (d 3, .inl (cI, 40, .inl u.2.2.2.1)), (d 4, .inl (cI, 40, .inl u.2.2.2.2.1))]) (w2 := fun u => [(a 0, .inr (1, [.ref (b 0), .ref (d 0), .ref (a 1), .ref (a 2), .ref (a 3), .ref (a 4), .ref (a 5), .ref (a 6), .ref (a 7), .int u.1.2.2.2.2.2.2.2])), (a 1, .inl (cI, 40, .inl u.1.1)), (a 2, .inl (cI, 40, .inl u.1.2.1)), (a 3, .inl (cI, 40, .inl u.1.2.2.1)), (a 4, .inl (cI, 40, .inl u.1.2.2.2.1)), (a 5, .inl (cI, 40, .inl u.1.2.2.2.2.1)), (a 6, .inl (cI, 40, .inl u.1.2.2.2.2.2.1)), (a 7, .inl (cI, 40, .inl u.1.2.2.2.2.2.2.1)), (b 0, .inr (0, [.ref (b 1), .ref (b 2), .ref (b 3), .int (nI n)])), (b 1, .inl (cI, 40, .inl me)), (b 2, .inl (cI, 40, .inl ar)), (b 3, .inl (cI, 40, .inl dl)), (d 0, .inr (2, [.ref (d 1), .ref (d 2), .ref (d 3), .ref (d 4), .int (nI u.2.2.2.2.2.1), .int (nI u.2.2.2.2.2.2)])), (d 1, .inl (cI, 40, .inl u.2.1)), (d 2, .inl (cI, 40, .inl u.2.2.1)), (d 3, .inl (cI, 40, .inl u.2.2.2.1)), (d 4, .inl (cI, 40, .inl u.2.2.2.2.1))]) (va_runV (As := [.int (nI k), .int (nI 4)]) (rest := []) ⟨hx, hb, hml, hown, hts⟩ (c_X1_endAndTell l G cI a b d pa oc cv rq la rc su bu me ar dl n ki ow mr va fi sz k (nI 4) (by first | omega | assumption) (by first | omega | assumption) (by first | omega | assumption) (by first | omega | assumption) H.size) (cwV 2 hts gX1_takeItem_X1_endAndTell rfl rfl rfl (by decide +kernel) ⟨Nat.le_of_ble_eq_true rfl, Nat.le_of_ble_eq_true rfl⟩) ⟨kPre.blind, va_recv hK hP (ci := 1) (q0 := 0) rfl rfl, kPre.at hP hK hD hS hA hN [0, 1, 2, 3, 4, 5, 6, 7, 8, 9, 10, 11, 12, 13, 14, 15, 16] rfl rfl⟩ rfl rfl hl.1 rfl (lv_room (Nat.le_of_ble_eq_true rfl)) dX1_takeItem_13 ⟨Nat.le_of_ble_eq_true rfl, Nat.le_of_ble_eq_true rfl⟩) hP hD hS hA [0, 1, 2, 3, 4, 5, 6, 7, 8, 9, 10, 11, 12, 13, 14, 15, 16] [] [0, 1, 2, 3, 4, 5, 6, 7, 8, 9, 10, 11, 12, 13, 14, 15, 16] rfl rfl ⟨rfl, by decide, rfl⟩ (fun _ => rfl) (fun r_2 u H locs hw_2 hP hD hS => ?_)
    obtain ⟨⟨pa_2, oc_2, cv_2, rq_2, la_2, rc_2, su_2, bu_2⟩, ⟨ki_2, ow_2, mr_2, va_2, fi_2, sz_2⟩⟩ := u
    obtain ⟨hw_2, hf_2, hs_2⟩ := hw_2
    have hf_2 : fi_2 < 40 := hf_2
    have hs_2 : sz_2 ≤ 40 := hs_2
    have hw_2 : ((((pa_2, oc_2, cv_2, rq_2, la_2, rc_2, su_2, bu_2), (ki_2, ow_2, mr_2, va_2, fi_2, sz_2)) : CalS × LaneS).1, (((pa_2, oc_2, cv_2, rq_2, la_2, rc_2, su_2, bu_2), (ki_2, ow_2, mr_2, va_2, fi_2, sz_2)) : CalS × LaneS).2, r_2) = k_endT n (pa, oc, cv, rq, la, rc, su, bu) (ki, ow, mr, va, fi, sz) k (nI 4) := hw_2
    have hP : va_P G vwCl [(a 0, .inr (1, [.ref (b 0), .ref (d 0), .ref (a 1), .ref (a 2), .ref (a 3), .ref (a 4), .ref (a 5), .ref (a 6), .ref (a 7), .int bu_2])), (a 1, .inl (cI, 40, .inl pa_2)), (a 2, .inl (cI, 40, .inl oc_2)), (a 3, .inl (cI, 40, .inl cv_2)), (a 4, .inl (cI, 40, .inl rq_2)), (a 5, .inl (cI, 40, .inl la_2)), (a 6, .inl (cI, 40, .inl rc_2)), (a 7, .inl (cI, 40, .inl su_2)), (b 0, .inr (0, [.ref (b 1), .ref (b 2), .ref (b 3), .int (nI n)])), (b 1, .inl (cI, 40, .inl me)), (b 2, .inl (cI, 40, .inl ar)), (b 3, .inl (cI, 40, .inl dl)), (d 0, .inr (2, [.ref (d 1), .ref (d 2), .ref (d 3), .ref (d 4), .int (nI fi_2), .int (nI sz_2)])), (d 1, .inl (cI, 40, .inl ki_2)), (d 2, .inl (cI, 40, .inl ow_2)), (d 3, .inl (cI, 40, .inl mr_2)), (d 4, .inl (cI, 40, .inl va_2))] H := hP
    have hD : va_D A [(a 0, .inr (1, [.ref (b 0), .ref (d 0), .ref (a 1), .ref (a 2), .ref (a 3), .ref (a 4), .ref (a 5), .ref (a 6), .ref (a 7), .int bu_2])), (a 1, .inl (cI, 40, .inl pa_2)), (a 2, .inl (cI, 40, .inl oc_2)), (a 3, .inl (cI, 40, .inl cv_2)), (a 4, .inl (cI, 40, .inl rq_2)), (a 5, .inl (cI, 40, .inl la_2)), (a 6, .inl (cI, 40, .inl rc_2)), (a 7, .inl (cI, 40, .inl su_2)), (b 0, .inr (0, [.ref (b 1), .ref (b 2), .ref (b 3), .int (nI n)])), (b 1, .inl (cI, 40, .inl me)), (b 2, .inl (cI, 40, .inl ar)), (b 3, .inl (cI, 40, .inl dl)), (d 0, .inr (2, [.ref (d 1), .ref (d 2), .ref (d 3), .ref (d 4), .int (nI fi_2), .int (nI sz_2)])), (d 1, .inl (cI, 40, .inl ki_2)), (d 2, .inl (cI, 40, .inl ow_2)), (d 3, .inl (cI, 40, .inl mr_2)), (d 4, .inl (cI, 40, .inl va_2))] := hD
    refine lv_pop hx hb dX1_takeItem_16 rfl ?_
    have hS9 := hS.2.2
    have hq9 : ((((pa_2, oc_2, cv_2, rq_2, la_2, rc_2, su_2, bu_2), (ki_2, ow_2, mr_2, va_2, fi_2, sz_2)) : CalS × LaneS) = k_titem n (pa, oc, cv, rq, la, rc, su, bu) (ki, ow, mr, va, fi, sz) k q v) ∧ fi_2 < 40 ∧ sz_2 ≤ 40 := by refine ⟨?_, by omega, by omega⟩; simp only [k_titem, ↓reduceIte, eq_self, nI_10, and_true, true_and, and_false, false_and, not_true_eq_false, not_false_eq_true, Bool.and_true, Bool.true_and, Bool.and_false, Bool.false_and, decide_true, decide_false, Bool.false_eq_true, eq_false c_1, ← hw_2]
    exact W.vret hx hb hr (fun t ht hW => ⟨⟨((pa_2, oc_2, cv_2, rq_2, la_2, rc_2, su_2, bu_2), (ki_2, ow_2, mr_2, va_2, fi_2, sz_2)), rfl, hq9, by rw [ht]; exact hP, hD⟩, hS.F ht⟩) hS9 dX1_takeItem_17

theorem hk_X1_take_f15 : (.fieldLink RX1 15 "Callgate$Caller" "outcomes" "[I" : Cond) ∈ wsX1_take := by decide +kernel
theorem hi_X1_take_X1 : ∀ w ∈ u_ws RX1 TX1 10, w ∈ wsX1_take := by decide +kernel
set_option maxHeartbeats 4000000 in
set_option maxRecDepth 100000 in
theorem c_X1_take (l : Launch) (G : va_G) (cI : ClassId) (a b d : Nat → Nat) (pa : Fn) (oc : Fn) (cv : Fn) (rq : Fn) (la : Fn) (rc : Fn) (su : Fn) (bu : Int32) (me : Fn) (ar : Fn) (dl : Fn) (n : Nat) (ki : Fn) (ow : Fn) (mr : Fn) (va : Fn) (fi : Nat) (sz : Nat) (kd : Int32) (k : Nat) (q : Int32) (v : Int32) (hk : k < n) (hn : n ≤ 40) (hf : fi < 40) (hs : sz ≤ 40) (zz : Nat) : Met l yX1_take wsX1_take ({ frames := 6, cells := 0, slots := 0, locals := 136 }) (va_Pc [.ref (a 0), .int kd, .int (nI k), .int q, .int v] (kPre G cI [(a 0, .inr (1, [.ref (b 0), .ref (d 0), .ref (a 1), .ref (a 2), .ref (a 3), .ref (a 4), .ref (a 5), .ref (a 6), .ref (a 7), .int bu])), (a 1, .inl (cI, 40, .inl pa)), (a 2, .inl (cI, 40, .inl oc)), (a 3, .inl (cI, 40, .inl cv)), (a 4, .inl (cI, 40, .inl rq)), (a 5, .inl (cI, 40, .inl la)), (a 6, .inl (cI, 40, .inl rc)), (a 7, .inl (cI, 40, .inl su)), (b 0, .inr (0, [.ref (b 1), .ref (b 2), .ref (b 3), .int (nI n)])), (b 1, .inl (cI, 40, .inl me)), (b 2, .inl (cI, 40, .inl ar)), (b 3, .inl (cI, 40, .inl dl)), (d 0, .inr (2, [.ref (d 1), .ref (d 2), .ref (d 3), .ref (d 4), .int (nI fi), .int (nI sz)])), (d 1, .inl (cI, 40, .inl ki)), (d 2, .inl (cI, 40, .inl ow)), (d 3, .inl (cI, 40, .inl mr)), (d 4, .inl (cI, 40, .inl va))] zz)) (va_Qv (fun (u : CalS × LaneS) => (u = k_take n me (pa, oc, cv, rq, la, rc, su, bu) (ki, ow, mr, va, fi, sz) kd k q v) ∧ u.2.2.2.2.2.1 < 40 ∧ u.2.2.2.2.2.2 ≤ 40) (fun (u : CalS × LaneS) t => kQ G [(a 0, .inr (1, [.ref (b 0), .ref (d 0), .ref (a 1), .ref (a 2), .ref (a 3), .ref (a 4), .ref (a 5), .ref (a 6), .ref (a 7), .int u.1.2.2.2.2.2.2.2])), (a 1, .inl (cI, 40, .inl u.1.1)), (a 2, .inl (cI, 40, .inl u.1.2.1)), (a 3, .inl (cI, 40, .inl u.1.2.2.1)), (a 4, .inl (cI, 40, .inl u.1.2.2.2.1)), (a 5, .inl (cI, 40, .inl u.1.2.2.2.2.1)), (a 6, .inl (cI, 40, .inl u.1.2.2.2.2.2.1)), (a 7, .inl (cI, 40, .inl u.1.2.2.2.2.2.2.1)), (b 0, .inr (0, [.ref (b 1), .ref (b 2), .ref (b 3), .int (nI n)])), (b 1, .inl (cI, 40, .inl me)), (b 2, .inl (cI, 40, .inl ar)), (b 3, .inl (cI, 40, .inl dl)), (d 0, .inr (2, [.ref (d 1), .ref (d 2), .ref (d 3), .ref (d 4), .int (nI u.2.2.2.2.2.1), .int (nI u.2.2.2.2.2.2)])), (d 1, .inl (cI, 40, .inl u.2.1)), (d 2, .inl (cI, 40, .inl u.2.2.1)), (d 3, .inl (cI, 40, .inl u.2.2.2.1)), (d 4, .inl (cI, 40, .inl u.2.2.2.2.1))] (va_A [(a 0, .inr (1, [.ref (b 0), .ref (d 0), .ref (a 1), .ref (a 2), .ref (a 3), .ref (a 4), .ref (a 5), .ref (a 6), .ref (a 7), .int bu])), (a 1, .inl (cI, 40, .inl pa)), (a 2, .inl (cI, 40, .inl oc)), (a 3, .inl (cI, 40, .inl cv)), (a 4, .inl (cI, 40, .inl rq)), (a 5, .inl (cI, 40, .inl la)), (a 6, .inl (cI, 40, .inl rc)), (a 7, .inl (cI, 40, .inl su)), (b 0, .inr (0, [.ref (b 1), .ref (b 2), .ref (b 3), .int (nI n)])), (b 1, .inl (cI, 40, .inl me)), (b 2, .inl (cI, 40, .inl ar)), (b 3, .inl (cI, 40, .inl dl)), (d 0, .inr (2, [.ref (d 1), .ref (d 2), .ref (d 3), .ref (d 4), .int (nI fi), .int (nI sz)])), (d 1, .inl (cI, 40, .inl ki)), (d 2, .inl (cI, 40, .inl ow)), (d 3, .inl (cI, 40, .inl mr)), (d 4, .inl (cI, 40, .inl va))] zz) t) (va_A [(a 0, .inr (1, [.ref (b 0), .ref (d 0), .ref (a 1), .ref (a 2), .ref (a 3), .ref (a 4), .ref (a 5), .ref (a 6), .ref (a 7), .int bu])), (a 1, .inl (cI, 40, .inl pa)), (a 2, .inl (cI, 40, .inl oc)), (a 3, .inl (cI, 40, .inl cv)), (a 4, .inl (cI, 40, .inl rq)), (a 5, .inl (cI, 40, .inl la)), (a 6, .inl (cI, 40, .inl rc)), (a 7, .inl (cI, 40, .inl su)), (b 0, .inr (0, [.ref (b 1), .ref (b 2), .ref (b 3), .int (nI n)])), (b 1, .inl (cI, 40, .inl me)), (b 2, .inl (cI, 40, .inl ar)), (b 3, .inl (cI, 40, .inl dl)), (d 0, .inr (2, [.ref (d 1), .ref (d 2), .ref (d 3), .ref (d 4), .int (nI fi), .int (nI sz)])), (d 1, .inl (cI, 40, .inl ki)), (d 2, .inl (cI, 40, .inl ow)), (d 3, .inl (cI, 40, .inl mr)), (d 4, .inl (cI, 40, .inl va))] zz)) 0 0 (va_A [(a 0, .inr (1, [.ref (b 0), .ref (d 0), .ref (a 1), .ref (a 2), .ref (a 3), .ref (a 4), .ref (a 5), .ref (a 6), .ref (a 7), .int bu])), (a 1, .inl (cI, 40, .inl pa)), (a 2, .inl (cI, 40, .inl oc)), (a 3, .inl (cI, 40, .inl cv)), (a 4, .inl (cI, 40, .inl rq)), (a 5, .inl (cI, 40, .inl la)), (a 6, .inl (cI, 40, .inl rc)), (a 7, .inl (cI, 40, .inl su)), (b 0, .inr (0, [.ref (b 1), .ref (b 2), .ref (b 3), .int (nI n)])), (b 1, .inl (cI, 40, .inl me)), (b 2, .inl (cI, 40, .inl ar)), (b 3, .inl (cI, 40, .inl dl)), (d 0, .inr (2, [.ref (d 1), .ref (d 2), .ref (d 3), .ref (d 4), .int (nI fi), .int (nI sz)])), (d 1, .inl (cI, 40, .inl ki)), (d 2, .inl (cI, 40, .inl ow)), (d 3, .inl (cI, 40, .inl mr)), (d 4, .inl (cI, 40, .inl va))] zz) := by
  refine Met.ofW (cc := cX1_take) (maxL := 5) (ret := none) (by decide) rfl ?_
  intro p e s m args below meth c s₁ B hml hv
  obtain ⟨rfl, hsz, hP, hK, hD0, hN⟩ := hv
  have hx := B.exec
  have hb := B.bytes
  have hr := B.returns
  have hts := atoms_spec (ws := wsX1_take) B.pre
  have hown : s.vm.findClass RX1 = some m.cls := findClass_of_methodNamed B.named
  have hlocks := B.notSynchronized
  subst hsz
  have hD := hD0.self (sz := s.heap.size)
  generalize hAe : va_A [(a 0, .inr (1, [.ref (b 0), .ref (d 0), .ref (a 1), .ref (a 2), .ref (a 3), .ref (a 4), .ref (a 5), .ref (a 6), .ref (a 7), .int bu])), (a 1, .inl (cI, 40, .inl pa)), (a 2, .inl (cI, 40, .inl oc)), (a 3, .inl (cI, 40, .inl cv)), (a 4, .inl (cI, 40, .inl rq)), (a 5, .inl (cI, 40, .inl la)), (a 6, .inl (cI, 40, .inl rc)), (a 7, .inl (cI, 40, .inl su)), (b 0, .inr (0, [.ref (b 1), .ref (b 2), .ref (b 3), .int (nI n)])), (b 1, .inl (cI, 40, .inl me)), (b 2, .inl (cI, 40, .inl ar)), (b 3, .inl (cI, 40, .inl dl)), (d 0, .inr (2, [.ref (d 1), .ref (d 2), .ref (d 3), .ref (d 4), .int (nI fi), .int (nI sz)])), (d 1, .inl (cI, 40, .inl ki)), (d 2, .inl (cI, 40, .inl ow)), (d 3, .inl (cI, 40, .inl mr)), (d 4, .inl (cI, 40, .inl va))] s.heap.size = A at hD hN ⊢
  have hA : ∀ q : Nat, s.heap.size ≤ q → A q := fun q h => by rw [← hAe]; exact Or.inr h
  have hS : va_S A s.heap s.heap [] := va_S.rf
  have hl := lv_entry ([.ref (a 0), .int kd, .int (nI k), .int q, .int v]) (n := 5) (Nat.le_of_ble_eq_true rfl)
  rw [lg_entry_eq]
  generalize (lg_sl ([.ref (a 0), .int kd, .int (nI k), .int q, .int v]) ++ List.replicate (5 - (lg_sl ([.ref (a 0), .int kd, .int (nI k), .int q, .int v])).length) Slot.unset).toArray = ls at hl ⊢
  have hl : lv_has ls 5 [(0, .ref (a 0)), (1, .int kd), (2, .int (nI k)), (3, .int q), (4, .int v)] := hl
  have hP : va_P G vwCl [(a 0, .inr (1, [.ref (b 0), .ref (d 0), .ref (a 1), .ref (a 2), .ref (a 3), .ref (a 4), .ref (a 5), .ref (a 6), .ref (a 7), .int bu])), (a 1, .inl (cI, 40, .inl pa)), (a 2, .inl (cI, 40, .inl oc)), (a 3, .inl (cI, 40, .inl cv)), (a 4, .inl (cI, 40, .inl rq)), (a 5, .inl (cI, 40, .inl la)), (a 6, .inl (cI, 40, .inl rc)), (a 7, .inl (cI, 40, .inl su)), (b 0, .inr (0, [.ref (b 1), .ref (b 2), .ref (b 3), .int (nI n)])), (b 1, .inl (cI, 40, .inl me)), (b 2, .inl (cI, 40, .inl ar)), (b 3, .inl (cI, 40, .inl dl)), (d 0, .inr (2, [.ref (d 1), .ref (d 2), .ref (d 3), .ref (d 4), .int (nI fi), .int (nI sz)])), (d 1, .inl (cI, 40, .inl ki)), (d 2, .inl (cI, 40, .inl ow)), (d 3, .inl (cI, 40, .inl mr)), (d 4, .inl (cI, 40, .inl va))] s.heap := hP
  obtain ⟨H, hH⟩ : ∃ H, H = s.heap := ⟨_, rfl⟩
  rw [← hH] at hP
  have hS : va_S A s.heap H [] := by rw [hH]; exact hS
  show W _ _ _ _ _ _ _ _ _ _ s.heap _ _ _ _ _
  rw [← hH]
  obtain ⟨locs, hlo⟩ : ∃ z : List Loc, z = [] := ⟨_, rfl⟩
  rw [← hlo] at hS ⊢
  refine lv_aload_n hx hb dX1_take_0 rfl (lv_at hl 0 rfl) ?_
  refine va_get (D := G) (ci := 1) (v := .ref (a 2)) (C := RX1) (T := TX1) (N := 10) hx hb hts hi_X1_take_X1 hown hK hP 0 rfl rfl 3 (by decide) (hts _ hk_X1_take_f15) (fun _ h9 => h9) rfl dX1_take_1 ?_
  refine lv_iload_n hx hb dX1_take_4 rfl (lv_at hl 2 rfl) ?_
  refine gz_iald hx hb hK hP 2 rfl rfl (k := k) rfl (by omega) (by decide) dX1_take_5 ?_
  refine lv_iconst (v := (-1)) hx hb dX1_take_6 (by decide +kernel) ?_
  refine lv_icmp_eq (tgt := 11) hx hb dX1_take_7 (by decide) (fun c_1 => ?_) (fun c_1 => ?_)
  · skip
    refine lv_iload_n hx hb dX1_take_11 rfl (lv_at hl 1 rfl) ?_
    refine lv_iconst (v := nI 3) hx hb dX1_take_12 (by decide +kernel) ?_
    refine lv_icmp_ne (tgt := 27) hx hb dX1_take_13 (by decide) (fun c_2 => ?_) (fun c_2 => ?_)
    · skip
      refine lv_aload_n hx hb dX1_take_27 rfl (lv_at hl 0 rfl) ?_
      refine lv_iload_n hx hb dX1_take_28 rfl (lv_at hl 2 rfl) ?_
      refine lv_iload_n hx hb dX1_take_29 rfl (lv_at hl 3 rfl) ?_
      refine lv_iload hx hb dX1_take_30 (lv_at hl 4 rfl) ?_
      refine k_callv (S := CalS × LaneS) (wc := [(a 0, .inr (1, [.ref (b 0), .ref (d 0), .ref (a 1), .ref (a 2), .ref (a 3), .ref (a 4), .ref (a 5), .ref (a 6), .ref (a 7), .int bu])), (a 1, .inl (cI, 40, .inl pa)), (a 2, .inl (cI, 40, .inl oc)), (a 3, .inl (cI, 40, .inl cv)), (a 4, .inl (cI, 40, .inl rq)), (a 5, .inl (cI, 40, .inl la)), (a 6, .inl (cI, 40, .inl rc)), (a 7, .inl (cI, 40, .inl su)), (b 0, .inr (0, [.ref (b 1), .ref (b 2), .ref (b 3), .int (nI n)])), (b 1, .inl (cI, 40, .inl me)), (b 2, .inl (cI, 40, .inl ar)), (b 3, .inl (cI, 40, .inl dl)), (d 0, .inr (2, [.ref (d 1), .ref (d 2), .ref (d 3), .ref (d 4), .int (nI fi), .int (nI sz)])), (d 1, .inl (cI, 40, .inl ki)), (d 2, .inl (cI, 40, .inl ow)), (d 3, .inl (cI, 40, .inl mr)), (d 4, .inl (cI, 40, .inl va))]) (wr := []) (w1 := fun u => [(a 0, .inr (1, [.ref (b 0), .ref (d 0), .ref (a 1), .ref (a 2), .ref (a 3), .ref (a 4), .ref (a 5), .ref (a 6), .ref (a 7), .int u.1.2.2.2.2.2.2.2])), (a 1, .inl (cI, 40, .inl u.1.1)), (a 2, .inl (cI, 40, .inl u.1.2.1)), (a 3, .inl (cI, 40, .inl u.1.2.2.1)), (a 4, .inl (cI, 40, .inl u.1.2.2.2.1)), (a 5, .inl (cI, 40, .inl u.1.2.2.2.2.1)), (a 6, .inl (cI, 40, .inl u.1.2.2.2.2.2.1)), (a 7, .inl (cI, 40, .inl u.1.2.2.2.2.2.2.1)), (b 0, .inr (0, [.ref (b 1), .ref (b 2), .ref (b 3), .int (nI n)])), (b 1, .inl (cI, 40, .inl me)), (b 2, .inl (cI, 40, .inl ar)), (b 3, .inl (cI, 40, .inl dl)), (d 0, .inr (2, [.ref (d 1), .ref (d 2), .ref (d 3), .ref (d 4), .int (nI u.2.2.2.2.2.1), .int (nI u.2.2.2.2.2.2)])), (d 1, .inl (cI, 40, .inl u.2.1)), (d 2, .inl (cI, 40, .inl u.2.2.1)), (d 3, .inl (cI, 40, .inl u.2.2.2.1)), (d 4, .inl (cI, 40, .inl u.2.2.2.2.1))]) (w2 := fun u => [(a 0, .inr (1, [.ref (b 0), .ref (d 0), .ref (a 1), .ref (a 2), .ref (a 3), .ref (a 4), .ref (a 5), .ref (a 6), .ref (a 7), .int u.1.2.2.2.2.2.2.2])), (a 1, .inl (cI, 40, .inl u.1.1)), (a 2, .inl (cI, 40, .inl u.1.2.1)), (a 3, .inl (cI, 40, .inl u.1.2.2.1)), (a 4, .inl (cI, 40, .inl u.1.2.2.2.1)), (a 5, .inl (cI, 40, .inl u.1.2.2.2.2.1)), (a 6, .inl (cI, 40, .inl u.1.2.2.2.2.2.1)), (a 7, .inl (cI, 40, .inl u.1.2.2.2.2.2.2.1)), (b 0, .inr (0, [.ref (b 1), .ref (b 2), .ref (b 3), .int (nI n)])), (b 1, .inl (cI, 40, .inl me)), (b 2, .inl (cI, 40, .inl ar)), (b 3, .inl (cI, 40, .inl dl)), (d 0, .inr (2, [.ref (d 1), .ref (d 2), .ref (d 3), .ref (d 4), .int (nI u.2.2.2.2.2.1), .int (nI u.2.2.2.2.2.2)])), (d 1, .inl (cI, 40, .inl u.2.1)), (d 2, .inl (cI, 40, .inl u.2.2.1)), (d 3, .inl (cI, 40, .inl u.2.2.2.1)), (d 4, .inl (cI, 40, .inl u.2.2.2.2.1))]) (va_runV (As := [.int (nI k), .int q, .int v]) (rest := []) ⟨hx, hb, hml, hown, hts⟩ (c_X1_takeItem l G cI a b d pa oc cv rq la rc su bu me ar dl n ki ow mr va fi sz k q v (by first | omega | assumption) (by first | omega | assumption) (by first | omega | assumption) (by first | omega | assumption) H.size) (cwV 3 hts gX1_take_X1_takeItem rfl rfl rfl (by decide +kernel) ⟨Nat.le_of_ble_eq_true rfl, Nat.le_of_ble_eq_true rfl⟩) ⟨kPre.blind, va_recv hK hP (ci := 1) (q0 := 0) rfl rfl, kPre.at hP hK hD hS hA hN [0, 1, 2, 3, 4, 5, 6, 7, 8, 9, 10, 11, 12, 13, 14, 15, 16] rfl rfl⟩ rfl rfl hl.1 rfl (lv_room (Nat.le_of_ble_eq_true rfl)) dX1_take_32 ⟨Nat.le_of_ble_eq_true rfl, Nat.le_of_ble_eq_true rfl⟩) hP hD hS hA [0, 1, 2, 3, 4, 5, 6, 7, 8, 9, 10, 11, 12, 13, 14, 15, 16] [] [0, 1, 2, 3, 4, 5, 6, 7, 8, 9, 10, 11, 12, 13, 14, 15, 16] rfl rfl ⟨rfl, by decide, rfl⟩ (fun _ => rfl) (fun u H locs hw_3 hP hD hS => ?_)
      obtain ⟨⟨pa_3, oc_3, cv_3, rq_3, la_3, rc_3, su_3, bu_3⟩, ⟨ki_3, ow_3, mr_3, va_3, fi_3, sz_3⟩⟩ := u
      obtain ⟨hw_3, hf_3, hs_3⟩ := hw_3
      have hf_3 : fi_3 < 40 := hf_3
      have hs_3 : sz_3 ≤ 40 := hs_3
      have hw_3 : (((pa_3, oc_3, cv_3, rq_3, la_3, rc_3, su_3, bu_3), (ki_3, ow_3, mr_3, va_3, fi_3, sz_3)) : CalS × LaneS) = k_titem n (pa, oc, cv, rq, la, rc, su, bu) (ki, ow, mr, va, fi, sz) k q v := hw_3
      have hP : va_P G vwCl [(a 0, .inr (1, [.ref (b 0), .ref (d 0), .ref (a 1), .ref (a 2), .ref (a 3), .ref (a 4), .ref (a 5), .ref (a 6), .ref (a 7), .int bu_3])), (a 1, .inl (cI, 40, .inl pa_3)), (a 2, .inl (cI, 40, .inl oc_3)), (a 3, .inl (cI, 40, .inl cv_3)), (a 4, .inl (cI, 40, .inl rq_3)), (a 5, .inl (cI, 40, .inl la_3)), (a 6, .inl (cI, 40, .inl rc_3)), (a 7, .inl (cI, 40, .inl su_3)), (b 0, .inr (0, [.ref (b 1), .ref (b 2), .ref (b 3), .int (nI n)])), (b 1, .inl (cI, 40, .inl me)), (b 2, .inl (cI, 40, .inl ar)), (b 3, .inl (cI, 40, .inl dl)), (d 0, .inr (2, [.ref (d 1), .ref (d 2), .ref (d 3), .ref (d 4), .int (nI fi_3), .int (nI sz_3)])), (d 1, .inl (cI, 40, .inl ki_3)), (d 2, .inl (cI, 40, .inl ow_3)), (d 3, .inl (cI, 40, .inl mr_3)), (d 4, .inl (cI, 40, .inl va_3))] H := hP
      have hD : va_D A [(a 0, .inr (1, [.ref (b 0), .ref (d 0), .ref (a 1), .ref (a 2), .ref (a 3), .ref (a 4), .ref (a 5), .ref (a 6), .ref (a 7), .int bu_3])), (a 1, .inl (cI, 40, .inl pa_3)), (a 2, .inl (cI, 40, .inl oc_3)), (a 3, .inl (cI, 40, .inl cv_3)), (a 4, .inl (cI, 40, .inl rq_3)), (a 5, .inl (cI, 40, .inl la_3)), (a 6, .inl (cI, 40, .inl rc_3)), (a 7, .inl (cI, 40, .inl su_3)), (b 0, .inr (0, [.ref (b 1), .ref (b 2), .ref (b 3), .int (nI n)])), (b 1, .inl (cI, 40, .inl me)), (b 2, .inl (cI, 40, .inl ar)), (b 3, .inl (cI, 40, .inl dl)), (d 0, .inr (2, [.ref (d 1), .ref (d 2), .ref (d 3), .ref (d 4), .int (nI fi_3), .int (nI sz_3)])), (d 1, .inl (cI, 40, .inl ki_3)), (d 2, .inl (cI, 40, .inl ow_3)), (d 3, .inl (cI, 40, .inl mr_3)), (d 4, .inl (cI, 40, .inl va_3))] := hD
      have hS9 := hS.2.2
      have hq9 : ((((pa_3, oc_3, cv_3, rq_3, la_3, rc_3, su_3, bu_3), (ki_3, ow_3, mr_3, va_3, fi_3, sz_3)) : CalS × LaneS) = k_take n me (pa, oc, cv, rq, la, rc, su, bu) (ki, ow, mr, va, fi, sz) kd k q v) ∧ fi_3 < 40 ∧ sz_3 ≤ 40 := by refine ⟨?_, by omega, by omega⟩; simp only [k_take, ↓reduceIte, eq_self, nI_10, and_true, true_and, and_false, false_and, not_true_eq_false, not_false_eq_true, Bool.and_true, Bool.true_and, Bool.and_false, Bool.false_and, decide_true, decide_false, Bool.false_eq_true, eq_true c_1, eq_false c_2, ← hw_3]
      exact W.vret hx hb hr (fun t ht hW => ⟨⟨((pa_3, oc_3, cv_3, rq_3, la_3, rc_3, su_3, bu_3), (ki_3, ow_3, mr_3, va_3, fi_3, sz_3)), rfl, hq9, by rw [ht]; exact hP, hD⟩, hS.F ht⟩) hS9 dX1_take_35
    · skip
      refine lv_aload_n hx hb dX1_take_16 rfl (lv_at hl 0 rfl) ?_
      refine lv_iload_n hx hb dX1_take_17 rfl (lv_at hl 2 rfl) ?_
      refine lv_iload_n hx hb dX1_take_18 rfl (lv_at hl 3 rfl) ?_
      refine lv_iload hx hb dX1_take_19 (lv_at hl 4 rfl) ?_
      refine k_callv (S := CalS × LaneS) (wc := [(a 0, .inr (1, [.ref (b 0), .ref (d 0), .ref (a 1), .ref (a 2), .ref (a 3), .ref (a 4), .ref (a 5), .ref (a 6), .ref (a 7), .int bu])), (a 1, .inl (cI, 40, .inl pa)), (a 2, .inl (cI, 40, .inl oc)), (a 3, .inl (cI, 40, .inl cv)), (a 4, .inl (cI, 40, .inl rq)), (a 5, .inl (cI, 40, .inl la)), (a 6, .inl (cI, 40, .inl rc)), (a 7, .inl (cI, 40, .inl su)), (b 0, .inr (0, [.ref (b 1), .ref (b 2), .ref (b 3), .int (nI n)])), (b 1, .inl (cI, 40, .inl me)), (b 2, .inl (cI, 40, .inl ar)), (b 3, .inl (cI, 40, .inl dl)), (d 0, .inr (2, [.ref (d 1), .ref (d 2), .ref (d 3), .ref (d 4), .int (nI fi), .int (nI sz)])), (d 1, .inl (cI, 40, .inl ki)), (d 2, .inl (cI, 40, .inl ow)), (d 3, .inl (cI, 40, .inl mr)), (d 4, .inl (cI, 40, .inl va))]) (wr := []) (w1 := fun u => [(a 0, .inr (1, [.ref (b 0), .ref (d 0), .ref (a 1), .ref (a 2), .ref (a 3), .ref (a 4), .ref (a 5), .ref (a 6), .ref (a 7), .int u.1.2.2.2.2.2.2.2])), (a 1, .inl (cI, 40, .inl u.1.1)), (a 2, .inl (cI, 40, .inl u.1.2.1)), (a 3, .inl (cI, 40, .inl u.1.2.2.1)), (a 4, .inl (cI, 40, .inl u.1.2.2.2.1)), (a 5, .inl (cI, 40, .inl u.1.2.2.2.2.1)), (a 6, .inl (cI, 40, .inl u.1.2.2.2.2.2.1)), (a 7, .inl (cI, 40, .inl u.1.2.2.2.2.2.2.1)), (b 0, .inr (0, [.ref (b 1), .ref (b 2), .ref (b 3), .int (nI n)])), (b 1, .inl (cI, 40, .inl me)), (b 2, .inl (cI, 40, .inl ar)), (b 3, .inl (cI, 40, .inl dl)), (d 0, .inr (2, [.ref (d 1), .ref (d 2), .ref (d 3), .ref (d 4), .int (nI u.2.2.2.2.2.1), .int (nI u.2.2.2.2.2.2)])), (d 1, .inl (cI, 40, .inl u.2.1)), (d 2, .inl (cI, 40, .inl u.2.2.1)), (d 3, .inl (cI, 40, .inl u.2.2.2.1)), (d 4, .inl (cI, 40, .inl u.2.2.2.2.1))]) (w2 := fun u => [(a 0, .inr (1, [.ref (b 0), .ref (d 0), .ref (a 1), .ref (a 2), .ref (a 3), .ref (a 4), .ref (a 5), .ref (a 6), .ref (a 7), .int u.1.2.2.2.2.2.2.2])), (a 1, .inl (cI, 40, .inl u.1.1)), (a 2, .inl (cI, 40, .inl u.1.2.1)), (a 3, .inl (cI, 40, .inl u.1.2.2.1)), (a 4, .inl (cI, 40, .inl u.1.2.2.2.1)), (a 5, .inl (cI, 40, .inl u.1.2.2.2.2.1)), (a 6, .inl (cI, 40, .inl u.1.2.2.2.2.2.1)), (a 7, .inl (cI, 40, .inl u.1.2.2.2.2.2.2.1)), (b 0, .inr (0, [.ref (b 1), .ref (b 2), .ref (b 3), .int (nI n)])), (b 1, .inl (cI, 40, .inl me)), (b 2, .inl (cI, 40, .inl ar)), (b 3, .inl (cI, 40, .inl dl)), (d 0, .inr (2, [.ref (d 1), .ref (d 2), .ref (d 3), .ref (d 4), .int (nI u.2.2.2.2.2.1), .int (nI u.2.2.2.2.2.2)])), (d 1, .inl (cI, 40, .inl u.2.1)), (d 2, .inl (cI, 40, .inl u.2.2.1)), (d 3, .inl (cI, 40, .inl u.2.2.2.1)), (d 4, .inl (cI, 40, .inl u.2.2.2.2.1))]) (va_runV (As := [.int (nI k), .int q, .int v]) (rest := []) ⟨hx, hb, hml, hown, hts⟩ (c_X1_takeAnswer l G cI a b d pa oc cv rq la rc su bu me ar dl n ki ow mr va fi sz k q v (by first | omega | assumption) (by first | omega | assumption) (by first | omega | assumption) (by first | omega | assumption) H.size) (cwV 3 hts gX1_take_X1_takeAnswer rfl rfl rfl (by decide +kernel) ⟨Nat.le_of_ble_eq_true rfl, Nat.le_of_ble_eq_true rfl⟩) ⟨kPre.blind, va_recv hK hP (ci := 1) (q0 := 0) rfl rfl, kPre.at hP hK hD hS hA hN [0, 1, 2, 3, 4, 5, 6, 7, 8, 9, 10, 11, 12, 13, 14, 15, 16] rfl rfl⟩ rfl rfl hl.1 rfl (lv_room (Nat.le_of_ble_eq_true rfl)) dX1_take_21 ⟨Nat.le_of_ble_eq_true rfl, Nat.le_of_ble_eq_true rfl⟩) hP hD hS hA [0, 1, 2, 3, 4, 5, 6, 7, 8, 9, 10, 11, 12, 13, 14, 15, 16] [] [0, 1, 2, 3, 4, 5, 6, 7, 8, 9, 10, 11, 12, 13, 14, 15, 16] rfl rfl ⟨rfl, by decide, rfl⟩ (fun _ => rfl) (fun u H locs hw_4 hP hD hS => ?_)
      obtain ⟨⟨pa_4, oc_4, cv_4, rq_4, la_4, rc_4, su_4, bu_4⟩, ⟨ki_4, ow_4, mr_4, va_4, fi_4, sz_4⟩⟩ := u
      obtain ⟨hw_4, hf_4, hs_4⟩ := hw_4
      have hf_4 : fi_4 < 40 := hf_4
      have hs_4 : sz_4 ≤ 40 := hs_4
      have hw_4 : (((pa_4, oc_4, cv_4, rq_4, la_4, rc_4, su_4, bu_4), (ki_4, ow_4, mr_4, va_4, fi_4, sz_4)) : CalS × LaneS) = k_tans n me (pa, oc, cv, rq, la, rc, su, bu) (ki, ow, mr, va, fi, sz) k q v := hw_4
      have hP : va_P G vwCl [(a 0, .inr (1, [.ref (b 0), .ref (d 0), .ref (a 1), .ref (a 2), .ref (a 3), .ref (a 4), .ref (a 5), .ref (a 6), .ref (a 7), .int bu_4])), (a 1, .inl (cI, 40, .inl pa_4)), (a 2, .inl (cI, 40, .inl oc_4)), (a 3, .inl (cI, 40, .inl cv_4)), (a 4, .inl (cI, 40, .inl rq_4)), (a 5, .inl (cI, 40, .inl la_4)), (a 6, .inl (cI, 40, .inl rc_4)), (a 7, .inl (cI, 40, .inl su_4)), (b 0, .inr (0, [.ref (b 1), .ref (b 2), .ref (b 3), .int (nI n)])), (b 1, .inl (cI, 40, .inl me)), (b 2, .inl (cI, 40, .inl ar)), (b 3, .inl (cI, 40, .inl dl)), (d 0, .inr (2, [.ref (d 1), .ref (d 2), .ref (d 3), .ref (d 4), .int (nI fi_4), .int (nI sz_4)])), (d 1, .inl (cI, 40, .inl ki_4)), (d 2, .inl (cI, 40, .inl ow_4)), (d 3, .inl (cI, 40, .inl mr_4)), (d 4, .inl (cI, 40, .inl va_4))] H := hP
      have hD : va_D A [(a 0, .inr (1, [.ref (b 0), .ref (d 0), .ref (a 1), .ref (a 2), .ref (a 3), .ref (a 4), .ref (a 5), .ref (a 6), .ref (a 7), .int bu_4])), (a 1, .inl (cI, 40, .inl pa_4)), (a 2, .inl (cI, 40, .inl oc_4)), (a 3, .inl (cI, 40, .inl cv_4)), (a 4, .inl (cI, 40, .inl rq_4)), (a 5, .inl (cI, 40, .inl la_4)), (a 6, .inl (cI, 40, .inl rc_4)), (a 7, .inl (cI, 40, .inl su_4)), (b 0, .inr (0, [.ref (b 1), .ref (b 2), .ref (b 3), .int (nI n)])), (b 1, .inl (cI, 40, .inl me)), (b 2, .inl (cI, 40, .inl ar)), (b 3, .inl (cI, 40, .inl dl)), (d 0, .inr (2, [.ref (d 1), .ref (d 2), .ref (d 3), .ref (d 4), .int (nI fi_4), .int (nI sz_4)])), (d 1, .inl (cI, 40, .inl ki_4)), (d 2, .inl (cI, 40, .inl ow_4)), (d 3, .inl (cI, 40, .inl mr_4)), (d 4, .inl (cI, 40, .inl va_4))] := hD
      refine lv_goto (tgt := 35) hx hb dX1_take_24 (by decide) ?_
      have hS9 := hS.2.2
      have hq9 : ((((pa_4, oc_4, cv_4, rq_4, la_4, rc_4, su_4, bu_4), (ki_4, ow_4, mr_4, va_4, fi_4, sz_4)) : CalS × LaneS) = k_take n me (pa, oc, cv, rq, la, rc, su, bu) (ki, ow, mr, va, fi, sz) kd k q v) ∧ fi_4 < 40 ∧ sz_4 ≤ 40 := by refine ⟨?_, by omega, by omega⟩; simp only [k_take, ↓reduceIte, eq_self, nI_10, and_true, true_and, and_false, false_and, not_true_eq_false, not_false_eq_true, Bool.and_true, Bool.true_and, Bool.and_false, Bool.false_and, decide_true, decide_false, Bool.false_eq_true, eq_true c_1, eq_true c_2, ← hw_4]
      exact W.vret hx hb hr (fun t ht hW => ⟨⟨((pa_4, oc_4, cv_4, rq_4, la_4, rc_4, su_4, bu_4), (ki_4, ow_4, mr_4, va_4, fi_4, sz_4)), rfl, hq9, by rw [ht]; exact hP, hD⟩, hS.F ht⟩) hS9 dX1_take_35
  · skip
    have hS9 := hS.2.2
    have hq9 : ((((pa, oc, cv, rq, la, rc, su, bu), (ki, ow, mr, va, fi, sz)) : CalS × LaneS) = k_take n me (pa, oc, cv, rq, la, rc, su, bu) (ki, ow, mr, va, fi, sz) kd k q v) ∧ fi < 40 ∧ sz ≤ 40 := by refine ⟨?_, by omega, by omega⟩; simp only [k_take, ↓reduceIte, eq_self, nI_10, and_true, true_and, and_false, false_and, not_true_eq_false, not_false_eq_true, Bool.and_true, Bool.true_and, Bool.and_false, Bool.false_and, decide_true, decide_false, Bool.false_eq_true, eq_false c_1]
    exact W.vret hx hb hr (fun t ht hW => ⟨⟨((pa, oc, cv, rq, la, rc, su, bu), (ki, ow, mr, va, fi, sz)), rfl, hq9, by rw [ht]; exact hP, hD⟩, hS.F ht⟩) hS9 dX1_take_10

theorem hk_X1_endDueCalls_f37 : (.fieldLink RX1 37 "Callgate$Caller" "book" "LCallgate$Book;" : Cond) ∈ wsX1_endDueCalls := by decide +kernel
theorem hi_X1_endDueCalls_X1 : ∀ w ∈ u_ws RX1 TX1 10, w ∈ wsX1_endDueCalls := by decide +kernel
theorem hi_X1_endDueCalls_X0 : ∀ w ∈ u_ws RX0 TX0 4, w ∈ wsX1_endDueCalls := by decide +kernel
theorem hk_X1_endDueCalls_f15 : (.fieldLink RX1 15 "Callgate$Caller" "outcomes" "[I" : Cond) ∈ wsX1_endDueCalls := by decide +kernel
theorem hk_X1_endDueCalls_iX0 : (.initialized RX0 : Cond) ∈ wsX1_endDueCalls := by decide +kernel
theorem hk_X1_endDueCalls_nX0_isDue : (.instanceMethod yX0_isDue : Cond) ∈ wsX1_endDueCalls := by decide +kernel
theorem hk_X1_endDueCalls_sX0_isDue : (.selects RX0 yX0_isDue yX0_isDue : Cond) ∈ wsX1_endDueCalls := by decide +kernel
set_option maxHeartbeats 4000000 in
set_option maxRecDepth 100000 in
theorem c_X1_endDueCalls (l : Launch) (G : va_G) (cI : ClassId) (a b d : Nat → Nat) (pa : Fn) (oc : Fn) (cv : Fn) (rq : Fn) (la : Fn) (rc : Fn) (su : Fn) (bu : Int32) (me : Fn) (ar : Fn) (dl : Fn) (n : Nat) (ki : Fn) (ow : Fn) (mr : Fn) (va : Fn) (fi : Nat) (sz : Nat) (tm : Int32) (hn : n ≤ 40) (hf : fi < 40) (hs : sz ≤ 40) (zz : Nat) : Met l yX1_endDueCalls wsX1_endDueCalls ({ frames := 5, cells := 0, slots := 0, locals := 113 }) (va_Pc [.ref (a 0), .int tm] (kPre G cI [(a 0, .inr (1, [.ref (b 0), .ref (d 0), .ref (a 1), .ref (a 2), .ref (a 3), .ref (a 4), .ref (a 5), .ref (a 6), .ref (a 7), .int bu])), (a 1, .inl (cI, 40, .inl pa)), (a 2, .inl (cI, 40, .inl oc)), (a 3, .inl (cI, 40, .inl cv)), (a 4, .inl (cI, 40, .inl rq)), (a 5, .inl (cI, 40, .inl la)), (a 6, .inl (cI, 40, .inl rc)), (a 7, .inl (cI, 40, .inl su)), (b 0, .inr (0, [.ref (b 1), .ref (b 2), .ref (b 3), .int (nI n)])), (b 1, .inl (cI, 40, .inl me)), (b 2, .inl (cI, 40, .inl ar)), (b 3, .inl (cI, 40, .inl dl)), (d 0, .inr (2, [.ref (d 1), .ref (d 2), .ref (d 3), .ref (d 4), .int (nI fi), .int (nI sz)])), (d 1, .inl (cI, 40, .inl ki)), (d 2, .inl (cI, 40, .inl ow)), (d 3, .inl (cI, 40, .inl mr)), (d 4, .inl (cI, 40, .inl va))] zz)) (va_Qi (fun (r : Int32) (u : CalS × LaneS) => ((u.1, u.2, r) = k_due n dl tm (pa, oc, cv, rq, la, rc, su, bu) (ki, ow, mr, va, fi, sz)) ∧ u.2.2.2.2.2.1 < 40 ∧ u.2.2.2.2.2.2 ≤ 40) (fun (u : CalS × LaneS) t => kQ G [(a 0, .inr (1, [.ref (b 0), .ref (d 0), .ref (a 1), .ref (a 2), .ref (a 3), .ref (a 4), .ref (a 5), .ref (a 6), .ref (a 7), .int u.1.2.2.2.2.2.2.2])), (a 1, .inl (cI, 40, .inl u.1.1)), (a 2, .inl (cI, 40, .inl u.1.2.1)), (a 3, .inl (cI, 40, .inl u.1.2.2.1)), (a 4, .inl (cI, 40, .inl u.1.2.2.2.1)), (a 5, .inl (cI, 40, .inl u.1.2.2.2.2.1)), (a 6, .inl (cI, 40, .inl u.1.2.2.2.2.2.1)), (a 7, .inl (cI, 40, .inl u.1.2.2.2.2.2.2.1)), (b 0, .inr (0, [.ref (b 1), .ref (b 2), .ref (b 3), .int (nI n)])), (b 1, .inl (cI, 40, .inl me)), (b 2, .inl (cI, 40, .inl ar)), (b 3, .inl (cI, 40, .inl dl)), (d 0, .inr (2, [.ref (d 1), .ref (d 2), .ref (d 3), .ref (d 4), .int (nI u.2.2.2.2.2.1), .int (nI u.2.2.2.2.2.2)])), (d 1, .inl (cI, 40, .inl u.2.1)), (d 2, .inl (cI, 40, .inl u.2.2.1)), (d 3, .inl (cI, 40, .inl u.2.2.2.1)), (d 4, .inl (cI, 40, .inl u.2.2.2.2.1))] (va_A [(a 0, .inr (1, [.ref (b 0), .ref (d 0), .ref (a 1), .ref (a 2), .ref (a 3), .ref (a 4), .ref (a 5), .ref (a 6), .ref (a 7), .int bu])), (a 1, .inl (cI, 40, .inl pa)), (a 2, .inl (cI, 40, .inl oc)), (a 3, .inl (cI, 40, .inl cv)), (a 4, .inl (cI, 40, .inl rq)), (a 5, .inl (cI, 40, .inl la)), (a 6, .inl (cI, 40, .inl rc)), (a 7, .inl (cI, 40, .inl su)), (b 0, .inr (0, [.ref (b 1), .ref (b 2), .ref (b 3), .int (nI n)])), (b 1, .inl (cI, 40, .inl me)), (b 2, .inl (cI, 40, .inl ar)), (b 3, .inl (cI, 40, .inl dl)), (d 0, .inr (2, [.ref (d 1), .ref (d 2), .ref (d 3), .ref (d 4), .int (nI fi), .int (nI sz)])), (d 1, .inl (cI, 40, .inl ki)), (d 2, .inl (cI, 40, .inl ow)), (d 3, .inl (cI, 40, .inl mr)), (d 4, .inl (cI, 40, .inl va))] zz) t) (va_A [(a 0, .inr (1, [.ref (b 0), .ref (d 0), .ref (a 1), .ref (a 2), .ref (a 3), .ref (a 4), .ref (a 5), .ref (a 6), .ref (a 7), .int bu])), (a 1, .inl (cI, 40, .inl pa)), (a 2, .inl (cI, 40, .inl oc)), (a 3, .inl (cI, 40, .inl cv)), (a 4, .inl (cI, 40, .inl rq)), (a 5, .inl (cI, 40, .inl la)), (a 6, .inl (cI, 40, .inl rc)), (a 7, .inl (cI, 40, .inl su)), (b 0, .inr (0, [.ref (b 1), .ref (b 2), .ref (b 3), .int (nI n)])), (b 1, .inl (cI, 40, .inl me)), (b 2, .inl (cI, 40, .inl ar)), (b 3, .inl (cI, 40, .inl dl)), (d 0, .inr (2, [.ref (d 1), .ref (d 2), .ref (d 3), .ref (d 4), .int (nI fi), .int (nI sz)])), (d 1, .inl (cI, 40, .inl ki)), (d 2, .inl (cI, 40, .inl ow)), (d 3, .inl (cI, 40, .inl mr)), (d 4, .inl (cI, 40, .inl va))] zz)) 0 0 (va_A [(a 0, .inr (1, [.ref (b 0), .ref (d 0), .ref (a 1), .ref (a 2), .ref (a 3), .ref (a 4), .ref (a 5), .ref (a 6), .ref (a 7), .int bu])), (a 1, .inl (cI, 40, .inl pa)), (a 2, .inl (cI, 40, .inl oc)), (a 3, .inl (cI, 40, .inl cv)), (a 4, .inl (cI, 40, .inl rq)), (a 5, .inl (cI, 40, .inl la)), (a 6, .inl (cI, 40, .inl rc)), (a 7, .inl (cI, 40, .inl su)), (b 0, .inr (0, [.ref (b 1), .ref (b 2), .ref (b 3), .int (nI n)])), (b 1, .inl (cI, 40, .inl me)), (b 2, .inl (cI, 40, .inl ar)), (b 3, .inl (cI, 40, .inl dl)), (d 0, .inr (2, [.ref (d 1), .ref (d 2), .ref (d 3), .ref (d 4), .int (nI fi), .int (nI sz)])), (d 1, .inl (cI, 40, .inl ki)), (d 2, .inl (cI, 40, .inl ow)), (d 3, .inl (cI, 40, .inl mr)), (d 4, .inl (cI, 40, .inl va))] zz) := by
  refine Met.ofW (cc := cX1_endDueCalls) (maxL := 4) (ret := (some .int)) (by decide) rfl ?_
  intro p e s m args below meth c s₁ B hml hv
  obtain ⟨rfl, hsz, hP, hK, hD0, hN⟩ := hv
  have hx := B.exec
  have hb := B.bytes
  have hr := B.returns
  have hts := atoms_spec (ws := wsX1_endDueCalls) B.pre
  have hown : s.vm.findClass RX1 = some m.cls := findClass_of_methodNamed B.named
  have hlocks := B.notSynchronized
  subst hsz
  have hD := hD0.self (sz := s.heap.size)
  generalize hAe : va_A [(a 0, .inr (1, [.ref (b 0), .ref (d 0), .ref (a 1), .ref (a 2), .ref (a 3), .ref (a 4), .ref (a 5), .ref (a 6), .ref (a 7), .int bu])), (a 1, .inl (cI, 40, .inl pa)), (a 2, .inl (cI, 40, .inl oc)), (a 3, .inl (cI, 40, .inl cv)), (a 4, .inl (cI, 40, .inl rq)), (a 5, .inl (cI, 40, .inl la)), (a 6, .inl (cI, 40, .inl rc)), (a 7, .inl (cI, 40, .inl su)), (b 0, .inr (0, [.ref (b 1), .ref (b 2), .ref (b 3), .int (nI n)])), (b 1, .inl (cI, 40, .inl me)), (b 2, .inl (cI, 40, .inl ar)), (b 3, .inl (cI, 40, .inl dl)), (d 0, .inr (2, [.ref (d 1), .ref (d 2), .ref (d 3), .ref (d 4), .int (nI fi), .int (nI sz)])), (d 1, .inl (cI, 40, .inl ki)), (d 2, .inl (cI, 40, .inl ow)), (d 3, .inl (cI, 40, .inl mr)), (d 4, .inl (cI, 40, .inl va))] s.heap.size = A at hD hN ⊢
  have hA : ∀ q : Nat, s.heap.size ≤ q → A q := fun q h => by rw [← hAe]; exact Or.inr h
  have hS : va_S A s.heap s.heap [] := va_S.rf
  have hl := lv_entry ([.ref (a 0), .int tm]) (n := 4) (Nat.le_of_ble_eq_true rfl)
  rw [lg_entry_eq]
  generalize (lg_sl ([.ref (a 0), .int tm]) ++ List.replicate (4 - (lg_sl ([.ref (a 0), .int tm])).length) Slot.unset).toArray = ls at hl ⊢
  have hl : lv_has ls 4 [(0, .ref (a 0)), (1, .int tm)] := hl
  have hP : va_P G vwCl [(a 0, .inr (1, [.ref (b 0), .ref (d 0), .ref (a 1), .ref (a 2), .ref (a 3), .ref (a 4), .ref (a 5), .ref (a 6), .ref (a 7), .int bu])), (a 1, .inl (cI, 40, .inl pa)), (a 2, .inl (cI, 40, .inl oc)), (a 3, .inl (cI, 40, .inl cv)), (a 4, .inl (cI, 40, .inl rq)), (a 5, .inl (cI, 40, .inl la)), (a 6, .inl (cI, 40, .inl rc)), (a 7, .inl (cI, 40, .inl su)), (b 0, .inr (0, [.ref (b 1), .ref (b 2), .ref (b 3), .int (nI n)])), (b 1, .inl (cI, 40, .inl me)), (b 2, .inl (cI, 40, .inl ar)), (b 3, .inl (cI, 40, .inl dl)), (d 0, .inr (2, [.ref (d 1), .ref (d 2), .ref (d 3), .ref (d 4), .int (nI fi), .int (nI sz)])), (d 1, .inl (cI, 40, .inl ki)), (d 2, .inl (cI, 40, .inl ow)), (d 3, .inl (cI, 40, .inl mr)), (d 4, .inl (cI, 40, .inl va))] s.heap := hP
  obtain ⟨H, hH⟩ : ∃ H, H = s.heap := ⟨_, rfl⟩
  rw [← hH] at hP
  have hS : va_S A s.heap H [] := by rw [hH]; exact hS
  show W _ _ _ _ _ _ _ _ _ _ s.heap _ _ _ _ _
  rw [← hH]
  obtain ⟨locs, hlo⟩ : ∃ z : List Loc, z = [] := ⟨_, rfl⟩
  rw [← hlo] at hS ⊢
  refine lv_iconst (v := nI 0) hx hb dX1_endDueCalls_0 (by decide +kernel) ?_
  refine lv_istore_n (lv' := [(2, .int (nI 0)), (0, .ref (a 0)), (1, .int tm)]) hx hb dX1_endDueCalls_1 rfl hl (by decide) rfl (fun ls hl => ?_)
  refine lv_iconst (v := nI 0) hx hb dX1_endDueCalls_2 (by decide +kernel) ?_
  refine lv_istore_n (lv' := [(3, .int (nI 0)), (2, .int (nI 0)), (0, .ref (a 0)), (1, .int tm)]) hx hb dX1_endDueCalls_3 rfl hl (by decide) rfl (fun ls hl => ?_)
  refine k_loop (σ := Nat × Int32 × Fn × Fn × Fn × Fn × Fn × Fn × Fn × Int32 × Fn × Fn × Fn × Fn × Nat × Nat) (I := fun x H locs ls => (x.1 ≤ n) ∧ (x.2.2.2.2.2.2.2.2.2.2.2.2.2.2.1 < 40) ∧ (x.2.2.2.2.2.2.2.2.2.2.2.2.2.2.2 ≤ 40) ∧ (it (k_due1 n dl tm) (n - x.1) x.1 (((x.2.2.1, x.2.2.2.1, x.2.2.2.2.1, x.2.2.2.2.2.1, x.2.2.2.2.2.2.1, x.2.2.2.2.2.2.2.1, x.2.2.2.2.2.2.2.2.1, x.2.2.2.2.2.2.2.2.2.1), (x.2.2.2.2.2.2.2.2.2.2.1, x.2.2.2.2.2.2.2.2.2.2.2.1, x.2.2.2.2.2.2.2.2.2.2.2.2.1, x.2.2.2.2.2.2.2.2.2.2.2.2.2.1, x.2.2.2.2.2.2.2.2.2.2.2.2.2.2.1, x.2.2.2.2.2.2.2.2.2.2.2.2.2.2.2), x.2.1) : CalS × LaneS × Int32) = k_due n dl tm (pa, oc, cv, rq, la, rc, su, bu) (ki, ow, mr, va, fi, sz)) ∧ va_P G vwCl [(a 0, .inr (1, [.ref (b 0), .ref (d 0), .ref (a 1), .ref (a 2), .ref (a 3), .ref (a 4), .ref (a 5), .ref (a 6), .ref (a 7), .int x.2.2.2.2.2.2.2.2.2.1])), (a 1, .inl (cI, 40, .inl x.2.2.1)), (a 2, .inl (cI, 40, .inl x.2.2.2.1)), (a 3, .inl (cI, 40, .inl x.2.2.2.2.1)), (a 4, .inl (cI, 40, .inl x.2.2.2.2.2.1)), (a 5, .inl (cI, 40, .inl x.2.2.2.2.2.2.1)), (a 6, .inl (cI, 40, .inl x.2.2.2.2.2.2.2.1)), (a 7, .inl (cI, 40, .inl x.2.2.2.2.2.2.2.2.1)), (b 0, .inr (0, [.ref (b 1), .ref (b 2), .ref (b 3), .int (nI n)])), (b 1, .inl (cI, 40, .inl me)), (b 2, .inl (cI, 40, .inl ar)), (b 3, .inl (cI, 40, .inl dl)), (d 0, .inr (2, [.ref (d 1), .ref (d 2), .ref (d 3), .ref (d 4), .int (nI x.2.2.2.2.2.2.2.2.2.2.2.2.2.2.1), .int (nI x.2.2.2.2.2.2.2.2.2.2.2.2.2.2.2)])), (d 1, .inl (cI, 40, .inl x.2.2.2.2.2.2.2.2.2.2.1)), (d 2, .inl (cI, 40, .inl x.2.2.2.2.2.2.2.2.2.2.2.1)), (d 3, .inl (cI, 40, .inl x.2.2.2.2.2.2.2.2.2.2.2.2.1)), (d 4, .inl (cI, 40, .inl x.2.2.2.2.2.2.2.2.2.2.2.2.2.1))] H ∧ va_D A [(a 0, .inr (1, [.ref (b 0), .ref (d 0), .ref (a 1), .ref (a 2), .ref (a 3), .ref (a 4), .ref (a 5), .ref (a 6), .ref (a 7), .int x.2.2.2.2.2.2.2.2.2.1])), (a 1, .inl (cI, 40, .inl x.2.2.1)), (a 2, .inl (cI, 40, .inl x.2.2.2.1)), (a 3, .inl (cI, 40, .inl x.2.2.2.2.1)), (a 4, .inl (cI, 40, .inl x.2.2.2.2.2.1)), (a 5, .inl (cI, 40, .inl x.2.2.2.2.2.2.1)), (a 6, .inl (cI, 40, .inl x.2.2.2.2.2.2.2.1)), (a 7, .inl (cI, 40, .inl x.2.2.2.2.2.2.2.2.1)), (b 0, .inr (0, [.ref (b 1), .ref (b 2), .ref (b 3), .int (nI n)])), (b 1, .inl (cI, 40, .inl me)), (b 2, .inl (cI, 40, .inl ar)), (b 3, .inl (cI, 40, .inl dl)), (d 0, .inr (2, [.ref (d 1), .ref (d 2), .ref (d 3), .ref (d 4), .int (nI x.2.2.2.2.2.2.2.2.2.2.2.2.2.2.1), .int (nI x.2.2.2.2.2.2.2.2.2.2.2.2.2.2.2)])), (d 1, .inl (cI, 40, .inl x.2.2.2.2.2.2.2.2.2.2.1)), (d 2, .inl (cI, 40, .inl x.2.2.2.2.2.2.2.2.2.2.2.1)), (d 3, .inl (cI, 40, .inl x.2.2.2.2.2.2.2.2.2.2.2.2.1)), (d 4, .inl (cI, 40, .inl x.2.2.2.2.2.2.2.2.2.2.2.2.2.1))] ∧ va_S A s.heap H locs ∧ lv_has ls 4 [(0, .ref (a 0)), (1, .int tm), (2, .int x.2.1), (3, .int (nI x.1))]) (fun x => n - x.1) ?_ (0, nI 0, pa, oc, cv, rq, la, rc, su, bu, ki, ow, mr, va, fi, sz) H locs ls ⟨(by omega), (by omega), (by omega), rfl, hP, hD, hS, lv_sub hl [2, 3, 1, 0] rfl⟩
  intro x H locs ls hI ih
  obtain ⟨i, k1, pa1, oc1, cv1, rq1, la1, rc1, su1, bu1, ki1, ow1, mr1, va1, fi1, sz1⟩ := x
  obtain ⟨hi, hf1, hs1, hv, hP, hD, hS, hl⟩ := hI
  have hi : i ≤ n := hi
  have hf1 : fi1 < 40 := hf1
  have hs1 : sz1 ≤ 40 := hs1
  have hv : it (k_due1 n dl tm) (n - i) i (((pa1, oc1, cv1, rq1, la1, rc1, su1, bu1), (ki1, ow1, mr1, va1, fi1, sz1), k1) : CalS × LaneS × Int32) = k_due n dl tm (pa, oc, cv, rq, la, rc, su, bu) (ki, ow, mr, va, fi, sz) := hv
  have hP : va_P G vwCl [(a 0, .inr (1, [.ref (b 0), .ref (d 0), .ref (a 1), .ref (a 2), .ref (a 3), .ref (a 4), .ref (a 5), .ref (a 6), .ref (a 7), .int bu1])), (a 1, .inl (cI, 40, .inl pa1)), (a 2, .inl (cI, 40, .inl oc1)), (a 3, .inl (cI, 40, .inl cv1)), (a 4, .inl (cI, 40, .inl rq1)), (a 5, .inl (cI, 40, .inl la1)), (a 6, .inl (cI, 40, .inl rc1)), (a 7, .inl (cI, 40, .inl su1)), (b 0, .inr (0, [.ref (b 1), .ref (b 2), .ref (b 3), .int (nI n)])), (b 1, .inl (cI, 40, .inl me)), (b 2, .inl (cI, 40, .inl ar)), (b 3, .inl (cI, 40, .inl dl)), (d 0, .inr (2, [.ref (d 1), .ref (d 2), .ref (d 3), .ref (d 4), .int (nI fi1), .int (nI sz1)])), (d 1, .inl (cI, 40, .inl ki1)), (d 2, .inl (cI, 40, .inl ow1)), (d 3, .inl (cI, 40, .inl mr1)), (d 4, .inl (cI, 40, .inl va1))] H := hP
  have hD : va_D A [(a 0, .inr (1, [.ref (b 0), .ref (d 0), .ref (a 1), .ref (a 2), .ref (a 3), .ref (a 4), .ref (a 5), .ref (a 6), .ref (a 7), .int bu1])), (a 1, .inl (cI, 40, .inl pa1)), (a 2, .inl (cI, 40, .inl oc1)), (a 3, .inl (cI, 40, .inl cv1)), (a 4, .inl (cI, 40, .inl rq1)), (a 5, .inl (cI, 40, .inl la1)), (a 6, .inl (cI, 40, .inl rc1)), (a 7, .inl (cI, 40, .inl su1)), (b 0, .inr (0, [.ref (b 1), .ref (b 2), .ref (b 3), .int (nI n)])), (b 1, .inl (cI, 40, .inl me)), (b 2, .inl (cI, 40, .inl ar)), (b 3, .inl (cI, 40, .inl dl)), (d 0, .inr (2, [.ref (d 1), .ref (d 2), .ref (d 3), .ref (d 4), .int (nI fi1), .int (nI sz1)])), (d 1, .inl (cI, 40, .inl ki1)), (d 2, .inl (cI, 40, .inl ow1)), (d 3, .inl (cI, 40, .inl mr1)), (d 4, .inl (cI, 40, .inl va1))] := hD
  have hl : lv_has ls 4 [(0, .ref (a 0)), (1, .int tm), (2, .int k1), (3, .int (nI i))] := hl
  refine lv_iload_n hx hb dX1_endDueCalls_4 rfl (lv_at hl 3 rfl) ?_
  refine lv_aload_n hx hb dX1_endDueCalls_5 rfl (lv_at hl 0 rfl) ?_
  refine va_get (D := G) (ci := 1) (v := .ref (b 0)) (C := RX1) (T := TX1) (N := 10) hx hb hts hi_X1_endDueCalls_X1 hown hK hP 0 rfl rfl 0 (by decide) (hts _ hk_X1_endDueCalls_f37) (fun _ h9 => h9) rfl dX1_endDueCalls_6 ?_
  refine va_getN (D := G) (ci := 0) (v := .int (nI n)) (C := RX0) (T := TX0) (N := 4) hx hb hts hi_X1_endDueCalls_X0 hown hK hP 8 rfl rfl 3 (by decide) (va_Nw.use rfl (hN.1 _ (List.mem_of_getElem? (i := 8) rfl))) (fun _ h9 => h9) rfl dX1_endDueCalls_9 ?_
  refine lv_icmp_ge (tgt := 52) hx hb dX1_endDueCalls_12 (by decide) (fun c_2 => ?_) (fun c_2 => ?_)
  · have g_2 := (nI_leI (a := n) (b := i) (by omega) (by omega)).mp c_2
    refine lv_iload_n hx hb dX1_endDueCalls_52 rfl (lv_at hl 2 rfl) ?_
    have hS9 := hS.2.2
    have hq9 : (((((pa1, oc1, cv1, rq1, la1, rc1, su1, bu1), (ki1, ow1, mr1, va1, fi1, sz1)) : CalS × LaneS).1, (((pa1, oc1, cv1, rq1, la1, rc1, su1, bu1), (ki1, ow1, mr1, va1, fi1, sz1)) : CalS × LaneS).2, k1) = k_due n dl tm (pa, oc, cv, rq, la, rc, su, bu) (ki, ow, mr, va, fi, sz)) ∧ fi1 < 40 ∧ sz1 ≤ 40 := by refine ⟨?_, by omega, by omega⟩; rw [← hv, it_end (by omega)]
    exact W.iret (v := k1) hx hb hr (fun t ht hW => ⟨⟨k1, ((pa1, oc1, cv1, rq1, la1, rc1, su1, bu1), (ki1, ow1, mr1, va1, fi1, sz1)), rfl, hq9, by rw [ht]; exact hP, hD⟩, hS.F ht⟩) hS9 dX1_endDueCalls_53
  · have g_2 := (not_congr (nI_leI (a := n) (b := i) (by omega) (by omega))).mp c_2
    refine lv_aload_n hx hb dX1_endDueCalls_15 rfl (lv_at hl 0 rfl) ?_
    refine va_get (D := G) (ci := 1) (v := .ref (a 2)) (C := RX1) (T := TX1) (N := 10) hx hb hts hi_X1_endDueCalls_X1 hown hK hP 0 rfl rfl 3 (by decide) (hts _ hk_X1_endDueCalls_f15) (fun _ h9 => h9) rfl dX1_endDueCalls_16 ?_
    refine lv_iload_n hx hb dX1_endDueCalls_19 rfl (lv_at hl 3 rfl) ?_
    refine gz_iald hx hb hK hP 2 rfl rfl (k := i) rfl (by omega) (by decide) dX1_endDueCalls_20 ?_
    refine lv_iconst (v := (-1)) hx hb dX1_endDueCalls_21 (by decide +kernel) ?_
    refine lv_icmp_ne (tgt := 46) hx hb dX1_endDueCalls_22 (by decide) (fun c_3 => ?_) (fun c_3 => ?_)
    · skip
      refine lv_iinc (v := nI (i + 1)) (lv' := [(3, .int (nI (i + 1))), (0, .ref (a 0)), (1, .int tm), (2, .int k1)]) hx hb dX1_endDueCalls_46 hl (k := 3) rfl (nI_1 _) (by decide) rfl (fun ls hl => ?_)
      refine lv_goto (tgt := 4) hx hb dX1_endDueCalls_49 (by decide) ?_
      have n_hi : (i + 1) ≤ n := by omega
      have n_hf1 : fi1 < 40 := by omega
      have n_hs1 : sz1 ≤ 40 := by omega
      have n_hv : it (k_due1 n dl tm) (n - (i + 1)) (i + 1) (((pa1, oc1, cv1, rq1, la1, rc1, su1, bu1), (ki1, ow1, mr1, va1, fi1, sz1), k1) : CalS × LaneS × Int32) = k_due n dl tm (pa, oc, cv, rq, la, rc, su, bu) (ki, ow, mr, va, fi, sz) := by (have e1 : k_due1 n dl tm i (((pa1, oc1, cv1, rq1, la1, rc1, su1, bu1), (ki1, ow1, mr1, va1, fi1, sz1), k1) : CalS × LaneS × Int32) = ((pa1, oc1, cv1, rq1, la1, rc1, su1, bu1), (ki1, ow1, mr1, va1, fi1, sz1), k1) := by simp only [k_due1, ↓reduceIte, eq_self, nI_10, and_true, true_and, and_false, false_and, not_true_eq_false, not_false_eq_true, Bool.and_true, Bool.true_and, Bool.and_false, Bool.false_and, decide_true, decide_false, Bool.false_eq_true, eq_false g_2, eq_false c_3]); rw [← hv]; exact ((it_step (by omega)).trans (congrArg _ e1)).symm
      exact ih (i + 1, k1, pa1, oc1, cv1, rq1, la1, rc1, su1, bu1, ki1, ow1, mr1, va1, fi1, sz1) H locs ls ⟨n_hi, n_hf1, n_hs1, n_hv, hP, hD, hS, lv_sub hl [1, 2, 3, 0] rfl⟩ (by show n - (i + 1) < n - i; omega)
    · skip
      refine lv_aload_n hx hb dX1_endDueCalls_25 rfl (lv_at hl 0 rfl) ?_
      refine va_get (D := G) (ci := 1) (v := .ref (b 0)) (C := RX1) (T := TX1) (N := 10) hx hb hts hi_X1_endDueCalls_X1 hown hK hP 0 rfl rfl 0 (by decide) (hts _ hk_X1_endDueCalls_f37) (fun _ h9 => h9) rfl dX1_endDueCalls_26 ?_
      refine lv_iload_n hx hb dX1_endDueCalls_29 rfl (lv_at hl 3 rfl) ?_
      refine lv_iload_n hx hb dX1_endDueCalls_30 rfl (lv_at hl 1 rfl) ?_
      refine k_calli (S := Unit) (wc := [(b 0, .inr (0, [.ref (b 1), .ref (b 2), .ref (b 3), .int (nI n)])), (b 1, .inl (cI, 40, .inl me)), (b 2, .inl (cI, 40, .inl ar)), (b 3, .inl (cI, 40, .inl dl))]) (wr := [(a 0, .inr (1, [.ref (b 0), .ref (d 0), .ref (a 1), .ref (a 2), .ref (a 3), .ref (a 4), .ref (a 5), .ref (a 6), .ref (a 7), .int bu1])), (a 1, .inl (cI, 40, .inl pa1)), (a 2, .inl (cI, 40, .inl oc1)), (a 3, .inl (cI, 40, .inl cv1)), (a 4, .inl (cI, 40, .inl rq1)), (a 5, .inl (cI, 40, .inl la1)), (a 6, .inl (cI, 40, .inl rc1)), (a 7, .inl (cI, 40, .inl su1)), (d 0, .inr (2, [.ref (d 1), .ref (d 2), .ref (d 3), .ref (d 4), .int (nI fi1), .int (nI sz1)])), (d 1, .inl (cI, 40, .inl ki1)), (d 2, .inl (cI, 40, .inl ow1)), (d 3, .inl (cI, 40, .inl mr1)), (d 4, .inl (cI, 40, .inl va1))]) (w1 := fun u => [(b 0, .inr (0, [.ref (b 1), .ref (b 2), .ref (b 3), .int (nI n)])), (b 1, .inl (cI, 40, .inl me)), (b 2, .inl (cI, 40, .inl ar)), (b 3, .inl (cI, 40, .inl dl))]) (w2 := fun u => [(a 0, .inr (1, [.ref (b 0), .ref (d 0), .ref (a 1), .ref (a 2), .ref (a 3), .ref (a 4), .ref (a 5), .ref (a 6), .ref (a 7), .int bu1])), (a 1, .inl (cI, 40, .inl pa1)), (a 2, .inl (cI, 40, .inl oc1)), (a 3, .inl (cI, 40, .inl cv1)), (a 4, .inl (cI, 40, .inl rq1)), (a 5, .inl (cI, 40, .inl la1)), (a 6, .inl (cI, 40, .inl rc1)), (a 7, .inl (cI, 40, .inl su1)), (b 0, .inr (0, [.ref (b 1), .ref (b 2), .ref (b 3), .int (nI n)])), (b 1, .inl (cI, 40, .inl me)), (b 2, .inl (cI, 40, .inl ar)), (b 3, .inl (cI, 40, .inl dl)), (d 0, .inr (2, [.ref (d 1), .ref (d 2), .ref (d 3), .ref (d 4), .int (nI fi1), .int (nI sz1)])), (d 1, .inl (cI, 40, .inl ki1)), (d 2, .inl (cI, 40, .inl ow1)), (d 3, .inl (cI, 40, .inl mr1)), (d 4, .inl (cI, 40, .inl va1))]) (va_runVN (As := [.int (nI i), .int tm]) (rest := []) ⟨hx, hb, hml, hown, hts⟩ (c_X0_isDue l G cI b me ar dl n i tm (by first | omega | assumption) H.size) ⟨va_cnB (host := RX4) 2 hts gX1_endDueCalls_X0_isDue_n93 rfl rfl rfl (hN.1 _ (List.mem_of_getElem? (i := 44) rfl)) (hts _ hk_X1_endDueCalls_iX0) (by decide +kernel) ⟨Nat.le_of_ble_eq_true rfl, Nat.le_of_ble_eq_true rfl⟩, (hts _ hk_X1_endDueCalls_nX0_isDue), (hts _ hk_X1_endDueCalls_sX0_isDue)⟩ ⟨kPre.blind, va_recv hK hP (ci := 0) (q0 := 8) rfl rfl, kPre.at hP hK hD hS hA hN [8, 9, 10, 11] rfl rfl⟩ rfl rfl hl.1 rfl (lv_room (Nat.le_of_ble_eq_true rfl)) dX1_endDueCalls_31 ⟨Nat.le_of_ble_eq_true rfl, Nat.le_of_ble_eq_true rfl⟩) hP hD hS hA [8, 9, 10, 11] [0, 1, 2, 3, 4, 5, 6, 7, 12, 13, 14, 15, 16] [0, 1, 2, 3, 4, 5, 6, 7, 13, 14, 15, 16, 8, 9, 10, 11, 12] rfl rfl ⟨rfl, by decide, rfl⟩ (fun _ => rfl) (fun r_4 u H locs hw_4 hP hD hS => ?_)
      have hP : va_P G vwCl [(a 0, .inr (1, [.ref (b 0), .ref (d 0), .ref (a 1), .ref (a 2), .ref (a 3), .ref (a 4), .ref (a 5), .ref (a 6), .ref (a 7), .int bu1])), (a 1, .inl (cI, 40, .inl pa1)), (a 2, .inl (cI, 40, .inl oc1)), (a 3, .inl (cI, 40, .inl cv1)), (a 4, .inl (cI, 40, .inl rq1)), (a 5, .inl (cI, 40, .inl la1)), (a 6, .inl (cI, 40, .inl rc1)), (a 7, .inl (cI, 40, .inl su1)), (b 0, .inr (0, [.ref (b 1), .ref (b 2), .ref (b 3), .int (nI n)])), (b 1, .inl (cI, 40, .inl me)), (b 2, .inl (cI, 40, .inl ar)), (b 3, .inl (cI, 40, .inl dl)), (d 0, .inr (2, [.ref (d 1), .ref (d 2), .ref (d 3), .ref (d 4), .int (nI fi1), .int (nI sz1)])), (d 1, .inl (cI, 40, .inl ki1)), (d 2, .inl (cI, 40, .inl ow1)), (d 3, .inl (cI, 40, .inl mr1)), (d 4, .inl (cI, 40, .inl va1))] H := hP
      have hD : va_D A [(a 0, .inr (1, [.ref (b 0), .ref (d 0), .ref (a 1), .ref (a 2), .ref (a 3), .ref (a 4), .ref (a 5), .ref (a 6), .ref (a 7), .int bu1])), (a 1, .inl (cI, 40, .inl pa1)), (a 2, .inl (cI, 40, .inl oc1)), (a 3, .inl (cI, 40, .inl cv1)), (a 4, .inl (cI, 40, .inl rq1)), (a 5, .inl (cI, 40, .inl la1)), (a 6, .inl (cI, 40, .inl rc1)), (a 7, .inl (cI, 40, .inl su1)), (b 0, .inr (0, [.ref (b 1), .ref (b 2), .ref (b 3), .int (nI n)])), (b 1, .inl (cI, 40, .inl me)), (b 2, .inl (cI, 40, .inl ar)), (b 3, .inl (cI, 40, .inl dl)), (d 0, .inr (2, [.ref (d 1), .ref (d 2), .ref (d 3), .ref (d 4), .int (nI fi1), .int (nI sz1)])), (d 1, .inl (cI, 40, .inl ki1)), (d 2, .inl (cI, 40, .inl ow1)), (d 3, .inl (cI, 40, .inl mr1)), (d 4, .inl (cI, 40, .inl va1))] := hD
      refine lv_if_eq (tgt := 46) hx hb dX1_endDueCalls_34 (by decide) (fun c_5 => ?_) (fun c_5 => ?_)
      · have g_5 := k_bool0 hw_4 c_5
        refine lv_iinc (v := nI (i + 1)) (lv' := [(3, .int (nI (i + 1))), (0, .ref (a 0)), (1, .int tm), (2, .int k1)]) hx hb dX1_endDueCalls_46 hl (k := 3) rfl (nI_1 _) (by decide) rfl (fun ls hl => ?_)
        refine lv_goto (tgt := 4) hx hb dX1_endDueCalls_49 (by decide) ?_
        have n_hi : (i + 1) ≤ n := by omega
        have n_hf1 : fi1 < 40 := by omega
        have n_hs1 : sz1 ≤ 40 := by omega
        have n_hv : it (k_due1 n dl tm) (n - (i + 1)) (i + 1) (((pa1, oc1, cv1, rq1, la1, rc1, su1, bu1), (ki1, ow1, mr1, va1, fi1, sz1), k1) : CalS × LaneS × Int32) = k_due n dl tm (pa, oc, cv, rq, la, rc, su, bu) (ki, ow, mr, va, fi, sz) := by (have e1 : k_due1 n dl tm i (((pa1, oc1, cv1, rq1, la1, rc1, su1, bu1), (ki1, ow1, mr1, va1, fi1, sz1), k1) : CalS × LaneS × Int32) = ((pa1, oc1, cv1, rq1, la1, rc1, su1, bu1), (ki1, ow1, mr1, va1, fi1, sz1), k1) := by simp only [k_due1, ↓reduceIte, eq_self, nI_10, and_true, true_and, and_false, false_and, not_true_eq_false, not_false_eq_true, Bool.and_true, Bool.true_and, Bool.and_false, Bool.false_and, decide_true, decide_false, Bool.false_eq_true, eq_false g_2, eq_true c_3, eq_false g_5]); rw [← hv]; exact ((it_step (by omega)).trans (congrArg _ e1)).symm
        exact ih (i + 1, k1, pa1, oc1, cv1, rq1, la1, rc1, su1, bu1, ki1, ow1, mr1, va1, fi1, sz1) H locs ls ⟨n_hi, n_hf1, n_hs1, n_hv, hP, hD, hS, lv_sub hl [1, 2, 3, 0] rfl⟩ (by show n - (i + 1) < n - i; omega)
      · have g_5 := k_bool1 hw_4 c_5
        refine lv_iload_n hx hb dX1_endDueCalls_37 rfl (lv_at hl 2 rfl) ?_
        refine lv_aload_n hx hb dX1_endDueCalls_38 rfl (lv_at hl 0 rfl) ?_
        refine lv_iload_n hx hb dX1_endDueCalls_39 rfl (lv_at hl 3 rfl) ?_
        refine lv_iconst (v := nI 2) hx hb dX1_endDueCalls_40 (by decide +kernel) ?_
        refine k_calli (S := CalS × LaneS) (wc := [(a 0, .inr (1, [.ref (b 0), .ref (d 0), .ref (a 1), .ref (a 2), .ref (a 3), .ref (a 4), .ref (a 5), .ref (a 6), .ref (a 7), .int bu1])), (a 1, .inl (cI, 40, .inl pa1)), (a 2, .inl (cI, 40, .inl oc1)), (a 3, .inl (cI, 40, .inl cv1)), (a 4, .inl (cI, 40, .inl rq1)), (a 5, .inl (cI, 40, .inl la1)), (a 6, .inl (cI, 40, .inl rc1)), (a 7, .inl (cI, 40, .inl su1)), (b 0, .inr (0, [.ref (b 1), .ref (b 2), .ref (b 3), .int (nI n)])), (b 1, .inl (cI, 40, .inl me)), (b 2, .inl (cI, 40, .inl ar)), (b 3, .inl (cI, 40, .inl dl)), (d 0, .inr (2, [.ref (d 1), .ref (d 2), .ref (d 3), .ref (d 4), .int (nI fi1), .int (nI sz1)])), (d 1, .inl (cI, 40, .inl ki1)), (d 2, .inl (cI, 40, .inl ow1)), (d 3, .inl (cI, 40, .inl mr1)), (d 4, .inl (cI, 40, .inl va1))]) (wr := []) (w1 := fun u => [(a 0, .inr (1, [.ref (b 0), .ref (d 0), .ref (a 1), .ref (a 2), .ref (a 3), .ref (a 4), .ref (a 5), .ref (a 6), .ref (a 7), .int u.1.2.2.2.2.2.2.2])), (a 1, .inl (cI, 40, .inl u.1.1)), (a 2, .inl (cI, 40, .inl u.1.2.1)), (a 3, .inl (cI, 40, .inl u.1.2.2.1)), (a 4, .inl (cI, 40, .inl u.1.2.2.2.1)), (a 5, .inl (cI, 40, .inl u.1.2.2.2.2.1)), (a 6, .inl (cI, 40, .inl u.1.2.2.2.2.2.1)), (a 7, .inl (cI, 40, .inl u.1.2.2.2.2.2.2.1)), (b 0, .inr (0, [.ref (b 1), .ref (b 2), .ref (b 3), .int (nI n)])), (b 1, .inl (cI, 40, .inl me)), (b 2, .inl (cI, 40, .inl ar)), (b 3, .inl (cI, 40, .inl dl)), (d 0, .inr (2, [.ref (d 1), .ref (d 2), .ref (d 3), .ref (d 4), .int (nI u.2.2.2.2.2.1), .int (nI u.2.2.2.2.2.2)])), (d 1, .inl (cI, 40, .inl u.2.1)), (d 2, .inl (cI, 40, .inl u.2.2.1)), (d 3, .inl (cI, 40, .inl u.2.2.2.1)), (d 4, .inl (cI, 40, .inl u.2.2.2.2.1))]) (w2 := fun u => [(a 0, .inr (1, [.ref (b 0), .ref (d 0), .ref (a 1), .ref (a 2), .ref (a 3), .ref (a 4), .ref (a 5), .ref (a 6), .ref (a 7), .int u.1.2.2.2.2.2.2.2])), (a 1, .inl (cI, 40, .inl u.1.1)), (a 2, .inl (cI, 40, .inl u.1.2.1)), (a 3, .inl (cI, 40, .inl u.1.2.2.1)), (a 4, .inl (cI, 40, .inl u.1.2.2.2.1)), (a 5, .inl (cI, 40, .inl u.1.2.2.2.2.1)), (a 6, .inl (cI, 40, .inl u.1.2.2.2.2.2.1)), (a 7, .inl (cI, 40, .inl u.1.2.2.2.2.2.2.1)), (b 0, .inr (0, [.ref (b 1), .ref (b 2), .ref (b 3), .int (nI n)])), (b 1, .inl (cI, 40, .inl me)), (b 2, .inl (cI, 40, .inl ar)), (b 3, .inl (cI, 40, .inl dl)), (d 0, .inr (2, [.ref (d 1), .ref (d 2), .ref (d 3), .ref (d 4), .int (nI u.2.2.2.2.2.1), .int (nI u.2.2.2.2.2.2)])), (d 1, .inl (cI, 40, .inl u.2.1)), (d 2, .inl (cI, 40, .inl u.2.2.1)), (d 3, .inl (cI, 40, .inl u.2.2.2.1)), (d 4, .inl (cI, 40, .inl u.2.2.2.2.1))]) (va_runV (As := [.int (nI i), .int (nI 2)]) (rest := [.int k1]) ⟨hx, hb, hml, hown, hts⟩ (c_X1_endSilently l G cI a b d pa1 oc1 cv1 rq1 la1 rc1 su1 bu1 me ar dl n ki1 ow1 mr1 va1 fi1 sz1 i (nI 2) (by first | omega | assumption) (by first | omega | assumption) (by first | omega | assumption) (by first | omega | assumption) H.size) (cwV 2 hts gX1_endDueCalls_X1_endSilently rfl rfl rfl (by decide +kernel) ⟨Nat.le_of_ble_eq_true rfl, Nat.le_of_ble_eq_true rfl⟩) ⟨kPre.blind, va_recv hK hP (ci := 1) (q0 := 0) rfl rfl, kPre.at hP hK hD hS hA hN [0, 1, 2, 3, 4, 5, 6, 7, 8, 9, 10, 11, 12, 13, 14, 15, 16] rfl rfl⟩ rfl rfl hl.1 rfl (lv_room (Nat.le_of_ble_eq_true rfl)) dX1_endDueCalls_41 ⟨Nat.le_of_ble_eq_true rfl, Nat.le_of_ble_eq_true rfl⟩) hP hD hS hA [0, 1, 2, 3, 4, 5, 6, 7, 8, 9, 10, 11, 12, 13, 14, 15, 16] [] [0, 1, 2, 3, 4, 5, 6, 7, 8, 9, 10, 11, 12, 13, 14, 15, 16] rfl rfl ⟨rfl, by decide, rfl⟩ (fun _ => rfl) (fun r_6 u H locs hw_6 hP hD hS => ?_)
        obtain ⟨⟨pa_6, oc_6, cv_6, rq_6, la_6, rc_6, su_6, bu_6⟩, ⟨ki_6, ow_6, mr_6, va_6, fi_6, sz_6⟩⟩ := u
        obtain ⟨hw_6, hf_6, hs_6⟩ := hw_6
        have hf_6 : fi_6 < 40 := hf_6
        have hs_6 : sz_6 ≤ 40 := hs_6
        have hw_6 : ((((pa_6, oc_6, cv_6, rq_6, la_6, rc_6, su_6, bu_6), (ki_6, ow_6, mr_6, va_6, fi_6, sz_6)) : CalS × LaneS).1, (((pa_6, oc_6, cv_6, rq_6, la_6, rc_6, su_6, bu_6), (ki_6, ow_6, mr_6, va_6, fi_6, sz_6)) : CalS × LaneS).2, r_6) = k_endS n (pa1, oc1, cv1, rq1, la1, rc1, su1, bu1) (ki1, ow1, mr1, va1, fi1, sz1) i (nI 2) := hw_6
        have hP : va_P G vwCl [(a 0, .inr (1, [.ref (b 0), .ref (d 0), .ref (a 1), .ref (a 2), .ref (a 3), .ref (a 4), .ref (a 5), .ref (a 6), .ref (a 7), .int bu_6])), (a 1, .inl (cI, 40, .inl pa_6)), (a 2, .inl (cI, 40, .inl oc_6)), (a 3, .inl (cI, 40, .inl cv_6)), (a 4, .inl (cI, 40, .inl rq_6)), (a 5, .inl (cI, 40, .inl la_6)), (a 6, .inl (cI, 40, .inl rc_6)), (a 7, .inl (cI, 40, .inl su_6)), (b 0, .inr (0, [.ref (b 1), .ref (b 2), .ref (b 3), .int (nI n)])), (b 1, .inl (cI, 40, .inl me)), (b 2, .inl (cI, 40, .inl ar)), (b 3, .inl (cI, 40, .inl dl)), (d 0, .inr (2, [.ref (d 1), .ref (d 2), .ref (d 3), .ref (d 4), .int (nI fi_6), .int (nI sz_6)])), (d 1, .inl (cI, 40, .inl ki_6)), (d 2, .inl (cI, 40, .inl ow_6)), (d 3, .inl (cI, 40, .inl mr_6)), (d 4, .inl (cI, 40, .inl va_6))] H := hP
        have hD : va_D A [(a 0, .inr (1, [.ref (b 0), .ref (d 0), .ref (a 1), .ref (a 2), .ref (a 3), .ref (a 4), .ref (a 5), .ref (a 6), .ref (a 7), .int bu_6])), (a 1, .inl (cI, 40, .inl pa_6)), (a 2, .inl (cI, 40, .inl oc_6)), (a 3, .inl (cI, 40, .inl cv_6)), (a 4, .inl (cI, 40, .inl rq_6)), (a 5, .inl (cI, 40, .inl la_6)), (a 6, .inl (cI, 40, .inl rc_6)), (a 7, .inl (cI, 40, .inl su_6)), (b 0, .inr (0, [.ref (b 1), .ref (b 2), .ref (b 3), .int (nI n)])), (b 1, .inl (cI, 40, .inl me)), (b 2, .inl (cI, 40, .inl ar)), (b 3, .inl (cI, 40, .inl dl)), (d 0, .inr (2, [.ref (d 1), .ref (d 2), .ref (d 3), .ref (d 4), .int (nI fi_6), .int (nI sz_6)])), (d 1, .inl (cI, 40, .inl ki_6)), (d 2, .inl (cI, 40, .inl ow_6)), (d 3, .inl (cI, 40, .inl mr_6)), (d 4, .inl (cI, 40, .inl va_6))] := hD
        refine lv_iadd hx hb dX1_endDueCalls_44 ?_
        refine lv_istore_n (lv' := [(2, .int (k1 + r_6)), (0, .ref (a 0)), (1, .int tm), (3, .int (nI i))]) hx hb dX1_endDueCalls_45 rfl hl (by decide) rfl (fun ls hl => ?_)
        refine lv_iinc (v := nI (i + 1)) (lv' := [(3, .int (nI (i + 1))), (2, .int (k1 + r_6)), (0, .ref (a 0)), (1, .int tm)]) hx hb dX1_endDueCalls_46 hl (k := 3) rfl (nI_1 _) (by decide) rfl (fun ls hl => ?_)
        refine lv_goto (tgt := 4) hx hb dX1_endDueCalls_49 (by decide) ?_
        have n_hi : (i + 1) ≤ n := by omega
        have n_hf1 : fi_6 < 40 := by omega
        have n_hs1 : sz_6 ≤ 40 := by omega
        have n_hv : it (k_due1 n dl tm) (n - (i + 1)) (i + 1) (((pa_6, oc_6, cv_6, rq_6, la_6, rc_6, su_6, bu_6), (ki_6, ow_6, mr_6, va_6, fi_6, sz_6), (k1 + r_6)) : CalS × LaneS × Int32) = k_due n dl tm (pa, oc, cv, rq, la, rc, su, bu) (ki, ow, mr, va, fi, sz) := by (have e1 : k_due1 n dl tm i (((pa1, oc1, cv1, rq1, la1, rc1, su1, bu1), (ki1, ow1, mr1, va1, fi1, sz1), k1) : CalS × LaneS × Int32) = ((pa_6, oc_6, cv_6, rq_6, la_6, rc_6, su_6, bu_6), (ki_6, ow_6, mr_6, va_6, fi_6, sz_6), k1 + r_6) := by simp only [k_due1, ↓reduceIte, eq_self, nI_10, and_true, true_and, and_false, false_and, not_true_eq_false, not_false_eq_true, Bool.and_true, Bool.true_and, Bool.and_false, Bool.false_and, decide_true, decide_false, Bool.false_eq_true, eq_false g_2, eq_true c_3, eq_true g_5, ← hw_6]); rw [← hv]; exact ((it_step (by omega)).trans (congrArg _ e1)).symm
        exact ih (i + 1, k1 + r_6, pa_6, oc_6, cv_6, rq_6, la_6, rc_6, su_6, bu_6, ki_6, ow_6, mr_6, va_6, fi_6, sz_6) H locs ls ⟨n_hi, n_hf1, n_hs1, n_hv, hP, hD, hS, lv_sub hl [2, 3, 1, 0] rfl⟩ (by show n - (i + 1) < n - i; omega)

theorem hk_X1_isRepeatDue_f15 : (.fieldLink RX1 15 "Callgate$Caller" "outcomes" "[I" : Cond) ∈ wsX1_isRepeatDue := by decide +kernel
theorem hi_X1_isRepeatDue_X1 : ∀ w ∈ u_ws RX1 TX1 10, w ∈ wsX1_isRepeatDue := by decide +kernel
theorem hk_X1_isRepeatDue_f27 : (.fieldLink RX1 27 "Callgate$Caller" "itemsReceived" "[I" : Cond) ∈ wsX1_isRepeatDue := by decide +kernel
theorem hk_X1_isRepeatDue_f21 : (.fieldLink RX1 21 "Callgate$Caller" "requestsSent" "[I" : Cond) ∈ wsX1_isRepeatDue := by decide +kernel
theorem hk_X1_isRepeatDue_f24 : (.fieldLink RX1 24 "Callgate$Caller" "latestRequest" "[I" : Cond) ∈ wsX1_isRepeatDue := by decide +kernel
set_option maxHeartbeats 4000000 in
set_option maxRecDepth 100000 in
theorem c_X1_isRepeatDue (l : Launch) (G : va_G) (cI : ClassId) (a b d : Nat → Nat) (pa : Fn) (oc : Fn) (cv : Fn) (rq : Fn) (la : Fn) (rc : Fn) (su : Fn) (bu : Int32) (me : Fn) (ar : Fn) (dl : Fn) (n : Nat) (ki : Fn) (ow : Fn) (mr : Fn) (va : Fn) (fi : Nat) (sz : Nat) (k : Nat) (tm : Int32) (hk : k < 40) (hn : n ≤ 40) (hf : fi < 40) (hs : sz ≤ 40) (zz : Nat) : Met l yX1_isRepeatDue wsX1_isRepeatDue ({ frames := 0, cells := 0, slots := 0, locals := 0 }) (va_Pc [.ref (a 0), .int (nI k), .int tm] (kPre G cI [(a 0, .inr (1, [.ref (b 0), .ref (d 0), .ref (a 1), .ref (a 2), .ref (a 3), .ref (a 4), .ref (a 5), .ref (a 6), .ref (a 7), .int bu])), (a 1, .inl (cI, 40, .inl pa)), (a 2, .inl (cI, 40, .inl oc)), (a 3, .inl (cI, 40, .inl cv)), (a 4, .inl (cI, 40, .inl rq)), (a 5, .inl (cI, 40, .inl la)), (a 6, .inl (cI, 40, .inl rc)), (a 7, .inl (cI, 40, .inl su)), (b 0, .inr (0, [.ref (b 1), .ref (b 2), .ref (b 3), .int (nI n)])), (b 1, .inl (cI, 40, .inl me)), (b 2, .inl (cI, 40, .inl ar)), (b 3, .inl (cI, 40, .inl dl)), (d 0, .inr (2, [.ref (d 1), .ref (d 2), .ref (d 3), .ref (d 4), .int (nI fi), .int (nI sz)])), (d 1, .inl (cI, 40, .inl ki)), (d 2, .inl (cI, 40, .inl ow)), (d 3, .inl (cI, 40, .inl mr)), (d 4, .inl (cI, 40, .inl va))] zz)) (va_Qi (fun (r : Int32) (u : Unit) => (r = if k_isrep (pa, oc, cv, rq, la, rc, su, bu) k tm = true then nI 1 else nI 0)) (fun (u : Unit) t => kQ G [(a 0, .inr (1, [.ref (b 0), .ref (d 0), .ref (a 1), .ref (a 2), .ref (a 3), .ref (a 4), .ref (a 5), .ref (a 6), .ref (a 7), .int bu])), (a 1, .inl (cI, 40, .inl pa)), (a 2, .inl (cI, 40, .inl oc)), (a 3, .inl (cI, 40, .inl cv)), (a 4, .inl (cI, 40, .inl rq)), (a 5, .inl (cI, 40, .inl la)), (a 6, .inl (cI, 40, .inl rc)), (a 7, .inl (cI, 40, .inl su)), (b 0, .inr (0, [.ref (b 1), .ref (b 2), .ref (b 3), .int (nI n)])), (b 1, .inl (cI, 40, .inl me)), (b 2, .inl (cI, 40, .inl ar)), (b 3, .inl (cI, 40, .inl dl)), (d 0, .inr (2, [.ref (d 1), .ref (d 2), .ref (d 3), .ref (d 4), .int (nI fi), .int (nI sz)])), (d 1, .inl (cI, 40, .inl ki)), (d 2, .inl (cI, 40, .inl ow)), (d 3, .inl (cI, 40, .inl mr)), (d 4, .inl (cI, 40, .inl va))] (va_A [(a 0, .inr (1, [.ref (b 0), .ref (d 0), .ref (a 1), .ref (a 2), .ref (a 3), .ref (a 4), .ref (a 5), .ref (a 6), .ref (a 7), .int bu])), (a 1, .inl (cI, 40, .inl pa)), (a 2, .inl (cI, 40, .inl oc)), (a 3, .inl (cI, 40, .inl cv)), (a 4, .inl (cI, 40, .inl rq)), (a 5, .inl (cI, 40, .inl la)), (a 6, .inl (cI, 40, .inl rc)), (a 7, .inl (cI, 40, .inl su)), (b 0, .inr (0, [.ref (b 1), .ref (b 2), .ref (b 3), .int (nI n)])), (b 1, .inl (cI, 40, .inl me)), (b 2, .inl (cI, 40, .inl ar)), (b 3, .inl (cI, 40, .inl dl)), (d 0, .inr (2, [.ref (d 1), .ref (d 2), .ref (d 3), .ref (d 4), .int (nI fi), .int (nI sz)])), (d 1, .inl (cI, 40, .inl ki)), (d 2, .inl (cI, 40, .inl ow)), (d 3, .inl (cI, 40, .inl mr)), (d 4, .inl (cI, 40, .inl va))] zz) t) (va_A [(a 0, .inr (1, [.ref (b 0), .ref (d 0), .ref (a 1), .ref (a 2), .ref (a 3), .ref (a 4), .ref (a 5), .ref (a 6), .ref (a 7), .int bu])), (a 1, .inl (cI, 40, .inl pa)), (a 2, .inl (cI, 40, .inl oc)), (a 3, .inl (cI, 40, .inl cv)), (a 4, .inl (cI, 40, .inl rq)), (a 5, .inl (cI, 40, .inl la)), (a 6, .inl (cI, 40, .inl rc)), (a 7, .inl (cI, 40, .inl su)), (b 0, .inr (0, [.ref (b 1), .ref (b 2), .ref (b 3), .int (nI n)])), (b 1, .inl (cI, 40, .inl me)), (b 2, .inl (cI, 40, .inl ar)), (b 3, .inl (cI, 40, .inl dl)), (d 0, .inr (2, [.ref (d 1), .ref (d 2), .ref (d 3), .ref (d 4), .int (nI fi), .int (nI sz)])), (d 1, .inl (cI, 40, .inl ki)), (d 2, .inl (cI, 40, .inl ow)), (d 3, .inl (cI, 40, .inl mr)), (d 4, .inl (cI, 40, .inl va))] zz)) 0 0 (va_A [(a 0, .inr (1, [.ref (b 0), .ref (d 0), .ref (a 1), .ref (a 2), .ref (a 3), .ref (a 4), .ref (a 5), .ref (a 6), .ref (a 7), .int bu])), (a 1, .inl (cI, 40, .inl pa)), (a 2, .inl (cI, 40, .inl oc)), (a 3, .inl (cI, 40, .inl cv)), (a 4, .inl (cI, 40, .inl rq)), (a 5, .inl (cI, 40, .inl la)), (a 6, .inl (cI, 40, .inl rc)), (a 7, .inl (cI, 40, .inl su)), (b 0, .inr (0, [.ref (b 1), .ref (b 2), .ref (b 3), .int (nI n)])), (b 1, .inl (cI, 40, .inl me)), (b 2, .inl (cI, 40, .inl ar)), (b 3, .inl (cI, 40, .inl dl)), (d 0, .inr (2, [.ref (d 1), .ref (d 2), .ref (d 3), .ref (d 4), .int (nI fi), .int (nI sz)])), (d 1, .inl (cI, 40, .inl ki)), (d 2, .inl (cI, 40, .inl ow)), (d 3, .inl (cI, 40, .inl mr)), (d 4, .inl (cI, 40, .inl va))] zz) := by
  refine Met.ofW (cc := cX1_isRepeatDue) (maxL := 3) (ret := (some .boolean)) (by decide) rfl ?_
  intro p e s m args below meth c s₁ B hml hv
  obtain ⟨rfl, hsz, hP, hK, hD0, hN⟩ := hv
  have hx := B.exec
  have hb := B.bytes
  have hr := B.returns
  have hts := atoms_spec (ws := wsX1_isRepeatDue) B.pre
  have hown : s.vm.findClass RX1 = some m.cls := findClass_of_methodNamed B.named
  have hlocks := B.notSynchronized
  subst hsz
  have hD := hD0.self (sz := s.heap.size)
  generalize hAe : va_A [(a 0, .inr (1, [.ref (b 0), .ref (d 0), .ref (a 1), .ref (a 2), .ref (a 3), .ref (a 4), .ref (a 5), .ref (a 6), .ref (a 7), .int bu])), (a 1, .inl (cI, 40, .inl pa)), (a 2, .inl (cI, 40, .inl oc)), (a 3, .inl (cI, 40, .inl cv)), (a 4, .inl (cI, 40, .inl rq)), (a 5, .inl (cI, 40, .inl la)), (a 6, .inl (cI, 40, .inl rc)), (a 7, .inl (cI, 40, .inl su)), (b 0, .inr (0, [.ref (b 1), .ref (b 2), .ref (b 3), .int (nI n)])), (b 1, .inl (cI, 40, .inl me)), (b 2, .inl (cI, 40, .inl ar)), (b 3, .inl (cI, 40, .inl dl)), (d 0, .inr (2, [.ref (d 1), .ref (d 2), .ref (d 3), .ref (d 4), .int (nI fi), .int (nI sz)])), (d 1, .inl (cI, 40, .inl ki)), (d 2, .inl (cI, 40, .inl ow)), (d 3, .inl (cI, 40, .inl mr)), (d 4, .inl (cI, 40, .inl va))] s.heap.size = A at hD hN ⊢
  have hA : ∀ q : Nat, s.heap.size ≤ q → A q := fun q h => by rw [← hAe]; exact Or.inr h
  have hS : va_S A s.heap s.heap [] := va_S.rf
  have hl := lv_entry ([.ref (a 0), .int (nI k), .int tm]) (n := 3) (Nat.le_of_ble_eq_true rfl)
  rw [lg_entry_eq]
  generalize (lg_sl ([.ref (a 0), .int (nI k), .int tm]) ++ List.replicate (3 - (lg_sl ([.ref (a 0), .int (nI k), .int tm])).length) Slot.unset).toArray = ls at hl ⊢
  have hl : lv_has ls 3 [(0, .ref (a 0)), (1, .int (nI k)), (2, .int tm)] := hl
  have hP : va_P G vwCl [(a 0, .inr (1, [.ref (b 0), .ref (d 0), .ref (a 1), .ref (a 2), .ref (a 3), .ref (a 4), .ref (a 5), .ref (a 6), .ref (a 7), .int bu])), (a 1, .inl (cI, 40, .inl pa)), (a 2, .inl (cI, 40, .inl oc)), (a 3, .inl (cI, 40, .inl cv)), (a 4, .inl (cI, 40, .inl rq)), (a 5, .inl (cI, 40, .inl la)), (a 6, .inl (cI, 40, .inl rc)), (a 7, .inl (cI, 40, .inl su)), (b 0, .inr (0, [.ref (b 1), .ref (b 2), .ref (b 3), .int (nI n)])), (b 1, .inl (cI, 40, .inl me)), (b 2, .inl (cI, 40, .inl ar)), (b 3, .inl (cI, 40, .inl dl)), (d 0, .inr (2, [.ref (d 1), .ref (d 2), .ref (d 3), .ref (d 4), .int (nI fi), .int (nI sz)])), (d 1, .inl (cI, 40, .inl ki)), (d 2, .inl (cI, 40, .inl ow)), (d 3, .inl (cI, 40, .inl mr)), (d 4, .inl (cI, 40, .inl va))] s.heap := hP
  obtain ⟨H, hH⟩ : ∃ H, H = s.heap := ⟨_, rfl⟩
  rw [← hH] at hP
  have hS : va_S A s.heap H [] := by rw [hH]; exact hS
  show W _ _ _ _ _ _ _ _ _ _ s.heap _ _ _ _ _
  rw [← hH]
  obtain ⟨locs, hlo⟩ : ∃ z : List Loc, z = [] := ⟨_, rfl⟩
  rw [← hlo] at hS ⊢
  refine lv_aload_n hx hb dX1_isRepeatDue_0 rfl (lv_at hl 0 rfl) ?_
  refine va_get (D := G) (ci := 1) (v := .ref (a 2)) (C := RX1) (T := TX1) (N := 10) hx hb hts hi_X1_isRepeatDue_X1 hown hK hP 0 rfl rfl 3 (by decide) (hts _ hk_X1_isRepeatDue_f15) (fun _ h9 => h9) rfl dX1_isRepeatDue_1 ?_
  refine lv_iload_n hx hb dX1_isRepeatDue_4 rfl (lv_at hl 1 rfl) ?_
  refine gz_iald hx hb hK hP 2 rfl rfl (k := k) rfl (by omega) (by decide) dX1_isRepeatDue_5 ?_
  refine lv_iconst (v := (-1)) hx hb dX1_isRepeatDue_6 (by decide +kernel) ?_
  refine lv_icmp_ne (tgt := 46) hx hb dX1_isRepeatDue_7 (by decide) (fun c_1 => ?_) (fun c_1 => ?_)
  · skip
    refine lv_iconst (v := nI 0) hx hb dX1_isRepeatDue_46 (by decide +kernel) ?_
    have hS9 := hS.2.2
    have hq9 : ((nI 0) = if k_isrep (pa, oc, cv, rq, la, rc, su, bu) k tm = true then nI 1 else nI 0) := by simp only [k_isrep, ↓reduceIte, eq_self, nI_10, and_true, true_and, and_false, false_and, not_true_eq_false, not_false_eq_true, Bool.and_true, Bool.true_and, Bool.and_false, Bool.false_and, decide_true, decide_false, Bool.false_eq_true, eq_false c_1]
    exact W.zret (v := nI 0) hx hb hr rfl (fun t ht hW => ⟨⟨nI 0, (), rfl, hq9, by rw [ht]; exact hP, hD⟩, hS.F ht⟩) hS9 dX1_isRepeatDue_47
  · skip
    refine lv_aload_n hx hb dX1_isRepeatDue_10 rfl (lv_at hl 0 rfl) ?_
    refine va_get (D := G) (ci := 1) (v := .ref (a 6)) (C := RX1) (T := TX1) (N := 10) hx hb hts hi_X1_isRepeatDue_X1 hown hK hP 0 rfl rfl 7 (by decide) (hts _ hk_X1_isRepeatDue_f27) (fun _ h9 => h9) rfl dX1_isRepeatDue_11 ?_
    refine lv_iload_n hx hb dX1_isRepeatDue_14 rfl (lv_at hl 1 rfl) ?_
    refine gz_iald hx hb hK hP 6 rfl rfl (k := k) rfl (by omega) (by decide) dX1_isRepeatDue_15 ?_
    refine lv_if_ne (tgt := 46) hx hb dX1_isRepeatDue_16 (by decide) (fun c_2 => ?_) (fun c_2 => ?_)
    · skip
      refine lv_iconst (v := nI 0) hx hb dX1_isRepeatDue_46 (by decide +kernel) ?_
      have hS9 := hS.2.2
      have hq9 : ((nI 0) = if k_isrep (pa, oc, cv, rq, la, rc, su, bu) k tm = true then nI 1 else nI 0) := by simp only [k_isrep, ↓reduceIte, eq_self, nI_10, and_true, true_and, and_false, false_and, not_true_eq_false, not_false_eq_true, Bool.and_true, Bool.true_and, Bool.and_false, Bool.false_and, decide_true, decide_false, Bool.false_eq_true, eq_true c_1, eq_false c_2]
      exact W.zret (v := nI 0) hx hb hr rfl (fun t ht hW => ⟨⟨nI 0, (), rfl, hq9, by rw [ht]; exact hP, hD⟩, hS.F ht⟩) hS9 dX1_isRepeatDue_47
    · skip
      refine lv_aload_n hx hb dX1_isRepeatDue_19 rfl (lv_at hl 0 rfl) ?_
      refine va_get (D := G) (ci := 1) (v := .ref (a 4)) (C := RX1) (T := TX1) (N := 10) hx hb hts hi_X1_isRepeatDue_X1 hown hK hP 0 rfl rfl 5 (by decide) (hts _ hk_X1_isRepeatDue_f21) (fun _ h9 => h9) rfl dX1_isRepeatDue_20 ?_
      refine lv_iload_n hx hb dX1_isRepeatDue_23 rfl (lv_at hl 1 rfl) ?_
      refine gz_iald hx hb hK hP 4 rfl rfl (k := k) rfl (by omega) (by decide) dX1_isRepeatDue_24 ?_
      refine lv_iconst (v := nI 4) hx hb dX1_isRepeatDue_25 (by decide +kernel) ?_
      refine lv_icmp_ge (tgt := 46) hx hb dX1_isRepeatDue_26 (by decide) (fun c_3 => ?_) (fun c_3 => ?_)
      · skip
        refine lv_iconst (v := nI 0) hx hb dX1_isRepeatDue_46 (by decide +kernel) ?_
        have hS9 := hS.2.2
        have hq9 : ((nI 0) = if k_isrep (pa, oc, cv, rq, la, rc, su, bu) k tm = true then nI 1 else nI 0) := by simp only [k_isrep, ↓reduceIte, eq_self, nI_10, and_true, true_and, and_false, false_and, not_true_eq_false, not_false_eq_true, Bool.and_true, Bool.true_and, Bool.and_false, Bool.false_and, decide_true, decide_false, Bool.false_eq_true, eq_true c_1, eq_true c_2, eq_true c_3]
        exact W.zret (v := nI 0) hx hb hr rfl (fun t ht hW => ⟨⟨nI 0, (), rfl, hq9, by rw [ht]; exact hP, hD⟩, hS.F ht⟩) hS9 dX1_isRepeatDue_47
      · skip
        refine lv_iload_n hx hb dX1_isRepeatDue_29 rfl (lv_at hl 2 rfl) ?_
        refine lv_aload_n hx hb dX1_isRepeatDue_30 rfl (lv_at hl 0 rfl) ?_
        refine va_get (D := G) (ci := 1) (v := .ref (a 5)) (C := RX1) (T := TX1) (N := 10) hx hb hts hi_X1_isRepeatDue_X1 hown hK hP 0 rfl rfl 6 (by decide) (hts _ hk_X1_isRepeatDue_f24) (fun _ h9 => h9) rfl dX1_isRepeatDue_31 ?_
        refine lv_iload_n hx hb dX1_isRepeatDue_34 rfl (lv_at hl 1 rfl) ?_
        refine gz_iald hx hb hK hP 5 rfl rfl (k := k) rfl (by omega) (by decide) dX1_isRepeatDue_35 ?_
        refine lv_isub hx hb dX1_isRepeatDue_36 ?_
        refine lv_bipush (v := nI 8) hx hb dX1_isRepeatDue_37 (by decide +kernel) ?_
        refine lv_icmp_lt (tgt := 46) hx hb dX1_isRepeatDue_39 (by decide) (fun c_4 => ?_) (fun c_4 => ?_)
        · skip
          refine lv_iconst (v := nI 0) hx hb dX1_isRepeatDue_46 (by decide +kernel) ?_
          have hS9 := hS.2.2
          have hq9 : ((nI 0) = if k_isrep (pa, oc, cv, rq, la, rc, su, bu) k tm = true then nI 1 else nI 0) := by simp only [k_isrep, ↓reduceIte, eq_self, nI_10, and_true, true_and, and_false, false_and, not_true_eq_false, not_false_eq_true, Bool.and_true, Bool.true_and, Bool.and_false, Bool.false_and, decide_true, decide_false, Bool.false_eq_true, eq_true c_1, eq_true c_2, eq_false c_3, eq_true c_4]
          exact W.zret (v := nI 0) hx hb hr rfl (fun t ht hW => ⟨⟨nI 0, (), rfl, hq9, by rw [ht]; exact hP, hD⟩, hS.F ht⟩) hS9 dX1_isRepeatDue_47
        · skip
          refine lv_iconst (v := nI 1) hx hb dX1_isRepeatDue_42 (by decide +kernel) ?_
          refine lv_goto (tgt := 47) hx hb dX1_isRepeatDue_43 (by decide) ?_
          have hS9 := hS.2.2
          have hq9 : ((nI 1) = if k_isrep (pa, oc, cv, rq, la, rc, su, bu) k tm = true then nI 1 else nI 0) := by simp only [k_isrep, ↓reduceIte, eq_self, nI_10, and_true, true_and, and_false, false_and, not_true_eq_false, not_false_eq_true, Bool.and_true, Bool.true_and, Bool.and_false, Bool.false_and, decide_true, decide_false, Bool.false_eq_true, eq_true c_1, eq_true c_2, eq_false c_3, eq_false c_4]
          exact W.zret (v := nI 1) hx hb hr rfl (fun t ht hW => ⟨⟨nI 1, (), rfl, hq9, by rw [ht]; exact hP, hD⟩, hS.F ht⟩) hS9 dX1_isRepeatDue_47

theorem hk_X1_repeatRequests_f37 : (.fieldLink RX1 37 "Callgate$Caller" "book" "LCallgate$Book;" : Cond) ∈ wsX1_repeatRequests := by decide +kernel
theorem hi_X1_repeatRequests_X1 : ∀ w ∈ u_ws RX1 TX1 10, w ∈ wsX1_repeatRequests := by decide +kernel
theorem hi_X1_repeatRequests_X0 : ∀ w ∈ u_ws RX0 TX0 4, w ∈ wsX1_repeatRequests := by decide +kernel
theorem hk_X1_repeatRequests_f33 : (.fieldLink RX1 33 "Callgate$Caller" "budget" "I" : Cond) ∈ wsX1_repeatRequests := by decide +kernel
set_option maxHeartbeats 4000000 in
set_option maxRecDepth 100000 in
theorem c_X1_repeatRequests (l : Launch) (G : va_G) (cI : ClassId) (a b d : Nat → Nat) (pa : Fn) (oc : Fn) (cv : Fn) (rq : Fn) (la : Fn) (rc : Fn) (su : Fn) (bu : Int32) (me : Fn) (ar : Fn) (dl : Fn) (n : Nat) (ki : Fn) (ow : Fn) (mr : Fn) (va : Fn) (fi : Nat) (sz : Nat) (tm : Int32) (hn : n ≤ 40) (hf : fi < 40) (hs : sz ≤ 40) (zz : Nat) : Met l yX1_repeatRequests wsX1_repeatRequests ({ frames := 4, cells := 0, slots := 0, locals := 90 }) (va_Pc [.ref (a 0), .int tm] (kPre G cI [(a 0, .inr (1, [.ref (b 0), .ref (d 0), .ref (a 1), .ref (a 2), .ref (a 3), .ref (a 4), .ref (a 5), .ref (a 6), .ref (a 7), .int bu])), (a 1, .inl (cI, 40, .inl pa)), (a 2, .inl (cI, 40, .inl oc)), (a 3, .inl (cI, 40, .inl cv)), (a 4, .inl (cI, 40, .inl rq)), (a 5, .inl (cI, 40, .inl la)), (a 6, .inl (cI, 40, .inl rc)), (a 7, .inl (cI, 40, .inl su)), (b 0, .inr (0, [.ref (b 1), .ref (b 2), .ref (b 3), .int (nI n)])), (b 1, .inl (cI, 40, .inl me)), (b 2, .inl (cI, 40, .inl ar)), (b 3, .inl (cI, 40, .inl dl)), (d 0, .inr (2, [.ref (d 1), .ref (d 2), .ref (d 3), .ref (d 4), .int (nI fi), .int (nI sz)])), (d 1, .inl (cI, 40, .inl ki)), (d 2, .inl (cI, 40, .inl ow)), (d 3, .inl (cI, 40, .inl mr)), (d 4, .inl (cI, 40, .inl va))] zz)) (va_Qv (fun (u : CalS × LaneS) => (u = k_rep n tm (pa, oc, cv, rq, la, rc, su, bu) (ki, ow, mr, va, fi, sz)) ∧ u.2.2.2.2.2.1 < 40 ∧ u.2.2.2.2.2.2 ≤ 40) (fun (u : CalS × LaneS) t => kQ G [(a 0, .inr (1, [.ref (b 0), .ref (d 0), .ref (a 1), .ref (a 2), .ref (a 3), .ref (a 4), .ref (a 5), .ref (a 6), .ref (a 7), .int u.1.2.2.2.2.2.2.2])), (a 1, .inl (cI, 40, .inl u.1.1)), (a 2, .inl (cI, 40, .inl u.1.2.1)), (a 3, .inl (cI, 40, .inl u.1.2.2.1)), (a 4, .inl (cI, 40, .inl u.1.2.2.2.1)), (a 5, .inl (cI, 40, .inl u.1.2.2.2.2.1)), (a 6, .inl (cI, 40, .inl u.1.2.2.2.2.2.1)), (a 7, .inl (cI, 40, .inl u.1.2.2.2.2.2.2.1)), (b 0, .inr (0, [.ref (b 1), .ref (b 2), .ref (b 3), .int (nI n)])), (b 1, .inl (cI, 40, .inl me)), (b 2, .inl (cI, 40, .inl ar)), (b 3, .inl (cI, 40, .inl dl)), (d 0, .inr (2, [.ref (d 1), .ref (d 2), .ref (d 3), .ref (d 4), .int (nI u.2.2.2.2.2.1), .int (nI u.2.2.2.2.2.2)])), (d 1, .inl (cI, 40, .inl u.2.1)), (d 2, .inl (cI, 40, .inl u.2.2.1)), (d 3, .inl (cI, 40, .inl u.2.2.2.1)), (d 4, .inl (cI, 40, .inl u.2.2.2.2.1))] (va_A [(a 0, .inr (1, [.ref (b 0), .ref (d 0), .ref (a 1), .ref (a 2), .ref (a 3), .ref (a 4), .ref (a 5), .ref (a 6), .ref (a 7), .int bu])), (a 1, .inl (cI, 40, .inl pa)), (a 2, .inl (cI, 40, .inl oc)), (a 3, .inl (cI, 40, .inl cv)), (a 4, .inl (cI, 40, .inl rq)), (a 5, .inl (cI, 40, .inl la)), (a 6, .inl (cI, 40, .inl rc)), (a 7, .inl (cI, 40, .inl su)), (b 0, .inr (0, [.ref (b 1), .ref (b 2), .ref (b 3), .int (nI n)])), (b 1, .inl (cI, 40, .inl me)), (b 2, .inl (cI, 40, .inl ar)), (b 3, .inl (cI, 40, .inl dl)), (d 0, .inr (2, [.ref (d 1), .ref (d 2), .ref (d 3), .ref (d 4), .int (nI fi), .int (nI sz)])), (d 1, .inl (cI, 40, .inl ki)), (d 2, .inl (cI, 40, .inl ow)), (d 3, .inl (cI, 40, .inl mr)), (d 4, .inl (cI, 40, .inl va))] zz) t) (va_A [(a 0, .inr (1, [.ref (b 0), .ref (d 0), .ref (a 1), .ref (a 2), .ref (a 3), .ref (a 4), .ref (a 5), .ref (a 6), .ref (a 7), .int bu])), (a 1, .inl (cI, 40, .inl pa)), (a 2, .inl (cI, 40, .inl oc)), (a 3, .inl (cI, 40, .inl cv)), (a 4, .inl (cI, 40, .inl rq)), (a 5, .inl (cI, 40, .inl la)), (a 6, .inl (cI, 40, .inl rc)), (a 7, .inl (cI, 40, .inl su)), (b 0, .inr (0, [.ref (b 1), .ref (b 2), .ref (b 3), .int (nI n)])), (b 1, .inl (cI, 40, .inl me)), (b 2, .inl (cI, 40, .inl ar)), (b 3, .inl (cI, 40, .inl dl)), (d 0, .inr (2, [.ref (d 1), .ref (d 2), .ref (d 3), .ref (d 4), .int (nI fi), .int (nI sz)])), (d 1, .inl (cI, 40, .inl ki)), (d 2, .inl (cI, 40, .inl ow)), (d 3, .inl (cI, 40, .inl mr)), (d 4, .inl (cI, 40, .inl va))] zz)) 0 0 (va_A [(a 0, .inr (1, [.ref (b 0), .ref (d 0), .ref (a 1), .ref (a 2), .ref (a 3), .ref (a 4), .ref (a 5), .ref (a 6), .ref (a 7), .int bu])), (a 1, .inl (cI, 40, .inl pa)), (a 2, .inl (cI, 40, .inl oc)), (a 3, .inl (cI, 40, .inl cv)), (a 4, .inl (cI, 40, .inl rq)), (a 5, .inl (cI, 40, .inl la)), (a 6, .inl (cI, 40, .inl rc)), (a 7, .inl (cI, 40, .inl su)), (b 0, .inr (0, [.ref (b 1), .ref (b 2), .ref (b 3), .int (nI n)])), (b 1, .inl (cI, 40, .inl me)), (b 2, .inl (cI, 40, .inl ar)), (b 3, .inl (cI, 40, .inl dl)), (d 0, .inr (2, [.ref (d 1), .ref (d 2), .ref (d 3), .ref (d 4), .int (nI fi), .int (nI sz)])), (d 1, .inl (cI, 40, .inl ki)), (d 2, .inl (cI, 40, .inl ow)), (d 3, .inl (cI, 40, .inl mr)), (d 4, .inl (cI, 40, .inl va))] zz) := by
  refine Met.ofW (cc := cX1_repeatRequests) (maxL := 3) (ret := none) (by decide) rfl ?_
  intro p e s m args below meth c s₁ B hml hv
  obtain ⟨rfl, hsz, hP, hK, hD0, hN⟩ := hv
  have hx := B.exec
  have hb := B.bytes
  have hr := B.returns
  have hts := atoms_spec (ws := wsX1_repeatRequests) B.pre
  have hown : s.vm.findClass RX1 = some m.cls := findClass_of_methodNamed B.named
  have hlocks := B.notSynchronized
  subst hsz
  have hD := hD0.self (sz := s.heap.size)
  generalize hAe : va_A [(a 0, .inr (1, [.ref (b 0), .ref (d 0), .ref (a 1), .ref (a 2), .ref (a 3), .ref (a 4), .ref (a 5), .ref (a 6), .ref (a 7), .int bu])), (a 1, .inl (cI, 40, .inl pa)), (a 2, .inl (cI, 40, .inl oc)), (a 3, .inl (cI, 40, .inl cv)), (a 4, .inl (cI, 40, .inl rq)), (a 5, .inl (cI, 40, .inl la)), (a 6, .inl (cI, 40, .inl rc)), (a 7, .inl (cI, 40, .inl su)), (b 0, .inr (0, [.ref (b 1), .ref (b 2), .ref (b 3), .int (nI n)])), (b 1, .inl (cI, 40, .inl me)), (b 2, .inl (cI, 40, .inl ar)), (b 3, .inl (cI, 40, .inl dl)), (d 0, .inr (2, [.ref (d 1), .ref (d 2), .ref (d 3), .ref (d 4), .int (nI fi), .int (nI sz)])), (d 1, .inl (cI, 40, .inl ki)), (d 2, .inl (cI, 40, .inl ow)), (d 3, .inl (cI, 40, .inl mr)), (d 4, .inl (cI, 40, .inl va))] s.heap.size = A at hD hN ⊢
  have hA : ∀ q : Nat, s.heap.size ≤ q → A q := fun q h => by rw [← hAe]; exact Or.inr h
  have hS : va_S A s.heap s.heap [] := va_S.rf
  have hl := lv_entry ([.ref (a 0), .int tm]) (n := 3) (Nat.le_of_ble_eq_true rfl)
  rw [lg_entry_eq]
  generalize (lg_sl ([.ref (a 0), .int tm]) ++ List.replicate (3 - (lg_sl ([.ref (a 0), .int tm])).length) Slot.unset).toArray = ls at hl ⊢
  have hl : lv_has ls 3 [(0, .ref (a 0)), (1, .int tm)] := hl
  have hP : va_P G vwCl [(a 0, .inr (1, [.ref (b 0), .ref (d 0), .ref (a 1), .ref (a 2), .ref (a 3), .ref (a 4), .ref (a 5), .ref (a 6), .ref (a 7), .int bu])), (a 1, .inl (cI, 40, .inl pa)), (a 2, .inl (cI, 40, .inl oc)), (a 3, .inl (cI, 40, .inl cv)), (a 4, .inl (cI, 40, .inl rq)), (a 5, .inl (cI, 40, .inl la)), (a 6, .inl (cI, 40, .inl rc)), (a 7, .inl (cI, 40, .inl su)), (b 0, .inr (0, [.ref (b 1), .ref (b 2), .ref (b 3), .int (nI n)])), (b 1, .inl (cI, 40, .inl me)), (b 2, .inl (cI, 40, .inl ar)), (b 3, .inl (cI, 40, .inl dl)), (d 0, .inr (2, [.ref (d 1), .ref (d 2), .ref (d 3), .ref (d 4), .int (nI fi), .int (nI sz)])), (d 1, .inl (cI, 40, .inl ki)), (d 2, .inl (cI, 40, .inl ow)), (d 3, .inl (cI, 40, .inl mr)), (d 4, .inl (cI, 40, .inl va))] s.heap := hP
  obtain ⟨H, hH⟩ : ∃ H, H = s.heap := ⟨_, rfl⟩
  rw [← hH] at hP
  have hS : va_S A s.heap H [] := by rw [hH]; exact hS
  show W _ _ _ _ _ _ _ _ _ _ s.heap _ _ _ _ _
  rw [← hH]
  obtain ⟨locs, hlo⟩ : ∃ z : List Loc, z = [] := ⟨_, rfl⟩
  rw [← hlo] at hS ⊢
  refine lv_iconst (v := nI 0) hx hb dX1_repeatRequests_0 (by decide +kernel) ?_
  refine lv_istore_n (lv' := [(2, .int (nI 0)), (0, .ref (a 0)), (1, .int tm)]) hx hb dX1_repeatRequests_1 rfl hl (by decide) rfl (fun ls hl => ?_)
  refine k_loop (σ := Nat × Fn × Fn × Fn × Fn × Fn × Fn × Fn × Int32 × Fn × Fn × Fn × Fn × Nat × Nat) (I := fun x H locs ls => (x.1 ≤ n) ∧ (x.2.2.2.2.2.2.2.2.2.2.2.2.2.1 < 40) ∧ (x.2.2.2.2.2.2.2.2.2.2.2.2.2.2 ≤ 40) ∧ (it (k_rep1 tm) (n - x.1) x.1 (((x.2.1, x.2.2.1, x.2.2.2.1, x.2.2.2.2.1, x.2.2.2.2.2.1, x.2.2.2.2.2.2.1, x.2.2.2.2.2.2.2.1, x.2.2.2.2.2.2.2.2.1), (x.2.2.2.2.2.2.2.2.2.1, x.2.2.2.2.2.2.2.2.2.2.1, x.2.2.2.2.2.2.2.2.2.2.2.1, x.2.2.2.2.2.2.2.2.2.2.2.2.1, x.2.2.2.2.2.2.2.2.2.2.2.2.2.1, x.2.2.2.2.2.2.2.2.2.2.2.2.2.2)) : CalS × LaneS) = k_rep n tm (pa, oc, cv, rq, la, rc, su, bu) (ki, ow, mr, va, fi, sz)) ∧ va_P G vwCl [(a 0, .inr (1, [.ref (b 0), .ref (d 0), .ref (a 1), .ref (a 2), .ref (a 3), .ref (a 4), .ref (a 5), .ref (a 6), .ref (a 7), .int x.2.2.2.2.2.2.2.2.1])), (a 1, .inl (cI, 40, .inl x.2.1)), (a 2, .inl (cI, 40, .inl x.2.2.1)), (a 3, .inl (cI, 40, .inl x.2.2.2.1)), (a 4, .inl (cI, 40, .inl x.2.2.2.2.1)), (a 5, .inl (cI, 40, .inl x.2.2.2.2.2.1)), (a 6, .inl (cI, 40, .inl x.2.2.2.2.2.2.1)), (a 7, .inl (cI, 40, .inl x.2.2.2.2.2.2.2.1)), (b 0, .inr (0, [.ref (b 1), .ref (b 2), .ref (b 3), .int (nI n)])), (b 1, .inl (cI, 40, .inl me)), (b 2, .inl (cI, 40, .inl ar)), (b 3, .inl (cI, 40, .inl dl)), (d 0, .inr (2, [.ref (d 1), .ref (d 2), .ref (d 3), .ref (d 4), .int (nI x.2.2.2.2.2.2.2.2.2.2.2.2.2.1), .int (nI x.2.2.2.2.2.2.2.2.2.2.2.2.2.2)])), (d 1, .inl (cI, 40, .inl x.2.2.2.2.2.2.2.2.2.1)), (d 2, .inl (cI, 40, .inl x.2.2.2.2.2.2.2.2.2.2.1)), (d 3, .inl (cI, 40, .inl x.2.2.2.2.2.2.2.2.2.2.2.1)), (d 4, .inl (cI, 40, .inl x.2.2.2.2.2.2.2.2.2.2.2.2.1))] H ∧ va_D A [(a 0, .inr (1, [.ref (b 0), .ref (d 0), .ref (a 1), .ref (a 2), .ref (a 3), .ref (a 4), .ref (a 5), .ref (a 6), .ref (a 7), .int x.2.2.2.2.2.2.2.2.1])), (a 1, .inl (cI, 40, .inl x.2.1)), (a 2, .inl (cI, 40, .inl x.2.2.1)), (a 3, .inl (cI, 40, .inl x.2.2.2.1)), (a 4, .inl (cI, 40, .inl x.2.2.2.2.1)), (a 5, .inl (cI, 40, .inl x.2.2.2.2.2.1)), (a 6, .inl (cI, 40, .inl x.2.2.2.2.2.2.1)), (a 7, .inl (cI, 40, .inl x.2.2.2.2.2.2.2.1)), (b 0, .inr (0, [.ref (b 1), .ref (b 2), .ref (b 3), .int (nI n)])), (b 1, .inl (cI, 40, .inl me)), (b 2, .inl (cI, 40, .inl ar)), (b 3, .inl (cI, 40, .inl dl)), (d 0, .inr (2, [.ref (d 1), .ref (d 2), .ref (d 3), .ref (d 4), .int (nI x.2.2.2.2.2.2.2.2.2.2.2.2.2.1), .int (nI x.2.2.2.2.2.2.2.2.2.2.2.2.2.2)])), (d 1, .inl (cI, 40, .inl x.2.2.2.2.2.2.2.2.2.1)), (d 2, .inl (cI, 40, .inl x.2.2.2.2.2.2.2.2.2.2.1)), (d 3, .inl (cI, 40, .inl x.2.2.2.2.2.2.2.2.2.2.2.1)), (d 4, .inl (cI, 40, .inl x.2.2.2.2.2.2.2.2.2.2.2.2.1))] ∧ va_S A s.heap H locs ∧ lv_has ls 3 [(0, .ref (a 0)), (1, .int tm), (2, .int (nI x.1))]) (fun x => n - x.1) ?_ (0, pa, oc, cv, rq, la, rc, su, bu, ki, ow, mr, va, fi, sz) H locs ls ⟨(by omega), (by omega), (by omega), rfl, hP, hD, hS, lv_sub hl [1, 2, 0] rfl⟩
  intro x H locs ls hI ih
  obtain ⟨i, pa1, oc1, cv1, rq1, la1, rc1, su1, bu1, ki1, ow1, mr1, va1, fi1, sz1⟩ := x
  obtain ⟨hi, hf1, hs1, hv, hP, hD, hS, hl⟩ := hI
  have hi : i ≤ n := hi
  have hf1 : fi1 < 40 := hf1
  have hs1 : sz1 ≤ 40 := hs1
  have hv : it (k_rep1 tm) (n - i) i (((pa1, oc1, cv1, rq1, la1, rc1, su1, bu1), (ki1, ow1, mr1, va1, fi1, sz1)) : CalS × LaneS) = k_rep n tm (pa, oc, cv, rq, la, rc, su, bu) (ki, ow, mr, va, fi, sz) := hv
  have hP : va_P G vwCl [(a 0, .inr (1, [.ref (b 0), .ref (d 0), .ref (a 1), .ref (a 2), .ref (a 3), .ref (a 4), .ref (a 5), .ref (a 6), .ref (a 7), .int bu1])), (a 1, .inl (cI, 40, .inl pa1)), (a 2, .inl (cI, 40, .inl oc1)), (a 3, .inl (cI, 40, .inl cv1)), (a 4, .inl (cI, 40, .inl rq1)), (a 5, .inl (cI, 40, .inl la1)), (a 6, .inl (cI, 40, .inl rc1)), (a 7, .inl (cI, 40, .inl su1)), (b 0, .inr (0, [.ref (b 1), .ref (b 2), .ref (b 3), .int (nI n)])), (b 1, .inl (cI, 40, .inl me)), (b 2, .inl (cI, 40, .inl ar)), (b 3, .inl (cI, 40, .inl dl)), (d 0, .inr (2, [.ref (d 1), .ref (d 2), .ref (d 3), .ref (d 4), .int (nI fi1), .int (nI sz1)])), (d 1, .inl (cI, 40, .inl ki1)), (d 2, .inl (cI, 40, .inl ow1)), (d 3, .inl (cI, 40, .inl mr1)), (d 4, .inl (cI, 40, .inl va1))] H := hP
  have hD : va_D A [(a 0, .inr (1, [.ref (b 0), .ref (d 0), .ref (a 1), .ref (a 2), .ref (a 3), .ref (a 4), .ref (a 5), .ref (a 6), .ref (a 7), .int bu1])), (a 1, .inl (cI, 40, .inl pa1)), (a 2, .inl (cI, 40, .inl oc1)), (a 3, .inl (cI, 40, .inl cv1)), (a 4, .inl (cI, 40, .inl rq1)), (a 5, .inl (cI, 40, .inl la1)), (a 6, .inl (cI, 40, .inl rc1)), (a 7, .inl (cI, 40, .inl su1)), (b 0, .inr (0, [.ref (b 1), .ref (b 2), .ref (b 3), .int (nI n)])), (b 1, .inl (cI, 40, .inl me)), (b 2, .inl (cI, 40, .inl ar)), (b 3, .inl (cI, 40, .inl dl)), (d 0, .inr (2, [.ref (d 1), .ref (d 2), .ref (d 3), .ref (d 4), .int (nI fi1), .int (nI sz1)])), (d 1, .inl (cI, 40, .inl ki1)), (d 2, .inl (cI, 40, .inl ow1)), (d 3, .inl (cI, 40, .inl mr1)), (d 4, .inl (cI, 40, .inl va1))] := hD
  have hl : lv_has ls 3 [(0, .ref (a 0)), (1, .int tm), (2, .int (nI i))] := hl
  refine lv_iload_n hx hb dX1_repeatRequests_2 rfl (lv_at hl 2 rfl) ?_
  refine lv_aload_n hx hb dX1_repeatRequests_3 rfl (lv_at hl 0 rfl) ?_
  refine va_get (D := G) (ci := 1) (v := .ref (b 0)) (C := RX1) (T := TX1) (N := 10) hx hb hts hi_X1_repeatRequests_X1 hown hK hP 0 rfl rfl 0 (by decide) (hts _ hk_X1_repeatRequests_f37) (fun _ h9 => h9) rfl dX1_repeatRequests_4 ?_
  refine va_getN (D := G) (ci := 0) (v := .int (nI n)) (C := RX0) (T := TX0) (N := 4) hx hb hts hi_X1_repeatRequests_X0 hown hK hP 8 rfl rfl 3 (by decide) (va_Nw.use rfl (hN.1 _ (List.mem_of_getElem? (i := 8) rfl))) (fun _ h9 => h9) rfl dX1_repeatRequests_7 ?_
  refine lv_icmp_ge (tgt := 54) hx hb dX1_repeatRequests_10 (by decide) (fun c_2 => ?_) (fun c_2 => ?_)
  · have g_2 := (nI_leI (a := n) (b := i) (by omega) (by omega)).mp c_2
    have hS9 := hS.2.2
    have hq9 : ((((pa1, oc1, cv1, rq1, la1, rc1, su1, bu1), (ki1, ow1, mr1, va1, fi1, sz1)) : CalS × LaneS) = k_rep n tm (pa, oc, cv, rq, la, rc, su, bu) (ki, ow, mr, va, fi, sz)) ∧ fi1 < 40 ∧ sz1 ≤ 40 := by refine ⟨?_, by omega, by omega⟩; rw [← hv, it_end (by omega)]
    exact W.vret hx hb hr (fun t ht hW => ⟨⟨((pa1, oc1, cv1, rq1, la1, rc1, su1, bu1), (ki1, ow1, mr1, va1, fi1, sz1)), rfl, hq9, by rw [ht]; exact hP, hD⟩, hS.F ht⟩) hS9 dX1_repeatRequests_54
  · have g_2 := (not_congr (nI_leI (a := n) (b := i) (by omega) (by omega))).mp c_2
    refine lv_aload_n hx hb dX1_repeatRequests_13 rfl (lv_at hl 0 rfl) ?_
    refine lv_iload_n hx hb dX1_repeatRequests_14 rfl (lv_at hl 2 rfl) ?_
    refine lv_iload_n hx hb dX1_repeatRequests_15 rfl (lv_at hl 1 rfl) ?_
    refine k_calli (S := Unit) (wc := [(a 0, .inr (1, [.ref (b 0), .ref (d 0), .ref (a 1), .ref (a 2), .ref (a 3), .ref (a 4), .ref (a 5), .ref (a 6), .ref (a 7), .int bu1])), (a 1, .inl (cI, 40, .inl pa1)), (a 2, .inl (cI, 40, .inl oc1)), (a 3, .inl (cI, 40, .inl cv1)), (a 4, .inl (cI, 40, .inl rq1)), (a 5, .inl (cI, 40, .inl la1)), (a 6, .inl (cI, 40, .inl rc1)), (a 7, .inl (cI, 40, .inl su1)), (b 0, .inr (0, [.ref (b 1), .ref (b 2), .ref (b 3), .int (nI n)])), (b 1, .inl (cI, 40, .inl me)), (b 2, .inl (cI, 40, .inl ar)), (b 3, .inl (cI, 40, .inl dl)), (d 0, .inr (2, [.ref (d 1), .ref (d 2), .ref (d 3), .ref (d 4), .int (nI fi1), .int (nI sz1)])), (d 1, .inl (cI, 40, .inl ki1)), (d 2, .inl (cI, 40, .inl ow1)), (d 3, .inl (cI, 40, .inl mr1)), (d 4, .inl (cI, 40, .inl va1))]) (wr := []) (w1 := fun u => [(a 0, .inr (1, [.ref (b 0), .ref (d 0), .ref (a 1), .ref (a 2), .ref (a 3), .ref (a 4), .ref (a 5), .ref (a 6), .ref (a 7), .int bu1])), (a 1, .inl (cI, 40, .inl pa1)), (a 2, .inl (cI, 40, .inl oc1)), (a 3, .inl (cI, 40, .inl cv1)), (a 4, .inl (cI, 40, .inl rq1)), (a 5, .inl (cI, 40, .inl la1)), (a 6, .inl (cI, 40, .inl rc1)), (a 7, .inl (cI, 40, .inl su1)), (b 0, .inr (0, [.ref (b 1), .ref (b 2), .ref (b 3), .int (nI n)])), (b 1, .inl (cI, 40, .inl me)), (b 2, .inl (cI, 40, .inl ar)), (b 3, .inl (cI, 40, .inl dl)), (d 0, .inr (2, [.ref (d 1), .ref (d 2), .ref (d 3), .ref (d 4), .int (nI fi1), .int (nI sz1)])), (d 1, .inl (cI, 40, .inl ki1)), (d 2, .inl (cI, 40, .inl ow1)), (d 3, .inl (cI, 40, .inl mr1)), (d 4, .inl (cI, 40, .inl va1))]) (w2 := fun u => [(a 0, .inr (1, [.ref (b 0), .ref (d 0), .ref (a 1), .ref (a 2), .ref (a 3), .ref (a 4), .ref (a 5), .ref (a 6), .ref (a 7), .int bu1])), (a 1, .inl (cI, 40, .inl pa1)), (a 2, .inl (cI, 40, .inl oc1)), (a 3, .inl (cI, 40, .inl cv1)), (a 4, .inl (cI, 40, .inl rq1)), (a 5, .inl (cI, 40, .inl la1)), (a 6, .inl (cI, 40, .inl rc1)), (a 7, .inl (cI, 40, .inl su1)), (b 0, .inr (0, [.ref (b 1), .ref (b 2), .ref (b 3), .int (nI n)])), (b 1, .inl (cI, 40, .inl me)), (b 2, .inl (cI, 40, .inl ar)), (b 3, .inl (cI, 40, .inl dl)), (d 0, .inr (2, [.ref (d 1), .ref (d 2), .ref (d 3), .ref (d 4), .int (nI fi1), .int (nI sz1)])), (d 1, .inl (cI, 40, .inl ki1)), (d 2, .inl (cI, 40, .inl ow1)), (d 3, .inl (cI, 40, .inl mr1)), (d 4, .inl (cI, 40, .inl va1))]) (va_runV (As := [.int (nI i), .int tm]) (rest := []) ⟨hx, hb, hml, hown, hts⟩ (c_X1_isRepeatDue l G cI a b d pa1 oc1 cv1 rq1 la1 rc1 su1 bu1 me ar dl n ki1 ow1 mr1 va1 fi1 sz1 i tm (by first | omega | assumption) (by first | omega | assumption) (by first | omega | assumption) (by first | omega | assumption) H.size) (cwV 2 hts gX1_repeatRequests_X1_isRepeatDue rfl rfl rfl (by decide +kernel) ⟨Nat.le_of_ble_eq_true rfl, Nat.le_of_ble_eq_true rfl⟩) ⟨kPre.blind, va_recv hK hP (ci := 1) (q0 := 0) rfl rfl, kPre.at hP hK hD hS hA hN [0, 1, 2, 3, 4, 5, 6, 7, 8, 9, 10, 11, 12, 13, 14, 15, 16] rfl rfl⟩ rfl rfl hl.1 rfl (lv_room (Nat.le_of_ble_eq_true rfl)) dX1_repeatRequests_16 ⟨Nat.le_of_ble_eq_true rfl, Nat.le_of_ble_eq_true rfl⟩) hP hD hS hA [0, 1, 2, 3, 4, 5, 6, 7, 8, 9, 10, 11, 12, 13, 14, 15, 16] [] [0, 1, 2, 3, 4, 5, 6, 7, 8, 9, 10, 11, 12, 13, 14, 15, 16] rfl rfl ⟨rfl, by decide, rfl⟩ (fun _ => rfl) (fun r_3 u H locs hw_3 hP hD hS => ?_)
    have hP : va_P G vwCl [(a 0, .inr (1, [.ref (b 0), .ref (d 0), .ref (a 1), .ref (a 2), .ref (a 3), .ref (a 4), .ref (a 5), .ref (a 6), .ref (a 7), .int bu1])), (a 1, .inl (cI, 40, .inl pa1)), (a 2, .inl (cI, 40, .inl oc1)), (a 3, .inl (cI, 40, .inl cv1)), (a 4, .inl (cI, 40, .inl rq1)), (a 5, .inl (cI, 40, .inl la1)), (a 6, .inl (cI, 40, .inl rc1)), (a 7, .inl (cI, 40, .inl su1)), (b 0, .inr (0, [.ref (b 1), .ref (b 2), .ref (b 3), .int (nI n)])), (b 1, .inl (cI, 40, .inl me)), (b 2, .inl (cI, 40, .inl ar)), (b 3, .inl (cI, 40, .inl dl)), (d 0, .inr (2, [.ref (d 1), .ref (d 2), .ref (d 3), .ref (d 4), .int (nI fi1), .int (nI sz1)])), (d 1, .inl (cI, 40, .inl ki1)), (d 2, .inl (cI, 40, .inl ow1)), (d 3, .inl (cI, 40, .inl mr1)), (d 4, .inl (cI, 40, .inl va1))] H := hP
    have hD : va_D A [(a 0, .inr (1, [.ref (b 0), .ref (d 0), .ref (a 1), .ref (a 2), .ref (a 3), .ref (a 4), .ref (a 5), .ref (a 6), .ref (a 7), .int bu1])), (a 1, .inl (cI, 40, .inl pa1)), (a 2, .inl (cI, 40, .inl oc1)), (a 3, .inl (cI, 40, .inl cv1)), (a 4, .inl (cI, 40, .inl rq1)), (a 5, .inl (cI, 40, .inl la1)), (a 6, .inl (cI, 40, .inl rc1)), (a 7, .inl (cI, 40, .inl su1)), (b 0, .inr (0, [.ref (b 1), .ref (b 2), .ref (b 3), .int (nI n)])), (b 1, .inl (cI, 40, .inl me)), (b 2, .inl (cI, 40, .inl ar)), (b 3, .inl (cI, 40, .inl dl)), (d 0, .inr (2, [.ref (d 1), .ref (d 2), .ref (d 3), .ref (d 4), .int (nI fi1), .int (nI sz1)])), (d 1, .inl (cI, 40, .inl ki1)), (d 2, .inl (cI, 40, .inl ow1)), (d 3, .inl (cI, 40, .inl mr1)), (d 4, .inl (cI, 40, .inl va1))] := hD
    refine lv_if_eq (tgt := 48) hx hb dX1_repeatRequests_19 (by decide) (fun c_4 => ?_) (fun c_4 => ?_)
    · have g_4 := k_bool0 hw_3 c_4
      refine lv_iinc (v := nI (i + 1)) (lv' := [(2, .int (nI (i + 1))), (0, .ref (a 0)), (1, .int tm)]) hx hb dX1_repeatRequests_48 hl (k := 2) rfl (nI_1 _) (by decide) rfl (fun ls hl => ?_)
      refine lv_goto (tgt := 2) hx hb dX1_repeatRequests_51 (by decide) ?_
      have n_hi : (i + 1) ≤ n := by omega
      have n_hf1 : fi1 < 40 := by omega
      have n_hs1 : sz1 ≤ 40 := by omega
      have n_hv : it (k_rep1 tm) (n - (i + 1)) (i + 1) (((pa1, oc1, cv1, rq1, la1, rc1, su1, bu1), (ki1, ow1, mr1, va1, fi1, sz1)) : CalS × LaneS) = k_rep n tm (pa, oc, cv, rq, la, rc, su, bu) (ki, ow, mr, va, fi, sz) := by (have e1 : k_rep1 tm i (((pa1, oc1, cv1, rq1, la1, rc1, su1, bu1), (ki1, ow1, mr1, va1, fi1, sz1)) : CalS × LaneS) = ((pa1, oc1, cv1, rq1, la1, rc1, su1, bu1), (ki1, ow1, mr1, va1, fi1, sz1)) := by simp only [k_rep1, ↓reduceIte, eq_self, nI_10, and_true, true_and, and_false, false_and, not_true_eq_false, not_false_eq_true, Bool.and_true, Bool.true_and, Bool.and_false, Bool.false_and, decide_true, decide_false, Bool.false_eq_true, eq_false g_2, eq_false g_4]); rw [← hv]; exact ((it_step (by omega)).trans (congrArg _ e1)).symm
      exact ih (i + 1, pa1, oc1, cv1, rq1, la1, rc1, su1, bu1, ki1, ow1, mr1, va1, fi1, sz1) H locs ls ⟨n_hi, n_hf1, n_hs1, n_hv, hP, hD, hS, lv_sub hl [1, 2, 0] rfl⟩ (by show n - (i + 1) < n - i; omega)
    · have g_4 := k_bool1 hw_3 c_4
      refine lv_aload_n hx hb dX1_repeatRequests_22 rfl (lv_at hl 0 rfl) ?_
      refine va_get (D := G) (ci := 1) (v := .int bu1) (C := RX1) (T := TX1) (N := 10) hx hb hts hi_X1_repeatRequests_X1 hown hK hP 0 rfl rfl 9 (by decide) (hts _ hk_X1_repeatRequests_f33) (fun _ h9 => h9) rfl dX1_repeatRequests_23 ?_
      refine lv_bipush (v := nI 10) hx hb dX1_repeatRequests_26 (by decide +kernel) ?_
      refine lv_icmp_lt (tgt := 48) hx hb dX1_repeatRequests_28 (by decide) (fun c_5 => ?_) (fun c_5 => ?_)
      · skip
        refine lv_iinc (v := nI (i + 1)) (lv' := [(2, .int (nI (i + 1))), (0, .ref (a 0)), (1, .int tm)]) hx hb dX1_repeatRequests_48 hl (k := 2) rfl (nI_1 _) (by decide) rfl (fun ls hl => ?_)
        refine lv_goto (tgt := 2) hx hb dX1_repeatRequests_51 (by decide) ?_
        have n_hi : (i + 1) ≤ n := by omega
        have n_hf1 : fi1 < 40 := by omega
        have n_hs1 : sz1 ≤ 40 := by omega
        have n_hv : it (k_rep1 tm) (n - (i + 1)) (i + 1) (((pa1, oc1, cv1, rq1, la1, rc1, su1, bu1), (ki1, ow1, mr1, va1, fi1, sz1)) : CalS × LaneS) = k_rep n tm (pa, oc, cv, rq, la, rc, su, bu) (ki, ow, mr, va, fi, sz) := by (have e1 : k_rep1 tm i (((pa1, oc1, cv1, rq1, la1, rc1, su1, bu1), (ki1, ow1, mr1, va1, fi1, sz1)) : CalS × LaneS) = ((pa1, oc1, cv1, rq1, la1, rc1, su1, bu1), (ki1, ow1, mr1, va1, fi1, sz1)) := by simp only [k_rep1, ↓reduceIte, eq_self, nI_10, and_true, true_and, and_false, false_and, not_true_eq_false, not_false_eq_true, Bool.and_true, Bool.true_and, Bool.and_false, Bool.false_and, decide_true, decide_false, Bool.false_eq_true, eq_false g_2, eq_true g_4, eq_true c_5]); rw [← hv]; exact ((it_step (by omega)).trans (congrArg _ e1)).symm
        exact ih (i + 1, pa1, oc1, cv1, rq1, la1, rc1, su1, bu1, ki1, ow1, mr1, va1, fi1, sz1) H locs ls ⟨n_hi, n_hf1, n_hs1, n_hv, hP, hD, hS, lv_sub hl [1, 2, 0] rfl⟩ (by show n - (i + 1) < n - i; omega)
      · skip
        refine lv_aload_n hx hb dX1_repeatRequests_31 rfl (lv_at hl 0 rfl) ?_
        refine lv_dup hx hb dX1_repeatRequests_32 rfl ?_
        refine va_get (D := G) (ci := 1) (v := .int bu1) (C := RX1) (T := TX1) (N := 10) hx hb hts hi_X1_repeatRequests_X1 hown hK hP 0 rfl rfl 9 (by decide) (hts _ hk_X1_repeatRequests_f33) (fun _ h9 => h9) rfl dX1_repeatRequests_33 ?_
        refine lv_bipush (v := nI 10) hx hb dX1_repeatRequests_36 (by decide +kernel) ?_
        refine lv_isub hx hb dX1_repeatRequests_38 ?_
        refine va_put (D := G) (ci := 1) (v := .int (bu1 - nI 10)) (ty := .int) (C := RX1) (T := TX1) (N := 10) hx hb hts hi_X1_repeatRequests_X1 tyX1 tyX1_ok nmX1 hown hK hP hD hS 0 rfl rfl 9 (by decide) (hts _ hk_X1_repeatRequests_f33) (fun _ h9 => h9) rfl (by decide +kernel) rfl rfl (Nat.le_of_ble_eq_true rfl) dX1_repeatRequests_39 (fun H locs hP hD hS => ?_)
        have hP : va_P G vwCl [(a 0, .inr (1, [.ref (b 0), .ref (d 0), .ref (a 1), .ref (a 2), .ref (a 3), .ref (a 4), .ref (a 5), .ref (a 6), .ref (a 7), .int (bu1 - nI 10)])), (a 1, .inl (cI, 40, .inl pa1)), (a 2, .inl (cI, 40, .inl oc1)), (a 3, .inl (cI, 40, .inl cv1)), (a 4, .inl (cI, 40, .inl rq1)), (a 5, .inl (cI, 40, .inl la1)), (a 6, .inl (cI, 40, .inl rc1)), (a 7, .inl (cI, 40, .inl su1)), (b 0, .inr (0, [.ref (b 1), .ref (b 2), .ref (b 3), .int (nI n)])), (b 1, .inl (cI, 40, .inl me)), (b 2, .inl (cI, 40, .inl ar)), (b 3, .inl (cI, 40, .inl dl)), (d 0, .inr (2, [.ref (d 1), .ref (d 2), .ref (d 3), .ref (d 4), .int (nI fi1), .int (nI sz1)])), (d 1, .inl (cI, 40, .inl ki1)), (d 2, .inl (cI, 40, .inl ow1)), (d 3, .inl (cI, 40, .inl mr1)), (d 4, .inl (cI, 40, .inl va1))] H := hP
        have hD : va_D A [(a 0, .inr (1, [.ref (b 0), .ref (d 0), .ref (a 1), .ref (a 2), .ref (a 3), .ref (a 4), .ref (a 5), .ref (a 6), .ref (a 7), .int (bu1 - nI 10)])), (a 1, .inl (cI, 40, .inl pa1)), (a 2, .inl (cI, 40, .inl oc1)), (a 3, .inl (cI, 40, .inl cv1)), (a 4, .inl (cI, 40, .inl rq1)), (a 5, .inl (cI, 40, .inl la1)), (a 6, .inl (cI, 40, .inl rc1)), (a 7, .inl (cI, 40, .inl su1)), (b 0, .inr (0, [.ref (b 1), .ref (b 2), .ref (b 3), .int (nI n)])), (b 1, .inl (cI, 40, .inl me)), (b 2, .inl (cI, 40, .inl ar)), (b 3, .inl (cI, 40, .inl dl)), (d 0, .inr (2, [.ref (d 1), .ref (d 2), .ref (d 3), .ref (d 4), .int (nI fi1), .int (nI sz1)])), (d 1, .inl (cI, 40, .inl ki1)), (d 2, .inl (cI, 40, .inl ow1)), (d 3, .inl (cI, 40, .inl mr1)), (d 4, .inl (cI, 40, .inl va1))] := hD
        refine lv_aload_n hx hb dX1_repeatRequests_42 rfl (lv_at hl 0 rfl) ?_
        refine lv_iload_n hx hb dX1_repeatRequests_43 rfl (lv_at hl 2 rfl) ?_
        refine lv_iload_n hx hb dX1_repeatRequests_44 rfl (lv_at hl 1 rfl) ?_
        refine k_callv (S := CalS × LaneS) (wc := [(a 0, .inr (1, [.ref (b 0), .ref (d 0), .ref (a 1), .ref (a 2), .ref (a 3), .ref (a 4), .ref (a 5), .ref (a 6), .ref (a 7), .int (bu1 - nI 10)])), (a 1, .inl (cI, 40, .inl pa1)), (a 2, .inl (cI, 40, .inl oc1)), (a 3, .inl (cI, 40, .inl cv1)), (a 4, .inl (cI, 40, .inl rq1)), (a 5, .inl (cI, 40, .inl la1)), (a 6, .inl (cI, 40, .inl rc1)), (a 7, .inl (cI, 40, .inl su1)), (b 0, .inr (0, [.ref (b 1), .ref (b 2), .ref (b 3), .int (nI n)])), (b 1, .inl (cI, 40, .inl me)), (b 2, .inl (cI, 40, .inl ar)), (b 3, .inl (cI, 40, .inl dl)), (d 0, .inr (2, [.ref (d 1), .ref (d 2), .ref (d 3), .ref (d 4), .int (nI fi1), .int (nI sz1)])), (d 1, .inl (cI, 40, .inl ki1)), (d 2, .inl (cI, 40, .inl ow1)), (d 3, .inl (cI, 40, .inl mr1)), (d 4, .inl (cI, 40, .inl va1))]) (wr := []) (w1 := fun u => [(a 0, .inr (1, [.ref (b 0), .ref (d 0), .ref (a 1), .ref (a 2), .ref (a 3), .ref (a 4), .ref (a 5), .ref (a 6), .ref (a 7), .int u.1.2.2.2.2.2.2.2])), (a 1, .inl (cI, 40, .inl u.1.1)), (a 2, .inl (cI, 40, .inl u.1.2.1)), (a 3, .inl (cI, 40, .inl u.1.2.2.1)), (a 4, .inl (cI, 40, .inl u.1.2.2.2.1)), (a 5, .inl (cI, 40, .inl u.1.2.2.2.2.1)), (a 6, .inl (cI, 40, .inl u.1.2.2.2.2.2.1)), (a 7, .inl (cI, 40, .inl u.1.2.2.2.2.2.2.1)), (b 0, .inr (0, [.ref (b 1), .ref (b 2), .ref (b 3), .int (nI n)])), (b 1, .inl (cI, 40, .inl me)), (b 2, .inl (cI, 40, .inl ar)), (b 3, .inl (cI, 40, .inl dl)), (d 0, .inr (2, [.ref (d 1), .ref (d 2), .ref (d 3), .ref (d 4), .int (nI u.2.2.2.2.2.1), .int (nI u.2.2.2.2.2.2)])), (d 1, .inl (cI, 40, .inl u.2.1)), (d 2, .inl (cI, 40, .inl u.2.2.1)), (d 3, .inl (cI, 40, .inl u.2.2.2.1)), (d 4, .inl (cI, 40, .inl u.2.2.2.2.1))]) (w2 := fun u => [(a 0, .inr (1, [.ref (b 0), .ref (d 0), .ref (a 1), .ref (a 2), .ref (a 3), .ref (a 4), .ref (a 5), .ref (a 6), .ref (a 7), .int u.1.2.2.2.2.2.2.2])), (a 1, .inl (cI, 40, .inl u.1.1)), (a 2, .inl (cI, 40, .inl u.1.2.1)), (a 3, .inl (cI, 40, .inl u.1.2.2.1)), (a 4, .inl (cI, 40, .inl u.1.2.2.2.1)), (a 5, .inl (cI, 40, .inl u.1.2.2.2.2.1)), (a 6, .inl (cI, 40, .inl u.1.2.2.2.2.2.1)), (a 7, .inl (cI, 40, .inl u.1.2.2.2.2.2.2.1)), (b 0, .inr (0, [.ref (b 1), .ref (b 2), .ref (b 3), .int (nI n)])), (b 1, .inl (cI, 40, .inl me)), (b 2, .inl (cI, 40, .inl ar)), (b 3, .inl (cI, 40, .inl dl)), (d 0, .inr (2, [.ref (d 1), .ref (d 2), .ref (d 3), .ref (d 4), .int (nI u.2.2.2.2.2.1), .int (nI u.2.2.2.2.2.2)])), (d 1, .inl (cI, 40, .inl u.2.1)), (d 2, .inl (cI, 40, .inl u.2.2.1)), (d 3, .inl (cI, 40, .inl u.2.2.2.1)), (d 4, .inl (cI, 40, .inl u.2.2.2.2.1))]) (va_runV (As := [.int (nI i), .int tm]) (rest := []) ⟨hx, hb, hml, hown, hts⟩ (c_X1_sendRequest l G cI a b d pa1 oc1 cv1 rq1 la1 rc1 su1 (bu1 - nI 10) me ar dl n ki1 ow1 mr1 va1 fi1 sz1 i tm (by first | omega | assumption) (by first | omega | assumption) (by first | omega | assumption) (by first | omega | assumption) H.size) (cwV 2 hts gX1_repeatRequests_X1_sendRequest rfl rfl rfl (by decide +kernel) ⟨Nat.le_of_ble_eq_true rfl, Nat.le_of_ble_eq_true rfl⟩) ⟨kPre.blind, va_recv hK hP (ci := 1) (q0 := 0) rfl rfl, kPre.at hP hK hD hS hA hN [0, 1, 2, 3, 4, 5, 6, 7, 8, 9, 10, 11, 12, 13, 14, 15, 16] rfl rfl⟩ rfl rfl hl.1 rfl (lv_room (Nat.le_of_ble_eq_true rfl)) dX1_repeatRequests_45 ⟨Nat.le_of_ble_eq_true rfl, Nat.le_of_ble_eq_true rfl⟩) hP hD hS hA [0, 1, 2, 3, 4, 5, 6, 7, 8, 9, 10, 11, 12, 13, 14, 15, 16] [] [0, 1, 2, 3, 4, 5, 6, 7, 8, 9, 10, 11, 12, 13, 14, 15, 16] rfl rfl ⟨rfl, by decide, rfl⟩ (fun _ => rfl) (fun u H locs hw_6 hP hD hS => ?_)
        obtain ⟨⟨pa_6, oc_6, cv_6, rq_6, la_6, rc_6, su_6, bu_6⟩, ⟨ki_6, ow_6, mr_6, va_6, fi_6, sz_6⟩⟩ := u
        obtain ⟨hw_6, hf_6, hs_6⟩ := hw_6
        have hf_6 : fi_6 < 40 := hf_6
        have hs_6 : sz_6 ≤ 40 := hs_6
        have hw_6 : (((pa_6, oc_6, cv_6, rq_6, la_6, rc_6, su_6, bu_6), (ki_6, ow_6, mr_6, va_6, fi_6, sz_6)) : CalS × LaneS) = k_req (pa1, oc1, cv1, rq1, la1, rc1, su1, (bu1 - nI 10)) (ki1, ow1, mr1, va1, fi1, sz1) i tm := hw_6
        have hP : va_P G vwCl [(a 0, .inr (1, [.ref (b 0), .ref (d 0), .ref (a 1), .ref (a 2), .ref (a 3), .ref (a 4), .ref (a 5), .ref (a 6), .ref (a 7), .int bu_6])), (a 1, .inl (cI, 40, .inl pa_6)), (a 2, .inl (cI, 40, .inl oc_6)), (a 3, .inl (cI, 40, .inl cv_6)), (a 4, .inl (cI, 40, .inl rq_6)), (a 5, .inl (cI, 40, .inl la_6)), (a 6, .inl (cI, 40, .inl rc_6)), (a 7, .inl (cI, 40, .inl su_6)), (b 0, .inr (0, [.ref (b 1), .ref (b 2), .ref (b 3), .int (nI n)])), (b 1, .inl (cI, 40, .inl me)), (b 2, .inl (cI, 40, .inl ar)), (b 3, .inl (cI, 40, .inl dl)), (d 0, .inr (2, [.ref (d 1), .ref (d 2), .ref (d 3), .ref (d 4), .int (nI fi_6), .int (nI sz_6)])), (d 1, .inl (cI, 40, .inl ki_6)), (d 2, .inl (cI, 40, .inl ow_6)), (d 3, .inl (cI, 40, .inl mr_6)), (d 4, .inl (cI, 40, .inl va_6))] H := hP
        have hD : va_D A [(a 0, .inr (1, [.ref (b 0), .ref (d 0), .ref (a 1), .ref (a 2), .ref (a 3), .ref (a 4), .ref (a 5), .ref (a 6), .ref (a 7), .int bu_6])), (a 1, .inl (cI, 40, .inl pa_6)), (a 2, .inl (cI, 40, .inl oc_6)), (a 3, .inl (cI, 40, .inl cv_6)), (a 4, .inl (cI, 40, .inl rq_6)), (a 5, .inl (cI, 40, .inl la_6)), (a 6, .inl (cI, 40, .inl rc_6)), (a 7, .inl (cI, 40, .inl su_6)), (b 0, .inr (0, [.ref (b 1), .ref (b 2), .ref (b 3), .int (nI n)])), (b 1, .inl (cI, 40, .inl me)), (b 2, .inl (cI, 40, .inl ar)), (b 3, .inl (cI, 40, .inl dl)), (d 0, .inr (2, [.ref (d 1), .ref (d 2), .ref (d 3), .ref (d 4), .int (nI fi_6), .int (nI sz_6)])), (d 1, .inl (cI, 40, .inl ki_6)), (d 2, .inl (cI, 40, .inl ow_6)), (d 3, .inl (cI, 40, .inl mr_6)), (d 4, .inl (cI, 40, .inl va_6))] := hD
        refine lv_iinc (v := nI (i + 1)) (lv' := [(2, .int (nI (i + 1))), (0, .ref (a 0)), (1, .int tm)]) hx hb dX1_repeatRequests_48 hl (k := 2) rfl (nI_1 _) (by decide) rfl (fun ls hl => ?_)
        refine lv_goto (tgt := 2) hx hb dX1_repeatRequests_51 (by decide) ?_
        have n_hi : (i + 1) ≤ n := by omega
        have n_hf1 : fi_6 < 40 := by omega
        have n_hs1 : sz_6 ≤ 40 := by omega
        have n_hv : it (k_rep1 tm) (n - (i + 1)) (i + 1) (((pa_6, oc_6, cv_6, rq_6, la_6, rc_6, su_6, bu_6), (ki_6, ow_6, mr_6, va_6, fi_6, sz_6)) : CalS × LaneS) = k_rep n tm (pa, oc, cv, rq, la, rc, su, bu) (ki, ow, mr, va, fi, sz) := by (have e1 : k_rep1 tm i (((pa1, oc1, cv1, rq1, la1, rc1, su1, bu1), (ki1, ow1, mr1, va1, fi1, sz1)) : CalS × LaneS) = ((pa_6, oc_6, cv_6, rq_6, la_6, rc_6, su_6, bu_6), (ki_6, ow_6, mr_6, va_6, fi_6, sz_6)) := by simp only [k_rep1, ↓reduceIte, eq_self, nI_10, and_true, true_and, and_false, false_and, not_true_eq_false, not_false_eq_true, Bool.and_true, Bool.true_and, Bool.and_false, Bool.false_and, decide_true, decide_false, Bool.false_eq_true, eq_false g_2, eq_true g_4, eq_false c_5, ← hw_6]); rw [← hv]; exact ((it_step (by omega)).trans (congrArg _ e1)).symm
        exact ih (i + 1, pa_6, oc_6, cv_6, rq_6, la_6, rc_6, su_6, bu_6, ki_6, ow_6, mr_6, va_6, fi_6, sz_6) H locs ls ⟨n_hi, n_hf1, n_hs1, n_hv, hP, hD, hS, lv_sub hl [1, 2, 0] rfl⟩ (by show n - (i + 1) < n - i; omega)
end
section

theorem hk_X3_sendAnswer_f31 : (.fieldLink RX3 31 "Callgate$Server" "toCaller" "LCallgate$Lane;" : Cond) ∈ wsX3_sendAnswer := by decide +kernel
theorem hi_X3_sendAnswer_X3 : ∀ w ∈ u_ws RX3 TX3 8, w ∈ wsX3_sendAnswer := by decide +kernel
theorem hk_X3_sendAnswer_f21 : (.fieldLink RX3 21 "Callgate$Server" "results" "[I" : Cond) ∈ wsX3_sendAnswer := by decide +kernel
theorem hk_X3_sendAnswer_f24 : (.fieldLink RX3 24 "Callgate$Server" "values" "[I" : Cond) ∈ wsX3_sendAnswer := by decide +kernel
theorem hk_X3_sendAnswer_iX2 : (.initialized RX2 : Cond) ∈ wsX3_sendAnswer := by decide +kernel
theorem hk_X3_sendAnswer_nX2_send : (.instanceMethod yX2_send : Cond) ∈ wsX3_sendAnswer := by decide +kernel
theorem hk_X3_sendAnswer_sX2_send : (.selects RX2 yX2_send yX2_send : Cond) ∈ wsX3_sendAnswer := by decide +kernel
set_option maxHeartbeats 4000000 in
set_option maxRecDepth 100000 in
theorem c_X3_sendAnswer (l : Launch) (G : va_G) (cI : ClassId) (a b d : Nat → Nat) (ss : Fn) (cr : Fn) (se : Fn) (re : Fn) (sv : Fn) (ad : Int32) (me : Fn) (ar : Fn) (dl : Fn) (n : Nat) (ki : Fn) (ow : Fn) (mr : Fn) (va : Fn) (fi : Nat) (sz : Nat) (k : Nat) (hk : k < 40) (hn : n ≤ 40) (hf : fi < 40) (hs : sz ≤ 40) (zz : Nat) : Met l yX3_sendAnswer wsX3_sendAnswer ({ frames := 3, cells := 0, slots := 0, locals := 68 }) (va_Pc [.ref (a 0), .int (nI k)] (kPre G cI [(a 0, .inr (3, [.ref (b 0), .ref (d 0), .ref (a 1), .ref (a 2), .ref (a 3), .ref (a 4), .ref (a 5), .int ad])), (a 1, .inl (cI, 40, .inl ss)), (a 2, .inl (cI, 40, .inl cr)), (a 3, .inl (cI, 40, .inl se)), (a 4, .inl (cI, 40, .inl re)), (a 5, .inl (cI, 40, .inl sv)), (b 0, .inr (0, [.ref (b 1), .ref (b 2), .ref (b 3), .int (nI n)])), (b 1, .inl (cI, 40, .inl me)), (b 2, .inl (cI, 40, .inl ar)), (b 3, .inl (cI, 40, .inl dl)), (d 0, .inr (2, [.ref (d 1), .ref (d 2), .ref (d 3), .ref (d 4), .int (nI fi), .int (nI sz)])), (d 1, .inl (cI, 40, .inl ki)), (d 2, .inl (cI, 40, .inl ow)), (d 3, .inl (cI, 40, .inl mr)), (d 4, .inl (cI, 40, .inl va))] zz)) (va_Qv (fun (u : LaneS) => (u = s_sendA (ss, cr, se, re, sv, ad) (ki, ow, mr, va, fi, sz) k) ∧ u.2.2.2.2.1 < 40 ∧ u.2.2.2.2.2 ≤ 40) (fun (u : LaneS) t => kQ G [(a 0, .inr (3, [.ref (b 0), .ref (d 0), .ref (a 1), .ref (a 2), .ref (a 3), .ref (a 4), .ref (a 5), .int ad])), (a 1, .inl (cI, 40, .inl ss)), (a 2, .inl (cI, 40, .inl cr)), (a 3, .inl (cI, 40, .inl se)), (a 4, .inl (cI, 40, .inl re)), (a 5, .inl (cI, 40, .inl sv)), (b 0, .inr (0, [.ref (b 1), .ref (b 2), .ref (b 3), .int (nI n)])), (b 1, .inl (cI, 40, .inl me)), (b 2, .inl (cI, 40, .inl ar)), (b 3, .inl (cI, 40, .inl dl)), (d 0, .inr (2, [.ref (d 1), .ref (d 2), .ref (d 3), .ref (d 4), .int (nI u.2.2.2.2.1), .int (nI u.2.2.2.2.2)])), (d 1, .inl (cI, 40, .inl u.1)), (d 2, .inl (cI, 40, .inl u.2.1)), (d 3, .inl (cI, 40, .inl u.2.2.1)), (d 4, .inl (cI, 40, .inl u.2.2.2.1))] (va_A [(a 0, .inr (3, [.ref (b 0), .ref (d 0), .ref (a 1), .ref (a 2), .ref (a 3), .ref (a 4), .ref (a 5), .int ad])), (a 1, .inl (cI, 40, .inl ss)), (a 2, .inl (cI, 40, .inl cr)), (a 3, .inl (cI, 40, .inl se)), (a 4, .inl (cI, 40, .inl re)), (a 5, .inl (cI, 40, .inl sv)), (b 0, .inr (0, [.ref (b 1), .ref (b 2), .ref (b 3), .int (nI n)])), (b 1, .inl (cI, 40, .inl me)), (b 2, .inl (cI, 40, .inl ar)), (b 3, .inl (cI, 40, .inl dl)), (d 0, .inr (2, [.ref (d 1), .ref (d 2), .ref (d 3), .ref (d 4), .int (nI fi), .int (nI sz)])), (d 1, .inl (cI, 40, .inl ki)), (d 2, .inl (cI, 40, .inl ow)), (d 3, .inl (cI, 40, .inl mr)), (d 4, .inl (cI, 40, .inl va))] zz) t) (va_A [(a 0, .inr (3, [.ref (b 0), .ref (d 0), .ref (a 1), .ref (a 2), .ref (a 3), .ref (a 4), .ref (a 5), .int ad])), (a 1, .inl (cI, 40, .inl ss)), (a 2, .inl (cI, 40, .inl cr)), (a 3, .inl (cI, 40, .inl se)), (a 4, .inl (cI, 40, .inl re)), (a 5, .inl (cI, 40, .inl sv)), (b 0, .inr (0, [.ref (b 1), .ref (b 2), .ref (b 3), .int (nI n)])), (b 1, .inl (cI, 40, .inl me)), (b 2, .inl (cI, 40, .inl ar)), (b 3, .inl (cI, 40, .inl dl)), (d 0, .inr (2, [.ref (d 1), .ref (d 2), .ref (d 3), .ref (d 4), .int (nI fi), .int (nI sz)])), (d 1, .inl (cI, 40, .inl ki)), (d 2, .inl (cI, 40, .inl ow)), (d 3, .inl (cI, 40, .inl mr)), (d 4, .inl (cI, 40, .inl va))] zz)) 0 0 (va_A [(a 0, .inr (3, [.ref (b 0), .ref (d 0), .ref (a 1), .ref (a 2), .ref (a 3), .ref (a 4), .ref (a 5), .int ad])), (a 1, .inl (cI, 40, .inl ss)), (a 2, .inl (cI, 40, .inl cr)), (a 3, .inl (cI, 40, .inl se)), (a 4, .inl (cI, 40, .inl re)), (a 5, .inl (cI, 40, .inl sv)), (b 0, .inr (0, [.ref (b 1), .ref (b 2), .ref (b 3), .int (nI n)])), (b 1, .inl (cI, 40, .inl me)), (b 2, .inl (cI, 40, .inl ar)), (b 3, .inl (cI, 40, .inl dl)), (d 0, .inr (2, [.ref (d 1), .ref (d 2), .ref (d 3), .ref (d 4), .int (nI fi), .int (nI sz)])), (d 1, .inl (cI, 40, .inl ki)), (d 2, .inl (cI, 40, .inl ow)), (d 3, .inl (cI, 40, .inl mr)), (d 4, .inl (cI, 40, .inl va))] zz) := by
  refine Met.ofW (cc := cX3_sendAnswer) (maxL := 2) (ret := none) (by decide) rfl ?_
  intro p e s m args below meth c s₁ B hml hv
  obtain ⟨rfl, hsz, hP, hK, hD0, hN⟩ := hv
  have hx := B.exec
  have hb := B.bytes
  have hr := B.returns
  have hts := atoms_spec (ws := wsX3_sendAnswer) B.pre
  have hown : s.vm.findClass RX3 = some m.cls := findClass_of_methodNamed B.named
  have hlocks := B.notSynchronized
  subst hsz
  have hD := hD0.self (sz := s.heap.size)
  generalize hAe : va_A [(a 0, .inr (3, [.ref (b 0), .ref (d 0), .ref (a 1), .ref (a 2), .ref (a 3), .ref (a 4), .ref (a 5), .int ad])), (a 1, .inl (cI, 40, .inl ss)), (a 2, .inl (cI, 40, .inl cr)), (a 3, .inl (cI, 40, .inl se)), (a 4, .inl (cI, 40, .inl re)), (a 5, .inl (cI, 40, .inl sv)), (b 0, .inr (0, [.ref (b 1), .ref (b 2), .ref (b 3), .int (nI n)])), (b 1, .inl (cI, 40, .inl me)), (b 2, .inl (cI, 40, .inl ar)), (b 3, .inl (cI, 40, .inl dl)), (d 0, .inr (2, [.ref (d 1), .ref (d 2), .ref (d 3), .ref (d 4), .int (nI fi), .int (nI sz)])), (d 1, .inl (cI, 40, .inl ki)), (d 2, .inl (cI, 40, .inl ow)), (d 3, .inl (cI, 40, .inl mr)), (d 4, .inl (cI, 40, .inl va))] s.heap.size = A at hD hN ⊢
  have hA : ∀ q : Nat, s.heap.size ≤ q → A q := fun q h => by rw [← hAe]; exact Or.inr h
  have hS : va_S A s.heap s.heap [] := va_S.rf
  have hl := lv_entry ([.ref (a 0), .int (nI k)]) (n := 2) (Nat.le_of_ble_eq_true rfl)
  rw [lg_entry_eq]
  generalize (lg_sl ([.ref (a 0), .int (nI k)]) ++ List.replicate (2 - (lg_sl ([.ref (a 0), .int (nI k)])).length) Slot.unset).toArray = ls at hl ⊢
  have hl : lv_has ls 2 [(0, .ref (a 0)), (1, .int (nI k))] := hl
  have hP : va_P G vwCl [(a 0, .inr (3, [.ref (b 0), .ref (d 0), .ref (a 1), .ref (a 2), .ref (a 3), .ref (a 4), .ref (a 5), .int ad])), (a 1, .inl (cI, 40, .inl ss)), (a 2, .inl (cI, 40, .inl cr)), (a 3, .inl (cI, 40, .inl se)), (a 4, .inl (cI, 40, .inl re)), (a 5, .inl (cI, 40, .inl sv)), (b 0, .inr (0, [.ref (b 1), .ref (b 2), .ref (b 3), .int (nI n)])), (b 1, .inl (cI, 40, .inl me)), (b 2, .inl (cI, 40, .inl ar)), (b 3, .inl (cI, 40, .inl dl)), (d 0, .inr (2, [.ref (d 1), .ref (d 2), .ref (d 3), .ref (d 4), .int (nI fi), .int (nI sz)])), (d 1, .inl (cI, 40, .inl ki)), (d 2, .inl (cI, 40, .inl ow)), (d 3, .inl (cI, 40, .inl mr)), (d 4, .inl (cI, 40, .inl va))] s.heap := hP
  obtain ⟨H, hH⟩ : ∃ H, H = s.heap := ⟨_, rfl⟩
  rw [← hH] at hP
  have hS : va_S A s.heap H [] := by rw [hH]; exact hS
  show W _ _ _ _ _ _ _ _ _ _ s.heap _ _ _ _ _
  rw [← hH]
  obtain ⟨locs, hlo⟩ : ∃ z : List Loc, z = [] := ⟨_, rfl⟩
  rw [← hlo] at hS ⊢
  refine lv_aload_n hx hb dX3_sendAnswer_0 rfl (lv_at hl 0 rfl) ?_
  refine va_get (D := G) (ci := 3) (v := .ref (d 0)) (C := RX3) (T := TX3) (N := 8) hx hb hts hi_X3_sendAnswer_X3 hown hK hP 0 rfl rfl 1 (by decide) (hts _ hk_X3_sendAnswer_f31) (fun _ h9 => h9) rfl dX3_sendAnswer_1 ?_
  refine lv_iconst (v := nI 3) hx hb dX3_sendAnswer_4 (by decide +kernel) ?_
  refine lv_iload_n hx hb dX3_sendAnswer_5 rfl (lv_at hl 1 rfl) ?_
  refine lv_aload_n hx hb dX3_sendAnswer_6 rfl (lv_at hl 0 rfl) ?_
  refine va_get (D := G) (ci := 3) (v := .ref (a 4)) (C := RX3) (T := TX3) (N := 8) hx hb hts hi_X3_sendAnswer_X3 hown hK hP 0 rfl rfl 5 (by decide) (hts _ hk_X3_sendAnswer_f21) (fun _ h9 => h9) rfl dX3_sendAnswer_7 ?_
  refine lv_iload_n hx hb dX3_sendAnswer_10 rfl (lv_at hl 1 rfl) ?_
  refine gz_iald hx hb hK hP 4 rfl rfl (k := k) rfl (by omega) (by decide) dX3_sendAnswer_11 ?_
  refine lv_aload_n hx hb dX3_sendAnswer_12 rfl (lv_at hl 0 rfl) ?_
  refine va_get (D := G) (ci := 3) (v := .ref (a 5)) (C := RX3) (T := TX3) (N := 8) hx hb hts hi_X3_sendAnswer_X3 hown hK hP 0 rfl rfl 6 (by decide) (hts _ hk_X3_sendAnswer_f24) (fun _ h9 => h9) rfl dX3_sendAnswer_13 ?_
  refine lv_iload_n hx hb dX3_sendAnswer_16 rfl (lv_at hl 1 rfl) ?_
  refine gz_iald hx hb hK hP 5 rfl rfl (k := k) rfl (by omega) (by decide) dX3_sendAnswer_17 ?_
  refine k_callv (S := Fn × Fn × Fn × Fn × Nat × Nat) (wc := [(d 0, .inr (2, [.ref (d 1), .ref (d 2), .ref (d 3), .ref (d 4), .int (nI fi), .int (nI sz)])), (d 1, .inl (cI, 40, .inl ki)), (d 2, .inl (cI, 40, .inl ow)), (d 3, .inl (cI, 40, .inl mr)), (d 4, .inl (cI, 40, .inl va))]) (wr := [(a 0, .inr (3, [.ref (b 0), .ref (d 0), .ref (a 1), .ref (a 2), .ref (a 3), .ref (a 4), .ref (a 5), .int ad])), (a 1, .inl (cI, 40, .inl ss)), (a 2, .inl (cI, 40, .inl cr)), (a 3, .inl (cI, 40, .inl se)), (a 4, .inl (cI, 40, .inl re)), (a 5, .inl (cI, 40, .inl sv)), (b 0, .inr (0, [.ref (b 1), .ref (b 2), .ref (b 3), .int (nI n)])), (b 1, .inl (cI, 40, .inl me)), (b 2, .inl (cI, 40, .inl ar)), (b 3, .inl (cI, 40, .inl dl))]) (w1 := fun u => [(d 0, .inr (2, [.ref (d 1), .ref (d 2), .ref (d 3), .ref (d 4), .int (nI u.2.2.2.2.1), .int (nI u.2.2.2.2.2)])), (d 1, .inl (cI, 40, .inl u.1)), (d 2, .inl (cI, 40, .inl u.2.1)), (d 3, .inl (cI, 40, .inl u.2.2.1)), (d 4, .inl (cI, 40, .inl u.2.2.2.1))]) (w2 := fun u => [(a 0, .inr (3, [.ref (b 0), .ref (d 0), .ref (a 1), .ref (a 2), .ref (a 3), .ref (a 4), .ref (a 5), .int ad])), (a 1, .inl (cI, 40, .inl ss)), (a 2, .inl (cI, 40, .inl cr)), (a 3, .inl (cI, 40, .inl se)), (a 4, .inl (cI, 40, .inl re)), (a 5, .inl (cI, 40, .inl sv)), (b 0, .inr (0, [.ref (b 1), .ref (b 2), .ref (b 3), .int (nI n)])), (b 1, .inl (cI, 40, .inl me)), (b 2, .inl (cI, 40, .inl ar)), (b 3, .inl (cI, 40, .inl dl)), (d 0, .inr (2, [.ref (d 1), .ref (d 2), .ref (d 3), .ref (d 4), .int (nI u.2.2.2.2.1), .int (nI u.2.2.2.2.2)])), (d 1, .inl (cI, 40, .inl u.1)), (d 2, .inl (cI, 40, .inl u.2.1)), (d 3, .inl (cI, 40, .inl u.2.2.1)), (d 4, .inl (cI, 40, .inl u.2.2.2.1))]) (va_runVN (As := [.int (nI 3), .int (nI k), .int (re k), .int (sv k)]) (rest := []) ⟨hx, hb, hml, hown, hts⟩ (c_X2_send l G cI d ki ow mr va fi sz (nI 3) (nI k) (re k) (sv k) (by first | omega | assumption) (by first | omega | assumption) H.size) ⟨va_cnB (host := RX4) 4 hts gX3_sendAnswer_X2_send_n72 rfl rfl rfl (hN.1 _ (List.mem_of_getElem? (i := 36) rfl)) (hts _ hk_X3_sendAnswer_iX2) (by decide +kernel) ⟨Nat.le_of_ble_eq_true rfl, Nat.le_of_ble_eq_true rfl⟩, (hts _ hk_X3_sendAnswer_nX2_send), (hts _ hk_X3_sendAnswer_sX2_send)⟩ ⟨kPre.blind, va_recv hK hP (ci := 2) (q0 := 10) rfl rfl, kPre.at hP hK hD hS hA hN [10, 11, 12, 13, 14] rfl rfl⟩ rfl rfl hl.1 rfl (lv_room (Nat.le_of_ble_eq_true rfl)) dX3_sendAnswer_18 ⟨Nat.le_of_ble_eq_true rfl, Nat.le_of_ble_eq_true rfl⟩) hP hD hS hA [10, 11, 12, 13, 14] [0, 1, 2, 3, 4, 5, 6, 7, 8, 9] [0, 1, 2, 3, 4, 5, 6, 7, 8, 9, 10, 11, 12, 13, 14] rfl rfl ⟨rfl, by decide, rfl⟩ (fun _ => rfl) (fun u H locs hw_1 hP hD hS => ?_)
  obtain ⟨ki_1, ow_1, mr_1, va_1, fi_1, sz_1⟩ := u
  obtain ⟨hw_1, hf_1, hs_1⟩ := hw_1
  have hf_1 : fi_1 < 40 := hf_1
  have hs_1 : sz_1 ≤ 40 := hs_1
  have hw_1 : ((ki_1, ow_1, mr_1, va_1, fi_1, sz_1) : Fn × Fn × Fn × Fn × Nat × Nat) = l_send (ki, ow, mr, va, fi, sz) (nI 3) (nI k) (re k) (sv k) := hw_1
  have hP : va_P G vwCl [(a 0, .inr (3, [.ref (b 0), .ref (d 0), .ref (a 1), .ref (a 2), .ref (a 3), .ref (a 4), .ref (a 5), .int ad])), (a 1, .inl (cI, 40, .inl ss)), (a 2, .inl (cI, 40, .inl cr)), (a 3, .inl (cI, 40, .inl se)), (a 4, .inl (cI, 40, .inl re)), (a 5, .inl (cI, 40, .inl sv)), (b 0, .inr (0, [.ref (b 1), .ref (b 2), .ref (b 3), .int (nI n)])), (b 1, .inl (cI, 40, .inl me)), (b 2, .inl (cI, 40, .inl ar)), (b 3, .inl (cI, 40, .inl dl)), (d 0, .inr (2, [.ref (d 1), .ref (d 2), .ref (d 3), .ref (d 4), .int (nI fi_1), .int (nI sz_1)])), (d 1, .inl (cI, 40, .inl ki_1)), (d 2, .inl (cI, 40, .inl ow_1)), (d 3, .inl (cI, 40, .inl mr_1)), (d 4, .inl (cI, 40, .inl va_1))] H := hP
  have hD : va_D A [(a 0, .inr (3, [.ref (b 0), .ref (d 0), .ref (a 1), .ref (a 2), .ref (a 3), .ref (a 4), .ref (a 5), .int ad])), (a 1, .inl (cI, 40, .inl ss)), (a 2, .inl (cI, 40, .inl cr)), (a 3, .inl (cI, 40, .inl se)), (a 4, .inl (cI, 40, .inl re)), (a 5, .inl (cI, 40, .inl sv)), (b 0, .inr (0, [.ref (b 1), .ref (b 2), .ref (b 3), .int (nI n)])), (b 1, .inl (cI, 40, .inl me)), (b 2, .inl (cI, 40, .inl ar)), (b 3, .inl (cI, 40, .inl dl)), (d 0, .inr (2, [.ref (d 1), .ref (d 2), .ref (d 3), .ref (d 4), .int (nI fi_1), .int (nI sz_1)])), (d 1, .inl (cI, 40, .inl ki_1)), (d 2, .inl (cI, 40, .inl ow_1)), (d 3, .inl (cI, 40, .inl mr_1)), (d 4, .inl (cI, 40, .inl va_1))] := hD
  have hS9 := hS.2.2
  have hq9 : (((ki_1, ow_1, mr_1, va_1, fi_1, sz_1) : LaneS) = s_sendA (ss, cr, se, re, sv, ad) (ki, ow, mr, va, fi, sz) k) ∧ fi_1 < 40 ∧ sz_1 ≤ 40 := by refine ⟨?_, by omega, by omega⟩; simp only [s_sendA, ↓reduceIte, eq_self, nI_10, and_true, true_and, and_false, false_and, not_true_eq_false, not_false_eq_true, Bool.and_true, Bool.true_and, Bool.and_false, Bool.false_and, decide_true, decide_false, Bool.false_eq_true, ← hw_1]
  exact W.vret hx hb hr (fun t ht hW => ⟨⟨(ki_1, ow_1, mr_1, va_1, fi_1, sz_1), rfl, hq9, by rw [ht]; exact hP, hD⟩, hS.F ht⟩) hS9 dX3_sendAnswer_21

theorem hk_X3_isItemNext_f27 : (.fieldLink RX3 27 "Callgate$Server" "book" "LCallgate$Book;" : Cond) ∈ wsX3_isItemNext := by decide +kernel
theorem hi_X3_isItemNext_X3 : ∀ w ∈ u_ws RX3 TX3 8, w ∈ wsX3_isItemNext := by decide +kernel
theorem hi_X3_isItemNext_X0 : ∀ w ∈ u_ws RX0 TX0 4, w ∈ wsX3_isItemNext := by decide +kernel
theorem hk_X3_isItemNext_f18 : (.fieldLink RX3 18 "Callgate$Server" "itemsSent" "[I" : Cond) ∈ wsX3_isItemNext := by decide +kernel
set_option maxHeartbeats 4000000 in
set_option maxRecDepth 100000 in
theorem c_X3_isItemNext (l : Launch) (G : va_G) (cI : ClassId) (a b d : Nat → Nat) (ss : Fn) (cr : Fn) (se : Fn) (re : Fn) (sv : Fn) (ad : Int32) (me : Fn) (ar : Fn) (dl : Fn) (n : Nat) (ki : Fn) (ow : Fn) (mr : Fn) (va : Fn) (fi : Nat) (sz : Nat) (k : Nat) (hk : k < 40) (hn : n ≤ 40) (hf : fi < 40) (hs : sz ≤ 40) (zz : Nat) : Met l yX3_isItemNext wsX3_isItemNext ({ frames := 0, cells := 0, slots := 0, locals := 0 }) (va_Pc [.ref (a 0), .int (nI k)] (kPre G cI [(a 0, .inr (3, [.ref (b 0), .ref (d 0), .ref (a 1), .ref (a 2), .ref (a 3), .ref (a 4), .ref (a 5), .int ad])), (a 1, .inl (cI, 40, .inl ss)), (a 2, .inl (cI, 40, .inl cr)), (a 3, .inl (cI, 40, .inl se)), (a 4, .inl (cI, 40, .inl re)), (a 5, .inl (cI, 40, .inl sv)), (b 0, .inr (0, [.ref (b 1), .ref (b 2), .ref (b 3), .int (nI n)])), (b 1, .inl (cI, 40, .inl me)), (b 2, .inl (cI, 40, .inl ar)), (b 3, .inl (cI, 40, .inl dl)), (d 0, .inr (2, [.ref (d 1), .ref (d 2), .ref (d 3), .ref (d 4), .int (nI fi), .int (nI sz)])), (d 1, .inl (cI, 40, .inl ki)), (d 2, .inl (cI, 40, .inl ow)), (d 3, .inl (cI, 40, .inl mr)), (d 4, .inl (cI, 40, .inl va))] zz)) (va_Qi (fun (r : Int32) (u : Unit) => (r = if s_next me ar (ss, cr, se, re, sv, ad) k = true then nI 1 else nI 0)) (fun (u : Unit) t => kQ G [(a 0, .inr (3, [.ref (b 0), .ref (d 0), .ref (a 1), .ref (a 2), .ref (a 3), .ref (a 4), .ref (a 5), .int ad])), (a 1, .inl (cI, 40, .inl ss)), (a 2, .inl (cI, 40, .inl cr)), (a 3, .inl (cI, 40, .inl se)), (a 4, .inl (cI, 40, .inl re)), (a 5, .inl (cI, 40, .inl sv)), (b 0, .inr (0, [.ref (b 1), .ref (b 2), .ref (b 3), .int (nI n)])), (b 1, .inl (cI, 40, .inl me)), (b 2, .inl (cI, 40, .inl ar)), (b 3, .inl (cI, 40, .inl dl)), (d 0, .inr (2, [.ref (d 1), .ref (d 2), .ref (d 3), .ref (d 4), .int (nI fi), .int (nI sz)])), (d 1, .inl (cI, 40, .inl ki)), (d 2, .inl (cI, 40, .inl ow)), (d 3, .inl (cI, 40, .inl mr)), (d 4, .inl (cI, 40, .inl va))] (va_A [(a 0, .inr (3, [.ref (b 0), .ref (d 0), .ref (a 1), .ref (a 2), .ref (a 3), .ref (a 4), .ref (a 5), .int ad])), (a 1, .inl (cI, 40, .inl ss)), (a 2, .inl (cI, 40, .inl cr)), (a 3, .inl (cI, 40, .inl se)), (a 4, .inl (cI, 40, .inl re)), (a 5, .inl (cI, 40, .inl sv)), (b 0, .inr (0, [.ref (b 1), .ref (b 2), .ref (b 3), .int (nI n)])), (b 1, .inl (cI, 40, .inl me)), (b 2, .inl (cI, 40, .inl ar)), (b 3, .inl (cI, 40, .inl dl)), (d 0, .inr (2, [.ref (d 1), .ref (d 2), .ref (d 3), .ref (d 4), .int (nI fi), .int (nI sz)])), (d 1, .inl (cI, 40, .inl ki)), (d 2, .inl (cI, 40, .inl ow)), (d 3, .inl (cI, 40, .inl mr)), (d 4, .inl (cI, 40, .inl va))] zz) t) (va_A [(a 0, .inr (3, [.ref (b 0), .ref (d 0), .ref (a 1), .ref (a 2), .ref (a 3), .ref (a 4), .ref (a 5), .int ad])), (a 1, .inl (cI, 40, .inl ss)), (a 2, .inl (cI, 40, .inl cr)), (a 3, .inl (cI, 40, .inl se)), (a 4, .inl (cI, 40, .inl re)), (a 5, .inl (cI, 40, .inl sv)), (b 0, .inr (0, [.ref (b 1), .ref (b 2), .ref (b 3), .int (nI n)])), (b 1, .inl (cI, 40, .inl me)), (b 2, .inl (cI, 40, .inl ar)), (b 3, .inl (cI, 40, .inl dl)), (d 0, .inr (2, [.ref (d 1), .ref (d 2), .ref (d 3), .ref (d 4), .int (nI fi), .int (nI sz)])), (d 1, .inl (cI, 40, .inl ki)), (d 2, .inl (cI, 40, .inl ow)), (d 3, .inl (cI, 40, .inl mr)), (d 4, .inl (cI, 40, .inl va))] zz)) 0 0 (va_A [(a 0, .inr (3, [.ref (b 0), .ref (d 0), .ref (a 1), .ref (a 2), .ref (a 3), .ref (a 4), .ref (a 5), .int ad])), (a 1, .inl (cI, 40, .inl ss)), (a 2, .inl (cI, 40, .inl cr)), (a 3, .inl (cI, 40, .inl se)), (a 4, .inl (cI, 40, .inl re)), (a 5, .inl (cI, 40, .inl sv)), (b 0, .inr (0, [.ref (b 1), .ref (b 2), .ref (b 3), .int (nI n)])), (b 1, .inl (cI, 40, .inl me)), (b 2, .inl (cI, 40, .inl ar)), (b 3, .inl (cI, 40, .inl dl)), (d 0, .inr (2, [.ref (d 1), .ref (d 2), .ref (d 3), .ref (d 4), .int (nI fi), .int (nI sz)])), (d 1, .inl (cI, 40, .inl ki)), (d 2, .inl (cI, 40, .inl ow)), (d 3, .inl (cI, 40, .inl mr)), (d 4, .inl (cI, 40, .inl va))] zz) := by
  refine Met.ofW (cc := cX3_isItemNext) (maxL := 2) (ret := (some .boolean)) (by decide) rfl ?_
  intro p e s m args below meth c s₁ B hml hv
  obtain ⟨rfl, hsz, hP, hK, hD0, hN⟩ := hv
  have hx := B.exec
  have hb := B.bytes
  have hr := B.returns
  have hts := atoms_spec (ws := wsX3_isItemNext) B.pre
  have hown : s.vm.findClass RX3 = some m.cls := findClass_of_methodNamed B.named
  have hlocks := B.notSynchronized
  subst hsz
  have hD := hD0.self (sz := s.heap.size)
  generalize hAe : va_A [(a 0, .inr (3, [.ref (b 0), .ref (d 0), .ref (a 1), .ref (a 2), .ref (a 3), .ref (a 4), .ref (a 5), .int ad])), (a 1, .inl (cI, 40, .inl ss)), (a 2, .inl (cI, 40, .inl cr)), (a 3, .inl (cI, 40, .inl se)), (a 4, .inl (cI, 40, .inl re)), (a 5, .inl (cI, 40, .inl sv)), (b 0, .inr (0, [.ref (b 1), .ref (b 2), .ref (b 3), .int (nI n)])), (b 1, .inl (cI, 40, .inl me)), (b 2, .inl (cI, 40, .inl ar)), (b 3, .inl (cI, 40, .inl dl)), (d 0, .inr (2, [.ref (d 1), .ref (d 2), .ref (d 3), .ref (d 4), .int (nI fi), .int (nI sz)])), (d 1, .inl (cI, 40, .inl ki)), (d 2, .inl (cI, 40, .inl ow)), (d 3, .inl (cI, 40, .inl mr)), (d 4, .inl (cI, 40, .inl va))] s.heap.size = A at hD hN ⊢
  have hA : ∀ q : Nat, s.heap.size ≤ q → A q := fun q h => by rw [← hAe]; exact Or.inr h
  have hS : va_S A s.heap s.heap [] := va_S.rf
  have hl := lv_entry ([.ref (a 0), .int (nI k)]) (n := 2) (Nat.le_of_ble_eq_true rfl)
  rw [lg_entry_eq]
  generalize (lg_sl ([.ref (a 0), .int (nI k)]) ++ List.replicate (2 - (lg_sl ([.ref (a 0), .int (nI k)])).length) Slot.unset).toArray = ls at hl ⊢
  have hl : lv_has ls 2 [(0, .ref (a 0)), (1, .int (nI k))] := hl
  have hP : va_P G vwCl [(a 0, .inr (3, [.ref (b 0), .ref (d 0), .ref (a 1), .ref (a 2), .ref (a 3), .ref (a 4), .ref (a 5), .int ad])), (a 1, .inl (cI, 40, .inl ss)), (a 2, .inl (cI, 40, .inl cr)), (a 3, .inl (cI, 40, .inl se)), (a 4, .inl (cI, 40, .inl re)), (a 5, .inl (cI, 40, .inl sv)), (b 0, .inr (0, [.ref (b 1), .ref (b 2), .ref (b 3), .int (nI n)])), (b 1, .inl (cI, 40, .inl me)), (b 2, .inl (cI, 40, .inl ar)), (b 3, .inl (cI, 40, .inl dl)), (d 0, .inr (2, [.ref (d 1), .ref (d 2), .ref (d 3), .ref (d 4), .int (nI fi), .int (nI sz)])), (d 1, .inl (cI, 40, .inl ki)), (d 2, .inl (cI, 40, .inl ow)), (d 3, .inl (cI, 40, .inl mr)), (d 4, .inl (cI, 40, .inl va))] s.heap := hP
  obtain ⟨H, hH⟩ : ∃ H, H = s.heap := ⟨_, rfl⟩
  rw [← hH] at hP
  have hS : va_S A s.heap H [] := by rw [hH]; exact hS
  show W _ _ _ _ _ _ _ _ _ _ s.heap _ _ _ _ _
  rw [← hH]
  obtain ⟨locs, hlo⟩ : ∃ z : List Loc, z = [] := ⟨_, rfl⟩
  rw [← hlo] at hS ⊢
  refine lv_aload_n hx hb dX3_isItemNext_0 rfl (lv_at hl 0 rfl) ?_
  refine va_get (D := G) (ci := 3) (v := .ref (b 0)) (C := RX3) (T := TX3) (N := 8) hx hb hts hi_X3_isItemNext_X3 hown hK hP 0 rfl rfl 0 (by decide) (hts _ hk_X3_isItemNext_f27) (fun _ h9 => h9) rfl dX3_isItemNext_1 ?_
  refine va_getN (D := G) (ci := 0) (v := .ref (b 1)) (C := RX0) (T := TX0) (N := 4) hx hb hts hi_X3_isItemNext_X0 hown hK hP 6 rfl rfl 0 (by decide) (va_Nw.use rfl (hN.1 _ (List.mem_of_getElem? (i := 2) rfl))) (fun _ h9 => h9) rfl dX3_isItemNext_4 ?_
  refine lv_iload_n hx hb dX3_isItemNext_7 rfl (lv_at hl 1 rfl) ?_
  refine gz_iald hx hb hK hP 7 rfl rfl (k := k) rfl (by omega) (by decide) dX3_isItemNext_8 ?_
  refine lv_iconst (v := nI 3) hx hb dX3_isItemNext_9 (by decide +kernel) ?_
  refine lv_icmp_ne (tgt := 35) hx hb dX3_isItemNext_10 (by decide) (fun c_1 => ?_) (fun c_1 => ?_)
  · skip
    refine lv_iconst (v := nI 0) hx hb dX3_isItemNext_35 (by decide +kernel) ?_
    have hS9 := hS.2.2
    have hq9 : ((nI 0) = if s_next me ar (ss, cr, se, re, sv, ad) k = true then nI 1 else nI 0) := by simp only [s_next, ↓reduceIte, eq_self, nI_10, and_true, true_and, and_false, false_and, not_true_eq_false, not_false_eq_true, Bool.and_true, Bool.true_and, Bool.and_false, Bool.false_and, decide_true, decide_false, Bool.false_eq_true, eq_false c_1]
    exact W.zret (v := nI 0) hx hb hr rfl (fun t ht hW => ⟨⟨nI 0, (), rfl, hq9, by rw [ht]; exact hP, hD⟩, hS.F ht⟩) hS9 dX3_isItemNext_36
  · skip
    refine lv_aload_n hx hb dX3_isItemNext_13 rfl (lv_at hl 0 rfl) ?_
    refine va_get (D := G) (ci := 3) (v := .ref (a 3)) (C := RX3) (T := TX3) (N := 8) hx hb hts hi_X3_isItemNext_X3 hown hK hP 0 rfl rfl 4 (by decide) (hts _ hk_X3_isItemNext_f18) (fun _ h9 => h9) rfl dX3_isItemNext_14 ?_
    refine lv_iload_n hx hb dX3_isItemNext_17 rfl (lv_at hl 1 rfl) ?_
    refine gz_iald hx hb hK hP 3 rfl rfl (k := k) rfl (by omega) (by decide) dX3_isItemNext_18 ?_
    refine lv_aload_n hx hb dX3_isItemNext_19 rfl (lv_at hl 0 rfl) ?_
    refine va_get (D := G) (ci := 3) (v := .ref (b 0)) (C := RX3) (T := TX3) (N := 8) hx hb hts hi_X3_isItemNext_X3 hown hK hP 0 rfl rfl 0 (by decide) (hts _ hk_X3_isItemNext_f27) (fun _ h9 => h9) rfl dX3_isItemNext_20 ?_
    refine va_getN (D := G) (ci := 0) (v := .ref (b 2)) (C := RX0) (T := TX0) (N := 4) hx hb hts hi_X3_isItemNext_X0 hown hK hP 6 rfl rfl 1 (by decide) (va_Nw.use rfl (hN.1 _ (List.mem_of_getElem? (i := 4) rfl))) (fun _ h9 => h9) rfl dX3_isItemNext_23 ?_
    refine lv_iload_n hx hb dX3_isItemNext_26 rfl (lv_at hl 1 rfl) ?_
    refine gz_iald hx hb hK hP 8 rfl rfl (k := k) rfl (by omega) (by decide) dX3_isItemNext_27 ?_
    refine lv_icmp_ge (tgt := 35) hx hb dX3_isItemNext_28 (by decide) (fun c_2 => ?_) (fun c_2 => ?_)
    · skip
      refine lv_iconst (v := nI 0) hx hb dX3_isItemNext_35 (by decide +kernel) ?_
      have hS9 := hS.2.2
      have hq9 : ((nI 0) = if s_next me ar (ss, cr, se, re, sv, ad) k = true then nI 1 else nI 0) := by simp only [s_next, ↓reduceIte, eq_self, nI_10, and_true, true_and, and_false, false_and, not_true_eq_false, not_false_eq_true, Bool.and_true, Bool.true_and, Bool.and_false, Bool.false_and, decide_true, decide_false, Bool.false_eq_true, eq_true c_1, eq_true c_2]
      exact W.zret (v := nI 0) hx hb hr rfl (fun t ht hW => ⟨⟨nI 0, (), rfl, hq9, by rw [ht]; exact hP, hD⟩, hS.F ht⟩) hS9 dX3_isItemNext_36
    · skip
      refine lv_iconst (v := nI 1) hx hb dX3_isItemNext_31 (by decide +kernel) ?_
      refine lv_goto (tgt := 36) hx hb dX3_isItemNext_32 (by decide) ?_
      have hS9 := hS.2.2
      have hq9 : ((nI 1) = if s_next me ar (ss, cr, se, re, sv, ad) k = true then nI 1 else nI 0) := by simp only [s_next, ↓reduceIte, eq_self, nI_10, and_true, true_and, and_false, false_and, not_true_eq_false, not_false_eq_true, Bool.and_true, Bool.true_and, Bool.and_false, Bool.false_and, decide_true, decide_false, Bool.false_eq_true, eq_true c_1, eq_false c_2]
      exact W.zret (v := nI 1) hx hb hr rfl (fun t ht hW => ⟨⟨nI 1, (), rfl, hq9, by rw [ht]; exact hP, hD⟩, hS.F ht⟩) hS9 dX3_isItemNext_36

theorem hk_X3_sendItem_f18 : (.fieldLink RX3 18 "Callgate$Server" "itemsSent" "[I" : Cond) ∈ wsX3_sendItem := by decide +kernel
theorem hi_X3_sendItem_X3 : ∀ w ∈ u_ws RX3 TX3 8, w ∈ wsX3_sendItem := by decide +kernel
theorem hk_X3_sendItem_f31 : (.fieldLink RX3 31 "Callgate$Server" "toCaller" "LCallgate$Lane;" : Cond) ∈ wsX3_sendItem := by decide +kernel
theorem hk_X3_sendItem_f27 : (.fieldLink RX3 27 "Callgate$Server" "book" "LCallgate$Book;" : Cond) ∈ wsX3_sendItem := by decide +kernel
theorem hi_X3_sendItem_X0 : ∀ w ∈ u_ws RX0 TX0 4, w ∈ wsX3_sendItem := by decide +kernel
theorem hk_X3_sendItem_iX2 : (.initialized RX2 : Cond) ∈ wsX3_sendItem := by decide +kernel
theorem hk_X3_sendItem_nX2_send : (.instanceMethod yX2_send : Cond) ∈ wsX3_sendItem := by decide +kernel
theorem hk_X3_sendItem_sX2_send : (.selects RX2 yX2_send yX2_send : Cond) ∈ wsX3_sendItem := by decide +kernel
theorem hk_X3_sendItem_f15 : (.fieldLink RX3 15 "Callgate$Server" "creditsLeft" "[I" : Cond) ∈ wsX3_sendItem := by decide +kernel
set_option maxHeartbeats 4000000 in
set_option maxRecDepth 100000 in
theorem c_X3_sendItem (l : Launch) (G : va_G) (cI : ClassId) (a b d : Nat → Nat) (ss : Fn) (cr : Fn) (se : Fn) (re : Fn) (sv : Fn) (ad : Int32) (me : Fn) (ar : Fn) (dl : Fn) (n : Nat) (ki : Fn) (ow : Fn) (mr : Fn) (va : Fn) (fi : Nat) (sz : Nat) (k : Nat) (hk : k < 40) (hn : n ≤ 40) (hf : fi < 40) (hs : sz ≤ 40) (zz : Nat) : Met l yX3_sendItem wsX3_sendItem ({ frames := 3, cells := 0, slots := 0, locals := 68 }) (va_Pc [.ref (a 0), .int (nI k)] (kPre G cI [(a 0, .inr (3, [.ref (b 0), .ref (d 0), .ref (a 1), .ref (a 2), .ref (a 3), .ref (a 4), .ref (a 5), .int ad])), (a 1, .inl (cI, 40, .inl ss)), (a 2, .inl (cI, 40, .inl cr)), (a 3, .inl (cI, 40, .inl se)), (a 4, .inl (cI, 40, .inl re)), (a 5, .inl (cI, 40, .inl sv)), (b 0, .inr (0, [.ref (b 1), .ref (b 2), .ref (b 3), .int (nI n)])), (b 1, .inl (cI, 40, .inl me)), (b 2, .inl (cI, 40, .inl ar)), (b 3, .inl (cI, 40, .inl dl)), (d 0, .inr (2, [.ref (d 1), .ref (d 2), .ref (d 3), .ref (d 4), .int (nI fi), .int (nI sz)])), (d 1, .inl (cI, 40, .inl ki)), (d 2, .inl (cI, 40, .inl ow)), (d 3, .inl (cI, 40, .inl mr)), (d 4, .inl (cI, 40, .inl va))] zz)) (va_Qv (fun (u : SerS × LaneS) => (u = s_item ar (ss, cr, se, re, sv, ad) (ki, ow, mr, va, fi, sz) k) ∧ u.2.2.2.2.2.1 < 40 ∧ u.2.2.2.2.2.2 ≤ 40) (fun (u : SerS × LaneS) t => kQ G [(a 0, .inr (3, [.ref (b 0), .ref (d 0), .ref (a 1), .ref (a 2), .ref (a 3), .ref (a 4), .ref (a 5), .int u.1.2.2.2.2.2])), (a 1, .inl (cI, 40, .inl u.1.1)), (a 2, .inl (cI, 40, .inl u.1.2.1)), (a 3, .inl (cI, 40, .inl u.1.2.2.1)), (a 4, .inl (cI, 40, .inl u.1.2.2.2.1)), (a 5, .inl (cI, 40, .inl u.1.2.2.2.2.1)), (b 0, .inr (0, [.ref (b 1), .ref (b 2), .ref (b 3), .int (nI n)])), (b 1, .inl (cI, 40, .inl me)), (b 2, .inl (cI, 40, .inl ar)), (b 3, .inl (cI, 40, .inl dl)), (d 0, .inr (2, [.ref (d 1), .ref (d 2), .ref (d 3), .ref (d 4), .int (nI u.2.2.2.2.2.1), .int (nI u.2.2.2.2.2.2)])), (d 1, .inl (cI, 40, .inl u.2.1)), (d 2, .inl (cI, 40, .inl u.2.2.1)), (d 3, .inl (cI, 40, .inl u.2.2.2.1)), (d 4, .inl (cI, 40, .inl u.2.2.2.2.1))] (va_A [(a 0, .inr (3, [.ref (b 0), .ref (d 0), .ref (a 1), .ref (a 2), .ref (a 3), .ref (a 4), .ref (a 5), .int ad])), (a 1, .inl (cI, 40, .inl ss)), (a 2, .inl (cI, 40, .inl cr)), (a 3, .inl (cI, 40, .inl se)), (a 4, .inl (cI, 40, .inl re)), (a 5, .inl (cI, 40, .inl sv)), (b 0, .inr (0, [.ref (b 1), .ref (b 2), .ref (b 3), .int (nI n)])), (b 1, .inl (cI, 40, .inl me)), (b 2, .inl (cI, 40, .inl ar)), (b 3, .inl (cI, 40, .inl dl)), (d 0, .inr (2, [.ref (d 1), .ref (d 2), .ref (d 3), .ref (d 4), .int (nI fi), .int (nI sz)])), (d 1, .inl (cI, 40, .inl ki)), (d 2, .inl (cI, 40, .inl ow)), (d 3, .inl (cI, 40, .inl mr)), (d 4, .inl (cI, 40, .inl va))] zz) t) (va_A [(a 0, .inr (3, [.ref (b 0), .ref (d 0), .ref (a 1), .ref (a 2), .ref (a 3), .ref (a 4), .ref (a 5), .int ad])), (a 1, .inl (cI, 40, .inl ss)), (a 2, .inl (cI, 40, .inl cr)), (a 3, .inl (cI, 40, .inl se)), (a 4, .inl (cI, 40, .inl re)), (a 5, .inl (cI, 40, .inl sv)), (b 0, .inr (0, [.ref (b 1), .ref (b 2), .ref (b 3), .int (nI n)])), (b 1, .inl (cI, 40, .inl me)), (b 2, .inl (cI, 40, .inl ar)), (b 3, .inl (cI, 40, .inl dl)), (d 0, .inr (2, [.ref (d 1), .ref (d 2), .ref (d 3), .ref (d 4), .int (nI fi), .int (nI sz)])), (d 1, .inl (cI, 40, .inl ki)), (d 2, .inl (cI, 40, .inl ow)), (d 3, .inl (cI, 40, .inl mr)), (d 4, .inl (cI, 40, .inl va))] zz)) 0 0 (va_A [(a 0, .inr (3, [.ref (b 0), .ref (d 0), .ref (a 1), .ref (a 2), .ref (a 3), .ref (a 4), .ref (a 5), .int ad])), (a 1, .inl (cI, 40, .inl ss)), (a 2, .inl (cI, 40, .inl cr)), (a 3, .inl (cI, 40, .inl se)), (a 4, .inl (cI, 40, .inl re)), (a 5, .inl (cI, 40, .inl sv)), (b 0, .inr (0, [.ref (b 1), .ref (b 2), .ref (b 3), .int (nI n)])), (b 1, .inl (cI, 40, .inl me)), (b 2, .inl (cI, 40, .inl ar)), (b 3, .inl (cI, 40, .inl dl)), (d 0, .inr (2, [.ref (d 1), .ref (d 2), .ref (d 3), .ref (d 4), .int (nI fi), .int (nI sz)])), (d 1, .inl (cI, 40, .inl ki)), (d 2, .inl (cI, 40, .inl ow)), (d 3, .inl (cI, 40, .inl mr)), (d 4, .inl (cI, 40, .inl va))] zz) := by
  refine Met.ofW (cc := cX3_sendItem) (maxL := 3) (ret := none) (by decide) rfl ?_
  intro p e s m args below meth c s₁ B hml hv
  obtain ⟨rfl, hsz, hP, hK, hD0, hN⟩ := hv
  have hx := B.exec
  have hb := B.bytes
  have hr := B.returns
  have hts := atoms_spec (ws := wsX3_sendItem) B.pre
  have hown : s.vm.findClass RX3 = some m.cls := findClass_of_methodNamed B.named
  have hlocks := B.notSynchronized
  subst hsz
  have hD := hD0.self (sz := s.heap.size)
  generalize hAe : va_A [(a 0, .inr (3, [.ref (b 0), .ref (d 0), .ref (a 1), .ref (a 2), .ref (a 3), .ref (a 4), .ref (a 5), .int ad])), (a 1, .inl (cI, 40, .inl ss)), (a 2, .inl (cI, 40, .inl cr)), (a 3, .inl (cI, 40, .inl se)), (a 4, .inl (cI, 40, .inl re)), (a 5, .inl (cI, 40, .inl sv)), (b 0, .inr (0, [.ref (b 1), .ref (b 2), .ref (b 3), .int (nI n)])), (b 1, .inl (cI, 40, .inl me)), (b 2, .inl (cI, 40, .inl ar)), (b 3, .inl (cI, 40, .inl dl)), (d 0, .inr (2, [.ref (d 1), .ref (d 2), .ref (d 3), .ref (d 4), .int (nI fi), .int (nI sz)])), (d 1, .inl (cI, 40, .inl ki)), (d 2, .inl (cI, 40, .inl ow)), (d 3, .inl (cI, 40, .inl mr)), (d 4, .inl (cI, 40, .inl va))] s.heap.size = A at hD hN ⊢
  have hA : ∀ q : Nat, s.heap.size ≤ q → A q := fun q h => by rw [← hAe]; exact Or.inr h
  have hS : va_S A s.heap s.heap [] := va_S.rf
  have hl := lv_entry ([.ref (a 0), .int (nI k)]) (n := 3) (Nat.le_of_ble_eq_true rfl)
  rw [lg_entry_eq]
  generalize (lg_sl ([.ref (a 0), .int (nI k)]) ++ List.replicate (3 - (lg_sl ([.ref (a 0), .int (nI k)])).length) Slot.unset).toArray = ls at hl ⊢
  have hl : lv_has ls 3 [(0, .ref (a 0)), (1, .int (nI k))] := hl
  have hP : va_P G vwCl [(a 0, .inr (3, [.ref (b 0), .ref (d 0), .ref (a 1), .ref (a 2), .ref (a 3), .ref (a 4), .ref (a 5), .int ad])), (a 1, .inl (cI, 40, .inl ss)), (a 2, .inl (cI, 40, .inl cr)), (a 3, .inl (cI, 40, .inl se)), (a 4, .inl (cI, 40, .inl re)), (a 5, .inl (cI, 40, .inl sv)), (b 0, .inr (0, [.ref (b 1), .ref (b 2), .ref (b 3), .int (nI n)])), (b 1, .inl (cI, 40, .inl me)), (b 2, .inl (cI, 40, .inl ar)), (b 3, .inl (cI, 40, .inl dl)), (d 0, .inr (2, [.ref (d 1), .ref (d 2), .ref (d 3), .ref (d 4), .int (nI fi), .int (nI sz)])), (d 1, .inl (cI, 40, .inl ki)), (d 2, .inl (cI, 40, .inl ow)), (d 3, .inl (cI, 40, .inl mr)), (d 4, .inl (cI, 40, .inl va))] s.heap := hP
  obtain ⟨H, hH⟩ : ∃ H, H = s.heap := ⟨_, rfl⟩
  rw [← hH] at hP
  have hS : va_S A s.heap H [] := by rw [hH]; exact hS
  show W _ _ _ _ _ _ _ _ _ _ s.heap _ _ _ _ _
  rw [← hH]
  obtain ⟨locs, hlo⟩ : ∃ z : List Loc, z = [] := ⟨_, rfl⟩
  rw [← hlo] at hS ⊢
  refine lv_aload_n hx hb dX3_sendItem_0 rfl (lv_at hl 0 rfl) ?_
  refine va_get (D := G) (ci := 3) (v := .ref (a 3)) (C := RX3) (T := TX3) (N := 8) hx hb hts hi_X3_sendItem_X3 hown hK hP 0 rfl rfl 4 (by decide) (hts _ hk_X3_sendItem_f18) (fun _ h9 => h9) rfl dX3_sendItem_1 ?_
  refine lv_iload_n hx hb dX3_sendItem_4 rfl (lv_at hl 1 rfl) ?_
  refine gz_iald hx hb hK hP 3 rfl rfl (k := k) rfl (by omega) (by decide) dX3_sendItem_5 ?_
  refine lv_istore_n (lv' := [(2, .int (se k)), (0, .ref (a 0)), (1, .int (nI k))]) hx hb dX3_sendItem_6 rfl hl (by decide) rfl (fun ls hl => ?_)
  refine lv_aload_n hx hb dX3_sendItem_7 rfl (lv_at hl 1 rfl) ?_
  refine va_get (D := G) (ci := 3) (v := .ref (d 0)) (C := RX3) (T := TX3) (N := 8) hx hb hts hi_X3_sendItem_X3 hown hK hP 0 rfl rfl 1 (by decide) (hts _ hk_X3_sendItem_f31) (fun _ h9 => h9) rfl dX3_sendItem_8 ?_
  refine lv_iconst (v := nI 4) hx hb dX3_sendItem_11 (by decide +kernel) ?_
  refine lv_iload_n hx hb dX3_sendItem_12 rfl (lv_at hl 2 rfl) ?_
  refine lv_iload_n hx hb dX3_sendItem_13 rfl (lv_at hl 0 rfl) ?_
  refine lv_aload_n hx hb dX3_sendItem_14 rfl (lv_at hl 1 rfl) ?_
  refine va_get (D := G) (ci := 3) (v := .ref (b 0)) (C := RX3) (T := TX3) (N := 8) hx hb hts hi_X3_sendItem_X3 hown hK hP 0 rfl rfl 0 (by decide) (hts _ hk_X3_sendItem_f27) (fun _ h9 => h9) rfl dX3_sendItem_15 ?_
  refine va_getN (D := G) (ci := 0) (v := .ref (b 2)) (C := RX0) (T := TX0) (N := 4) hx hb hts hi_X3_sendItem_X0 hown hK hP 6 rfl rfl 1 (by decide) (va_Nw.use rfl (hN.1 _ (List.mem_of_getElem? (i := 4) rfl))) (fun _ h9 => h9) rfl dX3_sendItem_18 ?_
  refine lv_iload_n hx hb dX3_sendItem_21 rfl (lv_at hl 2 rfl) ?_
  refine gz_iald hx hb hK hP 8 rfl rfl (k := k) rfl (by omega) (by decide) dX3_sendItem_22 ?_
  refine lv_iload_n hx hb dX3_sendItem_23 rfl (lv_at hl 0 rfl) ?_
  refine lv_isub hx hb dX3_sendItem_24 ?_
  refine k_callv (S := Fn × Fn × Fn × Fn × Nat × Nat) (wc := [(d 0, .inr (2, [.ref (d 1), .ref (d 2), .ref (d 3), .ref (d 4), .int (nI fi), .int (nI sz)])), (d 1, .inl (cI, 40, .inl ki)), (d 2, .inl (cI, 40, .inl ow)), (d 3, .inl (cI, 40, .inl mr)), (d 4, .inl (cI, 40, .inl va))]) (wr := [(a 0, .inr (3, [.ref (b 0), .ref (d 0), .ref (a 1), .ref (a 2), .ref (a 3), .ref (a 4), .ref (a 5), .int ad])), (a 1, .inl (cI, 40, .inl ss)), (a 2, .inl (cI, 40, .inl cr)), (a 3, .inl (cI, 40, .inl se)), (a 4, .inl (cI, 40, .inl re)), (a 5, .inl (cI, 40, .inl sv)), (b 0, .inr (0, [.ref (b 1), .ref (b 2), .ref (b 3), .int (nI n)])), (b 1, .inl (cI, 40, .inl me)), (b 2, .inl (cI, 40, .inl ar)), (b 3, .inl (cI, 40, .inl dl))]) (w1 := fun u => [(d 0, .inr (2, [.ref (d 1), .ref (d 2), .ref (d 3), .ref (d 4), .int (nI u.2.2.2.2.1), .int (nI u.2.2.2.2.2)])), (d 1, .inl (cI, 40, .inl u.1)), (d 2, .inl (cI, 40, .inl u.2.1)), (d 3, .inl (cI, 40, .inl u.2.2.1)), (d 4, .inl (cI, 40, .inl u.2.2.2.1))]) (w2 := fun u => [(a 0, .inr (3, [.ref (b 0), .ref (d 0), .ref (a 1), .ref (a 2), .ref (a 3), .ref (a 4), .ref (a 5), .int ad])), (a 1, .inl (cI, 40, .inl ss)), (a 2, .inl (cI, 40, .inl cr)), (a 3, .inl (cI, 40, .inl se)), (a 4, .inl (cI, 40, .inl re)), (a 5, .inl (cI, 40, .inl sv)), (b 0, .inr (0, [.ref (b 1), .ref (b 2), .ref (b 3), .int (nI n)])), (b 1, .inl (cI, 40, .inl me)), (b 2, .inl (cI, 40, .inl ar)), (b 3, .inl (cI, 40, .inl dl)), (d 0, .inr (2, [.ref (d 1), .ref (d 2), .ref (d 3), .ref (d 4), .int (nI u.2.2.2.2.1), .int (nI u.2.2.2.2.2)])), (d 1, .inl (cI, 40, .inl u.1)), (d 2, .inl (cI, 40, .inl u.2.1)), (d 3, .inl (cI, 40, .inl u.2.2.1)), (d 4, .inl (cI, 40, .inl u.2.2.2.1))]) (va_runVN (As := [.int (nI 4), .int (nI k), .int (se k), .int ((ar k) - (se k))]) (rest := []) ⟨hx, hb, hml, hown, hts⟩ (c_X2_send l G cI d ki ow mr va fi sz (nI 4) (nI k) (se k) ((ar k) - (se k)) (by first | omega | assumption) (by first | omega | assumption) H.size) ⟨va_cnB (host := RX4) 4 hts gX3_sendItem_X2_send_n72 rfl rfl rfl (hN.1 _ (List.mem_of_getElem? (i := 36) rfl)) (hts _ hk_X3_sendItem_iX2) (by decide +kernel) ⟨Nat.le_of_ble_eq_true rfl, Nat.le_of_ble_eq_true rfl⟩, (hts _ hk_X3_sendItem_nX2_send), (hts _ hk_X3_sendItem_sX2_send)⟩ ⟨kPre.blind, va_recv hK hP (ci := 2) (q0 := 10) rfl rfl, kPre.at hP hK hD hS hA hN [10, 11, 12, 13, 14] rfl rfl⟩ rfl rfl hl.1 rfl (lv_room (Nat.le_of_ble_eq_true rfl)) dX3_sendItem_25 ⟨Nat.le_of_ble_eq_true rfl, Nat.le_of_ble_eq_true rfl⟩) hP hD hS hA [10, 11, 12, 13, 14] [0, 1, 2, 3, 4, 5, 6, 7, 8, 9] [0, 1, 2, 3, 4, 5, 6, 7, 8, 9, 10, 11, 12, 13, 14] rfl rfl ⟨rfl, by decide, rfl⟩ (fun _ => rfl) (fun u H locs hw_1 hP hD hS => ?_)
  obtain ⟨ki_1, ow_1, mr_1, va_1, fi_1, sz_1⟩ := u
  obtain ⟨hw_1, hf_1, hs_1⟩ := hw_1
  have hf_1 : fi_1 < 40 := hf_1
  have hs_1 : sz_1 ≤ 40 := hs_1
  have hw_1 : ((ki_1, ow_1, mr_1, va_1, fi_1, sz_1) : Fn × Fn × Fn × Fn × Nat × Nat) = l_send (ki, ow, mr, va, fi, sz) (nI 4) (nI k) (se k) ((ar k) - (se k)) := hw_1
  have hP : va_P G vwCl [(a 0, .inr (3, [.ref (b 0), .ref (d 0), .ref (a 1), .ref (a 2), .ref (a 3), .ref (a 4), .ref (a 5), .int ad])), (a 1, .inl (cI, 40, .inl ss)), (a 2, .inl (cI, 40, .inl cr)), (a 3, .inl (cI, 40, .inl se)), (a 4, .inl (cI, 40, .inl re)), (a 5, .inl (cI, 40, .inl sv)), (b 0, .inr (0, [.ref (b 1), .ref (b 2), .ref (b 3), .int (nI n)])), (b 1, .inl (cI, 40, .inl me)), (b 2, .inl (cI, 40, .inl ar)), (b 3, .inl (cI, 40, .inl dl)), (d 0, .inr (2, [.ref (d 1), .ref (d 2), .ref (d 3), .ref (d 4), .int (nI fi_1), .int (nI sz_1)])), (d 1, .inl (cI, 40, .inl ki_1)), (d 2, .inl (cI, 40, .inl ow_1)), (d 3, .inl (cI, 40, .inl mr_1)), (d 4, .inl (cI, 40, .inl va_1))] H := hP
  have hD : va_D A [(a 0, .inr (3, [.ref (b 0), .ref (d 0), .ref (a 1), .ref (a 2), .ref (a 3), .ref (a 4), .ref (a 5), .int ad])), (a 1, .inl (cI, 40, .inl ss)), (a 2, .inl (cI, 40, .inl cr)), (a 3, .inl (cI, 40, .inl se)), (a 4, .inl (cI, 40, .inl re)), (a 5, .inl (cI, 40, .inl sv)), (b 0, .inr (0, [.ref (b 1), .ref (b 2), .ref (b 3), .int (nI n)])), (b 1, .inl (cI, 40, .inl me)), (b 2, .inl (cI, 40, .inl ar)), (b 3, .inl (cI, 40, .inl dl)), (d 0, .inr (2, [.ref (d 1), .ref (d 2), .ref (d 3), .ref (d 4), .int (nI fi_1), .int (nI sz_1)])), (d 1, .inl (cI, 40, .inl ki_1)), (d 2, .inl (cI, 40, .inl ow_1)), (d 3, .inl (cI, 40, .inl mr_1)), (d 4, .inl (cI, 40, .inl va_1))] := hD
  refine lv_aload_n hx hb dX3_sendItem_28 rfl (lv_at hl 1 rfl) ?_
  refine va_get (D := G) (ci := 3) (v := .ref (a 2)) (C := RX3) (T := TX3) (N := 8) hx hb hts hi_X3_sendItem_X3 hown hK hP 0 rfl rfl 3 (by decide) (hts _ hk_X3_sendItem_f15) (fun _ h9 => h9) rfl dX3_sendItem_29 ?_
  refine lv_iload_n hx hb dX3_sendItem_32 rfl (lv_at hl 2 rfl) ?_
  refine lv_dup2_11 hx hb dX3_sendItem_33 rfl rfl ?_
  refine gz_iald hx hb hK hP 2 rfl rfl (k := k) rfl (by omega) (by decide) dX3_sendItem_34 ?_
  refine lv_iconst (v := nI 1) hx hb dX3_sendItem_35 (by decide +kernel) ?_
  refine lv_isub hx hb dX3_sendItem_36 ?_
  refine gz_iast hx hb hK hP hD hS 2 rfl rfl (k := k) rfl (by omega) (by decide) dX3_sendItem_37 (fun H locs hP hD hS => ?_)
  have hP : va_P G vwCl [(a 0, .inr (3, [.ref (b 0), .ref (d 0), .ref (a 1), .ref (a 2), .ref (a 3), .ref (a 4), .ref (a 5), .int ad])), (a 1, .inl (cI, 40, .inl ss)), (a 2, .inl (cI, 40, .inl (upd cr k ((cr k) - nI 1)))), (a 3, .inl (cI, 40, .inl se)), (a 4, .inl (cI, 40, .inl re)), (a 5, .inl (cI, 40, .inl sv)), (b 0, .inr (0, [.ref (b 1), .ref (b 2), .ref (b 3), .int (nI n)])), (b 1, .inl (cI, 40, .inl me)), (b 2, .inl (cI, 40, .inl ar)), (b 3, .inl (cI, 40, .inl dl)), (d 0, .inr (2, [.ref (d 1), .ref (d 2), .ref (d 3), .ref (d 4), .int (nI fi_1), .int (nI sz_1)])), (d 1, .inl (cI, 40, .inl ki_1)), (d 2, .inl (cI, 40, .inl ow_1)), (d 3, .inl (cI, 40, .inl mr_1)), (d 4, .inl (cI, 40, .inl va_1))] H := hP
  have hD : va_D A [(a 0, .inr (3, [.ref (b 0), .ref (d 0), .ref (a 1), .ref (a 2), .ref (a 3), .ref (a 4), .ref (a 5), .int ad])), (a 1, .inl (cI, 40, .inl ss)), (a 2, .inl (cI, 40, .inl (upd cr k ((cr k) - nI 1)))), (a 3, .inl (cI, 40, .inl se)), (a 4, .inl (cI, 40, .inl re)), (a 5, .inl (cI, 40, .inl sv)), (b 0, .inr (0, [.ref (b 1), .ref (b 2), .ref (b 3), .int (nI n)])), (b 1, .inl (cI, 40, .inl me)), (b 2, .inl (cI, 40, .inl ar)), (b 3, .inl (cI, 40, .inl dl)), (d 0, .inr (2, [.ref (d 1), .ref (d 2), .ref (d 3), .ref (d 4), .int (nI fi_1), .int (nI sz_1)])), (d 1, .inl (cI, 40, .inl ki_1)), (d 2, .inl (cI, 40, .inl ow_1)), (d 3, .inl (cI, 40, .inl mr_1)), (d 4, .inl (cI, 40, .inl va_1))] := hD
  refine lv_aload_n hx hb dX3_sendItem_38 rfl (lv_at hl 1 rfl) ?_
  refine va_get (D := G) (ci := 3) (v := .ref (a 3)) (C := RX3) (T := TX3) (N := 8) hx hb hts hi_X3_sendItem_X3 hown hK hP 0 rfl rfl 4 (by decide) (hts _ hk_X3_sendItem_f18) (fun _ h9 => h9) rfl dX3_sendItem_39 ?_
  refine lv_iload_n hx hb dX3_sendItem_42 rfl (lv_at hl 2 rfl) ?_
  refine lv_dup2_11 hx hb dX3_sendItem_43 rfl rfl ?_
  refine gz_iald hx hb hK hP 3 rfl rfl (k := k) rfl (by omega) (by decide) dX3_sendItem_44 ?_
  refine lv_iconst (v := nI 1) hx hb dX3_sendItem_45 (by decide +kernel) ?_
  refine lv_iadd hx hb dX3_sendItem_46 ?_
  refine gz_iast hx hb hK hP hD hS 3 rfl rfl (k := k) rfl (by omega) (by decide) dX3_sendItem_47 (fun H locs hP hD hS => ?_)
  have hP : va_P G vwCl [(a 0, .inr (3, [.ref (b 0), .ref (d 0), .ref (a 1), .ref (a 2), .ref (a 3), .ref (a 4), .ref (a 5), .int ad])), (a 1, .inl (cI, 40, .inl ss)), (a 2, .inl (cI, 40, .inl (upd cr k ((cr k) - nI 1)))), (a 3, .inl (cI, 40, .inl (upd se k ((se k) + nI 1)))), (a 4, .inl (cI, 40, .inl re)), (a 5, .inl (cI, 40, .inl sv)), (b 0, .inr (0, [.ref (b 1), .ref (b 2), .ref (b 3), .int (nI n)])), (b 1, .inl (cI, 40, .inl me)), (b 2, .inl (cI, 40, .inl ar)), (b 3, .inl (cI, 40, .inl dl)), (d 0, .inr (2, [.ref (d 1), .ref (d 2), .ref (d 3), .ref (d 4), .int (nI fi_1), .int (nI sz_1)])), (d 1, .inl (cI, 40, .inl ki_1)), (d 2, .inl (cI, 40, .inl ow_1)), (d 3, .inl (cI, 40, .inl mr_1)), (d 4, .inl (cI, 40, .inl va_1))] H := hP
  have hD : va_D A [(a 0, .inr (3, [.ref (b 0), .ref (d 0), .ref (a 1), .ref (a 2), .ref (a 3), .ref (a 4), .ref (a 5), .int ad])), (a 1, .inl (cI, 40, .inl ss)), (a 2, .inl (cI, 40, .inl (upd cr k ((cr k) - nI 1)))), (a 3, .inl (cI, 40, .inl (upd se k ((se k) + nI 1)))), (a 4, .inl (cI, 40, .inl re)), (a 5, .inl (cI, 40, .inl sv)), (b 0, .inr (0, [.ref (b 1), .ref (b 2), .ref (b 3), .int (nI n)])), (b 1, .inl (cI, 40, .inl me)), (b 2, .inl (cI, 40, .inl ar)), (b 3, .inl (cI, 40, .inl dl)), (d 0, .inr (2, [.ref (d 1), .ref (d 2), .ref (d 3), .ref (d 4), .int (nI fi_1), .int (nI sz_1)])), (d 1, .inl (cI, 40, .inl ki_1)), (d 2, .inl (cI, 40, .inl ow_1)), (d 3, .inl (cI, 40, .inl mr_1)), (d 4, .inl (cI, 40, .inl va_1))] := hD
  have hS9 := hS.2.2
  have hq9 : ((((ss, upd cr k ((cr k) - nI 1), upd se k ((se k) + nI 1), re, sv, ad), (ki_1, ow_1, mr_1, va_1, fi_1, sz_1)) : SerS × LaneS) = s_item ar (ss, cr, se, re, sv, ad) (ki, ow, mr, va, fi, sz) k) ∧ fi_1 < 40 ∧ sz_1 ≤ 40 := by refine ⟨?_, by omega, by omega⟩; simp only [s_item, ↓reduceIte, eq_self, nI_10, and_true, true_and, and_false, false_and, not_true_eq_false, not_false_eq_true, Bool.and_true, Bool.true_and, Bool.and_false, Bool.false_and, decide_true, decide_false, Bool.false_eq_true, ← hw_1]
  exact W.vret hx hb hr (fun t ht hW => ⟨⟨((ss, upd cr k ((cr k) - nI 1), upd se k ((se k) + nI 1), re, sv, ad), (ki_1, ow_1, mr_1, va_1, fi_1, sz_1)), rfl, hq9, by rw [ht]; exact hP, hD⟩, hS.F ht⟩) hS9 dX3_sendItem_48

theorem hk_X3_answerOf_f82 : (.fieldLink RX3 82 "Callgate$Server" "added" "I" : Cond) ∈ wsX3_answerOf := by decide +kernel
theorem hi_X3_answerOf_X3 : ∀ w ∈ u_ws RX3 TX3 8, w ∈ wsX3_answerOf := by decide +kernel
theorem hk_X3_answerOf_m85 : (.methodLink RX3 85 Lib.Math.max.name : Cond) ∈ wsX3_answerOf := by decide +kernel
theorem hk_X3_answerOf_msmax : (.static Lib.Math.max.name : Cond) ∈ wsX3_answerOf := by decide +kernel
theorem hk_X3_answerOf_mi : (.initialized "java/lang/Math" : Cond) ∈ wsX3_answerOf := by decide +kernel
theorem hk_X3_answerOf_mcmax : (.code Lib.Math.max.name Lib.Math.max.code 2 (some .int) : Cond) ∈ wsX3_answerOf := by decide +kernel
set_option maxHeartbeats 4000000 in
set_option maxRecDepth 100000 in
theorem c_X3_answerOf (l : Launch) (G : va_G) (cI : ClassId) (a b d : Nat → Nat) (ss : Fn) (cr : Fn) (se : Fn) (re : Fn) (sv : Fn) (ad : Int32) (me : Fn) (ar : Fn) (dl : Fn) (n : Nat) (ki : Fn) (ow : Fn) (mr : Fn) (va : Fn) (fi : Nat) (sz : Nat) (q : Int32) (x : Int32) (hn : n ≤ 40) (hf : fi < 40) (hs : sz ≤ 40) (zz : Nat) : Met l yX3_answerOf wsX3_answerOf ({ frames := 1, cells := 0, slots := 0, locals := 30 }) (va_Pc [.ref (a 0), .int q, .int x] (kPre G cI [(a 0, .inr (3, [.ref (b 0), .ref (d 0), .ref (a 1), .ref (a 2), .ref (a 3), .ref (a 4), .ref (a 5), .int ad])), (a 1, .inl (cI, 40, .inl ss)), (a 2, .inl (cI, 40, .inl cr)), (a 3, .inl (cI, 40, .inl se)), (a 4, .inl (cI, 40, .inl re)), (a 5, .inl (cI, 40, .inl sv)), (b 0, .inr (0, [.ref (b 1), .ref (b 2), .ref (b 3), .int (nI n)])), (b 1, .inl (cI, 40, .inl me)), (b 2, .inl (cI, 40, .inl ar)), (b 3, .inl (cI, 40, .inl dl)), (d 0, .inr (2, [.ref (d 1), .ref (d 2), .ref (d 3), .ref (d 4), .int (nI fi), .int (nI sz)])), (d 1, .inl (cI, 40, .inl ki)), (d 2, .inl (cI, 40, .inl ow)), (d 3, .inl (cI, 40, .inl mr)), (d 4, .inl (cI, 40, .inl va))] zz)) (va_Qi (fun (r : Int32) (u : Unit) => (r = s_ans ad q x)) (fun (u : Unit) t => kQ G [(a 0, .inr (3, [.ref (b 0), .ref (d 0), .ref (a 1), .ref (a 2), .ref (a 3), .ref (a 4), .ref (a 5), .int ad])), (a 1, .inl (cI, 40, .inl ss)), (a 2, .inl (cI, 40, .inl cr)), (a 3, .inl (cI, 40, .inl se)), (a 4, .inl (cI, 40, .inl re)), (a 5, .inl (cI, 40, .inl sv)), (b 0, .inr (0, [.ref (b 1), .ref (b 2), .ref (b 3), .int (nI n)])), (b 1, .inl (cI, 40, .inl me)), (b 2, .inl (cI, 40, .inl ar)), (b 3, .inl (cI, 40, .inl dl)), (d 0, .inr (2, [.ref (d 1), .ref (d 2), .ref (d 3), .ref (d 4), .int (nI fi), .int (nI sz)])), (d 1, .inl (cI, 40, .inl ki)), (d 2, .inl (cI, 40, .inl ow)), (d 3, .inl (cI, 40, .inl mr)), (d 4, .inl (cI, 40, .inl va))] (va_A [(a 0, .inr (3, [.ref (b 0), .ref (d 0), .ref (a 1), .ref (a 2), .ref (a 3), .ref (a 4), .ref (a 5), .int ad])), (a 1, .inl (cI, 40, .inl ss)), (a 2, .inl (cI, 40, .inl cr)), (a 3, .inl (cI, 40, .inl se)), (a 4, .inl (cI, 40, .inl re)), (a 5, .inl (cI, 40, .inl sv)), (b 0, .inr (0, [.ref (b 1), .ref (b 2), .ref (b 3), .int (nI n)])), (b 1, .inl (cI, 40, .inl me)), (b 2, .inl (cI, 40, .inl ar)), (b 3, .inl (cI, 40, .inl dl)), (d 0, .inr (2, [.ref (d 1), .ref (d 2), .ref (d 3), .ref (d 4), .int (nI fi), .int (nI sz)])), (d 1, .inl (cI, 40, .inl ki)), (d 2, .inl (cI, 40, .inl ow)), (d 3, .inl (cI, 40, .inl mr)), (d 4, .inl (cI, 40, .inl va))] zz) t) (va_A [(a 0, .inr (3, [.ref (b 0), .ref (d 0), .ref (a 1), .ref (a 2), .ref (a 3), .ref (a 4), .ref (a 5), .int ad])), (a 1, .inl (cI, 40, .inl ss)), (a 2, .inl (cI, 40, .inl cr)), (a 3, .inl (cI, 40, .inl se)), (a 4, .inl (cI, 40, .inl re)), (a 5, .inl (cI, 40, .inl sv)), (b 0, .inr (0, [.ref (b 1), .ref (b 2), .ref (b 3), .int (nI n)])), (b 1, .inl (cI, 40, .inl me)), (b 2, .inl (cI, 40, .inl ar)), (b 3, .inl (cI, 40, .inl dl)), (d 0, .inr (2, [.ref (d 1), .ref (d 2), .ref (d 3), .ref (d 4), .int (nI fi), .int (nI sz)])), (d 1, .inl (cI, 40, .inl ki)), (d 2, .inl (cI, 40, .inl ow)), (d 3, .inl (cI, 40, .inl mr)), (d 4, .inl (cI, 40, .inl va))] zz)) 0 0 (va_A [(a 0, .inr (3, [.ref (b 0), .ref (d 0), .ref (a 1), .ref (a 2), .ref (a 3), .ref (a 4), .ref (a 5), .int ad])), (a 1, .inl (cI, 40, .inl ss)), (a 2, .inl (cI, 40, .inl cr)), (a 3, .inl (cI, 40, .inl se)), (a 4, .inl (cI, 40, .inl re)), (a 5, .inl (cI, 40, .inl sv)), (b 0, .inr (0, [.ref (b 1), .ref (b 2), .ref (b 3), .int (nI n)])), (b 1, .inl (cI, 40, .inl me)), (b 2, .inl (cI, 40, .inl ar)), (b 3, .inl (cI, 40, .inl dl)), (d 0, .inr (2, [.ref (d 1), .ref (d 2), .ref (d 3), .ref (d 4), .int (nI fi), .int (nI sz)])), (d 1, .inl (cI, 40, .inl ki)), (d 2, .inl (cI, 40, .inl ow)), (d 3, .inl (cI, 40, .inl mr)), (d 4, .inl (cI, 40, .inl va))] zz) := by
  refine Met.ofW (cc := cX3_answerOf) (maxL := 3) (ret := (some .int)) (by decide) rfl ?_
  intro p e s m args below meth c s₁ B hml hv
  obtain ⟨rfl, hsz, hP, hK, hD0, hN⟩ := hv
  have hx := B.exec
  have hb := B.bytes
  have hr := B.returns
  have hts := atoms_spec (ws := wsX3_answerOf) B.pre
  have hown : s.vm.findClass RX3 = some m.cls := findClass_of_methodNamed B.named
  have hlocks := B.notSynchronized
  subst hsz
  have hD := hD0.self (sz := s.heap.size)
  generalize hAe : va_A [(a 0, .inr (3, [.ref (b 0), .ref (d 0), .ref (a 1), .ref (a 2), .ref (a 3), .ref (a 4), .ref (a 5), .int ad])), (a 1, .inl (cI, 40, .inl ss)), (a 2, .inl (cI, 40, .inl cr)), (a 3, .inl (cI, 40, .inl se)), (a 4, .inl (cI, 40, .inl re)), (a 5, .inl (cI, 40, .inl sv)), (b 0, .inr (0, [.ref (b 1), .ref (b 2), .ref (b 3), .int (nI n)])), (b 1, .inl (cI, 40, .inl me)), (b 2, .inl (cI, 40, .inl ar)), (b 3, .inl (cI, 40, .inl dl)), (d 0, .inr (2, [.ref (d 1), .ref (d 2), .ref (d 3), .ref (d 4), .int (nI fi), .int (nI sz)])), (d 1, .inl (cI, 40, .inl ki)), (d 2, .inl (cI, 40, .inl ow)), (d 3, .inl (cI, 40, .inl mr)), (d 4, .inl (cI, 40, .inl va))] s.heap.size = A at hD hN ⊢
  have hA : ∀ q : Nat, s.heap.size ≤ q → A q := fun q h => by rw [← hAe]; exact Or.inr h
  have hS : va_S A s.heap s.heap [] := va_S.rf
  have hl := lv_entry ([.ref (a 0), .int q, .int x]) (n := 3) (Nat.le_of_ble_eq_true rfl)
  rw [lg_entry_eq]
  generalize (lg_sl ([.ref (a 0), .int q, .int x]) ++ List.replicate (3 - (lg_sl ([.ref (a 0), .int q, .int x])).length) Slot.unset).toArray = ls at hl ⊢
  have hl : lv_has ls 3 [(0, .ref (a 0)), (1, .int q), (2, .int x)] := hl
  have hP : va_P G vwCl [(a 0, .inr (3, [.ref (b 0), .ref (d 0), .ref (a 1), .ref (a 2), .ref (a 3), .ref (a 4), .ref (a 5), .int ad])), (a 1, .inl (cI, 40, .inl ss)), (a 2, .inl (cI, 40, .inl cr)), (a 3, .inl (cI, 40, .inl se)), (a 4, .inl (cI, 40, .inl re)), (a 5, .inl (cI, 40, .inl sv)), (b 0, .inr (0, [.ref (b 1), .ref (b 2), .ref (b 3), .int (nI n)])), (b 1, .inl (cI, 40, .inl me)), (b 2, .inl (cI, 40, .inl ar)), (b 3, .inl (cI, 40, .inl dl)), (d 0, .inr (2, [.ref (d 1), .ref (d 2), .ref (d 3), .ref (d 4), .int (nI fi), .int (nI sz)])), (d 1, .inl (cI, 40, .inl ki)), (d 2, .inl (cI, 40, .inl ow)), (d 3, .inl (cI, 40, .inl mr)), (d 4, .inl (cI, 40, .inl va))] s.heap := hP
  obtain ⟨H, hH⟩ : ∃ H, H = s.heap := ⟨_, rfl⟩
  rw [← hH] at hP
  have hS : va_S A s.heap H [] := by rw [hH]; exact hS
  show W _ _ _ _ _ _ _ _ _ _ s.heap _ _ _ _ _
  rw [← hH]
  obtain ⟨locs, hlo⟩ : ∃ z : List Loc, z = [] := ⟨_, rfl⟩
  rw [← hlo] at hS ⊢
  refine lv_iload_n hx hb dX3_answerOf_0 rfl (lv_at hl 1 rfl) ?_
  by_cases e_1_0 : q = nI 0
  · refine lv_tableIn (off := 31) (tgt := 32) hx hb dX3_answerOf_1 (by rw [e_1_0]; decide +kernel) (by rw [e_1_0]; decide +kernel) (by rw [e_1_0]; decide +kernel) (by decide +kernel) ?_
    refine lv_iload_n hx hb dX3_answerOf_32 rfl (lv_at hl 2 rfl) ?_
    refine lv_iload_n hx hb dX3_answerOf_33 rfl (lv_at hl 2 rfl) ?_
    refine lv_imul hx hb dX3_answerOf_34 ?_
    have hS9 := hS.2.2
    have hq9 : ((x * x) = s_ans ad q x) := by simp only [s_ans, ↓reduceIte, eq_self, nI_10, and_true, true_and, and_false, false_and, not_true_eq_false, not_false_eq_true, Bool.and_true, Bool.true_and, Bool.and_false, Bool.false_and, decide_true, decide_false, Bool.false_eq_true, eq_true e_1_0]
    exact W.iret (v := x * x) hx hb hr (fun t ht hW => ⟨⟨x * x, (), rfl, hq9, by rw [ht]; exact hP, hD⟩, hS.F ht⟩) hS9 dX3_answerOf_35
  by_cases e_1_1 : q = nI 1
  · refine lv_tableIn (off := 35) (tgt := 36) hx hb dX3_answerOf_1 (by rw [e_1_1]; decide +kernel) (by rw [e_1_1]; decide +kernel) (by rw [e_1_1]; decide +kernel) (by decide +kernel) ?_
    refine lv_aload_n hx hb dX3_answerOf_36 rfl (lv_at hl 0 rfl) ?_
    refine va_get (D := G) (ci := 3) (v := .int ad) (C := RX3) (T := TX3) (N := 8) hx hb hts hi_X3_answerOf_X3 hown hK hP 0 rfl rfl 7 (by decide) (hts _ hk_X3_answerOf_f82) (fun _ h9 => h9) rfl dX3_answerOf_37 ?_
    refine lv_iload_n hx hb dX3_answerOf_40 rfl (lv_at hl 2 rfl) ?_
    refine lv_iadd hx hb dX3_answerOf_41 ?_
    have hS9 := hS.2.2
    have hq9 : ((ad + x) = s_ans ad q x) := by simp only [s_ans, ↓reduceIte, eq_self, nI_10, and_true, true_and, and_false, false_and, not_true_eq_false, not_false_eq_true, Bool.and_true, Bool.true_and, Bool.and_false, Bool.false_and, decide_true, decide_false, Bool.false_eq_true, eq_false e_1_0, eq_true e_1_1]
    exact W.iret (v := ad + x) hx hb hr (fun t ht hW => ⟨⟨ad + x, (), rfl, hq9, by rw [ht]; exact hP, hD⟩, hS.F ht⟩) hS9 dX3_answerOf_42
  by_cases e_1_2 : q = nI 2
  · refine lv_tableIn (off := 48) (tgt := 49) hx hb dX3_answerOf_1 (by rw [e_1_2]; decide +kernel) (by rw [e_1_2]; decide +kernel) (by rw [e_1_2]; decide +kernel) (by decide +kernel) ?_
    refine lv_iconst (v := nI 0) hx hb dX3_answerOf_49 (by decide +kernel) ?_
    have hS9 := hS.2.2
    have hq9 : ((nI 0) = s_ans ad q x) := by simp only [s_ans, ↓reduceIte, eq_self, nI_10, and_true, true_and, and_false, false_and, not_true_eq_false, not_false_eq_true, Bool.and_true, Bool.true_and, Bool.and_false, Bool.false_and, decide_true, decide_false, Bool.false_eq_true, eq_false e_1_0, eq_false e_1_1, eq_true e_1_2]
    exact W.iret (v := nI 0) hx hb hr (fun t ht hW => ⟨⟨nI 0, (), rfl, hq9, by rw [ht]; exact hP, hD⟩, hS.F ht⟩) hS9 dX3_answerOf_50
  by_cases e_1_3 : q = nI 3
  · refine lv_tableIn (off := 42) (tgt := 43) hx hb dX3_answerOf_1 (by rw [e_1_3]; decide +kernel) (by rw [e_1_3]; decide +kernel) (by rw [e_1_3]; decide +kernel) (by decide +kernel) ?_
    refine lv_iload_n hx hb dX3_answerOf_43 rfl (lv_at hl 2 rfl) ?_
    refine lv_iconst (v := nI 0) hx hb dX3_answerOf_44 (by decide +kernel) ?_
    refine va_mmax hx hb (by rw [hml]; exact hl.1.symm) hown (hts _ hk_X3_answerOf_m85) (hts _ hk_X3_answerOf_msmax) (hts _ hk_X3_answerOf_mi) (hts _ hk_X3_answerOf_mcmax) (Nat.le_of_ble_eq_true rfl) (Nat.le_of_ble_eq_true rfl) (Nat.le_of_ble_eq_true rfl) (Nat.le_of_ble_eq_true rfl) dX3_answerOf_45 ?_
    have hS9 := hS.2.2
    have hq9 : ((if x < nI 0 then nI 0 else x) = s_ans ad q x) := by simp only [s_ans, ↓reduceIte, eq_self, nI_10, and_true, true_and, and_false, false_and, not_true_eq_false, not_false_eq_true, Bool.and_true, Bool.true_and, Bool.and_false, Bool.false_and, decide_true, decide_false, Bool.false_eq_true, eq_false e_1_0, eq_false e_1_1, eq_false e_1_2, eq_true e_1_3]
    exact W.iret (v := if x < nI 0 then nI 0 else x) hx hb hr (fun t ht hW => ⟨⟨if x < nI 0 then nI 0 else x, (), rfl, hq9, by rw [ht]; exact hP, hD⟩, hS.F ht⟩) hS9 dX3_answerOf_48
  refine lv_tableOut (tgt := 49) hx hb dX3_answerOf_1 (k_tab4 e_1_0 e_1_1 e_1_2 e_1_3) (by decide +kernel) ?_
  refine lv_iconst (v := nI 0) hx hb dX3_answerOf_49 (by decide +kernel) ?_
  have hS9 := hS.2.2
  have hq9 : ((nI 0) = s_ans ad q x) := by simp only [s_ans, ↓reduceIte, eq_self, nI_10, and_true, true_and, and_false, false_and, not_true_eq_false, not_false_eq_true, Bool.and_true, Bool.true_and, Bool.and_false, Bool.false_and, decide_true, decide_false, Bool.false_eq_true, eq_false e_1_0, eq_false e_1_1, eq_false e_1_2, eq_false e_1_3]
  exact W.iret (v := nI 0) hx hb hr (fun t ht hW => ⟨⟨nI 0, (), rfl, hq9, by rw [ht]; exact hP, hD⟩, hS.F ht⟩) hS9 dX3_answerOf_50

theorem hk_X3_perform_f27 : (.fieldLink RX3 27 "Callgate$Server" "book" "LCallgate$Book;" : Cond) ∈ wsX3_perform := by decide +kernel
theorem hi_X3_perform_X3 : ∀ w ∈ u_ws RX3 TX3 8, w ∈ wsX3_perform := by decide +kernel
theorem hi_X3_perform_X0 : ∀ w ∈ u_ws RX0 TX0 4, w ∈ wsX3_perform := by decide +kernel
theorem hk_X3_perform_f21 : (.fieldLink RX3 21 "Callgate$Server" "results" "[I" : Cond) ∈ wsX3_perform := by decide +kernel
theorem hk_X3_perform_f24 : (.fieldLink RX3 24 "Callgate$Server" "values" "[I" : Cond) ∈ wsX3_perform := by decide +kernel
theorem hk_X3_perform_f9 : (.fieldLink RX3 9 "Callgate$Server" "states" "[I" : Cond) ∈ wsX3_perform := by decide +kernel
theorem hk_X3_perform_f82 : (.fieldLink RX3 82 "Callgate$Server" "added" "I" : Cond) ∈ wsX3_perform := by decide +kernel
set_option maxHeartbeats 4000000 in
set_option maxRecDepth 100000 in
theorem c_X3_perform (l : Launch) (G : va_G) (cI : ClassId) (a b d : Nat → Nat) (ss : Fn) (cr : Fn) (se : Fn) (re : Fn) (sv : Fn) (ad : Int32) (me : Fn) (ar : Fn) (dl : Fn) (n : Nat) (ki : Fn) (ow : Fn) (mr : Fn) (va : Fn) (fi : Nat) (sz : Nat) (k : Nat) (hk : k < 40) (hn : n ≤ 40) (hf : fi < 40) (hs : sz ≤ 40) (zz : Nat) : Met l yX3_perform wsX3_perform ({ frames := 4, cells := 0, slots := 0, locals := 89 }) (va_Pc [.ref (a 0), .int (nI k)] (kPre G cI [(a 0, .inr (3, [.ref (b 0), .ref (d 0), .ref (a 1), .ref (a 2), .ref (a 3), .ref (a 4), .ref (a 5), .int ad])), (a 1, .inl (cI, 40, .inl ss)), (a 2, .inl (cI, 40, .inl cr)), (a 3, .inl (cI, 40, .inl se)), (a 4, .inl (cI, 40, .inl re)), (a 5, .inl (cI, 40, .inl sv)), (b 0, .inr (0, [.ref (b 1), .ref (b 2), .ref (b 3), .int (nI n)])), (b 1, .inl (cI, 40, .inl me)), (b 2, .inl (cI, 40, .inl ar)), (b 3, .inl (cI, 40, .inl dl)), (d 0, .inr (2, [.ref (d 1), .ref (d 2), .ref (d 3), .ref (d 4), .int (nI fi), .int (nI sz)])), (d 1, .inl (cI, 40, .inl ki)), (d 2, .inl (cI, 40, .inl ow)), (d 3, .inl (cI, 40, .inl mr)), (d 4, .inl (cI, 40, .inl va))] zz)) (va_Qv (fun (u : SerS × LaneS) => (u = s_perf me ar (ss, cr, se, re, sv, ad) (ki, ow, mr, va, fi, sz) k) ∧ u.2.2.2.2.2.1 < 40 ∧ u.2.2.2.2.2.2 ≤ 40) (fun (u : SerS × LaneS) t => kQ G [(a 0, .inr (3, [.ref (b 0), .ref (d 0), .ref (a 1), .ref (a 2), .ref (a 3), .ref (a 4), .ref (a 5), .int u.1.2.2.2.2.2])), (a 1, .inl (cI, 40, .inl u.1.1)), (a 2, .inl (cI, 40, .inl u.1.2.1)), (a 3, .inl (cI, 40, .inl u.1.2.2.1)), (a 4, .inl (cI, 40, .inl u.1.2.2.2.1)), (a 5, .inl (cI, 40, .inl u.1.2.2.2.2.1)), (b 0, .inr (0, [.ref (b 1), .ref (b 2), .ref (b 3), .int (nI n)])), (b 1, .inl (cI, 40, .inl me)), (b 2, .inl (cI, 40, .inl ar)), (b 3, .inl (cI, 40, .inl dl)), (d 0, .inr (2, [.ref (d 1), .ref (d 2), .ref (d 3), .ref (d 4), .int (nI u.2.2.2.2.2.1), .int (nI u.2.2.2.2.2.2)])), (d 1, .inl (cI, 40, .inl u.2.1)), (d 2, .inl (cI, 40, .inl u.2.2.1)), (d 3, .inl (cI, 40, .inl u.2.2.2.1)), (d 4, .inl (cI, 40, .inl u.2.2.2.2.1))] (va_A [(a 0, .inr (3, [.ref (b 0), .ref (d 0), .ref (a 1), .ref (a 2), .ref (a 3), .ref (a 4), .ref (a 5), .int ad])), (a 1, .inl (cI, 40, .inl ss)), (a 2, .inl (cI, 40, .inl cr)), (a 3, .inl (cI, 40, .inl se)), (a 4, .inl (cI, 40, .inl re)), (a 5, .inl (cI, 40, .inl sv)), (b 0, .inr (0, [.ref (b 1), .ref (b 2), .ref (b 3), .int (nI n)])), (b 1, .inl (cI, 40, .inl me)), (b 2, .inl (cI, 40, .inl ar)), (b 3, .inl (cI, 40, .inl dl)), (d 0, .inr (2, [.ref (d 1), .ref (d 2), .ref (d 3), .ref (d 4), .int (nI fi), .int (nI sz)])), (d 1, .inl (cI, 40, .inl ki)), (d 2, .inl (cI, 40, .inl ow)), (d 3, .inl (cI, 40, .inl mr)), (d 4, .inl (cI, 40, .inl va))] zz) t) (va_A [(a 0, .inr (3, [.ref (b 0), .ref (d 0), .ref (a 1), .ref (a 2), .ref (a 3), .ref (a 4), .ref (a 5), .int ad])), (a 1, .inl (cI, 40, .inl ss)), (a 2, .inl (cI, 40, .inl cr)), (a 3, .inl (cI, 40, .inl se)), (a 4, .inl (cI, 40, .inl re)), (a 5, .inl (cI, 40, .inl sv)), (b 0, .inr (0, [.ref (b 1), .ref (b 2), .ref (b 3), .int (nI n)])), (b 1, .inl (cI, 40, .inl me)), (b 2, .inl (cI, 40, .inl ar)), (b 3, .inl (cI, 40, .inl dl)), (d 0, .inr (2, [.ref (d 1), .ref (d 2), .ref (d 3), .ref (d 4), .int (nI fi), .int (nI sz)])), (d 1, .inl (cI, 40, .inl ki)), (d 2, .inl (cI, 40, .inl ow)), (d 3, .inl (cI, 40, .inl mr)), (d 4, .inl (cI, 40, .inl va))] zz)) 0 0 (va_A [(a 0, .inr (3, [.ref (b 0), .ref (d 0), .ref (a 1), .ref (a 2), .ref (a 3), .ref (a 4), .ref (a 5), .int ad])), (a 1, .inl (cI, 40, .inl ss)), (a 2, .inl (cI, 40, .inl cr)), (a 3, .inl (cI, 40, .inl se)), (a 4, .inl (cI, 40, .inl re)), (a 5, .inl (cI, 40, .inl sv)), (b 0, .inr (0, [.ref (b 1), .ref (b 2), .ref (b 3), .int (nI n)])), (b 1, .inl (cI, 40, .inl me)), (b 2, .inl (cI, 40, .inl ar)), (b 3, .inl (cI, 40, .inl dl)), (d 0, .inr (2, [.ref (d 1), .ref (d 2), .ref (d 3), .ref (d 4), .int (nI fi), .int (nI sz)])), (d 1, .inl (cI, 40, .inl ki)), (d 2, .inl (cI, 40, .inl ow)), (d 3, .inl (cI, 40, .inl mr)), (d 4, .inl (cI, 40, .inl va))] zz) := by
  refine Met.ofW (cc := cX3_perform) (maxL := 4) (ret := none) (by decide) rfl ?_
  intro p e s m args below meth c s₁ B hml hv
  obtain ⟨rfl, hsz, hP, hK, hD0, hN⟩ := hv
  have hx := B.exec
  have hb := B.bytes
  have hr := B.returns
  have hts := atoms_spec (ws := wsX3_perform) B.pre
  have hown : s.vm.findClass RX3 = some m.cls := findClass_of_methodNamed B.named
  have hlocks := B.notSynchronized
  subst hsz
  have hD := hD0.self (sz := s.heap.size)
  generalize hAe : va_A [(a 0, .inr (3, [.ref (b 0), .ref (d 0), .ref (a 1), .ref (a 2), .ref (a 3), .ref (a 4), .ref (a 5), .int ad])), (a 1, .inl (cI, 40, .inl ss)), (a 2, .inl (cI, 40, .inl cr)), (a 3, .inl (cI, 40, .inl se)), (a 4, .inl (cI, 40, .inl re)), (a 5, .inl (cI, 40, .inl sv)), (b 0, .inr (0, [.ref (b 1), .ref (b 2), .ref (b 3), .int (nI n)])), (b 1, .inl (cI, 40, .inl me)), (b 2, .inl (cI, 40, .inl ar)), (b 3, .inl (cI, 40, .inl dl)), (d 0, .inr (2, [.ref (d 1), .ref (d 2), .ref (d 3), .ref (d 4), .int (nI fi), .int (nI sz)])), (d 1, .inl (cI, 40, .inl ki)), (d 2, .inl (cI, 40, .inl ow)), (d 3, .inl (cI, 40, .inl mr)), (d 4, .inl (cI, 40, .inl va))] s.heap.size = A at hD hN ⊢
  have hA : ∀ q : Nat, s.heap.size ≤ q → A q := fun q h => by rw [← hAe]; exact Or.inr h
  have hS : va_S A s.heap s.heap [] := va_S.rf
  have hl := lv_entry ([.ref (a 0), .int (nI k)]) (n := 4) (Nat.le_of_ble_eq_true rfl)
  rw [lg_entry_eq]
  generalize (lg_sl ([.ref (a 0), .int (nI k)]) ++ List.replicate (4 - (lg_sl ([.ref (a 0), .int (nI k)])).length) Slot.unset).toArray = ls at hl ⊢
  have hl : lv_has ls 4 [(0, .ref (a 0)), (1, .int (nI k))] := hl
  have hP : va_P G vwCl [(a 0, .inr (3, [.ref (b 0), .ref (d 0), .ref (a 1), .ref (a 2), .ref (a 3), .ref (a 4), .ref (a 5), .int ad])), (a 1, .inl (cI, 40, .inl ss)), (a 2, .inl (cI, 40, .inl cr)), (a 3, .inl (cI, 40, .inl se)), (a 4, .inl (cI, 40, .inl re)), (a 5, .inl (cI, 40, .inl sv)), (b 0, .inr (0, [.ref (b 1), .ref (b 2), .ref (b 3), .int (nI n)])), (b 1, .inl (cI, 40, .inl me)), (b 2, .inl (cI, 40, .inl ar)), (b 3, .inl (cI, 40, .inl dl)), (d 0, .inr (2, [.ref (d 1), .ref (d 2), .ref (d 3), .ref (d 4), .int (nI fi), .int (nI sz)])), (d 1, .inl (cI, 40, .inl ki)), (d 2, .inl (cI, 40, .inl ow)), (d 3, .inl (cI, 40, .inl mr)), (d 4, .inl (cI, 40, .inl va))] s.heap := hP
  obtain ⟨H, hH⟩ : ∃ H, H = s.heap := ⟨_, rfl⟩
  rw [← hH] at hP
  have hS : va_S A s.heap H [] := by rw [hH]; exact hS
  show W _ _ _ _ _ _ _ _ _ _ s.heap _ _ _ _ _
  rw [← hH]
  obtain ⟨locs, hlo⟩ : ∃ z : List Loc, z = [] := ⟨_, rfl⟩
  rw [← hlo] at hS ⊢
  refine lv_aload_n hx hb dX3_perform_0 rfl (lv_at hl 0 rfl) ?_
  refine va_get (D := G) (ci := 3) (v := .ref (b 0)) (C := RX3) (T := TX3) (N := 8) hx hb hts hi_X3_perform_X3 hown hK hP 0 rfl rfl 0 (by decide) (hts _ hk_X3_perform_f27) (fun _ h9 => h9) rfl dX3_perform_1 ?_
  refine va_getN (D := G) (ci := 0) (v := .ref (b 1)) (C := RX0) (T := TX0) (N := 4) hx hb hts hi_X3_perform_X0 hown hK hP 6 rfl rfl 0 (by decide) (va_Nw.use rfl (hN.1 _ (List.mem_of_getElem? (i := 2) rfl))) (fun _ h9 => h9) rfl dX3_perform_4 ?_
  refine lv_iload_n hx hb dX3_perform_7 rfl (lv_at hl 1 rfl) ?_
  refine gz_iald hx hb hK hP 7 rfl rfl (k := k) rfl (by omega) (by decide) dX3_perform_8 ?_
  refine lv_istore_n (lv' := [(2, .int (me k)), (0, .ref (a 0)), (1, .int (nI k))]) hx hb dX3_perform_9 rfl hl (by decide) rfl (fun ls hl => ?_)
  refine lv_aload_n hx hb dX3_perform_10 rfl (lv_at hl 1 rfl) ?_
  refine lv_iload_n hx hb dX3_perform_11 rfl (lv_at hl 0 rfl) ?_
  refine lv_aload_n hx hb dX3_perform_12 rfl (lv_at hl 1 rfl) ?_
  refine va_get (D := G) (ci := 3) (v := .ref (b 0)) (C := RX3) (T := TX3) (N := 8) hx hb hts hi_X3_perform_X3 hown hK hP 0 rfl rfl 0 (by decide) (hts _ hk_X3_perform_f27) (fun _ h9 => h9) rfl dX3_perform_13 ?_
  refine va_getN (D := G) (ci := 0) (v := .ref (b 2)) (C := RX0) (T := TX0) (N := 4) hx hb hts hi_X3_perform_X0 hown hK hP 6 rfl rfl 1 (by decide) (va_Nw.use rfl (hN.1 _ (List.mem_of_getElem? (i := 4) rfl))) (fun _ h9 => h9) rfl dX3_perform_16 ?_
  refine lv_iload_n hx hb dX3_perform_19 rfl (lv_at hl 2 rfl) ?_
  refine gz_iald hx hb hK hP 8 rfl rfl (k := k) rfl (by omega) (by decide) dX3_perform_20 ?_
  refine k_calli (S := Unit) (wc := [(a 0, .inr (3, [.ref (b 0), .ref (d 0), .ref (a 1), .ref (a 2), .ref (a 3), .ref (a 4), .ref (a 5), .int ad])), (a 1, .inl (cI, 40, .inl ss)), (a 2, .inl (cI, 40, .inl cr)), (a 3, .inl (cI, 40, .inl se)), (a 4, .inl (cI, 40, .inl re)), (a 5, .inl (cI, 40, .inl sv)), (b 0, .inr (0, [.ref (b 1), .ref (b 2), .ref (b 3), .int (nI n)])), (b 1, .inl (cI, 40, .inl me)), (b 2, .inl (cI, 40, .inl ar)), (b 3, .inl (cI, 40, .inl dl)), (d 0, .inr (2, [.ref (d 1), .ref (d 2), .ref (d 3), .ref (d 4), .int (nI fi), .int (nI sz)])), (d 1, .inl (cI, 40, .inl ki)), (d 2, .inl (cI, 40, .inl ow)), (d 3, .inl (cI, 40, .inl mr)), (d 4, .inl (cI, 40, .inl va))]) (wr := []) (w1 := fun u => [(a 0, .inr (3, [.ref (b 0), .ref (d 0), .ref (a 1), .ref (a 2), .ref (a 3), .ref (a 4), .ref (a 5), .int ad])), (a 1, .inl (cI, 40, .inl ss)), (a 2, .inl (cI, 40, .inl cr)), (a 3, .inl (cI, 40, .inl se)), (a 4, .inl (cI, 40, .inl re)), (a 5, .inl (cI, 40, .inl sv)), (b 0, .inr (0, [.ref (b 1), .ref (b 2), .ref (b 3), .int (nI n)])), (b 1, .inl (cI, 40, .inl me)), (b 2, .inl (cI, 40, .inl ar)), (b 3, .inl (cI, 40, .inl dl)), (d 0, .inr (2, [.ref (d 1), .ref (d 2), .ref (d 3), .ref (d 4), .int (nI fi), .int (nI sz)])), (d 1, .inl (cI, 40, .inl ki)), (d 2, .inl (cI, 40, .inl ow)), (d 3, .inl (cI, 40, .inl mr)), (d 4, .inl (cI, 40, .inl va))]) (w2 := fun u => [(a 0, .inr (3, [.ref (b 0), .ref (d 0), .ref (a 1), .ref (a 2), .ref (a 3), .ref (a 4), .ref (a 5), .int ad])), (a 1, .inl (cI, 40, .inl ss)), (a 2, .inl (cI, 40, .inl cr)), (a 3, .inl (cI, 40, .inl se)), (a 4, .inl (cI, 40, .inl re)), (a 5, .inl (cI, 40, .inl sv)), (b 0, .inr (0, [.ref (b 1), .ref (b 2), .ref (b 3), .int (nI n)])), (b 1, .inl (cI, 40, .inl me)), (b 2, .inl (cI, 40, .inl ar)), (b 3, .inl (cI, 40, .inl dl)), (d 0, .inr (2, [.ref (d 1), .ref (d 2), .ref (d 3), .ref (d 4), .int (nI fi), .int (nI sz)])), (d 1, .inl (cI, 40, .inl ki)), (d 2, .inl (cI, 40, .inl ow)), (d 3, .inl (cI, 40, .inl mr)), (d 4, .inl (cI, 40, .inl va))]) (va_runV (As := [.int (me k), .int (ar k)]) (rest := []) ⟨hx, hb, hml, hown, hts⟩ (c_X3_answerOf l G cI a b d ss cr se re sv ad me ar dl n ki ow mr va fi sz (me k) (ar k) (by first | omega | assumption) (by first | omega | assumption) (by first | omega | assumption) H.size) (cwV 2 hts gX3_perform_X3_answerOf rfl rfl rfl (by decide +kernel) ⟨Nat.le_of_ble_eq_true rfl, Nat.le_of_ble_eq_true rfl⟩) ⟨kPre.blind, va_recv hK hP (ci := 3) (q0 := 0) rfl rfl, kPre.at hP hK hD hS hA hN [0, 1, 2, 3, 4, 5, 6, 7, 8, 9, 10, 11, 12, 13, 14] rfl rfl⟩ rfl rfl hl.1 rfl (lv_room (Nat.le_of_ble_eq_true rfl)) dX3_perform_21 ⟨Nat.le_of_ble_eq_true rfl, Nat.le_of_ble_eq_true rfl⟩) hP hD hS hA [0, 1, 2, 3, 4, 5, 6, 7, 8, 9, 10, 11, 12, 13, 14] [] [0, 1, 2, 3, 4, 5, 6, 7, 8, 9, 10, 11, 12, 13, 14] rfl rfl ⟨rfl, by decide, rfl⟩ (fun _ => rfl) (fun r_1 u H locs hw_1 hP hD hS => ?_)
  have hP : va_P G vwCl [(a 0, .inr (3, [.ref (b 0), .ref (d 0), .ref (a 1), .ref (a 2), .ref (a 3), .ref (a 4), .ref (a 5), .int ad])), (a 1, .inl (cI, 40, .inl ss)), (a 2, .inl (cI, 40, .inl cr)), (a 3, .inl (cI, 40, .inl se)), (a 4, .inl (cI, 40, .inl re)), (a 5, .inl (cI, 40, .inl sv)), (b 0, .inr (0, [.ref (b 1), .ref (b 2), .ref (b 3), .int (nI n)])), (b 1, .inl (cI, 40, .inl me)), (b 2, .inl (cI, 40, .inl ar)), (b 3, .inl (cI, 40, .inl dl)), (d 0, .inr (2, [.ref (d 1), .ref (d 2), .ref (d 3), .ref (d 4), .int (nI fi), .int (nI sz)])), (d 1, .inl (cI, 40, .inl ki)), (d 2, .inl (cI, 40, .inl ow)), (d 3, .inl (cI, 40, .inl mr)), (d 4, .inl (cI, 40, .inl va))] H := hP
  have hD : va_D A [(a 0, .inr (3, [.ref (b 0), .ref (d 0), .ref (a 1), .ref (a 2), .ref (a 3), .ref (a 4), .ref (a 5), .int ad])), (a 1, .inl (cI, 40, .inl ss)), (a 2, .inl (cI, 40, .inl cr)), (a 3, .inl (cI, 40, .inl se)), (a 4, .inl (cI, 40, .inl re)), (a 5, .inl (cI, 40, .inl sv)), (b 0, .inr (0, [.ref (b 1), .ref (b 2), .ref (b 3), .int (nI n)])), (b 1, .inl (cI, 40, .inl me)), (b 2, .inl (cI, 40, .inl ar)), (b 3, .inl (cI, 40, .inl dl)), (d 0, .inr (2, [.ref (d 1), .ref (d 2), .ref (d 3), .ref (d 4), .int (nI fi), .int (nI sz)])), (d 1, .inl (cI, 40, .inl ki)), (d 2, .inl (cI, 40, .inl ow)), (d 3, .inl (cI, 40, .inl mr)), (d 4, .inl (cI, 40, .inl va))] := hD
  refine lv_istore_n (lv' := [(3, .int r_1), (2, .int (me k)), (0, .ref (a 0)), (1, .int (nI k))]) hx hb dX3_perform_24 rfl hl (by decide) rfl (fun ls hl => ?_)
  refine lv_iload_n hx hb dX3_perform_25 rfl (lv_at hl 1 rfl) ?_
  refine lv_iconst (v := nI 1) hx hb dX3_perform_26 (by decide +kernel) ?_
  refine lv_icmp_ne (tgt := 35) hx hb dX3_perform_27 (by decide) (fun c_2 => ?_) (fun c_2 => ?_)
  · skip
    refine lv_aload_n hx hb dX3_perform_35 rfl (lv_at hl 2 rfl) ?_
    refine va_get (D := G) (ci := 3) (v := .ref (a 4)) (C := RX3) (T := TX3) (N := 8) hx hb hts hi_X3_perform_X3 hown hK hP 0 rfl rfl 5 (by decide) (hts _ hk_X3_perform_f21) (fun _ h9 => h9) rfl dX3_perform_36 ?_
    refine lv_iload_n hx hb dX3_perform_39 rfl (lv_at hl 3 rfl) ?_
    refine lv_iload_n hx hb dX3_perform_40 rfl (lv_at hl 1 rfl) ?_
    refine lv_iconst (v := nI 2) hx hb dX3_perform_41 (by decide +kernel) ?_
    refine lv_icmp_ne (tgt := 49) hx hb dX3_perform_42 (by decide) (fun c_3 => ?_) (fun c_3 => ?_)
    · skip
      refine lv_iconst (v := nI 0) hx hb dX3_perform_49 (by decide +kernel) ?_
      refine gz_iast hx hb hK hP hD hS 4 rfl rfl (k := k) rfl (by omega) (by decide) dX3_perform_50 (fun H locs hP hD hS => ?_)
      have hP : va_P G vwCl [(a 0, .inr (3, [.ref (b 0), .ref (d 0), .ref (a 1), .ref (a 2), .ref (a 3), .ref (a 4), .ref (a 5), .int ad])), (a 1, .inl (cI, 40, .inl ss)), (a 2, .inl (cI, 40, .inl cr)), (a 3, .inl (cI, 40, .inl se)), (a 4, .inl (cI, 40, .inl (upd re k (nI 0)))), (a 5, .inl (cI, 40, .inl sv)), (b 0, .inr (0, [.ref (b 1), .ref (b 2), .ref (b 3), .int (nI n)])), (b 1, .inl (cI, 40, .inl me)), (b 2, .inl (cI, 40, .inl ar)), (b 3, .inl (cI, 40, .inl dl)), (d 0, .inr (2, [.ref (d 1), .ref (d 2), .ref (d 3), .ref (d 4), .int (nI fi), .int (nI sz)])), (d 1, .inl (cI, 40, .inl ki)), (d 2, .inl (cI, 40, .inl ow)), (d 3, .inl (cI, 40, .inl mr)), (d 4, .inl (cI, 40, .inl va))] H := hP
      have hD : va_D A [(a 0, .inr (3, [.ref (b 0), .ref (d 0), .ref (a 1), .ref (a 2), .ref (a 3), .ref (a 4), .ref (a 5), .int ad])), (a 1, .inl (cI, 40, .inl ss)), (a 2, .inl (cI, 40, .inl cr)), (a 3, .inl (cI, 40, .inl se)), (a 4, .inl (cI, 40, .inl (upd re k (nI 0)))), (a 5, .inl (cI, 40, .inl sv)), (b 0, .inr (0, [.ref (b 1), .ref (b 2), .ref (b 3), .int (nI n)])), (b 1, .inl (cI, 40, .inl me)), (b 2, .inl (cI, 40, .inl ar)), (b 3, .inl (cI, 40, .inl dl)), (d 0, .inr (2, [.ref (d 1), .ref (d 2), .ref (d 3), .ref (d 4), .int (nI fi), .int (nI sz)])), (d 1, .inl (cI, 40, .inl ki)), (d 2, .inl (cI, 40, .inl ow)), (d 3, .inl (cI, 40, .inl mr)), (d 4, .inl (cI, 40, .inl va))] := hD
      refine lv_aload_n hx hb dX3_perform_51 rfl (lv_at hl 2 rfl) ?_
      refine va_get (D := G) (ci := 3) (v := .ref (a 5)) (C := RX3) (T := TX3) (N := 8) hx hb hts hi_X3_perform_X3 hown hK hP 0 rfl rfl 6 (by decide) (hts _ hk_X3_perform_f24) (fun _ h9 => h9) rfl dX3_perform_52 ?_
      refine lv_iload_n hx hb dX3_perform_55 rfl (lv_at hl 3 rfl) ?_
      refine lv_iload_n hx hb dX3_perform_56 rfl (lv_at hl 0 rfl) ?_
      refine gz_iast hx hb hK hP hD hS 5 rfl rfl (k := k) rfl (by omega) (by decide) dX3_perform_57 (fun H locs hP hD hS => ?_)
      have hP : va_P G vwCl [(a 0, .inr (3, [.ref (b 0), .ref (d 0), .ref (a 1), .ref (a 2), .ref (a 3), .ref (a 4), .ref (a 5), .int ad])), (a 1, .inl (cI, 40, .inl ss)), (a 2, .inl (cI, 40, .inl cr)), (a 3, .inl (cI, 40, .inl se)), (a 4, .inl (cI, 40, .inl (upd re k (nI 0)))), (a 5, .inl (cI, 40, .inl (upd sv k r_1))), (b 0, .inr (0, [.ref (b 1), .ref (b 2), .ref (b 3), .int (nI n)])), (b 1, .inl (cI, 40, .inl me)), (b 2, .inl (cI, 40, .inl ar)), (b 3, .inl (cI, 40, .inl dl)), (d 0, .inr (2, [.ref (d 1), .ref (d 2), .ref (d 3), .ref (d 4), .int (nI fi), .int (nI sz)])), (d 1, .inl (cI, 40, .inl ki)), (d 2, .inl (cI, 40, .inl ow)), (d 3, .inl (cI, 40, .inl mr)), (d 4, .inl (cI, 40, .inl va))] H := hP
      have hD : va_D A [(a 0, .inr (3, [.ref (b 0), .ref (d 0), .ref (a 1), .ref (a 2), .ref (a 3), .ref (a 4), .ref (a 5), .int ad])), (a 1, .inl (cI, 40, .inl ss)), (a 2, .inl (cI, 40, .inl cr)), (a 3, .inl (cI, 40, .inl se)), (a 4, .inl (cI, 40, .inl (upd re k (nI 0)))), (a 5, .inl (cI, 40, .inl (upd sv k r_1))), (b 0, .inr (0, [.ref (b 1), .ref (b 2), .ref (b 3), .int (nI n)])), (b 1, .inl (cI, 40, .inl me)), (b 2, .inl (cI, 40, .inl ar)), (b 3, .inl (cI, 40, .inl dl)), (d 0, .inr (2, [.ref (d 1), .ref (d 2), .ref (d 3), .ref (d 4), .int (nI fi), .int (nI sz)])), (d 1, .inl (cI, 40, .inl ki)), (d 2, .inl (cI, 40, .inl ow)), (d 3, .inl (cI, 40, .inl mr)), (d 4, .inl (cI, 40, .inl va))] := hD
      refine lv_aload_n hx hb dX3_perform_58 rfl (lv_at hl 2 rfl) ?_
      refine va_get (D := G) (ci := 3) (v := .ref (a 1)) (C := RX3) (T := TX3) (N := 8) hx hb hts hi_X3_perform_X3 hown hK hP 0 rfl rfl 2 (by decide) (hts _ hk_X3_perform_f9) (fun _ h9 => h9) rfl dX3_perform_59 ?_
      refine lv_iload_n hx hb dX3_perform_62 rfl (lv_at hl 3 rfl) ?_
      refine lv_iconst (v := nI 2) hx hb dX3_perform_63 (by decide +kernel) ?_
      refine gz_iast hx hb hK hP hD hS 1 rfl rfl (k := k) rfl (by omega) (by decide) dX3_perform_64 (fun H locs hP hD hS => ?_)
      have hP : va_P G vwCl [(a 0, .inr (3, [.ref (b 0), .ref (d 0), .ref (a 1), .ref (a 2), .ref (a 3), .ref (a 4), .ref (a 5), .int ad])), (a 1, .inl (cI, 40, .inl (upd ss k (nI 2)))), (a 2, .inl (cI, 40, .inl cr)), (a 3, .inl (cI, 40, .inl se)), (a 4, .inl (cI, 40, .inl (upd re k (nI 0)))), (a 5, .inl (cI, 40, .inl (upd sv k r_1))), (b 0, .inr (0, [.ref (b 1), .ref (b 2), .ref (b 3), .int (nI n)])), (b 1, .inl (cI, 40, .inl me)), (b 2, .inl (cI, 40, .inl ar)), (b 3, .inl (cI, 40, .inl dl)), (d 0, .inr (2, [.ref (d 1), .ref (d 2), .ref (d 3), .ref (d 4), .int (nI fi), .int (nI sz)])), (d 1, .inl (cI, 40, .inl ki)), (d 2, .inl (cI, 40, .inl ow)), (d 3, .inl (cI, 40, .inl mr)), (d 4, .inl (cI, 40, .inl va))] H := hP
      have hD : va_D A [(a 0, .inr (3, [.ref (b 0), .ref (d 0), .ref (a 1), .ref (a 2), .ref (a 3), .ref (a 4), .ref (a 5), .int ad])), (a 1, .inl (cI, 40, .inl (upd ss k (nI 2)))), (a 2, .inl (cI, 40, .inl cr)), (a 3, .inl (cI, 40, .inl se)), (a 4, .inl (cI, 40, .inl (upd re k (nI 0)))), (a 5, .inl (cI, 40, .inl (upd sv k r_1))), (b 0, .inr (0, [.ref (b 1), .ref (b 2), .ref (b 3), .int (nI n)])), (b 1, .inl (cI, 40, .inl me)), (b 2, .inl (cI, 40, .inl ar)), (b 3, .inl (cI, 40, .inl dl)), (d 0, .inr (2, [.ref (d 1), .ref (d 2), .ref (d 3), .ref (d 4), .int (nI fi), .int (nI sz)])), (d 1, .inl (cI, 40, .inl ki)), (d 2, .inl (cI, 40, .inl ow)), (d 3, .inl (cI, 40, .inl mr)), (d 4, .inl (cI, 40, .inl va))] := hD
      refine lv_aload_n hx hb dX3_perform_65 rfl (lv_at hl 2 rfl) ?_
      refine lv_iload_n hx hb dX3_perform_66 rfl (lv_at hl 3 rfl) ?_
      refine k_callv (S := LaneS) (wc := [(a 0, .inr (3, [.ref (b 0), .ref (d 0), .ref (a 1), .ref (a 2), .ref (a 3), .ref (a 4), .ref (a 5), .int ad])), (a 1, .inl (cI, 40, .inl (upd ss k (nI 2)))), (a 2, .inl (cI, 40, .inl cr)), (a 3, .inl (cI, 40, .inl se)), (a 4, .inl (cI, 40, .inl (upd re k (nI 0)))), (a 5, .inl (cI, 40, .inl (upd sv k r_1))), (b 0, .inr (0, [.ref (b 1), .ref (b 2), .ref (b 3), .int (nI n)])), (b 1, .inl (cI, 40, .inl me)), (b 2, .inl (cI, 40, .inl ar)), (b 3, .inl (cI, 40, .inl dl)), (d 0, .inr (2, [.ref (d 1), .ref (d 2), .ref (d 3), .ref (d 4), .int (nI fi), .int (nI sz)])), (d 1, .inl (cI, 40, .inl ki)), (d 2, .inl (cI, 40, .inl ow)), (d 3, .inl (cI, 40, .inl mr)), (d 4, .inl (cI, 40, .inl va))]) (wr := []) (w1 := fun u => [(a 0, .inr (3, [.ref (b 0), .ref (d 0), .ref (a 1), .ref (a 2), .ref (a 3), .ref (a 4), .ref (a 5), .int ad])), (a 1, .inl (cI, 40, .inl (upd ss k (nI 2)))), (a 2, .inl (cI, 40, .inl cr)), (a 3, .inl (cI, 40, .inl se)), (a 4, .inl (cI, 40, .inl (upd re k (nI 0)))), (a 5, .inl (cI, 40, .inl (upd sv k r_1))), (b 0, .inr (0, [.ref (b 1), .ref (b 2), .ref (b 3), .int (nI n)])), (b 1, .inl (cI, 40, .inl me)), (b 2, .inl (cI, 40, .inl ar)), (b 3, .inl (cI, 40, .inl dl)), (d 0, .inr (2, [.ref (d 1), .ref (d 2), .ref (d 3), .ref (d 4), .int (nI u.2.2.2.2.1), .int (nI u.2.2.2.2.2)])), (d 1, .inl (cI, 40, .inl u.1)), (d 2, .inl (cI, 40, .inl u.2.1)), (d 3, .inl (cI, 40, .inl u.2.2.1)), (d 4, .inl (cI, 40, .inl u.2.2.2.1))]) (w2 := fun u => [(a 0, .inr (3, [.ref (b 0), .ref (d 0), .ref (a 1), .ref (a 2), .ref (a 3), .ref (a 4), .ref (a 5), .int ad])), (a 1, .inl (cI, 40, .inl (upd ss k (nI 2)))), (a 2, .inl (cI, 40, .inl cr)), (a 3, .inl (cI, 40, .inl se)), (a 4, .inl (cI, 40, .inl (upd re k (nI 0)))), (a 5, .inl (cI, 40, .inl (upd sv k r_1))), (b 0, .inr (0, [.ref (b 1), .ref (b 2), .ref (b 3), .int (nI n)])), (b 1, .inl (cI, 40, .inl me)), (b 2, .inl (cI, 40, .inl ar)), (b 3, .inl (cI, 40, .inl dl)), (d 0, .inr (2, [.ref (d 1), .ref (d 2), .ref (d 3), .ref (d 4), .int (nI u.2.2.2.2.1), .int (nI u.2.2.2.2.2)])), (d 1, .inl (cI, 40, .inl u.1)), (d 2, .inl (cI, 40, .inl u.2.1)), (d 3, .inl (cI, 40, .inl u.2.2.1)), (d 4, .inl (cI, 40, .inl u.2.2.2.1))]) (va_runV (As := [.int (nI k)]) (rest := []) ⟨hx, hb, hml, hown, hts⟩ (c_X3_sendAnswer l G cI a b d (upd ss k (nI 2)) cr se (upd re k (nI 0)) (upd sv k r_1) ad me ar dl n ki ow mr va fi sz k (by first | omega | assumption) (by first | omega | assumption) (by first | omega | assumption) (by first | omega | assumption) H.size) (cwV 1 hts gX3_perform_X3_sendAnswer rfl rfl rfl (by decide +kernel) ⟨Nat.le_of_ble_eq_true rfl, Nat.le_of_ble_eq_true rfl⟩) ⟨kPre.blind, va_recv hK hP (ci := 3) (q0 := 0) rfl rfl, kPre.at hP hK hD hS hA hN [0, 1, 2, 3, 4, 5, 6, 7, 8, 9, 10, 11, 12, 13, 14] rfl rfl⟩ rfl rfl hl.1 rfl (lv_room (Nat.le_of_ble_eq_true rfl)) dX3_perform_67 ⟨Nat.le_of_ble_eq_true rfl, Nat.le_of_ble_eq_true rfl⟩) hP hD hS hA [0, 1, 2, 3, 4, 5, 6, 7, 8, 9, 10, 11, 12, 13, 14] [] [0, 1, 2, 3, 4, 5, 6, 7, 8, 9, 10, 11, 12, 13, 14] rfl rfl ⟨rfl, by decide, rfl⟩ (fun _ => rfl) (fun u H locs hw_4 hP hD hS => ?_)
      obtain ⟨ki_4, ow_4, mr_4, va_4, fi_4, sz_4⟩ := u
      obtain ⟨hw_4, hf_4, hs_4⟩ := hw_4
      have hf_4 : fi_4 < 40 := hf_4
      have hs_4 : sz_4 ≤ 40 := hs_4
      have hw_4 : ((ki_4, ow_4, mr_4, va_4, fi_4, sz_4) : LaneS) = s_sendA ((upd ss k (nI 2)), cr, se, (upd re k (nI 0)), (upd sv k r_1), ad) (ki, ow, mr, va, fi, sz) k := hw_4
      have hP : va_P G vwCl [(a 0, .inr (3, [.ref (b 0), .ref (d 0), .ref (a 1), .ref (a 2), .ref (a 3), .ref (a 4), .ref (a 5), .int ad])), (a 1, .inl (cI, 40, .inl (upd ss k (nI 2)))), (a 2, .inl (cI, 40, .inl cr)), (a 3, .inl (cI, 40, .inl se)), (a 4, .inl (cI, 40, .inl (upd re k (nI 0)))), (a 5, .inl (cI, 40, .inl (upd sv k r_1))), (b 0, .inr (0, [.ref (b 1), .ref (b 2), .ref (b 3), .int (nI n)])), (b 1, .inl (cI, 40, .inl me)), (b 2, .inl (cI, 40, .inl ar)), (b 3, .inl (cI, 40, .inl dl)), (d 0, .inr (2, [.ref (d 1), .ref (d 2), .ref (d 3), .ref (d 4), .int (nI fi_4), .int (nI sz_4)])), (d 1, .inl (cI, 40, .inl ki_4)), (d 2, .inl (cI, 40, .inl ow_4)), (d 3, .inl (cI, 40, .inl mr_4)), (d 4, .inl (cI, 40, .inl va_4))] H := hP
      have hD : va_D A [(a 0, .inr (3, [.ref (b 0), .ref (d 0), .ref (a 1), .ref (a 2), .ref (a 3), .ref (a 4), .ref (a 5), .int ad])), (a 1, .inl (cI, 40, .inl (upd ss k (nI 2)))), (a 2, .inl (cI, 40, .inl cr)), (a 3, .inl (cI, 40, .inl se)), (a 4, .inl (cI, 40, .inl (upd re k (nI 0)))), (a 5, .inl (cI, 40, .inl (upd sv k r_1))), (b 0, .inr (0, [.ref (b 1), .ref (b 2), .ref (b 3), .int (nI n)])), (b 1, .inl (cI, 40, .inl me)), (b 2, .inl (cI, 40, .inl ar)), (b 3, .inl (cI, 40, .inl dl)), (d 0, .inr (2, [.ref (d 1), .ref (d 2), .ref (d 3), .ref (d 4), .int (nI fi_4), .int (nI sz_4)])), (d 1, .inl (cI, 40, .inl ki_4)), (d 2, .inl (cI, 40, .inl ow_4)), (d 3, .inl (cI, 40, .inl mr_4)), (d 4, .inl (cI, 40, .inl va_4))] := hD
      have hS9 := hS.2.2
      have hq9 : ((((upd ss k (nI 2), cr, se, upd re k (nI 0), upd sv k r_1, ad), (ki_4, ow_4, mr_4, va_4, fi_4, sz_4)) : SerS × LaneS) = s_perf me ar (ss, cr, se, re, sv, ad) (ki, ow, mr, va, fi, sz) k) ∧ fi_4 < 40 ∧ sz_4 ≤ 40 := by refine ⟨?_, by omega, by omega⟩; simp only [s_perf, ↓reduceIte, eq_self, nI_10, and_true, true_and, and_false, false_and, not_true_eq_false, not_false_eq_true, Bool.and_true, Bool.true_and, Bool.and_false, Bool.false_and, decide_true, decide_false, Bool.false_eq_true, ← hw_1, eq_false c_2, eq_false c_3, ← hw_4]
      exact W.vret hx hb hr (fun t ht hW => ⟨⟨((upd ss k (nI 2), cr, se, upd re k (nI 0), upd sv k r_1, ad), (ki_4, ow_4, mr_4, va_4, fi_4, sz_4)), rfl, hq9, by rw [ht]; exact hP, hD⟩, hS.F ht⟩) hS9 dX3_perform_70
    · skip
      refine lv_iconst (v := nI 3) hx hb dX3_perform_45 (by decide +kernel) ?_
      refine lv_goto (tgt := 50) hx hb dX3_perform_46 (by decide) ?_
      refine gz_iast hx hb hK hP hD hS 4 rfl rfl (k := k) rfl (by omega) (by decide) dX3_perform_50 (fun H locs hP hD hS => ?_)
      have hP : va_P G vwCl [(a 0, .inr (3, [.ref (b 0), .ref (d 0), .ref (a 1), .ref (a 2), .ref (a 3), .ref (a 4), .ref (a 5), .int ad])), (a 1, .inl (cI, 40, .inl ss)), (a 2, .inl (cI, 40, .inl cr)), (a 3, .inl (cI, 40, .inl se)), (a 4, .inl (cI, 40, .inl (upd re k (nI 3)))), (a 5, .inl (cI, 40, .inl sv)), (b 0, .inr (0, [.ref (b 1), .ref (b 2), .ref (b 3), .int (nI n)])), (b 1, .inl (cI, 40, .inl me)), (b 2, .inl (cI, 40, .inl ar)), (b 3, .inl (cI, 40, .inl dl)), (d 0, .inr (2, [.ref (d 1), .ref (d 2), .ref (d 3), .ref (d 4), .int (nI fi), .int (nI sz)])), (d 1, .inl (cI, 40, .inl ki)), (d 2, .inl (cI, 40, .inl ow)), (d 3, .inl (cI, 40, .inl mr)), (d 4, .inl (cI, 40, .inl va))] H := hP
      have hD : va_D A [(a 0, .inr (3, [.ref (b 0), .ref (d 0), .ref (a 1), .ref (a 2), .ref (a 3), .ref (a 4), .ref (a 5), .int ad])), (a 1, .inl (cI, 40, .inl ss)), (a 2, .inl (cI, 40, .inl cr)), (a 3, .inl (cI, 40, .inl se)), (a 4, .inl (cI, 40, .inl (upd re k (nI 3)))), (a 5, .inl (cI, 40, .inl sv)), (b 0, .inr (0, [.ref (b 1), .ref (b 2), .ref (b 3), .int (nI n)])), (b 1, .inl (cI, 40, .inl me)), (b 2, .inl (cI, 40, .inl ar)), (b 3, .inl (cI, 40, .inl dl)), (d 0, .inr (2, [.ref (d 1), .ref (d 2), .ref (d 3), .ref (d 4), .int (nI fi), .int (nI sz)])), (d 1, .inl (cI, 40, .inl ki)), (d 2, .inl (cI, 40, .inl ow)), (d 3, .inl (cI, 40, .inl mr)), (d 4, .inl (cI, 40, .inl va))] := hD
      refine lv_aload_n hx hb dX3_perform_51 rfl (lv_at hl 2 rfl) ?_
      refine va_get (D := G) (ci := 3) (v := .ref (a 5)) (C := RX3) (T := TX3) (N := 8) hx hb hts hi_X3_perform_X3 hown hK hP 0 rfl rfl 6 (by decide) (hts _ hk_X3_perform_f24) (fun _ h9 => h9) rfl dX3_perform_52 ?_
      refine lv_iload_n hx hb dX3_perform_55 rfl (lv_at hl 3 rfl) ?_
      refine lv_iload_n hx hb dX3_perform_56 rfl (lv_at hl 0 rfl) ?_
      refine gz_iast hx hb hK hP hD hS 5 rfl rfl (k := k) rfl (by omega) (by decide) dX3_perform_57 (fun H locs hP hD hS => ?_)
      have hP : va_P G vwCl [(a 0, .inr (3, [.ref (b 0), .ref (d 0), .ref (a 1), .ref (a 2), .ref (a 3), .ref (a 4), .ref (a 5), .int ad])), (a 1, .inl (cI, 40, .inl ss)), (a 2, .inl (cI, 40, .inl cr)), (a 3, .inl (cI, 40, .inl se)), (a 4, .inl (cI, 40, .inl (upd re k (nI 3)))), (a 5, .inl (cI, 40, .inl (upd sv k r_1))), (b 0, .inr (0, [.ref (b 1), .ref (b 2), .ref (b 3), .int (nI n)])), (b 1, .inl (cI, 40, .inl me)), (b 2, .inl (cI, 40, .inl ar)), (b 3, .inl (cI, 40, .inl dl)), (d 0, .inr (2, [.ref (d 1), .ref (d 2), .ref (d 3), .ref (d 4), .int (nI fi), .int (nI sz)])), (d 1, .inl (cI, 40, .inl ki)), (d 2, .inl (cI, 40, .inl ow)), (d 3, .inl (cI, 40, .inl mr)), (d 4, .inl (cI, 40, .inl va))] H := hP
      have hD : va_D A [(a 0, .inr (3, [.ref (b 0), .ref (d 0), .ref (a 1), .ref (a 2), .ref (a 3), .ref (a 4), .ref (a 5), .int ad])), (a 1, .inl (cI, 40, .inl ss)), (a 2, .inl (cI, 40, .inl cr)), (a 3, .inl (cI, 40, .inl se)), (a 4, .inl (cI, 40, .inl (upd re k (nI 3)))), (a 5, .inl (cI, 40, .inl (upd sv k r_1))), (b 0, .inr (0, [.ref (b 1), .ref (b 2), .ref (b 3), .int (nI n)])), (b 1, .inl (cI, 40, .inl me)), (b 2, .inl (cI, 40, .inl ar)), (b 3, .inl (cI, 40, .inl dl)), (d 0, .inr (2, [.ref (d 1), .ref (d 2), .ref (d 3), .ref (d 4), .int (nI fi), .int (nI sz)])), (d 1, .inl (cI, 40, .inl ki)), (d 2, .inl (cI, 40, .inl ow)), (d 3, .inl (cI, 40, .inl mr)), (d 4, .inl (cI, 40, .inl va))] := hD
      refine lv_aload_n hx hb dX3_perform_58 rfl (lv_at hl 2 rfl) ?_
      refine va_get (D := G) (ci := 3) (v := .ref (a 1)) (C := RX3) (T := TX3) (N := 8) hx hb hts hi_X3_perform_X3 hown hK hP 0 rfl rfl 2 (by decide) (hts _ hk_X3_perform_f9) (fun _ h9 => h9) rfl dX3_perform_59 ?_
      refine lv_iload_n hx hb dX3_perform_62 rfl (lv_at hl 3 rfl) ?_
      refine lv_iconst (v := nI 2) hx hb dX3_perform_63 (by decide +kernel) ?_
      refine gz_iast hx hb hK hP hD hS 1 rfl rfl (k := k) rfl (by omega) (by decide) dX3_perform_64 (fun H locs hP hD hS => ?_)
      have hP : va_P G vwCl [(a 0, .inr (3, [.ref (b 0), .ref (d 0), .ref (a 1), .ref (a 2), .ref (a 3), .ref (a 4), .ref (a 5), .int ad])), (a 1, .inl (cI, 40, .inl (upd ss k (nI 2)))), (a 2, .inl (cI, 40, .inl cr)), (a 3, .inl (cI, 40, .inl se)), (a 4, .inl (cI, 40, .inl (upd re k (nI 3)))), (a 5, .inl (cI, 40, .inl (upd sv k r_1))), (b 0, .inr (0, [.ref (b 1), .ref (b 2), .ref (b 3), .int (nI n)])), (b 1, .inl (cI, 40, .inl me)), (b 2, .inl (cI, 40, .inl ar)), (b 3, .inl (cI, 40, .inl dl)), (d 0, .inr (2, [.ref (d 1), .ref (d 2), .ref (d 3), .ref (d 4), .int (nI fi), .int (nI sz)])), (d 1, .inl (cI, 40, .inl ki)), (d 2, .inl (cI, 40, .inl ow)), (d 3, .inl (cI, 40, .inl mr)), (d 4, .inl (cI, 40, .inl va))] H := hP
      have hD : va_D A [(a 0, .inr (3, [.ref (b 0), .ref (d 0), .ref (a 1), .ref (a 2), .ref (a 3), .ref (a 4), .ref (a 5), .int ad])), (a 1, .inl (cI, 40, .inl (upd ss k (nI 2)))), (a 2, .inl (cI, 40, .inl cr)), (a 3, .inl (cI, 40, .inl se)), (a 4, .inl (cI, 40, .inl (upd re k (nI 3)))), (a 5, .inl (cI, 40, .inl (upd sv k r_1))), (b 0, .inr (0, [.ref (b 1), .ref (b 2), .ref (b 3), .int (nI n)])), (b 1, .inl (cI, 40, .inl me)), (b 2, .inl (cI, 40, .inl ar)), (b 3, .inl (cI, 40, .inl dl)), (d 0, .inr (2, [.ref (d 1), .ref (d 2), .ref (d 3), .ref (d 4), .int (nI fi), .int (nI sz)])), (d 1, .inl (cI, 40, .inl ki)), (d 2, .inl (cI, 40, .inl ow)), (d 3, .inl (cI, 40, .inl mr)), (d 4, .inl (cI, 40, .inl va))] := hD
      refine lv_aload_n hx hb dX3_perform_65 rfl (lv_at hl 2 rfl) ?_
      refine lv_iload_n hx hb dX3_perform_66 rfl (lv_at hl 3 rfl) ?_
      refine k_callv (S := LaneS) (wc := [(a 0, .inr (3, [.ref (b 0), .ref (d 0), .ref (a 1), .ref (a 2), .ref (a 3), .ref (a 4), .ref (a 5), .int ad])), (a 1, .inl (cI, 40, .inl (upd ss k (nI 2)))), (a 2, .inl (cI, 40, .inl cr)), (a 3, .inl (cI, 40, .inl se)), (a 4, .inl (cI, 40, .inl (upd re k (nI 3)))), (a 5, .inl (cI, 40, .inl (upd sv k r_1))), (b 0, .inr (0, [.ref (b 1), .ref (b 2), .ref (b 3), .int (nI n)])), (b 1, .inl (cI, 40, .inl me)), (b 2, .inl (cI, 40, .inl ar)), (b 3, .inl (cI, 40, .inl dl)), (d 0, .inr (2, [.ref (d 1), .ref (d 2), .ref (d 3), .ref (d 4), .int (nI fi), .int (nI sz)])), (d 1, .inl (cI, 40, .inl ki)), (d 2, .inl (cI, 40, .inl ow)), (d 3, .inl (cI, 40, .inl mr)), (d 4, .inl (cI, 40, .inl va))]) (wr := []) (w1 := fun u => [(a 0, .inr (3, [.ref (b 0), .ref (d 0), .ref (a 1), .ref (a 2), .ref (a 3), .ref (a 4), .ref (a 5), .int ad])), (a 1, .inl (cI, 40, .inl (upd ss k (nI 2)))), (a 2, .inl (cI, 40, .inl cr)), (a 3, .inl (cI, 40, .inl se)), (a 4, .inl (cI, 40, .inl (upd re k (nI 3)))), (a 5, .inl (cI, 40, .inl (upd sv k r_1))), (b 0, .inr (0, [.ref (b 1), .ref (b 2), .ref (b 3), .int (nI n)])), (b 1, .inl (cI, 40, .inl me)), (b 2, .inl (cI, 40, .inl ar)), (b 3, .inl (cI, 40, .inl dl)), (d 0, .inr (2, [.ref (d 1), .ref (d 2), .ref (d 3), .ref (d 4), .int (nI u.2.2.2.2.1), .int (nI u.2.2.2.2.2)])), (d 1, .inl (cI, 40, .inl u.1)), (d 2, .inl (cI, 40, .inl u.2.1)), (d 3, .inl (cI, 40, .inl u.2.2.1)), (d 4, .inl (cI, 40, .inl u.2.2.2.1))]) (w2 := fun u => [(a 0, .inr (3, [.ref (b 0), .ref (d 0), .ref (a 1), .ref (a 2), .ref (a 3), .ref (a 4), .ref (a 5), .int ad])), (a 1, .inl (cI, 40, .inl (upd ss k (nI 2)))), (a 2, .inl (cI, 40, .inl cr)), (a 3, .inl (cI, 40, .inl se)), (a 4, .inl (cI, 40, .inl (upd re k (nI 3)))), (a 5, .inl (cI, 40, .inl (upd sv k r_1))), (b 0, .inr (0, [.ref (b 1), .ref (b 2), .ref (b 3), .int (nI n)])), (b 1, .inl (cI, 40, .inl me)), (b 2, .inl (cI, 40, .inl ar)), (b 3, .inl (cI, 40, .inl dl)), (d 0, .inr (2, [.ref (d 1), .ref (d 2), .ref (d 3), .ref (d 4), .int (nI u.2.2.2.2.1), .int (nI u.2.2.2.2.2)])), (d 1, .inl (cI, 40, .inl u.1)), (d 2, .inl (cI, 40, .inl u.2.1)), (d 3, .inl (cI, 40, .inl u.2.2.1)), (d 4, .inl (cI, 40, .inl u.2.2.2.1))]) (va_runV (As := [.int (nI k)]) (rest := []) ⟨hx, hb, hml, hown, hts⟩ (c_X3_sendAnswer l G cI a b d (upd ss k (nI 2)) cr se (upd re k (nI 3)) (upd sv k r_1) ad me ar dl n ki ow mr va fi sz k (by first | omega | assumption) (by first | omega | assumption) (by first | omega | assumption) (by first | omega | assumption) H.size) (cwV 1 hts gX3_perform_X3_sendAnswer rfl rfl rfl (by decide +kernel) ⟨Nat.le_of_ble_eq_true rfl, Nat.le_of_ble_eq_true rfl⟩) ⟨kPre.blind, va_recv hK hP (ci := 3) (q0 := 0) rfl rfl, kPre.at hP hK hD hS hA hN [0, 1, 2, 3, 4, 5, 6, 7, 8, 9, 10, 11, 12, 13, 14] rfl rfl⟩ rfl rfl hl.1 rfl (lv_room (Nat.le_of_ble_eq_true rfl)) dX3_perform_67 ⟨Nat.le_of_ble_eq_true rfl, Nat.le_of_ble_eq_true rfl⟩) hP hD hS hA [0, 1, 2, 3, 4, 5, 6, 7, 8, 9, 10, 11, 12, 13, 14] [] [0, 1, 2, 3, 4, 5, 6, 7, 8, 9, 10, 11, 12, 13, 14] rfl rfl ⟨rfl, by decide, rfl⟩ (fun _ => rfl) (fun u H locs hw_5 hP hD hS => ?_)
      obtain ⟨ki_5, ow_5, mr_5, va_5, fi_5, sz_5⟩ := u
      obtain ⟨hw_5, hf_5, hs_5⟩ := hw_5
      have hf_5 : fi_5 < 40 := hf_5
      have hs_5 : sz_5 ≤ 40 := hs_5
      have hw_5 : ((ki_5, ow_5, mr_5, va_5, fi_5, sz_5) : LaneS) = s_sendA ((upd ss k (nI 2)), cr, se, (upd re k (nI 3)), (upd sv k r_1), ad) (ki, ow, mr, va, fi, sz) k := hw_5
      have hP : va_P G vwCl [(a 0, .inr (3, [.ref (b 0), .ref (d 0), .ref (a 1), .ref (a 2), .ref (a 3), .ref (a 4), .ref (a 5), .int ad])), (a 1, .inl (cI, 40, .inl (upd ss k (nI 2)))), (a 2, .inl (cI, 40, .inl cr)), (a 3, .inl (cI, 40, .inl se)), (a 4, .inl (cI, 40, .inl (upd re k (nI 3)))), (a 5, .inl (cI, 40, .inl (upd sv k r_1))), (b 0, .inr (0, [.ref (b 1), .ref (b 2), .ref (b 3), .int (nI n)])), (b 1, .inl (cI, 40, .inl me)), (b 2, .inl (cI, 40, .inl ar)), (b 3, .inl (cI, 40, .inl dl)), (d 0, .inr (2, [.ref (d 1), .ref (d 2), .ref (d 3), .ref (d 4), .int (nI fi_5), .int (nI sz_5)])), (d 1, .inl (cI, 40, .inl ki_5)), (d 2, .inl (cI, 40, .inl ow_5)), (d 3, .inl (cI, 40, .inl mr_5)), (d 4, .inl (cI, 40, .inl va_5))] H := hP
      have hD : va_D A [(a 0, .inr (3, [.ref (b 0), .ref (d 0), .ref (a 1), .ref (a 2), .ref (a 3), .ref (a 4), .ref (a 5), .int ad])), (a 1, .inl (cI, 40, .inl (upd ss k (nI 2)))), (a 2, .inl (cI, 40, .inl cr)), (a 3, .inl (cI, 40, .inl se)), (a 4, .inl (cI, 40, .inl (upd re k (nI 3)))), (a 5, .inl (cI, 40, .inl (upd sv k r_1))), (b 0, .inr (0, [.ref (b 1), .ref (b 2), .ref (b 3), .int (nI n)])), (b 1, .inl (cI, 40, .inl me)), (b 2, .inl (cI, 40, .inl ar)), (b 3, .inl (cI, 40, .inl dl)), (d 0, .inr (2, [.ref (d 1), .ref (d 2), .ref (d 3), .ref (d 4), .int (nI fi_5), .int (nI sz_5)])), (d 1, .inl (cI, 40, .inl ki_5)), (d 2, .inl (cI, 40, .inl ow_5)), (d 3, .inl (cI, 40, .inl mr_5)), (d 4, .inl (cI, 40, .inl va_5))] := hD
      have hS9 := hS.2.2
      have hq9 : ((((upd ss k (nI 2), cr, se, upd re k (nI 3), upd sv k r_1, ad), (ki_5, ow_5, mr_5, va_5, fi_5, sz_5)) : SerS × LaneS) = s_perf me ar (ss, cr, se, re, sv, ad) (ki, ow, mr, va, fi, sz) k) ∧ fi_5 < 40 ∧ sz_5 ≤ 40 := by refine ⟨?_, by omega, by omega⟩; simp only [s_perf, ↓reduceIte, eq_self, nI_10, and_true, true_and, and_false, false_and, not_true_eq_false, not_false_eq_true, Bool.and_true, Bool.true_and, Bool.and_false, Bool.false_and, decide_true, decide_false, Bool.false_eq_true, ← hw_1, eq_false c_2, eq_true c_3, ← hw_5]
      exact W.vret hx hb hr (fun t ht hW => ⟨⟨((upd ss k (nI 2), cr, se, upd re k (nI 3), upd sv k r_1, ad), (ki_5, ow_5, mr_5, va_5, fi_5, sz_5)), rfl, hq9, by rw [ht]; exact hP, hD⟩, hS.F ht⟩) hS9 dX3_perform_70
  · skip
    refine lv_aload_n hx hb dX3_perform_30 rfl (lv_at hl 2 rfl) ?_
    refine lv_iload_n hx hb dX3_perform_31 rfl (lv_at hl 0 rfl) ?_
    refine va_put (D := G) (ci := 3) (v := .int r_1) (ty := .int) (C := RX3) (T := TX3) (N := 8) hx hb hts hi_X3_perform_X3 tyX3 tyX3_ok nmX3 hown hK hP hD hS 0 rfl rfl 7 (by decide) (hts _ hk_X3_perform_f82) (fun _ h9 => h9) rfl (by decide +kernel) rfl rfl (Nat.le_of_ble_eq_true rfl) dX3_perform_32 (fun H locs hP hD hS => ?_)
    have hP : va_P G vwCl [(a 0, .inr (3, [.ref (b 0), .ref (d 0), .ref (a 1), .ref (a 2), .ref (a 3), .ref (a 4), .ref (a 5), .int r_1])), (a 1, .inl (cI, 40, .inl ss)), (a 2, .inl (cI, 40, .inl cr)), (a 3, .inl (cI, 40, .inl se)), (a 4, .inl (cI, 40, .inl re)), (a 5, .inl (cI, 40, .inl sv)), (b 0, .inr (0, [.ref (b 1), .ref (b 2), .ref (b 3), .int (nI n)])), (b 1, .inl (cI, 40, .inl me)), (b 2, .inl (cI, 40, .inl ar)), (b 3, .inl (cI, 40, .inl dl)), (d 0, .inr (2, [.ref (d 1), .ref (d 2), .ref (d 3), .ref (d 4), .int (nI fi), .int (nI sz)])), (d 1, .inl (cI, 40, .inl ki)), (d 2, .inl (cI, 40, .inl ow)), (d 3, .inl (cI, 40, .inl mr)), (d 4, .inl (cI, 40, .inl va))] H := hP
    have hD : va_D A [(a 0, .inr (3, [.ref (b 0), .ref (d 0), .ref (a 1), .ref (a 2), .ref (a 3), .ref (a 4), .ref (a 5), .int r_1])), (a 1, .inl (cI, 40, .inl ss)), (a 2, .inl (cI, 40, .inl cr)), (a 3, .inl (cI, 40, .inl se)), (a 4, .inl (cI, 40, .inl re)), (a 5, .inl (cI, 40, .inl sv)), (b 0, .inr (0, [.ref (b 1), .ref (b 2), .ref (b 3), .int (nI n)])), (b 1, .inl (cI, 40, .inl me)), (b 2, .inl (cI, 40, .inl ar)), (b 3, .inl (cI, 40, .inl dl)), (d 0, .inr (2, [.ref (d 1), .ref (d 2), .ref (d 3), .ref (d 4), .int (nI fi), .int (nI sz)])), (d 1, .inl (cI, 40, .inl ki)), (d 2, .inl (cI, 40, .inl ow)), (d 3, .inl (cI, 40, .inl mr)), (d 4, .inl (cI, 40, .inl va))] := hD
    refine lv_aload_n hx hb dX3_perform_35 rfl (lv_at hl 2 rfl) ?_
    refine va_get (D := G) (ci := 3) (v := .ref (a 4)) (C := RX3) (T := TX3) (N := 8) hx hb hts hi_X3_perform_X3 hown hK hP 0 rfl rfl 5 (by decide) (hts _ hk_X3_perform_f21) (fun _ h9 => h9) rfl dX3_perform_36 ?_
    refine lv_iload_n hx hb dX3_perform_39 rfl (lv_at hl 3 rfl) ?_
    refine lv_iload_n hx hb dX3_perform_40 rfl (lv_at hl 1 rfl) ?_
    refine lv_iconst (v := nI 2) hx hb dX3_perform_41 (by decide +kernel) ?_
    refine lv_icmp_ne (tgt := 49) hx hb dX3_perform_42 (by decide) (fun c_6 => ?_) (fun c_6 => ?_)
    · skip
      refine lv_iconst (v := nI 0) hx hb dX3_perform_49 (by decide +kernel) ?_
      refine gz_iast hx hb hK hP hD hS 4 rfl rfl (k := k) rfl (by omega) (by decide) dX3_perform_50 (fun H locs hP hD hS => ?_)
      have hP : va_P G vwCl [(a 0, .inr (3, [.ref (b 0), .ref (d 0), .ref (a 1), .ref (a 2), .ref (a 3), .ref (a 4), .ref (a 5), .int r_1])), (a 1, .inl (cI, 40, .inl ss)), (a 2, .inl (cI, 40, .inl cr)), (a 3, .inl (cI, 40, .inl se)), (a 4, .inl (cI, 40, .inl (upd re k (nI 0)))), (a 5, .inl (cI, 40, .inl sv)), (b 0, .inr (0, [.ref (b 1), .ref (b 2), .ref (b 3), .int (nI n)])), (b 1, .inl (cI, 40, .inl me)), (b 2, .inl (cI, 40, .inl ar)), (b 3, .inl (cI, 40, .inl dl)), (d 0, .inr (2, [.ref (d 1), .ref (d 2), .ref (d 3), .ref (d 4), .int (nI fi), .int (nI sz)])), (d 1, .inl (cI, 40, .inl ki)), (d 2, .inl (cI, 40, .inl ow)), (d 3, .inl (cI, 40, .inl mr)), (d 4, .inl (cI, 40, .inl va))] H := hP
      have hD : va_D A [(a 0, .inr (3, [.ref (b 0), .ref (d 0), .ref (a 1), .ref (a 2), .ref (a 3), .ref (a 4), .ref (a 5), .int r_1])), (a 1, .inl (cI, 40, .inl ss)), (a 2, .inl (cI, 40, .inl cr)), (a 3, .inl (cI, 40, .inl se)), (a 4, .inl (cI, 40, .inl (upd re k (nI 0)))), (a 5, .inl (cI, 40, .inl sv)), (b 0, .inr (0, [.ref (b 1), .ref (b 2), .ref (b 3), .int (nI n)])), (b 1, .inl (cI, 40, .inl me)), (b 2, .inl (cI, 40, .inl ar)), (b 3, .inl (cI, 40, .inl dl)), (d 0, .inr (2, [.ref (d 1), .ref (d 2), .ref (d 3), .ref (d 4), .int (nI fi), .int (nI sz)])), (d 1, .inl (cI, 40, .inl ki)), (d 2, .inl (cI, 40, .inl ow)), (d 3, .inl (cI, 40, .inl mr)), (d 4, .inl (cI, 40, .inl va))] := hD
      refine lv_aload_n hx hb dX3_perform_51 rfl (lv_at hl 2 rfl) ?_
      refine va_get (D := G) (ci := 3) (v := .ref (a 5)) (C := RX3) (T := TX3) (N := 8) hx hb hts hi_X3_perform_X3 hown hK hP 0 rfl rfl 6 (by decide) (hts _ hk_X3_perform_f24) (fun _ h9 => h9) rfl dX3_perform_52 ?_
      refine lv_iload_n hx hb dX3_perform_55 rfl (lv_at hl 3 rfl) ?_
      refine lv_iload_n hx hb dX3_perform_56 rfl (lv_at hl 0 rfl) ?_
      refine gz_iast hx hb hK hP hD hS 5 rfl rfl (k := k) rfl (by omega) (by decide) dX3_perform_57 (fun H locs hP hD hS => ?_)
      have hP : va_P G vwCl [(a 0, .inr (3, [.ref (b 0), .ref (d 0), .ref (a 1), .ref (a 2), .ref (a 3), .ref (a 4), .ref (a 5), .int r_1])), (a 1, .inl (cI, 40, .inl ss)), (a 2, .inl (cI, 40, .inl cr)), (a 3, .inl (cI, 40, .inl se)), (a 4, .inl (cI, 40, .inl (upd re k (nI 0)))), (a 5, .inl (cI, 40, .inl (upd sv k r_1))), (b 0, .inr (0, [.ref (b 1), .ref (b 2), .ref (b 3), .int (nI n)])), (b 1, .inl (cI, 40, .inl me)), (b 2, .inl (cI, 40, .inl ar)), (b 3, .inl (cI, 40, .inl dl)), (d 0, .inr (2, [.ref (d 1), .ref (d 2), .ref (d 3), .ref (d 4), .int (nI fi), .int (nI sz)])), (d 1, .inl (cI, 40, .inl ki)), (d 2, .inl (cI, 40, .inl ow)), (d 3, .inl (cI, 40, .inl mr)), (d 4, .inl (cI, 40, .inl va))] H := hP
      have hD : va_D A [(a 0, .inr (3, [.ref (b 0), .ref (d 0), .ref (a 1), .ref (a 2), .ref (a 3), .ref (a 4), .ref (a 5), .int r_1])), (a 1, .inl (cI, 40, .inl ss)), (a 2, .inl (cI, 40, .inl cr)), (a 3, .inl (cI, 40, .inl se)), (a 4, .inl (cI, 40, .inl (upd re k (nI 0)))), (a 5, .inl (cI, 40, .inl (upd sv k r_1))), (b 0, .inr (0, [.ref (b 1), .ref (b 2), .ref (b 3), .int (nI n)])), (b 1, .inl (cI, 40, .inl me)), (b 2, .inl (cI, 40, .inl ar)), (b 3, .inl (cI, 40, .inl dl)), (d 0, .inr (2, [.ref (d 1), .ref (d 2), .ref (d 3), .ref (d 4), .int (nI fi), .int (nI sz)])), (d 1, .inl (cI, 40, .inl ki)), (d 2, .inl (cI, 40, .inl ow)), (d 3, .inl (cI, 40, .inl mr)), (d 4, .inl (cI, 40, .inl va))] := hD
      refine lv_aload_n hx hb dX3_perform_58 rfl (lv_at hl 2 rfl) ?_
      refine va_get (D := G) (ci := 3) (v := .ref (a 1)) (C := RX3) (T := TX3) (N := 8) hx hb hts hi_X3_perform_X3 hown hK hP 0 rfl rfl 2 (by decide) (hts _ hk_X3_perform_f9) (fun _ h9 => h9) rfl dX3_perform_59 ?_
      refine lv_iload_n hx hb dX3_perform_62 rfl (lv_at hl 3 rfl) ?_
      refine lv_iconst (v := nI 2) hx hb dX3_perform_63 (by decide +kernel) ?_
      refine gz_iast hx hb hK hP hD hS 1 rfl rfl (k := k) rfl (by omega) (by decide) dX3_perform_64 (fun H locs hP hD hS => ?_)
      have hP : va_P G vwCl [(a 0, .inr (3, [.ref (b 0), .ref (d 0), .ref (a 1), .ref (a 2), .ref (a 3), .ref (a 4), .ref (a 5), .int r_1])), (a 1, .inl (cI, 40, .inl (upd ss k (nI 2)))), (a 2, .inl (cI, 40, .inl cr)), (a 3, .inl (cI, 40, .inl se)), (a 4, .inl (cI, 40, .inl (upd re k (nI 0)))), (a 5, .inl (cI, 40, .inl (upd sv k r_1))), (b 0, .inr (0, [.ref (b 1), .ref (b 2), .ref (b 3), .int (nI n)])), (b 1, .inl (cI, 40, .inl me)), (b 2, .inl (cI, 40, .inl ar)), (b 3, .inl (cI, 40, .inl dl)), (d 0, .inr (2, [.ref (d 1), .ref (d 2), .ref (d 3), .ref (d 4), .int (nI fi), .int (nI sz)])), (d 1, .inl (cI, 40, .inl ki)), (d 2, .inl (cI, 40, .inl ow)), (d 3, .inl (cI, 40, .inl mr)), (d 4, .inl (cI, 40, .inl va))] H := hP
      have hD : va_D A [(a 0, .inr (3, [.ref (b 0), .ref (d 0), .ref (a 1), .ref (a 2), .ref (a 3), .ref (a 4), .ref (a 5), .int r_1])), (a 1, .inl (cI, 40, .inl (upd ss k (nI 2)))), (a 2, .inl (cI, 40, .inl cr)), (a 3, .inl (cI, 40, .inl se)), (a 4, .inl (cI, 40, .inl (upd re k (nI 0)))), (a 5, .inl (cI, 40, .inl (upd sv k r_1))), (b 0, .inr (0, [.ref (b 1), .ref (b 2), .ref (b 3), .int (nI n)])), (b 1, .inl (cI, 40, .inl me)), (b 2, .inl (cI, 40, .inl ar)), (b 3, .inl (cI, 40, .inl dl)), (d 0, .inr (2, [.ref (d 1), .ref (d 2), .ref (d 3), .ref (d 4), .int (nI fi), .int (nI sz)])), (d 1, .inl (cI, 40, .inl ki)), (d 2, .inl (cI, 40, .inl ow)), (d 3, .inl (cI, 40, .inl mr)), (d 4, .inl (cI, 40, .inl va))] := hD
      refine lv_aload_n hx hb dX3_perform_65 rfl (lv_at hl 2 rfl) ?_
      refine lv_iload_n hx hb dX3_perform_66 rfl (lv_at hl 3 rfl) ?_
      refine k_callv (S := LaneS) (wc := [(a 0, .inr (3, [.ref (b 0), .ref (d 0), .ref (a 1), .ref (a 2), .ref (a 3), .ref (a 4), .ref (a 5), .int r_1])), (a 1, .inl (cI, 40, .inl (upd ss k (nI 2)))), (a 2, .inl (cI, 40, .inl cr)), (a 3, .inl (cI, 40, .inl se)), (a 4, .inl (cI, 40, .inl (upd re k (nI 0)))), (a 5, .inl (cI, 40, .inl (upd sv k r_1))), (b 0, .inr (0, [.ref (b 1), .ref (b 2), .ref (b 3), .int (nI n)])), (b 1, .inl (cI, 40, .inl me)), (b 2, .inl (cI, 40, .inl ar)), (b 3, .inl (cI, 40, .inl dl)), (d 0, .inr (2, [.ref (d 1), .ref (d 2), .ref (d 3), .ref (d 4), .int (nI fi), .int (nI sz)])), (d 1, .inl (cI, 40, .inl ki)), (d 2, .inl (cI, 40, .inl ow)), (d 3, .inl (cI, 40, .inl mr)), (d 4, .inl (cI, 40, .inl va))]) (wr := []) (w1 := fun u => [(a 0, .inr (3, [.ref (b 0), .ref (d 0), .ref (a 1), .ref (a 2), .ref (a 3), .ref (a 4), .ref (a 5), .int r_1])), (a 1, .inl (cI, 40, .inl (upd ss k (nI 2)))), (a 2, .inl (cI, 40, .inl cr)), (a 3, .inl (cI, 40, .inl se)), (a 4, .inl (cI, 40, .inl (upd re k (nI 0)))), (a 5, .inl (cI, 40, .inl (upd sv k r_1))), (b 0, .inr (0, [.ref (b 1), .ref (b 2), .ref (b 3), .int (nI n)])), (b 1, .inl (cI, 40, .inl me)), (b 2, .inl (cI, 40, .inl ar)), (b 3, .inl (cI, 40, .inl dl)), (d 0, .inr (2, [.ref (d 1), .ref (d 2), .ref (d 3), .ref (d 4), .int (nI u.2.2.2.2.1), .int (nI u.2.2.2.2.2)])), (d 1, .inl (cI, 40, .inl u.1)), (d 2, .inl (cI, 40, .inl u.2.1)), (d 3, .inl (cI, 40, .inl u.2.2.1)), (d 4, .inl (cI, 40, .inl u.2.2.2.1))]) (w2 := fun u => [(a 0, .inr (3, [.ref (b 0), .ref (d 0), .ref (a 1), .ref (a 2), .ref (a 3), .ref (a 4), .ref (a 5), .int r_1])), (a 1, .inl (cI, 40, .inl (upd ss k (nI 2)))), (a 2, .inl (cI, 40, .inl cr)), (a 3, .inl (cI, 40, .inl se)), (a 4, .inl (cI, 40, .inl (upd re k (nI 0)))), (a 5, .inl (cI, 40, .inl (upd sv k r_1))), (b 0, .inr (0, [.ref (b 1), .ref (b 2), .ref (b 3), .int (nI n)])), (b 1, .inl (cI, 40, .inl me)), (b 2, .inl (cI, 40, .inl ar)), (b 3, .inl (cI, 40, .inl dl)), (d 0, .inr (2, [.ref (d 1), .ref (d 2), .ref (d 3), .ref (d 4), .int (nI u.2.2.2.2.1), .int (nI u.2.2.2.2.2)])), (d 1, .inl (cI, 40, .inl u.1)), (d 2, .inl (cI, 40, .inl u.2.1)), (d 3, .inl (cI, 40, .inl u.2.2.1)), (d 4, .inl (cI, 40, .inl u.2.2.2.1))]) (va_runV (As := [.int (nI k)]) (rest := []) ⟨hx, hb, hml, hown, hts⟩ (c_X3_sendAnswer l G cI a b d (upd ss k (nI 2)) cr se (upd re k (nI 0)) (upd sv k r_1) r_1 me ar dl n ki ow mr va fi sz k (by first | omega | assumption) (by first | omega | assumption) (by first | omega | assumption) (by first | omega | assumption) H.size) (cwV 1 hts gX3_perform_X3_sendAnswer rfl rfl rfl (by decide +kernel) ⟨Nat.le_of_ble_eq_true rfl, Nat.le_of_ble_eq_true rfl⟩) ⟨kPre.blind, va_recv hK hP (ci := 3) (q0 := 0) rfl rfl, kPre.at hP hK hD hS hA hN [0, 1, 2, 3, 4, 5, 6, 7, 8, 9, 10, 11, 12, 13, 14] rfl rfl⟩ rfl rfl hl.1 rfl (lv_room (Nat.le_of_ble_eq_true rfl)) dX3_perform_67 ⟨Nat.le_of_ble_eq_true rfl, Nat.le_of_ble_eq_true rfl⟩) hP hD hS hA [0, 1, 2, 3, 4, 5, 6, 7, 8, 9, 10, 11, 12, 13, 14] [] [0, 1, 2, 3, 4, 5, 6, 7, 8, 9, 10, 11, 12, 13, 14] rfl rfl ⟨rfl, by decide, rfl⟩ (fun _ => rfl) (fun u H locs hw_7 hP hD hS => ?_)
      obtain ⟨ki_7, ow_7, mr_7, va_7, fi_7, sz_7⟩ := u
      obtain ⟨hw_7, hf_7, hs_7⟩ := hw_7
      have hf_7 : fi_7 < 40 := hf_7
      have hs_7 : sz_7 ≤ 40 := hs_7
      have hw_7 : ((ki_7, ow_7, mr_7, va_7, fi_7, sz_7) : LaneS) = s_sendA ((upd ss k (nI 2)), cr, se, (upd re k (nI 0)), (upd sv k r_1), r_1) (ki, ow, mr, va, fi, sz) k := hw_7
      have hP : va_P G vwCl [(a 0, .inr (3, [.ref (b 0), .ref (d 0), .ref (a 1), .ref (a 2), .ref (a 3), .ref (a 4), .ref (a 5), .int r_1])), (a 1, .inl (cI, 40, .inl (upd ss k (nI 2)))), (a 2, .inl (cI, 40, .inl cr)), (a 3, .inl (cI, 40, .inl se)), (a 4, .inl (cI, 40, .inl (upd re k (nI 0)))), (a 5, .inl (cI, 40, .inl (upd sv k r_1))), (b 0, .inr (0, [.ref (b 1), .ref (b 2), .ref (b 3), .int (nI n)])), (b 1, .inl (cI, 40, .inl me)), (b 2, .inl (cI, 40, .inl ar)), (b 3, .inl (cI, 40, .inl dl)), (d 0, .inr (2, [.ref (d 1), .ref (d 2), .ref (d 3), .ref (d 4), .int (nI fi_7), .int (nI sz_7)])), (d 1, .inl (cI, 40, .inl ki_7)), (d 2, .inl (cI, 40, .inl ow_7)), (d 3, .inl (cI, 40, .inl mr_7)), (d 4, .inl (cI, 40, .inl va_7))] H := hP
      have hD : va_D A [(a 0, .inr (3, [.ref (b 0), .ref (d 0), .ref (a 1), .ref (a 2), .ref (a 3), .ref (a 4), .ref (a 5), .int r_1])), (a 1, .inl (cI, 40, .inl (upd ss k (nI 2)))), (a 2, .inl (cI, 40, .inl cr)), (a 3, .inl (cI, 40, .inl se)), (a 4, .inl (cI, 40, .inl (upd re k (nI 0)))), (a 5, .inl (cI, 40, .inl (upd sv k r_1))), (b 0, .inr (0, [.ref (b 1), .ref (b 2), .ref (b 3), .int (nI n)])), (b 1, .inl (cI, 40, .inl me)), (b 2, .inl (cI, 40, .inl ar)), (b 3, .inl (cI, 40, .inl dl)), (d 0, .inr (2, [.ref (d 1), .ref (d 2), .ref (d 3), .ref (d 4), .int (nI fi_7), .int (nI sz_7)])), (d 1, .inl (cI, 40, .inl ki_7)), (d 2, .inl (cI, 40, .inl ow_7)), (d 3, .inl (cI, 40, .inl mr_7)), (d 4, .inl (cI, 40, .inl va_7))] := hD
      have hS9 := hS.2.2
      have hq9 : ((((upd ss k (nI 2), cr, se, upd re k (nI 0), upd sv k r_1, r_1), (ki_7, ow_7, mr_7, va_7, fi_7, sz_7)) : SerS × LaneS) = s_perf me ar (ss, cr, se, re, sv, ad) (ki, ow, mr, va, fi, sz) k) ∧ fi_7 < 40 ∧ sz_7 ≤ 40 := by refine ⟨?_, by omega, by omega⟩; simp only [s_perf, ↓reduceIte, eq_self, nI_10, and_true, true_and, and_false, false_and, not_true_eq_false, not_false_eq_true, Bool.and_true, Bool.true_and, Bool.and_false, Bool.false_and, decide_true, decide_false, Bool.false_eq_true, ← hw_1, eq_true c_2, eq_false c_6, ← hw_7]
      exact W.vret hx hb hr (fun t ht hW => ⟨⟨((upd ss k (nI 2), cr, se, upd re k (nI 0), upd sv k r_1, r_1), (ki_7, ow_7, mr_7, va_7, fi_7, sz_7)), rfl, hq9, by rw [ht]; exact hP, hD⟩, hS.F ht⟩) hS9 dX3_perform_70
    · skip
      refine lv_iconst (v := nI 3) hx hb dX3_perform_45 (by decide +kernel) ?_
      refine lv_goto (tgt := 50) hx hb dX3_perform_46 (by decide) ?_
      refine gz_iast hx hb hK hP hD hS 4 rfl rfl (k := k) rfl (by omega) (by decide) dX3_perform_50 (fun H locs hP hD hS => ?_)
      have hP : va_P G vwCl [(a 0, .inr (3, [.ref (b 0), .ref (d 0), .ref (a 1), .ref (a 2), .ref (a 3), .ref (a 4), .ref (a 5), .int r_1])), (a 1, .inl (cI, 40, .inl ss)), (a 2, .inl (cI, 40, .inl cr)), (a 3, .inl (cI, 40, .inl se)), (a 4, .inl (cI, 40, .inl (upd re k (nI 3)))), (a 5, .inl (cI, 40, .inl sv)), (b 0, .inr (0, [.ref (b 1), .ref (b 2), .ref (b 3), .int (nI n)])), (b 1, .inl (cI, 40, .inl me)), (b 2, .inl (cI, 40, .inl ar)), (b 3, .inl (cI, 40, .inl dl)), (d 0, .inr (2, [.ref (d 1), .ref (d 2), .ref (d 3), .ref (d 4), .int (nI fi), .int (nI sz)])), (d 1, .inl (cI, 40, .inl ki)), (d 2, .inl (cI, 40, .inl ow)), (d 3, .inl (cI, 40, .inl mr)), (d 4, .inl (cI, 40, .inl va))] H := hP
      have hD : va_D A [(a 0, .inr (3, [.ref (b 0), .ref (d 0), .ref (a 1), .ref (a 2), .ref (a 3), .ref (a 4), .ref (a 5), .int r_1])), (a 1, .inl (cI, 40, .inl ss)), (a 2, .inl (cI, 40, .inl cr)), (a 3, .inl (cI, 40, .inl se)), (a 4, .inl (cI, 40, .inl (upd re k (nI 3)))), (a 5, .inl (cI, 40, .inl sv)), (b 0, .inr (0, [.ref (b 1), .ref (b 2), .ref (b 3), .int (nI n)])), (b 1, .inl (cI, 40, .inl me)), (b 2, .inl (cI, 40, .inl ar)), (b 3, .inl (cI, 40, .inl dl)), (d 0, .inr (2, [.ref (d 1), .ref (d 2), .ref (d 3), .ref (d 4), .int (nI fi), .int (nI sz)])), (d 1, .inl (cI, 40, .inl ki)), (d 2, .inl (cI, 40, .inl ow)), (d 3, .inl (cI, 40, .inl mr)), (d 4, .inl (cI, 40, .inl va))] := hD
      refine lv_aload_n hx hb dX3_perform_51 rfl (lv_at hl 2 rfl) ?_
      refine va_get (D := G) (ci := 3) (v := .ref (a 5)) (C := RX3) (T := TX3) (N := 8) hx hb hts hi_X3_perform_X3 hown hK hP 0 rfl rfl 6 (by decide) (hts _ hk_X3_perform_f24) (fun _ h9 => h9) rfl dX3_perform_52 ?_
      refine lv_iload_n hx hb dX3_perform_55 rfl (lv_at hl 3 rfl) ?_
      refine lv_iload_n hx hb dX3_perform_56 rfl (lv_at hl 0 rfl) ?_
      refine gz_iast hx hb hK hP hD hS 5 rfl rfl (k := k) rfl (by omega) (by decide) dX3_perform_57 (fun H locs hP hD hS => ?_)
      have hP : va_P G vwCl [(a 0, .inr (3, [.ref (b 0), .ref (d 0), .ref (a 1), .ref (a 2), .ref (a 3), .ref (a 4), .ref (a 5), .int r_1])), (a 1, .inl (cI, 40, .inl ss)), (a 2, .inl (cI, 40, .inl cr)), (a 3, .inl (cI, 40, .inl se)), (a 4, .inl (cI, 40, .inl (upd re k (nI 3)))), (a 5, .inl (cI, 40, .inl (upd sv k r_1))), (b 0, .inr (0, [.ref (b 1), .ref (b 2), .ref (b 3), .int (nI n)])), (b 1, .inl (cI, 40, .inl me)), (b 2, .inl (cI, 40, .inl ar)), (b 3, .inl (cI, 40, .inl dl)), (d 0, .inr (2, [.ref (d 1), .ref (d 2), .ref (d 3), .ref (d 4), .int (nI fi), .int (nI sz)])), (d 1, .inl (cI, 40, .inl ki)), (d 2, .inl (cI, 40, .inl ow)), (d 3, .inl (cI, 40, .inl mr)), (d 4, .inl (cI, 40, .inl va))] H := hP
      have hD : va_D A [(a 0, .inr (3, [.ref (b 0), .ref (d 0), .ref (a 1), .ref (a 2), .ref (a 3), .ref (a 4), .ref (a 5), .int r_1])), (a 1, .inl (cI, 40, .inl ss)), (a 2, .inl (cI, 40, .inl cr)), (a 3, .inl (cI, 40, .inl se)), (a 4, .inl (cI, 40, .inl (upd re k (nI 3)))), (a 5, .inl (cI, 40, .inl (upd sv k r_1))), (b 0, .inr (0, [.ref (b 1), .ref (b 2), .ref (b 3), .int (nI n)])), (b 1, .inl (cI, 40, .inl me)), (b 2, .inl (cI, 40, .inl ar)), (b 3, .inl (cI, 40, .inl dl)), (d 0, .inr (2, [.ref (d 1), .ref (d 2), .ref (d 3), .ref (d 4), .int (nI fi), .int (nI sz)])), (d 1, .inl (cI, 40, .inl ki)), (d 2, .inl (cI, 40, .inl ow)), (d 3, .inl (cI, 40, .inl mr)), (d 4, .inl (cI, 40, .inl va))] := hD
      refine lv_aload_n hx hb dX3_perform_58 rfl (lv_at hl 2 rfl) ?_
      refine va_get (D := G) (ci := 3) (v := .ref (a 1)) (C := RX3) (T := TX3) (N := 8) hx hb hts hi_X3_perform_X3 hown hK hP 0 rfl rfl 2 (by decide) (hts _ hk_X3_perform_f9) (fun _ h9 => h9) rfl dX3_perform_59 ?_
      refine lv_iload_n hx hb dX3_perform_62 rfl (lv_at hl 3 rfl) ?_
      refine lv_iconst (v := nI 2) hx hb dX3_perform_63 (by decide +kernel) ?_
      refine gz_iast hx hb hK hP hD hS 1 rfl rfl (k := k) rfl (by omega) (by decide) dX3_perform_64 (fun H locs hP hD hS => ?_)
      have hP : va_P G vwCl [(a 0, .inr (3, [.ref (b 0), .ref (d 0), .ref (a 1), .ref (a 2), .ref (a 3), .ref (a 4), .ref (a 5), .int r_1])), (a 1, .inl (cI, 40, .inl (upd ss k (nI 2)))), (a 2, .inl (cI, 40, .inl cr)), (a 3, .inl (cI, 40, .inl se)), (a 4, .inl (cI, 40, .inl (upd re k (nI 3)))), (a 5, .inl (cI, 40, .inl (upd sv k r_1))), (b 0, .inr (0, [.ref (b 1), .ref (b 2), .ref (b 3), .int (nI n)])), (b 1, .inl (cI, 40, .inl me)), (b 2, .inl (cI, 40, .inl ar)), (b 3, .inl (cI, 40, .inl dl)), (d 0, .inr (2, [.ref (d 1), .ref (d 2), .ref (d 3), .ref (d 4), .int (nI fi), .int (nI sz)])), (d 1, .inl (cI, 40, .inl ki)), (d 2, .inl (cI, 40, .inl ow)), (d 3, .inl (cI, 40, .inl mr)), (d 4, .inl (cI, 40, .inl va))] H := hP
      have hD : va_D A [(a 0, .inr (3, [.ref (b 0), .ref (d 0), .ref (a 1), .ref (a 2), .ref (a 3), .ref (a 4), .ref (a 5), .int r_1])), (a 1, .inl (cI, 40, .inl (upd ss k (nI 2)))), (a 2, .inl (cI, 40, .inl cr)), (a 3, .inl (cI, 40, .inl se)), (a 4, .inl (cI, 40, .inl (upd re k (nI 3)))), (a 5, .inl (cI, 40, .inl (upd sv k r_1))), (b 0, .inr (0, [.ref (b 1), .ref (b 2), .ref (b 3), .int (nI n)])), (b 1, .inl (cI, 40, .inl me)), (b 2, .inl (cI, 40, .inl ar)), (b 3, .inl (cI, 40, .inl dl)), (d 0, .inr (2, [.ref (d 1), .ref (d 2), .ref (d 3), .ref (d 4), .int (nI fi), .int (nI sz)])), (d 1, .inl (cI, 40, .inl ki)), (d 2, .inl (cI, 40, .inl ow)), (d 3, .inl (cI, 40, .inl mr)), (d 4, .inl (cI, 40, .inl va))] := hD
      refine lv_aload_n hx hb dX3_perform_65 rfl (lv_at hl 2 rfl) ?_
      refine lv_iload_n hx hb dX3_perform_66 rfl (lv_at hl 3 rfl) ?_
      refine k_callv (S := LaneS) (wc := [(a 0, .inr (3, [.ref (b 0), .ref (d 0), .ref (a 1), .ref (a 2), .ref (a 3), .ref (a 4), .ref (a 5), .int r_1])), (a 1, .inl (cI, 40, .inl (upd ss k (nI 2)))), (a 2, .inl (cI, 40, .inl cr)), (a 3, .inl (cI, 40, .inl se)), (a 4, .inl (cI, 40, .inl (upd re k (nI 3)))), (a 5, .inl (cI, 40, .inl (upd sv k r_1))), (b 0, .inr (0, [.ref (b 1), .ref (b 2), .ref (b 3), .int (nI n)])), (b 1, .inl (cI, 40, .inl me)), (b 2, .inl (cI, 40, .inl ar)), (b 3, .inl (cI, 40, .inl dl)), (d 0, .inr (2, [.ref (d 1), .ref (d 2), .ref (d 3), .ref (d 4), .int (nI fi), .int (nI sz)])), (d 1, .inl (cI, 40, .inl ki)), (d 2, .inl (cI, 40, .inl ow)), (d 3, .inl (cI, 40, .inl mr)), (d 4, .inl (cI, 40, .inl va))]) (wr := []) (w1 := fun u => [(a 0, .inr (3, [.ref (b 0), .ref (d 0), .ref (a 1), .ref (a 2), .ref (a 3), .ref (a 4), .ref (a 5), .int r_1])), (a 1, .inl (cI, 40, .inl (upd ss k (nI 2)))), (a 2, .inl (cI, 40, .inl cr)), (a 3, .inl (cI, 40, .inl se)), (a 4, .inl (cI, 40, .inl (upd re k (nI 3)))), (a 5, .inl (cI, 40, .inl (upd sv k r_1))), (b 0, .inr (0, [.ref (b 1), .ref (b 2), .ref (b 3), .int (nI n)])), (b 1, .inl (cI, 40, .inl me)), (b 2, .inl (cI, 40, .inl ar)), (b 3, .inl (cI, 40, .inl dl)), (d 0, .inr (2, [.ref (d 1), .ref (d 2), .ref (d 3), .ref (d 4), .int (nI u.2.2.2.2.1), .int (nI u.2.2.2.2.2)])), (d 1, .inl (cI, 40, .inl u.1)), (d 2, .inl (cI, 40, .inl u.2.1)), (d 3, .inl (cI, 40, .inl u.2.2.1)), (d 4, .inl (cI, 40, .inl u.2.2.2.1))]) (w2 := fun u => [(a 0, .inr (3, [.ref (b 0), .ref (d 0), .ref (a 1), .ref (a 2), .ref (a 3), .ref (a 4), .ref (a 5), .int r_1])), (a 1, .inl (cI, 40, .inl (upd ss k (nI 2)))), (a 2, .inl (cI, 40, .inl cr)), (a 3, .inl (cI, 40, .inl se)), (a 4, .inl (cI, 40, .inl (upd re k (nI 3)))), (a 5, .inl (cI, 40, .inl (upd sv k r_1))), (b 0, .inr (0, [.ref (b 1), .ref (b 2), .ref (b 3), .int (nI n)])), (b 1, .inl (cI, 40, .inl me)), (b 2, .inl (cI, 40, .inl ar)), (b 3, .inl (cI, 40, .inl dl)), (d 0, .inr (2, [.ref (d 1), .ref (d 2), .ref (d 3), .ref (d 4), .int (nI u.2.2.2.2.1), .int (nI u.2.2.2.2.2)])), (d 1, .inl (cI, 40, .inl u.1)), (d 2, .inl (cI, 40, .inl u.2.1)), (d 3, .inl (cI, 40, .inl u.2.2.1)), (d 4, .inl (cI, 40, .inl u.2.2.2.1))]) (va_runV (As := [.int (nI k)]) (rest := []) ⟨hx, hb, hml, hown, hts⟩ (c_X3_sendAnswer l G cI a b d (upd ss k (nI 2)) cr se (upd re k (nI 3)) (upd sv k r_1) r_1 me ar dl n ki ow mr va fi sz k (by first | omega | assumption) (by first | omega | assumption) (by first | omega | assumption) (by first | omega | assumption) H.size) (cwV 1 hts gX3_perform_X3_sendAnswer rfl rfl rfl (by decide +kernel) ⟨Nat.le_of_ble_eq_true rfl, Nat.le_of_ble_eq_true rfl⟩) ⟨kPre.blind, va_recv hK hP (ci := 3) (q0 := 0) rfl rfl, kPre.at hP hK hD hS hA hN [0, 1, 2, 3, 4, 5, 6, 7, 8, 9, 10, 11, 12, 13, 14] rfl rfl⟩ rfl rfl hl.1 rfl (lv_room (Nat.le_of_ble_eq_true rfl)) dX3_perform_67 ⟨Nat.le_of_ble_eq_true rfl, Nat.le_of_ble_eq_true rfl⟩) hP hD hS hA [0, 1, 2, 3, 4, 5, 6, 7, 8, 9, 10, 11, 12, 13, 14] [] [0, 1, 2, 3, 4, 5, 6, 7, 8, 9, 10, 11, 12, 13, 14] rfl rfl ⟨rfl, by decide, rfl⟩ (fun _ => rfl) (fun u H locs hw_8 hP hD hS => ?_)
      obtain ⟨ki_8, ow_8, mr_8, va_8, fi_8, sz_8⟩ := u
      obtain ⟨hw_8, hf_8, hs_8⟩ := hw_8
      have hf_8 : fi_8 < 40 := hf_8
      have hs_8 : sz_8 ≤ 40 := hs_8
      have hw_8 : ((ki_8, ow_8, mr_8, va_8, fi_8, sz_8) : LaneS) = s_sendA ((upd ss k (nI 2)), cr, se, (upd re k (nI 3)), (upd sv k r_1), r_1) (ki, ow, mr, va, fi, sz) k := hw_8
      have hP : va_P G vwCl [(a 0, .inr (3, [.ref (b 0), .ref (d 0), .ref (a 1), .ref (a 2), .ref (a 3), .ref (a 4), .ref (a 5), .int r_1])), (a 1, .inl (cI, 40, .inl (upd ss k (nI 2)))), (a 2, .inl (cI, 40, .inl cr)), (a 3, .inl (cI, 40, .inl se)), (a 4, .inl (cI, 40, .inl (upd re k (nI 3)))), (a 5, .inl (cI, 40, .inl (upd sv k r_1))), (b 0, .inr (0, [.ref (b 1), .ref (b 2), .ref (b 3), .int (nI n)])), (b 1, .inl (cI, 40, .inl me)), (b 2, .inl (cI, 40, .inl ar)), (b 3, .inl (cI, 40, .inl dl)), (d 0, .inr (2, [.ref (d 1), .ref (d 2), .ref (d 3), .ref (d 4), .int (nI fi_8), .int (nI sz_8)])), (d 1, .inl (cI, 40, .inl ki_8)), (d 2, .inl (cI, 40, .inl ow_8)), (d 3, .inl (cI, 40, .inl mr_8)), (d 4, .inl (cI, 40, .inl va_8))] H := hP
      have hD : va_D A [(a 0, .inr (3, [.ref (b 0), .ref (d 0), .ref (a 1), .ref (a 2), .ref (a 3), .ref (a 4), .ref (a 5), .int r_1])), (a 1, .inl (cI, 40, .inl (upd ss k (nI 2)))), (a 2, .inl (cI, 40, .inl cr)), (a 3, .inl (cI, 40, .inl se)), (a 4, .inl (cI, 40, .inl (upd re k (nI 3)))), (a 5, .inl (cI, 40, .inl (upd sv k r_1))), (b 0, .inr (0, [.ref (b 1), .ref (b 2), .ref (b 3), .int (nI n)])), (b 1, .inl (cI, 40, .inl me)), (b 2, .inl (cI, 40, .inl ar)), (b 3, .inl (cI, 40, .inl dl)), (d 0, .inr (2, [.ref (d 1), .ref (d 2), .ref (d 3), .ref (d 4), .int (nI fi_8), .int (nI sz_8)])), (d 1, .inl (cI, 40, .inl ki_8)), (d 2, .inl (cI, 40, .inl ow_8)), (d 3, .inl (cI, 40, .inl mr_8)), (d 4, .inl (cI, 40, .inl va_8))] := hD
      have hS9 := hS.2.2
      have hq9 : ((((upd ss k (nI 2), cr, se, upd re k (nI 3), upd sv k r_1, r_1), (ki_8, ow_8, mr_8, va_8, fi_8, sz_8)) : SerS × LaneS) = s_perf me ar (ss, cr, se, re, sv, ad) (ki, ow, mr, va, fi, sz) k) ∧ fi_8 < 40 ∧ sz_8 ≤ 40 := by refine ⟨?_, by omega, by omega⟩; simp only [s_perf, ↓reduceIte, eq_self, nI_10, and_true, true_and, and_false, false_and, not_true_eq_false, not_false_eq_true, Bool.and_true, Bool.true_and, Bool.and_false, Bool.false_and, decide_true, decide_false, Bool.false_eq_true, ← hw_1, eq_true c_2, eq_true c_6, ← hw_8]
      exact W.vret hx hb hr (fun t ht hW => ⟨⟨((upd ss k (nI 2), cr, se, upd re k (nI 3), upd sv k r_1, r_1), (ki_8, ow_8, mr_8, va_8, fi_8, sz_8)), rfl, hq9, by rw [ht]; exact hP, hD⟩, hS.F ht⟩) hS9 dX3_perform_70


set_option maxHeartbeats 4000000 in
set_option maxRecDepth 100000 in
theorem c_X3_step (l : Launch) (G : va_G) (cI : ClassId) (a b d : Nat → Nat) (ss : Fn) (cr : Fn) (se : Fn) (re : Fn) (sv : Fn) (ad : Int32) (me : Fn) (ar : Fn) (dl : Fn) (n : Nat) (ki : Fn) (ow : Fn) (mr : Fn) (va : Fn) (fi : Nat) (sz : Nat) (k : Nat) (hk : k < 40) (hn : n ≤ 40) (hf : fi < 40) (hs : sz ≤ 40) (zz : Nat) : Met l yX3_step wsX3_step ({ frames := 5, cells := 0, slots := 0, locals := 112 }) (va_Pc [.ref (a 0), .int (nI k)] (kPre G cI [(a 0, .inr (3, [.ref (b 0), .ref (d 0), .ref (a 1), .ref (a 2), .ref (a 3), .ref (a 4), .ref (a 5), .int ad])), (a 1, .inl (cI, 40, .inl ss)), (a 2, .inl (cI, 40, .inl cr)), (a 3, .inl (cI, 40, .inl se)), (a 4, .inl (cI, 40, .inl re)), (a 5, .inl (cI, 40, .inl sv)), (b 0, .inr (0, [.ref (b 1), .ref (b 2), .ref (b 3), .int (nI n)])), (b 1, .inl (cI, 40, .inl me)), (b 2, .inl (cI, 40, .inl ar)), (b 3, .inl (cI, 40, .inl dl)), (d 0, .inr (2, [.ref (d 1), .ref (d 2), .ref (d 3), .ref (d 4), .int (nI fi), .int (nI sz)])), (d 1, .inl (cI, 40, .inl ki)), (d 2, .inl (cI, 40, .inl ow)), (d 3, .inl (cI, 40, .inl mr)), (d 4, .inl (cI, 40, .inl va))] zz)) (va_Qv (fun (u : SerS × LaneS) => (u = s_step me ar (ss, cr, se, re, sv, ad) (ki, ow, mr, va, fi, sz) k) ∧ u.2.2.2.2.2.1 < 40 ∧ u.2.2.2.2.2.2 ≤ 40) (fun (u : SerS × LaneS) t => kQ G [(a 0, .inr (3, [.ref (b 0), .ref (d 0), .ref (a 1), .ref (a 2), .ref (a 3), .ref (a 4), .ref (a 5), .int u.1.2.2.2.2.2])), (a 1, .inl (cI, 40, .inl u.1.1)), (a 2, .inl (cI, 40, .inl u.1.2.1)), (a 3, .inl (cI, 40, .inl u.1.2.2.1)), (a 4, .inl (cI, 40, .inl u.1.2.2.2.1)), (a 5, .inl (cI, 40, .inl u.1.2.2.2.2.1)), (b 0, .inr (0, [.ref (b 1), .ref (b 2), .ref (b 3), .int (nI n)])), (b 1, .inl (cI, 40, .inl me)), (b 2, .inl (cI, 40, .inl ar)), (b 3, .inl (cI, 40, .inl dl)), (d 0, .inr (2, [.ref (d 1), .ref (d 2), .ref (d 3), .ref (d 4), .int (nI u.2.2.2.2.2.1), .int (nI u.2.2.2.2.2.2)])), (d 1, .inl (cI, 40, .inl u.2.1)), (d 2, .inl (cI, 40, .inl u.2.2.1)), (d 3, .inl (cI, 40, .inl u.2.2.2.1)), (d 4, .inl (cI, 40, .inl u.2.2.2.2.1))] (va_A [(a 0, .inr (3, [.ref (b 0), .ref (d 0), .ref (a 1), .ref (a 2), .ref (a 3), .ref (a 4), .ref (a 5), .int ad])), (a 1, .inl (cI, 40, .inl ss)), (a 2, .inl (cI, 40, .inl cr)), (a 3, .inl (cI, 40, .inl se)), (a 4, .inl (cI, 40, .inl re)), (a 5, .inl (cI, 40, .inl sv)), (b 0, .inr (0, [.ref (b 1), .ref (b 2), .ref (b 3), .int (nI n)])), (b 1, .inl (cI, 40, .inl me)), (b 2, .inl (cI, 40, .inl ar)), (b 3, .inl (cI, 40, .inl dl)), (d 0, .inr (2, [.ref (d 1), .ref (d 2), .ref (d 3), .ref (d 4), .int (nI fi), .int (nI sz)])), (d 1, .inl (cI, 40, .inl ki)), (d 2, .inl (cI, 40, .inl ow)), (d 3, .inl (cI, 40, .inl mr)), (d 4, .inl (cI, 40, .inl va))] zz) t) (va_A [(a 0, .inr (3, [.ref (b 0), .ref (d 0), .ref (a 1), .ref (a 2), .ref (a 3), .ref (a 4), .ref (a 5), .int ad])), (a 1, .inl (cI, 40, .inl ss)), (a 2, .inl (cI, 40, .inl cr)), (a 3, .inl (cI, 40, .inl se)), (a 4, .inl (cI, 40, .inl re)), (a 5, .inl (cI, 40, .inl sv)), (b 0, .inr (0, [.ref (b 1), .ref (b 2), .ref (b 3), .int (nI n)])), (b 1, .inl (cI, 40, .inl me)), (b 2, .inl (cI, 40, .inl ar)), (b 3, .inl (cI, 40, .inl dl)), (d 0, .inr (2, [.ref (d 1), .ref (d 2), .ref (d 3), .ref (d 4), .int (nI fi), .int (nI sz)])), (d 1, .inl (cI, 40, .inl ki)), (d 2, .inl (cI, 40, .inl ow)), (d 3, .inl (cI, 40, .inl mr)), (d 4, .inl (cI, 40, .inl va))] zz)) 0 0 (va_A [(a 0, .inr (3, [.ref (b 0), .ref (d 0), .ref (a 1), .ref (a 2), .ref (a 3), .ref (a 4), .ref (a 5), .int ad])), (a 1, .inl (cI, 40, .inl ss)), (a 2, .inl (cI, 40, .inl cr)), (a 3, .inl (cI, 40, .inl se)), (a 4, .inl (cI, 40, .inl re)), (a 5, .inl (cI, 40, .inl sv)), (b 0, .inr (0, [.ref (b 1), .ref (b 2), .ref (b 3), .int (nI n)])), (b 1, .inl (cI, 40, .inl me)), (b 2, .inl (cI, 40, .inl ar)), (b 3, .inl (cI, 40, .inl dl)), (d 0, .inr (2, [.ref (d 1), .ref (d 2), .ref (d 3), .ref (d 4), .int (nI fi), .int (nI sz)])), (d 1, .inl (cI, 40, .inl ki)), (d 2, .inl (cI, 40, .inl ow)), (d 3, .inl (cI, 40, .inl mr)), (d 4, .inl (cI, 40, .inl va))] zz) := by
  refine Met.ofW (cc := cX3_step) (maxL := 2) (ret := none) (by decide) rfl ?_
  intro p e s m args below meth c s₁ B hml hv
  obtain ⟨rfl, hsz, hP, hK, hD0, hN⟩ := hv
  have hx := B.exec
  have hb := B.bytes
  have hr := B.returns
  have hts := atoms_spec (ws := wsX3_step) B.pre
  have hown : s.vm.findClass RX3 = some m.cls := findClass_of_methodNamed B.named
  have hlocks := B.notSynchronized
  subst hsz
  have hD := hD0.self (sz := s.heap.size)
  generalize hAe : va_A [(a 0, .inr (3, [.ref (b 0), .ref (d 0), .ref (a 1), .ref (a 2), .ref (a 3), .ref (a 4), .ref (a 5), .int ad])), (a 1, .inl (cI, 40, .inl ss)), (a 2, .inl (cI, 40, .inl cr)), (a 3, .inl (cI, 40, .inl se)), (a 4, .inl (cI, 40, .inl re)), (a 5, .inl (cI, 40, .inl sv)), (b 0, .inr (0, [.ref (b 1), .ref (b 2), .ref (b 3), .int (nI n)])), (b 1, .inl (cI, 40, .inl me)), (b 2, .inl (cI, 40, .inl ar)), (b 3, .inl (cI, 40, .inl dl)), (d 0, .inr (2, [.ref (d 1), .ref (d 2), .ref (d 3), .ref (d 4), .int (nI fi), .int (nI sz)])), (d 1, .inl (cI, 40, .inl ki)), (d 2, .inl (cI, 40, .inl ow)), (d 3, .inl (cI, 40, .inl mr)), (d 4, .inl (cI, 40, .inl va))] s.heap.size = A at hD hN ⊢
  have hA : ∀ q : Nat, s.heap.size ≤ q → A q := fun q h => by rw [← hAe]; exact Or.inr h
  have hS : va_S A s.heap s.heap [] := va_S.rf
  have hl := lv_entry ([.ref (a 0), .int (nI k)]) (n := 2) (Nat.le_of_ble_eq_true rfl)
  rw [lg_entry_eq]
  generalize (lg_sl ([.ref (a 0), .int (nI k)]) ++ List.replicate (2 - (lg_sl ([.ref (a 0), .int (nI k)])).length) Slot.unset).toArray = ls at hl ⊢
  have hl : lv_has ls 2 [(0, .ref (a 0)), (1, .int (nI k))] := hl
  have hP : va_P G vwCl [(a 0, .inr (3, [.ref (b 0), .ref (d 0), .ref (a 1), .ref (a 2), .ref (a 3), .ref (a 4), .ref (a 5), .int ad])), (a 1, .inl (cI, 40, .inl ss)), (a 2, .inl (cI, 40, .inl cr)), (a 3, .inl (cI, 40, .inl se)), (a 4, .inl (cI, 40, .inl re)), (a 5, .inl (cI, 40, .inl sv)), (b 0, .inr (0, [.ref (b 1), .ref (b 2), .ref (b 3), .int (nI n)])), (b 1, .inl (cI, 40, .inl me)), (b 2, .inl (cI, 40, .inl ar)), (b 3, .inl (cI, 40, .inl dl)), (d 0, .inr (2, [.ref (d 1), .ref (d 2), .ref (d 3), .ref (d 4), .int (nI fi), .int (nI sz)])), (d 1, .inl (cI, 40, .inl ki)), (d 2, .inl (cI, 40, .inl ow)), (d 3, .inl (cI, 40, .inl mr)), (d 4, .inl (cI, 40, .inl va))] s.heap := hP
  obtain ⟨H, hH⟩ : ∃ H, H = s.heap := ⟨_, rfl⟩
  rw [← hH] at hP
  have hS : va_S A s.heap H [] := by rw [hH]; exact hS
  show W _ _ _ _ _ _ _ _ _ _ s.heap _ _ _ _ _
  rw [← hH]
  obtain ⟨locs, hlo⟩ : ∃ z : List Loc, z = [] := ⟨_, rfl⟩
  rw [← hlo] at hS ⊢
  refine lv_aload_n hx hb dX3_step_0 rfl (lv_at hl 0 rfl) ?_
  refine lv_iload_n hx hb dX3_step_1 rfl (lv_at hl 1 rfl) ?_
  refine k_calli (S := Unit) (wc := [(a 0, .inr (3, [.ref (b 0), .ref (d 0), .ref (a 1), .ref (a 2), .ref (a 3), .ref (a 4), .ref (a 5), .int ad])), (a 1, .inl (cI, 40, .inl ss)), (a 2, .inl (cI, 40, .inl cr)), (a 3, .inl (cI, 40, .inl se)), (a 4, .inl (cI, 40, .inl re)), (a 5, .inl (cI, 40, .inl sv)), (b 0, .inr (0, [.ref (b 1), .ref (b 2), .ref (b 3), .int (nI n)])), (b 1, .inl (cI, 40, .inl me)), (b 2, .inl (cI, 40, .inl ar)), (b 3, .inl (cI, 40, .inl dl)), (d 0, .inr (2, [.ref (d 1), .ref (d 2), .ref (d 3), .ref (d 4), .int (nI fi), .int (nI sz)])), (d 1, .inl (cI, 40, .inl ki)), (d 2, .inl (cI, 40, .inl ow)), (d 3, .inl (cI, 40, .inl mr)), (d 4, .inl (cI, 40, .inl va))]) (wr := []) (w1 := fun u => [(a 0, .inr (3, [.ref (b 0), .ref (d 0), .ref (a 1), .ref (a 2), .ref (a 3), .ref (a 4), .ref (a 5), .int ad])), (a 1, .inl (cI, 40, .inl ss)), (a 2, .inl (cI, 40, .inl cr)), (a 3, .inl (cI, 40, .inl se)), (a 4, .inl (cI, 40, .inl re)), (a 5, .inl (cI, 40, .inl sv)), (b 0, .inr (0, [.ref (b 1), .ref (b 2), .ref (b 3), .int (nI n)])), (b 1, .inl (cI, 40, .inl me)), (b 2, .inl (cI, 40, .inl ar)), (b 3, .inl (cI, 40, .inl dl)), (d 0, .inr (2, [.ref (d 1), .ref (d 2), .ref (d 3), .ref (d 4), .int (nI fi), .int (nI sz)])), (d 1, .inl (cI, 40, .inl ki)), (d 2, .inl (cI, 40, .inl ow)), (d 3, .inl (cI, 40, .inl mr)), (d 4, .inl (cI, 40, .inl va))]) (w2 := fun u => [(a 0, .inr (3, [.ref (b 0), .ref (d 0), .ref (a 1), .ref (a 2), .ref (a 3), .ref (a 4), .ref (a 5), .int ad])), (a 1, .inl (cI, 40, .inl ss)), (a 2, .inl (cI, 40, .inl cr)), (a 3, .inl (cI, 40, .inl se)), (a 4, .inl (cI, 40, .inl re)), (a 5, .inl (cI, 40, .inl sv)), (b 0, .inr (0, [.ref (b 1), .ref (b 2), .ref (b 3), .int (nI n)])), (b 1, .inl (cI, 40, .inl me)), (b 2, .inl (cI, 40, .inl ar)), (b 3, .inl (cI, 40, .inl dl)), (d 0, .inr (2, [.ref (d 1), .ref (d 2), .ref (d 3), .ref (d 4), .int (nI fi), .int (nI sz)])), (d 1, .inl (cI, 40, .inl ki)), (d 2, .inl (cI, 40, .inl ow)), (d 3, .inl (cI, 40, .inl mr)), (d 4, .inl (cI, 40, .inl va))]) (va_runV (As := [.int (nI k)]) (rest := []) ⟨hx, hb, hml, hown, hts⟩ (c_X3_isItemNext l G cI a b d ss cr se re sv ad me ar dl n ki ow mr va fi sz k (by first | omega | assumption) (by first | omega | assumption) (by first | omega | assumption) (by first | omega | assumption) H.size) (cwV 1 hts gX3_step_X3_isItemNext rfl rfl rfl (by decide +kernel) ⟨Nat.le_of_ble_eq_true rfl, Nat.le_of_ble_eq_true rfl⟩) ⟨kPre.blind, va_recv hK hP (ci := 3) (q0 := 0) rfl rfl, kPre.at hP hK hD hS hA hN [0, 1, 2, 3, 4, 5, 6, 7, 8, 9, 10, 11, 12, 13, 14] rfl rfl⟩ rfl rfl hl.1 rfl (lv_room (Nat.le_of_ble_eq_true rfl)) dX3_step_2 ⟨Nat.le_of_ble_eq_true rfl, Nat.le_of_ble_eq_true rfl⟩) hP hD hS hA [0, 1, 2, 3, 4, 5, 6, 7, 8, 9, 10, 11, 12, 13, 14] [] [0, 1, 2, 3, 4, 5, 6, 7, 8, 9, 10, 11, 12, 13, 14] rfl rfl ⟨rfl, by decide, rfl⟩ (fun _ => rfl) (fun r_1 u H locs hw_1 hP hD hS => ?_)
  have hP : va_P G vwCl [(a 0, .inr (3, [.ref (b 0), .ref (d 0), .ref (a 1), .ref (a 2), .ref (a 3), .ref (a 4), .ref (a 5), .int ad])), (a 1, .inl (cI, 40, .inl ss)), (a 2, .inl (cI, 40, .inl cr)), (a 3, .inl (cI, 40, .inl se)), (a 4, .inl (cI, 40, .inl re)), (a 5, .inl (cI, 40, .inl sv)), (b 0, .inr (0, [.ref (b 1), .ref (b 2), .ref (b 3), .int (nI n)])), (b 1, .inl (cI, 40, .inl me)), (b 2, .inl (cI, 40, .inl ar)), (b 3, .inl (cI, 40, .inl dl)), (d 0, .inr (2, [.ref (d 1), .ref (d 2), .ref (d 3), .ref (d 4), .int (nI fi), .int (nI sz)])), (d 1, .inl (cI, 40, .inl ki)), (d 2, .inl (cI, 40, .inl ow)), (d 3, .inl (cI, 40, .inl mr)), (d 4, .inl (cI, 40, .inl va))] H := hP
  have hD : va_D A [(a 0, .inr (3, [.ref (b 0), .ref (d 0), .ref (a 1), .ref (a 2), .ref (a 3), .ref (a 4), .ref (a 5), .int ad])), (a 1, .inl (cI, 40, .inl ss)), (a 2, .inl (cI, 40, .inl cr)), (a 3, .inl (cI, 40, .inl se)), (a 4, .inl (cI, 40, .inl re)), (a 5, .inl (cI, 40, .inl sv)), (b 0, .inr (0, [.ref (b 1), .ref (b 2), .ref (b 3), .int (nI n)])), (b 1, .inl (cI, 40, .inl me)), (b 2, .inl (cI, 40, .inl ar)), (b 3, .inl (cI, 40, .inl dl)), (d 0, .inr (2, [.ref (d 1), .ref (d 2), .ref (d 3), .ref (d 4), .int (nI fi), .int (nI sz)])), (d 1, .inl (cI, 40, .inl ki)), (d 2, .inl (cI, 40, .inl ow)), (d 3, .inl (cI, 40, .inl mr)), (d 4, .inl (cI, 40, .inl va))] := hD
  refine lv_if_eq (tgt := 16) hx hb dX3_step_5 (by decide) (fun c_2 => ?_) (fun c_2 => ?_)
  · have g_2 := k_bool0 hw_1 c_2
    refine lv_aload_n hx hb dX3_step_16 rfl (lv_at hl 0 rfl) ?_
    refine lv_iload_n hx hb dX3_step_17 rfl (lv_at hl 1 rfl) ?_
    refine k_callv (S := SerS × LaneS) (wc := [(a 0, .inr (3, [.ref (b 0), .ref (d 0), .ref (a 1), .ref (a 2), .ref (a 3), .ref (a 4), .ref (a 5), .int ad])), (a 1, .inl (cI, 40, .inl ss)), (a 2, .inl (cI, 40, .inl cr)), (a 3, .inl (cI, 40, .inl se)), (a 4, .inl (cI, 40, .inl re)), (a 5, .inl (cI, 40, .inl sv)), (b 0, .inr (0, [.ref (b 1), .ref (b 2), .ref (b 3), .int (nI n)])), (b 1, .inl (cI, 40, .inl me)), (b 2, .inl (cI, 40, .inl ar)), (b 3, .inl (cI, 40, .inl dl)), (d 0, .inr (2, [.ref (d 1), .ref (d 2), .ref (d 3), .ref (d 4), .int (nI fi), .int (nI sz)])), (d 1, .inl (cI, 40, .inl ki)), (d 2, .inl (cI, 40, .inl ow)), (d 3, .inl (cI, 40, .inl mr)), (d 4, .inl (cI, 40, .inl va))]) (wr := []) (w1 := fun u => [(a 0, .inr (3, [.ref (b 0), .ref (d 0), .ref (a 1), .ref (a 2), .ref (a 3), .ref (a 4), .ref (a 5), .int u.1.2.2.2.2.2])), (a 1, .inl (cI, 40, .inl u.1.1)), (a 2, .inl (cI, 40, .inl u.1.2.1)), (a 3, .inl (cI, 40, .inl u.1.2.2.1)), (a 4, .inl (cI, 40, .inl u.1.2.2.2.1)), (a 5, .inl (cI, 40, .inl u.1.2.2.2.2.1)), (b 0, .inr (0, [.ref (b 1), .ref (b 2), .ref (b 3), .int (nI n)])), (b 1, .inl (cI, 40, .inl me)), (b 2, .inl (cI, 40, .inl ar)), (b 3, .inl (cI, 40, .inl dl)), (d 0, .inr (2, [.ref (d 1), .ref (d 2), .ref (d 3), .ref (d 4), .int (nI u.2.2.2.2.2.1), .int (nI u.2.2.2.2.2.2)])), (d 1, .inl (cI, 40, .inl u.2.1)), (d 2, .inl (cI, 40, .inl u.2.2.1)), (d 3, .inl (cI, 40, .inl u.2.2.2.1)), (d 4, .inl (cI, 40, .inl u.2.2.2.2.1))]) (w2 := fun u => [(a 0, .inr (3, [.ref (b 0), .ref (d 0), .ref (a 1), .ref (a 2), .ref (a 3), .ref (a 4), .ref (a 5), .int u.1.2.2.2.2.2])), (a 1, .inl (cI, 40, .inl u.1.1)), (a 2, .inl (cI, 40, .inl u.1.2.1)), (a 3, .inl (cI, 40, .inl u.1.2.2.1)), (a 4, .inl (cI, 40, .inl u.1.2.2.2.1)), (a 5, .inl (cI, 40, .inl u.1.2.2.2.2.1)), (b 0, .inr (0, [.ref (b 1), .ref (b 2), .ref (b 3), .int (nI n)])), (b 1, .inl (cI, 40, .inl me)), (b 2, .inl (cI, 40, .inl ar)), (b 3, .inl (cI, 40, .inl dl)), (d 0, .inr (2, [.ref (d 1), .ref (d 2), .ref (d 3), .ref (d 4), .int (nI u.2.2.2.2.2.1), .int (nI u.2.2.2.2.2.2)])), (d 1, .inl (cI, 40, .inl u.2.1)), (d 2, .inl (cI, 40, .inl u.2.2.1)), (d 3, .inl (cI, 40, .inl u.2.2.2.1)), (d 4, .inl (cI, 40, .inl u.2.2.2.2.1))]) (va_runV (As := [.int (nI k)]) (rest := []) ⟨hx, hb, hml, hown, hts⟩ (c_X3_perform l G cI a b d ss cr se re sv ad me ar dl n ki ow mr va fi sz k (by first | omega | assumption) (by first | omega | assumption) (by first | omega | assumption) (by first | omega | assumption) H.size) (cwV 1 hts gX3_step_X3_perform rfl rfl rfl (by decide +kernel) ⟨Nat.le_of_ble_eq_true rfl, Nat.le_of_ble_eq_true rfl⟩) ⟨kPre.blind, va_recv hK hP (ci := 3) (q0 := 0) rfl rfl, kPre.at hP hK hD hS hA hN [0, 1, 2, 3, 4, 5, 6, 7, 8, 9, 10, 11, 12, 13, 14] rfl rfl⟩ rfl rfl hl.1 rfl (lv_room (Nat.le_of_ble_eq_true rfl)) dX3_step_18 ⟨Nat.le_of_ble_eq_true rfl, Nat.le_of_ble_eq_true rfl⟩) hP hD hS hA [0, 1, 2, 3, 4, 5, 6, 7, 8, 9, 10, 11, 12, 13, 14] [] [0, 1, 2, 3, 4, 5, 6, 7, 8, 9, 10, 11, 12, 13, 14] rfl rfl ⟨rfl, by decide, rfl⟩ (fun _ => rfl) (fun u H locs hw_3 hP hD hS => ?_)
    obtain ⟨⟨ss_3, cr_3, se_3, re_3, sv_3, ad_3⟩, ⟨ki_3, ow_3, mr_3, va_3, fi_3, sz_3⟩⟩ := u
    obtain ⟨hw_3, hf_3, hs_3⟩ := hw_3
    have hf_3 : fi_3 < 40 := hf_3
    have hs_3 : sz_3 ≤ 40 := hs_3
    have hw_3 : (((ss_3, cr_3, se_3, re_3, sv_3, ad_3), (ki_3, ow_3, mr_3, va_3, fi_3, sz_3)) : SerS × LaneS) = s_perf me ar (ss, cr, se, re, sv, ad) (ki, ow, mr, va, fi, sz) k := hw_3
    have hP : va_P G vwCl [(a 0, .inr (3, [.ref (b 0), .ref (d 0), .ref (a 1), .ref (a 2), .ref (a 3), .ref (a 4), .ref (a 5), .int ad_3])), (a 1, .inl (cI, 40, .inl ss_3)), (a 2, .inl (cI, 40, .inl cr_3)), (a 3, .inl (cI, 40, .inl se_3)), (a 4, .inl (cI, 40, .inl re_3)), (a 5, .inl (cI, 40, .inl sv_3)), (b 0, .inr (0, [.ref (b 1), .ref (b 2), .ref (b 3), .int (nI n)])), (b 1, .inl (cI, 40, .inl me)), (b 2, .inl (cI, 40, .inl ar)), (b 3, .inl (cI, 40, .inl dl)), (d 0, .inr (2, [.ref (d 1), .ref (d 2), .ref (d 3), .ref (d 4), .int (nI fi_3), .int (nI sz_3)])), (d 1, .inl (cI, 40, .inl ki_3)), (d 2, .inl (cI, 40, .inl ow_3)), (d 3, .inl (cI, 40, .inl mr_3)), (d 4, .inl (cI, 40, .inl va_3))] H := hP
    have hD : va_D A [(a 0, .inr (3, [.ref (b 0), .ref (d 0), .ref (a 1), .ref (a 2), .ref (a 3), .ref (a 4), .ref (a 5), .int ad_3])), (a 1, .inl (cI, 40, .inl ss_3)), (a 2, .inl (cI, 40, .inl cr_3)), (a 3, .inl (cI, 40, .inl se_3)), (a 4, .inl (cI, 40, .inl re_3)), (a 5, .inl (cI, 40, .inl sv_3)), (b 0, .inr (0, [.ref (b 1), .ref (b 2), .ref (b 3), .int (nI n)])), (b 1, .inl (cI, 40, .inl me)), (b 2, .inl (cI, 40, .inl ar)), (b 3, .inl (cI, 40, .inl dl)), (d 0, .inr (2, [.ref (d 1), .ref (d 2), .ref (d 3), .ref (d 4), .int (nI fi_3), .int (nI sz_3)])), (d 1, .inl (cI, 40, .inl ki_3)), (d 2, .inl (cI, 40, .inl ow_3)), (d 3, .inl (cI, 40, .inl mr_3)), (d 4, .inl (cI, 40, .inl va_3))] := hD
    have hS9 := hS.2.2
    have hq9 : ((((ss_3, cr_3, se_3, re_3, sv_3, ad_3), (ki_3, ow_3, mr_3, va_3, fi_3, sz_3)) : SerS × LaneS) = s_step me ar (ss, cr, se, re, sv, ad) (ki, ow, mr, va, fi, sz) k) ∧ fi_3 < 40 ∧ sz_3 ≤ 40 := by refine ⟨?_, by omega, by omega⟩; simp only [s_step, ↓reduceIte, eq_self, nI_10, and_true, true_and, and_false, false_and, not_true_eq_false, not_false_eq_true, Bool.and_true, Bool.true_and, Bool.and_false, Bool.false_and, decide_true, decide_false, Bool.false_eq_true, eq_false g_2, ← hw_3]
    exact W.vret hx hb hr (fun t ht hW => ⟨⟨((ss_3, cr_3, se_3, re_3, sv_3, ad_3), (ki_3, ow_3, mr_3, va_3, fi_3, sz_3)), rfl, hq9, by rw [ht]; exact hP, hD⟩, hS.F ht⟩) hS9 dX3_step_21
  · have g_2 := k_bool1 hw_1 c_2
    refine lv_aload_n hx hb dX3_step_8 rfl (lv_at hl 0 rfl) ?_
    refine lv_iload_n hx hb dX3_step_9 rfl (lv_at hl 1 rfl) ?_
    refine k_callv (S := SerS × LaneS) (wc := [(a 0, .inr (3, [.ref (b 0), .ref (d 0), .ref (a 1), .ref (a 2), .ref (a 3), .ref (a 4), .ref (a 5), .int ad])), (a 1, .inl (cI, 40, .inl ss)), (a 2, .inl (cI, 40, .inl cr)), (a 3, .inl (cI, 40, .inl se)), (a 4, .inl (cI, 40, .inl re)), (a 5, .inl (cI, 40, .inl sv)), (b 0, .inr (0, [.ref (b 1), .ref (b 2), .ref (b 3), .int (nI n)])), (b 1, .inl (cI, 40, .inl me)), (b 2, .inl (cI, 40, .inl ar)), (b 3, .inl (cI, 40, .inl dl)), (d 0, .inr (2, [.ref (d 1), .ref (d 2), .ref (d 3), .ref (d 4), .int (nI fi), .int (nI sz)])), (d 1, .inl (cI, 40, .inl ki)), (d 2, .inl (cI, 40, .inl ow)), (d 3, .inl (cI, 40, .inl mr)), (d 4, .inl (cI, 40, .inl va))]) (wr := []) (w1 := fun u => [(a 0, .inr (3, [.ref (b 0), .ref (d 0), .ref (a 1), .ref (a 2), .ref (a 3), .ref (a 4), .ref (a 5), .int u.1.2.2.2.2.2])), (a 1, .inl (cI, 40, .inl u.1.1)), (a 2, .inl (cI, 40, .inl u.1.2.1)), (a 3, .inl (cI, 40, .inl u.1.2.2.1)), (a 4, .inl (cI, 40, .inl u.1.2.2.2.1)), (a 5, .inl (cI, 40, .inl u.1.2.2.2.2.1)), (b 0, .inr (0, [.ref (b 1), .ref (b 2), .ref (b 3), .int (nI n)])), (b 1, .inl (cI, 40, .inl me)), (b 2, .inl (cI, 40, .inl ar)), (b 3, .inl (cI, 40, .inl dl)), (d 0, .inr (2, [.ref (d 1), .ref (d 2), .ref (d 3), .ref (d 4), .int (nI u.2.2.2.2.2.1), .int (nI u.2.2.2.2.2.2)])), (d 1, .inl (cI, 40, .inl u.2.1)), (d 2, .inl (cI, 40, .inl u.2.2.1)), (d 3, .inl (cI, 40, .inl u.2.2.2.1)), (d 4, .inl (cI, 40, .inl u.2.2.2.2.1))]) (w2 := fun u => [(a 0, .inr (3, [.ref (b 0), .ref (d 0), .ref (a 1), .ref (a 2), .ref (a 3), .ref (a 4), .ref (a 5), .int u.1.2.2.2.2.2])), (a 1, .inl (cI, 40, .inl u.1.1)), (a 2, .inl (cI, 40, .inl u.1.2.1)), (a 3, .inl (cI, 40, .inl u.1.2.2.1)), (a 4, .inl (cI, 40, .inl u.1.2.2.2.1)), (a 5, .inl (cI, 40, .inl u.1.2.2.2.2.1)), (b 0, .inr (0, [.ref (b 1), .ref (b 2), .ref (b 3), .int (nI n)])), (b 1, .inl (cI, 40, .inl me)), (b 2, .inl (cI, 40, .inl ar)), (b 3, .inl (cI, 40, .inl dl)), (d 0, .inr (2, [.ref (d 1), .ref (d 2), .ref (d 3), .ref (d 4), .int (nI u.2.2.2.2.2.1), .int (nI u.2.2.2.2.2.2)])), (d 1, .inl (cI, 40, .inl u.2.1)), (d 2, .inl (cI, 40, .inl u.2.2.1)), (d 3, .inl (cI, 40, .inl u.2.2.2.1)), (d 4, .inl (cI, 40, .inl u.2.2.2.2.1))]) (va_runV (As := [.int (nI k)]) (rest := []) ⟨hx, hb, hml, hown, hts⟩ (c_X3_sendItem l G cI a b d ss cr se re sv ad me ar dl n ki ow mr va fi sz k (by first | omega | assumption) (by first | omega | assumption) (by first | omega | assumption) (by first | omega | assumption) H.size) (cwV 1 hts gX3_step_X3_sendItem rfl rfl rfl (by decide +kernel) ⟨Nat.le_of_ble_eq_true rfl, Nat.le_of_ble_eq_true rfl⟩) ⟨kPre.blind, va_recv hK hP (ci := 3) (q0 := 0) rfl rfl, kPre.at hP hK hD hS hA hN [0, 1, 2, 3, 4, 5, 6, 7, 8, 9, 10, 11, 12, 13, 14] rfl rfl⟩ rfl rfl hl.1 rfl (lv_room (Nat.le_of_ble_eq_true rfl)) dX3_step_10 ⟨Nat.le_of_ble_eq_true rfl, Nat.le_of_ble_eq_true rfl⟩) hP hD hS hA [0, 1, 2, 3, 4, 5, 6, 7, 8, 9, 10, 11, 12, 13, 14] [] [0, 1, 2, 3, 4, 5, 6, 7, 8, 9, 10, 11, 12, 13, 14] rfl rfl ⟨rfl, by decide, rfl⟩ (fun _ => rfl) (fun u H locs hw_4 hP hD hS => ?_)
    obtain ⟨⟨ss_4, cr_4, se_4, re_4, sv_4, ad_4⟩, ⟨ki_4, ow_4, mr_4, va_4, fi_4, sz_4⟩⟩ := u
    obtain ⟨hw_4, hf_4, hs_4⟩ := hw_4
    have hf_4 : fi_4 < 40 := hf_4
    have hs_4 : sz_4 ≤ 40 := hs_4
    have hw_4 : (((ss_4, cr_4, se_4, re_4, sv_4, ad_4), (ki_4, ow_4, mr_4, va_4, fi_4, sz_4)) : SerS × LaneS) = s_item ar (ss, cr, se, re, sv, ad) (ki, ow, mr, va, fi, sz) k := hw_4
    have hP : va_P G vwCl [(a 0, .inr (3, [.ref (b 0), .ref (d 0), .ref (a 1), .ref (a 2), .ref (a 3), .ref (a 4), .ref (a 5), .int ad_4])), (a 1, .inl (cI, 40, .inl ss_4)), (a 2, .inl (cI, 40, .inl cr_4)), (a 3, .inl (cI, 40, .inl se_4)), (a 4, .inl (cI, 40, .inl re_4)), (a 5, .inl (cI, 40, .inl sv_4)), (b 0, .inr (0, [.ref (b 1), .ref (b 2), .ref (b 3), .int (nI n)])), (b 1, .inl (cI, 40, .inl me)), (b 2, .inl (cI, 40, .inl ar)), (b 3, .inl (cI, 40, .inl dl)), (d 0, .inr (2, [.ref (d 1), .ref (d 2), .ref (d 3), .ref (d 4), .int (nI fi_4), .int (nI sz_4)])), (d 1, .inl (cI, 40, .inl ki_4)), (d 2, .inl (cI, 40, .inl ow_4)), (d 3, .inl (cI, 40, .inl mr_4)), (d 4, .inl (cI, 40, .inl va_4))] H := hP
    have hD : va_D A [(a 0, .inr (3, [.ref (b 0), .ref (d 0), .ref (a 1), .ref (a 2), .ref (a 3), .ref (a 4), .ref (a 5), .int ad_4])), (a 1, .inl (cI, 40, .inl ss_4)), (a 2, .inl (cI, 40, .inl cr_4)), (a 3, .inl (cI, 40, .inl se_4)), (a 4, .inl (cI, 40, .inl re_4)), (a 5, .inl (cI, 40, .inl sv_4)), (b 0, .inr (0, [.ref (b 1), .ref (b 2), .ref (b 3), .int (nI n)])), (b 1, .inl (cI, 40, .inl me)), (b 2, .inl (cI, 40, .inl ar)), (b 3, .inl (cI, 40, .inl dl)), (d 0, .inr (2, [.ref (d 1), .ref (d 2), .ref (d 3), .ref (d 4), .int (nI fi_4), .int (nI sz_4)])), (d 1, .inl (cI, 40, .inl ki_4)), (d 2, .inl (cI, 40, .inl ow_4)), (d 3, .inl (cI, 40, .inl mr_4)), (d 4, .inl (cI, 40, .inl va_4))] := hD
    refine lv_goto (tgt := 21) hx hb dX3_step_13 (by decide) ?_
    have hS9 := hS.2.2
    have hq9 : ((((ss_4, cr_4, se_4, re_4, sv_4, ad_4), (ki_4, ow_4, mr_4, va_4, fi_4, sz_4)) : SerS × LaneS) = s_step me ar (ss, cr, se, re, sv, ad) (ki, ow, mr, va, fi, sz) k) ∧ fi_4 < 40 ∧ sz_4 ≤ 40 := by refine ⟨?_, by omega, by omega⟩; simp only [s_step, ↓reduceIte, eq_self, nI_10, and_true, true_and, and_false, false_and, not_true_eq_false, not_false_eq_true, Bool.and_true, Bool.true_and, Bool.and_false, Bool.false_and, decide_true, decide_false, Bool.false_eq_true, eq_true g_2, ← hw_4]
    exact W.vret hx hb hr (fun t ht hW => ⟨⟨((ss_4, cr_4, se_4, re_4, sv_4, ad_4), (ki_4, ow_4, mr_4, va_4, fi_4, sz_4)), rfl, hq9, by rw [ht]; exact hP, hD⟩, hS.F ht⟩) hS9 dX3_step_21

theorem hk_X3_takeCancellation_f9 : (.fieldLink RX3 9 "Callgate$Server" "states" "[I" : Cond) ∈ wsX3_takeCancellation := by decide +kernel
theorem hi_X3_takeCancellation_X3 : ∀ w ∈ u_ws RX3 TX3 8, w ∈ wsX3_takeCancellation := by decide +kernel
set_option maxHeartbeats 4000000 in
set_option maxRecDepth 100000 in
theorem c_X3_takeCancellation (l : Launch) (G : va_G) (cI : ClassId) (a b d : Nat → Nat) (ss : Fn) (cr : Fn) (se : Fn) (re : Fn) (sv : Fn) (ad : Int32) (me : Fn) (ar : Fn) (dl : Fn) (n : Nat) (ki : Fn) (ow : Fn) (mr : Fn) (va : Fn) (fi : Nat) (sz : Nat) (k : Nat) (hk : k < 40) (hn : n ≤ 40) (hf : fi < 40) (hs : sz ≤ 40) (zz : Nat) : Met l yX3_takeCancellation wsX3_takeCancellation ({ frames := 0, cells := 0, slots := 0, locals := 0 }) (va_Pc [.ref (a 0), .int (nI k)] (kPre G cI [(a 0, .inr (3, [.ref (b 0), .ref (d 0), .ref (a 1), .ref (a 2), .ref (a 3), .ref (a 4), .ref (a 5), .int ad])), (a 1, .inl (cI, 40, .inl ss)), (a 2, .inl (cI, 40, .inl cr)), (a 3, .inl (cI, 40, .inl se)), (a 4, .inl (cI, 40, .inl re)), (a 5, .inl (cI, 40, .inl sv)), (b 0, .inr (0, [.ref (b 1), .ref (b 2), .ref (b 3), .int (nI n)])), (b 1, .inl (cI, 40, .inl me)), (b 2, .inl (cI, 40, .inl ar)), (b 3, .inl (cI, 40, .inl dl)), (d 0, .inr (2, [.ref (d 1), .ref (d 2), .ref (d 3), .ref (d 4), .int (nI fi), .int (nI sz)])), (d 1, .inl (cI, 40, .inl ki)), (d 2, .inl (cI, 40, .inl ow)), (d 3, .inl (cI, 40, .inl mr)), (d 4, .inl (cI, 40, .inl va))] zz)) (va_Qv (fun (u : SerS) => (u = s_tcan (ss, cr, se, re, sv, ad) k)) (fun (u : SerS) t => kQ G [(a 0, .inr (3, [.ref (b 0), .ref (d 0), .ref (a 1), .ref (a 2), .ref (a 3), .ref (a 4), .ref (a 5), .int u.2.2.2.2.2])), (a 1, .inl (cI, 40, .inl u.1)), (a 2, .inl (cI, 40, .inl u.2.1)), (a 3, .inl (cI, 40, .inl u.2.2.1)), (a 4, .inl (cI, 40, .inl u.2.2.2.1)), (a 5, .inl (cI, 40, .inl u.2.2.2.2.1)), (b 0, .inr (0, [.ref (b 1), .ref (b 2), .ref (b 3), .int (nI n)])), (b 1, .inl (cI, 40, .inl me)), (b 2, .inl (cI, 40, .inl ar)), (b 3, .inl (cI, 40, .inl dl)), (d 0, .inr (2, [.ref (d 1), .ref (d 2), .ref (d 3), .ref (d 4), .int (nI fi), .int (nI sz)])), (d 1, .inl (cI, 40, .inl ki)), (d 2, .inl (cI, 40, .inl ow)), (d 3, .inl (cI, 40, .inl mr)), (d 4, .inl (cI, 40, .inl va))] (va_A [(a 0, .inr (3, [.ref (b 0), .ref (d 0), .ref (a 1), .ref (a 2), .ref (a 3), .ref (a 4), .ref (a 5), .int ad])), (a 1, .inl (cI, 40, .inl ss)), (a 2, .inl (cI, 40, .inl cr)), (a 3, .inl (cI, 40, .inl se)), (a 4, .inl (cI, 40, .inl re)), (a 5, .inl (cI, 40, .inl sv)), (b 0, .inr (0, [.ref (b 1), .ref (b 2), .ref (b 3), .int (nI n)])), (b 1, .inl (cI, 40, .inl me)), (b 2, .inl (cI, 40, .inl ar)), (b 3, .inl (cI, 40, .inl dl)), (d 0, .inr (2, [.ref (d 1), .ref (d 2), .ref (d 3), .ref (d 4), .int (nI fi), .int (nI sz)])), (d 1, .inl (cI, 40, .inl ki)), (d 2, .inl (cI, 40, .inl ow)), (d 3, .inl (cI, 40, .inl mr)), (d 4, .inl (cI, 40, .inl va))] zz) t) (va_A [(a 0, .inr (3, [.ref (b 0), .ref (d 0), .ref (a 1), .ref (a 2), .ref (a 3), .ref (a 4), .ref (a 5), .int ad])), (a 1, .inl (cI, 40, .inl ss)), (a 2, .inl (cI, 40, .inl cr)), (a 3, .inl (cI, 40, .inl se)), (a 4, .inl (cI, 40, .inl re)), (a 5, .inl (cI, 40, .inl sv)), (b 0, .inr (0, [.ref (b 1), .ref (b 2), .ref (b 3), .int (nI n)])), (b 1, .inl (cI, 40, .inl me)), (b 2, .inl (cI, 40, .inl ar)), (b 3, .inl (cI, 40, .inl dl)), (d 0, .inr (2, [.ref (d 1), .ref (d 2), .ref (d 3), .ref (d 4), .int (nI fi), .int (nI sz)])), (d 1, .inl (cI, 40, .inl ki)), (d 2, .inl (cI, 40, .inl ow)), (d 3, .inl (cI, 40, .inl mr)), (d 4, .inl (cI, 40, .inl va))] zz)) 0 0 (va_A [(a 0, .inr (3, [.ref (b 0), .ref (d 0), .ref (a 1), .ref (a 2), .ref (a 3), .ref (a 4), .ref (a 5), .int ad])), (a 1, .inl (cI, 40, .inl ss)), (a 2, .inl (cI, 40, .inl cr)), (a 3, .inl (cI, 40, .inl se)), (a 4, .inl (cI, 40, .inl re)), (a 5, .inl (cI, 40, .inl sv)), (b 0, .inr (0, [.ref (b 1), .ref (b 2), .ref (b 3), .int (nI n)])), (b 1, .inl (cI, 40, .inl me)), (b 2, .inl (cI, 40, .inl ar)), (b 3, .inl (cI, 40, .inl dl)), (d 0, .inr (2, [.ref (d 1), .ref (d 2), .ref (d 3), .ref (d 4), .int (nI fi), .int (nI sz)])), (d 1, .inl (cI, 40, .inl ki)), (d 2, .inl (cI, 40, .inl ow)), (d 3, .inl (cI, 40, .inl mr)), (d 4, .inl (cI, 40, .inl va))] zz) := by
  refine Met.ofW (cc := cX3_takeCancellation) (maxL := 2) (ret := none) (by decide) rfl ?_
  intro p e s m args below meth c s₁ B hml hv
  obtain ⟨rfl, hsz, hP, hK, hD0, hN⟩ := hv
  have hx := B.exec
  have hb := B.bytes
  have hr := B.returns
  have hts := atoms_spec (ws := wsX3_takeCancellation) B.pre
  have hown : s.vm.findClass RX3 = some m.cls := findClass_of_methodNamed B.named
  have hlocks := B.notSynchronized
  subst hsz
  have hD := hD0.self (sz := s.heap.size)
  generalize hAe : va_A [(a 0, .inr (3, [.ref (b 0), .ref (d 0), .ref (a 1), .ref (a 2), .ref (a 3), .ref (a 4), .ref (a 5), .int ad])), (a 1, .inl (cI, 40, .inl ss)), (a 2, .inl (cI, 40, .inl cr)), (a 3, .inl (cI, 40, .inl se)), (a 4, .inl (cI, 40, .inl re)), (a 5, .inl (cI, 40, .inl sv)), (b 0, .inr (0, [.ref (b 1), .ref (b 2), .ref (b 3), .int (nI n)])), (b 1, .inl (cI, 40, .inl me)), (b 2, .inl (cI, 40, .inl ar)), (b 3, .inl (cI, 40, .inl dl)), (d 0, .inr (2, [.ref (d 1), .ref (d 2), .ref (d 3), .ref (d 4), .int (nI fi), .int (nI sz)])), (d 1, .inl (cI, 40, .inl ki)), (d 2, .inl (cI, 40, .inl ow)), (d 3, .inl (cI, 40, .inl mr)), (d 4, .inl (cI, 40, .inl va))] s.heap.size = A at hD hN ⊢
  have hA : ∀ q : Nat, s.heap.size ≤ q → A q := fun q h => by rw [← hAe]; exact Or.inr h
  have hS : va_S A s.heap s.heap [] := va_S.rf
  have hl := lv_entry ([.ref (a 0), .int (nI k)]) (n := 2) (Nat.le_of_ble_eq_true rfl)
  rw [lg_entry_eq]
  generalize (lg_sl ([.ref (a 0), .int (nI k)]) ++ List.replicate (2 - (lg_sl ([.ref (a 0), .int (nI k)])).length) Slot.unset).toArray = ls at hl ⊢
  have hl : lv_has ls 2 [(0, .ref (a 0)), (1, .int (nI k))] := hl
  have hP : va_P G vwCl [(a 0, .inr (3, [.ref (b 0), .ref (d 0), .ref (a 1), .ref (a 2), .ref (a 3), .ref (a 4), .ref (a 5), .int ad])), (a 1, .inl (cI, 40, .inl ss)), (a 2, .inl (cI, 40, .inl cr)), (a 3, .inl (cI, 40, .inl se)), (a 4, .inl (cI, 40, .inl re)), (a 5, .inl (cI, 40, .inl sv)), (b 0, .inr (0, [.ref (b 1), .ref (b 2), .ref (b 3), .int (nI n)])), (b 1, .inl (cI, 40, .inl me)), (b 2, .inl (cI, 40, .inl ar)), (b 3, .inl (cI, 40, .inl dl)), (d 0, .inr (2, [.ref (d 1), .ref (d 2), .ref (d 3), .ref (d 4), .int (nI fi), .int (nI sz)])), (d 1, .inl (cI, 40, .inl ki)), (d 2, .inl (cI, 40, .inl ow)), (d 3, .inl (cI, 40, .inl mr)), (d 4, .inl (cI, 40, .inl va))] s.heap := hP
  obtain ⟨H, hH⟩ : ∃ H, H = s.heap := ⟨_, rfl⟩
  rw [← hH] at hP
  have hS : va_S A s.heap H [] := by rw [hH]; exact hS
  show W _ _ _ _ _ _ _ _ _ _ s.heap _ _ _ _ _
  rw [← hH]
  obtain ⟨locs, hlo⟩ : ∃ z : List Loc, z = [] := ⟨_, rfl⟩
  rw [← hlo] at hS ⊢
  refine lv_aload_n hx hb dX3_takeCancellation_0 rfl (lv_at hl 0 rfl) ?_
  refine va_get (D := G) (ci := 3) (v := .ref (a 1)) (C := RX3) (T := TX3) (N := 8) hx hb hts hi_X3_takeCancellation_X3 hown hK hP 0 rfl rfl 2 (by decide) (hts _ hk_X3_takeCancellation_f9) (fun _ h9 => h9) rfl dX3_takeCancellation_1 ?_
  refine lv_iload_n hx hb dX3_takeCancellation_4 rfl (lv_at hl 1 rfl) ?_
  refine gz_iald hx hb hK hP 1 rfl rfl (k := k) rfl (by omega) (by decide) dX3_takeCancellation_5 ?_
  refine lv_iconst (v := nI 2) hx hb dX3_takeCancellation_6 (by decide +kernel) ?_
  refine lv_icmp_eq (tgt := 17) hx hb dX3_takeCancellation_7 (by decide) (fun c_1 => ?_) (fun c_1 => ?_)
  · skip
    have hS9 := hS.2.2
    have hq9 : (((ss, cr, se, re, sv, ad) : SerS) = s_tcan (ss, cr, se, re, sv, ad) k) := by simp only [s_tcan, ↓reduceIte, eq_self, nI_10, and_true, true_and, and_false, false_and, not_true_eq_false, not_false_eq_true, Bool.and_true, Bool.true_and, Bool.and_false, Bool.false_and, decide_true, decide_false, Bool.false_eq_true, eq_true c_1]
    exact W.vret hx hb hr (fun t ht hW => ⟨⟨(ss, cr, se, re, sv, ad), rfl, hq9, by rw [ht]; exact hP, hD⟩, hS.F ht⟩) hS9 dX3_takeCancellation_17
  · skip
    refine lv_aload_n hx hb dX3_takeCancellation_10 rfl (lv_at hl 0 rfl) ?_
    refine va_get (D := G) (ci := 3) (v := .ref (a 1)) (C := RX3) (T := TX3) (N := 8) hx hb hts hi_X3_takeCancellation_X3 hown hK hP 0 rfl rfl 2 (by decide) (hts _ hk_X3_takeCancellation_f9) (fun _ h9 => h9) rfl dX3_takeCancellation_11 ?_
    refine lv_iload_n hx hb dX3_takeCancellation_14 rfl (lv_at hl 1 rfl) ?_
    refine lv_iconst (v := nI 3) hx hb dX3_takeCancellation_15 (by decide +kernel) ?_
    refine gz_iast hx hb hK hP hD hS 1 rfl rfl (k := k) rfl (by omega) (by decide) dX3_takeCancellation_16 (fun H locs hP hD hS => ?_)
    have hP : va_P G vwCl [(a 0, .inr (3, [.ref (b 0), .ref (d 0), .ref (a 1), .ref (a 2), .ref (a 3), .ref (a 4), .ref (a 5), .int ad])), (a 1, .inl (cI, 40, .inl (upd ss k (nI 3)))), (a 2, .inl (cI, 40, .inl cr)), (a 3, .inl (cI, 40, .inl se)), (a 4, .inl (cI, 40, .inl re)), (a 5, .inl (cI, 40, .inl sv)), (b 0, .inr (0, [.ref (b 1), .ref (b 2), .ref (b 3), .int (nI n)])), (b 1, .inl (cI, 40, .inl me)), (b 2, .inl (cI, 40, .inl ar)), (b 3, .inl (cI, 40, .inl dl)), (d 0, .inr (2, [.ref (d 1), .ref (d 2), .ref (d 3), .ref (d 4), .int (nI fi), .int (nI sz)])), (d 1, .inl (cI, 40, .inl ki)), (d 2, .inl (cI, 40, .inl ow)), (d 3, .inl (cI, 40, .inl mr)), (d 4, .inl (cI, 40, .inl va))] H := hP
    have hD : va_D A [(a 0, .inr (3, [.ref (b 0), .ref (d 0), .ref (a 1), .ref (a 2), .ref (a 3), .ref (a 4), .ref (a 5), .int ad])), (a 1, .inl (cI, 40, .inl (upd ss k (nI 3)))), (a 2, .inl (cI, 40, .inl cr)), (a 3, .inl (cI, 40, .inl se)), (a 4, .inl (cI, 40, .inl re)), (a 5, .inl (cI, 40, .inl sv)), (b 0, .inr (0, [.ref (b 1), .ref (b 2), .ref (b 3), .int (nI n)])), (b 1, .inl (cI, 40, .inl me)), (b 2, .inl (cI, 40, .inl ar)), (b 3, .inl (cI, 40, .inl dl)), (d 0, .inr (2, [.ref (d 1), .ref (d 2), .ref (d 3), .ref (d 4), .int (nI fi), .int (nI sz)])), (d 1, .inl (cI, 40, .inl ki)), (d 2, .inl (cI, 40, .inl ow)), (d 3, .inl (cI, 40, .inl mr)), (d 4, .inl (cI, 40, .inl va))] := hD
    have hS9 := hS.2.2
    have hq9 : (((upd ss k (nI 3), cr, se, re, sv, ad) : SerS) = s_tcan (ss, cr, se, re, sv, ad) k) := by simp only [s_tcan, ↓reduceIte, eq_self, nI_10, and_true, true_and, and_false, false_and, not_true_eq_false, not_false_eq_true, Bool.and_true, Bool.true_and, Bool.and_false, Bool.false_and, decide_true, decide_false, Bool.false_eq_true, eq_false c_1]
    exact W.vret hx hb hr (fun t ht hW => ⟨⟨(upd ss k (nI 3), cr, se, re, sv, ad), rfl, hq9, by rw [ht]; exact hP, hD⟩, hS.F ht⟩) hS9 dX3_takeCancellation_17

theorem hk_X3_takeRequest_f9 : (.fieldLink RX3 9 "Callgate$Server" "states" "[I" : Cond) ∈ wsX3_takeRequest := by decide +kernel
theorem hi_X3_takeRequest_X3 : ∀ w ∈ u_ws RX3 TX3 8, w ∈ wsX3_takeRequest := by decide +kernel
theorem hk_X3_takeRequest_f27 : (.fieldLink RX3 27 "Callgate$Server" "book" "LCallgate$Book;" : Cond) ∈ wsX3_takeRequest := by decide +kernel
theorem hk_X3_takeRequest_iX0 : (.initialized RX0 : Cond) ∈ wsX3_takeRequest := by decide +kernel
theorem hk_X3_takeRequest_nX0_isDue : (.instanceMethod yX0_isDue : Cond) ∈ wsX3_takeRequest := by decide +kernel
theorem hk_X3_takeRequest_sX0_isDue : (.selects RX0 yX0_isDue yX0_isDue : Cond) ∈ wsX3_takeRequest := by decide +kernel
theorem hk_X3_takeRequest_f15 : (.fieldLink RX3 15 "Callgate$Server" "creditsLeft" "[I" : Cond) ∈ wsX3_takeRequest := by decide +kernel
set_option maxHeartbeats 4000000 in
set_option maxRecDepth 100000 in
theorem c_X3_takeRequest (l : Launch) (G : va_G) (cI : ClassId) (a b d : Nat → Nat) (ss : Fn) (cr : Fn) (se : Fn) (re : Fn) (sv : Fn) (ad : Int32) (me : Fn) (ar : Fn) (dl : Fn) (n : Nat) (ki : Fn) (ow : Fn) (mr : Fn) (va : Fn) (fi : Nat) (sz : Nat) (k : Nat) (tm : Int32) (hk : k < 40) (hn : n ≤ 40) (hf : fi < 40) (hs : sz ≤ 40) (zz : Nat) : Met l yX3_takeRequest wsX3_takeRequest ({ frames := 4, cells := 0, slots := 0, locals := 89 }) (va_Pc [.ref (a 0), .int (nI k), .int tm] (kPre G cI [(a 0, .inr (3, [.ref (b 0), .ref (d 0), .ref (a 1), .ref (a 2), .ref (a 3), .ref (a 4), .ref (a 5), .int ad])), (a 1, .inl (cI, 40, .inl ss)), (a 2, .inl (cI, 40, .inl cr)), (a 3, .inl (cI, 40, .inl se)), (a 4, .inl (cI, 40, .inl re)), (a 5, .inl (cI, 40, .inl sv)), (b 0, .inr (0, [.ref (b 1), .ref (b 2), .ref (b 3), .int (nI n)])), (b 1, .inl (cI, 40, .inl me)), (b 2, .inl (cI, 40, .inl ar)), (b 3, .inl (cI, 40, .inl dl)), (d 0, .inr (2, [.ref (d 1), .ref (d 2), .ref (d 3), .ref (d 4), .int (nI fi), .int (nI sz)])), (d 1, .inl (cI, 40, .inl ki)), (d 2, .inl (cI, 40, .inl ow)), (d 3, .inl (cI, 40, .inl mr)), (d 4, .inl (cI, 40, .inl va))] zz)) (va_Qv (fun (u : SerS × LaneS) => (u = s_treq dl (ss, cr, se, re, sv, ad) (ki, ow, mr, va, fi, sz) k tm) ∧ u.2.2.2.2.2.1 < 40 ∧ u.2.2.2.2.2.2 ≤ 40) (fun (u : SerS × LaneS) t => kQ G [(a 0, .inr (3, [.ref (b 0), .ref (d 0), .ref (a 1), .ref (a 2), .ref (a 3), .ref (a 4), .ref (a 5), .int u.1.2.2.2.2.2])), (a 1, .inl (cI, 40, .inl u.1.1)), (a 2, .inl (cI, 40, .inl u.1.2.1)), (a 3, .inl (cI, 40, .inl u.1.2.2.1)), (a 4, .inl (cI, 40, .inl u.1.2.2.2.1)), (a 5, .inl (cI, 40, .inl u.1.2.2.2.2.1)), (b 0, .inr (0, [.ref (b 1), .ref (b 2), .ref (b 3), .int (nI n)])), (b 1, .inl (cI, 40, .inl me)), (b 2, .inl (cI, 40, .inl ar)), (b 3, .inl (cI, 40, .inl dl)), (d 0, .inr (2, [.ref (d 1), .ref (d 2), .ref (d 3), .ref (d 4), .int (nI u.2.2.2.2.2.1), .int (nI u.2.2.2.2.2.2)])), (d 1, .inl (cI, 40, .inl u.2.1)), (d 2, .inl (cI, 40, .inl u.2.2.1)), (d 3, .inl (cI, 40, .inl u.2.2.2.1)), (d 4, .inl (cI, 40, .inl u.2.2.2.2.1))] (va_A [(a 0, .inr (3, [.ref (b 0), .ref (d 0), .ref (a 1), .ref (a 2), .ref (a 3), .ref (a 4), .ref (a 5), .int ad])), (a 1, .inl (cI, 40, .inl ss)), (a 2, .inl (cI, 40, .inl cr)), (a 3, .inl (cI, 40, .inl se)), (a 4, .inl (cI, 40, .inl re)), (a 5, .inl (cI, 40, .inl sv)), (b 0, .inr (0, [.ref (b 1), .ref (b 2), .ref (b 3), .int (nI n)])), (b 1, .inl (cI, 40, .inl me)), (b 2, .inl (cI, 40, .inl ar)), (b 3, .inl (cI, 40, .inl dl)), (d 0, .inr (2, [.ref (d 1), .ref (d 2), .ref (d 3), .ref (d 4), .int (nI fi), .int (nI sz)])), (d 1, .inl (cI, 40, .inl ki)), (d 2, .inl (cI, 40, .inl ow)), (d 3, .inl (cI, 40, .inl mr)), (d 4, .inl (cI, 40, .inl va))] zz) t) (va_A [(a 0, .inr (3, [.ref (b 0), .ref (d 0), .ref (a 1), .ref (a 2), .ref (a 3), .ref (a 4), .ref (a 5), .int ad])), (a 1, .inl (cI, 40, .inl ss)), (a 2, .inl (cI, 40, .inl cr)), (a 3, .inl (cI, 40, .inl se)), (a 4, .inl (cI, 40, .inl re)), (a 5, .inl (cI, 40, .inl sv)), (b 0, .inr (0, [.ref (b 1), .ref (b 2), .ref (b 3), .int (nI n)])), (b 1, .inl (cI, 40, .inl me)), (b 2, .inl (cI, 40, .inl ar)), (b 3, .inl (cI, 40, .inl dl)), (d 0, .inr (2, [.ref (d 1), .ref (d 2), .ref (d 3), .ref (d 4), .int (nI fi), .int (nI sz)])), (d 1, .inl (cI, 40, .inl ki)), (d 2, .inl (cI, 40, .inl ow)), (d 3, .inl (cI, 40, .inl mr)), (d 4, .inl (cI, 40, .inl va))] zz)) 0 0 (va_A [(a 0, .inr (3, [.ref (b 0), .ref (d 0), .ref (a 1), .ref (a 2), .ref (a 3), .ref (a 4), .ref (a 5), .int ad])), (a 1, .inl (cI, 40, .inl ss)), (a 2, .inl (cI, 40, .inl cr)), (a 3, .inl (cI, 40, .inl se)), (a 4, .inl (cI, 40, .inl re)), (a 5, .inl (cI, 40, .inl sv)), (b 0, .inr (0, [.ref (b 1), .ref (b 2), .ref (b 3), .int (nI n)])), (b 1, .inl (cI, 40, .inl me)), (b 2, .inl (cI, 40, .inl ar)), (b 3, .inl (cI, 40, .inl dl)), (d 0, .inr (2, [.ref (d 1), .ref (d 2), .ref (d 3), .ref (d 4), .int (nI fi), .int (nI sz)])), (d 1, .inl (cI, 40, .inl ki)), (d 2, .inl (cI, 40, .inl ow)), (d 3, .inl (cI, 40, .inl mr)), (d 4, .inl (cI, 40, .inl va))] zz) := by
  refine Met.ofW (cc := cX3_takeRequest) (maxL := 3) (ret := none) (by decide) rfl ?_
  intro p e s m args below meth c s₁ B hml hv
  obtain ⟨rfl, hsz, hP, hK, hD0, hN⟩ := hv
  have hx := B.exec
  have hb := B.bytes
  have hr := B.returns
  have hts := atoms_spec (ws := wsX3_takeRequest) B.pre
  have hown : s.vm.findClass RX3 = some m.cls := findClass_of_methodNamed B.named
  have hlocks := B.notSynchronized
  subst hsz
  have hD := hD0.self (sz := s.heap.size)
  generalize hAe : va_A [(a 0, .inr (3, [.ref (b 0), .ref (d 0), .ref (a 1), .ref (a 2), .ref (a 3), .ref (a 4), .ref (a 5), .int ad])), (a 1, .inl (cI, 40, .inl ss)), (a 2, .inl (cI, 40, .inl cr)), (a 3, .inl (cI, 40, .inl se)), (a 4, .inl (cI, 40, .inl re)), (a 5, .inl (cI, 40, .inl sv)), (b 0, .inr (0, [.ref (b 1), .ref (b 2), .ref (b 3), .int (nI n)])), (b 1, .inl (cI, 40, .inl me)), (b 2, .inl (cI, 40, .inl ar)), (b 3, .inl (cI, 40, .inl dl)), (d 0, .inr (2, [.ref (d 1), .ref (d 2), .ref (d 3), .ref (d 4), .int (nI fi), .int (nI sz)])), (d 1, .inl (cI, 40, .inl ki)), (d 2, .inl (cI, 40, .inl ow)), (d 3, .inl (cI, 40, .inl mr)), (d 4, .inl (cI, 40, .inl va))] s.heap.size = A at hD hN ⊢
  have hA : ∀ q : Nat, s.heap.size ≤ q → A q := fun q h => by rw [← hAe]; exact Or.inr h
  have hS : va_S A s.heap s.heap [] := va_S.rf
  have hl := lv_entry ([.ref (a 0), .int (nI k), .int tm]) (n := 3) (Nat.le_of_ble_eq_true rfl)
  rw [lg_entry_eq]
  generalize (lg_sl ([.ref (a 0), .int (nI k), .int tm]) ++ List.replicate (3 - (lg_sl ([.ref (a 0), .int (nI k), .int tm])).length) Slot.unset).toArray = ls at hl ⊢
  have hl : lv_has ls 3 [(0, .ref (a 0)), (1, .int (nI k)), (2, .int tm)] := hl
  have hP : va_P G vwCl [(a 0, .inr (3, [.ref (b 0), .ref (d 0), .ref (a 1), .ref (a 2), .ref (a 3), .ref (a 4), .ref (a 5), .int ad])), (a 1, .inl (cI, 40, .inl ss)), (a 2, .inl (cI, 40, .inl cr)), (a 3, .inl (cI, 40, .inl se)), (a 4, .inl (cI, 40, .inl re)), (a 5, .inl (cI, 40, .inl sv)), (b 0, .inr (0, [.ref (b 1), .ref (b 2), .ref (b 3), .int (nI n)])), (b 1, .inl (cI, 40, .inl me)), (b 2, .inl (cI, 40, .inl ar)), (b 3, .inl (cI, 40, .inl dl)), (d 0, .inr (2, [.ref (d 1), .ref (d 2), .ref (d 3), .ref (d 4), .int (nI fi), .int (nI sz)])), (d 1, .inl (cI, 40, .inl ki)), (d 2, .inl (cI, 40, .inl ow)), (d 3, .inl (cI, 40, .inl mr)), (d 4, .inl (cI, 40, .inl va))] s.heap := hP
  obtain ⟨H, hH⟩ : ∃ H, H = s.heap := ⟨_, rfl⟩
  rw [← hH] at hP
  have hS : va_S A s.heap H [] := by rw [hH]; exact hS
  show W _ _ _ _ _ _ _ _ _ _ s.heap _ _ _ _ _
  rw [← hH]
  obtain ⟨locs, hlo⟩ : ∃ z : List Loc, z = [] := ⟨_, rfl⟩
  rw [← hlo] at hS ⊢
  refine lv_aload_n hx hb dX3_takeRequest_0 rfl (lv_at hl 0 rfl) ?_
  refine va_get (D := G) (ci := 3) (v := .ref (a 1)) (C := RX3) (T := TX3) (N := 8) hx hb hts hi_X3_takeRequest_X3 hown hK hP 0 rfl rfl 2 (by decide) (hts _ hk_X3_takeRequest_f9) (fun _ h9 => h9) rfl dX3_takeRequest_1 ?_
  refine lv_iload_n hx hb dX3_takeRequest_4 rfl (lv_at hl 1 rfl) ?_
  refine gz_iald hx hb hK hP 1 rfl rfl (k := k) rfl (by omega) (by decide) dX3_takeRequest_5 ?_
  refine lv_iconst (v := nI 2) hx hb dX3_takeRequest_6 (by decide +kernel) ?_
  refine lv_icmp_ne (tgt := 18) hx hb dX3_takeRequest_7 (by decide) (fun c_1 => ?_) (fun c_1 => ?_)
  · skip
    refine lv_aload_n hx hb dX3_takeRequest_18 rfl (lv_at hl 0 rfl) ?_
    refine va_get (D := G) (ci := 3) (v := .ref (a 1)) (C := RX3) (T := TX3) (N := 8) hx hb hts hi_X3_takeRequest_X3 hown hK hP 0 rfl rfl 2 (by decide) (hts _ hk_X3_takeRequest_f9) (fun _ h9 => h9) rfl dX3_takeRequest_19 ?_
    refine lv_iload_n hx hb dX3_takeRequest_22 rfl (lv_at hl 1 rfl) ?_
    refine gz_iald hx hb hK hP 1 rfl rfl (k := k) rfl (by omega) (by decide) dX3_takeRequest_23 ?_
    refine lv_if_ne (tgt := 53) hx hb dX3_takeRequest_24 (by decide) (fun c_2 => ?_) (fun c_2 => ?_)
    · skip
      have hS9 := hS.2.2
      have hq9 : ((((ss, cr, se, re, sv, ad), (ki, ow, mr, va, fi, sz)) : SerS × LaneS) = s_treq dl (ss, cr, se, re, sv, ad) (ki, ow, mr, va, fi, sz) k tm) ∧ fi < 40 ∧ sz ≤ 40 := by refine ⟨?_, by omega, by omega⟩; simp only [s_treq, ↓reduceIte, eq_self, nI_10, and_true, true_and, and_false, false_and, not_true_eq_false, not_false_eq_true, Bool.and_true, Bool.true_and, Bool.and_false, Bool.false_and, decide_true, decide_false, Bool.false_eq_true, eq_false c_1, eq_false c_2]
      exact W.vret hx hb hr (fun t ht hW => ⟨⟨((ss, cr, se, re, sv, ad), (ki, ow, mr, va, fi, sz)), rfl, hq9, by rw [ht]; exact hP, hD⟩, hS.F ht⟩) hS9 dX3_takeRequest_53
    · skip
      refine lv_aload_n hx hb dX3_takeRequest_27 rfl (lv_at hl 0 rfl) ?_
      refine va_get (D := G) (ci := 3) (v := .ref (b 0)) (C := RX3) (T := TX3) (N := 8) hx hb hts hi_X3_takeRequest_X3 hown hK hP 0 rfl rfl 0 (by decide) (hts _ hk_X3_takeRequest_f27) (fun _ h9 => h9) rfl dX3_takeRequest_28 ?_
      refine lv_iload_n hx hb dX3_takeRequest_31 rfl (lv_at hl 1 rfl) ?_
      refine lv_iload_n hx hb dX3_takeRequest_32 rfl (lv_at hl 2 rfl) ?_
      refine k_calli (S := Unit) (wc := [(b 0, .inr (0, [.ref (b 1), .ref (b 2), .ref (b 3), .int (nI n)])), (b 1, .inl (cI, 40, .inl me)), (b 2, .inl (cI, 40, .inl ar)), (b 3, .inl (cI, 40, .inl dl))]) (wr := [(a 0, .inr (3, [.ref (b 0), .ref (d 0), .ref (a 1), .ref (a 2), .ref (a 3), .ref (a 4), .ref (a 5), .int ad])), (a 1, .inl (cI, 40, .inl ss)), (a 2, .inl (cI, 40, .inl cr)), (a 3, .inl (cI, 40, .inl se)), (a 4, .inl (cI, 40, .inl re)), (a 5, .inl (cI, 40, .inl sv)), (d 0, .inr (2, [.ref (d 1), .ref (d 2), .ref (d 3), .ref (d 4), .int (nI fi), .int (nI sz)])), (d 1, .inl (cI, 40, .inl ki)), (d 2, .inl (cI, 40, .inl ow)), (d 3, .inl (cI, 40, .inl mr)), (d 4, .inl (cI, 40, .inl va))]) (w1 := fun u => [(b 0, .inr (0, [.ref (b 1), .ref (b 2), .ref (b 3), .int (nI n)])), (b 1, .inl (cI, 40, .inl me)), (b 2, .inl (cI, 40, .inl ar)), (b 3, .inl (cI, 40, .inl dl))]) (w2 := fun u => [(a 0, .inr (3, [.ref (b 0), .ref (d 0), .ref (a 1), .ref (a 2), .ref (a 3), .ref (a 4), .ref (a 5), .int ad])), (a 1, .inl (cI, 40, .inl ss)), (a 2, .inl (cI, 40, .inl cr)), (a 3, .inl (cI, 40, .inl se)), (a 4, .inl (cI, 40, .inl re)), (a 5, .inl (cI, 40, .inl sv)), (b 0, .inr (0, [.ref (b 1), .ref (b 2), .ref (b 3), .int (nI n)])), (b 1, .inl (cI, 40, .inl me)), (b 2, .inl (cI, 40, .inl ar)), (b 3, .inl (cI, 40, .inl dl)), (d 0, .inr (2, [.ref (d 1), .ref (d 2), .ref (d 3), .ref (d 4), .int (nI fi), .int (nI sz)])), (d 1, .inl (cI, 40, .inl ki)), (d 2, .inl (cI, 40, .inl ow)), (d 3, .inl (cI, 40, .inl mr)), (d 4, .inl (cI, 40, .inl va))]) (va_runVN (As := [.int (nI k), .int tm]) (rest := []) ⟨hx, hb, hml, hown, hts⟩ (c_X0_isDue l G cI b me ar dl n k tm (by first | omega | assumption) H.size) ⟨va_cnB (host := RX4) 2 hts gX3_takeRequest_X0_isDue_n46 rfl rfl rfl (hN.1 _ (List.mem_of_getElem? (i := 41) rfl)) (hts _ hk_X3_takeRequest_iX0) (by decide +kernel) ⟨Nat.le_of_ble_eq_true rfl, Nat.le_of_ble_eq_true rfl⟩, (hts _ hk_X3_takeRequest_nX0_isDue), (hts _ hk_X3_takeRequest_sX0_isDue)⟩ ⟨kPre.blind, va_recv hK hP (ci := 0) (q0 := 6) rfl rfl, kPre.at hP hK hD hS hA hN [6, 7, 8, 9] rfl rfl⟩ rfl rfl hl.1 rfl (lv_room (Nat.le_of_ble_eq_true rfl)) dX3_takeRequest_33 ⟨Nat.le_of_ble_eq_true rfl, Nat.le_of_ble_eq_true rfl⟩) hP hD hS hA [6, 7, 8, 9] [0, 1, 2, 3, 4, 5, 10, 11, 12, 13, 14] [0, 1, 2, 3, 4, 5, 11, 12, 13, 14, 6, 7, 8, 9, 10] rfl rfl ⟨rfl, by decide, rfl⟩ (fun _ => rfl) (fun r_3 u H locs hw_3 hP hD hS => ?_)
      have hP : va_P G vwCl [(a 0, .inr (3, [.ref (b 0), .ref (d 0), .ref (a 1), .ref (a 2), .ref (a 3), .ref (a 4), .ref (a 5), .int ad])), (a 1, .inl (cI, 40, .inl ss)), (a 2, .inl (cI, 40, .inl cr)), (a 3, .inl (cI, 40, .inl se)), (a 4, .inl (cI, 40, .inl re)), (a 5, .inl (cI, 40, .inl sv)), (b 0, .inr (0, [.ref (b 1), .ref (b 2), .ref (b 3), .int (nI n)])), (b 1, .inl (cI, 40, .inl me)), (b 2, .inl (cI, 40, .inl ar)), (b 3, .inl (cI, 40, .inl dl)), (d 0, .inr (2, [.ref (d 1), .ref (d 2), .ref (d 3), .ref (d 4), .int (nI fi), .int (nI sz)])), (d 1, .inl (cI, 40, .inl ki)), (d 2, .inl (cI, 40, .inl ow)), (d 3, .inl (cI, 40, .inl mr)), (d 4, .inl (cI, 40, .inl va))] H := hP
      have hD : va_D A [(a 0, .inr (3, [.ref (b 0), .ref (d 0), .ref (a 1), .ref (a 2), .ref (a 3), .ref (a 4), .ref (a 5), .int ad])), (a 1, .inl (cI, 40, .inl ss)), (a 2, .inl (cI, 40, .inl cr)), (a 3, .inl (cI, 40, .inl se)), (a 4, .inl (cI, 40, .inl re)), (a 5, .inl (cI, 40, .inl sv)), (b 0, .inr (0, [.ref (b 1), .ref (b 2), .ref (b 3), .int (nI n)])), (b 1, .inl (cI, 40, .inl me)), (b 2, .inl (cI, 40, .inl ar)), (b 3, .inl (cI, 40, .inl dl)), (d 0, .inr (2, [.ref (d 1), .ref (d 2), .ref (d 3), .ref (d 4), .int (nI fi), .int (nI sz)])), (d 1, .inl (cI, 40, .inl ki)), (d 2, .inl (cI, 40, .inl ow)), (d 3, .inl (cI, 40, .inl mr)), (d 4, .inl (cI, 40, .inl va))] := hD
      refine lv_if_ne (tgt := 53) hx hb dX3_takeRequest_36 (by decide) (fun c_4 => ?_) (fun c_4 => ?_)
      · have g_4 := k_bool1 hw_3 c_4
        have hS9 := hS.2.2
        have hq9 : ((((ss, cr, se, re, sv, ad), (ki, ow, mr, va, fi, sz)) : SerS × LaneS) = s_treq dl (ss, cr, se, re, sv, ad) (ki, ow, mr, va, fi, sz) k tm) ∧ fi < 40 ∧ sz ≤ 40 := by refine ⟨?_, by omega, by omega⟩; simp only [s_treq, ↓reduceIte, eq_self, nI_10, and_true, true_and, and_false, false_and, not_true_eq_false, not_false_eq_true, Bool.and_true, Bool.true_and, Bool.and_false, Bool.false_and, decide_true, decide_false, Bool.false_eq_true, eq_false c_1, eq_true c_2, eq_true g_4]
        exact W.vret hx hb hr (fun t ht hW => ⟨⟨((ss, cr, se, re, sv, ad), (ki, ow, mr, va, fi, sz)), rfl, hq9, by rw [ht]; exact hP, hD⟩, hS.F ht⟩) hS9 dX3_takeRequest_53
      · have g_4 := k_bool0 hw_3 c_4
        refine lv_aload_n hx hb dX3_takeRequest_39 rfl (lv_at hl 0 rfl) ?_
        refine va_get (D := G) (ci := 3) (v := .ref (a 1)) (C := RX3) (T := TX3) (N := 8) hx hb hts hi_X3_takeRequest_X3 hown hK hP 0 rfl rfl 2 (by decide) (hts _ hk_X3_takeRequest_f9) (fun _ h9 => h9) rfl dX3_takeRequest_40 ?_
        refine lv_iload_n hx hb dX3_takeRequest_43 rfl (lv_at hl 1 rfl) ?_
        refine lv_iconst (v := nI 1) hx hb dX3_takeRequest_44 (by decide +kernel) ?_
        refine gz_iast hx hb hK hP hD hS 1 rfl rfl (k := k) rfl (by omega) (by decide) dX3_takeRequest_45 (fun H locs hP hD hS => ?_)
        have hP : va_P G vwCl [(a 0, .inr (3, [.ref (b 0), .ref (d 0), .ref (a 1), .ref (a 2), .ref (a 3), .ref (a 4), .ref (a 5), .int ad])), (a 1, .inl (cI, 40, .inl (upd ss k (nI 1)))), (a 2, .inl (cI, 40, .inl cr)), (a 3, .inl (cI, 40, .inl se)), (a 4, .inl (cI, 40, .inl re)), (a 5, .inl (cI, 40, .inl sv)), (b 0, .inr (0, [.ref (b 1), .ref (b 2), .ref (b 3), .int (nI n)])), (b 1, .inl (cI, 40, .inl me)), (b 2, .inl (cI, 40, .inl ar)), (b 3, .inl (cI, 40, .inl dl)), (d 0, .inr (2, [.ref (d 1), .ref (d 2), .ref (d 3), .ref (d 4), .int (nI fi), .int (nI sz)])), (d 1, .inl (cI, 40, .inl ki)), (d 2, .inl (cI, 40, .inl ow)), (d 3, .inl (cI, 40, .inl mr)), (d 4, .inl (cI, 40, .inl va))] H := hP
        have hD : va_D A [(a 0, .inr (3, [.ref (b 0), .ref (d 0), .ref (a 1), .ref (a 2), .ref (a 3), .ref (a 4), .ref (a 5), .int ad])), (a 1, .inl (cI, 40, .inl (upd ss k (nI 1)))), (a 2, .inl (cI, 40, .inl cr)), (a 3, .inl (cI, 40, .inl se)), (a 4, .inl (cI, 40, .inl re)), (a 5, .inl (cI, 40, .inl sv)), (b 0, .inr (0, [.ref (b 1), .ref (b 2), .ref (b 3), .int (nI n)])), (b 1, .inl (cI, 40, .inl me)), (b 2, .inl (cI, 40, .inl ar)), (b 3, .inl (cI, 40, .inl dl)), (d 0, .inr (2, [.ref (d 1), .ref (d 2), .ref (d 3), .ref (d 4), .int (nI fi), .int (nI sz)])), (d 1, .inl (cI, 40, .inl ki)), (d 2, .inl (cI, 40, .inl ow)), (d 3, .inl (cI, 40, .inl mr)), (d 4, .inl (cI, 40, .inl va))] := hD
        refine lv_aload_n hx hb dX3_takeRequest_46 rfl (lv_at hl 0 rfl) ?_
        refine va_get (D := G) (ci := 3) (v := .ref (a 2)) (C := RX3) (T := TX3) (N := 8) hx hb hts hi_X3_takeRequest_X3 hown hK hP 0 rfl rfl 3 (by decide) (hts _ hk_X3_takeRequest_f15) (fun _ h9 => h9) rfl dX3_takeRequest_47 ?_
        refine lv_iload_n hx hb dX3_takeRequest_50 rfl (lv_at hl 1 rfl) ?_
        refine lv_iconst (v := nI 2) hx hb dX3_takeRequest_51 (by decide +kernel) ?_
        refine gz_iast hx hb hK hP hD hS 2 rfl rfl (k := k) rfl (by omega) (by decide) dX3_takeRequest_52 (fun H locs hP hD hS => ?_)
        have hP : va_P G vwCl [(a 0, .inr (3, [.ref (b 0), .ref (d 0), .ref (a 1), .ref (a 2), .ref (a 3), .ref (a 4), .ref (a 5), .int ad])), (a 1, .inl (cI, 40, .inl (upd ss k (nI 1)))), (a 2, .inl (cI, 40, .inl (upd cr k (nI 2)))), (a 3, .inl (cI, 40, .inl se)), (a 4, .inl (cI, 40, .inl re)), (a 5, .inl (cI, 40, .inl sv)), (b 0, .inr (0, [.ref (b 1), .ref (b 2), .ref (b 3), .int (nI n)])), (b 1, .inl (cI, 40, .inl me)), (b 2, .inl (cI, 40, .inl ar)), (b 3, .inl (cI, 40, .inl dl)), (d 0, .inr (2, [.ref (d 1), .ref (d 2), .ref (d 3), .ref (d 4), .int (nI fi), .int (nI sz)])), (d 1, .inl (cI, 40, .inl ki)), (d 2, .inl (cI, 40, .inl ow)), (d 3, .inl (cI, 40, .inl mr)), (d 4, .inl (cI, 40, .inl va))] H := hP
        have hD : va_D A [(a 0, .inr (3, [.ref (b 0), .ref (d 0), .ref (a 1), .ref (a 2), .ref (a 3), .ref (a 4), .ref (a 5), .int ad])), (a 1, .inl (cI, 40, .inl (upd ss k (nI 1)))), (a 2, .inl (cI, 40, .inl (upd cr k (nI 2)))), (a 3, .inl (cI, 40, .inl se)), (a 4, .inl (cI, 40, .inl re)), (a 5, .inl (cI, 40, .inl sv)), (b 0, .inr (0, [.ref (b 1), .ref (b 2), .ref (b 3), .int (nI n)])), (b 1, .inl (cI, 40, .inl me)), (b 2, .inl (cI, 40, .inl ar)), (b 3, .inl (cI, 40, .inl dl)), (d 0, .inr (2, [.ref (d 1), .ref (d 2), .ref (d 3), .ref (d 4), .int (nI fi), .int (nI sz)])), (d 1, .inl (cI, 40, .inl ki)), (d 2, .inl (cI, 40, .inl ow)), (d 3, .inl (cI, 40, .inl mr)), (d 4, .inl (cI, 40, .inl va))] := hD
        have hS9 := hS.2.2
        have hq9 : ((((upd ss k (nI 1), upd cr k (nI 2), se, re, sv, ad), (ki, ow, mr, va, fi, sz)) : SerS × LaneS) = s_treq dl (ss, cr, se, re, sv, ad) (ki, ow, mr, va, fi, sz) k tm) ∧ fi < 40 ∧ sz ≤ 40 := by refine ⟨?_, by omega, by omega⟩; simp only [s_treq, ↓reduceIte, eq_self, nI_10, and_true, true_and, and_false, false_and, not_true_eq_false, not_false_eq_true, Bool.and_true, Bool.true_and, Bool.and_false, Bool.false_and, decide_true, decide_false, Bool.false_eq_true, eq_false c_1, eq_true c_2, eq_false g_4]
        exact W.vret hx hb hr (fun t ht hW => ⟨⟨((upd ss k (nI 1), upd cr k (nI 2), se, re, sv, ad), (ki, ow, mr, va, fi, sz)), rfl, hq9, by rw [ht]; exact hP, hD⟩, hS.F ht⟩) hS9 dX3_takeRequest_53
  · skip
    refine lv_aload_n hx hb dX3_takeRequest_10 rfl (lv_at hl 0 rfl) ?_
    refine lv_iload_n hx hb dX3_takeRequest_11 rfl (lv_at hl 1 rfl) ?_
    refine k_callv (S := LaneS) (wc := [(a 0, .inr (3, [.ref (b 0), .ref (d 0), .ref (a 1), .ref (a 2), .ref (a 3), .ref (a 4), .ref (a 5), .int ad])), (a 1, .inl (cI, 40, .inl ss)), (a 2, .inl (cI, 40, .inl cr)), (a 3, .inl (cI, 40, .inl se)), (a 4, .inl (cI, 40, .inl re)), (a 5, .inl (cI, 40, .inl sv)), (b 0, .inr (0, [.ref (b 1), .ref (b 2), .ref (b 3), .int (nI n)])), (b 1, .inl (cI, 40, .inl me)), (b 2, .inl (cI, 40, .inl ar)), (b 3, .inl (cI, 40, .inl dl)), (d 0, .inr (2, [.ref (d 1), .ref (d 2), .ref (d 3), .ref (d 4), .int (nI fi), .int (nI sz)])), (d 1, .inl (cI, 40, .inl ki)), (d 2, .inl (cI, 40, .inl ow)), (d 3, .inl (cI, 40, .inl mr)), (d 4, .inl (cI, 40, .inl va))]) (wr := []) (w1 := fun u => [(a 0, .inr (3, [.ref (b 0), .ref (d 0), .ref (a 1), .ref (a 2), .ref (a 3), .ref (a 4), .ref (a 5), .int ad])), (a 1, .inl (cI, 40, .inl ss)), (a 2, .inl (cI, 40, .inl cr)), (a 3, .inl (cI, 40, .inl se)), (a 4, .inl (cI, 40, .inl re)), (a 5, .inl (cI, 40, .inl sv)), (b 0, .inr (0, [.ref (b 1), .ref (b 2), .ref (b 3), .int (nI n)])), (b 1, .inl (cI, 40, .inl me)), (b 2, .inl (cI, 40, .inl ar)), (b 3, .inl (cI, 40, .inl dl)), (d 0, .inr (2, [.ref (d 1), .ref (d 2), .ref (d 3), .ref (d 4), .int (nI u.2.2.2.2.1), .int (nI u.2.2.2.2.2)])), (d 1, .inl (cI, 40, .inl u.1)), (d 2, .inl (cI, 40, .inl u.2.1)), (d 3, .inl (cI, 40, .inl u.2.2.1)), (d 4, .inl (cI, 40, .inl u.2.2.2.1))]) (w2 := fun u => [(a 0, .inr (3, [.ref (b 0), .ref (d 0), .ref (a 1), .ref (a 2), .ref (a 3), .ref (a 4), .ref (a 5), .int ad])), (a 1, .inl (cI, 40, .inl ss)), (a 2, .inl (cI, 40, .inl cr)), (a 3, .inl (cI, 40, .inl se)), (a 4, .inl (cI, 40, .inl re)), (a 5, .inl (cI, 40, .inl sv)), (b 0, .inr (0, [.ref (b 1), .ref (b 2), .ref (b 3), .int (nI n)])), (b 1, .inl (cI, 40, .inl me)), (b 2, .inl (cI, 40, .inl ar)), (b 3, .inl (cI, 40, .inl dl)), (d 0, .inr (2, [.ref (d 1), .ref (d 2), .ref (d 3), .ref (d 4), .int (nI u.2.2.2.2.1), .int (nI u.2.2.2.2.2)])), (d 1, .inl (cI, 40, .inl u.1)), (d 2, .inl (cI, 40, .inl u.2.1)), (d 3, .inl (cI, 40, .inl u.2.2.1)), (d 4, .inl (cI, 40, .inl u.2.2.2.1))]) (va_runV (As := [.int (nI k)]) (rest := []) ⟨hx, hb, hml, hown, hts⟩ (c_X3_sendAnswer l G cI a b d ss cr se re sv ad me ar dl n ki ow mr va fi sz k (by first | omega | assumption) (by first | omega | assumption) (by first | omega | assumption) (by first | omega | assumption) H.size) (cwV 1 hts gX3_takeRequest_X3_sendAnswer rfl rfl rfl (by decide +kernel) ⟨Nat.le_of_ble_eq_true rfl, Nat.le_of_ble_eq_true rfl⟩) ⟨kPre.blind, va_recv hK hP (ci := 3) (q0 := 0) rfl rfl, kPre.at hP hK hD hS hA hN [0, 1, 2, 3, 4, 5, 6, 7, 8, 9, 10, 11, 12, 13, 14] rfl rfl⟩ rfl rfl hl.1 rfl (lv_room (Nat.le_of_ble_eq_true rfl)) dX3_takeRequest_12 ⟨Nat.le_of_ble_eq_true rfl, Nat.le_of_ble_eq_true rfl⟩) hP hD hS hA [0, 1, 2, 3, 4, 5, 6, 7, 8, 9, 10, 11, 12, 13, 14] [] [0, 1, 2, 3, 4, 5, 6, 7, 8, 9, 10, 11, 12, 13, 14] rfl rfl ⟨rfl, by decide, rfl⟩ (fun _ => rfl) (fun u H locs hw_5 hP hD hS => ?_)
    obtain ⟨ki_5, ow_5, mr_5, va_5, fi_5, sz_5⟩ := u
    obtain ⟨hw_5, hf_5, hs_5⟩ := hw_5
    have hf_5 : fi_5 < 40 := hf_5
    have hs_5 : sz_5 ≤ 40 := hs_5
    have hw_5 : ((ki_5, ow_5, mr_5, va_5, fi_5, sz_5) : LaneS) = s_sendA (ss, cr, se, re, sv, ad) (ki, ow, mr, va, fi, sz) k := hw_5
    have hP : va_P G vwCl [(a 0, .inr (3, [.ref (b 0), .ref (d 0), .ref (a 1), .ref (a 2), .ref (a 3), .ref (a 4), .ref (a 5), .int ad])), (a 1, .inl (cI, 40, .inl ss)), (a 2, .inl (cI, 40, .inl cr)), (a 3, .inl (cI, 40, .inl se)), (a 4, .inl (cI, 40, .inl re)), (a 5, .inl (cI, 40, .inl sv)), (b 0, .inr (0, [.ref (b 1), .ref (b 2), .ref (b 3), .int (nI n)])), (b 1, .inl (cI, 40, .inl me)), (b 2, .inl (cI, 40, .inl ar)), (b 3, .inl (cI, 40, .inl dl)), (d 0, .inr (2, [.ref (d 1), .ref (d 2), .ref (d 3), .ref (d 4), .int (nI fi_5), .int (nI sz_5)])), (d 1, .inl (cI, 40, .inl ki_5)), (d 2, .inl (cI, 40, .inl ow_5)), (d 3, .inl (cI, 40, .inl mr_5)), (d 4, .inl (cI, 40, .inl va_5))] H := hP
    have hD : va_D A [(a 0, .inr (3, [.ref (b 0), .ref (d 0), .ref (a 1), .ref (a 2), .ref (a 3), .ref (a 4), .ref (a 5), .int ad])), (a 1, .inl (cI, 40, .inl ss)), (a 2, .inl (cI, 40, .inl cr)), (a 3, .inl (cI, 40, .inl se)), (a 4, .inl (cI, 40, .inl re)), (a 5, .inl (cI, 40, .inl sv)), (b 0, .inr (0, [.ref (b 1), .ref (b 2), .ref (b 3), .int (nI n)])), (b 1, .inl (cI, 40, .inl me)), (b 2, .inl (cI, 40, .inl ar)), (b 3, .inl (cI, 40, .inl dl)), (d 0, .inr (2, [.ref (d 1), .ref (d 2), .ref (d 3), .ref (d 4), .int (nI fi_5), .int (nI sz_5)])), (d 1, .inl (cI, 40, .inl ki_5)), (d 2, .inl (cI, 40, .inl ow_5)), (d 3, .inl (cI, 40, .inl mr_5)), (d 4, .inl (cI, 40, .inl va_5))] := hD
    refine lv_goto (tgt := 53) hx hb dX3_takeRequest_15 (by decide) ?_
    have hS9 := hS.2.2
    have hq9 : ((((ss, cr, se, re, sv, ad), (ki_5, ow_5, mr_5, va_5, fi_5, sz_5)) : SerS × LaneS) = s_treq dl (ss, cr, se, re, sv, ad) (ki, ow, mr, va, fi, sz) k tm) ∧ fi_5 < 40 ∧ sz_5 ≤ 40 := by refine ⟨?_, by omega, by omega⟩; simp only [s_treq, ↓reduceIte, eq_self, nI_10, and_true, true_and, and_false, false_and, not_true_eq_false, not_false_eq_true, Bool.and_true, Bool.true_and, Bool.and_false, Bool.false_and, decide_true, decide_false, Bool.false_eq_true, eq_true c_1, ← hw_5]
    exact W.vret hx hb hr (fun t ht hW => ⟨⟨((ss, cr, se, re, sv, ad), (ki_5, ow_5, mr_5, va_5, fi_5, sz_5)), rfl, hq9, by rw [ht]; exact hP, hD⟩, hS.F ht⟩) hS9 dX3_takeRequest_53

theorem hk_X3_take_f9 : (.fieldLink RX3 9 "Callgate$Server" "states" "[I" : Cond) ∈ wsX3_take := by decide +kernel
theorem hi_X3_take_X3 : ∀ w ∈ u_ws RX3 TX3 8, w ∈ wsX3_take := by decide +kernel
theorem hk_X3_take_f15 : (.fieldLink RX3 15 "Callgate$Server" "creditsLeft" "[I" : Cond) ∈ wsX3_take := by decide +kernel
set_option maxHeartbeats 4000000 in
set_option maxRecDepth 100000 in
theorem c_X3_take (l : Launch) (G : va_G) (cI : ClassId) (a b d : Nat → Nat) (ss : Fn) (cr : Fn) (se : Fn) (re : Fn) (sv : Fn) (ad : Int32) (me : Fn) (ar : Fn) (dl : Fn) (n : Nat) (ki : Fn) (ow : Fn) (mr : Fn) (va : Fn) (fi : Nat) (sz : Nat) (kd : Int32) (k : Nat) (q : Int32) (tm : Int32) (hk : k < 40) (hn : n ≤ 40) (hf : fi < 40) (hs : sz ≤ 40) (zz : Nat) : Met l yX3_take wsX3_take ({ frames := 5, cells := 0, slots := 0, locals := 111 }) (va_Pc [.ref (a 0), .int kd, .int (nI k), .int q, .int tm] (kPre G cI [(a 0, .inr (3, [.ref (b 0), .ref (d 0), .ref (a 1), .ref (a 2), .ref (a 3), .ref (a 4), .ref (a 5), .int ad])), (a 1, .inl (cI, 40, .inl ss)), (a 2, .inl (cI, 40, .inl cr)), (a 3, .inl (cI, 40, .inl se)), (a 4, .inl (cI, 40, .inl re)), (a 5, .inl (cI, 40, .inl sv)), (b 0, .inr (0, [.ref (b 1), .ref (b 2), .ref (b 3), .int (nI n)])), (b 1, .inl (cI, 40, .inl me)), (b 2, .inl (cI, 40, .inl ar)), (b 3, .inl (cI, 40, .inl dl)), (d 0, .inr (2, [.ref (d 1), .ref (d 2), .ref (d 3), .ref (d 4), .int (nI fi), .int (nI sz)])), (d 1, .inl (cI, 40, .inl ki)), (d 2, .inl (cI, 40, .inl ow)), (d 3, .inl (cI, 40, .inl mr)), (d 4, .inl (cI, 40, .inl va))] zz)) (va_Qv (fun (u : SerS × LaneS) => (u = s_take dl (ss, cr, se, re, sv, ad) (ki, ow, mr, va, fi, sz) kd k q tm) ∧ u.2.2.2.2.2.1 < 40 ∧ u.2.2.2.2.2.2 ≤ 40) (fun (u : SerS × LaneS) t => kQ G [(a 0, .inr (3, [.ref (b 0), .ref (d 0), .ref (a 1), .ref (a 2), .ref (a 3), .ref (a 4), .ref (a 5), .int u.1.2.2.2.2.2])), (a 1, .inl (cI, 40, .inl u.1.1)), (a 2, .inl (cI, 40, .inl u.1.2.1)), (a 3, .inl (cI, 40, .inl u.1.2.2.1)), (a 4, .inl (cI, 40, .inl u.1.2.2.2.1)), (a 5, .inl (cI, 40, .inl u.1.2.2.2.2.1)), (b 0, .inr (0, [.ref (b 1), .ref (b 2), .ref (b 3), .int (nI n)])), (b 1, .inl (cI, 40, .inl me)), (b 2, .inl (cI, 40, .inl ar)), (b 3, .inl (cI, 40, .inl dl)), (d 0, .inr (2, [.ref (d 1), .ref (d 2), .ref (d 3), .ref (d 4), .int (nI u.2.2.2.2.2.1), .int (nI u.2.2.2.2.2.2)])), (d 1, .inl (cI, 40, .inl u.2.1)), (d 2, .inl (cI, 40, .inl u.2.2.1)), (d 3, .inl (cI, 40, .inl u.2.2.2.1)), (d 4, .inl (cI, 40, .inl u.2.2.2.2.1))] (va_A [(a 0, .inr (3, [.ref (b 0), .ref (d 0), .ref (a 1), .ref (a 2), .ref (a 3), .ref (a 4), .ref (a 5), .int ad])), (a 1, .inl (cI, 40, .inl ss)), (a 2, .inl (cI, 40, .inl cr)), (a 3, .inl (cI, 40, .inl se)), (a 4, .inl (cI, 40, .inl re)), (a 5, .inl (cI, 40, .inl sv)), (b 0, .inr (0, [.ref (b 1), .ref (b 2), .ref (b 3), .int (nI n)])), (b 1, .inl (cI, 40, .inl me)), (b 2, .inl (cI, 40, .inl ar)), (b 3, .inl (cI, 40, .inl dl)), (d 0, .inr (2, [.ref (d 1), .ref (d 2), .ref (d 3), .ref (d 4), .int (nI fi), .int (nI sz)])), (d 1, .inl (cI, 40, .inl ki)), (d 2, .inl (cI, 40, .inl ow)), (d 3, .inl (cI, 40, .inl mr)), (d 4, .inl (cI, 40, .inl va))] zz) t) (va_A [(a 0, .inr (3, [.ref (b 0), .ref (d 0), .ref (a 1), .ref (a 2), .ref (a 3), .ref (a 4), .ref (a 5), .int ad])), (a 1, .inl (cI, 40, .inl ss)), (a 2, .inl (cI, 40, .inl cr)), (a 3, .inl (cI, 40, .inl se)), (a 4, .inl (cI, 40, .inl re)), (a 5, .inl (cI, 40, .inl sv)), (b 0, .inr (0, [.ref (b 1), .ref (b 2), .ref (b 3), .int (nI n)])), (b 1, .inl (cI, 40, .inl me)), (b 2, .inl (cI, 40, .inl ar)), (b 3, .inl (cI, 40, .inl dl)), (d 0, .inr (2, [.ref (d 1), .ref (d 2), .ref (d 3), .ref (d 4), .int (nI fi), .int (nI sz)])), (d 1, .inl (cI, 40, .inl ki)), (d 2, .inl (cI, 40, .inl ow)), (d 3, .inl (cI, 40, .inl mr)), (d 4, .inl (cI, 40, .inl va))] zz)) 0 0 (va_A [(a 0, .inr (3, [.ref (b 0), .ref (d 0), .ref (a 1), .ref (a 2), .ref (a 3), .ref (a 4), .ref (a 5), .int ad])), (a 1, .inl (cI, 40, .inl ss)), (a 2, .inl (cI, 40, .inl cr)), (a 3, .inl (cI, 40, .inl se)), (a 4, .inl (cI, 40, .inl re)), (a 5, .inl (cI, 40, .inl sv)), (b 0, .inr (0, [.ref (b 1), .ref (b 2), .ref (b 3), .int (nI n)])), (b 1, .inl (cI, 40, .inl me)), (b 2, .inl (cI, 40, .inl ar)), (b 3, .inl (cI, 40, .inl dl)), (d 0, .inr (2, [.ref (d 1), .ref (d 2), .ref (d 3), .ref (d 4), .int (nI fi), .int (nI sz)])), (d 1, .inl (cI, 40, .inl ki)), (d 2, .inl (cI, 40, .inl ow)), (d 3, .inl (cI, 40, .inl mr)), (d 4, .inl (cI, 40, .inl va))] zz) := by
  refine Met.ofW (cc := cX3_take) (maxL := 5) (ret := none) (by decide) rfl ?_
  intro p e s m args below meth c s₁ B hml hv
  obtain ⟨rfl, hsz, hP, hK, hD0, hN⟩ := hv
  have hx := B.exec
  have hb := B.bytes
  have hr := B.returns
  have hts := atoms_spec (ws := wsX3_take) B.pre
  have hown : s.vm.findClass RX3 = some m.cls := findClass_of_methodNamed B.named
  have hlocks := B.notSynchronized
  subst hsz
  have hD := hD0.self (sz := s.heap.size)
  generalize hAe : va_A [(a 0, .inr (3, [.ref (b 0), .ref (d 0), .ref (a 1), .ref (a 2), .ref (a 3), .ref (a 4), .ref (a 5), .int ad])), (a 1, .inl (cI, 40, .inl ss)), (a 2, .inl (cI, 40, .inl cr)), (a 3, .inl (cI, 40, .inl se)), (a 4, .inl (cI, 40, .inl re)), (a 5, .inl (cI, 40, .inl sv)), (b 0, .inr (0, [.ref (b 1), .ref (b 2), .ref (b 3), .int (nI n)])), (b 1, .inl (cI, 40, .inl me)), (b 2, .inl (cI, 40, .inl ar)), (b 3, .inl (cI, 40, .inl dl)), (d 0, .inr (2, [.ref (d 1), .ref (d 2), .ref (d 3), .ref (d 4), .int (nI fi), .int (nI sz)])), (d 1, .inl (cI, 40, .inl ki)), (d 2, .inl (cI, 40, .inl ow)), (d 3, .inl (cI, 40, .inl mr)), (d 4, .inl (cI, 40, .inl va))] s.heap.size = A at hD hN ⊢
  have hA : ∀ q : Nat, s.heap.size ≤ q → A q := fun q h => by rw [← hAe]; exact Or.inr h
  have hS : va_S A s.heap s.heap [] := va_S.rf
  have hl := lv_entry ([.ref (a 0), .int kd, .int (nI k), .int q, .int tm]) (n := 5) (Nat.le_of_ble_eq_true rfl)
  rw [lg_entry_eq]
  generalize (lg_sl ([.ref (a 0), .int kd, .int (nI k), .int q, .int tm]) ++ List.replicate (5 - (lg_sl ([.ref (a 0), .int kd, .int (nI k), .int q, .int tm])).length) Slot.unset).toArray = ls at hl ⊢
  have hl : lv_has ls 5 [(0, .ref (a 0)), (1, .int kd), (2, .int (nI k)), (3, .int q), (4, .int tm)] := hl
  have hP : va_P G vwCl [(a 0, .inr (3, [.ref (b 0), .ref (d 0), .ref (a 1), .ref (a 2), .ref (a 3), .ref (a 4), .ref (a 5), .int ad])), (a 1, .inl (cI, 40, .inl ss)), (a 2, .inl (cI, 40, .inl cr)), (a 3, .inl (cI, 40, .inl se)), (a 4, .inl (cI, 40, .inl re)), (a 5, .inl (cI, 40, .inl sv)), (b 0, .inr (0, [.ref (b 1), .ref (b 2), .ref (b 3), .int (nI n)])), (b 1, .inl (cI, 40, .inl me)), (b 2, .inl (cI, 40, .inl ar)), (b 3, .inl (cI, 40, .inl dl)), (d 0, .inr (2, [.ref (d 1), .ref (d 2), .ref (d 3), .ref (d 4), .int (nI fi), .int (nI sz)])), (d 1, .inl (cI, 40, .inl ki)), (d 2, .inl (cI, 40, .inl ow)), (d 3, .inl (cI, 40, .inl mr)), (d 4, .inl (cI, 40, .inl va))] s.heap := hP
  obtain ⟨H, hH⟩ : ∃ H, H = s.heap := ⟨_, rfl⟩
  rw [← hH] at hP
  have hS : va_S A s.heap H [] := by rw [hH]; exact hS
  show W _ _ _ _ _ _ _ _ _ _ s.heap _ _ _ _ _
  rw [← hH]
  obtain ⟨locs, hlo⟩ : ∃ z : List Loc, z = [] := ⟨_, rfl⟩
  rw [← hlo] at hS ⊢
  refine lv_iload_n hx hb dX3_take_0 rfl (lv_at hl 1 rfl) ?_
  refine lv_if_ne (tgt := 14) hx hb dX3_take_1 (by decide) (fun c_1 => ?_) (fun c_1 => ?_)
  · skip
    refine lv_iload_n hx hb dX3_take_14 rfl (lv_at hl 1 rfl) ?_
    refine lv_iconst (v := nI 1) hx hb dX3_take_15 (by decide +kernel) ?_
    refine lv_icmp_ne (tgt := 27) hx hb dX3_take_16 (by decide) (fun c_2 => ?_) (fun c_2 => ?_)
    · skip
      refine lv_aload_n hx hb dX3_take_27 rfl (lv_at hl 0 rfl) ?_
      refine va_get (D := G) (ci := 3) (v := .ref (a 1)) (C := RX3) (T := TX3) (N := 8) hx hb hts hi_X3_take_X3 hown hK hP 0 rfl rfl 2 (by decide) (hts _ hk_X3_take_f9) (fun _ h9 => h9) rfl dX3_take_28 ?_
      refine lv_iload_n hx hb dX3_take_31 rfl (lv_at hl 2 rfl) ?_
      refine gz_iald hx hb hK hP 1 rfl rfl (k := k) rfl (by omega) (by decide) dX3_take_32 ?_
      refine lv_iconst (v := nI 1) hx hb dX3_take_33 (by decide +kernel) ?_
      refine lv_icmp_ne (tgt := 47) hx hb dX3_take_34 (by decide) (fun c_3 => ?_) (fun c_3 => ?_)
      · skip
        have hS9 := hS.2.2
        have hq9 : ((((ss, cr, se, re, sv, ad), (ki, ow, mr, va, fi, sz)) : SerS × LaneS) = s_take dl (ss, cr, se, re, sv, ad) (ki, ow, mr, va, fi, sz) kd k q tm) ∧ fi < 40 ∧ sz ≤ 40 := by refine ⟨?_, by omega, by omega⟩; simp only [s_take, ↓reduceIte, eq_self, nI_10, and_true, true_and, and_false, false_and, not_true_eq_false, not_false_eq_true, Bool.and_true, Bool.true_and, Bool.and_false, Bool.false_and, decide_true, decide_false, Bool.false_eq_true, eq_false c_1, eq_false c_2, eq_false c_3]
        exact W.vret hx hb hr (fun t ht hW => ⟨⟨((ss, cr, se, re, sv, ad), (ki, ow, mr, va, fi, sz)), rfl, hq9, by rw [ht]; exact hP, hD⟩, hS.F ht⟩) hS9 dX3_take_47
      · skip
        refine lv_aload_n hx hb dX3_take_37 rfl (lv_at hl 0 rfl) ?_
        refine va_get (D := G) (ci := 3) (v := .ref (a 2)) (C := RX3) (T := TX3) (N := 8) hx hb hts hi_X3_take_X3 hown hK hP 0 rfl rfl 3 (by decide) (hts _ hk_X3_take_f15) (fun _ h9 => h9) rfl dX3_take_38 ?_
        refine lv_iload_n hx hb dX3_take_41 rfl (lv_at hl 2 rfl) ?_
        refine lv_dup2_11 hx hb dX3_take_42 rfl rfl ?_
        refine gz_iald hx hb hK hP 2 rfl rfl (k := k) rfl (by omega) (by decide) dX3_take_43 ?_
        refine lv_iload_n hx hb dX3_take_44 rfl (lv_at hl 3 rfl) ?_
        refine lv_iadd hx hb dX3_take_45 ?_
        refine gz_iast hx hb hK hP hD hS 2 rfl rfl (k := k) rfl (by omega) (by decide) dX3_take_46 (fun H locs hP hD hS => ?_)
        have hP : va_P G vwCl [(a 0, .inr (3, [.ref (b 0), .ref (d 0), .ref (a 1), .ref (a 2), .ref (a 3), .ref (a 4), .ref (a 5), .int ad])), (a 1, .inl (cI, 40, .inl ss)), (a 2, .inl (cI, 40, .inl (upd cr k ((cr k) + q)))), (a 3, .inl (cI, 40, .inl se)), (a 4, .inl (cI, 40, .inl re)), (a 5, .inl (cI, 40, .inl sv)), (b 0, .inr (0, [.ref (b 1), .ref (b 2), .ref (b 3), .int (nI n)])), (b 1, .inl (cI, 40, .inl me)), (b 2, .inl (cI, 40, .inl ar)), (b 3, .inl (cI, 40, .inl dl)), (d 0, .inr (2, [.ref (d 1), .ref (d 2), .ref (d 3), .ref (d 4), .int (nI fi), .int (nI sz)])), (d 1, .inl (cI, 40, .inl ki)), (d 2, .inl (cI, 40, .inl ow)), (d 3, .inl (cI, 40, .inl mr)), (d 4, .inl (cI, 40, .inl va))] H := hP
        have hD : va_D A [(a 0, .inr (3, [.ref (b 0), .ref (d 0), .ref (a 1), .ref (a 2), .ref (a 3), .ref (a 4), .ref (a 5), .int ad])), (a 1, .inl (cI, 40, .inl ss)), (a 2, .inl (cI, 40, .inl (upd cr k ((cr k) + q)))), (a 3, .inl (cI, 40, .inl se)), (a 4, .inl (cI, 40, .inl re)), (a 5, .inl (cI, 40, .inl sv)), (b 0, .inr (0, [.ref (b 1), .ref (b 2), .ref (b 3), .int (nI n)])), (b 1, .inl (cI, 40, .inl me)), (b 2, .inl (cI, 40, .inl ar)), (b 3, .inl (cI, 40, .inl dl)), (d 0, .inr (2, [.ref (d 1), .ref (d 2), .ref (d 3), .ref (d 4), .int (nI fi), .int (nI sz)])), (d 1, .inl (cI, 40, .inl ki)), (d 2, .inl (cI, 40, .inl ow)), (d 3, .inl (cI, 40, .inl mr)), (d 4, .inl (cI, 40, .inl va))] := hD
        have hS9 := hS.2.2
        have hq9 : ((((ss, upd cr k ((cr k) + q), se, re, sv, ad), (ki, ow, mr, va, fi, sz)) : SerS × LaneS) = s_take dl (ss, cr, se, re, sv, ad) (ki, ow, mr, va, fi, sz) kd k q tm) ∧ fi < 40 ∧ sz ≤ 40 := by refine ⟨?_, by omega, by omega⟩; simp only [s_take, ↓reduceIte, eq_self, nI_10, and_true, true_and, and_false, false_and, not_true_eq_false, not_false_eq_true, Bool.and_true, Bool.true_and, Bool.and_false, Bool.false_and, decide_true, decide_false, Bool.false_eq_true, eq_false c_1, eq_false c_2, eq_true c_3]
        exact W.vret hx hb hr (fun t ht hW => ⟨⟨((ss, upd cr k ((cr k) + q), se, re, sv, ad), (ki, ow, mr, va, fi, sz)), rfl, hq9, by rw [ht]; exact hP, hD⟩, hS.F ht⟩) hS9 dX3_take_47
    · skip
      refine lv_aload_n hx hb dX3_take_19 rfl (lv_at hl 0 rfl) ?_
      refine lv_iload_n hx hb dX3_take_20 rfl (lv_at hl 2 rfl) ?_
      refine k_callv (S := SerS) (wc := [(a 0, .inr (3, [.ref (b 0), .ref (d 0), .ref (a 1), .ref (a 2), .ref (a 3), .ref (a 4), .ref (a 5), .int ad])), (a 1, .inl (cI, 40, .inl ss)), (a 2, .inl (cI, 40, .inl cr)), (a 3, .inl (cI, 40, .inl se)), (a 4, .inl (cI, 40, .inl re)), (a 5, .inl (cI, 40, .inl sv)), (b 0, .inr (0, [.ref (b 1), .ref (b 2), .ref (b 3), .int (nI n)])), (b 1, .inl (cI, 40, .inl me)), (b 2, .inl (cI, 40, .inl ar)), (b 3, .inl (cI, 40, .inl dl)), (d 0, .inr (2, [.ref (d 1), .ref (d 2), .ref (d 3), .ref (d 4), .int (nI fi), .int (nI sz)])), (d 1, .inl (cI, 40, .inl ki)), (d 2, .inl (cI, 40, .inl ow)), (d 3, .inl (cI, 40, .inl mr)), (d 4, .inl (cI, 40, .inl va))]) (wr := []) (w1 := fun u => [(a 0, .inr (3, [.ref (b 0), .ref (d 0), .ref (a 1), .ref (a 2), .ref (a 3), .ref (a 4), .ref (a 5), .int u.2.2.2.2.2])), (a 1, .inl (cI, 40, .inl u.1)), (a 2, .inl (cI, 40, .inl u.2.1)), (a 3, .inl (cI, 40, .inl u.2.2.1)), (a 4, .inl (cI, 40, .inl u.2.2.2.1)), (a 5, .inl (cI, 40, .inl u.2.2.2.2.1)), (b 0, .inr (0, [.ref (b 1), .ref (b 2), .ref (b 3), .int (nI n)])), (b 1, .inl (cI, 40, .inl me)), (b 2, .inl (cI, 40, .inl ar)), (b 3, .inl (cI, 40, .inl dl)), (d 0, .inr (2, [.ref (d 1), .ref (d 2), .ref (d 3), .ref (d 4), .int (nI fi), .int (nI sz)])), (d 1, .inl (cI, 40, .inl ki)), (d 2, .inl (cI, 40, .inl ow)), (d 3, .inl (cI, 40, .inl mr)), (d 4, .inl (cI, 40, .inl va))]) (w2 := fun u => [(a 0, .inr (3, [.ref (b 0), .ref (d 0), .ref (a 1), .ref (a 2), .ref (a 3), .ref (a 4), .ref (a 5), .int u.2.2.2.2.2])), (a 1, .inl (cI, 40, .inl u.1)), (a 2, .inl (cI, 40, .inl u.2.1)), (a 3, .inl (cI, 40, .inl u.2.2.1)), (a 4, .inl (cI, 40, .inl u.2.2.2.1)), (a 5, .inl (cI, 40, .inl u.2.2.2.2.1)), (b 0, .inr (0, [.ref (b 1), .ref (b 2), .ref (b 3), .int (nI n)])), (b 1, .inl (cI, 40, .inl me)), (b 2, .inl (cI, 40, .inl ar)), (b 3, .inl (cI, 40, .inl dl)), (d 0, .inr (2, [.ref (d 1), .ref (d 2), .ref (d 3), .ref (d 4), .int (nI fi), .int (nI sz)])), (d 1, .inl (cI, 40, .inl ki)), (d 2, .inl (cI, 40, .inl ow)), (d 3, .inl (cI, 40, .inl mr)), (d 4, .inl (cI, 40, .inl va))]) (va_runV (As := [.int (nI k)]) (rest := []) ⟨hx, hb, hml, hown, hts⟩ (c_X3_takeCancellation l G cI a b d ss cr se re sv ad me ar dl n ki ow mr va fi sz k (by first | omega | assumption) (by first | omega | assumption) (by first | omega | assumption) (by first | omega | assumption) H.size) (cwV 1 hts gX3_take_X3_takeCancellation rfl rfl rfl (by decide +kernel) ⟨Nat.le_of_ble_eq_true rfl, Nat.le_of_ble_eq_true rfl⟩) ⟨kPre.blind, va_recv hK hP (ci := 3) (q0 := 0) rfl rfl, kPre.at hP hK hD hS hA hN [0, 1, 2, 3, 4, 5, 6, 7, 8, 9, 10, 11, 12, 13, 14] rfl rfl⟩ rfl rfl hl.1 rfl (lv_room (Nat.le_of_ble_eq_true rfl)) dX3_take_21 ⟨Nat.le_of_ble_eq_true rfl, Nat.le_of_ble_eq_true rfl⟩) hP hD hS hA [0, 1, 2, 3, 4, 5, 6, 7, 8, 9, 10, 11, 12, 13, 14] [] [0, 1, 2, 3, 4, 5, 6, 7, 8, 9, 10, 11, 12, 13, 14] rfl rfl ⟨rfl, by decide, rfl⟩ (fun _ => rfl) (fun u H locs hw_4 hP hD hS => ?_)
      obtain ⟨ss_4, cr_4, se_4, re_4, sv_4, ad_4⟩ := u
      have hw_4 : ((ss_4, cr_4, se_4, re_4, sv_4, ad_4) : SerS) = s_tcan (ss, cr, se, re, sv, ad) k := hw_4
      have hP : va_P G vwCl [(a 0, .inr (3, [.ref (b 0), .ref (d 0), .ref (a 1), .ref (a 2), .ref (a 3), .ref (a 4), .ref (a 5), .int ad_4])), (a 1, .inl (cI, 40, .inl ss_4)), (a 2, .inl (cI, 40, .inl cr_4)), (a 3, .inl (cI, 40, .inl se_4)), (a 4, .inl (cI, 40, .inl re_4)), (a 5, .inl (cI, 40, .inl sv_4)), (b 0, .inr (0, [.ref (b 1), .ref (b 2), .ref (b 3), .int (nI n)])), (b 1, .inl (cI, 40, .inl me)), (b 2, .inl (cI, 40, .inl ar)), (b 3, .inl (cI, 40, .inl dl)), (d 0, .inr (2, [.ref (d 1), .ref (d 2), .ref (d 3), .ref (d 4), .int (nI fi), .int (nI sz)])), (d 1, .inl (cI, 40, .inl ki)), (d 2, .inl (cI, 40, .inl ow)), (d 3, .inl (cI, 40, .inl mr)), (d 4, .inl (cI, 40, .inl va))] H := hP
      have hD : va_D A [(a 0, .inr (3, [.ref (b 0), .ref (d 0), .ref (a 1), .ref (a 2), .ref (a 3), .ref (a 4), .ref (a 5), .int ad_4])), (a 1, .inl (cI, 40, .inl ss_4)), (a 2, .inl (cI, 40, .inl cr_4)), (a 3, .inl (cI, 40, .inl se_4)), (a 4, .inl (cI, 40, .inl re_4)), (a 5, .inl (cI, 40, .inl sv_4)), (b 0, .inr (0, [.ref (b 1), .ref (b 2), .ref (b 3), .int (nI n)])), (b 1, .inl (cI, 40, .inl me)), (b 2, .inl (cI, 40, .inl ar)), (b 3, .inl (cI, 40, .inl dl)), (d 0, .inr (2, [.ref (d 1), .ref (d 2), .ref (d 3), .ref (d 4), .int (nI fi), .int (nI sz)])), (d 1, .inl (cI, 40, .inl ki)), (d 2, .inl (cI, 40, .inl ow)), (d 3, .inl (cI, 40, .inl mr)), (d 4, .inl (cI, 40, .inl va))] := hD
      refine lv_goto (tgt := 47) hx hb dX3_take_24 (by decide) ?_
      have hS9 := hS.2.2
      have hq9 : ((((ss_4, cr_4, se_4, re_4, sv_4, ad_4), (ki, ow, mr, va, fi, sz)) : SerS × LaneS) = s_take dl (ss, cr, se, re, sv, ad) (ki, ow, mr, va, fi, sz) kd k q tm) ∧ fi < 40 ∧ sz ≤ 40 := by refine ⟨?_, by omega, by omega⟩; simp only [s_take, ↓reduceIte, eq_self, nI_10, and_true, true_and, and_false, false_and, not_true_eq_false, not_false_eq_true, Bool.and_true, Bool.true_and, Bool.and_false, Bool.false_and, decide_true, decide_false, Bool.false_eq_true, eq_false c_1, eq_true c_2, ← hw_4]
      exact W.vret hx hb hr (fun t ht hW => ⟨⟨((ss_4, cr_4, se_4, re_4, sv_4, ad_4), (ki, ow, mr, va, fi, sz)), rfl, hq9, by rw [ht]; exact hP, hD⟩, hS.F ht⟩) hS9 dX3_take_47
  · skip
    refine lv_aload_n hx hb dX3_take_4 rfl (lv_at hl 0 rfl) ?_
    refine lv_iload_n hx hb dX3_take_5 rfl (lv_at hl 2 rfl) ?_
    refine lv_iload hx hb dX3_take_6 (lv_at hl 4 rfl) ?_
    refine k_callv (S := SerS × LaneS) (wc := [(a 0, .inr (3, [.ref (b 0), .ref (d 0), .ref (a 1), .ref (a 2), .ref (a 3), .ref (a 4), .ref (a 5), .int ad])), (a 1, .inl (cI, 40, .inl ss)), (a 2, .inl (cI, 40, .inl cr)), (a 3, .inl (cI, 40, .inl se)), (a 4, .inl (cI, 40, .inl re)), (a 5, .inl (cI, 40, .inl sv)), (b 0, .inr (0, [.ref (b 1), .ref (b 2), .ref (b 3), .int (nI n)])), (b 1, .inl (cI, 40, .inl me)), (b 2, .inl (cI, 40, .inl ar)), (b 3, .inl (cI, 40, .inl dl)), (d 0, .inr (2, [.ref (d 1), .ref (d 2), .ref (d 3), .ref (d 4), .int (nI fi), .int (nI sz)])), (d 1, .inl (cI, 40, .inl ki)), (d 2, .inl (cI, 40, .inl ow)), (d 3, .inl (cI, 40, .inl mr)), (d 4, .inl (cI, 40, .inl va))]) (wr := []) (w1 := fun u => [(a 0, .inr (3, [.ref (b 0), .ref (d 0), .ref (a 1), .ref (a 2), .ref (a 3), .ref (a 4), .ref (a 5), .int u.1.2.2.2.2.2])), (a 1, .inl (cI, 40, .inl u.1.1)), (a 2, .inl (cI, 40, .inl u.1.2.1)), (a 3, .inl (cI, 40, .inl u.1.2.2.1)), (a 4, .inl (cI, 40, .inl u.1.2.2.2.1)), (a 5, .inl (cI, 40, .inl u.1.2.2.2.2.1)), (b 0, .inr (0, [.ref (b 1), .ref (b 2), .ref (b 3), .int (nI n)])), (b 1, .inl (cI, 40, .inl me)), (b 2, .inl (cI, 40, .inl ar)), (b 3, .inl (cI, 40, .inl dl)), (d 0, .inr (2, [.ref (d 1), .ref (d 2), .ref (d 3), .ref (d 4), .int (nI u.2.2.2.2.2.1), .int (nI u.2.2.2.2.2.2)])), (d 1, .inl (cI, 40, .inl u.2.1)), (d 2, .inl (cI, 40, .inl u.2.2.1)), (d 3, .inl (cI, 40, .inl u.2.2.2.1)), (d 4, .inl (cI, 40, .inl u.2.2.2.2.1))]) (w2 := fun u => [(a 0, .inr (3, [.ref (b 0), .ref (d 0), .ref (a 1), .ref (a 2), .ref (a 3), .ref (a 4), .ref (a 5), .int u.1.2.2.2.2.2])), (a 1, .inl (cI, 40, .inl u.1.1)), (a 2, .inl (cI, 40, .inl u.1.2.1)), (a 3, .inl (cI, 40, .inl u.1.2.2.1)), (a 4, .inl (cI, 40, .inl u.1.2.2.2.1)), (a 5, .inl (cI, 40, .inl u.1.2.2.2.2.1)), (b 0, .inr (0, [.ref (b 1), .ref (b 2), .ref (b 3), .int (nI n)])), (b 1, .inl (cI, 40, .inl me)), (b 2, .inl (cI, 40, .inl ar)), (b 3, .inl (cI, 40, .inl dl)), (d 0, .inr (2, [.ref (d 1), .ref (d 2), .ref (d 3), .ref (d 4), .int (nI u.2.2.2.2.2.1), .int (nI u.2.2.2.2.2.2)])), (d 1, .inl (cI, 40, .inl u.2.1)), (d 2, .inl (cI, 40, .inl u.2.2.1)), (d 3, .inl (cI, 40, .inl u.2.2.2.1)), (d 4, .inl (cI, 40, .inl u.2.2.2.2.1))]) (va_runV (As := [.int (nI k), .int tm]) (rest := []) ⟨hx, hb, hml, hown, hts⟩ (c_X3_takeRequest l G cI a b d ss cr se re sv ad me ar dl n ki ow mr va fi sz k tm (by first | omega | assumption) (by first | omega | assumption) (by first | omega | assumption) (by first | omega | assumption) H.size) (cwV 2 hts gX3_take_X3_takeRequest rfl rfl rfl (by decide +kernel) ⟨Nat.le_of_ble_eq_true rfl, Nat.le_of_ble_eq_true rfl⟩) ⟨kPre.blind, va_recv hK hP (ci := 3) (q0 := 0) rfl rfl, kPre.at hP hK hD hS hA hN [0, 1, 2, 3, 4, 5, 6, 7, 8, 9, 10, 11, 12, 13, 14] rfl rfl⟩ rfl rfl hl.1 rfl (lv_room (Nat.le_of_ble_eq_true rfl)) dX3_take_8 ⟨Nat.le_of_ble_eq_true rfl, Nat.le_of_ble_eq_true rfl⟩) hP hD hS hA [0, 1, 2, 3, 4, 5, 6, 7, 8, 9, 10, 11, 12, 13, 14] [] [0, 1, 2, 3, 4, 5, 6, 7, 8, 9, 10, 11, 12, 13, 14] rfl rfl ⟨rfl, by decide, rfl⟩ (fun _ => rfl) (fun u H locs hw_5 hP hD hS => ?_)
    obtain ⟨⟨ss_5, cr_5, se_5, re_5, sv_5, ad_5⟩, ⟨ki_5, ow_5, mr_5, va_5, fi_5, sz_5⟩⟩ := u
    obtain ⟨hw_5, hf_5, hs_5⟩ := hw_5
    have hf_5 : fi_5 < 40 := hf_5
    have hs_5 : sz_5 ≤ 40 := hs_5
    have hw_5 : (((ss_5, cr_5, se_5, re_5, sv_5, ad_5), (ki_5, ow_5, mr_5, va_5, fi_5, sz_5)) : SerS × LaneS) = s_treq dl (ss, cr, se, re, sv, ad) (ki, ow, mr, va, fi, sz) k tm := hw_5
    have hP : va_P G vwCl [(a 0, .inr (3, [.ref (b 0), .ref (d 0), .ref (a 1), .ref (a 2), .ref (a 3), .ref (a 4), .ref (a 5), .int ad_5])), (a 1, .inl (cI, 40, .inl ss_5)), (a 2, .inl (cI, 40, .inl cr_5)), (a 3, .inl (cI, 40, .inl se_5)), (a 4, .inl (cI, 40, .inl re_5)), (a 5, .inl (cI, 40, .inl sv_5)), (b 0, .inr (0, [.ref (b 1), .ref (b 2), .ref (b 3), .int (nI n)])), (b 1, .inl (cI, 40, .inl me)), (b 2, .inl (cI, 40, .inl ar)), (b 3, .inl (cI, 40, .inl dl)), (d 0, .inr (2, [.ref (d 1), .ref (d 2), .ref (d 3), .ref (d 4), .int (nI fi_5), .int (nI sz_5)])), (d 1, .inl (cI, 40, .inl ki_5)), (d 2, .inl (cI, 40, .inl ow_5)), (d 3, .inl (cI, 40, .inl mr_5)), (d 4, .inl (cI, 40, .inl va_5))] H := hP
    have hD : va_D A [(a 0, .inr (3, [.ref (b 0), .ref (d 0), .ref (a 1), .ref (a 2), .ref (a 3), .ref (a 4), .ref (a 5), .int ad_5])), (a 1, .inl (cI, 40, .inl ss_5)), (a 2, .inl (cI, 40, .inl cr_5)), (a 3, .inl (cI, 40, .inl se_5)), (a 4, .inl (cI, 40, .inl re_5)), (a 5, .inl (cI, 40, .inl sv_5)), (b 0, .inr (0, [.ref (b 1), .ref (b 2), .ref (b 3), .int (nI n)])), (b 1, .inl (cI, 40, .inl me)), (b 2, .inl (cI, 40, .inl ar)), (b 3, .inl (cI, 40, .inl dl)), (d 0, .inr (2, [.ref (d 1), .ref (d 2), .ref (d 3), .ref (d 4), .int (nI fi_5), .int (nI sz_5)])), (d 1, .inl (cI, 40, .inl ki_5)), (d 2, .inl (cI, 40, .inl ow_5)), (d 3, .inl (cI, 40, .inl mr_5)), (d 4, .inl (cI, 40, .inl va_5))] := hD
    refine lv_goto (tgt := 47) hx hb dX3_take_11 (by decide) ?_
    have hS9 := hS.2.2
    have hq9 : ((((ss_5, cr_5, se_5, re_5, sv_5, ad_5), (ki_5, ow_5, mr_5, va_5, fi_5, sz_5)) : SerS × LaneS) = s_take dl (ss, cr, se, re, sv, ad) (ki, ow, mr, va, fi, sz) kd k q tm) ∧ fi_5 < 40 ∧ sz_5 ≤ 40 := by refine ⟨?_, by omega, by omega⟩; simp only [s_take, ↓reduceIte, eq_self, nI_10, and_true, true_and, and_false, false_and, not_true_eq_false, not_false_eq_true, Bool.and_true, Bool.true_and, Bool.and_false, Bool.false_and, decide_true, decide_false, Bool.false_eq_true, eq_true c_1, ← hw_5]
    exact W.vret hx hb hr (fun t ht hW => ⟨⟨((ss_5, cr_5, se_5, re_5, sv_5, ad_5), (ki_5, ow_5, mr_5, va_5, fi_5, sz_5)), rfl, hq9, by rw [ht]; exact hP, hD⟩, hS.F ht⟩) hS9 dX3_take_47

theorem hk_X3_closeDueTasks_f27 : (.fieldLink RX3 27 "Callgate$Server" "book" "LCallgate$Book;" : Cond) ∈ wsX3_closeDueTasks := by decide +kernel
theorem hi_X3_closeDueTasks_X3 : ∀ w ∈ u_ws RX3 TX3 8, w ∈ wsX3_closeDueTasks := by decide +kernel
theorem hi_X3_closeDueTasks_X0 : ∀ w ∈ u_ws RX0 TX0 4, w ∈ wsX3_closeDueTasks := by decide +kernel
theorem hk_X3_closeDueTasks_f9 : (.fieldLink RX3 9 "Callgate$Server" "states" "[I" : Cond) ∈ wsX3_closeDueTasks := by decide +kernel
theorem hk_X3_closeDueTasks_iX0 : (.initialized RX0 : Cond) ∈ wsX3_closeDueTasks := by decide +kernel
theorem hk_X3_closeDueTasks_nX0_isDue : (.instanceMethod yX0_isDue : Cond) ∈ wsX3_closeDueTasks := by decide +kernel
theorem hk_X3_closeDueTasks_sX0_isDue : (.selects RX0 yX0_isDue yX0_isDue : Cond) ∈ wsX3_closeDueTasks := by decide +kernel
set_option maxHeartbeats 4000000 in
set_option maxRecDepth 100000 in
theorem c_X3_closeDueTasks (l : Launch) (G : va_G) (cI : ClassId) (a b d : Nat → Nat) (ss : Fn) (cr : Fn) (se : Fn) (re : Fn) (sv : Fn) (ad : Int32) (me : Fn) (ar : Fn) (dl : Fn) (n : Nat) (ki : Fn) (ow : Fn) (mr : Fn) (va : Fn) (fi : Nat) (sz : Nat) (tm : Int32) (hn : n ≤ 40) (hf : fi < 40) (hs : sz ≤ 40) (zz : Nat) : Met l yX3_closeDueTasks wsX3_closeDueTasks ({ frames := 1, cells := 0, slots := 0, locals := 22 }) (va_Pc [.ref (a 0), .int tm] (kPre G cI [(a 0, .inr (3, [.ref (b 0), .ref (d 0), .ref (a 1), .ref (a 2), .ref (a 3), .ref (a 4), .ref (a 5), .int ad])), (a 1, .inl (cI, 40, .inl ss)), (a 2, .inl (cI, 40, .inl cr)), (a 3, .inl (cI, 40, .inl se)), (a 4, .inl (cI, 40, .inl re)), (a 5, .inl (cI, 40, .inl sv)), (b 0, .inr (0, [.ref (b 1), .ref (b 2), .ref (b 3), .int (nI n)])), (b 1, .inl (cI, 40, .inl me)), (b 2, .inl (cI, 40, .inl ar)), (b 3, .inl (cI, 40, .inl dl)), (d 0, .inr (2, [.ref (d 1), .ref (d 2), .ref (d 3), .ref (d 4), .int (nI fi), .int (nI sz)])), (d 1, .inl (cI, 40, .inl ki)), (d 2, .inl (cI, 40, .inl ow)), (d 3, .inl (cI, 40, .inl mr)), (d 4, .inl (cI, 40, .inl va))] zz)) (va_Qv (fun (u : SerS) => (u = s_close n dl tm (ss, cr, se, re, sv, ad))) (fun (u : SerS) t => kQ G [(a 0, .inr (3, [.ref (b 0), .ref (d 0), .ref (a 1), .ref (a 2), .ref (a 3), .ref (a 4), .ref (a 5), .int u.2.2.2.2.2])), (a 1, .inl (cI, 40, .inl u.1)), (a 2, .inl (cI, 40, .inl u.2.1)), (a 3, .inl (cI, 40, .inl u.2.2.1)), (a 4, .inl (cI, 40, .inl u.2.2.2.1)), (a 5, .inl (cI, 40, .inl u.2.2.2.2.1)), (b 0, .inr (0, [.ref (b 1), .ref (b 2), .ref (b 3), .int (nI n)])), (b 1, .inl (cI, 40, .inl me)), (b 2, .inl (cI, 40, .inl ar)), (b 3, .inl (cI, 40, .inl dl)), (d 0, .inr (2, [.ref (d 1), .ref (d 2), .ref (d 3), .ref (d 4), .int (nI fi), .int (nI sz)])), (d 1, .inl (cI, 40, .inl ki)), (d 2, .inl (cI, 40, .inl ow)), (d 3, .inl (cI, 40, .inl mr)), (d 4, .inl (cI, 40, .inl va))] (va_A [(a 0, .inr (3, [.ref (b 0), .ref (d 0), .ref (a 1), .ref (a 2), .ref (a 3), .ref (a 4), .ref (a 5), .int ad])), (a 1, .inl (cI, 40, .inl ss)), (a 2, .inl (cI, 40, .inl cr)), (a 3, .inl (cI, 40, .inl se)), (a 4, .inl (cI, 40, .inl re)), (a 5, .inl (cI, 40, .inl sv)), (b 0, .inr (0, [.ref (b 1), .ref (b 2), .ref (b 3), .int (nI n)])), (b 1, .inl (cI, 40, .inl me)), (b 2, .inl (cI, 40, .inl ar)), (b 3, .inl (cI, 40, .inl dl)), (d 0, .inr (2, [.ref (d 1), .ref (d 2), .ref (d 3), .ref (d 4), .int (nI fi), .int (nI sz)])), (d 1, .inl (cI, 40, .inl ki)), (d 2, .inl (cI, 40, .inl ow)), (d 3, .inl (cI, 40, .inl mr)), (d 4, .inl (cI, 40, .inl va))] zz) t) (va_A [(a 0, .inr (3, [.ref (b 0), .ref (d 0), .ref (a 1), .ref (a 2), .ref (a 3), .ref (a 4), .ref (a 5), .int ad])), (a 1, .inl (cI, 40, .inl ss)), (a 2, .inl (cI, 40, .inl cr)), (a 3, .inl (cI, 40, .inl se)), (a 4, .inl (cI, 40, .inl re)), (a 5, .inl (cI, 40, .inl sv)), (b 0, .inr (0, [.ref (b 1), .ref (b 2), .ref (b 3), .int (nI n)])), (b 1, .inl (cI, 40, .inl me)), (b 2, .inl (cI, 40, .inl ar)), (b 3, .inl (cI, 40, .inl dl)), (d 0, .inr (2, [.ref (d 1), .ref (d 2), .ref (d 3), .ref (d 4), .int (nI fi), .int (nI sz)])), (d 1, .inl (cI, 40, .inl ki)), (d 2, .inl (cI, 40, .inl ow)), (d 3, .inl (cI, 40, .inl mr)), (d 4, .inl (cI, 40, .inl va))] zz)) 0 0 (va_A [(a 0, .inr (3, [.ref (b 0), .ref (d 0), .ref (a 1), .ref (a 2), .ref (a 3), .ref (a 4), .ref (a 5), .int ad])), (a 1, .inl (cI, 40, .inl ss)), (a 2, .inl (cI, 40, .inl cr)), (a 3, .inl (cI, 40, .inl se)), (a 4, .inl (cI, 40, .inl re)), (a 5, .inl (cI, 40, .inl sv)), (b 0, .inr (0, [.ref (b 1), .ref (b 2), .ref (b 3), .int (nI n)])), (b 1, .inl (cI, 40, .inl me)), (b 2, .inl (cI, 40, .inl ar)), (b 3, .inl (cI, 40, .inl dl)), (d 0, .inr (2, [.ref (d 1), .ref (d 2), .ref (d 3), .ref (d 4), .int (nI fi), .int (nI sz)])), (d 1, .inl (cI, 40, .inl ki)), (d 2, .inl (cI, 40, .inl ow)), (d 3, .inl (cI, 40, .inl mr)), (d 4, .inl (cI, 40, .inl va))] zz) := by
  refine Met.ofW (cc := cX3_closeDueTasks) (maxL := 3) (ret := none) (by decide) rfl ?_
  intro p e s m args below meth c s₁ B hml hv
  obtain ⟨rfl, hsz, hP, hK, hD0, hN⟩ := hv
  have hx := B.exec
  have hb := B.bytes
  have hr := B.returns
  have hts := atoms_spec (ws := wsX3_closeDueTasks) B.pre
  have hown : s.vm.findClass RX3 = some m.cls := findClass_of_methodNamed B.named
  have hlocks := B.notSynchronized
  subst hsz
  have hD := hD0.self (sz := s.heap.size)
  generalize hAe : va_A [(a 0, .inr (3, [.ref (b 0), .ref (d 0), .ref (a 1), .ref (a 2), .ref (a 3), .ref (a 4), .ref (a 5), .int ad])), (a 1, .inl (cI, 40, .inl ss)), (a 2, .inl (cI, 40, .inl cr)), (a 3, .inl (cI, 40, .inl se)), (a 4, .inl (cI, 40, .inl re)), (a 5, .inl (cI, 40, .inl sv)), (b 0, .inr (0, [.ref (b 1), .ref (b 2), .ref (b 3), .int (nI n)])), (b 1, .inl (cI, 40, .inl me)), (b 2, .inl (cI, 40, .inl ar)), (b 3, .inl (cI, 40, .inl dl)), (d 0, .inr (2, [.ref (d 1), .ref (d 2), .ref (d 3), .ref (d 4), .int (nI fi), .int (nI sz)])), (d 1, .inl (cI, 40, .inl ki)), (d 2, .inl (cI, 40, .inl ow)), (d 3, .inl (cI, 40, .inl mr)), (d 4, .inl (cI, 40, .inl va))] s.heap.size = A at hD hN ⊢
  have hA : ∀ q : Nat, s.heap.size ≤ q → A q := fun q h => by rw [← hAe]; exact Or.inr h
  have hS : va_S A s.heap s.heap [] := va_S.rf
  have hl := lv_entry ([.ref (a 0), .int tm]) (n := 3) (Nat.le_of_ble_eq_true rfl)
  rw [lg_entry_eq]
  generalize (lg_sl ([.ref (a 0), .int tm]) ++ List.replicate (3 - (lg_sl ([.ref (a 0), .int tm])).length) Slot.unset).toArray = ls at hl ⊢
  have hl : lv_has ls 3 [(0, .ref (a 0)), (1, .int tm)] := hl
  have hP : va_P G vwCl [(a 0, .inr (3, [.ref (b 0), .ref (d 0), .ref (a 1), .ref (a 2), .ref (a 3), .ref (a 4), .ref (a 5), .int ad])), (a 1, .inl (cI, 40, .inl ss)), (a 2, .inl (cI, 40, .inl cr)), (a 3, .inl (cI, 40, .inl se)), (a 4, .inl (cI, 40, .inl re)), (a 5, .inl (cI, 40, .inl sv)), (b 0, .inr (0, [.ref (b 1), .ref (b 2), .ref (b 3), .int (nI n)])), (b 1, .inl (cI, 40, .inl me)), (b 2, .inl (cI, 40, .inl ar)), (b 3, .inl (cI, 40, .inl dl)), (d 0, .inr (2, [.ref (d 1), .ref (d 2), .ref (d 3), .ref (d 4), .int (nI fi), .int (nI sz)])), (d 1, .inl (cI, 40, .inl ki)), (d 2, .inl (cI, 40, .inl ow)), (d 3, .inl (cI, 40, .inl mr)), (d 4, .inl (cI, 40, .inl va))] s.heap := hP
  obtain ⟨H, hH⟩ : ∃ H, H = s.heap := ⟨_, rfl⟩
  rw [← hH] at hP
  have hS : va_S A s.heap H [] := by rw [hH]; exact hS
  show W _ _ _ _ _ _ _ _ _ _ s.heap _ _ _ _ _
  rw [← hH]
  obtain ⟨locs, hlo⟩ : ∃ z : List Loc, z = [] := ⟨_, rfl⟩
  rw [← hlo] at hS ⊢
  refine lv_iconst (v := nI 0) hx hb dX3_closeDueTasks_0 (by decide +kernel) ?_
  refine lv_istore_n (lv' := [(2, .int (nI 0)), (0, .ref (a 0)), (1, .int tm)]) hx hb dX3_closeDueTasks_1 rfl hl (by decide) rfl (fun ls hl => ?_)
  refine k_loop (σ := Nat × Fn) (I := fun x H locs ls => (x.1 ≤ n) ∧ (it (s_close1 dl tm) (n - x.1) x.1 ((x.2, cr, se, re, sv, ad) : SerS) = s_close n dl tm (ss, cr, se, re, sv, ad)) ∧ va_P G vwCl [(a 0, .inr (3, [.ref (b 0), .ref (d 0), .ref (a 1), .ref (a 2), .ref (a 3), .ref (a 4), .ref (a 5), .int ad])), (a 1, .inl (cI, 40, .inl x.2)), (a 2, .inl (cI, 40, .inl cr)), (a 3, .inl (cI, 40, .inl se)), (a 4, .inl (cI, 40, .inl re)), (a 5, .inl (cI, 40, .inl sv)), (b 0, .inr (0, [.ref (b 1), .ref (b 2), .ref (b 3), .int (nI n)])), (b 1, .inl (cI, 40, .inl me)), (b 2, .inl (cI, 40, .inl ar)), (b 3, .inl (cI, 40, .inl dl)), (d 0, .inr (2, [.ref (d 1), .ref (d 2), .ref (d 3), .ref (d 4), .int (nI fi), .int (nI sz)])), (d 1, .inl (cI, 40, .inl ki)), (d 2, .inl (cI, 40, .inl ow)), (d 3, .inl (cI, 40, .inl mr)), (d 4, .inl (cI, 40, .inl va))] H ∧ va_D A [(a 0, .inr (3, [.ref (b 0), .ref (d 0), .ref (a 1), .ref (a 2), .ref (a 3), .ref (a 4), .ref (a 5), .int ad])), (a 1, .inl (cI, 40, .inl x.2)), (a 2, .inl (cI, 40, .inl cr)), (a 3, .inl (cI, 40, .inl se)), (a 4, .inl (cI, 40, .inl re)), (a 5, .inl (cI, 40, .inl sv)), (b 0, .inr (0, [.ref (b 1), .ref (b 2), .ref (b 3), .int (nI n)])), (b 1, .inl (cI, 40, .inl me)), (b 2, .inl (cI, 40, .inl ar)), (b 3, .inl (cI, 40, .inl dl)), (d 0, .inr (2, [.ref (d 1), .ref (d 2), .ref (d 3), .ref (d 4), .int (nI fi), .int (nI sz)])), (d 1, .inl (cI, 40, .inl ki)), (d 2, .inl (cI, 40, .inl ow)), (d 3, .inl (cI, 40, .inl mr)), (d 4, .inl (cI, 40, .inl va))] ∧ va_S A s.heap H locs ∧ lv_has ls 3 [(0, .ref (a 0)), (1, .int tm), (2, .int (nI x.1))]) (fun x => n - x.1) ?_ (0, ss) H locs ls ⟨(by omega), rfl, hP, hD, hS, lv_sub hl [1, 2, 0] rfl⟩
  intro x H locs ls hI ih
  obtain ⟨i, ss1⟩ := x
  obtain ⟨hi, hv, hP, hD, hS, hl⟩ := hI
  have hi : i ≤ n := hi
  have hv : it (s_close1 dl tm) (n - i) i ((ss1, cr, se, re, sv, ad) : SerS) = s_close n dl tm (ss, cr, se, re, sv, ad) := hv
  have hP : va_P G vwCl [(a 0, .inr (3, [.ref (b 0), .ref (d 0), .ref (a 1), .ref (a 2), .ref (a 3), .ref (a 4), .ref (a 5), .int ad])), (a 1, .inl (cI, 40, .inl ss1)), (a 2, .inl (cI, 40, .inl cr)), (a 3, .inl (cI, 40, .inl se)), (a 4, .inl (cI, 40, .inl re)), (a 5, .inl (cI, 40, .inl sv)), (b 0, .inr (0, [.ref (b 1), .ref (b 2), .ref (b 3), .int (nI n)])), (b 1, .inl (cI, 40, .inl me)), (b 2, .inl (cI, 40, .inl ar)), (b 3, .inl (cI, 40, .inl dl)), (d 0, .inr (2, [.ref (d 1), .ref (d 2), .ref (d 3), .ref (d 4), .int (nI fi), .int (nI sz)])), (d 1, .inl (cI, 40, .inl ki)), (d 2, .inl (cI, 40, .inl ow)), (d 3, .inl (cI, 40, .inl mr)), (d 4, .inl (cI, 40, .inl va))] H := hP
  have hD : va_D A [(a 0, .inr (3, [.ref (b 0), .ref (d 0), .ref (a 1), .ref (a 2), .ref (a 3), .ref (a 4), .ref (a 5), .int ad])), (a 1, .inl (cI, 40, .inl ss1)), (a 2, .inl (cI, 40, .inl cr)), (a 3, .inl (cI, 40, .inl se)), (a 4, .inl (cI, 40, .inl re)), (a 5, .inl (cI, 40, .inl sv)), (b 0, .inr (0, [.ref (b 1), .ref (b 2), .ref (b 3), .int (nI n)])), (b 1, .inl (cI, 40, .inl me)), (b 2, .inl (cI, 40, .inl ar)), (b 3, .inl (cI, 40, .inl dl)), (d 0, .inr (2, [.ref (d 1), .ref (d 2), .ref (d 3), .ref (d 4), .int (nI fi), .int (nI sz)])), (d 1, .inl (cI, 40, .inl ki)), (d 2, .inl (cI, 40, .inl ow)), (d 3, .inl (cI, 40, .inl mr)), (d 4, .inl (cI, 40, .inl va))] := hD
  have hl : lv_has ls 3 [(0, .ref (a 0)), (1, .int tm), (2, .int (nI i))] := hl
  refine lv_iload_n hx hb dX3_closeDueTasks_2 rfl (lv_at hl 2 rfl) ?_
  refine lv_aload_n hx hb dX3_closeDueTasks_3 rfl (lv_at hl 0 rfl) ?_
  refine va_get (D := G) (ci := 3) (v := .ref (b 0)) (C := RX3) (T := TX3) (N := 8) hx hb hts hi_X3_closeDueTasks_X3 hown hK hP 0 rfl rfl 0 (by decide) (hts _ hk_X3_closeDueTasks_f27) (fun _ h9 => h9) rfl dX3_closeDueTasks_4 ?_
  refine va_getN (D := G) (ci := 0) (v := .int (nI n)) (C := RX0) (T := TX0) (N := 4) hx hb hts hi_X3_closeDueTasks_X0 hown hK hP 6 rfl rfl 3 (by decide) (va_Nw.use rfl (hN.1 _ (List.mem_of_getElem? (i := 7) rfl))) (fun _ h9 => h9) rfl dX3_closeDueTasks_7 ?_
  refine lv_icmp_ge (tgt := 48) hx hb dX3_closeDueTasks_10 (by decide) (fun c_2 => ?_) (fun c_2 => ?_)
  · have g_2 := (nI_leI (a := n) (b := i) (by omega) (by omega)).mp c_2
    have hS9 := hS.2.2
    have hq9 : (((ss1, cr, se, re, sv, ad) : SerS) = s_close n dl tm (ss, cr, se, re, sv, ad)) := by rw [← hv, it_end (by omega)]
    exact W.vret hx hb hr (fun t ht hW => ⟨⟨(ss1, cr, se, re, sv, ad), rfl, hq9, by rw [ht]; exact hP, hD⟩, hS.F ht⟩) hS9 dX3_closeDueTasks_48
  · have g_2 := (not_congr (nI_leI (a := n) (b := i) (by omega) (by omega))).mp c_2
    refine lv_aload_n hx hb dX3_closeDueTasks_13 rfl (lv_at hl 0 rfl) ?_
    refine va_get (D := G) (ci := 3) (v := .ref (a 1)) (C := RX3) (T := TX3) (N := 8) hx hb hts hi_X3_closeDueTasks_X3 hown hK hP 0 rfl rfl 2 (by decide) (hts _ hk_X3_closeDueTasks_f9) (fun _ h9 => h9) rfl dX3_closeDueTasks_14 ?_
    refine lv_iload_n hx hb dX3_closeDueTasks_17 rfl (lv_at hl 2 rfl) ?_
    refine gz_iald hx hb hK hP 1 rfl rfl (k := i) rfl (by omega) (by decide) dX3_closeDueTasks_18 ?_
    refine lv_iconst (v := nI 1) hx hb dX3_closeDueTasks_19 (by decide +kernel) ?_
    refine lv_icmp_ne (tgt := 42) hx hb dX3_closeDueTasks_20 (by decide) (fun c_3 => ?_) (fun c_3 => ?_)
    · skip
      refine lv_iinc (v := nI (i + 1)) (lv' := [(2, .int (nI (i + 1))), (0, .ref (a 0)), (1, .int tm)]) hx hb dX3_closeDueTasks_42 hl (k := 2) rfl (nI_1 _) (by decide) rfl (fun ls hl => ?_)
      refine lv_goto (tgt := 2) hx hb dX3_closeDueTasks_45 (by decide) ?_
      have n_hi : (i + 1) ≤ n := by omega
      have n_hv : it (s_close1 dl tm) (n - (i + 1)) (i + 1) ((ss1, cr, se, re, sv, ad) : SerS) = s_close n dl tm (ss, cr, se, re, sv, ad) := by (have e1 : s_close1 dl tm i ((ss1, cr, se, re, sv, ad) : SerS) = (ss1, cr, se, re, sv, ad) := by simp only [s_close1, ↓reduceIte, eq_self, nI_10, and_true, true_and, and_false, false_and, not_true_eq_false, not_false_eq_true, Bool.and_true, Bool.true_and, Bool.and_false, Bool.false_and, decide_true, decide_false, Bool.false_eq_true, eq_false g_2, eq_false c_3]); rw [← hv]; exact ((it_step (by omega)).trans (congrArg _ e1)).symm
      exact ih (i + 1, ss1) H locs ls ⟨n_hi, n_hv, hP, hD, hS, lv_sub hl [1, 2, 0] rfl⟩ (by show n - (i + 1) < n - i; omega)
    · skip
      refine lv_aload_n hx hb dX3_closeDueTasks_23 rfl (lv_at hl 0 rfl) ?_
      refine va_get (D := G) (ci := 3) (v := .ref (b 0)) (C := RX3) (T := TX3) (N := 8) hx hb hts hi_X3_closeDueTasks_X3 hown hK hP 0 rfl rfl 0 (by decide) (hts _ hk_X3_closeDueTasks_f27) (fun _ h9 => h9) rfl dX3_closeDueTasks_24 ?_
      refine lv_iload_n hx hb dX3_closeDueTasks_27 rfl (lv_at hl 2 rfl) ?_
      refine lv_iload_n hx hb dX3_closeDueTasks_28 rfl (lv_at hl 1 rfl) ?_
      refine k_calli (S := Unit) (wc := [(b 0, .inr (0, [.ref (b 1), .ref (b 2), .ref (b 3), .int (nI n)])), (b 1, .inl (cI, 40, .inl me)), (b 2, .inl (cI, 40, .inl ar)), (b 3, .inl (cI, 40, .inl dl))]) (wr := [(a 0, .inr (3, [.ref (b 0), .ref (d 0), .ref (a 1), .ref (a 2), .ref (a 3), .ref (a 4), .ref (a 5), .int ad])), (a 1, .inl (cI, 40, .inl ss1)), (a 2, .inl (cI, 40, .inl cr)), (a 3, .inl (cI, 40, .inl se)), (a 4, .inl (cI, 40, .inl re)), (a 5, .inl (cI, 40, .inl sv)), (d 0, .inr (2, [.ref (d 1), .ref (d 2), .ref (d 3), .ref (d 4), .int (nI fi), .int (nI sz)])), (d 1, .inl (cI, 40, .inl ki)), (d 2, .inl (cI, 40, .inl ow)), (d 3, .inl (cI, 40, .inl mr)), (d 4, .inl (cI, 40, .inl va))]) (w1 := fun u => [(b 0, .inr (0, [.ref (b 1), .ref (b 2), .ref (b 3), .int (nI n)])), (b 1, .inl (cI, 40, .inl me)), (b 2, .inl (cI, 40, .inl ar)), (b 3, .inl (cI, 40, .inl dl))]) (w2 := fun u => [(a 0, .inr (3, [.ref (b 0), .ref (d 0), .ref (a 1), .ref (a 2), .ref (a 3), .ref (a 4), .ref (a 5), .int ad])), (a 1, .inl (cI, 40, .inl ss1)), (a 2, .inl (cI, 40, .inl cr)), (a 3, .inl (cI, 40, .inl se)), (a 4, .inl (cI, 40, .inl re)), (a 5, .inl (cI, 40, .inl sv)), (b 0, .inr (0, [.ref (b 1), .ref (b 2), .ref (b 3), .int (nI n)])), (b 1, .inl (cI, 40, .inl me)), (b 2, .inl (cI, 40, .inl ar)), (b 3, .inl (cI, 40, .inl dl)), (d 0, .inr (2, [.ref (d 1), .ref (d 2), .ref (d 3), .ref (d 4), .int (nI fi), .int (nI sz)])), (d 1, .inl (cI, 40, .inl ki)), (d 2, .inl (cI, 40, .inl ow)), (d 3, .inl (cI, 40, .inl mr)), (d 4, .inl (cI, 40, .inl va))]) (va_runVN (As := [.int (nI i), .int tm]) (rest := []) ⟨hx, hb, hml, hown, hts⟩ (c_X0_isDue l G cI b me ar dl n i tm (by first | omega | assumption) H.size) ⟨va_cnB (host := RX4) 2 hts gX3_closeDueTasks_X0_isDue_n46 rfl rfl rfl (hN.1 _ (List.mem_of_getElem? (i := 41) rfl)) (hts _ hk_X3_closeDueTasks_iX0) (by decide +kernel) ⟨Nat.le_of_ble_eq_true rfl, Nat.le_of_ble_eq_true rfl⟩, (hts _ hk_X3_closeDueTasks_nX0_isDue), (hts _ hk_X3_closeDueTasks_sX0_isDue)⟩ ⟨kPre.blind, va_recv hK hP (ci := 0) (q0 := 6) rfl rfl, kPre.at hP hK hD hS hA hN [6, 7, 8, 9] rfl rfl⟩ rfl rfl hl.1 rfl (lv_room (Nat.le_of_ble_eq_true rfl)) dX3_closeDueTasks_29 ⟨Nat.le_of_ble_eq_true rfl, Nat.le_of_ble_eq_true rfl⟩) hP hD hS hA [6, 7, 8, 9] [0, 1, 2, 3, 4, 5, 10, 11, 12, 13, 14] [0, 1, 2, 3, 4, 5, 11, 12, 13, 14, 6, 7, 8, 9, 10] rfl rfl ⟨rfl, by decide, rfl⟩ (fun _ => rfl) (fun r_4 u H locs hw_4 hP hD hS => ?_)
      have hP : va_P G vwCl [(a 0, .inr (3, [.ref (b 0), .ref (d 0), .ref (a 1), .ref (a 2), .ref (a 3), .ref (a 4), .ref (a 5), .int ad])), (a 1, .inl (cI, 40, .inl ss1)), (a 2, .inl (cI, 40, .inl cr)), (a 3, .inl (cI, 40, .inl se)), (a 4, .inl (cI, 40, .inl re)), (a 5, .inl (cI, 40, .inl sv)), (b 0, .inr (0, [.ref (b 1), .ref (b 2), .ref (b 3), .int (nI n)])), (b 1, .inl (cI, 40, .inl me)), (b 2, .inl (cI, 40, .inl ar)), (b 3, .inl (cI, 40, .inl dl)), (d 0, .inr (2, [.ref (d 1), .ref (d 2), .ref (d 3), .ref (d 4), .int (nI fi), .int (nI sz)])), (d 1, .inl (cI, 40, .inl ki)), (d 2, .inl (cI, 40, .inl ow)), (d 3, .inl (cI, 40, .inl mr)), (d 4, .inl (cI, 40, .inl va))] H := hP
      have hD : va_D A [(a 0, .inr (3, [.ref (b 0), .ref (d 0), .ref (a 1), .ref (a 2), .ref (a 3), .ref (a 4), .ref (a 5), .int ad])), (a 1, .inl (cI, 40, .inl ss1)), (a 2, .inl (cI, 40, .inl cr)), (a 3, .inl (cI, 40, .inl se)), (a 4, .inl (cI, 40, .inl re)), (a 5, .inl (cI, 40, .inl sv)), (b 0, .inr (0, [.ref (b 1), .ref (b 2), .ref (b 3), .int (nI n)])), (b 1, .inl (cI, 40, .inl me)), (b 2, .inl (cI, 40, .inl ar)), (b 3, .inl (cI, 40, .inl dl)), (d 0, .inr (2, [.ref (d 1), .ref (d 2), .ref (d 3), .ref (d 4), .int (nI fi), .int (nI sz)])), (d 1, .inl (cI, 40, .inl ki)), (d 2, .inl (cI, 40, .inl ow)), (d 3, .inl (cI, 40, .inl mr)), (d 4, .inl (cI, 40, .inl va))] := hD
      refine lv_if_eq (tgt := 42) hx hb dX3_closeDueTasks_32 (by decide) (fun c_5 => ?_) (fun c_5 => ?_)
      · have g_5 := k_bool0 hw_4 c_5
        refine lv_iinc (v := nI (i + 1)) (lv' := [(2, .int (nI (i + 1))), (0, .ref (a 0)), (1, .int tm)]) hx hb dX3_closeDueTasks_42 hl (k := 2) rfl (nI_1 _) (by decide) rfl (fun ls hl => ?_)
        refine lv_goto (tgt := 2) hx hb dX3_closeDueTasks_45 (by decide) ?_
        have n_hi : (i + 1) ≤ n := by omega
        have n_hv : it (s_close1 dl tm) (n - (i + 1)) (i + 1) ((ss1, cr, se, re, sv, ad) : SerS) = s_close n dl tm (ss, cr, se, re, sv, ad) := by (have e1 : s_close1 dl tm i ((ss1, cr, se, re, sv, ad) : SerS) = (ss1, cr, se, re, sv, ad) := by simp only [s_close1, ↓reduceIte, eq_self, nI_10, and_true, true_and, and_false, false_and, not_true_eq_false, not_false_eq_true, Bool.and_true, Bool.true_and, Bool.and_false, Bool.false_and, decide_true, decide_false, Bool.false_eq_true, eq_false g_2, eq_true c_3, eq_false g_5]); rw [← hv]; exact ((it_step (by omega)).trans (congrArg _ e1)).symm
        exact ih (i + 1, ss1) H locs ls ⟨n_hi, n_hv, hP, hD, hS, lv_sub hl [1, 2, 0] rfl⟩ (by show n - (i + 1) < n - i; omega)
      · have g_5 := k_bool1 hw_4 c_5
        refine lv_aload_n hx hb dX3_closeDueTasks_35 rfl (lv_at hl 0 rfl) ?_
        refine va_get (D := G) (ci := 3) (v := .ref (a 1)) (C := RX3) (T := TX3) (N := 8) hx hb hts hi_X3_closeDueTasks_X3 hown hK hP 0 rfl rfl 2 (by decide) (hts _ hk_X3_closeDueTasks_f9) (fun _ h9 => h9) rfl dX3_closeDueTasks_36 ?_
        refine lv_iload_n hx hb dX3_closeDueTasks_39 rfl (lv_at hl 2 rfl) ?_
        refine lv_iconst (v := nI 3) hx hb dX3_closeDueTasks_40 (by decide +kernel) ?_
        refine gz_iast hx hb hK hP hD hS 1 rfl rfl (k := i) rfl (by omega) (by decide) dX3_closeDueTasks_41 (fun H locs hP hD hS => ?_)
        have hP : va_P G vwCl [(a 0, .inr (3, [.ref (b 0), .ref (d 0), .ref (a 1), .ref (a 2), .ref (a 3), .ref (a 4), .ref (a 5), .int ad])), (a 1, .inl (cI, 40, .inl (upd ss1 i (nI 3)))), (a 2, .inl (cI, 40, .inl cr)), (a 3, .inl (cI, 40, .inl se)), (a 4, .inl (cI, 40, .inl re)), (a 5, .inl (cI, 40, .inl sv)), (b 0, .inr (0, [.ref (b 1), .ref (b 2), .ref (b 3), .int (nI n)])), (b 1, .inl (cI, 40, .inl me)), (b 2, .inl (cI, 40, .inl ar)), (b 3, .inl (cI, 40, .inl dl)), (d 0, .inr (2, [.ref (d 1), .ref (d 2), .ref (d 3), .ref (d 4), .int (nI fi), .int (nI sz)])), (d 1, .inl (cI, 40, .inl ki)), (d 2, .inl (cI, 40, .inl ow)), (d 3, .inl (cI, 40, .inl mr)), (d 4, .inl (cI, 40, .inl va))] H := hP
        have hD : va_D A [(a 0, .inr (3, [.ref (b 0), .ref (d 0), .ref (a 1), .ref (a 2), .ref (a 3), .ref (a 4), .ref (a 5), .int ad])), (a 1, .inl (cI, 40, .inl (upd ss1 i (nI 3)))), (a 2, .inl (cI, 40, .inl cr)), (a 3, .inl (cI, 40, .inl se)), (a 4, .inl (cI, 40, .inl re)), (a 5, .inl (cI, 40, .inl sv)), (b 0, .inr (0, [.ref (b 1), .ref (b 2), .ref (b 3), .int (nI n)])), (b 1, .inl (cI, 40, .inl me)), (b 2, .inl (cI, 40, .inl ar)), (b 3, .inl (cI, 40, .inl dl)), (d 0, .inr (2, [.ref (d 1), .ref (d 2), .ref (d 3), .ref (d 4), .int (nI fi), .int (nI sz)])), (d 1, .inl (cI, 40, .inl ki)), (d 2, .inl (cI, 40, .inl ow)), (d 3, .inl (cI, 40, .inl mr)), (d 4, .inl (cI, 40, .inl va))] := hD
        refine lv_iinc (v := nI (i + 1)) (lv' := [(2, .int (nI (i + 1))), (0, .ref (a 0)), (1, .int tm)]) hx hb dX3_closeDueTasks_42 hl (k := 2) rfl (nI_1 _) (by decide) rfl (fun ls hl => ?_)
        refine lv_goto (tgt := 2) hx hb dX3_closeDueTasks_45 (by decide) ?_
        have n_hi : (i + 1) ≤ n := by omega
        have n_hv : it (s_close1 dl tm) (n - (i + 1)) (i + 1) (((upd ss1 i (nI 3)), cr, se, re, sv, ad) : SerS) = s_close n dl tm (ss, cr, se, re, sv, ad) := by (have e1 : s_close1 dl tm i ((ss1, cr, se, re, sv, ad) : SerS) = (upd ss1 i (nI 3), cr, se, re, sv, ad) := by simp only [s_close1, ↓reduceIte, eq_self, nI_10, and_true, true_and, and_false, false_and, not_true_eq_false, not_false_eq_true, Bool.and_true, Bool.true_and, Bool.and_false, Bool.false_and, decide_true, decide_false, Bool.false_eq_true, eq_false g_2, eq_true c_3, eq_true g_5]); rw [← hv]; exact ((it_step (by omega)).trans (congrArg _ e1)).symm
        exact ih (i + 1, upd ss1 i (nI 3)) H locs ls ⟨n_hi, n_hv, hP, hD, hS, lv_sub hl [1, 2, 0] rfl⟩ (by show n - (i + 1) < n - i; omega)
end
section
section KC2
variable {p : Program} {l : Launch} {e : Env} {R : Room} {s : State} {m : MethodId} {args : Array Value} {below : List Frame} {meth : Method} {c : Code} {H : Heap} {locs : List Loc} {cells slots : Nat} {Q : State → Prop}
variable {pc : Nat} {ls : Array Slot} {rest st0 : List Value} {mc ms : Nat}
theorem k_callr {S : Type} {post : S → Prop} {b0 : Nat} {G : va_G} {A : Nat → Prop} {ws wc wr : va_W} {w1 w2 : S → va_W} {a : Array Value} (hr : va_Run p l e R s m args below meth c H locs cells slots 0 0 (F0 m pc ls st0) rest (va_Qr post (fun u q t => q = b0 ∧ kQ G (w1 u) (va_A wc H.size) t) (va_A wc H.size) a) (va_A wc H.size))
    (hP : va_P G vwCl ws H) (hD : va_D A ws) (hS : va_S A s.heap H locs) (hA : ∀ q, s.heap.size ≤ q → A q) (isC isR perm : List Nat) (hC : isC.map (fun i => ws[i]?) = wc.map some) (hR : isR.map (fun i => ws[i]?) = wr.map some) (hd : va_nd isR = true ∧ (∀ i ∈ isR, i ∉ isC) ∧ va_nd perm = true) (hp : ∀ u, perm.map (fun i => (wr ++ w1 u)[i]?) = (w2 u).map some)
    (kk : ∀ (u : S) (H1 : Heap) (locs1 : List Loc), post u → va_P G vwCl (w2 u) H1 → va_D A (w2 u) → va_S A s.heap H1 locs1 → W p l e R s m args below meth c H1 locs1 cells slots Q (F0 m (pc + 3) ls (.ref b0 :: rest))) : W p l e R s m args below meth c H locs cells slots Q (F0 m pc ls st0) := by
  have hF := va_free hD hS hA isC hC
  refine va_callr hr hS (fun q _ h => hF q h) hF (fun u q t H1 locs1 ht hvm hw hB hz1 hk1 hS1 => ?_)
  obtain ⟨rfl, hP1, hD1⟩ := hB
  rw [ht] at hP1
  obtain ⟨h1, h2⟩ := k_join hP hD isC isR perm hC hR hd (hp u) hk1 hF hP1 hD1
  exact kk u H1 locs1 hw h1 h2 hS1
theorem kP_kept {G : va_G} {ws : va_W} {H1 : Heap} (hP : va_P G vwCl ws H) (h : ∀ q : Nat, q < H.size → H1[q]? = H[q]?) : va_P G vwCl ws H1 := fun k q hq => va_at.kept (hP k q hq) (h q.1 (hP k q hq).lt)
end KC2
end
section
set_option maxRecDepth 20000 in
theorem ggX4_init_X0_init : GoodIn wsX4_init wsX0_init := goodIn_r _ [22, 23, 2, 3, 24, 25, 26, 27, 58, 59, 60, 61] (by decide +kernel) (by decide +kernel)
set_option maxRecDepth 20000 in
theorem gX4_init_X0_init_n9 : GoodIn wsX4_init (wsX0_init) := ggX4_init_X0_init
set_option maxRecDepth 20000 in
theorem ggX4_init_X2_init : GoodIn wsX4_init wsX2_init := goodIn_r _ [29, 30, 2, 3, 24, 31, 32, 33, 34, 68, 69, 70, 71, 72, 73] (by decide +kernel) (by decide +kernel)
set_option maxRecDepth 20000 in
theorem gX4_init_X2_init_n18 : GoodIn wsX4_init (wsX2_init) := ggX4_init_X2_init
set_option maxRecDepth 20000 in
theorem ggX4_init_X1_init : GoodIn wsX4_init wsX1_init := goodIn_r _ [36, 37, 2, 3, 24, 38, 39, 40, 41, 42, 43, 44, 45, 46, 47, 74, 75, 76, 77, 78, 79, 80, 81, 82, 83] (by decide +kernel) (by decide +kernel)
set_option maxRecDepth 20000 in
theorem gX4_init_X1_init_n28 : GoodIn wsX4_init (wsX1_init) := ggX4_init_X1_init
set_option maxRecDepth 20000 in
theorem ggX4_init_X3_init : GoodIn wsX4_init wsX3_init := goodIn_r _ [49, 50, 2, 3, 24, 51, 52, 53, 54, 55, 56, 57, 84, 85, 86, 87, 88, 89, 90, 91] (by decide +kernel) (by decide +kernel)
set_option maxRecDepth 20000 in
theorem gX4_init_X3_init_n37 : GoodIn wsX4_init (wsX3_init) := ggX4_init_X3_init
theorem dX4_init_0 : decode cX4_init 0 = .ok (.aload_n 0, 1) := by decide +kernel
theorem dX4_init_1 : decode cX4_init 1 = .ok (.invokespecial 1, 3) := by decide +kernel
theorem dX4_init_4 : decode cX4_init 4 = .ok (.aload_n 0, 1) := by decide +kernel
theorem dX4_init_5 : decode cX4_init 5 = .ok (.new 7, 3) := by decide +kernel
theorem dX4_init_8 : decode cX4_init 8 = .ok (.dup, 1) := by decide +kernel
theorem dX4_init_9 : decode cX4_init 9 = .ok (.invokespecial 9, 3) := by decide +kernel
theorem dX4_init_12 : decode cX4_init 12 = .ok (.putfield 10, 3) := by decide +kernel
theorem dX4_init_15 : decode cX4_init 15 = .ok (.aload_n 0, 1) := by decide +kernel
theorem dX4_init_16 : decode cX4_init 16 = .ok (.new 16, 3) := by decide +kernel
theorem dX4_init_19 : decode cX4_init 19 = .ok (.dup, 1) := by decide +kernel
theorem dX4_init_20 : decode cX4_init 20 = .ok (.invokespecial 18, 3) := by decide +kernel
theorem dX4_init_23 : decode cX4_init 23 = .ok (.putfield 19, 3) := by decide +kernel
theorem dX4_init_26 : decode cX4_init 26 = .ok (.aload_n 0, 1) := by decide +kernel
theorem dX4_init_27 : decode cX4_init 27 = .ok (.new 16, 3) := by decide +kernel
theorem dX4_init_30 : decode cX4_init 30 = .ok (.dup, 1) := by decide +kernel
theorem dX4_init_31 : decode cX4_init 31 = .ok (.invokespecial 18, 3) := by decide +kernel
theorem dX4_init_34 : decode cX4_init 34 = .ok (.putfield 23, 3) := by decide +kernel
theorem dX4_init_37 : decode cX4_init 37 = .ok (.aload_n 0, 1) := by decide +kernel
theorem dX4_init_38 : decode cX4_init 38 = .ok (.new 26, 3) := by decide +kernel
theorem dX4_init_41 : decode cX4_init 41 = .ok (.dup, 1) := by decide +kernel
theorem dX4_init_42 : decode cX4_init 42 = .ok (.aload_n 0, 1) := by decide +kernel
theorem dX4_init_43 : decode cX4_init 43 = .ok (.getfield 10, 3) := by decide +kernel
theorem dX4_init_46 : decode cX4_init 46 = .ok (.aload_n 0, 1) := by decide +kernel
theorem dX4_init_47 : decode cX4_init 47 = .ok (.getfield 19, 3) := by decide +kernel
theorem dX4_init_50 : decode cX4_init 50 = .ok (.invokespecial 28, 3) := by decide +kernel
theorem dX4_init_53 : decode cX4_init 53 = .ok (.putfield 31, 3) := by decide +kernel
theorem dX4_init_56 : decode cX4_init 56 = .ok (.aload_n 0, 1) := by decide +kernel
theorem dX4_init_57 : decode cX4_init 57 = .ok (.new 35, 3) := by decide +kernel
theorem dX4_init_60 : decode cX4_init 60 = .ok (.dup, 1) := by decide +kernel
theorem dX4_init_61 : decode cX4_init 61 = .ok (.aload_n 0, 1) := by decide +kernel
theorem dX4_init_62 : decode cX4_init 62 = .ok (.getfield 10, 3) := by decide +kernel
theorem dX4_init_65 : decode cX4_init 65 = .ok (.aload_n 0, 1) := by decide +kernel
theorem dX4_init_66 : decode cX4_init 66 = .ok (.getfield 23, 3) := by decide +kernel
theorem dX4_init_69 : decode cX4_init 69 = .ok (.invokespecial 37, 3) := by decide +kernel
theorem dX4_init_72 : decode cX4_init 72 = .ok (.putfield 38, 3) := by decide +kernel
theorem dX4_init_75 : decode cX4_init 75 = .ok (.return_, 1) := by decide +kernel
set_option maxRecDepth 20000 in
theorem ggX4_open_X4_needCall : GoodIn wsX4_open wsX4_needCall := goodIn_ca (goodIn_r _ [16, 17, 18, 5, 19, 20, 21, 22, 23, 71, 72, 73, 74, 75, 76, 77, 78, 79, 80] (by decide +kernel) (by decide +kernel)) (goodIn_sub (fun _ h => List.mem_cons_of_mem _ (List.mem_append_right _ h)) (by decide +kernel))
set_option maxRecDepth 20000 in
theorem gX4_open_X4_needCall : GoodIn wsX4_open (wsV RX4 42 RX4 yX4_needCall wsX4_needCall) := goodIn_app (goodIn_of _ (by decide +kernel)) ggX4_open_X4_needCall
set_option maxRecDepth 20000 in
theorem ggX4_open_X4_needMethodAndArgument : GoodIn wsX4_open wsX4_needMethodAndArgument := goodIn_ca (goodIn_r _ [26, 1, 2] (by decide +kernel) (by decide +kernel)) (goodIn_sub (fun _ h => List.mem_cons_of_mem _ (List.mem_append_left _ (List.mem_append_left _ (List.mem_append_right _ h)))) (by decide +kernel))
set_option maxRecDepth 20000 in
theorem gX4_open_X4_needMethodAndArgument : GoodIn wsX4_open (va_wsS RX4 46 yX4_needMethodAndArgument wsX4_needMethodAndArgument) := goodIn_app (goodIn_of _ (by decide +kernel)) ggX4_open_X4_needMethodAndArgument
set_option maxRecDepth 20000 in
theorem ggX4_open_X4_needOpenCall : GoodIn wsX4_open wsX4_needOpenCall := goodIn_ca (goodIn_r _ [30, 3, 4, 11, 71, 72, 73, 74, 75, 76, 81, 82, 83, 84, 85, 86, 87, 88, 89, 90] (by decide +kernel) (by decide +kernel)) (goodIn_sub (fun _ h => List.mem_cons_of_mem _ (List.mem_append_left _ (List.mem_append_right _ h))) (by decide +kernel))
set_option maxRecDepth 20000 in
theorem gX4_open_X4_needOpenCall : GoodIn wsX4_open (wsV RX4 57 RX4 yX4_needOpenCall wsX4_needOpenCall) := goodIn_app (goodIn_of _ (by decide +kernel)) ggX4_open_X4_needOpenCall
set_option maxRecDepth 20000 in
theorem ggX4_open_X0_isFull : GoodIn wsX4_open wsX0_isFull := goodIn_r _ [33, 23, 77, 78, 79, 80] (by decide +kernel) (by decide +kernel)
set_option maxRecDepth 20000 in
theorem gX4_open_X0_isFull_n60 : GoodIn wsX4_open (wsX0_isFull) := ggX4_open_X0_isFull
set_option maxRecDepth 20000 in
theorem ggX4_open_X0_enter : GoodIn wsX4_open wsX0_enter := goodIn_r _ [36, 23, 37, 38, 39, 77, 78, 79, 80] (by decide +kernel) (by decide +kernel)
set_option maxRecDepth 20000 in
theorem gX4_open_X0_enter_n83 : GoodIn wsX4_open (wsX0_enter) := ggX4_open_X0_enter
set_option maxRecDepth 20000 in
theorem ggX4_open_X1_begin : GoodIn wsX4_open wsX1_begin := goodIn_r _ [43, 44, 45, 46, 47, 48, 41, 49, 50, 51, 52, 53, 54, 55, 56, 57, 58, 59, 60, 61, 62, 63, 64, 65, 66, 67, 68, 69, 70, 81, 82, 83, 84, 85, 86, 87, 88, 89, 90, 91, 92, 93, 94, 95, 96] (by decide +kernel) (by decide +kernel)
set_option maxRecDepth 20000 in
theorem gX4_open_X1_begin_n87 : GoodIn wsX4_open (wsX1_begin) := ggX4_open_X1_begin
theorem dX4_open_0 : decode cX4_open 0 = .ok (.iload 4, 2) := by decide +kernel
theorem dX4_open_2 : decode cX4_open 2 = .ok (.iconst (-1), 1) := by decide +kernel
theorem dX4_open_3 : decode cX4_open 3 = .ok (.if_icmp .eq 9, 3) := by decide +kernel
theorem dX4_open_6 : decode cX4_open 6 = .ok (.aload_n 0, 1) := by decide +kernel
theorem dX4_open_7 : decode cX4_open 7 = .ok (.iload 4, 2) := by decide +kernel
theorem dX4_open_9 : decode cX4_open 9 = .ok (.invokevirtual 42, 3) := by decide +kernel
theorem dX4_open_12 : decode cX4_open 12 = .ok (.iload_n 1, 1) := by decide +kernel
theorem dX4_open_13 : decode cX4_open 13 = .ok (.iload_n 2, 1) := by decide +kernel
theorem dX4_open_14 : decode cX4_open 14 = .ok (.invokestatic 46, 3) := by decide +kernel
theorem dX4_open_17 : decode cX4_open 17 = .ok (.iload_n 3, 1) := by decide +kernel
theorem dX4_open_18 : decode cX4_open 18 = .ok (.iconst 1, 1) := by decide +kernel
theorem dX4_open_19 : decode cX4_open 19 = .ok (.if_icmp .lt 10, 3) := by decide +kernel
theorem dX4_open_22 : decode cX4_open 22 = .ok (.iload_n 3, 1) := by decide +kernel
theorem dX4_open_23 : decode cX4_open 23 = .ok (.sipush 1000, 3) := by decide +kernel
theorem dX4_open_26 : decode cX4_open 26 = .ok (.if_icmp .le 13, 3) := by decide +kernel
theorem dX4_open_29 : decode cX4_open 29 = .ok (.new 50, 3) := by decide +kernel
theorem dX4_open_32 : decode cX4_open 32 = .ok (.dup, 1) := by decide +kernel
theorem dX4_open_33 : decode cX4_open 33 = .ok (.ldc 52, 2) := by decide +kernel
theorem dX4_open_35 : decode cX4_open 35 = .ok (.invokespecial 54, 3) := by decide +kernel
theorem dX4_open_38 : decode cX4_open 38 = .ok (.athrow, 1) := by decide +kernel
theorem dX4_open_39 : decode cX4_open 39 = .ok (.iload 4, 2) := by decide +kernel
theorem dX4_open_41 : decode cX4_open 41 = .ok (.iconst (-1), 1) := by decide +kernel
theorem dX4_open_42 : decode cX4_open 42 = .ok (.if_icmp .eq 9, 3) := by decide +kernel
theorem dX4_open_45 : decode cX4_open 45 = .ok (.aload_n 0, 1) := by decide +kernel
theorem dX4_open_46 : decode cX4_open 46 = .ok (.iload 4, 2) := by decide +kernel
theorem dX4_open_48 : decode cX4_open 48 = .ok (.invokevirtual 57, 3) := by decide +kernel
theorem dX4_open_51 : decode cX4_open 51 = .ok (.aload_n 0, 1) := by decide +kernel
theorem dX4_open_52 : decode cX4_open 52 = .ok (.getfield 10, 3) := by decide +kernel
theorem dX4_open_55 : decode cX4_open 55 = .ok (.invokevirtual 60, 3) := by decide +kernel
theorem dX4_open_58 : decode cX4_open 58 = .ok (.ifCond .eq 13, 3) := by decide +kernel
theorem dX4_open_61 : decode cX4_open 61 = .ok (.new 64, 3) := by decide +kernel
theorem dX4_open_64 : decode cX4_open 64 = .ok (.dup, 1) := by decide +kernel
theorem dX4_open_65 : decode cX4_open 65 = .ok (.ldc 66, 2) := by decide +kernel
theorem dX4_open_67 : decode cX4_open 67 = .ok (.invokespecial 68, 3) := by decide +kernel
theorem dX4_open_70 : decode cX4_open 70 = .ok (.athrow, 1) := by decide +kernel
theorem dX4_open_71 : decode cX4_open 71 = .ok (.aload_n 0, 1) := by decide +kernel
theorem dX4_open_72 : decode cX4_open 72 = .ok (.getfield 69, 3) := by decide +kernel
theorem dX4_open_75 : decode cX4_open 75 = .ok (.iload_n 3, 1) := by decide +kernel
theorem dX4_open_76 : decode cX4_open 76 = .ok (.iadd, 1) := by decide +kernel
theorem dX4_open_77 : decode cX4_open 77 = .ok (.istore 5, 2) := by decide +kernel
theorem dX4_open_79 : decode cX4_open 79 = .ok (.iload 4, 2) := by decide +kernel
theorem dX4_open_81 : decode cX4_open 81 = .ok (.iconst (-1), 1) := by decide +kernel
theorem dX4_open_82 : decode cX4_open 82 = .ok (.if_icmp .eq 20, 3) := by decide +kernel
theorem dX4_open_85 : decode cX4_open 85 = .ok (.iload 5, 2) := by decide +kernel
theorem dX4_open_87 : decode cX4_open 87 = .ok (.aload_n 0, 1) := by decide +kernel
theorem dX4_open_88 : decode cX4_open 88 = .ok (.getfield 10, 3) := by decide +kernel
theorem dX4_open_91 : decode cX4_open 91 = .ok (.getfield 73, 3) := by decide +kernel
theorem dX4_open_94 : decode cX4_open 94 = .ok (.iload 4, 2) := by decide +kernel
theorem dX4_open_96 : decode cX4_open 96 = .ok (.iaload, 1) := by decide +kernel
theorem dX4_open_97 : decode cX4_open 97 = .ok (.invokestatic 77, 3) := by decide +kernel
theorem dX4_open_100 : decode cX4_open 100 = .ok (.istore 5, 2) := by decide +kernel
theorem dX4_open_102 : decode cX4_open 102 = .ok (.aload_n 0, 1) := by decide +kernel
theorem dX4_open_103 : decode cX4_open 103 = .ok (.getfield 10, 3) := by decide +kernel
theorem dX4_open_106 : decode cX4_open 106 = .ok (.iload_n 1, 1) := by decide +kernel
theorem dX4_open_107 : decode cX4_open 107 = .ok (.iload_n 2, 1) := by decide +kernel
theorem dX4_open_108 : decode cX4_open 108 = .ok (.iload 5, 2) := by decide +kernel
theorem dX4_open_110 : decode cX4_open 110 = .ok (.invokevirtual 83, 3) := by decide +kernel
theorem dX4_open_113 : decode cX4_open 113 = .ok (.istore 6, 2) := by decide +kernel
theorem dX4_open_115 : decode cX4_open 115 = .ok (.aload_n 0, 1) := by decide +kernel
theorem dX4_open_116 : decode cX4_open 116 = .ok (.getfield 31, 3) := by decide +kernel
theorem dX4_open_119 : decode cX4_open 119 = .ok (.iload 6, 2) := by decide +kernel
theorem dX4_open_121 : decode cX4_open 121 = .ok (.iload 4, 2) := by decide +kernel
theorem dX4_open_123 : decode cX4_open 123 = .ok (.aload_n 0, 1) := by decide +kernel
theorem dX4_open_124 : decode cX4_open 124 = .ok (.getfield 69, 3) := by decide +kernel
theorem dX4_open_127 : decode cX4_open 127 = .ok (.invokevirtual 87, 3) := by decide +kernel
theorem dX4_open_130 : decode cX4_open 130 = .ok (.iload 6, 2) := by decide +kernel
theorem dX4_open_132 : decode cX4_open 132 = .ok (.ireturn, 1) := by decide +kernel
set_option maxRecDepth 20000 in
theorem ggX4_cancel_X4_needCall : GoodIn wsX4_cancel wsX4_needCall := goodIn_ca (goodIn_r _ [6, 7, 8, 9, 10, 11, 12, 13, 14, 55, 56, 57, 58, 59, 60, 61, 62, 63, 64] (by decide +kernel) (by decide +kernel)) (goodIn_sub (fun _ h => List.mem_cons_of_mem _ (List.mem_append_left _ (List.mem_append_right _ h))) (by decide +kernel))
set_option maxRecDepth 20000 in
theorem gX4_cancel_X4_needCall : GoodIn wsX4_cancel (wsV RX4 42 RX4 yX4_needCall wsX4_needCall) := goodIn_app (goodIn_of _ (by decide +kernel)) ggX4_cancel_X4_needCall
set_option maxRecDepth 20000 in
theorem ggX4_cancel_X4_needOpenCall : GoodIn wsX4_cancel wsX4_needOpenCall := goodIn_ca (goodIn_r _ [18, 19, 20, 1, 55, 56, 57, 58, 59, 60, 65, 66, 67, 68, 69, 70, 71, 72, 73, 74] (by decide +kernel) (by decide +kernel)) (goodIn_sub (fun _ h => List.mem_cons_of_mem _ (List.mem_append_right _ h)) (by decide +kernel))
set_option maxRecDepth 20000 in
theorem gX4_cancel_X4_needOpenCall : GoodIn wsX4_cancel (wsV RX4 57 RX4 yX4_needOpenCall wsX4_needOpenCall) := goodIn_app (goodIn_of _ (by decide +kernel)) ggX4_cancel_X4_needOpenCall
set_option maxRecDepth 20000 in
theorem ggX4_cancel_X1_endAndTell : GoodIn wsX4_cancel wsX1_endAndTell := goodIn_r _ [24, 25, 26, 27, 28, 29, 30, 31, 32, 33, 34, 35, 36, 37, 38, 39, 40, 41, 42, 43, 44, 45, 46, 47, 22, 48, 49, 50, 51, 52, 53, 54, 10, 11, 12, 13, 14, 65, 66, 67, 68, 69, 70, 71, 72, 73, 74, 75, 76, 77, 78, 79, 80, 61, 62, 63, 64] (by decide +kernel) (by decide +kernel)
set_option maxRecDepth 20000 in
theorem gX4_cancel_X1_endAndTell_n91 : GoodIn wsX4_cancel (wsX1_endAndTell) := ggX4_cancel_X1_endAndTell
theorem dX4_cancel_0 : decode cX4_cancel 0 = .ok (.aload_n 0, 1) := by decide +kernel
theorem dX4_cancel_1 : decode cX4_cancel 1 = .ok (.iload_n 1, 1) := by decide +kernel
theorem dX4_cancel_2 : decode cX4_cancel 2 = .ok (.invokevirtual 42, 3) := by decide +kernel
theorem dX4_cancel_5 : decode cX4_cancel 5 = .ok (.aload_n 0, 1) := by decide +kernel
theorem dX4_cancel_6 : decode cX4_cancel 6 = .ok (.iload_n 1, 1) := by decide +kernel
theorem dX4_cancel_7 : decode cX4_cancel 7 = .ok (.invokevirtual 57, 3) := by decide +kernel
theorem dX4_cancel_10 : decode cX4_cancel 10 = .ok (.aload_n 0, 1) := by decide +kernel
theorem dX4_cancel_11 : decode cX4_cancel 11 = .ok (.getfield 31, 3) := by decide +kernel
theorem dX4_cancel_14 : decode cX4_cancel 14 = .ok (.iload_n 1, 1) := by decide +kernel
theorem dX4_cancel_15 : decode cX4_cancel 15 = .ok (.iconst 1, 1) := by decide +kernel
theorem dX4_cancel_16 : decode cX4_cancel 16 = .ok (.invokevirtual 91, 3) := by decide +kernel
theorem dX4_cancel_19 : decode cX4_cancel 19 = .ok (.ireturn, 1) := by decide +kernel
set_option maxRecDepth 20000 in
theorem ggX4_grant_X4_needCall : GoodIn wsX4_grant wsX4_needCall := goodIn_ca (goodIn_r _ [11, 12, 13, 5, 14, 15, 16, 17, 18, 42, 43, 44, 45, 46, 47, 48, 49, 50, 51] (by decide +kernel) (by decide +kernel)) (goodIn_sub (fun _ h => List.mem_cons_of_mem _ (List.mem_append_right _ h)) (by decide +kernel))
set_option maxRecDepth 20000 in
theorem gX4_grant_X4_needCall : GoodIn wsX4_grant (wsV RX4 42 RX4 yX4_needCall wsX4_needCall) := goodIn_app (goodIn_of _ (by decide +kernel)) ggX4_grant_X4_needCall
set_option maxRecDepth 20000 in
theorem ggX4_grant_X4_needOpenCall : GoodIn wsX4_grant wsX4_needOpenCall := goodIn_ca (goodIn_r _ [22, 3, 4, 23, 42, 43, 44, 45, 46, 47, 52, 53, 54, 55, 56, 57, 58, 59, 60, 61] (by decide +kernel) (by decide +kernel)) (goodIn_sub (fun _ h => List.mem_cons_of_mem _ (List.mem_append_left _ (List.mem_append_right _ h))) (by decide +kernel))
set_option maxRecDepth 20000 in
theorem gX4_grant_X4_needOpenCall : GoodIn wsX4_grant (wsV RX4 57 RX4 yX4_needOpenCall wsX4_needOpenCall) := goodIn_app (goodIn_of _ (by decide +kernel)) ggX4_grant_X4_needOpenCall
set_option maxRecDepth 20000 in
theorem ggX4_grant_X2_send : GoodIn wsX4_grant wsX2_send := goodIn_r _ [27, 28, 29, 30, 31, 32, 33, 34, 35, 25, 36, 37, 38, 39, 40, 41, 62, 63, 64, 65, 66, 67] (by decide +kernel) (by decide +kernel)
set_option maxRecDepth 20000 in
theorem gX4_grant_X2_send_n101 : GoodIn wsX4_grant (wsX2_send) := ggX4_grant_X2_send
theorem dX4_grant_0 : decode cX4_grant 0 = .ok (.aload_n 0, 1) := by decide +kernel
theorem dX4_grant_1 : decode cX4_grant 1 = .ok (.iload_n 1, 1) := by decide +kernel
theorem dX4_grant_2 : decode cX4_grant 2 = .ok (.invokevirtual 42, 3) := by decide +kernel
theorem dX4_grant_5 : decode cX4_grant 5 = .ok (.iload_n 2, 1) := by decide +kernel
theorem dX4_grant_6 : decode cX4_grant 6 = .ok (.iconst 1, 1) := by decide +kernel
theorem dX4_grant_7 : decode cX4_grant 7 = .ok (.if_icmp .lt 9, 3) := by decide +kernel
theorem dX4_grant_10 : decode cX4_grant 10 = .ok (.iload_n 2, 1) := by decide +kernel
theorem dX4_grant_11 : decode cX4_grant 11 = .ok (.bipush 10, 2) := by decide +kernel
theorem dX4_grant_13 : decode cX4_grant 13 = .ok (.if_icmp .le 13, 3) := by decide +kernel
theorem dX4_grant_16 : decode cX4_grant 16 = .ok (.new 50, 3) := by decide +kernel
theorem dX4_grant_19 : decode cX4_grant 19 = .ok (.dup, 1) := by decide +kernel
theorem dX4_grant_20 : decode cX4_grant 20 = .ok (.ldc 94, 2) := by decide +kernel
theorem dX4_grant_22 : decode cX4_grant 22 = .ok (.invokespecial 54, 3) := by decide +kernel
theorem dX4_grant_25 : decode cX4_grant 25 = .ok (.athrow, 1) := by decide +kernel
theorem dX4_grant_26 : decode cX4_grant 26 = .ok (.aload_n 0, 1) := by decide +kernel
theorem dX4_grant_27 : decode cX4_grant 27 = .ok (.getfield 10, 3) := by decide +kernel
theorem dX4_grant_30 : decode cX4_grant 30 = .ok (.getfield 96, 3) := by decide +kernel
theorem dX4_grant_33 : decode cX4_grant 33 = .ok (.iload_n 1, 1) := by decide +kernel
theorem dX4_grant_34 : decode cX4_grant 34 = .ok (.iaload, 1) := by decide +kernel
theorem dX4_grant_35 : decode cX4_grant 35 = .ok (.iconst 3, 1) := by decide +kernel
theorem dX4_grant_36 : decode cX4_grant 36 = .ok (.if_icmp .eq 13, 3) := by decide +kernel
theorem dX4_grant_39 : decode cX4_grant 39 = .ok (.new 64, 3) := by decide +kernel
theorem dX4_grant_42 : decode cX4_grant 42 = .ok (.dup, 1) := by decide +kernel
theorem dX4_grant_43 : decode cX4_grant 43 = .ok (.ldc 99, 2) := by decide +kernel
theorem dX4_grant_45 : decode cX4_grant 45 = .ok (.invokespecial 68, 3) := by decide +kernel
theorem dX4_grant_48 : decode cX4_grant 48 = .ok (.athrow, 1) := by decide +kernel
theorem dX4_grant_49 : decode cX4_grant 49 = .ok (.aload_n 0, 1) := by decide +kernel
theorem dX4_grant_50 : decode cX4_grant 50 = .ok (.iload_n 1, 1) := by decide +kernel
theorem dX4_grant_51 : decode cX4_grant 51 = .ok (.invokevirtual 57, 3) := by decide +kernel
theorem dX4_grant_54 : decode cX4_grant 54 = .ok (.aload_n 0, 1) := by decide +kernel
theorem dX4_grant_55 : decode cX4_grant 55 = .ok (.getfield 19, 3) := by decide +kernel
theorem dX4_grant_58 : decode cX4_grant 58 = .ok (.iconst 2, 1) := by decide +kernel
theorem dX4_grant_59 : decode cX4_grant 59 = .ok (.iload_n 1, 1) := by decide +kernel
theorem dX4_grant_60 : decode cX4_grant 60 = .ok (.iconst 0, 1) := by decide +kernel
theorem dX4_grant_61 : decode cX4_grant 61 = .ok (.iload_n 2, 1) := by decide +kernel
theorem dX4_grant_62 : decode cX4_grant 62 = .ok (.invokevirtual 101, 3) := by decide +kernel
theorem dX4_grant_65 : decode cX4_grant 65 = .ok (.return_, 1) := by decide +kernel
theorem dX4_calls_0 : decode cX4_calls 0 = .ok (.aload_n 0, 1) := by decide +kernel
theorem dX4_calls_1 : decode cX4_calls 1 = .ok (.getfield 10, 3) := by decide +kernel
theorem dX4_calls_4 : decode cX4_calls 4 = .ok (.getfield 105, 3) := by decide +kernel
theorem dX4_calls_7 : decode cX4_calls 7 = .ok (.ireturn, 1) := by decide +kernel
set_option maxRecDepth 20000 in
theorem ggX4_outcome_X4_needCall : GoodIn wsX4_outcome wsX4_needCall := goodIn_ca (goodIn_r _ [6, 7, 8, 9, 10, 11, 12, 13, 14, 15, 16, 17, 18, 19, 20, 31, 32, 33, 34] (by decide +kernel) (by decide +kernel)) (goodIn_sub (fun _ h => List.mem_cons_of_mem _ (List.mem_append_right _ h)) (by decide +kernel))
set_option maxRecDepth 20000 in
theorem gX4_outcome_X4_needCall : GoodIn wsX4_outcome (wsV RX4 42 RX4 yX4_needCall wsX4_needCall) := goodIn_app (goodIn_of _ (by decide +kernel)) ggX4_outcome_X4_needCall
theorem dX4_outcome_0 : decode cX4_outcome 0 = .ok (.aload_n 0, 1) := by decide +kernel
theorem dX4_outcome_1 : decode cX4_outcome 1 = .ok (.iload_n 1, 1) := by decide +kernel
theorem dX4_outcome_2 : decode cX4_outcome 2 = .ok (.invokevirtual 42, 3) := by decide +kernel
theorem dX4_outcome_5 : decode cX4_outcome 5 = .ok (.aload_n 0, 1) := by decide +kernel
theorem dX4_outcome_6 : decode cX4_outcome 6 = .ok (.getfield 31, 3) := by decide +kernel
theorem dX4_outcome_9 : decode cX4_outcome 9 = .ok (.getfield 108, 3) := by decide +kernel
theorem dX4_outcome_12 : decode cX4_outcome 12 = .ok (.iload_n 1, 1) := by decide +kernel
theorem dX4_outcome_13 : decode cX4_outcome 13 = .ok (.iaload, 1) := by decide +kernel
theorem dX4_outcome_14 : decode cX4_outcome 14 = .ok (.ireturn, 1) := by decide +kernel
set_option maxRecDepth 20000 in
theorem ggX4_value_X4_needCall : GoodIn wsX4_value wsX4_needCall := goodIn_ca (goodIn_r _ [8, 9, 10, 11, 12, 13, 14, 15, 16, 17, 18, 19, 20, 21, 22, 33, 34, 35, 36] (by decide +kernel) (by decide +kernel)) (goodIn_sub (fun _ h => List.mem_cons_of_mem _ (List.mem_append_right _ h)) (by decide +kernel))
set_option maxRecDepth 20000 in
theorem gX4_value_X4_needCall : GoodIn wsX4_value (wsV RX4 42 RX4 yX4_needCall wsX4_needCall) := goodIn_app (goodIn_of _ (by decide +kernel)) ggX4_value_X4_needCall
theorem dX4_value_0 : decode cX4_value 0 = .ok (.aload_n 0, 1) := by decide +kernel
theorem dX4_value_1 : decode cX4_value 1 = .ok (.iload_n 1, 1) := by decide +kernel
theorem dX4_value_2 : decode cX4_value 2 = .ok (.invokevirtual 42, 3) := by decide +kernel
theorem dX4_value_5 : decode cX4_value 5 = .ok (.aload_n 0, 1) := by decide +kernel
theorem dX4_value_6 : decode cX4_value 6 = .ok (.getfield 31, 3) := by decide +kernel
theorem dX4_value_9 : decode cX4_value 9 = .ok (.getfield 108, 3) := by decide +kernel
theorem dX4_value_12 : decode cX4_value 12 = .ok (.iload_n 1, 1) := by decide +kernel
theorem dX4_value_13 : decode cX4_value 13 = .ok (.iaload, 1) := by decide +kernel
theorem dX4_value_14 : decode cX4_value 14 = .ok (.ifCond .eq 13, 3) := by decide +kernel
theorem dX4_value_17 : decode cX4_value 17 = .ok (.new 64, 3) := by decide +kernel
theorem dX4_value_20 : decode cX4_value 20 = .ok (.dup, 1) := by decide +kernel
theorem dX4_value_21 : decode cX4_value 21 = .ok (.ldc 111, 2) := by decide +kernel
theorem dX4_value_23 : decode cX4_value 23 = .ok (.invokespecial 68, 3) := by decide +kernel
theorem dX4_value_26 : decode cX4_value 26 = .ok (.athrow, 1) := by decide +kernel
theorem dX4_value_27 : decode cX4_value 27 = .ok (.aload_n 0, 1) := by decide +kernel
theorem dX4_value_28 : decode cX4_value 28 = .ok (.getfield 31, 3) := by decide +kernel
theorem dX4_value_31 : decode cX4_value 31 = .ok (.getfield 113, 3) := by decide +kernel
theorem dX4_value_34 : decode cX4_value 34 = .ok (.iload_n 1, 1) := by decide +kernel
theorem dX4_value_35 : decode cX4_value 35 = .ok (.iaload, 1) := by decide +kernel
theorem dX4_value_36 : decode cX4_value 36 = .ok (.ireturn, 1) := by decide +kernel
set_option maxRecDepth 20000 in
theorem ggX4_deadline_X4_needCall : GoodIn wsX4_deadline wsX4_needCall := goodIn_ca (goodIn_r _ [6, 7, 8, 1, 9, 10, 11, 12, 13, 14, 15, 16, 17, 18, 19, 20, 21, 22, 23] (by decide +kernel) (by decide +kernel)) (goodIn_sub (fun _ h => List.mem_cons_of_mem _ (List.mem_append_right _ h)) (by decide +kernel))
set_option maxRecDepth 20000 in
theorem gX4_deadline_X4_needCall : GoodIn wsX4_deadline (wsV RX4 42 RX4 yX4_needCall wsX4_needCall) := goodIn_app (goodIn_of _ (by decide +kernel)) ggX4_deadline_X4_needCall
theorem dX4_deadline_0 : decode cX4_deadline 0 = .ok (.aload_n 0, 1) := by decide +kernel
theorem dX4_deadline_1 : decode cX4_deadline 1 = .ok (.iload_n 1, 1) := by decide +kernel
theorem dX4_deadline_2 : decode cX4_deadline 2 = .ok (.invokevirtual 42, 3) := by decide +kernel
theorem dX4_deadline_5 : decode cX4_deadline 5 = .ok (.aload_n 0, 1) := by decide +kernel
theorem dX4_deadline_6 : decode cX4_deadline 6 = .ok (.getfield 10, 3) := by decide +kernel
theorem dX4_deadline_9 : decode cX4_deadline 9 = .ok (.getfield 73, 3) := by decide +kernel
theorem dX4_deadline_12 : decode cX4_deadline 12 = .ok (.iload_n 1, 1) := by decide +kernel
theorem dX4_deadline_13 : decode cX4_deadline 13 = .ok (.iaload, 1) := by decide +kernel
theorem dX4_deadline_14 : decode cX4_deadline 14 = .ok (.ireturn, 1) := by decide +kernel
set_option maxRecDepth 20000 in
theorem ggX4_attempts_X4_needCall : GoodIn wsX4_attempts wsX4_needCall := goodIn_ca (goodIn_r _ [6, 7, 8, 9, 10, 11, 12, 13, 14, 15, 16, 17, 18, 19, 20, 31, 32, 33, 34] (by decide +kernel) (by decide +kernel)) (goodIn_sub (fun _ h => List.mem_cons_of_mem _ (List.mem_append_right _ h)) (by decide +kernel))
set_option maxRecDepth 20000 in
theorem gX4_attempts_X4_needCall : GoodIn wsX4_attempts (wsV RX4 42 RX4 yX4_needCall wsX4_needCall) := goodIn_app (goodIn_of _ (by decide +kernel)) ggX4_attempts_X4_needCall
theorem dX4_attempts_0 : decode cX4_attempts 0 = .ok (.aload_n 0, 1) := by decide +kernel
theorem dX4_attempts_1 : decode cX4_attempts 1 = .ok (.iload_n 1, 1) := by decide +kernel
theorem dX4_attempts_2 : decode cX4_attempts 2 = .ok (.invokevirtual 42, 3) := by decide +kernel
theorem dX4_attempts_5 : decode cX4_attempts 5 = .ok (.aload_n 0, 1) := by decide +kernel
theorem dX4_attempts_6 : decode cX4_attempts 6 = .ok (.getfield 31, 3) := by decide +kernel
theorem dX4_attempts_9 : decode cX4_attempts 9 = .ok (.getfield 116, 3) := by decide +kernel
theorem dX4_attempts_12 : decode cX4_attempts 12 = .ok (.iload_n 1, 1) := by decide +kernel
theorem dX4_attempts_13 : decode cX4_attempts 13 = .ok (.iaload, 1) := by decide +kernel
theorem dX4_attempts_14 : decode cX4_attempts 14 = .ok (.ireturn, 1) := by decide +kernel
set_option maxRecDepth 20000 in
theorem ggX4_received_X4_needCall : GoodIn wsX4_received wsX4_needCall := goodIn_ca (goodIn_r _ [6, 7, 8, 9, 10, 11, 12, 13, 14, 15, 16, 17, 18, 19, 20, 31, 32, 33, 34] (by decide +kernel) (by decide +kernel)) (goodIn_sub (fun _ h => List.mem_cons_of_mem _ (List.mem_append_right _ h)) (by decide +kernel))
set_option maxRecDepth 20000 in
theorem gX4_received_X4_needCall : GoodIn wsX4_received (wsV RX4 42 RX4 yX4_needCall wsX4_needCall) := goodIn_app (goodIn_of _ (by decide +kernel)) ggX4_received_X4_needCall
theorem dX4_received_0 : decode cX4_received 0 = .ok (.aload_n 0, 1) := by decide +kernel
theorem dX4_received_1 : decode cX4_received 1 = .ok (.iload_n 1, 1) := by decide +kernel
theorem dX4_received_2 : decode cX4_received 2 = .ok (.invokevirtual 42, 3) := by decide +kernel
theorem dX4_received_5 : decode cX4_received 5 = .ok (.aload_n 0, 1) := by decide +kernel
theorem dX4_received_6 : decode cX4_received 6 = .ok (.getfield 31, 3) := by decide +kernel
theorem dX4_received_9 : decode cX4_received 9 = .ok (.getfield 119, 3) := by decide +kernel
theorem dX4_received_12 : decode cX4_received 12 = .ok (.iload_n 1, 1) := by decide +kernel
theorem dX4_received_13 : decode cX4_received 13 = .ok (.iaload, 1) := by decide +kernel
theorem dX4_received_14 : decode cX4_received 14 = .ok (.ireturn, 1) := by decide +kernel
set_option maxRecDepth 20000 in
theorem ggX4_sum_X4_needCall : GoodIn wsX4_sum wsX4_needCall := goodIn_ca (goodIn_r _ [6, 7, 8, 9, 10, 11, 12, 13, 14, 15, 16, 17, 18, 19, 20, 31, 32, 33, 34] (by decide +kernel) (by decide +kernel)) (goodIn_sub (fun _ h => List.mem_cons_of_mem _ (List.mem_append_right _ h)) (by decide +kernel))
set_option maxRecDepth 20000 in
theorem gX4_sum_X4_needCall : GoodIn wsX4_sum (wsV RX4 42 RX4 yX4_needCall wsX4_needCall) := goodIn_app (goodIn_of _ (by decide +kernel)) ggX4_sum_X4_needCall
theorem dX4_sum_0 : decode cX4_sum 0 = .ok (.aload_n 0, 1) := by decide +kernel
theorem dX4_sum_1 : decode cX4_sum 1 = .ok (.iload_n 1, 1) := by decide +kernel
theorem dX4_sum_2 : decode cX4_sum 2 = .ok (.invokevirtual 42, 3) := by decide +kernel
theorem dX4_sum_5 : decode cX4_sum 5 = .ok (.aload_n 0, 1) := by decide +kernel
theorem dX4_sum_6 : decode cX4_sum 6 = .ok (.getfield 31, 3) := by decide +kernel
theorem dX4_sum_9 : decode cX4_sum 9 = .ok (.getfield 122, 3) := by decide +kernel
theorem dX4_sum_12 : decode cX4_sum 12 = .ok (.iload_n 1, 1) := by decide +kernel
theorem dX4_sum_13 : decode cX4_sum 13 = .ok (.iaload, 1) := by decide +kernel
theorem dX4_sum_14 : decode cX4_sum 14 = .ok (.ireturn, 1) := by decide +kernel
theorem dX4_tokens_0 : decode cX4_tokens 0 = .ok (.aload_n 0, 1) := by decide +kernel
theorem dX4_tokens_1 : decode cX4_tokens 1 = .ok (.getfield 31, 3) := by decide +kernel
theorem dX4_tokens_4 : decode cX4_tokens 4 = .ok (.getfield 125, 3) := by decide +kernel
theorem dX4_tokens_7 : decode cX4_tokens 7 = .ok (.ireturn, 1) := by decide +kernel
set_option maxRecDepth 20000 in
theorem ggX4_work_X4_needCall : GoodIn wsX4_work wsX4_needCall := goodIn_ca (goodIn_r _ [8, 9, 10, 11, 12, 13, 14, 15, 16, 71, 72, 73, 74, 75, 76, 85, 86, 87, 88] (by decide +kernel) (by decide +kernel)) (goodIn_sub (fun _ h => List.mem_cons_of_mem _ (List.mem_append_right _ h)) (by decide +kernel))
set_option maxRecDepth 20000 in
theorem gX4_work_X4_needCall : GoodIn wsX4_work (wsV RX4 42 RX4 yX4_needCall wsX4_needCall) := goodIn_app (goodIn_of _ (by decide +kernel)) ggX4_work_X4_needCall
set_option maxRecDepth 20000 in
theorem ggX4_work_X3_isItemNext : GoodIn wsX4_work wsX3_isItemNext := goodIn_r _ [20, 21, 22, 77, 78, 79, 80, 81, 82, 83, 84, 85, 86, 87, 88] (by decide +kernel) (by decide +kernel)
set_option maxRecDepth 20000 in
theorem gX4_work_X3_isItemNext_n133 : GoodIn wsX4_work (wsX3_isItemNext) := ggX4_work_X3_isItemNext
set_option maxRecDepth 20000 in
theorem ggX4_work_X3_step : GoodIn wsX4_work wsX3_step := goodIn_r _ [25, 26, 17, 19, 18, 20, 21, 22, 27, 28, 29, 30, 31, 32, 33, 34, 35, 36, 37, 38, 39, 40, 41, 42, 43, 44, 45, 46, 47, 48, 49, 50, 51, 52, 53, 54, 55, 56, 57, 58, 59, 60, 61, 62, 63, 64, 65, 66, 67, 68, 69, 70, 77, 78, 79, 80, 81, 82, 83, 84, 85, 86, 87, 88, 89, 90, 91, 92, 93, 94] (by decide +kernel) (by decide +kernel)
set_option maxRecDepth 20000 in
theorem gX4_work_X3_step_n142 : GoodIn wsX4_work (wsX3_step) := ggX4_work_X3_step
theorem dX4_work_0 : decode cX4_work 0 = .ok (.aload_n 0, 1) := by decide +kernel
theorem dX4_work_1 : decode cX4_work 1 = .ok (.iload_n 1, 1) := by decide +kernel
theorem dX4_work_2 : decode cX4_work 2 = .ok (.invokevirtual 42, 3) := by decide +kernel
theorem dX4_work_5 : decode cX4_work 5 = .ok (.aload_n 0, 1) := by decide +kernel
theorem dX4_work_6 : decode cX4_work 6 = .ok (.getfield 38, 3) := by decide +kernel
theorem dX4_work_9 : decode cX4_work 9 = .ok (.getfield 128, 3) := by decide +kernel
theorem dX4_work_12 : decode cX4_work 12 = .ok (.iload_n 1, 1) := by decide +kernel
theorem dX4_work_13 : decode cX4_work 13 = .ok (.iaload, 1) := by decide +kernel
theorem dX4_work_14 : decode cX4_work 14 = .ok (.iconst 1, 1) := by decide +kernel
theorem dX4_work_15 : decode cX4_work 15 = .ok (.if_icmp .eq 13, 3) := by decide +kernel
theorem dX4_work_18 : decode cX4_work 18 = .ok (.new 64, 3) := by decide +kernel
theorem dX4_work_21 : decode cX4_work 21 = .ok (.dup, 1) := by decide +kernel
theorem dX4_work_22 : decode cX4_work 22 = .ok (.ldc 131, 2) := by decide +kernel
theorem dX4_work_24 : decode cX4_work 24 = .ok (.invokespecial 68, 3) := by decide +kernel
theorem dX4_work_27 : decode cX4_work 27 = .ok (.athrow, 1) := by decide +kernel
theorem dX4_work_28 : decode cX4_work 28 = .ok (.aload_n 0, 1) := by decide +kernel
theorem dX4_work_29 : decode cX4_work 29 = .ok (.getfield 38, 3) := by decide +kernel
theorem dX4_work_32 : decode cX4_work 32 = .ok (.iload_n 1, 1) := by decide +kernel
theorem dX4_work_33 : decode cX4_work 33 = .ok (.invokevirtual 133, 3) := by decide +kernel
theorem dX4_work_36 : decode cX4_work 36 = .ok (.ifCond .eq 26, 3) := by decide +kernel
theorem dX4_work_39 : decode cX4_work 39 = .ok (.aload_n 0, 1) := by decide +kernel
theorem dX4_work_40 : decode cX4_work 40 = .ok (.getfield 38, 3) := by decide +kernel
theorem dX4_work_43 : decode cX4_work 43 = .ok (.getfield 137, 3) := by decide +kernel
theorem dX4_work_46 : decode cX4_work 46 = .ok (.iload_n 1, 1) := by decide +kernel
theorem dX4_work_47 : decode cX4_work 47 = .ok (.iaload, 1) := by decide +kernel
theorem dX4_work_48 : decode cX4_work 48 = .ok (.iconst 1, 1) := by decide +kernel
theorem dX4_work_49 : decode cX4_work 49 = .ok (.if_icmp .ge 13, 3) := by decide +kernel
theorem dX4_work_52 : decode cX4_work 52 = .ok (.new 64, 3) := by decide +kernel
theorem dX4_work_55 : decode cX4_work 55 = .ok (.dup, 1) := by decide +kernel
theorem dX4_work_56 : decode cX4_work 56 = .ok (.ldc 140, 2) := by decide +kernel
theorem dX4_work_58 : decode cX4_work 58 = .ok (.invokespecial 68, 3) := by decide +kernel
theorem dX4_work_61 : decode cX4_work 61 = .ok (.athrow, 1) := by decide +kernel
theorem dX4_work_62 : decode cX4_work 62 = .ok (.aload_n 0, 1) := by decide +kernel
theorem dX4_work_63 : decode cX4_work 63 = .ok (.getfield 38, 3) := by decide +kernel
theorem dX4_work_66 : decode cX4_work 66 = .ok (.iload_n 1, 1) := by decide +kernel
theorem dX4_work_67 : decode cX4_work 67 = .ok (.invokevirtual 142, 3) := by decide +kernel
theorem dX4_work_70 : decode cX4_work 70 = .ok (.aload_n 0, 1) := by decide +kernel
theorem dX4_work_71 : decode cX4_work 71 = .ok (.getfield 38, 3) := by decide +kernel
theorem dX4_work_74 : decode cX4_work 74 = .ok (.getfield 128, 3) := by decide +kernel
theorem dX4_work_77 : decode cX4_work 77 = .ok (.iload_n 1, 1) := by decide +kernel
theorem dX4_work_78 : decode cX4_work 78 = .ok (.iaload, 1) := by decide +kernel
theorem dX4_work_79 : decode cX4_work 79 = .ok (.ireturn, 1) := by decide +kernel
set_option maxRecDepth 20000 in
theorem ggX4_task_X4_needCall : GoodIn wsX4_task wsX4_needCall := goodIn_ca (goodIn_r _ [6, 7, 8, 9, 10, 11, 12, 13, 14, 15, 16, 17, 18, 19, 20, 29, 30, 31, 32] (by decide +kernel) (by decide +kernel)) (goodIn_sub (fun _ h => List.mem_cons_of_mem _ (List.mem_append_right _ h)) (by decide +kernel))
set_option maxRecDepth 20000 in
theorem gX4_task_X4_needCall : GoodIn wsX4_task (wsV RX4 42 RX4 yX4_needCall wsX4_needCall) := goodIn_app (goodIn_of _ (by decide +kernel)) ggX4_task_X4_needCall
theorem dX4_task_0 : decode cX4_task 0 = .ok (.aload_n 0, 1) := by decide +kernel
theorem dX4_task_1 : decode cX4_task 1 = .ok (.iload_n 1, 1) := by decide +kernel
theorem dX4_task_2 : decode cX4_task 2 = .ok (.invokevirtual 42, 3) := by decide +kernel
theorem dX4_task_5 : decode cX4_task 5 = .ok (.aload_n 0, 1) := by decide +kernel
theorem dX4_task_6 : decode cX4_task 6 = .ok (.getfield 38, 3) := by decide +kernel
theorem dX4_task_9 : decode cX4_task 9 = .ok (.getfield 128, 3) := by decide +kernel
theorem dX4_task_12 : decode cX4_task 12 = .ok (.iload_n 1, 1) := by decide +kernel
theorem dX4_task_13 : decode cX4_task 13 = .ok (.iaload, 1) := by decide +kernel
theorem dX4_task_14 : decode cX4_task 14 = .ok (.ireturn, 1) := by decide +kernel
set_option maxRecDepth 20000 in
theorem ggX4_credits_X4_needCall : GoodIn wsX4_credits wsX4_needCall := goodIn_ca (goodIn_r _ [6, 7, 8, 9, 10, 11, 12, 13, 14, 15, 16, 17, 18, 19, 20, 29, 30, 31, 32] (by decide +kernel) (by decide +kernel)) (goodIn_sub (fun _ h => List.mem_cons_of_mem _ (List.mem_append_right _ h)) (by decide +kernel))
set_option maxRecDepth 20000 in
theorem gX4_credits_X4_needCall : GoodIn wsX4_credits (wsV RX4 42 RX4 yX4_needCall wsX4_needCall) := goodIn_app (goodIn_of _ (by decide +kernel)) ggX4_credits_X4_needCall
theorem dX4_credits_0 : decode cX4_credits 0 = .ok (.aload_n 0, 1) := by decide +kernel
theorem dX4_credits_1 : decode cX4_credits 1 = .ok (.iload_n 1, 1) := by decide +kernel
theorem dX4_credits_2 : decode cX4_credits 2 = .ok (.invokevirtual 42, 3) := by decide +kernel
theorem dX4_credits_5 : decode cX4_credits 5 = .ok (.aload_n 0, 1) := by decide +kernel
theorem dX4_credits_6 : decode cX4_credits 6 = .ok (.getfield 38, 3) := by decide +kernel
theorem dX4_credits_9 : decode cX4_credits 9 = .ok (.getfield 137, 3) := by decide +kernel
theorem dX4_credits_12 : decode cX4_credits 12 = .ok (.iload_n 1, 1) := by decide +kernel
theorem dX4_credits_13 : decode cX4_credits 13 = .ok (.iaload, 1) := by decide +kernel
theorem dX4_credits_14 : decode cX4_credits 14 = .ok (.ireturn, 1) := by decide +kernel
theorem dX4_total_0 : decode cX4_total 0 = .ok (.aload_n 0, 1) := by decide +kernel
theorem dX4_total_1 : decode cX4_total 1 = .ok (.getfield 38, 3) := by decide +kernel
theorem dX4_total_4 : decode cX4_total 4 = .ok (.getfield 145, 3) := by decide +kernel
theorem dX4_total_7 : decode cX4_total 7 = .ok (.ireturn, 1) := by decide +kernel
set_option maxRecDepth 20000 in
theorem ggX4_local_X4_needMethodAndArgument : GoodIn wsX4_local wsX4_needMethodAndArgument := goodIn_ca (goodIn_r _ [7, 8, 9] (by decide +kernel) (by decide +kernel)) (goodIn_sub (fun _ h => List.mem_cons_of_mem _ (List.mem_append_right _ h)) (by decide +kernel))
set_option maxRecDepth 20000 in
theorem gX4_local_X4_needMethodAndArgument : GoodIn wsX4_local (va_wsS RX4 46 yX4_needMethodAndArgument wsX4_needMethodAndArgument) := goodIn_app (goodIn_of _ (by decide +kernel)) ggX4_local_X4_needMethodAndArgument
set_option maxRecDepth 20000 in
theorem ggX4_local_X3_answerOf : GoodIn wsX4_local wsX3_answerOf := goodIn_r _ [13, 14, 15, 16, 17, 18, 25, 26, 27, 28, 29, 30, 31, 32] (by decide +kernel) (by decide +kernel)
set_option maxRecDepth 20000 in
theorem gX4_local_X3_answerOf_n150 : GoodIn wsX4_local (wsX3_answerOf) := ggX4_local_X3_answerOf
theorem dX4_local_0 : decode cX4_local 0 = .ok (.iload_n 1, 1) := by decide +kernel
theorem dX4_local_1 : decode cX4_local 1 = .ok (.iload_n 2, 1) := by decide +kernel
theorem dX4_local_2 : decode cX4_local 2 = .ok (.invokestatic 46, 3) := by decide +kernel
theorem dX4_local_5 : decode cX4_local 5 = .ok (.iload_n 1, 1) := by decide +kernel
theorem dX4_local_6 : decode cX4_local 6 = .ok (.iconst 2, 1) := by decide +kernel
theorem dX4_local_7 : decode cX4_local 7 = .ok (.if_icmp .ne 13, 3) := by decide +kernel
theorem dX4_local_10 : decode cX4_local 10 = .ok (.new 64, 3) := by decide +kernel
theorem dX4_local_13 : decode cX4_local 13 = .ok (.dup, 1) := by decide +kernel
theorem dX4_local_14 : decode cX4_local 14 = .ok (.ldc 148, 2) := by decide +kernel
theorem dX4_local_16 : decode cX4_local 16 = .ok (.invokespecial 68, 3) := by decide +kernel
theorem dX4_local_19 : decode cX4_local 19 = .ok (.athrow, 1) := by decide +kernel
theorem dX4_local_20 : decode cX4_local 20 = .ok (.aload_n 0, 1) := by decide +kernel
theorem dX4_local_21 : decode cX4_local 21 = .ok (.getfield 38, 3) := by decide +kernel
theorem dX4_local_24 : decode cX4_local 24 = .ok (.iload_n 1, 1) := by decide +kernel
theorem dX4_local_25 : decode cX4_local 25 = .ok (.iload_n 2, 1) := by decide +kernel
theorem dX4_local_26 : decode cX4_local 26 = .ok (.invokevirtual 150, 3) := by decide +kernel
theorem dX4_local_29 : decode cX4_local 29 = .ok (.ireturn, 1) := by decide +kernel
set_option maxRecDepth 20000 in
theorem ggX4_deliver_X4_needDirection : GoodIn wsX4_deliver wsX4_needDirection := goodIn_ca (goodIn_r _ [8, 9, 10] (by decide +kernel) (by decide +kernel)) (goodIn_sub (fun _ h => List.mem_cons_of_mem _ (List.mem_append_left _ (List.mem_append_right _ h))) (by decide +kernel))
set_option maxRecDepth 20000 in
theorem gX4_deliver_X4_needDirection : GoodIn wsX4_deliver (va_wsS RX4 153 yX4_needDirection wsX4_needDirection) := goodIn_app (goodIn_of _ (by decide +kernel)) ggX4_deliver_X4_needDirection
set_option maxRecDepth 20000 in
theorem ggX4_deliver_X4_laneOf : GoodIn wsX4_deliver wsX4_laneOf := goodIn_r _ [14, 15, 16, 123, 124, 125, 126, 127, 128] (by decide +kernel) (by decide +kernel)
set_option maxRecDepth 20000 in
theorem gX4_deliver_X4_laneOf : GoodIn wsX4_deliver (wsV RX4 156 RX4 yX4_laneOf wsX4_laneOf) := goodIn_app (goodIn_of _ (by decide +kernel)) ggX4_deliver_X4_laneOf
set_option maxRecDepth 20000 in
theorem ggX4_deliver_X4_needAnyFrame : GoodIn wsX4_deliver wsX4_needAnyFrame := goodIn_ca (goodIn_r _ [19, 20, 21, 22, 23, 24, 25, 26, 117, 118, 119, 120, 121, 122] (by decide +kernel) (by decide +kernel)) (goodIn_sub (fun _ h => List.mem_cons_of_mem _ (List.mem_append_right _ h)) (by decide +kernel))
set_option maxRecDepth 20000 in
theorem gX4_deliver_X4_needAnyFrame : GoodIn wsX4_deliver (va_wsS RX4 160 yX4_needAnyFrame wsX4_needAnyFrame) := goodIn_app (goodIn_of _ (by decide +kernel)) ggX4_deliver_X4_needAnyFrame
set_option maxRecDepth 20000 in
theorem ggX4_deliver_X2_slotOf : GoodIn wsX4_deliver wsX2_slotOf := goodIn_r _ [29, 30, 31, 32, 33, 34, 117, 118, 119, 120, 121, 122] (by decide +kernel) (by decide +kernel)
set_option maxRecDepth 20000 in
theorem gX4_deliver_X2_slotOf_n164 : GoodIn wsX4_deliver (wsX2_slotOf) := ggX4_deliver_X2_slotOf
set_option maxRecDepth 20000 in
theorem ggX4_deliver_X2_removeFirst : GoodIn wsX4_deliver wsX2_removeFirst := goodIn_r _ [37, 30, 26, 38, 27, 28, 23, 29, 31, 32, 33, 34, 117, 118, 119, 120, 121, 122] (by decide +kernel) (by decide +kernel)
set_option maxRecDepth 20000 in
theorem gX4_deliver_X2_removeFirst_n178 : GoodIn wsX4_deliver (wsX2_removeFirst) := ggX4_deliver_X2_removeFirst
set_option maxRecDepth 20000 in
theorem ggX4_deliver_X0_has : GoodIn wsX4_deliver wsX0_has := goodIn_r _ [42, 43, 129, 130, 131, 132] (by decide +kernel) (by decide +kernel)
set_option maxRecDepth 20000 in
theorem gX4_deliver_X0_has_n181 : GoodIn wsX4_deliver (wsX0_has) := ggX4_deliver_X0_has
set_option maxRecDepth 20000 in
theorem ggX4_deliver_X3_take : GoodIn wsX4_deliver wsX3_take := goodIn_r _ [47, 48, 49, 50, 51, 52, 45, 53, 54, 55, 56, 57, 58, 59, 60, 61, 62, 23, 63, 64, 26, 65, 66, 67, 68, 38, 27, 28, 29, 30, 31, 32, 33, 34, 69, 40, 70, 71, 72, 73, 74, 75, 76, 133, 134, 135, 136, 137, 138, 139, 140, 117, 118, 119, 120, 121, 122, 129, 130, 131, 132] (by decide +kernel) (by decide +kernel)
set_option maxRecDepth 20000 in
theorem gX4_deliver_X3_take_n184 : GoodIn wsX4_deliver (wsX3_take) := ggX4_deliver_X3_take
set_option maxRecDepth 20000 in
theorem ggX4_deliver_X1_take : GoodIn wsX4_deliver wsX1_take := goodIn_r _ [80, 81, 82, 83, 84, 78, 85, 86, 87, 88, 89, 90, 91, 92, 93, 94, 95, 96, 97, 98, 99, 100, 101, 102, 103, 104, 105, 106, 107, 39, 40, 41, 42, 43, 62, 23, 63, 64, 26, 65, 66, 67, 68, 38, 27, 28, 29, 30, 31, 32, 33, 34, 108, 109, 110, 111, 112, 113, 114, 115, 116, 141, 142, 143, 144, 145, 146, 147, 148, 149, 150, 129, 130, 131, 132, 117, 118, 119, 120, 121, 122] (by decide +kernel) (by decide +kernel)
set_option maxRecDepth 20000 in
theorem gX4_deliver_X1_take_n187 : GoodIn wsX4_deliver (wsX1_take) := ggX4_deliver_X1_take
theorem dX4_deliver_0 : decode cX4_deliver 0 = .ok (.iload_n 1, 1) := by decide +kernel
theorem dX4_deliver_1 : decode cX4_deliver 1 = .ok (.invokestatic 153, 3) := by decide +kernel
theorem dX4_deliver_4 : decode cX4_deliver 4 = .ok (.aload_n 0, 1) := by decide +kernel
theorem dX4_deliver_5 : decode cX4_deliver 5 = .ok (.iload_n 1, 1) := by decide +kernel
theorem dX4_deliver_6 : decode cX4_deliver 6 = .ok (.invokevirtual 156, 3) := by decide +kernel
theorem dX4_deliver_9 : decode cX4_deliver 9 = .ok (.astore_n 2, 1) := by decide +kernel
theorem dX4_deliver_10 : decode cX4_deliver 10 = .ok (.aload_n 2, 1) := by decide +kernel
theorem dX4_deliver_11 : decode cX4_deliver 11 = .ok (.invokestatic 160, 3) := by decide +kernel
theorem dX4_deliver_14 : decode cX4_deliver 14 = .ok (.aload_n 2, 1) := by decide +kernel
theorem dX4_deliver_15 : decode cX4_deliver 15 = .ok (.iconst 0, 1) := by decide +kernel
theorem dX4_deliver_16 : decode cX4_deliver 16 = .ok (.invokevirtual 164, 3) := by decide +kernel
theorem dX4_deliver_19 : decode cX4_deliver 19 = .ok (.istore_n 3, 1) := by decide +kernel
theorem dX4_deliver_20 : decode cX4_deliver 20 = .ok (.aload_n 2, 1) := by decide +kernel
theorem dX4_deliver_21 : decode cX4_deliver 21 = .ok (.getfield 168, 3) := by decide +kernel
theorem dX4_deliver_24 : decode cX4_deliver 24 = .ok (.iload_n 3, 1) := by decide +kernel
theorem dX4_deliver_25 : decode cX4_deliver 25 = .ok (.iaload, 1) := by decide +kernel
theorem dX4_deliver_26 : decode cX4_deliver 26 = .ok (.istore 4, 2) := by decide +kernel
theorem dX4_deliver_28 : decode cX4_deliver 28 = .ok (.aload_n 2, 1) := by decide +kernel
theorem dX4_deliver_29 : decode cX4_deliver 29 = .ok (.getfield 171, 3) := by decide +kernel
theorem dX4_deliver_32 : decode cX4_deliver 32 = .ok (.iload_n 3, 1) := by decide +kernel
theorem dX4_deliver_33 : decode cX4_deliver 33 = .ok (.iaload, 1) := by decide +kernel
theorem dX4_deliver_34 : decode cX4_deliver 34 = .ok (.istore 5, 2) := by decide +kernel
theorem dX4_deliver_36 : decode cX4_deliver 36 = .ok (.aload_n 2, 1) := by decide +kernel
theorem dX4_deliver_37 : decode cX4_deliver 37 = .ok (.getfield 174, 3) := by decide +kernel
theorem dX4_deliver_40 : decode cX4_deliver 40 = .ok (.iload_n 3, 1) := by decide +kernel
theorem dX4_deliver_41 : decode cX4_deliver 41 = .ok (.iaload, 1) := by decide +kernel
theorem dX4_deliver_42 : decode cX4_deliver 42 = .ok (.istore 6, 2) := by decide +kernel
theorem dX4_deliver_44 : decode cX4_deliver 44 = .ok (.aload_n 2, 1) := by decide +kernel
theorem dX4_deliver_45 : decode cX4_deliver 45 = .ok (.getfield 177, 3) := by decide +kernel
theorem dX4_deliver_48 : decode cX4_deliver 48 = .ok (.iload_n 3, 1) := by decide +kernel
theorem dX4_deliver_49 : decode cX4_deliver 49 = .ok (.iaload, 1) := by decide +kernel
theorem dX4_deliver_50 : decode cX4_deliver 50 = .ok (.istore 7, 2) := by decide +kernel
theorem dX4_deliver_52 : decode cX4_deliver 52 = .ok (.aload_n 2, 1) := by decide +kernel
theorem dX4_deliver_53 : decode cX4_deliver 53 = .ok (.invokevirtual 178, 3) := by decide +kernel
theorem dX4_deliver_56 : decode cX4_deliver 56 = .ok (.aload_n 0, 1) := by decide +kernel
theorem dX4_deliver_57 : decode cX4_deliver 57 = .ok (.getfield 10, 3) := by decide +kernel
theorem dX4_deliver_60 : decode cX4_deliver 60 = .ok (.iload 5, 2) := by decide +kernel
theorem dX4_deliver_62 : decode cX4_deliver 62 = .ok (.invokevirtual 181, 3) := by decide +kernel
theorem dX4_deliver_65 : decode cX4_deliver 65 = .ok (.ifCond .ne 6, 3) := by decide +kernel
theorem dX4_deliver_68 : decode cX4_deliver 68 = .ok (.iload 5, 2) := by decide +kernel
theorem dX4_deliver_70 : decode cX4_deliver 70 = .ok (.ireturn, 1) := by decide +kernel
theorem dX4_deliver_71 : decode cX4_deliver 71 = .ok (.iload_n 1, 1) := by decide +kernel
theorem dX4_deliver_72 : decode cX4_deliver 72 = .ok (.ifCond .ne 23, 3) := by decide +kernel
theorem dX4_deliver_75 : decode cX4_deliver 75 = .ok (.aload_n 0, 1) := by decide +kernel
theorem dX4_deliver_76 : decode cX4_deliver 76 = .ok (.getfield 38, 3) := by decide +kernel
theorem dX4_deliver_79 : decode cX4_deliver 79 = .ok (.iload 4, 2) := by decide +kernel
theorem dX4_deliver_81 : decode cX4_deliver 81 = .ok (.iload 5, 2) := by decide +kernel
theorem dX4_deliver_83 : decode cX4_deliver 83 = .ok (.iload 7, 2) := by decide +kernel
theorem dX4_deliver_85 : decode cX4_deliver 85 = .ok (.aload_n 0, 1) := by decide +kernel
theorem dX4_deliver_86 : decode cX4_deliver 86 = .ok (.getfield 69, 3) := by decide +kernel
theorem dX4_deliver_89 : decode cX4_deliver 89 = .ok (.invokevirtual 184, 3) := by decide +kernel
theorem dX4_deliver_92 : decode cX4_deliver 92 = .ok (.goto 18, 3) := by decide +kernel
theorem dX4_deliver_95 : decode cX4_deliver 95 = .ok (.aload_n 0, 1) := by decide +kernel
theorem dX4_deliver_96 : decode cX4_deliver 96 = .ok (.getfield 31, 3) := by decide +kernel
theorem dX4_deliver_99 : decode cX4_deliver 99 = .ok (.iload 4, 2) := by decide +kernel
theorem dX4_deliver_101 : decode cX4_deliver 101 = .ok (.iload 5, 2) := by decide +kernel
theorem dX4_deliver_103 : decode cX4_deliver 103 = .ok (.iload 6, 2) := by decide +kernel
theorem dX4_deliver_105 : decode cX4_deliver 105 = .ok (.iload 7, 2) := by decide +kernel
theorem dX4_deliver_107 : decode cX4_deliver 107 = .ok (.invokevirtual 187, 3) := by decide +kernel
theorem dX4_deliver_110 : decode cX4_deliver 110 = .ok (.iload 5, 2) := by decide +kernel
theorem dX4_deliver_112 : decode cX4_deliver 112 = .ok (.ireturn, 1) := by decide +kernel
set_option maxRecDepth 20000 in
theorem ggX4_lose_X4_needDirection : GoodIn wsX4_lose wsX4_needDirection := goodIn_ca (goodIn_r _ [4, 5, 6] (by decide +kernel) (by decide +kernel)) (goodIn_sub (fun _ h => List.mem_cons_of_mem _ (List.mem_append_left _ (List.mem_append_right _ h))) (by decide +kernel))
set_option maxRecDepth 20000 in
theorem gX4_lose_X4_needDirection : GoodIn wsX4_lose (va_wsS RX4 153 yX4_needDirection wsX4_needDirection) := goodIn_app (goodIn_of _ (by decide +kernel)) ggX4_lose_X4_needDirection
set_option maxRecDepth 20000 in
theorem ggX4_lose_X4_laneOf : GoodIn wsX4_lose wsX4_laneOf := goodIn_r _ [10, 11, 12, 41, 42, 43, 44, 45, 46] (by decide +kernel) (by decide +kernel)
set_option maxRecDepth 20000 in
theorem gX4_lose_X4_laneOf : GoodIn wsX4_lose (wsV RX4 156 RX4 yX4_laneOf wsX4_laneOf) := goodIn_app (goodIn_of _ (by decide +kernel)) ggX4_lose_X4_laneOf
set_option maxRecDepth 20000 in
theorem ggX4_lose_X4_needAnyFrame : GoodIn wsX4_lose wsX4_needAnyFrame := goodIn_ca (goodIn_r _ [15, 16, 17, 18, 19, 20, 21, 22, 35, 36, 37, 38, 39, 40] (by decide +kernel) (by decide +kernel)) (goodIn_sub (fun _ h => List.mem_cons_of_mem _ (List.mem_append_right _ h)) (by decide +kernel))
set_option maxRecDepth 20000 in
theorem gX4_lose_X4_needAnyFrame : GoodIn wsX4_lose (va_wsS RX4 160 yX4_needAnyFrame wsX4_needAnyFrame) := goodIn_app (goodIn_of _ (by decide +kernel)) ggX4_lose_X4_needAnyFrame
set_option maxRecDepth 20000 in
theorem ggX4_lose_X2_slotOf : GoodIn wsX4_lose wsX2_slotOf := goodIn_r _ [25, 26, 27, 28, 29, 30, 35, 36, 37, 38, 39, 40] (by decide +kernel) (by decide +kernel)
set_option maxRecDepth 20000 in
theorem gX4_lose_X2_slotOf_n164 : GoodIn wsX4_lose (wsX2_slotOf) := ggX4_lose_X2_slotOf
set_option maxRecDepth 20000 in
theorem ggX4_lose_X2_removeFirst : GoodIn wsX4_lose wsX2_removeFirst := goodIn_r _ [33, 26, 22, 34, 23, 24, 19, 25, 27, 28, 29, 30, 35, 36, 37, 38, 39, 40] (by decide +kernel) (by decide +kernel)
set_option maxRecDepth 20000 in
theorem gX4_lose_X2_removeFirst_n178 : GoodIn wsX4_lose (wsX2_removeFirst) := ggX4_lose_X2_removeFirst
theorem dX4_lose_0 : decode cX4_lose 0 = .ok (.iload_n 1, 1) := by decide +kernel
theorem dX4_lose_1 : decode cX4_lose 1 = .ok (.invokestatic 153, 3) := by decide +kernel
theorem dX4_lose_4 : decode cX4_lose 4 = .ok (.aload_n 0, 1) := by decide +kernel
theorem dX4_lose_5 : decode cX4_lose 5 = .ok (.iload_n 1, 1) := by decide +kernel
theorem dX4_lose_6 : decode cX4_lose 6 = .ok (.invokevirtual 156, 3) := by decide +kernel
theorem dX4_lose_9 : decode cX4_lose 9 = .ok (.astore_n 2, 1) := by decide +kernel
theorem dX4_lose_10 : decode cX4_lose 10 = .ok (.aload_n 2, 1) := by decide +kernel
theorem dX4_lose_11 : decode cX4_lose 11 = .ok (.invokestatic 160, 3) := by decide +kernel
theorem dX4_lose_14 : decode cX4_lose 14 = .ok (.aload_n 2, 1) := by decide +kernel
theorem dX4_lose_15 : decode cX4_lose 15 = .ok (.getfield 171, 3) := by decide +kernel
theorem dX4_lose_18 : decode cX4_lose 18 = .ok (.aload_n 2, 1) := by decide +kernel
theorem dX4_lose_19 : decode cX4_lose 19 = .ok (.iconst 0, 1) := by decide +kernel
theorem dX4_lose_20 : decode cX4_lose 20 = .ok (.invokevirtual 164, 3) := by decide +kernel
theorem dX4_lose_23 : decode cX4_lose 23 = .ok (.iaload, 1) := by decide +kernel
theorem dX4_lose_24 : decode cX4_lose 24 = .ok (.istore_n 3, 1) := by decide +kernel
theorem dX4_lose_25 : decode cX4_lose 25 = .ok (.aload_n 2, 1) := by decide +kernel
theorem dX4_lose_26 : decode cX4_lose 26 = .ok (.invokevirtual 178, 3) := by decide +kernel
theorem dX4_lose_29 : decode cX4_lose 29 = .ok (.iload_n 3, 1) := by decide +kernel
theorem dX4_lose_30 : decode cX4_lose 30 = .ok (.ireturn, 1) := by decide +kernel
set_option maxRecDepth 20000 in
theorem ggX4_frames_X4_needDirection : GoodIn wsX4_frames wsX4_needDirection := goodIn_ca (goodIn_r _ [4, 5, 6] (by decide +kernel) (by decide +kernel)) (goodIn_sub (fun _ h => List.mem_cons_of_mem _ (List.mem_append_right _ h)) (by decide +kernel))
set_option maxRecDepth 20000 in
theorem gX4_frames_X4_needDirection : GoodIn wsX4_frames (va_wsS RX4 153 yX4_needDirection wsX4_needDirection) := goodIn_app (goodIn_of _ (by decide +kernel)) ggX4_frames_X4_needDirection
set_option maxRecDepth 20000 in
theorem ggX4_frames_X4_laneOf : GoodIn wsX4_frames wsX4_laneOf := goodIn_r _ [10, 11, 12, 19, 20, 21, 22, 23, 24] (by decide +kernel) (by decide +kernel)
set_option maxRecDepth 20000 in
theorem gX4_frames_X4_laneOf : GoodIn wsX4_frames (wsV RX4 156 RX4 yX4_laneOf wsX4_laneOf) := goodIn_app (goodIn_of _ (by decide +kernel)) ggX4_frames_X4_laneOf
theorem dX4_frames_0 : decode cX4_frames 0 = .ok (.iload_n 1, 1) := by decide +kernel
theorem dX4_frames_1 : decode cX4_frames 1 = .ok (.invokestatic 153, 3) := by decide +kernel
theorem dX4_frames_4 : decode cX4_frames 4 = .ok (.aload_n 0, 1) := by decide +kernel
theorem dX4_frames_5 : decode cX4_frames 5 = .ok (.iload_n 1, 1) := by decide +kernel
theorem dX4_frames_6 : decode cX4_frames 6 = .ok (.invokevirtual 156, 3) := by decide +kernel
theorem dX4_frames_9 : decode cX4_frames 9 = .ok (.getfield 188, 3) := by decide +kernel
theorem dX4_frames_12 : decode cX4_frames 12 = .ok (.ireturn, 1) := by decide +kernel
set_option maxRecDepth 20000 in
theorem ggX4_pass_X1_endDueCalls : GoodIn wsX4_pass wsX1_endDueCalls := goodIn_r _ [9, 10, 11, 12, 13, 14, 15, 16, 17, 18, 19, 7, 20, 21, 22, 23, 24, 25, 26, 27, 28, 29, 30, 31, 32, 33, 34, 35, 36, 37, 38, 39, 40, 41, 42, 43, 44, 45, 46, 47, 48, 49, 50, 51, 52, 80, 81, 82, 83, 84, 85, 86, 87, 88, 89, 90, 91, 92, 93, 94, 95, 96, 97, 98, 99] (by decide +kernel) (by decide +kernel)
set_option maxRecDepth 20000 in
theorem gX4_pass_X1_endDueCalls_n195 : GoodIn wsX4_pass (wsX1_endDueCalls) := ggX4_pass_X1_endDueCalls
set_option maxRecDepth 20000 in
theorem ggX4_pass_X3_closeDueTasks : GoodIn wsX4_pass wsX3_closeDueTasks := goodIn_r _ [56, 57, 58, 12, 13, 14, 15, 16, 100, 101, 102, 103, 104, 105, 106, 107, 90, 91, 92, 93] (by decide +kernel) (by decide +kernel)
set_option maxRecDepth 20000 in
theorem gX4_pass_X3_closeDueTasks_n198 : GoodIn wsX4_pass (wsX3_closeDueTasks) := ggX4_pass_X3_closeDueTasks
set_option maxRecDepth 20000 in
theorem ggX4_pass_X1_repeatRequests : GoodIn wsX4_pass wsX1_repeatRequests := goodIn_r _ [61, 10, 62, 63, 64, 65, 7, 66, 11, 67, 68, 69, 70, 71, 72, 73, 25, 35, 36, 37, 38, 39, 40, 41, 42, 43, 44, 45, 46, 47, 48, 49, 50, 51, 52, 80, 81, 82, 83, 84, 85, 86, 87, 88, 89, 90, 91, 92, 93, 94, 95, 96, 97, 98, 99] (by decide +kernel) (by decide +kernel)
set_option maxRecDepth 20000 in
theorem gX4_pass_X1_repeatRequests_n201 : GoodIn wsX4_pass (wsX1_repeatRequests) := ggX4_pass_X1_repeatRequests
theorem dX4_pass_0 : decode cX4_pass 0 = .ok (.iload_n 1, 1) := by decide +kernel
theorem dX4_pass_1 : decode cX4_pass 1 = .ok (.iconst 1, 1) := by decide +kernel
theorem dX4_pass_2 : decode cX4_pass 2 = .ok (.if_icmp .lt 10, 3) := by decide +kernel
theorem dX4_pass_5 : decode cX4_pass 5 = .ok (.iload_n 1, 1) := by decide +kernel
theorem dX4_pass_6 : decode cX4_pass 6 = .ok (.sipush 200, 3) := by decide +kernel
theorem dX4_pass_9 : decode cX4_pass 9 = .ok (.if_icmp .le 13, 3) := by decide +kernel
theorem dX4_pass_12 : decode cX4_pass 12 = .ok (.new 50, 3) := by decide +kernel
theorem dX4_pass_15 : decode cX4_pass 15 = .ok (.dup, 1) := by decide +kernel
theorem dX4_pass_16 : decode cX4_pass 16 = .ok (.ldc 193, 2) := by decide +kernel
theorem dX4_pass_18 : decode cX4_pass 18 = .ok (.invokespecial 54, 3) := by decide +kernel
theorem dX4_pass_21 : decode cX4_pass 21 = .ok (.athrow, 1) := by decide +kernel
theorem dX4_pass_22 : decode cX4_pass 22 = .ok (.iconst 0, 1) := by decide +kernel
theorem dX4_pass_23 : decode cX4_pass 23 = .ok (.istore_n 2, 1) := by decide +kernel
theorem dX4_pass_24 : decode cX4_pass 24 = .ok (.iconst 0, 1) := by decide +kernel
theorem dX4_pass_25 : decode cX4_pass 25 = .ok (.istore_n 3, 1) := by decide +kernel
theorem dX4_pass_26 : decode cX4_pass 26 = .ok (.iload_n 3, 1) := by decide +kernel
theorem dX4_pass_27 : decode cX4_pass 27 = .ok (.iload_n 1, 1) := by decide +kernel
theorem dX4_pass_28 : decode cX4_pass 28 = .ok (.if_icmp .ge 55, 3) := by decide +kernel
theorem dX4_pass_31 : decode cX4_pass 31 = .ok (.aload_n 0, 1) := by decide +kernel
theorem dX4_pass_32 : decode cX4_pass 32 = .ok (.dup, 1) := by decide +kernel
theorem dX4_pass_33 : decode cX4_pass 33 = .ok (.getfield 69, 3) := by decide +kernel
theorem dX4_pass_36 : decode cX4_pass 36 = .ok (.iconst 1, 1) := by decide +kernel
theorem dX4_pass_37 : decode cX4_pass 37 = .ok (.iadd, 1) := by decide +kernel
theorem dX4_pass_38 : decode cX4_pass 38 = .ok (.putfield 69, 3) := by decide +kernel
theorem dX4_pass_41 : decode cX4_pass 41 = .ok (.iload_n 2, 1) := by decide +kernel
theorem dX4_pass_42 : decode cX4_pass 42 = .ok (.aload_n 0, 1) := by decide +kernel
theorem dX4_pass_43 : decode cX4_pass 43 = .ok (.getfield 31, 3) := by decide +kernel
theorem dX4_pass_46 : decode cX4_pass 46 = .ok (.aload_n 0, 1) := by decide +kernel
theorem dX4_pass_47 : decode cX4_pass 47 = .ok (.getfield 69, 3) := by decide +kernel
theorem dX4_pass_50 : decode cX4_pass 50 = .ok (.invokevirtual 195, 3) := by decide +kernel
theorem dX4_pass_53 : decode cX4_pass 53 = .ok (.iadd, 1) := by decide +kernel
theorem dX4_pass_54 : decode cX4_pass 54 = .ok (.istore_n 2, 1) := by decide +kernel
theorem dX4_pass_55 : decode cX4_pass 55 = .ok (.aload_n 0, 1) := by decide +kernel
theorem dX4_pass_56 : decode cX4_pass 56 = .ok (.getfield 38, 3) := by decide +kernel
theorem dX4_pass_59 : decode cX4_pass 59 = .ok (.aload_n 0, 1) := by decide +kernel
theorem dX4_pass_60 : decode cX4_pass 60 = .ok (.getfield 69, 3) := by decide +kernel
theorem dX4_pass_63 : decode cX4_pass 63 = .ok (.invokevirtual 198, 3) := by decide +kernel
theorem dX4_pass_66 : decode cX4_pass 66 = .ok (.aload_n 0, 1) := by decide +kernel
theorem dX4_pass_67 : decode cX4_pass 67 = .ok (.getfield 31, 3) := by decide +kernel
theorem dX4_pass_70 : decode cX4_pass 70 = .ok (.aload_n 0, 1) := by decide +kernel
theorem dX4_pass_71 : decode cX4_pass 71 = .ok (.getfield 69, 3) := by decide +kernel
theorem dX4_pass_74 : decode cX4_pass 74 = .ok (.invokevirtual 201, 3) := by decide +kernel
theorem dX4_pass_77 : decode cX4_pass 77 = .ok (.iinc 3 1, 3) := by decide +kernel
theorem dX4_pass_80 : decode cX4_pass 80 = .ok (.goto (-54), 3) := by decide +kernel
theorem dX4_pass_83 : decode cX4_pass 83 = .ok (.iload_n 2, 1) := by decide +kernel
theorem dX4_pass_84 : decode cX4_pass 84 = .ok (.ireturn, 1) := by decide +kernel
theorem dX4_now_0 : decode cX4_now 0 = .ok (.aload_n 0, 1) := by decide +kernel
theorem dX4_now_1 : decode cX4_now 1 = .ok (.getfield 69, 3) := by decide +kernel
theorem dX4_now_4 : decode cX4_now 4 = .ok (.ireturn, 1) := by decide +kernel
theorem dX4_laneOf_0 : decode cX4_laneOf 0 = .ok (.iload_n 1, 1) := by decide +kernel
theorem dX4_laneOf_1 : decode cX4_laneOf 1 = .ok (.ifCond .ne 10, 3) := by decide +kernel
theorem dX4_laneOf_4 : decode cX4_laneOf 4 = .ok (.aload_n 0, 1) := by decide +kernel
theorem dX4_laneOf_5 : decode cX4_laneOf 5 = .ok (.getfield 19, 3) := by decide +kernel
theorem dX4_laneOf_8 : decode cX4_laneOf 8 = .ok (.goto 7, 3) := by decide +kernel
theorem dX4_laneOf_11 : decode cX4_laneOf 11 = .ok (.aload_n 0, 1) := by decide +kernel
theorem dX4_laneOf_12 : decode cX4_laneOf 12 = .ok (.getfield 23, 3) := by decide +kernel
theorem dX4_laneOf_15 : decode cX4_laneOf 15 = .ok (.areturn, 1) := by decide +kernel
set_option maxRecDepth 20000 in
theorem ggX4_needCall_X0_has : GoodIn wsX4_needCall wsX0_has := goodIn_r _ [7, 8, 15, 16, 17, 18] (by decide +kernel) (by decide +kernel)
set_option maxRecDepth 20000 in
theorem gX4_needCall_X0_has_n181 : GoodIn wsX4_needCall (wsX0_has) := ggX4_needCall_X0_has
theorem dX4_needCall_0 : decode cX4_needCall 0 = .ok (.aload_n 0, 1) := by decide +kernel
theorem dX4_needCall_1 : decode cX4_needCall 1 = .ok (.getfield 10, 3) := by decide +kernel
theorem dX4_needCall_4 : decode cX4_needCall 4 = .ok (.iload_n 1, 1) := by decide +kernel
theorem dX4_needCall_5 : decode cX4_needCall 5 = .ok (.invokevirtual 181, 3) := by decide +kernel
theorem dX4_needCall_8 : decode cX4_needCall 8 = .ok (.ifCond .ne 13, 3) := by decide +kernel
theorem dX4_needCall_11 : decode cX4_needCall 11 = .ok (.new 204, 3) := by decide +kernel
theorem dX4_needCall_14 : decode cX4_needCall 14 = .ok (.dup, 1) := by decide +kernel
theorem dX4_needCall_15 : decode cX4_needCall 15 = .ok (.ldc 206, 2) := by decide +kernel
theorem dX4_needCall_17 : decode cX4_needCall 17 = .ok (.invokespecial 208, 3) := by decide +kernel
theorem dX4_needCall_20 : decode cX4_needCall 20 = .ok (.athrow, 1) := by decide +kernel
theorem dX4_needCall_21 : decode cX4_needCall 21 = .ok (.return_, 1) := by decide +kernel
theorem dX4_needOpenCall_0 : decode cX4_needOpenCall 0 = .ok (.aload_n 0, 1) := by decide +kernel
theorem dX4_needOpenCall_1 : decode cX4_needOpenCall 1 = .ok (.getfield 31, 3) := by decide +kernel
theorem dX4_needOpenCall_4 : decode cX4_needOpenCall 4 = .ok (.getfield 108, 3) := by decide +kernel
theorem dX4_needOpenCall_7 : decode cX4_needOpenCall 7 = .ok (.iload_n 1, 1) := by decide +kernel
theorem dX4_needOpenCall_8 : decode cX4_needOpenCall 8 = .ok (.iaload, 1) := by decide +kernel
theorem dX4_needOpenCall_9 : decode cX4_needOpenCall 9 = .ok (.iconst (-1), 1) := by decide +kernel
theorem dX4_needOpenCall_10 : decode cX4_needOpenCall 10 = .ok (.if_icmp .eq 13, 3) := by decide +kernel
theorem dX4_needOpenCall_13 : decode cX4_needOpenCall 13 = .ok (.new 64, 3) := by decide +kernel
theorem dX4_needOpenCall_16 : decode cX4_needOpenCall 16 = .ok (.dup, 1) := by decide +kernel
theorem dX4_needOpenCall_17 : decode cX4_needOpenCall 17 = .ok (.ldc 209, 2) := by decide +kernel
theorem dX4_needOpenCall_19 : decode cX4_needOpenCall 19 = .ok (.invokespecial 68, 3) := by decide +kernel
theorem dX4_needOpenCall_22 : decode cX4_needOpenCall 22 = .ok (.athrow, 1) := by decide +kernel
theorem dX4_needOpenCall_23 : decode cX4_needOpenCall 23 = .ok (.return_, 1) := by decide +kernel
theorem dX4_needMethodAndArgument_0 : decode cX4_needMethodAndArgument 0 = .ok (.iload_n 0, 1) := by decide +kernel
theorem dX4_needMethodAndArgument_1 : decode cX4_needMethodAndArgument 1 = .ok (.ifCond .lt 8, 3) := by decide +kernel
theorem dX4_needMethodAndArgument_4 : decode cX4_needMethodAndArgument 4 = .ok (.iload_n 0, 1) := by decide +kernel
theorem dX4_needMethodAndArgument_5 : decode cX4_needMethodAndArgument 5 = .ok (.iconst 3, 1) := by decide +kernel
theorem dX4_needMethodAndArgument_6 : decode cX4_needMethodAndArgument 6 = .ok (.if_icmp .le 13, 3) := by decide +kernel
theorem dX4_needMethodAndArgument_9 : decode cX4_needMethodAndArgument 9 = .ok (.new 50, 3) := by decide +kernel
theorem dX4_needMethodAndArgument_12 : decode cX4_needMethodAndArgument 12 = .ok (.dup, 1) := by decide +kernel
theorem dX4_needMethodAndArgument_13 : decode cX4_needMethodAndArgument 13 = .ok (.ldc 211, 2) := by decide +kernel
theorem dX4_needMethodAndArgument_15 : decode cX4_needMethodAndArgument 15 = .ok (.invokespecial 54, 3) := by decide +kernel
theorem dX4_needMethodAndArgument_18 : decode cX4_needMethodAndArgument 18 = .ok (.athrow, 1) := by decide +kernel
theorem dX4_needMethodAndArgument_19 : decode cX4_needMethodAndArgument 19 = .ok (.iload_n 1, 1) := by decide +kernel
theorem dX4_needMethodAndArgument_20 : decode cX4_needMethodAndArgument 20 = .ok (.sipush (-1000), 3) := by decide +kernel
theorem dX4_needMethodAndArgument_23 : decode cX4_needMethodAndArgument 23 = .ok (.if_icmp .lt 10, 3) := by decide +kernel
theorem dX4_needMethodAndArgument_26 : decode cX4_needMethodAndArgument 26 = .ok (.iload_n 1, 1) := by decide +kernel
theorem dX4_needMethodAndArgument_27 : decode cX4_needMethodAndArgument 27 = .ok (.sipush 1000, 3) := by decide +kernel
theorem dX4_needMethodAndArgument_30 : decode cX4_needMethodAndArgument 30 = .ok (.if_icmp .le 13, 3) := by decide +kernel
theorem dX4_needMethodAndArgument_33 : decode cX4_needMethodAndArgument 33 = .ok (.new 50, 3) := by decide +kernel
theorem dX4_needMethodAndArgument_36 : decode cX4_needMethodAndArgument 36 = .ok (.dup, 1) := by decide +kernel
theorem dX4_needMethodAndArgument_37 : decode cX4_needMethodAndArgument 37 = .ok (.ldc 213, 2) := by decide +kernel
theorem dX4_needMethodAndArgument_39 : decode cX4_needMethodAndArgument 39 = .ok (.invokespecial 54, 3) := by decide +kernel
theorem dX4_needMethodAndArgument_42 : decode cX4_needMethodAndArgument 42 = .ok (.athrow, 1) := by decide +kernel
theorem dX4_needMethodAndArgument_43 : decode cX4_needMethodAndArgument 43 = .ok (.return_, 1) := by decide +kernel
theorem dX4_needDirection_0 : decode cX4_needDirection 0 = .ok (.iload_n 0, 1) := by decide +kernel
theorem dX4_needDirection_1 : decode cX4_needDirection 1 = .ok (.ifCond .eq 18, 3) := by decide +kernel
theorem dX4_needDirection_4 : decode cX4_needDirection 4 = .ok (.iload_n 0, 1) := by decide +kernel
theorem dX4_needDirection_5 : decode cX4_needDirection 5 = .ok (.iconst 1, 1) := by decide +kernel
theorem dX4_needDirection_6 : decode cX4_needDirection 6 = .ok (.if_icmp .eq 13, 3) := by decide +kernel
theorem dX4_needDirection_9 : decode cX4_needDirection 9 = .ok (.new 50, 3) := by decide +kernel
theorem dX4_needDirection_12 : decode cX4_needDirection 12 = .ok (.dup, 1) := by decide +kernel
theorem dX4_needDirection_13 : decode cX4_needDirection 13 = .ok (.ldc 215, 2) := by decide +kernel
theorem dX4_needDirection_15 : decode cX4_needDirection 15 = .ok (.invokespecial 54, 3) := by decide +kernel
theorem dX4_needDirection_18 : decode cX4_needDirection 18 = .ok (.athrow, 1) := by decide +kernel
theorem dX4_needDirection_19 : decode cX4_needDirection 19 = .ok (.return_, 1) := by decide +kernel
set_option maxRecDepth 20000 in
theorem ggX4_needAnyFrame_X2_has : GoodIn wsX4_needAnyFrame wsX2_has := goodIn_r _ [6, 7, 8, 9, 10, 11, 12, 13] (by decide +kernel) (by decide +kernel)
set_option maxRecDepth 20000 in
theorem gX4_needAnyFrame_X2_has_n217 : GoodIn wsX4_needAnyFrame (wsX2_has) := ggX4_needAnyFrame_X2_has
theorem dX4_needAnyFrame_0 : decode cX4_needAnyFrame 0 = .ok (.aload_n 0, 1) := by decide +kernel
theorem dX4_needAnyFrame_1 : decode cX4_needAnyFrame 1 = .ok (.iconst 0, 1) := by decide +kernel
theorem dX4_needAnyFrame_2 : decode cX4_needAnyFrame 2 = .ok (.invokevirtual 217, 3) := by decide +kernel
theorem dX4_needAnyFrame_5 : decode cX4_needAnyFrame 5 = .ok (.ifCond .ne 13, 3) := by decide +kernel
theorem dX4_needAnyFrame_8 : decode cX4_needAnyFrame 8 = .ok (.new 64, 3) := by decide +kernel
theorem dX4_needAnyFrame_11 : decode cX4_needAnyFrame 11 = .ok (.dup, 1) := by decide +kernel
theorem dX4_needAnyFrame_12 : decode cX4_needAnyFrame 12 = .ok (.ldc 218, 2) := by decide +kernel
theorem dX4_needAnyFrame_14 : decode cX4_needAnyFrame 14 = .ok (.invokespecial 68, 3) := by decide +kernel
theorem dX4_needAnyFrame_17 : decode cX4_needAnyFrame 17 = .ok (.athrow, 1) := by decide +kernel
theorem dX4_needAnyFrame_18 : decode cX4_needAnyFrame 18 = .ok (.return_, 1) := by decide +kernel
end
section
/-- an index that is one -/
def ix (x : Int32) : Nat := x.toNatClampNeg
theorem ix_nI {j : Nat} (h : j < 2 ^ 31) : ix (nI j) = j := nI_clamp h
def g_has (n : Nat) (x : Int32) : Bool := decide (¬ x < 0 ∧ ¬ nI n ≤ x)
theorem g_has_iff {n : Nat} {x : Int32} : g_has n x = true ↔ (¬ x < 0 ∧ ¬ nI n ≤ x) := decide_eq_true_iff
theorem g_has_j {n : Nat} {x : Int32} (h : g_has n x = true) (hn : n < 2 ^ 31) : ∃ j : Nat, j < n ∧ x = nI j := k_has (g_has_iff.mp h) hn
theorem g_has_pos {n : Nat} (h : g_has n (nI 0) = true) : 0 < n := by
  rcases Nat.eq_zero_or_pos n with e | e
  · subst e; exact absurd h (by decide +kernel)
  · exact e
def g_ma (q x : Int32) : Bool := decide (¬ q < 0 ∧ q ≤ nI 3 ∧ ¬ x < (-1000) ∧ x ≤ nI 1000)
theorem g_ma_iff {q x : Int32} : g_ma q x = true ↔ (¬ q < 0 ∧ q ≤ nI 3 ∧ ¬ x < (-1000) ∧ x ≤ nI 1000) := decide_eq_true_iff
def g_dir (x : Int32) : Bool := decide (x = nI 0) || decide (x = nI 1)
theorem g_dir_iff {x : Int32} : g_dir x = true ↔ (x = nI 0 ∨ x = nI 1) := by simp [g_dir]
theorem g_tick {x : Int32} (h1 : ¬ x < nI 1) (h2 : x ≤ nI 200) : ∃ j : Nat, j < 201 ∧ x = nI j := by
  rcases pk_ix x (n := 201) (by decide) with q | q | q
  · exact absurd (Int32.lt_trans q (by decide +kernel)) h1
  · exact absurd (Int32.le_trans q h2) (by decide +kernel)
  · exact q
def l_rem (L : LaneS) : LaneS := match L with | (ki, ow, mr, va, fi, sz) => (ki, ow, mr, va, (fi + 1) % 40, sz - 1)
def l_kd (L : LaneS) : Int32 := match L with | (ki, _, _, _, fi, _) => ki ((fi + 0) % 40)
def l_mr (L : LaneS) : Int32 := match L with | (_, _, mr, _, fi, _) => mr ((fi + 0) % 40)
def l_va (L : LaneS) : Int32 := match L with | (_, _, _, va, fi, _) => va ((fi + 0) % 40)
def g_end (dl : Fn) (ti tm pp : Int32) : Int32 := if pp = -1 then ti + tm else if dl (ix pp) < ti + tm then dl (ix pp) else ti + tm
def g_del (n : Nat) (me dl : Fn) (L0 L1 : LaneS) (C : CalS) (S : SerS) (ti x : Int32) (c0 c1 : Nat) : LaneS × LaneS × CalS × SerS :=
  if x = nI 0 then (match s_take dl S L1 (l_kd L0) c0 (l_va L0) ti with | (S2, L2) => (l_rem L0, L2, C, S2))
  else (match k_take n me C L0 (l_kd L1) c1 (l_mr L1) (l_va L1) with | (C2, L2) => (L2, l_rem L1, C2, S))
def g_tick1 (n : Nat) (dl : Fn) (_ : Nat) (x : (Int32 × LaneS × CalS × SerS) × Int32) : (Int32 × LaneS × CalS × SerS) × Int32 := match x with
  | ((ti, L0, C, S), k) => match k_due n dl (ti + nI 1) C L0 with
    | (C2, L2, j) => match k_rep n (ti + nI 1) C2 L2 with
      | (C3, L3) => ((ti + nI 1, L3, C3, s_close n dl (ti + nI 1) S), k + j)
theorem g_has_c {n c : Nat} (h : c < n) (hn : n ≤ 40) : ¬ nI c < 0 ∧ ¬ nI n ≤ nI c := by
  rw [nI_leI (by omega) (by omega)]
  refine ⟨?_, by omega⟩
  rw [← nI_0, nI_ltI (by omega) (by omega)]
  omega
end
