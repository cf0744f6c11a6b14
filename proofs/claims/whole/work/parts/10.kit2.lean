section KC2
variable {p : Program} {l : Launch} {e : Env} {R : Room} {s : State} {m : MethodId} {args : Array Value} {below : List Frame} {meth : Method} {c : Code} {H : Heap} {locs : List Loc} {cells slots : Nat} {Q : State → Prop}
variable {pc : Nat} {ls : Array Slot} {rest st0 : List Value} {mc ms : Nat}
theorem k_callr {S : Type} {post : S → Prop} {b0 : Nat} {G : va_G} {A : Nat → Prop} {ws wc wr : va_W} {w1 w2 : S → va_W} {a : Array Value} (hr : va_Run p l e R s m args below meth c H locs cells slots 0 0 (F0 m pc ls st0) rest (va_Qr post (fun u q t => q = b0 ∧ kQ G (w1 u) (va_A wc H.size) t) (va_A wc H.size) a) (va_A wc H.size))
    (hP : va_P G vwCl ws H) (hD : va_D A ws) (hS : va_S A s.heap H locs) (hA : ∀ q, s.heap.size ≤ q → A q) (isC isR perm : List Nat) (hC : isC.map (fun i => ws[i]?) = wc.map some) (hR : isR.map (fun i => ws[i]?) = wr.map some) (hd : va_nd isR = true ∧ (∀ i ∈ isR, i ∉ isC) ∧ va_nd perm = true) (hp : ∀ u, perm.map (fun i => (wr ++ w1 u)[i]?) = (w2 u).map some)
    (kk : ∀ (u : S) (H1 : Heap) (locs1 : List Loc), post u → va_P G vwCl (w2 u) H1 → va_D A (w2 u) → va_S A s.heap H1 locs1 → W p l e R s m args below meth c H1 locs1 cells slots Q (F0 m (pc + 3) ls (.ref b0 :: rest))) : W p l e R s m args below meth c H locs cells slots Q (F0 m pc ls st0) := by
  have hF := va_free hD hS hA isC hC
  refine va_callr hr hS (fun q _ h => hF q h) hF (fun u q t H1 locs1 ht hvm hw hB hz1 hk1 hS1 => ?_)
  obtain ⟨rfl, hP1, hD1⟩ := hB
  rw [ht] at hP1
  obtain ⟨h1, h2⟩ := k_join hP hD isC isR perm hC hR hd (hp u) hk1 hF hP1 hD1
  exact kk u H1 locs1 hw h1 h2 hS1
theorem kP_kept {G : va_G} {ws : va_W} {H1 : Heap} (hP : va_P G vwCl ws H) (h : ∀ q : Nat, q < H.size → H1[q]? = H[q]?) : va_P G vwCl ws H1 := fun k q hq => va_at.kept (hP k q hq) (h q.1 (hP k q hq).lt)
/-- the end of a throw -/
abbrev kX (G : va_G) (ws : va_W) (A : Nat → Prop) (EQ : String → Prop) : String → State → State → Prop := vx_X (fun _ : Unit => True) (fun E _ t => EQ E ∧ kQ G ws A t) A
def kNo : Array Value → State → Outcome → State → Prop := fun _ _ _ _ => False
theorem kx_throw {cc : ByteArray} (hexec : p.tables.exec = Jvm.exec) (hb : c.code = cc) (hl : l.stackTraces = false) {cls text : String} {ik is ic : Nat} {A : Nat → Prop} {G : va_G} {ws : va_W} {EQ : String → Prop} {Qc : Array Value → State → Outcome → State → Prop}
    (hown : s.vm.findClass RX4 = some m.cls) (hcls : Bundle.fit cls = true) (hk : (Cond.classLink RX4 ik cls).before args s = true) (hini : (Cond.initialized cls).before args s = true) (hstr : (is, text) ∈ nx_str)
    (hg1 : ∀ w ∈ (vx_atS RX4 ic cls nx_names).filter goodWord, w.before args s = true) (hg2 : ∀ w ∈ (vx_atS RX4 ic cls nx_names).filter (fun w => !goodWord w), w ∈ nx_cast)
    (hgood : ∀ w ∈ Cond.classLink RX4 ik cls :: Cond.initialized cls :: vx_atS RX4 ic cls nx_names, vx_ot w = true) (hN : NX A s s.heap) (hS : va_S A s.heap H locs) (hsize : ls.size = c.maxLocals)
    (d0 : decode cc pc = .ok (.new ik, 3)) (d3 : decode cc (pc + 3) = .ok (.dup, 1)) (d4 : decode cc (pc + 4) = .ok (.ldc is, 2)) (d6 : decode cc (pc + 6) = .ok (.invokespecial ic, 3)) (d9 : decode cc (pc + 9) = .ok (.athrow, 1))
    (htb : ∀ x ∈ c.exceptionTable.toList, False) (hRframes : 5 < R.frames) (hRlocals : 82 ≤ R.locals) (hRcells : cells + 1 ≤ R.cells) (hRslots : slots + 6 ≤ R.slots) (hlocks : meth.locks = false)
    (hP : va_P G vwCl ws H) (hD : va_D A ws) (hE : EQ cls) (hc : cells + 1 ≤ mc) (hs : slots + 6 ≤ ms) :
    W p l e R s m args below meth c H locs cells slots (vx_MQ below Qc (kX G ws A EQ) args s mc ms A) (F0 m pc ls []) := by
  obtain ⟨h1, h2, h3, h4, h5⟩ := id hN
  obtain ⟨sa, hsa⟩ := h2 _ hstr
  refine vx_throwS (names := nx_names) (own := RX4) (cls := cls) (text := text) (ik := ik) (is := is) (ic := ic) (A := A) hexec hb hl hown hcls (by decide +kernel) hk hini hsa (vx_hat hg1 hg2 (fun w hw => va_Nw.use (nx_oc hw) (h3 w hw))) hgood h4 h5 hS hsize d0 d3 d4 d6 d9 (fun x h => (htb x h).elim) hRframes hRlocals hRcells hRslots hlocks (fun t hvm hz hq => ?_) hS.2.2 hc hs
  exact ⟨(), trivial, ⟨hE, kP_kept hP hq, hD⟩, Nat.le_trans hS.1 hz, fun q h6 h7 => by rw [hq q (Nat.lt_of_lt_of_le h6 hS.1)]; exact hS.2.1 q h6 h7⟩
/-- a call that throws, and isn't caught here -/
theorem kx_callv {G : va_G} {A : Nat → Prop} {ws wc wr : va_W} {a : Array Value} {EQ EQ2 : String → Prop} {Qc : Array Value → State → Outcome → State → Prop} {mc2 ms2 : Nat} (hr : vx_Run p l e R s m args below meth c H locs cells slots mc ms (F0 m pc ls st0) rest (kNo a) (kX G wc (va_A wc H.size) EQ) (va_A wc H.size))
    (hP : va_P G vwCl ws H) (hD : va_D A ws) (hS : va_S A s.heap H locs) (hA : ∀ q, s.heap.size ≤ q → A q) (isC isR perm : List Nat) (hC : isC.map (fun i => ws[i]?) = wc.map some) (hR : isR.map (fun i => ws[i]?) = wr.map some) (hd : va_nd isR = true ∧ (∀ i ∈ isR, i ∉ isC) ∧ va_nd perm = true) (hp : perm.map (fun i => (wr ++ wc)[i]?) = ws.map some)
    (htb : ∀ x ∈ c.exceptionTable.toList, False) (hlocks : meth.locks = false) (hE : ∀ E, EQ E → EQ2 E) (hc : cells + mc ≤ mc2) (hs : slots + ms ≤ ms2) :
    W p l e R s m args below meth c H locs cells slots (vx_MQ below Qc (kX G ws A EQ2) args s mc2 ms2 A) (F0 m pc ls st0) := by
  have hF := va_free hD hS hA isC hC
  intro T hT X
  rcases hr T hT X with ⟨v, st₀, t, T', L, h0, X', hL, e1, e2, hno, st⟩ | ⟨q, st₀, t, T', L, E, ce, h0, X', hL, e1, e2, ⟨u, hpx, ⟨hEQ, hP1, hD1⟩, hFr⟩, hce, hcv, hcl, st⟩
  · exact hno.elim
  · obtain ⟨k1, k2, k3⟩ := vx_keep h0 e1 hS (fun q _ h => hF q h) hF hL hFr
    rw [← e1] at hP1
    obtain ⟨h1, h2⟩ := k_join hP hD isC isR perm hC hR hd hp k2 hF hP1 hD1
    obtain ⟨t2, a1, b1⟩ := vx_out (Qc := Qc) (XC := kX G ws A EQ2) (args := args) (mc := mc2) (ms := ms2) (free := A) (pc := pc) (ls := ls) (rest := rest) (fun x h => (htb x h).elim) hlocks (by rw [e1]; exact hce : T'.heap[q]? = some ce) hcv hcl (fun t3 ht3 hvm3 => ⟨(), trivial, ⟨hE E hEQ, by rw [ht3]; exact h1, h2⟩, by rw [ht3]; exact k3.1, fun q6 h6 h7 => by rw [ht3]; exact k3.2.1 q6 h6 h7⟩) k3.2.2 hc hs T' rfl X'
    exact ⟨t2, st.trans a1, b1⟩
theorem kx_ret {g : JFrame} {Qc : Array Value → State → Outcome → State → Prop} {XC : String → State → State → Prop} {free : Addr → Prop} (h1 : cells ≤ mc) (h2 : slots ≤ ms) (k : W p l e R s m args below meth c H locs mc ms (MQ below Qc args s mc ms free) g) : W p l e R s m args below meth c H locs cells slots (vx_MQ below Qc XC args s mc ms free) g := W.widen h1 h2 (vx_ret k)
end KC2
theorem nx_good1 : ∀ w ∈ Cond.classLink RX4 50 "java/lang/IllegalArgumentException" :: Cond.initialized "java/lang/IllegalArgumentException" :: vx_atS RX4 54 "java/lang/IllegalArgumentException" nx_names, vx_ot w = true := by decide +kernel
theorem nx_good2 : ∀ w ∈ Cond.classLink RX4 64 "java/lang/IllegalStateException" :: Cond.initialized "java/lang/IllegalStateException" :: vx_atS RX4 68 "java/lang/IllegalStateException" nx_names, vx_ot w = true := by decide +kernel
theorem nx_good3 : ∀ w ∈ Cond.classLink RX4 204 "java/lang/IndexOutOfBoundsException" :: Cond.initialized "java/lang/IndexOutOfBoundsException" :: vx_atS RX4 208 "java/lang/IndexOutOfBoundsException" nx_names, vx_ot w = true := by decide +kernel
def exN (k : Nat) : String := if k = 1 then "java/lang/IndexOutOfBoundsException" else if k = 2 then "java/lang/IllegalArgumentException" else "java/lang/IllegalStateException"
def exq (k : Nat) (E : String) : Prop := k ≠ 0 ∧ E = exN k

