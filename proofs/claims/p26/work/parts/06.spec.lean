abbrev LaneS : Type := Fn × Fn × Fn × Fn × Nat × Nat
abbrev BookS : Type := Fn × Fn × Fn × Nat
abbrev CalS : Type := Fn × Fn × Fn × Fn × Fn × Fn × Fn × Int32
abbrev SerS : Type := Fn × Fn × Fn × Fn × Fn × Int32
/-- a walk from i upwards, f steps -/
def it {σ : Type} (st : Nat → σ → σ) : Nat → Nat → σ → σ
  | 0, _, x => x
  | f + 1, i, x => it st f (i + 1) (st i x)
theorem it_step {σ : Type} {st : Nat → σ → σ} {n i : Nat} {x : σ} (h : i < n) : it st (n - i) i x = it st (n - (i + 1)) (i + 1) (st i x) := by
  rw [show n - i = (n - (i + 1)) + 1 by omega]; rfl
theorem it_end {σ : Type} {st : Nat → σ → σ} {n i : Nat} {x : σ} (h : ¬ i < n) : it st (n - i) i x = x := by
  rw [show n - i = 0 by omega]; rfl
/-- a frame is put behind the others, if there is room -/
def l_send (L : LaneS) (kd o q v : Int32) : LaneS := match L with
  | (ki, ow, mr, va, fi, sz) => if sz < 40 then (upd ki ((fi + sz) % 40) kd, upd ow ((fi + sz) % 40) o, upd mr ((fi + sz) % 40) q, upd va ((fi + sz) % 40) v, fi, sz + 1) else (ki, ow, mr, va, fi, sz)
def k_req (C : CalS) (L : LaneS) (c : Nat) (t : Int32) : CalS × LaneS := match C with
  | (pa, oc, cv, rq, la, rc, su, bu) => ((pa, oc, cv, upd rq c (rq c + nI 1), upd la c t, rc, su, bu), l_send L (nI 0) (nI c) (nI 0) (nI 0))
def k_begin (C : CalS) (L : LaneS) (c : Nat) (p t : Int32) : CalS × LaneS := match C with
  | (pa, oc, cv, rq, la, rc, su, bu) => k_req (upd pa c p, upd oc c (-1), cv, rq, la, rc, su, bu) L c t
def k_hep (pa oc : Fn) (n c : Nat) : Bool := decide (¬ pa c < 0 ∧ ¬ nI n ≤ pa c) && decide (¬ oc (pa c).toNatClampNeg = -1)
def k_orph1 (n : Nat) (i : Nat) (x : CalS × LaneS × Int32) : CalS × LaneS × Int32 := match x with
  | ((pa, oc, cv, rq, la, rc, su, bu), L, k) => if oc i = -1 ∧ k_hep pa oc n i = true then ((pa, upd oc i (nI 1), cv, rq, la, rc, su, bu), l_send L (nI 1) (nI i) (nI 0) (nI 0), k + nI 1) else ((pa, oc, cv, rq, la, rc, su, bu), L, k)
def k_orph (n e : Nat) (C : CalS) (L : LaneS) : CalS × LaneS × Int32 := it (k_orph1 n) (n - (e + 1)) (e + 1) (C, L, nI 0)
def k_endS (n : Nat) (C : CalS) (L : LaneS) (c : Nat) (o : Int32) : CalS × LaneS × Int32 := match C with
  | (pa, oc, cv, rq, la, rc, su, bu) => match k_orph n c (pa, upd oc c o, cv, rq, la, rc, su, bu) L with
    | (C2, L2, k) => (C2, L2, nI 1 + k)
def k_endT (n : Nat) (C : CalS) (L : LaneS) (c : Nat) (o : Int32) : CalS × LaneS × Int32 := match C with
  | (pa, oc, cv, rq, la, rc, su, bu) => match k_orph n c (pa, upd oc c o, cv, rq, la, rc, su, bu) (l_send L (nI 1) (nI c) (nI 0) (nI 0)) with
    | (C2, L2, k) => (C2, L2, nI 1 + k)
def k_bud (C : CalS) (b : Int32) : CalS := match C with
  | (pa, oc, cv, rq, la, rc, su, _) => (pa, oc, cv, rq, la, rc, su, b)
def k_tans (n : Nat) (me : Fn) (C : CalS) (L : LaneS) (c : Nat) (q v : Int32) : CalS × LaneS := match C with
  | (pa, oc, cv, rq, la, rc, su, bu) => if me c = nI 3 ∧ ¬ v = rc c then (match k_endS n (pa, oc, cv, rq, la, rc, su, bu) L c (nI 4) with | (C2, L2, _) => (C2, L2))
    else match k_endS n (pa, oc, upd cv c v, rq, la, rc, su, bu) L c q with
      | ((pa2, oc2, cv2, rq2, la2, rc2, su2, bu2), L2, _) => if q = 0 then ((pa2, oc2, cv2, rq2, la2, rc2, su2, if nI 100 < bu2 + nI 1 then nI 100 else bu2 + nI 1), L2) else ((pa2, oc2, cv2, rq2, la2, rc2, su2, bu2), L2)
def k_titem (n : Nat) (C : CalS) (L : LaneS) (c : Nat) (q v : Int32) : CalS × LaneS := match C with
  | (pa, oc, cv, rq, la, rc, su, bu) => if q = rc c then ((pa, oc, cv, rq, la, upd rc c (rc c + nI 1), upd su c (su c + v), bu), L)
    else match k_endT n (pa, oc, cv, rq, la, rc, su, bu) L c (nI 4) with | (C2, L2, _) => (C2, L2)
def k_take (n : Nat) (me : Fn) (C : CalS) (L : LaneS) (kd : Int32) (c : Nat) (q v : Int32) : CalS × LaneS := match C with
  | (pa, oc, cv, rq, la, rc, su, bu) => if oc c = -1 then (if kd = nI 3 then k_tans n me (pa, oc, cv, rq, la, rc, su, bu) L c q v else k_titem n (pa, oc, cv, rq, la, rc, su, bu) L c q v) else ((pa, oc, cv, rq, la, rc, su, bu), L)
def k_due1 (n : Nat) (dl : Fn) (t : Int32) (i : Nat) (x : CalS × LaneS × Int32) : CalS × LaneS × Int32 := match x with
  | ((pa, oc, cv, rq, la, rc, su, bu), L, k) => if oc i = -1 ∧ ¬ t < dl i then (match k_endS n (pa, oc, cv, rq, la, rc, su, bu) L i (nI 2) with | (C2, L2, j) => (C2, L2, k + j)) else ((pa, oc, cv, rq, la, rc, su, bu), L, k)
def k_due (n : Nat) (dl : Fn) (t : Int32) (C : CalS) (L : LaneS) : CalS × LaneS × Int32 := it (k_due1 n dl t) (n - 0) 0 (C, L, nI 0)
def k_isrep (C : CalS) (c : Nat) (t : Int32) : Bool := match C with
  | (_, oc, _, rq, la, rc, _, _) => decide (oc c = -1) && (decide (rc c = 0) && (decide (¬ nI 4 ≤ rq c) && decide (¬ t - la c < nI 8)))
def k_rep1 (t : Int32) (i : Nat) (x : CalS × LaneS) : CalS × LaneS := match x with
  | ((pa, oc, cv, rq, la, rc, su, bu), L) => if k_isrep (pa, oc, cv, rq, la, rc, su, bu) i t = true ∧ ¬ bu < nI 10 then k_req (pa, oc, cv, rq, la, rc, su, bu - nI 10) L i t else ((pa, oc, cv, rq, la, rc, su, bu), L)
def k_rep (n : Nat) (t : Int32) (C : CalS) (L : LaneS) : CalS × LaneS := it (k_rep1 t) (n - 0) 0 (C, L)
-- the server
def s_ans (ad m x : Int32) : Int32 := if m = nI 0 then x * x else if m = nI 1 then ad + x else if m = nI 2 then nI 0 else if m = nI 3 then (if x < nI 0 then nI 0 else x) else nI 0
def s_sendA (S : SerS) (L : LaneS) (c : Nat) : LaneS := match S with
  | (_, _, _, re, sv, _) => l_send L (nI 3) (nI c) (re c) (sv c)
def s_next (me ar : Fn) (S : SerS) (c : Nat) : Bool := match S with
  | (_, _, se, _, _, _) => decide (me c = nI 3) && decide (¬ ar c ≤ se c)
def s_item (ar : Fn) (S : SerS) (L : LaneS) (c : Nat) : SerS × LaneS := match S with
  | (ss, cr, se, re, sv, ad) => ((ss, upd cr c (cr c - nI 1), upd se c (se c + nI 1), re, sv, ad), l_send L (nI 4) (nI c) (se c) (ar c - se c))
def s_perf (me ar : Fn) (S : SerS) (L : LaneS) (c : Nat) : SerS × LaneS := match S with
  | (ss, cr, se, re, sv, ad) => let S2 : SerS := (upd ss c (nI 2), cr, se, upd re c (if me c = nI 2 then nI 3 else nI 0), upd sv c (s_ans ad (me c) (ar c)), if me c = nI 1 then s_ans ad (me c) (ar c) else ad)
    (S2, s_sendA S2 L c)
def s_step (me ar : Fn) (S : SerS) (L : LaneS) (c : Nat) : SerS × LaneS := if s_next me ar S c = true then s_item ar S L c else s_perf me ar S L c
def s_treq (dl : Fn) (S : SerS) (L : LaneS) (c : Nat) (t : Int32) : SerS × LaneS := match S with
  | (ss, cr, se, re, sv, ad) => if ss c = nI 2 then ((ss, cr, se, re, sv, ad), s_sendA (ss, cr, se, re, sv, ad) L c)
    else if ss c = 0 ∧ ¬ ¬ t < dl c then ((upd ss c (nI 1), upd cr c (nI 2), se, re, sv, ad), L) else ((ss, cr, se, re, sv, ad), L)
def s_tcan (S : SerS) (c : Nat) : SerS := match S with
  | (ss, cr, se, re, sv, ad) => if ss c = nI 2 then (ss, cr, se, re, sv, ad) else (upd ss c (nI 3), cr, se, re, sv, ad)
def s_take (dl : Fn) (S : SerS) (L : LaneS) (kd : Int32) (c : Nat) (q t : Int32) : SerS × LaneS := match S with
  | (ss, cr, se, re, sv, ad) => if kd = 0 then s_treq dl (ss, cr, se, re, sv, ad) L c t else if kd = nI 1 then (s_tcan (ss, cr, se, re, sv, ad) c, L)
    else if ss c = nI 1 then ((ss, upd cr c (cr c + q), se, re, sv, ad), L) else ((ss, cr, se, re, sv, ad), L)
def s_close1 (dl : Fn) (t : Int32) (i : Nat) (x : SerS) : SerS := match x with
  | (ss, cr, se, re, sv, ad) => if ss i = nI 1 ∧ ¬ t < dl i then (upd ss i (nI 3), cr, se, re, sv, ad) else (ss, cr, se, re, sv, ad)
def s_close (n : Nat) (dl : Fn) (t : Int32) (S : SerS) : SerS := it (s_close1 dl t) (n - 0) 0 S
theorem nI_10 : (nI 1 = nI 0) = False := by decide +kernel
theorem k_tab4 {x : Int32} (h0 : ¬ x = nI 0) (h1 : ¬ x = nI 1) (h2 : ¬ x = nI 2) (h3 : ¬ x = nI 3) : x.toInt < 0 ∨ 3 < x.toInt := by
  have e : ∀ k : Nat, k < 4 → ¬ x = nI k → ¬ x.toInt = (k : Int) := fun k hk h q => h (Int32.toInt_inj.mp (by rw [q, nI_toInt (by omega)]))
  have e0 := e 0 (by decide) h0
  have e1 := e 1 (by decide) h1
  have e2 := e 2 (by decide) h2
  have e3 := e 3 (by decide) h3
  omega
