def m_end (dl : Fn) (ti tm pp : Int32) : Int32 := if pp = -1 then ti + tm else if ti + tm ≤ dl (ix pp) then ti + tm else dl (ix pp)
abbrev OS : Type := Int32 × Nat × Fn × Fn × Fn × Fn × Fn × Fn × Fn × FS
def m_opn (n : Nat) (me ar pa dl rq la oc : Fn) (F : FS) (ti q x tm pp : Int32) : OS × Int32 :=
  ((nI 0, n + 1, upd me n q, upd ar n x, upd pa n pp, upd dl n (m_end dl ti tm pp), upd rq n (rq n + nI 1), upd la n ti, upd oc n (-1), m_send 0 F (nI 0) (nI n) (nI 0) (nI 0)), nI n)
def m_open (n : Nat) (me ar pa dl rq la oc : Fn) (F : FS) (ti q x tm pp : Int32) : OS × Int32 :=
  if pp = -1 then
    (if g_in q (nI 0) (nI 3) = true then (if g_in x (-1000) (nI 1000) = true then (if g_in tm (nI 1) (nI 1000) = true then (if n = 40 then ((nI 3, n, me, ar, pa, dl, rq, la, oc, F), nI 0) else m_opn n me ar pa dl rq la oc F ti q x tm pp)
      else ((nI 2, n, me, ar, pa, dl, rq, la, oc, F), nI 0)) else ((nI 2, n, me, ar, pa, dl, rq, la, oc, F), nI 0)) else ((nI 2, n, me, ar, pa, dl, rq, la, oc, F), nI 0))
  else if g_has n pp = true then
    (if g_in q (nI 0) (nI 3) = true then (if g_in x (-1000) (nI 1000) = true then (if g_in tm (nI 1) (nI 1000) = true then (if n = 40 then ((nI 3, n, me, ar, pa, dl, rq, la, oc, F), nI 0) else if oc (ix pp) = -1 then m_opn n me ar pa dl rq la oc F ti q x tm pp else ((nI 3, n, me, ar, pa, dl, rq, la, oc, F), nI 0))
      else ((nI 2, n, me, ar, pa, dl, rq, la, oc, F), nI 0)) else ((nI 2, n, me, ar, pa, dl, rq, la, oc, F), nI 0)) else ((nI 2, n, me, ar, pa, dl, rq, la, oc, F), nI 0))
  else ((nI 1, n, me, ar, pa, dl, rq, la, oc, F), nI 0)
theorem m_tck {x : Int32} (h : g_in x (nI 1) (nI 200) = true) : ∃ j : Nat, j < 201 ∧ x = nI j := by
  obtain ⟨h1, h2⟩ := g_in_iff.mp h
  exact g_tick h1 (Int32.not_lt.mp h2)
abbrev TS : Type := Int32 × Int32 × Fn × Fn × Fn × Fn × FS
def m_pass (n : Nat) (pa dl rc : Fn) (y : TS) (x : Int32) : (Int32 × TS) × Int32 :=
  if g_in x (nI 1) (nI 200) = true then (match it (m_tick1 n pa dl rc) (ix x - 0) 0 (y, nI 0) with | (y2, k) => ((nI 0, y2), k)) else ((nI 1, y), nI 0)
