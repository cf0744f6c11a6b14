/-- a frame is put behind the others, if there is room -/
def l_send (ki ow mk va : Fn) (fi sz : Nat) (kd o q v : Int32) : Fn × Fn × Fn × Fn × Nat × Nat :=
  if sz < 40 then (upd ki ((fi + sz) % 40) kd, upd ow ((fi + sz) % 40) o, upd mk ((fi + sz) % 40) q, upd va ((fi + sz) % 40) v, fi, sz + 1) else (ki, ow, mk, va, fi, sz)
