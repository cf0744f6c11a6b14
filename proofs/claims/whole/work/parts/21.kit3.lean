/-- the two counts of frames of the model -/
def fmf (a b : Nat) : Fn := fun j => if j = 0 then nI a else if j = 1 then nI b else 0
theorem fmf_u0 {a b c : Nat} : upd (fmf a b) 0 (nI c) = fmf c b := by
  funext j; by_cases h : j = 0 <;> simp [upd, fmf, h]
theorem fmf_u1 {a b c : Nat} : upd (fmf a b) 1 (nI c) = fmf a c := by
  funext j; by_cases h : j = 0 <;> by_cases h1 : j = 1 <;> simp_all [upd, fmf]
theorem k_zn {P : Prop} [Decidable P] {r : Int32} (h : r = if P then nI 1 else nI 0) : narrow .boolean (.int r) = .int r := by
  by_cases q : P
  · rw [if_pos q] at h; subst h; decide +kernel
  · rw [if_neg q] at h; subst h; decide +kernel
abbrev FS : Type := Nat × Fn × Fn × Fn × Fn
def m_send (d : Nat) (F : FS) (kd o q v : Int32) : FS := match F with
  | (z, ki, ow, mr, va) => if ¬ 40 ≤ z then (z + 1, upd ki (40 * d + z) kd, upd ow (40 * d + z) o, upd mr (40 * d + z) q, upd va (40 * d + z) v) else (z, ki, ow, mr, va)
def m_sh1 (k : Nat) (F : Fn × Fn × Fn × Fn) : Fn × Fn × Fn × Fn := match F with
  | (ki, ow, mr, va) => (upd ki k (ki (k + 1)), upd ow k (ow (k + 1)), upd mr k (mr (k + 1)), upd va k (va (k + 1)))
def m_shift (d z : Nat) (F : Fn × Fn × Fn × Fn) : Fn × Fn × Fn × Fn := it m_sh1 (40 * d + (z - 1) - 40 * d) (40 * d) F
def g_in (x y z : Int32) : Bool := decide (¬ x < y ∧ ¬ z < x)
theorem g_in_iff {x y z : Int32} : g_in x y z = true ↔ (¬ x < y ∧ ¬ z < x) := decide_eq_true_iff
theorem m_isc {n : Nat} {x : Int32} (hn : n ≤ 40) : (if g_in x (nI 0) (nI n - nI 1) = true then nI 1 else nI 0) = (if g_has n x = true then nI 1 else nI 0) := by
  have h : g_in x (nI 0) (nI n - nI 1) = true ↔ g_has n x = true := by
    rw [g_has_iff, g_in_iff]
    have e0 : nI 0 = (0 : Int32) := nI_0
    rw [e0]
    rcases pk_ix x (n := 41) (by decide) with q | q | ⟨j, hj, rfl⟩
    · exact ⟨fun h => absurd q h.1, fun h => absurd q h.1⟩
    · have h1 : nI n ≤ x := Int32.le_trans (nI_le (by omega) (by decide)) q
      rcases Nat.eq_zero_or_pos n with e | e
      · subst e
        exact ⟨fun h => absurd (Int32.lt_of_lt_of_le (by decide +kernel : nI 0 - nI 1 < nI 41) q) h.2, fun h => absurd h1 h.2⟩
      · rw [pk_sub (by omega)]
        exact ⟨fun h => absurd (Int32.lt_of_lt_of_le (nI_lt (by omega) (by decide)) q) h.2, fun h => absurd h1 h.2⟩
    · rcases Nat.eq_zero_or_pos n with e | e
      · subst e
        refine ⟨fun h => absurd ?_ h.2, fun h => absurd (nI_le (by omega) (by omega)) h.2⟩
        exact Int32.lt_of_lt_of_le (by decide +kernel : nI 0 - nI 1 < nI 0) (nI_le (Nat.zero_le _) (by omega))
      · rw [pk_sub (by omega), nI_ltI (by omega) (by omega), nI_leI (by omega) (by omega)]
        constructor
        · rintro ⟨h1, h2⟩; exact ⟨h1, by omega⟩
        · rintro ⟨h1, h2⟩; exact ⟨h1, by omega⟩
  by_cases h2 : g_has n x = true
  · rw [if_pos h2, if_pos (h.mpr h2)]
  · rw [if_neg h2, if_neg (fun z => h2 (h.mp z))]
theorem m_inh {n : Nat} {x : Int32} (hn : n ≤ 40) : g_in x (nI 0) (nI n - nI 1) = g_has n x := by
  have h := m_isc (n := n) (x := x) hn
  by_cases h1 : g_in x (nI 0) (nI n - nI 1) = true <;> by_cases h2 : g_has n x = true
  · rw [h1, h2]
  · rw [if_pos h1, if_neg h2] at h; exact absurd h (by decide +kernel)
  · rw [if_neg h1, if_pos h2] at h; exact absurd h (by decide +kernel)
  · rw [Bool.not_eq_true] at h1 h2; rw [h1, h2]
theorem g_dir0 : g_dir (nI 0) = true := by decide +kernel
theorem g_dir1 : g_dir (nI 1) = true := by decide +kernel
def m_bel (pa : Fn) (ab : Nat) : Nat → Int32 → Bool
  | 0, _ => false
  | f + 1, x => if x = -1 then false else if x = nI ab then true else m_bel pa ab f (pa (ix x))
/-- parents are smaller, or none -/
def m_ch (pa : Fn) (n : Nat) : Prop := ∀ i, i < n → pa i = -1 ∨ ∃ j, j < i ∧ pa i = nI j
def m_tok (tk o : Int32) : Int32 := if o = 0 then (if nI 100 ≤ tk then tk + nI 0 else tk + nI 1) else tk + nI 0
def m_orph1 (pa : Fn) (ab : Nat) (i : Nat) (x : Fn × FS × Int32) : Fn × FS × Int32 := match x with
  | (oc, F, k) => if oc i = -1 ∧ m_bel pa ab (i + 1) (pa i) = true then (upd oc i (nI 1), m_send 0 F (nI 1) (nI i) (nI 0) (nI 0), k + nI 1) else (oc, F, k)
def m_fin (n : Nat) (pa : Fn) (tk : Int32) (oc : Fn) (F : FS) (c : Nat) (o : Int32) (tells : Bool) : Int32 × Fn × FS × Int32 :=
  (m_tok tk o, it (m_orph1 pa c) (n - (c + 1)) (c + 1) (upd oc c o, (if tells = true then m_send 0 F (nI 1) (nI c) (nI 0) (nI 0) else F), nI 1))
theorem m_ch_x {pa : Fn} {n k : Nat} (h : m_ch pa n) (hk : k < n) : pa k = -1 ∨ ∃ j, pa k = nI j ∧ j + 2 ≤ k + 1 ∧ j < n := by
  rcases h k hk with e | ⟨j, h1, h2⟩
  · exact Or.inl e
  · exact Or.inr ⟨j, h2, by omega, by omega⟩
theorem m_ch_y {pa : Fn} {n j f : Nat} (h : m_ch pa n) (hj : j < n) (hf : j + 2 ≤ f) : pa j = -1 ∨ ∃ j2, pa j = nI j2 ∧ j2 + 2 ≤ f - 1 ∧ j2 < n := by
  rcases h j hj with e | ⟨j2, h1, h2⟩
  · exact Or.inl e
  · exact Or.inr ⟨j2, h2, by omega, by omega⟩
theorem m_bel_step {pa : Fn} {ab f j : Nat} {x : Int32} (hf : 0 < f) (e : x = nI j) (h1 : ¬ x = -1) (h2 : ¬ x = nI ab) (hj : j < 2 ^ 31 := by omega) : m_bel pa ab f x = m_bel pa ab (f - 1) (pa j) := by
  obtain ⟨f, rfl⟩ : ∃ g, f = g + 1 := ⟨f - 1, by omega⟩
  rw [m_bel, if_neg h1, if_neg h2, e, ix_nI hj]
  rfl
theorem m_bel_e0 {pa : Fn} {ab f : Nat} {x : Int32} (hf : 0 < f) (h1 : x = -1) : m_bel pa ab f x = false := by
  obtain ⟨f, rfl⟩ : ∃ g, f = g + 1 := ⟨f - 1, by omega⟩
  rw [m_bel, if_pos h1]
theorem m_bel_e1 {pa : Fn} {ab f : Nat} {x : Int32} (hf : 0 < f) (h1 : ¬ x = -1) (h2 : x = nI ab) : m_bel pa ab f x = true := by
  obtain ⟨f, rfl⟩ : ∃ g, f = g + 1 := ⟨f - 1, by omega⟩
  rw [m_bel, if_neg h1, if_pos h2]
-- the model's own ends
def m_item (x : Int32) : Int32 := if ¬ x ≤ 0 then x else nI 0
def m_ans (re sv : Fn) (F : FS) (k : Nat) : FS := m_send 1 F (nI 3) (nI k) (re k) (sv k)
def m_set (ss re sv : Fn) (F : FS) (k : Nat) (q v : Int32) : Fn × Fn × Fn × FS := (upd ss k (nI 2), upd re k q, upd sv k v, m_ans (upd re k q) (upd sv k v) F k)
def m_bars (z0 z1 : Nat) (x : Int32) : Int32 := if x = nI 0 then (if z0 = 0 then nI 2 else nI 0) else if x = nI 1 then (if z1 = 0 then nI 2 else nI 0) else nI 1
def m_barp (z0 z1 : Nat) (x y : Int32) : Int32 := if x = nI 0 then (if g_has z0 y = true then nI 0 else nI 1) else if x = nI 1 then (if g_has z1 y = true then nI 0 else nI 1) else nI 2
theorem m_dir {x : Int32} : g_in x (nI 0) (nI 1) = true ↔ (x = nI 0 ∨ x = nI 1) := by
  rw [g_in_iff]
  have e0 : nI 0 = (0 : Int32) := nI_0
  constructor
  · rintro ⟨h1, h2⟩
    rcases pk_ix x (n := 2) (by decide) with q | q | ⟨j, hj, rfl⟩
    · rw [← e0] at q; exact absurd q h1
    · exact absurd (Int32.lt_of_lt_of_le (by decide +kernel : nI 1 < nI 2) q) h2
    · have : j = 0 ∨ j = 1 := by omega
      rcases this with rfl | rfl
      · exact Or.inl rfl
      · exact Or.inr rfl
  · rintro (rfl | rfl) <;> decide +kernel
/-- a request, a cancellation or a credit comes -/
def m_arrS (ti : Int32) (dl ss cr re sv : Fn) (F : FS) (kd : Int32) (k : Nat) (q : Int32) : Fn × Fn × FS :=
  if kd = 0 ∧ ss k = 0 ∧ ¬ dl k ≤ ti then (upd ss k (nI 1), upd cr k (nI 2), F) else if kd = 0 ∧ ss k = nI 2 then (ss, cr, m_ans re sv F k)
  else if kd = nI 1 ∧ ¬ nI 2 ≤ ss k then (upd ss k (nI 3), cr, F) else if kd = nI 2 ∧ ss k = nI 1 then (ss, upd cr k (cr k + q), F) else (ss, cr, F)
def m_arrC (n : Nat) (pa me : Fn) (tk : Int32) (oc cv rc su : Fn) (F : FS) (kd : Int32) (k : Nat) (q v : Int32) : Int32 × Fn × Fn × Fn × Fn × FS :=
  if oc k = -1 then (if kd = nI 3 then (match m_fin n pa tk oc F k (if me k = nI 3 ∧ ¬ v = rc k then nI 4 else q) false with | (tk2, oc2, F2, _) => (tk2, oc2, upd cv k v, rc, su, F2))
    else if q = rc k then (tk, oc, cv, upd rc k (rc k + nI 1), upd su k (su k + v), F) else (match m_fin n pa tk oc F k (nI 4) true with | (tk2, oc2, F2, _) => (tk2, oc2, cv, rc, su, F2)))
  else (tk, oc, cv, rc, su, F)
def m_due1 (n : Nat) (pa dl : Fn) (t : Int32) (i : Nat) (x : Int32 × Fn × FS × Int32) : Int32 × Fn × FS × Int32 := match x with
  | (tk, oc, F, k) => if oc i = -1 ∧ ¬ t < dl i then (match m_fin n pa tk oc F i (nI 2) false with | (tk2, oc2, F2, j) => (tk2, oc2, F2, k + j)) else (tk, oc, F, k)
def m_cl1 (dl : Fn) (t : Int32) (i : Nat) (ss : Fn) : Fn := upd ss i (if ss i = nI 1 ∧ ¬ t < dl i then nI 3 else ss i)
def m_rq (rq la : Fn) (F : FS) (k : Nat) (t : Int32) : Fn × Fn × FS := (upd rq k (rq k + nI 1), upd la k t, m_send 0 F (nI 0) (nI k) (nI 0) (nI 0))
def m_rep1 (oc rc : Fn) (t : Int32) (i : Nat) (x : Int32 × Fn × Fn × FS) : Int32 × Fn × Fn × FS := match x with
  | (tk, rq, la, F) => if oc i = -1 ∧ rc i = 0 ∧ ¬ t - la i < nI 8 ∧ ¬ nI 4 ≤ rq i ∧ ¬ tk < nI 10 then (tk - nI 10, m_rq rq la F i t) else (tk, rq, la, F)
def m_tick (n : Nat) (pa dl rc : Fn) (x : Int32 × Int32 × Fn × Fn × Fn × Fn × FS) : (Int32 × Int32 × Fn × Fn × Fn × Fn × FS) × Int32 := match x with
  | (ti, tk, oc, ss, rq, la, F) => match it (m_due1 n pa dl (ti + nI 1)) (n - 0) 0 (tk, oc, F, nI 0) with
    | (tk2, oc2, F2, k) => match it (m_rep1 oc2 rc (ti + nI 1)) (n - 0) 0 (tk2, rq, la, F2) with
      | (tk3, rq3, la3, F3) => ((ti + nI 1, tk3, oc2, it (m_cl1 dl (ti + nI 1)) (n - 0) 0 ss, rq3, la3, F3), k)
def m_tick1 (n : Nat) (pa dl rc : Fn) (_ : Nat) (x : (Int32 × Int32 × Fn × Fn × Fn × Fn × FS) × Int32) : (Int32 × Int32 × Fn × Fn × Fn × Fn × FS) × Int32 := match x with
  | (y, k) => match m_tick n pa dl rc y with | (y2, j) => (y2, k + j)
def m_isit (me ar se : Fn) (k : Nat) : Bool := decide (me k = nI 3) && decide (¬ m_item (ar k) ≤ se k)
abbrev WS9 : Type := Int32 × Int32 × Fn × Fn × Fn × Fn × Fn × FS
def m_work1 (me ar : Fn) (sm : Int32) (ss cr se re sv : Fn) (F : FS) (k : Nat) : WS9 × Int32 :=
  if ss k = nI 1 then
    (if m_isit me ar se k = true then
      (if cr k = 0 then ((nI 2, sm, ss, cr, se, re, sv, F), nI 0) else ((nI 0, sm, ss, upd cr k (cr k - nI 1), upd se k (se k + nI 1), re, sv, m_send 1 F (nI 4) (nI k) (se k) (ar k - se k)), ss k))
    else if me k = 0 then ((nI 0, sm, upd ss k (nI 2), cr, se, upd re k (nI 0), upd sv k (ar k * ar k), m_ans (upd re k (nI 0)) (upd sv k (ar k * ar k)) F k), upd ss k (nI 2) k)
    else if me k = nI 1 then ((nI 0, sm + ar k, upd ss k (nI 2), cr, se, upd re k (nI 0), upd sv k (sm + ar k), m_ans (upd re k (nI 0)) (upd sv k (sm + ar k)) F k), upd ss k (nI 2) k)
    else if me k = nI 2 then ((nI 0, sm, upd ss k (nI 2), cr, se, upd re k (nI 3), upd sv k (nI 0), m_ans (upd re k (nI 3)) (upd sv k (nI 0)) F k), upd ss k (nI 2) k)
    else ((nI 0, sm, upd ss k (nI 2), cr, se, upd re k (nI 0), upd sv k (m_item (ar k)), m_ans (upd re k (nI 0)) (upd sv k (m_item (ar k))) F k), upd ss k (nI 2) k))
  else ((nI 2, sm, ss, cr, se, re, sv, F), nI 0)
def m_work (n : Nat) (me ar : Fn) (sm : Int32) (ss cr se re sv : Fn) (F : FS) (x : Int32) : WS9 × Int32 :=
  if g_has n x = true then m_work1 me ar sm ss cr se re sv F (ix x) else ((nI 1, sm, ss, cr, se, re, sv, F), nI 0)
def m_loc (sm q x : Int32) : Int32 × Int32 := if g_in q (nI 0) (nI 3) = true then (if g_in x (-1000) (nI 1000) = true then (if q = nI 2 then (nI 2, nI 0) else (nI 0, if q = 0 then x * x else if q = nI 1 then sm + x else m_item x)) else (nI 1, nI 0)) else (nI 1, nI 0)
def m_can (n : Nat) (pa : Fn) (tk : Int32) (oc : Fn) (F : FS) (x : Int32) : (Int32 × Int32 × Fn × FS) × Int32 :=
  if g_has n x = true then (if oc (ix x) = -1 then (match m_fin n pa tk oc F (ix x) (nI 1) true with | (tk2, oc2, F2, j) => ((nI 0, tk2, oc2, F2), j)) else ((nI 2, tk, oc, F), nI 0)) else ((nI 1, tk, oc, F), nI 0)
def m_gra (n : Nat) (me oc : Fn) (F : FS) (x q : Int32) : Int32 × FS :=
  if g_has n x = true then (if g_in q (nI 1) (nI 10) = true then (if me (ix x) = nI 3 then (if oc (ix x) = -1 then (nI 0, m_send 0 F (nI 2) (nI (ix x)) (nI 0) q) else (nI 3, F)) else (nI 3, F)) else (nI 2, F)) else (nI 1, F)
theorem m_bars_c {z0 z1 : Nat} {x r : Int32} (h : r = m_bars z0 z1 x) : (¬ g_dir x = true ∧ r = nI 1) ∨ (x = nI 0 ∧ z0 = 0 ∧ r = nI 2) ∨ (x = nI 0 ∧ ¬ z0 = 0 ∧ r = nI 0) ∨ (x = nI 1 ∧ z1 = 0 ∧ r = nI 2) ∨ (x = nI 1 ∧ ¬ z1 = 0 ∧ r = nI 0) := by
  rw [h, g_dir_iff]
  unfold m_bars
  by_cases h0 : x = nI 0
  · by_cases hz : z0 = 0 <;> simp [h0, hz]
  · by_cases h1 : x = nI 1
    · subst h1
      by_cases hz : z1 = 0 <;> simp [h0, hz]
    · simp [h0, h1]
theorem m_barp_c {z0 z1 : Nat} {x y r : Int32} (h : r = m_barp z0 z1 x y) : (¬ g_dir x = true ∧ r = nI 2) ∨ (x = nI 0 ∧ g_has z0 y = true ∧ r = nI 0) ∨ (x = nI 0 ∧ ¬ g_has z0 y = true ∧ r = nI 1) ∨ (x = nI 1 ∧ g_has z1 y = true ∧ r = nI 0) ∨ (x = nI 1 ∧ ¬ g_has z1 y = true ∧ r = nI 1) := by
  rw [h, g_dir_iff]
  unfold m_barp
  by_cases h0 : x = nI 0
  · by_cases hz : g_has z0 y = true <;> simp [h0, hz]
  · by_cases h1 : x = nI 1
    · subst h1
      by_cases hz : g_has z1 y = true <;> simp [h0, hz]
    · simp [h0, h1]
abbrev DS : Type := Int32 × Int32 × Fn × Fn × Fn × Fn × Fn × Fn × Nat × Nat × Fn × Fn × Fn × Fn
def m_del (n : Nat) (pa me : Fn) (ti : Int32) (dl : Fn) (tk : Int32) (oc cv rc su ss cr re sv : Fn) (z0 z1 : Nat) (K : Fn × Fn × Fn × Fn) (c0 c1 : Nat) (x : Int32) : DS × Int32 := match K with
  | (ki, ow, mr, va) =>
    if g_dir x = true then
      (if x = nI 0 then
        (if z0 = 0 then ((nI 2, tk, oc, cv, rc, su, ss, cr, z0, z1, ki, ow, mr, va), nI 0) else (match m_shift 0 z0 (ki, ow, mr, va) with
          | (ki1, ow1, mr1, va1) => match m_arrS ti dl ss cr re sv (z1, ki1, ow1, mr1, va1) (ki (40 * 0)) c0 (va (40 * 0)) with
            | (ss2, cr2, (z2, ki2, ow2, mr2, va2)) => ((nI 0, tk, oc, cv, rc, su, ss2, cr2, z0 - 1, z2, ki2, ow2, mr2, va2), nI c0)))
      else
        (if z1 = 0 then ((nI 2, tk, oc, cv, rc, su, ss, cr, z0, z1, ki, ow, mr, va), nI 0) else (match m_shift 1 z1 (ki, ow, mr, va) with
          | (ki1, ow1, mr1, va1) => match m_arrC n pa me tk oc cv rc su (z0, ki1, ow1, mr1, va1) (ki (40 * 1)) c1 (mr (40 * 1)) (va (40 * 1)) with
            | (tk2, oc2, cv2, rc2, su2, (z2, ki2, ow2, mr2, va2)) => ((nI 0, tk2, oc2, cv2, rc2, su2, ss, cr, z2, z1 - 1, ki2, ow2, mr2, va2), nI c1))))
    else ((nI 1, tk, oc, cv, rc, su, ss, cr, z0, z1, ki, ow, mr, va), nI 0)
def m_los (z0 z1 : Nat) (K : Fn × Fn × Fn × Fn) (c0 c1 : Nat) (x : Int32) : (Int32 × Nat × Nat × Fn × Fn × Fn × Fn) × Int32 :=
  if g_dir x = true then (if x = nI 0 then (if z0 = 0 then ((nI 2, z0, z1, K), nI 0) else ((nI 0, z0 - 1, z1, m_shift 0 z0 K), nI c0)) else (if z1 = 0 then ((nI 2, z0, z1, K), nI 0) else ((nI 0, z0, z1 - 1, m_shift 1 z1 K), nI c1)))
  else ((nI 1, z0, z1, K), nI 0)
def m_frs (z0 z1 : Nat) (x : Int32) : Int32 × Int32 := if x = nI 0 then (nI 0, nI z0) else if x = nI 1 then (nI 0, nI z1) else (nI 1, nI 0)
def m_frm (z0 z1 : Nat) (ki ow : Fn) (x y : Int32) : Int32 × Int32 := if g_dir x = true then (if x = nI 0 then (if g_has z0 y = true then (nI 0, nI 100 * ki (40 * 0 + ix y) + ow (40 * 0 + ix y)) else (nI 1, nI 0)) else (if g_has z1 y = true then (nI 0, nI 100 * ki (40 * 1 + ix y) + ow (40 * 1 + ix y)) else (nI 1, nI 0))) else (nI 2, nI 0)
def m_frv (z0 z1 : Nat) (va : Fn) (x y : Int32) : Int32 × Int32 := if g_dir x = true then (if x = nI 0 then (if g_has z0 y = true then (nI 0, va (40 * 0 + ix y)) else (nI 1, nI 0)) else (if g_has z1 y = true then (nI 0, va (40 * 1 + ix y)) else (nI 1, nI 0))) else (nI 2, nI 0)
