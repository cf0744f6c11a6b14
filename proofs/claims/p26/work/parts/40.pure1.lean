theorem upd_s {f : Fn} {k : Nat} {x : Int32} : upd f k x k = x := pk_us
theorem upd_n {f : Fn} {k j : Nat} {x : Int32} (h : j ≠ k) : upd f k x j = f j := pk_un h
theorem it_inv {σ : Type} {st : Nat → σ → σ} (R : Nat → σ → Prop) (n : Nat) (h : ∀ i x, i < n → R i x → R (i + 1) (st i x)) : ∀ (f i : Nat) (x : σ), i + f ≤ n → R i x → R (i + f) (it st f i x) := by
  intro f
  induction f with
  | zero => intro i x _ hr; exact hr
  | succ f ih =>
    intro i x hi hr
    have := ih (i + 1) (st i x) (by omega) (h i x (by omega) hr)
    rw [show i + 1 + f = i + (f + 1) by omega] at this
    exact this
/-- each frame of a ring is so -/
def FVp (P : Int32 → Int32 → Int32 → Int32 → Prop) (L : LaneS) : Prop := match L with
  | (ki, ow, mr, va, fi, sz) => ∀ j, j < sz → P (ki ((fi + j) % 40)) (ow ((fi + j) % 40)) (mr ((fi + j) % 40)) (va ((fi + j) % 40))
def LOK (L : LaneS) : Prop := match L with
  | (_, _, _, _, fi, sz) => fi < 40 ∧ sz ≤ 40
theorem mod40 {a b c : Nat} (h : (a + b) % 40 = (a + c) % 40) (hb : b < 40) (hc : c < 40) : b = c := by omega
theorem FV_send {P : Int32 → Int32 → Int32 → Int32 → Prop} {L : LaneS} {kd o q v : Int32} (h : FVp P L) (hp : P kd o q v) : FVp P (l_send L kd o q v) := by
  obtain ⟨ki, ow, mr, va, fi, sz⟩ := L
  by_cases hs : sz < 40
  · simp only [l_send, if_pos hs]
    intro j hj
    by_cases e : j = sz
    · subst e
      simp only [upd_s]
      exact hp
    · have e1 : (fi + j) % 40 ≠ (fi + sz) % 40 := fun z => e (mod40 z (by omega) hs)
      simp only [upd_n e1]
      exact h j (by omega)
  · simp only [l_send, if_neg hs]
    exact h
theorem LOK_send {L : LaneS} {kd o q v : Int32} (h : LOK L) : LOK (l_send L kd o q v) := by
  obtain ⟨ki, ow, mr, va, fi, sz⟩ := L
  by_cases hs : sz < 40
  · simp only [l_send, if_pos hs]
    exact ⟨h.1, hs⟩
  · simp only [l_send, if_neg hs]
    exact h
theorem FV_mono {P P' : Int32 → Int32 → Int32 → Int32 → Prop} {L : LaneS} (h : FVp P L) (hp : ∀ a b c d, P a b c d → P' a b c d) : FVp P' L := by
  obtain ⟨ki, ow, mr, va, fi, sz⟩ := L
  exact fun j hj => hp _ _ _ _ (h j hj)
theorem FV_rem {P : Int32 → Int32 → Int32 → Int32 → Prop} {ki ow mr va : Fn} {fi sz : Nat} (h : FVp P (ki, ow, mr, va, fi, sz)) (hz : 0 < sz) : FVp P (l_rem (ki, ow, mr, va, fi, sz)) := by
  intro j hj
  have hj2 : j < sz - 1 := hj
  have := h (j + 1) (by omega)
  rw [show ((fi + 1) % 40 + j) % 40 = (fi + (j + 1)) % 40 by omega]
  exact this
theorem LOK_rem {ki ow mr va : Fn} {fi sz : Nat} (h : LOK (ki, ow, mr, va, fi, sz)) : LOK (l_rem (ki, ow, mr, va, fi, sz)) := by
  obtain ⟨h1, h2⟩ := h
  exact ⟨Nat.mod_lt _ (by decide), by omega⟩
-- sums over the calls
def sN : (Nat → Nat) → Nat → Nat
  | _, 0 => 0
  | f, n + 1 => sN f n + f n
def sI : (Nat → Int32) → Nat → Int32
  | _, 0 => nI 0
  | f, n + 1 => sI f n + f n
theorem sN_congr {f g : Nat → Nat} : ∀ n : Nat, (∀ c, c < n → f c = g c) → sN f n = sN g n := by
  intro n
  induction n with
  | zero => intro _; rfl
  | succ n ih =>
    intro h
    show sN f n + f n = sN g n + g n
    rw [ih (fun c hc => h c (by omega)), h n (by omega)]
theorem sI_congr {f g : Nat → Int32} : ∀ n : Nat, (∀ c, c < n → f c = g c) → sI f n = sI g n := by
  intro n
  induction n with
  | zero => intro _; rfl
  | succ n ih =>
    intro h
    show sI f n + f n = sI g n + g n
    rw [ih (fun c hc => h c (by omega)), h n (by omega)]
theorem sN_upd {f g : Nat → Nat} {c : Nat} : ∀ n : Nat, c < n → (∀ j, j < n → j ≠ c → g j = f j) → sN g n + f c = sN f n + g c := by
  intro n
  induction n with
  | zero => intro h; exact absurd h (Nat.not_lt_zero _)
  | succ n ih =>
    intro hc h
    show sN g n + g n + f c = sN f n + f n + g c
    by_cases e : n = c
    · subst e
      have e1 : sN g n = sN f n := sN_congr n (fun j hj => h j (by omega) (by omega))
      omega
    · have e1 := ih (by omega) (fun j hj he => h j (by omega) he)
      have e2 := h n (by omega) e
      omega
theorem sI_upd {f g : Nat → Int32} {c : Nat} (h0 : f c = nI 0) : ∀ n : Nat, c < n → (∀ j, j < n → j ≠ c → g j = f j) → sI g n = sI f n + g c := by
  intro n
  induction n with
  | zero => intro h; exact absurd h (Nat.not_lt_zero _)
  | succ n ih =>
    intro hc h
    show sI g n + g n = sI f n + f n + g c
    by_cases e : n = c
    · subst e
      have e1 : sI g n = sI f n := sI_congr n (fun j hj => h j (by omega) (by omega))
      rw [e1, h0, nI_0, Int32.add_zero]
    · have e1 := ih (by omega) (fun j hj he => h j (by omega) he)
      rw [e1, h n (by omega) e, Int32.add_assoc, Int32.add_comm (g c), ← Int32.add_assoc]
-- numbers
theorem m1lt {o : Int32} (h : ¬ o < 0) : ¬ o = -1 := by
  intro e
  subst e
  exact h (by decide +kernel)
theorem nIneg {k : Nat} (hk : k < 2 ^ 31) : ¬ nI k = -1 := m1lt (nI_pos hk)
def mx (x : Int32) : Int32 := if x < nI 0 then nI 0 else x
/-- the sum of the first k items of the argument a -/
def itv (a : Int32) (k : Nat) : Int32 := nI k * mx a - nI k * (nI k - nI 1) / nI 2
def ITM (a r u : Int32) : Prop := ∃ k, k ≤ 5 ∧ r = nI k ∧ ¬ mx a < nI k ∧ u = itv a k
theorem mx_pos (a : Int32) : ¬ mx a < nI 0 := by
  unfold mx
  by_cases h : a < nI 0
  · rw [if_pos h]; decide +kernel
  · rw [if_neg h]; exact h
theorem itm0 {a : Int32} : ITM a 0 0 := by
  refine ⟨0, by omega, nI_0.symm, mx_pos a, ?_⟩
  unfold itv
  rw [nI_0, Int32.zero_mul, Int32.zero_mul]
  decide +kernel
theorem itm_dec : ∀ a, a < 6 → ∀ k, k < 6 → nI k < nI a → ¬ mx (nI a) < nI k + nI 1 ∧ itv (nI a) k + (nI a - nI k) = itv (nI a) (k + 1) := by decide +kernel
/-- the argument of a call of method 3, and the methods -/
def AOK (m a : Int32) : Prop := (m = nI 0 ∨ m = nI 1 ∨ m = nI 2 ∨ m = nI 3) ∧ (m = nI 3 → a = -1 ∨ ∃ k, k ≤ 5 ∧ a = nI k)
theorem arg_lt {a : Int32} {k : Nat} (ha : a = -1 ∨ ∃ k, k ≤ 5 ∧ a = nI k) (hk : k < 1000) (h : nI k < a) : ∃ b, b ≤ 5 ∧ a = nI b ∧ k < b := by
  rcases ha with rfl | ⟨b, hb, rfl⟩
  · refine absurd (Int32.lt_trans h (by decide +kernel : (-1 : Int32) < 0)) (nI_pos (by omega))
  · exact ⟨b, hb, rfl, (nI_ltI (by omega) (by omega)).mp h⟩
theorem itm_step {a r u : Int32} {k : Nat} (ha : a = -1 ∨ ∃ k, k ≤ 5 ∧ a = nI k) (hk : k ≤ 5) (hr : r = nI k) (h : nI k < a) (hI : ITM a r u) : ITM a (r + nI 1) (u + (a - nI k)) := by
  obtain ⟨k2, h2, e2, h3, e3⟩ := hI
  have ek : k2 = k := (nI_eq (by omega) (by omega)).mp (e2.symm.trans hr)
  subst ek
  obtain ⟨b, hb, rfl, hkb⟩ := arg_lt ha (by omega) h
  obtain ⟨d1, d2⟩ := itm_dec b (by omega) k2 (by omega) h
  rw [nI_add] at d1
  exact ⟨k2 + 1, by omega, by rw [e2, nI_add], d1, by rw [e3, d2]⟩
-- frames
def P0 (n : Nat) (kd o _ v : Int32) : Prop := ∃ c, c < n ∧ o = nI c ∧ (kd = nI 0 ∨ kd = nI 1 ∨ ∃ k, k ≤ 10 ∧ v = nI k)
def P1 (n : Nat) (me ar ss re sv : Fn) (kd o q v : Int32) : Prop := ∃ c, c < n ∧ o = nI c ∧ ((kd = nI 3 ∧ ss c = nI 2 ∧ q = re c ∧ v = sv c) ∨ (kd = nI 4 ∧ me c = nI 3 ∧ ∃ k, k ≤ 5 ∧ q = nI k ∧ nI k < ar c ∧ v = ar c - nI k))
theorem P0_up {n : Nat} {kd o q v : Int32} (h : P0 n kd o q v) : P0 (n + 1) kd o q v := by
  obtain ⟨c, h1, h2⟩ := h
  exact ⟨c, by omega, h2⟩
def ANS (m a r v : Int32) : Prop := r = (if m = nI 2 then nI 3 else nI 0) ∧ (m = nI 0 → v = a * a) ∧ (m = nI 3 → v = mx a)
/-- what holds of a call: method, argument, task, outcome at the law's last look, outcome, value, requests, items, their sum -/
def PV (m a s e o v q r u : Int32) : Prop := (o = -1 ∨ ¬ o < 0) ∧ (e = -1 ∨ e = o) ∧ (o = 0 → s = nI 2 ∧ ¬ m = nI 2 ∧ (m = nI 0 → v = a * a) ∧ (m = nI 3 → v = mx a ∧ r = mx a)) ∧ (o = nI 3 → m = nI 2) ∧ (o = nI 4 → m = nI 3) ∧ (m = nI 3 → ITM a r u) ∧ (¬ m = nI 3 → r = 0 ∧ u = 0) ∧ (∃ k, k ≤ 3 ∧ q = nI (k + 1))
theorem m1_0 : ¬ (-1 : Int32) = 0 := by decide +kernel
theorem m1_3 : ¬ (-1 : Int32) = nI 3 := by decide +kernel
theorem m1_4 : ¬ (-1 : Int32) = nI 4 := by decide +kernel
theorem PV_end {m a s e o v v' q r u : Int32} (h : PV m a s e (-1) v q r u) (h0 : ¬ o < 0) (hA : o = 0 → s = nI 2 ∧ ¬ m = nI 2 ∧ (m = nI 0 → v' = a * a) ∧ (m = nI 3 → v' = mx a ∧ r = mx a)) (h3 : o = nI 3 → m = nI 2) (h4 : o = nI 4 → m = nI 3) : PV m a s e o v' q r u := by
  obtain ⟨a1, a2, a3, a4, a5, a6, a7, a8⟩ := h
  exact ⟨Or.inr h0, Or.inl (a2.elim id id), hA, h3, h4, a6, a7, a8⟩
theorem PV_item {m a s e v q r u r' u' : Int32} (h : PV m a s e (-1) v q r u) (hm : m = nI 3) (hI : ITM a r' u') : PV m a s e (-1) v q r' u' := by
  obtain ⟨a1, a2, a3, a4, a5, a6, a7, a8⟩ := h
  exact ⟨a1, a2, fun z => absurd z m1_0, fun z => absurd z m1_3, fun z => absurd z m1_4, fun _ => hI, fun z => absurd hm z, a8⟩
theorem PV_req {m a s e o v q q' r u : Int32} (h : PV m a s e o v q r u) (hq : ∃ k, k ≤ 3 ∧ q' = nI (k + 1)) : PV m a s e o v q' r u := by
  obtain ⟨a1, a2, a3, a4, a5, a6, a7, a8⟩ := h
  exact ⟨a1, a2, a3, a4, a5, a6, a7, hq⟩
theorem PV_s {m a s s' e o v q r u : Int32} (h : PV m a s e o v q r u) (hs : s = nI 2 → s' = nI 2) : PV m a s' e o v q r u := by
  obtain ⟨a1, a2, a3, a4, a5, a6, a7, a8⟩ := h
  refine ⟨a1, a2, fun z => ?_, a4, a5, a6, a7, a8⟩
  obtain ⟨b1, b2⟩ := a3 z
  exact ⟨hs b1, b2⟩
theorem PV_e {m a s e o v q r u : Int32} (h : PV m a s e o v q r u) : PV m a s o o v q r u := by
  obtain ⟨a1, a2, a3, a4, a5, a6, a7, a8⟩ := h
  exact ⟨a1, Or.inr rfl, a3, a4, a5, a6, a7, a8⟩
def cz (oc : Fn) (j : Nat) : Nat := if oc j = 0 then 1 else 0
def ag (rq : Fn) (j : Nat) : Nat := ix (rq j) - 1
/-- the tokens; z: an answer's token that isn't given back yet -/
def TK (n : Nat) (rq oc : Fn) (bu : Int32) (z : Nat) : Prop := ∃ b : Nat, bu = nI b ∧ b ≤ 100 ∧ 100 ≤ b + 10 * sN (ag rq) n ∧ b + 10 * sN (ag rq) n + z ≤ 100 + sN (cz oc) n
def PAR (n : Nat) (pa dl lp : Fn) : Prop := ∀ c, c < n → (pa c = -1 ∨ ∃ j, j < c ∧ pa c = nI j ∧ ¬ dl j < dl c) ∧ lp c = pa c
def PO (i n : Nat) (pa oc : Fn) : Prop := ∀ c, c < i → c < n → oc c = -1 → ∀ j, j < c → pa c = nI j → oc j = -1
def CI (z i n : Nat) (me ar dl ss e lp : Fn) (ti : Int32) (C : CalS) (L : LaneS) : Prop := match C with
  | (pa, oc, cv, rq, _, rc, su, bu) => ((∀ c, c < n → PV (me c) (ar c) (ss c) (e c) (oc c) (cv c) (rq c) (rc c) (su c)) ∧ (∀ c, c < n → oc c = -1 → ti < dl c) ∧ PO i n pa oc) ∧ (TK n rq oc bu z ∧ PAR n pa dl lp ∧ (∀ c, n ≤ c → rc c = 0 ∧ su c = 0 ∧ rq c = 0)) ∧ (FVp (P0 n) L ∧ LOK L)
def MO (oc oc2 : Fn) : Prop := ∀ c, oc c = -1 ∨ oc2 c = oc c
theorem MO.rf {oc : Fn} : MO oc oc := fun _ => Or.inr rfl
theorem MO.upd {oc oc2 : Fn} {c : Nat} {o : Int32} (h1 : oc c = -1) (h : MO (upd oc c o) oc2) : MO oc oc2 := by
  intro x
  by_cases e : x = c
  · subst e; exact Or.inl h1
  · have := h x
    rw [upd_n e] at this
    exact this
theorem MO.back {oc oc2 : Fn} (h : MO oc oc2) {c : Nat} (q : oc2 c = -1) : oc c = -1 := by
  rcases h c with z | z
  · exact z
  · exact z.symm.trans q
theorem MO.keep {oc oc2 : Fn} (h : MO oc oc2) {c : Nat} (q : ¬ oc c = -1) : oc2 c = oc c := by
  rcases h c with z | z
  · exact absurd z q
  · exact z
theorem MO.trans {a b c : Fn} (h : MO a b) (h2 : MO b c) : MO a c := by
  intro x
  by_cases q : a x = -1
  · exact Or.inl q
  · have e := h.keep q
    exact Or.inr ((h2.keep (fun z => q (e.symm.trans z))).trans e)
