theorem upd_s {f : Fn} {k : Nat} {x : Int32} : upd f k x k = x := pk_us
theorem upd_n {f : Fn} {k j : Nat} {x : Int32} (h : j ≠ k) : upd f k x j = f j := pk_un h
theorem upd_id {f : Fn} {k : Nat} {x : Int32} (h : f k = x) : upd f k x = f := by
  funext j
  by_cases e : j = k
  · rw [e, upd_s, h]
  · rw [upd_n e]
theorem it_sim {σ τ : Type} {st : Nat → σ → σ} {st' : Nat → τ → τ} (R : Nat → σ → τ → Prop) (n : Nat) (h : ∀ i x y, i < n → R i x y → R (i + 1) (st i x) (st' i y)) : ∀ (f i : Nat) (x : σ) (y : τ), i + f ≤ n → R i x y → R (i + f) (it st f i x) (it st' f i y) := by
  intro f
  induction f with
  | zero => intro i x y _ hr; exact hr
  | succ f ih =>
    intro i x y hi hr
    have := ih (i + 1) (st i x) (st' i y) (by omega) (h i x y (by omega) hr)
    rw [show i + 1 + f = i + (f + 1) by omega] at this
    exact this
theorem it_inv {σ : Type} {st : Nat → σ → σ} (R : Nat → σ → Prop) (n : Nat) (h : ∀ i x, i < n → R i x → R (i + 1) (st i x)) : ∀ (f i : Nat) (x : σ), i + f ≤ n → R i x → R (i + f) (it st f i x) := by
  intro f
  induction f with
  | zero => intro i x _ hr; exact hr
  | succ f ih =>
    intro i x hi hr
    have := ih (i + 1) (st i x) (by omega) (h i x (by omega) hr)
    rw [show i + 1 + f = i + (f + 1) by omega] at this
    exact this
/-- a ring of frames, and the model's row of them -/
def RLn (L : LaneS) (d : Nat) (F : FS) : Prop := match L, F with
  | (ki, ow, mr, va, fi, sz), (z, kiM, owM, mrM, vaM) => fi < 40 ∧ sz ≤ 40 ∧ sz = z ∧ ∀ j, j < sz → ki ((fi + j) % 40) = kiM (40 * d + j) ∧ ow ((fi + j) % 40) = owM (40 * d + j) ∧ mr ((fi + j) % 40) = mrM (40 * d + j) ∧ va ((fi + j) % 40) = vaM (40 * d + j)
/-- each frame of a ring is so -/
def FVp (P : Int32 → Int32 → Int32 → Int32 → Prop) (L : LaneS) : Prop := match L with
  | (ki, ow, mr, va, fi, sz) => ∀ j, j < sz → P (ki ((fi + j) % 40)) (ow ((fi + j) % 40)) (mr ((fi + j) % 40)) (va ((fi + j) % 40))
theorem mod40 {a b c : Nat} (h : (a + b) % 40 = (a + c) % 40) (hb : b < 40) (hc : c < 40) : b = c := by omega
theorem RLn_send {L : LaneS} {d : Nat} {F : FS} (h : RLn L d F) (kd o q v : Int32) : RLn (l_send L kd o q v) d (m_send d F kd o q v) := by
  obtain ⟨ki, ow, mr, va, fi, sz⟩ := L
  obtain ⟨z, kiM, owM, mrM, vaM⟩ := F
  obtain ⟨h1, h2, h3, h4⟩ := h
  subst h3
  by_cases hs : sz < 40
  · simp only [l_send, m_send, if_pos hs, if_pos (show ¬ 40 ≤ sz by omega)]
    refine ⟨h1, by omega, rfl, fun j hj => ?_⟩
    by_cases e : j = sz
    · subst e
      simp only [upd_s]
      exact ⟨trivial, trivial, trivial, trivial⟩
    · have e1 : (fi + j) % 40 ≠ (fi + sz) % 40 := fun z => e (mod40 z (by omega) hs)
      have e2 : 40 * d + j ≠ 40 * d + sz := by omega
      simp only [upd_n e1, upd_n e2]
      exact h4 j (by omega)
  · simp only [l_send, m_send, if_neg hs, if_neg (show ¬ ¬ 40 ≤ sz by omega)]
    exact ⟨h1, h2, rfl, h4⟩
/-- the other direction isn't touched -/
theorem RLn_other {L : LaneS} {d d' z z' : Nat} {K K' : Fn × Fn × Fn × Fn} (h : RLn L d (z, K)) (hk : ∀ j, j < 40 → K'.1 (40 * d + j) = K.1 (40 * d + j) ∧ K'.2.1 (40 * d + j) = K.2.1 (40 * d + j) ∧ K'.2.2.1 (40 * d + j) = K.2.2.1 (40 * d + j) ∧ K'.2.2.2 (40 * d + j) = K.2.2.2 (40 * d + j)) : RLn L d (z, K') := by
  obtain ⟨ki, ow, mr, va, fi, sz⟩ := L
  obtain ⟨kiM, owM, mrM, vaM⟩ := K
  obtain ⟨kiN, owN, mrN, vaN⟩ := K'
  obtain ⟨h1, h2, h3, h4⟩ := h
  refine ⟨h1, h2, h3, fun j hj => ?_⟩
  obtain ⟨k1, k2, k3, k4⟩ := hk j (by omega)
  obtain ⟨g1, g2, g3, g4⟩ := h4 j hj
  exact ⟨g1.trans k1.symm, g2.trans k2.symm, g3.trans k3.symm, g4.trans k4.symm⟩
theorem m_send_far {d d' : Nat} {F : FS} {kd o q v : Int32} (hd : d ≠ d') (j : Nat) (hj : j < 40) : (m_send d F kd o q v).2.1 (40 * d' + j) = F.2.1 (40 * d' + j) ∧ (m_send d F kd o q v).2.2.1 (40 * d' + j) = F.2.2.1 (40 * d' + j) ∧ (m_send d F kd o q v).2.2.2.1 (40 * d' + j) = F.2.2.2.1 (40 * d' + j) ∧ (m_send d F kd o q v).2.2.2.2 (40 * d' + j) = F.2.2.2.2 (40 * d' + j) := by
  obtain ⟨z, kiM, owM, mrM, vaM⟩ := F
  by_cases hs : 40 ≤ z
  · simp only [m_send, if_neg (show ¬ ¬ 40 ≤ z by omega)]
    exact ⟨trivial, trivial, trivial, trivial⟩
  · have e : 40 * d' + j ≠ 40 * d + z := by omega
    simp only [m_send, if_pos hs, upd_n e]
    exact ⟨trivial, trivial, trivial, trivial⟩
theorem RLn_so {L : LaneS} {d d' z' : Nat} {F : FS} (hd : d ≠ d') (h : RLn L d' (z', F.2)) (kd o q v : Int32) : RLn L d' (z', (m_send d F kd o q v).2) :=
  RLn_other (d' := 0) (z' := 0) h (fun j hj => m_send_far hd j hj)
theorem FV_send {P : Int32 → Int32 → Int32 → Int32 → Prop} {L : LaneS} {kd o q v : Int32} (h : FVp P L) (hp : P kd o q v) : FVp P (l_send L kd o q v) := by
  obtain ⟨ki, ow, mr, va, fi, sz⟩ := L
  by_cases hs : sz < 40
  · simp only [l_send, if_pos hs]
    intro j hj
    by_cases e : j = sz
    · subst e
      simp only [upd_s]
      exact hp
    · have e1 : (fi + j) % 40 ≠ (fi + sz) % 40 := fun z => e (mod40 z (by omega) hs)
      simp only [upd_n e1]
      exact h j (by omega)
  · simp only [l_send, if_neg hs]
    exact h
theorem FV_mono {P P' : Int32 → Int32 → Int32 → Int32 → Prop} {L : LaneS} (h : FVp P L) (hp : ∀ a b c d, P a b c d → P' a b c d) : FVp P' L := by
  obtain ⟨ki, ow, mr, va, fi, sz⟩ := L
  exact fun j hj => hp _ _ _ _ (h j hj)
theorem FV_rem {P : Int32 → Int32 → Int32 → Int32 → Prop} {L : LaneS} (h : FVp P L) (hz : 0 < L.2.2.2.2.2) : FVp P (l_rem L) := by
  obtain ⟨ki, ow, mr, va, fi, sz⟩ := L
  intro j hj
  have hj2 : j < sz - 1 := hj
  have hz2 : 0 < sz := hz
  have := h (j + 1) (by omega)
  rw [show ((fi + 1) % 40 + j) % 40 = (fi + (j + 1)) % 40 by omega]
  exact this
/-- what the shift does -/
theorem m_shift_at (d z : Nat) (K : Fn × Fn × Fn × Fn) (x : Nat) : (m_shift d z K).1 x = (if 40 * d ≤ x ∧ x < 40 * d + (z - 1) then K.1 (x + 1) else K.1 x) ∧ (m_shift d z K).2.1 x = (if 40 * d ≤ x ∧ x < 40 * d + (z - 1) then K.2.1 (x + 1) else K.2.1 x)
    ∧ (m_shift d z K).2.2.1 x = (if 40 * d ≤ x ∧ x < 40 * d + (z - 1) then K.2.2.1 (x + 1) else K.2.2.1 x) ∧ (m_shift d z K).2.2.2 x = (if 40 * d ≤ x ∧ x < 40 * d + (z - 1) then K.2.2.2 (x + 1) else K.2.2.2 x) := by
  obtain ⟨k1, k2, k3, k4⟩ := K
  have key := it_inv (st := m_sh1) (fun i y => 40 * d ≤ i ∧ ∀ x, y.1 x = (if 40 * d ≤ x ∧ x < i then k1 (x + 1) else k1 x) ∧ y.2.1 x = (if 40 * d ≤ x ∧ x < i then k2 (x + 1) else k2 x) ∧ y.2.2.1 x = (if 40 * d ≤ x ∧ x < i then k3 (x + 1) else k3 x) ∧ y.2.2.2 x = (if 40 * d ≤ x ∧ x < i then k4 (x + 1) else k4 x)) (40 * d + (z - 1)) ?_ (40 * d + (z - 1) - 40 * d) (40 * d) (k1, k2, k3, k4) (by omega) ?_
  · rw [show 40 * d + (40 * d + (z - 1) - 40 * d) = 40 * d + (z - 1) by omega] at key
    exact key.2 x
  · intro i y hi hy
    obtain ⟨hi0, hy⟩ := hy
    refine ⟨by omega, fun x => ?_⟩
    obtain ⟨y1, y2, y3, y4⟩ := y
    have a := hy (i + 1)
    have b := hy x
    have n1 : ¬ (40 * d ≤ i + 1 ∧ i + 1 < i) := by omega
    simp only [if_neg n1] at a
    by_cases e : x = i
    · subst e
      have p : 40 * d ≤ x ∧ x < x + 1 := ⟨hi0, by omega⟩
      simp only [m_sh1, upd_s, if_pos p]
      exact a
    · simp only [m_sh1, upd_n e]
      by_cases e2 : 40 * d ≤ x ∧ x < i
      · have p : 40 * d ≤ x ∧ x < i + 1 := ⟨e2.1, by omega⟩
        simp only [if_pos e2] at b
        simp only [if_pos p]
        exact b
      · have p : ¬ (40 * d ≤ x ∧ x < i + 1) := by omega
        simp only [if_neg e2] at b
        simp only [if_neg p]
        exact b
  · refine ⟨Nat.le_refl _, fun x => ?_⟩
    have p : ¬ (40 * d ≤ x ∧ x < 40 * d) := by omega
    simp only [if_neg p]
    exact ⟨trivial, trivial, trivial, trivial⟩
theorem RLn_rem {L : LaneS} {d z : Nat} {K : Fn × Fn × Fn × Fn} (h : RLn L d (z, K)) (hz : 0 < z) : RLn (l_rem L) d (z - 1, m_shift d z K) := by
  have hsh := m_shift_at d z K
  generalize m_shift d z K = K2 at hsh ⊢
  obtain ⟨ki, ow, mr, va, fi, sz⟩ := L
  obtain ⟨kiM, owM, mrM, vaM⟩ := K
  obtain ⟨kiN, owN, mrN, vaN⟩ := K2
  obtain ⟨h1, h2, h3, h4⟩ := h
  subst h3
  refine ⟨Nat.mod_lt _ (by decide), by omega, rfl, fun j hj => ?_⟩
  have hj2 : j < sz - 1 := hj
  obtain ⟨k1, k2, k3, k4⟩ := hsh (40 * d + j)
  have p : 40 * d ≤ 40 * d + j ∧ 40 * d + j < 40 * d + (sz - 1) := ⟨by omega, by omega⟩
  rw [if_pos p] at k1 k2 k3 k4
  obtain ⟨g1, g2, g3, g4⟩ := h4 (j + 1) (by omega)
  rw [show ((fi + 1) % 40 + j) % 40 = (fi + (j + 1)) % 40 by omega]
  exact ⟨g1.trans k1.symm, g2.trans k2.symm, g3.trans k3.symm, g4.trans k4.symm⟩
theorem RLn_rem_other {L : LaneS} {d d' z z' : Nat} {K : Fn × Fn × Fn × Fn} (hd : d ≠ d') (hz : z ≤ 40) (h : RLn L d' (z', K)) : RLn L d' (z', m_shift d z K) := by
  refine RLn_other (d' := 0) (z' := 0) h (fun j hj => ?_)
  obtain ⟨k1, k2, k3, k4⟩ := m_shift_at d z K (40 * d' + j)
  have p : ¬ (40 * d ≤ 40 * d' + j ∧ 40 * d' + j < 40 * d + (z - 1)) := by omega
  rw [if_neg p] at k1 k2 k3 k4
  exact ⟨k1, k2, k3, k4⟩
/-- how long a chain of parents is looked at doesn't matter, if it is long enough -/
theorem m_bel_fuel {pa : Fn} {n ab : Nat} (hch : m_ch pa n) (hn : n ≤ 40) : ∀ (f g : Nat) (x : Int32), 0 < f → f ≤ g → (x = -1 ∨ ∃ j, x = nI j ∧ j + 2 ≤ f ∧ j < n) → m_bel pa ab g x = m_bel pa ab f x := by
  intro f
  induction f with
  | zero => intro g x h; exact absurd h (by decide)
  | succ f ih =>
    intro g x _ hg hx
    obtain ⟨g, rfl⟩ : ∃ k, g = k + 1 := ⟨g - 1, by omega⟩
    by_cases h1 : x = -1
    · rw [m_bel, m_bel, if_pos h1, if_pos h1]
    · by_cases h2 : x = nI ab
      · rw [m_bel, m_bel, if_neg h1, if_neg h1, if_pos h2, if_pos h2]
      · obtain ⟨j, e, hj, hjn⟩ := hx.resolve_left h1
        rw [m_bel, m_bel, if_neg h1, if_neg h1, if_neg h2, if_neg h2, e, ix_nI (by omega)]
        refine ih g (pa j) (by omega) (by omega) ?_
        rcases hch j hjn with e2 | ⟨j2, h3, e2⟩
        · exact Or.inl e2
        · exact Or.inr ⟨j2, e2, by omega, by omega⟩
theorem m_bel_low {pa : Fn} {n ab : Nat} (hch : m_ch pa n) (hn : n ≤ 40) (hab : ab < n) : ∀ (f : Nat) (x : Int32), (x = -1 ∨ ∃ j, x = nI j ∧ j < ab ∧ j < n) → m_bel pa ab f x = false := by
  intro f
  induction f with
  | zero => intro x _; rfl
  | succ f ih =>
    intro x hx
    by_cases h1 : x = -1
    · rw [m_bel, if_pos h1]
    · obtain ⟨j, e, hj, hjn⟩ := hx.resolve_left h1
      have h2 : ¬ x = nI ab := by rw [e]; exact fun z => absurd ((nI_eq (by omega) (by omega)).mp z) (by omega)
      rw [m_bel, if_neg h1, if_neg h2, e, ix_nI (by omega)]
      refine ih (pa j) ?_
      rcases hch j hjn with e2 | ⟨j2, h3, e2⟩
      · exact Or.inl e2
      · exact Or.inr ⟨j2, e2, by omega, by omega⟩
/-- no open call has an ended parent -/
def hop (pa oc : Fn) (n : Nat) : Prop := ∀ i, i < n → oc i = -1 → pa i = -1 ∨ ∃ j, j < i ∧ pa i = nI j ∧ oc j = -1
/-- below c -/
def bel (pa : Fn) (c j : Nat) : Bool := m_bel pa c (j + 1) (pa j)
theorem nI_nm1 {j : Nat} (h : j < 2 ^ 31) : ¬ nI j = -1 := by
  intro e
  have h1 : ¬ nI j < 0 := nI_pos h
  rw [e] at h1
  exact h1 (by decide +kernel)
theorem bel_up {pa : Fn} {n c i j : Nat} (hch : m_ch pa n) (hn : n ≤ 40) (hc : c < n) (hi : i < n) (hj : j < i) (e : pa i = nI j) : bel pa c i = if j = c then true else bel pa c j := by
  unfold bel
  rw [m_bel, e, if_neg (nI_nm1 (by omega))]
  by_cases h : j = c
  · subst h; rw [if_pos rfl, if_pos rfl]
  · have h2 : ¬ nI j = nI c := fun z => h ((nI_eq (by omega) (by omega)).mp z)
    rw [if_neg h2, if_neg h, ix_nI (by omega)]
    refine m_bel_fuel hch hn (j + 1) i (pa j) (by omega) (by omega) ?_
    rcases hch j (by omega) with e2 | ⟨j2, h3, e2⟩
    · exact Or.inl e2
    · exact Or.inr ⟨j2, e2, by omega, by omega⟩
/-- the outcomes when the calls below i are cancelled -/
def fo (pa oc : Fn) (c : Nat) (o : Int32) (i : Nat) : Fn := fun j => if j < i ∧ j ≠ c ∧ oc j = -1 ∧ bel pa c j = true then nI 1 else upd oc c o j
theorem fo_s {pa oc : Fn} {c i : Nat} {o : Int32} (hic : c < i) : fo pa oc c o (i + 1) = if oc i = -1 ∧ bel pa c i = true then upd (fo pa oc c o i) i (nI 1) else fo pa oc c o i := by
  by_cases h : oc i = -1 ∧ bel pa c i = true
  · rw [if_pos h]
    funext j
    by_cases e : j = i
    · subst e
      rw [upd_s, fo, if_pos ⟨by omega, by omega, h.1, h.2⟩]
    · rw [upd_n e]
      unfold fo
      by_cases q : j < i ∧ j ≠ c ∧ oc j = -1 ∧ bel pa c j = true
      · rw [if_pos q, if_pos ⟨by omega, q.2⟩]
      · rw [if_neg q, if_neg (fun z => q ⟨by omega, z.2⟩)]
  · rw [if_neg h]
    funext j
    unfold fo
    by_cases q : j < i ∧ j ≠ c ∧ oc j = -1 ∧ bel pa c j = true
    · rw [if_pos q, if_pos ⟨by omega, q.2⟩]
    · rw [if_neg q, if_neg]
      intro z
      by_cases e : j = i
      · subst e; exact h ⟨z.2.2.1, z.2.2.2⟩
      · exact q ⟨by omega, z.2⟩
theorem fo_i {pa oc : Fn} {c i : Nat} {o : Int32} (hic : c < i) : fo pa oc c o i i = oc i := by
  rw [fo, if_neg (fun z => absurd z.1 (Nat.lt_irrefl i)), upd_n (by omega)]
theorem hep_bel {pa oc : Fn} {n c i : Nat} {o : Int32} (hch : m_ch pa n) (hn : n ≤ 40) (hh : hop pa oc n) (hc : c < n) (hi : i < n) (hic : c < i) (ho : ¬ o = -1) (hoi : oc i = -1) : k_hep pa (fo pa oc c o i) n i = bel pa c i := by
  rcases hh i hi hoi with e | ⟨j, hj, e, hoj⟩
  · have h1 : k_hep pa (fo pa oc c o i) n i = false := by
      unfold k_hep
      rw [e]
      simp only [show ¬ (¬ (-1 : Int32) < 0 ∧ ¬ nI n ≤ -1) from fun z => z.1 (by decide +kernel), decide_false, Bool.false_and]
    rw [h1, bel, e, m_bel, if_pos rfl]
  · have h0 : (¬ nI j < 0 ∧ ¬ nI n ≤ nI j) := ⟨nI_pos (by omega), nI_ge (by omega) (by omega)⟩
    have h1 : k_hep pa (fo pa oc c o i) n i = decide (¬ fo pa oc c o i j = -1) := by
      unfold k_hep
      rw [e, nI_clamp (by omega)]
      simp only [h0, decide_true, Bool.true_and, not_false_eq_true, and_self]
    rw [h1, bel_up hch hn hc hi hj e]
    by_cases hjc : j = c
    · subst hjc
      rw [if_pos rfl, fo, if_neg (fun z => z.2.1 rfl), upd_s]
      exact decide_eq_true ho
    · rw [if_neg hjc]
      by_cases hb : bel pa c j = true
      · rw [hb, fo, if_pos ⟨hj, hjc, hoj, hb⟩]
        exact decide_eq_true (nI_nm1 (by decide))
      · rw [fo, if_neg (fun z => hb z.2.2.2), upd_n hjc, hoj]
        rw [Bool.not_eq_true] at hb
        rw [hb]
        exact decide_eq_false (fun z => z rfl)
theorem hop_fo {pa oc : Fn} {n c : Nat} {o : Int32} (hch : m_ch pa n) (hn : n ≤ 40) (hh : hop pa oc n) (hc : c < n) (ho : ¬ o = -1) : hop pa (fo pa oc c o n) n := by
  intro i hi h
  have h1 : ¬ (i < n ∧ i ≠ c ∧ oc i = -1 ∧ bel pa c i = true) := fun z => by
    rw [fo, if_pos z] at h; exact nI_nm1 (by decide) h
  rw [fo, if_neg h1] at h
  have hic : i ≠ c := fun z => by rw [z, upd_s] at h; exact ho h
  rw [upd_n hic] at h
  have hb : ¬ bel pa c i = true := fun z => h1 ⟨hi, hic, h, z⟩
  rcases hh i hi h with e | ⟨j, hj, e, hoj⟩
  · exact Or.inl e
  · refine Or.inr ⟨j, hj, e, ?_⟩
    rw [bel_up hch hn hc hi hj e] at hb
    by_cases hjc : j = c
    · rw [if_pos hjc] at hb; exact absurd rfl hb
    · rw [if_neg hjc] at hb
      rw [fo, if_neg (fun z => hb z.2.2.2), upd_n hjc, hoj]
theorem fo_0 {pa oc : Fn} {c n i : Nat} {o : Int32} (h : fo pa oc c o n i = 0) : (i ≠ c ∧ oc i = 0) ∨ (i = c ∧ o = 0) := by
  unfold fo at h
  by_cases q : i < n ∧ i ≠ c ∧ oc i = -1 ∧ bel pa c i = true
  · rw [if_pos q] at h; exact absurd h (by decide +kernel)
  · rw [if_neg q] at h
    by_cases e : i = c
    · subst e; rw [upd_s] at h; exact Or.inr ⟨rfl, h⟩
    · rw [upd_n e] at h; exact Or.inl ⟨e, h⟩
