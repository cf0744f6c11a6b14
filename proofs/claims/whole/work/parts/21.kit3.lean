/-- the two counts of frames of the model -/
def fmf (a b : Nat) : Fn := fun j => if j = 0 then nI a else if j = 1 then nI b else 0
theorem fmf_u0 {a b c : Nat} : upd (fmf a b) 0 (nI c) = fmf c b := by
  funext j; by_cases h : j = 0 <;> simp [upd, fmf, h]
theorem fmf_u1 {a b c : Nat} : upd (fmf a b) 1 (nI c) = fmf a c := by
  funext j; by_cases h : j = 0 <;> by_cases h1 : j = 1 <;> simp_all [upd, fmf]
theorem k_zn {P : Prop} [Decidable P] {r : Int32} (h : r = if P then nI 1 else nI 0) : narrow .boolean (.int r) = .int r := by
  by_cases q : P
  · rw [if_pos q] at h; subst h; decide +kernel
  · rw [if_neg q] at h; subst h; decide +kernel
abbrev FS : Type := Nat × Fn × Fn × Fn × Fn
def m_send (d : Nat) (F : FS) (kd o q v : Int32) : FS := match F with
  | (z, ki, ow, mr, va) => if ¬ 40 ≤ z then (z + 1, upd ki (40 * d + z) kd, upd ow (40 * d + z) o, upd mr (40 * d + z) q, upd va (40 * d + z) v) else (z, ki, ow, mr, va)
def m_sh1 (k : Nat) (F : Fn × Fn × Fn × Fn) : Fn × Fn × Fn × Fn := match F with
  | (ki, ow, mr, va) => (upd ki k (ki (k + 1)), upd ow k (ow (k + 1)), upd mr k (mr (k + 1)), upd va k (va (k + 1)))
def m_shift (d z : Nat) (F : Fn × Fn × Fn × Fn) : Fn × Fn × Fn × Fn := it m_sh1 (40 * d + (z - 1) - 40 * d) (40 * d) F
def g_in (x y z : Int32) : Bool := decide (¬ x < y ∧ ¬ z < x)
theorem g_in_iff {x y z : Int32} : g_in x y z = true ↔ (¬ x < y ∧ ¬ z < x) := decide_eq_true_iff
theorem m_isc {n : Nat} {x : Int32} (hn : n ≤ 40) : (if g_in x (nI 0) (nI n - nI 1) = true then nI 1 else nI 0) = (if g_has n x = true then nI 1 else nI 0) := by
  have h : g_in x (nI 0) (nI n - nI 1) = true ↔ g_has n x = true := by
    rw [g_has_iff, g_in_iff]
    have e0 : nI 0 = (0 : Int32) := nI_0
    rw [e0]
    rcases pk_ix x (n := 41) (by decide) with q | q | ⟨j, hj, rfl⟩
    · exact ⟨fun h => absurd q h.1, fun h => absurd q h.1⟩
    · have h1 : nI n ≤ x := Int32.le_trans (nI_le (by omega) (by decide)) q
      rcases Nat.eq_zero_or_pos n with e | e
      · subst e
        exact ⟨fun h => absurd (Int32.lt_of_lt_of_le (by decide +kernel : nI 0 - nI 1 < nI 41) q) h.2, fun h => absurd h1 h.2⟩
      · rw [pk_sub (by omega)]
        exact ⟨fun h => absurd (Int32.lt_of_lt_of_le (nI_lt (by omega) (by decide)) q) h.2, fun h => absurd h1 h.2⟩
    · rcases Nat.eq_zero_or_pos n with e | e
      · subst e
        refine ⟨fun h => absurd ?_ h.2, fun h => absurd (nI_le (by omega) (by omega)) h.2⟩
        exact Int32.lt_of_lt_of_le (by decide +kernel : nI 0 - nI 1 < nI 0) (nI_le (Nat.zero_le _) (by omega))
      · rw [pk_sub (by omega), nI_ltI (by omega) (by omega), nI_leI (by omega) (by omega)]
        constructor
        · rintro ⟨h1, h2⟩; exact ⟨h1, by omega⟩
        · rintro ⟨h1, h2⟩; exact ⟨h1, by omega⟩
  by_cases h2 : g_has n x = true
  · rw [if_pos h2, if_pos (h.mpr h2)]
  · rw [if_neg h2, if_neg (fun z => h2 (h.mp z))]
def m_bel (pa : Fn) (ab : Nat) : Nat → Int32 → Bool
  | 0, _ => false
  | f + 1, x => if x = -1 then false else if x = nI ab then true else m_bel pa ab f (pa (ix x))
/-- parents are smaller, or none -/
def m_ch (pa : Fn) (n : Nat) : Prop := ∀ i, i < n → pa i = -1 ∨ ∃ j, j < i ∧ pa i = nI j
def m_tok (tk o : Int32) : Int32 := if o = 0 then (if nI 100 ≤ tk then tk + nI 0 else tk + nI 1) else tk + nI 0
def m_orph1 (pa : Fn) (ab : Nat) (i : Nat) (x : Fn × FS × Int32) : Fn × FS × Int32 := match x with
  | (oc, F, k) => if oc i = -1 ∧ m_bel pa ab (i + 1) (pa i) = true then (upd oc i (nI 1), m_send 0 F (nI 1) (nI i) (nI 0) (nI 0), k + nI 1) else (oc, F, k)
def m_fin (n : Nat) (pa : Fn) (tk : Int32) (oc : Fn) (F : FS) (c : Nat) (o : Int32) (tells : Bool) : Int32 × Fn × FS × Int32 :=
  (m_tok tk o, it (m_orph1 pa c) (n - (c + 1)) (c + 1) (upd oc c o, (if tells = true then m_send 0 F (nI 1) (nI c) (nI 0) (nI 0) else F), nI 1))
theorem m_ch_x {pa : Fn} {n k : Nat} (h : m_ch pa n) (hk : k < n) : pa k = -1 ∨ ∃ j, pa k = nI j ∧ j + 2 ≤ k + 1 ∧ j < n := by
  rcases h k hk with e | ⟨j, h1, h2⟩
  · exact Or.inl e
  · exact Or.inr ⟨j, h2, by omega, by omega⟩
theorem m_ch_y {pa : Fn} {n j f : Nat} (h : m_ch pa n) (hj : j < n) (hf : j + 2 ≤ f) : pa j = -1 ∨ ∃ j2, pa j = nI j2 ∧ j2 + 2 ≤ f - 1 ∧ j2 < n := by
  rcases h j hj with e | ⟨j2, h1, h2⟩
  · exact Or.inl e
  · exact Or.inr ⟨j2, h2, by omega, by omega⟩
theorem m_bel_step {pa : Fn} {ab f j : Nat} {x : Int32} (hf : 0 < f) (e : x = nI j) (h1 : ¬ x = -1) (h2 : ¬ x = nI ab) (hj : j < 2 ^ 31 := by omega) : m_bel pa ab f x = m_bel pa ab (f - 1) (pa j) := by
  obtain ⟨f, rfl⟩ : ∃ g, f = g + 1 := ⟨f - 1, by omega⟩
  rw [m_bel, if_neg h1, if_neg h2, e, ix_nI hj]
  rfl
theorem m_bel_e0 {pa : Fn} {ab f : Nat} {x : Int32} (hf : 0 < f) (h1 : x = -1) : m_bel pa ab f x = false := by
  obtain ⟨f, rfl⟩ : ∃ g, f = g + 1 := ⟨f - 1, by omega⟩
  rw [m_bel, if_pos h1]
theorem m_bel_e1 {pa : Fn} {ab f : Nat} {x : Int32} (hf : 0 < f) (h1 : ¬ x = -1) (h2 : x = nI ab) : m_bel pa ab f x = true := by
  obtain ⟨f, rfl⟩ : ∃ g, f = g + 1 := ⟨f - 1, by omega⟩
  rw [m_bel, if_neg h1, if_pos h2]
