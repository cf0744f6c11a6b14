def P0 (n : Nat) (kd o _ v : Int32) : Prop := (kd = nI 0 ∨ kd = nI 1 ∨ kd = nI 2) ∧ (∃ c, c < n ∧ o = nI c) ∧ (kd = nI 2 → ∃ a, a ≤ 10 ∧ v = nI a)
def P1 (n : Nat) (kd o q _ : Int32) : Prop := (∃ c, c < n ∧ o = nI c) ∧ (kd = nI 3 → q = nI 0 ∨ q = nI 3)
/-- the system and the model agree, after k calls -/
def Rel (k n : Nat) (me pa oc cv cvM ss cr se re : Fn) (bu : Int32) (L0 L1 : LaneS) (z0 z1 : Nat) (K : Fn × Fn × Fn × Fn) : Prop :=
  (n ≤ 40 ∧ m_ch pa n ∧ hop pa oc n) ∧ ((∀ i, oc i = 0 → cv i = cvM i) ∧ bu ≤ nI 100 ∧ (∀ i, i < n → me i = nI 0 ∨ me i = nI 1 ∨ me i = nI 2 ∨ me i = nI 3) ∧ ok4 ss)
    ∧ ((∀ i, ∃ a, a ≤ 2 + 10 * k ∧ cr i = nI a) ∧ (∀ i, nI 0 ≤ se i) ∧ (∀ i, re i = nI 0 ∨ re i = nI 3)) ∧ (RLn L0 0 (z0, K) ∧ RLn L1 1 (z1, K) ∧ FVp (P0 n) L0 ∧ FVp (P1 n) L1)
def outOK (r : Int32) (f1 : Nat → Int64) (b : Int32) : Prop := r = nI 0 → f1 0 = Int32.toInt64 b
theorem Rel.up {k n : Nat} {me pa oc cv cvM ss cr se re : Fn} {bu : Int32} {L0 L1 : LaneS} {z0 z1 : Nat} {K : Fn × Fn × Fn × Fn} (R : Rel k n me pa oc cv cvM ss cr se re bu L0 L1 z0 z1 K) : Rel (k + 1) n me pa oc cv cvM ss cr se re bu L0 L1 z0 z1 K := by
  obtain ⟨h1, h2, ⟨h3, h4⟩, h5⟩ := R
  refine ⟨h1, h2, ⟨fun i => ?_, h4⟩, h5⟩
  obtain ⟨a, h6, h7⟩ := h3 i
  exact ⟨a, by omega, h7⟩
theorem n10 : ¬ nI 1 = nI 0 := by decide +kernel
theorem n20 : ¬ nI 2 = nI 0 := by decide +kernel
theorem n30 : ¬ nI 3 = nI 0 := by decide +kernel
theorem outNo1 {f1 : Nat → Int64} {b : Int32} : outOK (nI 1) f1 b := fun z => absurd z n10
theorem outNo2 {f1 : Nat → Int64} {b : Int32} : outOK (nI 2) f1 b := fun z => absurd z n20
theorem outNo3 {f1 : Nat → Int64} {b : Int32} : outOK (nI 3) f1 b := fun z => absurd z n30
theorem outYes {f : Nat → Int64} {r b : Int32} : outOK r (vp_updL f 0 (Int32.toInt64 b)) b := fun _ => pk_uLs
theorem has_ix {n : Nat} {x : Int32} (h : g_has n x = true) (hn : n ≤ 40) : ix x < n ∧ x = nI (ix x) := by
  obtain ⟨j, hj, rfl⟩ := g_has_j h (by omega)
  rw [ix_nI (by omega)]
  exact ⟨hj, rfl⟩
theorem item_max (x : Int32) : (if x < nI 0 then nI 0 else x) = m_item x := by
  unfold m_item
  rw [nI_0]
  by_cases h : x < 0
  · rw [if_pos h, if_neg (fun z => z (Int32.le_of_lt h))]
  · rw [if_neg h]
    by_cases h2 : x ≤ 0
    · rw [if_neg (fun z => z h2)]
      exact Int32.le_antisymm h2 (Int32.not_lt.mp h)
    · rw [if_pos h2]
theorem gma {q x : Int32} : g_ma q x = true ↔ (g_in q (nI 0) (nI 3) = true ∧ g_in x (-1000) (nI 1000) = true) := by
  rw [g_ma_iff, g_in_iff, g_in_iff, nI_0, Int32.not_lt (a := nI 3), Int32.not_lt (a := nI 1000)]
  constructor
  · rintro ⟨h1, h2, h3, h4⟩; exact ⟨⟨h1, h2⟩, h3, h4⟩
  · rintro ⟨⟨h1, h2⟩, h3, h4⟩; exact ⟨h1, h2, h3, h4⟩
theorem four {q : Int32} (h : g_in q (nI 0) (nI 3) = true) : q = nI 0 ∨ q = nI 1 ∨ q = nI 2 ∨ q = nI 3 := by
  obtain ⟨h1, h2⟩ := g_in_iff.mp h
  rw [nI_0] at h1
  rcases pk_ix q (n := 4) (by decide) with z | z | ⟨j, hj, rfl⟩
  · exact absurd z h1
  · exact absurd (Int32.lt_of_lt_of_le (by decide +kernel : nI 3 < nI 4) z) h2
  · have : j = 0 ∨ j = 1 ∨ j = 2 ∨ j = 3 := by omega
    rcases this with rfl | rfl | rfl | rfl
    · exact Or.inl rfl
    · exact Or.inr (Or.inl rfl)
    · exact Or.inr (Or.inr (Or.inl rfl))
    · exact Or.inr (Or.inr (Or.inr rfl))
section PU
variable {k n c0 c1 : Nat} {th ti ad bu r res b x y q tm pp : Int32} {me ar dl pa oc cv cvM rq la rc su ss cr se re sv : Fn} {ki ow mr va kiB owB mrB vaB kM oM mM vM : Fn} {fi sz fiB szB z0 z1 : Nat} {f f1 : Nat → Int64}
theorem op_outcome {u1 : Unit} {v : Int32} (R : Rel k n me pa oc cv cvM ss cr se re bu (ki, ow, mr, va, fi, sz) (kiB, owB, mrB, vaB, fiB, szB) z0 z1 (kM, oM, mM, vM)) (hL : ((if g_has n x = true then 0 else 1) = 0 ∧ r = nI 0 ∧ (((if g_has n x = true then 0 else 1) = 0 ∧ (res) = oc (ix x))) ∧ f1 = vp_updL f 0 (Int32.toInt64 res)) ∨ (∃ k, (if g_has n x = true then 0 else 1) = k ∧ k ≠ 0 ∧ ((k = 1 ∧ r = nI 1)) ∧ u1 = () ∧ f1 = f)) (hM : v = (if g_has n x = true then nI 0 else nI 1) ∧ b = if g_has n x = true then oc (ix x) else nI 0) : v = r ∧ outOK r f1 b := by
  obtain ⟨rfl, rfl⟩ := hM
  rcases hL with ⟨hX, rfl, ⟨-, rfl⟩, rfl⟩ | ⟨j, rfl, hj, hc, -, rfl⟩
  · by_cases h : g_has n x = true
    · rw [if_pos h, if_pos h]; exact ⟨rfl, outYes⟩
    · rw [if_neg h] at hX; exact absurd hX (by decide)
  · by_cases h : g_has n x = true
    · rw [if_pos h] at hj; exact absurd rfl hj
    · rw [if_neg h, if_neg h]
      obtain ⟨-, rfl⟩ := hc
      exact ⟨rfl, outNo1⟩

theorem op_deadline {u1 : Unit} {v : Int32} (R : Rel k n me pa oc cv cvM ss cr se re bu (ki, ow, mr, va, fi, sz) (kiB, owB, mrB, vaB, fiB, szB) z0 z1 (kM, oM, mM, vM)) (hL : ((if g_has n x = true then 0 else 1) = 0 ∧ r = nI 0 ∧ (((if g_has n x = true then 0 else 1) = 0 ∧ (res) = dl (ix x))) ∧ f1 = vp_updL f 0 (Int32.toInt64 res)) ∨ (∃ k, (if g_has n x = true then 0 else 1) = k ∧ k ≠ 0 ∧ ((k = 1 ∧ r = nI 1)) ∧ u1 = () ∧ f1 = f)) (hM : v = (if g_has n x = true then nI 0 else nI 1) ∧ b = if g_has n x = true then dl (ix x) else nI 0) : v = r ∧ outOK r f1 b := by
  obtain ⟨rfl, rfl⟩ := hM
  rcases hL with ⟨hX, rfl, ⟨-, rfl⟩, rfl⟩ | ⟨j, rfl, hj, hc, -, rfl⟩
  · by_cases h : g_has n x = true
    · rw [if_pos h, if_pos h]; exact ⟨rfl, outYes⟩
    · rw [if_neg h] at hX; exact absurd hX (by decide)
  · by_cases h : g_has n x = true
    · rw [if_pos h] at hj; exact absurd rfl hj
    · rw [if_neg h, if_neg h]
      obtain ⟨-, rfl⟩ := hc
      exact ⟨rfl, outNo1⟩

theorem op_attempts {u1 : Unit} {v : Int32} (R : Rel k n me pa oc cv cvM ss cr se re bu (ki, ow, mr, va, fi, sz) (kiB, owB, mrB, vaB, fiB, szB) z0 z1 (kM, oM, mM, vM)) (hL : ((if g_has n x = true then 0 else 1) = 0 ∧ r = nI 0 ∧ (((if g_has n x = true then 0 else 1) = 0 ∧ (res) = rq (ix x))) ∧ f1 = vp_updL f 0 (Int32.toInt64 res)) ∨ (∃ k, (if g_has n x = true then 0 else 1) = k ∧ k ≠ 0 ∧ ((k = 1 ∧ r = nI 1)) ∧ u1 = () ∧ f1 = f)) (hM : v = (if g_has n x = true then nI 0 else nI 1) ∧ b = if g_has n x = true then rq (ix x) else nI 0) : v = r ∧ outOK r f1 b := by
  obtain ⟨rfl, rfl⟩ := hM
  rcases hL with ⟨hX, rfl, ⟨-, rfl⟩, rfl⟩ | ⟨j, rfl, hj, hc, -, rfl⟩
  · by_cases h : g_has n x = true
    · rw [if_pos h, if_pos h]; exact ⟨rfl, outYes⟩
    · rw [if_neg h] at hX; exact absurd hX (by decide)
  · by_cases h : g_has n x = true
    · rw [if_pos h] at hj; exact absurd rfl hj
    · rw [if_neg h, if_neg h]
      obtain ⟨-, rfl⟩ := hc
      exact ⟨rfl, outNo1⟩

theorem op_received {u1 : Unit} {v : Int32} (R : Rel k n me pa oc cv cvM ss cr se re bu (ki, ow, mr, va, fi, sz) (kiB, owB, mrB, vaB, fiB, szB) z0 z1 (kM, oM, mM, vM)) (hL : ((if g_has n x = true then 0 else 1) = 0 ∧ r = nI 0 ∧ (((if g_has n x = true then 0 else 1) = 0 ∧ (res) = rc (ix x))) ∧ f1 = vp_updL f 0 (Int32.toInt64 res)) ∨ (∃ k, (if g_has n x = true then 0 else 1) = k ∧ k ≠ 0 ∧ ((k = 1 ∧ r = nI 1)) ∧ u1 = () ∧ f1 = f)) (hM : v = (if g_has n x = true then nI 0 else nI 1) ∧ b = if g_has n x = true then rc (ix x) else nI 0) : v = r ∧ outOK r f1 b := by
  obtain ⟨rfl, rfl⟩ := hM
  rcases hL with ⟨hX, rfl, ⟨-, rfl⟩, rfl⟩ | ⟨j, rfl, hj, hc, -, rfl⟩
  · by_cases h : g_has n x = true
    · rw [if_pos h, if_pos h]; exact ⟨rfl, outYes⟩
    · rw [if_neg h] at hX; exact absurd hX (by decide)
  · by_cases h : g_has n x = true
    · rw [if_pos h] at hj; exact absurd rfl hj
    · rw [if_neg h, if_neg h]
      obtain ⟨-, rfl⟩ := hc
      exact ⟨rfl, outNo1⟩

theorem op_sum {u1 : Unit} {v : Int32} (R : Rel k n me pa oc cv cvM ss cr se re bu (ki, ow, mr, va, fi, sz) (kiB, owB, mrB, vaB, fiB, szB) z0 z1 (kM, oM, mM, vM)) (hL : ((if g_has n x = true then 0 else 1) = 0 ∧ r = nI 0 ∧ (((if g_has n x = true then 0 else 1) = 0 ∧ (res) = su (ix x))) ∧ f1 = vp_updL f 0 (Int32.toInt64 res)) ∨ (∃ k, (if g_has n x = true then 0 else 1) = k ∧ k ≠ 0 ∧ ((k = 1 ∧ r = nI 1)) ∧ u1 = () ∧ f1 = f)) (hM : v = (if g_has n x = true then nI 0 else nI 1) ∧ b = if g_has n x = true then su (ix x) else nI 0) : v = r ∧ outOK r f1 b := by
  obtain ⟨rfl, rfl⟩ := hM
  rcases hL with ⟨hX, rfl, ⟨-, rfl⟩, rfl⟩ | ⟨j, rfl, hj, hc, -, rfl⟩
  · by_cases h : g_has n x = true
    · rw [if_pos h, if_pos h]; exact ⟨rfl, outYes⟩
    · rw [if_neg h] at hX; exact absurd hX (by decide)
  · by_cases h : g_has n x = true
    · rw [if_pos h] at hj; exact absurd rfl hj
    · rw [if_neg h, if_neg h]
      obtain ⟨-, rfl⟩ := hc
      exact ⟨rfl, outNo1⟩

theorem op_task {u1 : Unit} {v : Int32} (R : Rel k n me pa oc cv cvM ss cr se re bu (ki, ow, mr, va, fi, sz) (kiB, owB, mrB, vaB, fiB, szB) z0 z1 (kM, oM, mM, vM)) (hL : ((if g_has n x = true then 0 else 1) = 0 ∧ r = nI 0 ∧ (((if g_has n x = true then 0 else 1) = 0 ∧ (res) = ss (ix x))) ∧ f1 = vp_updL f 0 (Int32.toInt64 res)) ∨ (∃ k, (if g_has n x = true then 0 else 1) = k ∧ k ≠ 0 ∧ ((k = 1 ∧ r = nI 1)) ∧ u1 = () ∧ f1 = f)) (hM : v = (if g_has n x = true then nI 0 else nI 1) ∧ b = if g_has n x = true then ss (ix x) else nI 0) : v = r ∧ outOK r f1 b := by
  obtain ⟨rfl, rfl⟩ := hM
  rcases hL with ⟨hX, rfl, ⟨-, rfl⟩, rfl⟩ | ⟨j, rfl, hj, hc, -, rfl⟩
  · by_cases h : g_has n x = true
    · rw [if_pos h, if_pos h]; exact ⟨rfl, outYes⟩
    · rw [if_neg h] at hX; exact absurd hX (by decide)
  · by_cases h : g_has n x = true
    · rw [if_pos h] at hj; exact absurd rfl hj
    · rw [if_neg h, if_neg h]
      obtain ⟨-, rfl⟩ := hc
      exact ⟨rfl, outNo1⟩

theorem op_credits {u1 : Unit} {v : Int32} (R : Rel k n me pa oc cv cvM ss cr se re bu (ki, ow, mr, va, fi, sz) (kiB, owB, mrB, vaB, fiB, szB) z0 z1 (kM, oM, mM, vM)) (hL : ((if g_has n x = true then 0 else 1) = 0 ∧ r = nI 0 ∧ (((if g_has n x = true then 0 else 1) = 0 ∧ (res) = cr (ix x))) ∧ f1 = vp_updL f 0 (Int32.toInt64 res)) ∨ (∃ k, (if g_has n x = true then 0 else 1) = k ∧ k ≠ 0 ∧ ((k = 1 ∧ r = nI 1)) ∧ u1 = () ∧ f1 = f)) (hM : v = (if g_has n x = true then nI 0 else nI 1) ∧ b = if g_has n x = true then cr (ix x) else nI 0) : v = r ∧ outOK r f1 b := by
  obtain ⟨rfl, rfl⟩ := hM
  rcases hL with ⟨hX, rfl, ⟨-, rfl⟩, rfl⟩ | ⟨j, rfl, hj, hc, -, rfl⟩
  · by_cases h : g_has n x = true
    · rw [if_pos h, if_pos h]; exact ⟨rfl, outYes⟩
    · rw [if_neg h] at hX; exact absurd hX (by decide)
  · by_cases h : g_has n x = true
    · rw [if_pos h] at hj; exact absurd rfl hj
    · rw [if_neg h, if_neg h]
      obtain ⟨-, rfl⟩ := hc
      exact ⟨rfl, outNo1⟩

theorem op_value {u1 : Unit} {v : Int32} (R : Rel k n me pa oc cv cvM ss cr se re bu (ki, ow, mr, va, fi, sz) (kiB, owB, mrB, vaB, fiB, szB) z0 z1 (kM, oM, mM, vM)) (hL : ((if g_has n x = true then (if oc (ix x) = 0 then 0 else 3) else 1) = 0 ∧ r = nI 0 ∧ (((if g_has n x = true then (if oc (ix x) = 0 then 0 else 3) else 1) = 0 ∧ (res) = cv (ix x))) ∧ f1 = vp_updL f 0 (Int32.toInt64 res)) ∨ (∃ k, (if g_has n x = true then (if oc (ix x) = 0 then 0 else 3) else 1) = k ∧ k ≠ 0 ∧ ((k = 1 ∧ r = nI 1) ∨ (k = 3 ∧ r = nI 2)) ∧ u1 = () ∧ f1 = f)) (hM : v = (if g_has n x = true then (if oc (ix x) = 0 then nI 0 else nI 2) else nI 1) ∧ b = if g_has n x = true then (if oc (ix x) = 0 then cvM (ix x) else nI 0) else nI 0) : v = r ∧ outOK r f1 b := by
  obtain ⟨rfl, rfl⟩ := hM
  rcases hL with ⟨hX, rfl, ⟨-, rfl⟩, rfl⟩ | ⟨j, rfl, hj, hc, -, rfl⟩
  · by_cases h : g_has n x = true
    · by_cases h2 : oc (ix x) = 0
      · simp only [if_pos h, if_pos h2, R.2.1.1 _ h2]; exact ⟨trivial, outYes⟩
      · simp only [if_pos h, if_neg h2] at hX; exact absurd hX (by decide)
    · simp only [if_neg h] at hX; exact absurd hX (by decide)
  · by_cases h : g_has n x = true
    · by_cases h2 : oc (ix x) = 0
      · simp only [if_pos h, if_pos h2] at hj; exact absurd rfl hj
      · simp only [if_pos h, if_neg h2] at hc ⊢
        rcases hc with ⟨z, -⟩ | ⟨-, rfl⟩
        · exact absurd z (by decide)
        · exact ⟨rfl, outNo2⟩
    · simp only [if_neg h] at hc ⊢
      rcases hc with ⟨-, rfl⟩ | ⟨z, -⟩
      · exact ⟨rfl, outNo1⟩
      · exact absurd z (by decide)

theorem op_local {u1 : Unit} {v : Int32} (R : Rel k n me pa oc cv cvM ss cr se re bu (ki, ow, mr, va, fi, sz) (kiB, owB, mrB, vaB, fiB, szB) z0 z1 (kM, oM, mM, vM)) (hL : ((if g_ma q x = true then (if q = nI 2 then 3 else 0) else 2) = 0 ∧ r = nI 0 ∧ (((if g_ma q x = true then (if q = nI 2 then 3 else 0) else 2) = 0 ∧ (res) = s_ans ad q x)) ∧ f1 = vp_updL f 0 (Int32.toInt64 res)) ∨ (∃ k, (if g_ma q x = true then (if q = nI 2 then 3 else 0) else 2) = k ∧ k ≠ 0 ∧ ((k = 2 ∧ r = nI 1) ∨ (k = 3 ∧ r = nI 2)) ∧ u1 = () ∧ f1 = f)) (hM : (v, b) = m_loc ad q x) : v = r ∧ outOK r f1 b := by
  rcases hL with ⟨hX, rfl, ⟨-, rfl⟩, rfl⟩ | ⟨j, rfl, hj, hc, -, rfl⟩
  · by_cases h : g_ma q x = true
    · obtain ⟨h1, h2⟩ := gma.mp h
      by_cases h3 : q = nI 2
      · simp only [if_pos h, if_pos h3] at hX; exact absurd hX (by decide)
      · simp only [m_loc, if_pos h1, if_pos h2, if_neg h3, Prod.mk.injEq] at hM
        obtain ⟨rfl, rfl⟩ := hM
        refine ⟨rfl, ?_⟩
        have e : s_ans ad q x = if q = 0 then x * x else if q = nI 1 then ad + x else m_item x := by
          unfold s_ans
          rw [nI_0, ← item_max]
          by_cases a0 : q = 0
          · rw [if_pos a0, if_pos a0]
          · rw [if_neg a0, if_neg a0]
            by_cases a1 : q = nI 1
            · rw [if_pos a1, if_pos a1]
            · rw [if_neg a1, if_neg a1, if_neg h3]
              rcases four h1 with z | z | z | z
              · exact absurd (z.trans nI_0) a0
              · exact absurd z a1
              · exact absurd z h3
              · rw [if_pos z, nI_0]
        rw [e]
        exact outYes
    · simp only [if_neg h] at hX; exact absurd hX (by decide)
  · by_cases h : g_ma q x = true
    · obtain ⟨h1, h2⟩ := gma.mp h
      by_cases h3 : q = nI 2
      · simp only [m_loc, if_pos h1, if_pos h2, if_pos h3, Prod.mk.injEq] at hM
        obtain ⟨rfl, rfl⟩ := hM
        simp only [if_pos h, if_pos h3] at hc
        rcases hc with ⟨z, -⟩ | ⟨-, rfl⟩
        · exact absurd z (by decide)
        · exact ⟨rfl, outNo2⟩
      · simp only [if_pos h, if_neg h3] at hj; exact absurd rfl hj
    · have e : (v, b) = (nI 1, nI 0) := by
        rw [hM]; unfold m_loc
        by_cases h1 : g_in q (nI 0) (nI 3) = true
        · by_cases h2 : g_in x (-1000) (nI 1000) = true
          · exact absurd (gma.mpr ⟨h1, h2⟩) h
          · rw [if_pos h1, if_neg h2]
        · rw [if_neg h1]
      simp only [Prod.mk.injEq] at e
      obtain ⟨rfl, rfl⟩ := e
      simp only [if_neg h] at hc
      rcases hc with ⟨-, rfl⟩ | ⟨z, -⟩
      · exact ⟨rfl, outNo1⟩
      · exact absurd z (by decide)

theorem op_frames {u1 : Unit} {v : Int32} (R : Rel k n me pa oc cv cvM ss cr se re bu (ki, ow, mr, va, fi, sz) (kiB, owB, mrB, vaB, fiB, szB) z0 z1 (kM, oM, mM, vM)) (hL : ((if g_dir x = true then 0 else 2) = 0 ∧ r = nI 0 ∧ (((if g_dir x = true then 0 else 2) = 0 ∧ (res) = if x = nI 0 then nI sz else nI szB)) ∧ f1 = vp_updL f 0 (Int32.toInt64 res)) ∨ (∃ k, (if g_dir x = true then 0 else 2) = k ∧ k ≠ 0 ∧ ((k = 2 ∧ r = nI 1)) ∧ u1 = () ∧ f1 = f)) (hM : (v, b) = m_frs z0 z1 x) : v = r ∧ outOK r f1 b := by
  obtain ⟨-, -, -, ⟨-, -, e0, -⟩, ⟨-, -, e1, -⟩, -⟩ := R
  rcases hL with ⟨hX, rfl, ⟨-, rfl⟩, rfl⟩ | ⟨j, rfl, hj, hc, -, rfl⟩
  · by_cases h : g_dir x = true
    · rcases g_dir_iff.mp h with rfl | rfl
      · simp only [m_frs, if_true, Prod.mk.injEq] at hM
        obtain ⟨rfl, rfl⟩ := hM
        simp only [if_true, e0]; exact ⟨trivial, outYes⟩
      · simp only [m_frs, if_true, if_neg n10, Prod.mk.injEq] at hM
        obtain ⟨rfl, rfl⟩ := hM
        simp only [if_neg n10, e1]; exact ⟨trivial, outYes⟩
    · rw [if_neg h] at hX; exact absurd hX (by decide)
  · by_cases h : g_dir x = true
    · rw [if_pos h] at hj; exact absurd rfl hj
    · have h0 : ¬ x = nI 0 := fun z => h (g_dir_iff.mpr (Or.inl z))
      have h1 : ¬ x = nI 1 := fun z => h (g_dir_iff.mpr (Or.inr z))
      simp only [m_frs, if_neg h0, if_neg h1, Prod.mk.injEq] at hM
      obtain ⟨rfl, rfl⟩ := hM
      obtain ⟨-, rfl⟩ := hc
      exact ⟨rfl, outNo1⟩

theorem op_frame {u1 : Unit} {v : Int32} (R : Rel k n me pa oc cv cvM ss cr se re bu (ki, ow, mr, va, fi, sz) (kiB, owB, mrB, vaB, fiB, szB) z0 z1 (kM, oM, mM, vM)) (hL : ((if g_dir x = true then (if g_has (if x = nI 0 then sz else szB) y = true then 0 else 1) else 2) = 0 ∧ r = nI 0 ∧ (((if g_dir x = true then (if g_has (if x = nI 0 then sz else szB) y = true then 0 else 1) else 2) = 0 ∧ (res) = if x = nI 0 then nI 100 * ki ((fi + ix y) % 40) + ow ((fi + ix y) % 40) else nI 100 * kiB ((fiB + ix y) % 40) + owB ((fiB + ix y) % 40))) ∧ f1 = vp_updL f 0 (Int32.toInt64 res)) ∨ (∃ k, (if g_dir x = true then (if g_has (if x = nI 0 then sz else szB) y = true then 0 else 1) else 2) = k ∧ k ≠ 0 ∧ ((k = 1 ∧ r = nI 1) ∨ (k = 2 ∧ r = nI 2)) ∧ u1 = () ∧ f1 = f)) (hM : (v, b) = m_frm z0 z1 kM oM x y) : v = r ∧ outOK r f1 b := by
  obtain ⟨-, -, -, ⟨-, s0, e0, g0⟩, ⟨-, s1, e1, g1⟩, -⟩ := R
  have e0 : sz = z0 := e0
  have e1 : szB = z1 := e1
  subst e0 e1
  rcases hL with ⟨hX, rfl, ⟨-, rfl⟩, rfl⟩ | ⟨j, rfl, hj, hc, -, rfl⟩
  · by_cases h : g_dir x = true
    · rcases g_dir_iff.mp h with rfl | rfl
      · by_cases h2 : g_has sz y = true
        · simp only [m_frm, if_pos h, if_true, if_pos h2, Prod.mk.injEq] at hM
          obtain ⟨rfl, rfl⟩ := hM
          obtain ⟨a1, a2, a3, a4⟩ := g0 (ix y) (has_ix h2 s0).1
          simp only [if_true, a1, a2]; exact ⟨trivial, outYes⟩
        · simp only [if_pos h, if_true, if_neg h2] at hX; exact absurd hX (by decide)
      · by_cases h2 : g_has szB y = true
        · simp only [m_frm, if_pos h, if_neg n10, if_pos h2, Prod.mk.injEq] at hM
          obtain ⟨rfl, rfl⟩ := hM
          obtain ⟨a1, a2, a3, a4⟩ := g1 (ix y) (has_ix h2 s1).1
          simp only [if_neg n10, a1, a2]; exact ⟨trivial, outYes⟩
        · simp only [if_pos h, if_neg n10, if_neg h2] at hX; exact absurd hX (by decide)
    · rw [if_neg h] at hX; exact absurd hX (by decide)
  · by_cases h : g_dir x = true
    · rcases g_dir_iff.mp h with rfl | rfl
      · by_cases h2 : g_has sz y = true
        · simp only [if_pos h, if_true, if_pos h2] at hj; exact absurd rfl hj
        · simp only [m_frm, if_pos h, if_true, if_neg h2, Prod.mk.injEq] at hM
          obtain ⟨rfl, rfl⟩ := hM
          simp only [if_pos h, if_true, if_neg h2] at hc
          rcases hc with ⟨-, rfl⟩ | ⟨z, -⟩
          · exact ⟨rfl, outNo1⟩
          · exact absurd z (by decide)
      · by_cases h2 : g_has szB y = true
        · simp only [if_pos h, if_neg n10, if_pos h2] at hj; exact absurd rfl hj
        · simp only [m_frm, if_pos h, if_neg n10, if_neg h2, Prod.mk.injEq] at hM
          obtain ⟨rfl, rfl⟩ := hM
          simp only [if_pos h, if_neg n10, if_neg h2] at hc
          rcases hc with ⟨-, rfl⟩ | ⟨z, -⟩
          · exact ⟨rfl, outNo1⟩
          · exact absurd z (by decide)
    · simp only [m_frm, if_neg h, Prod.mk.injEq] at hM
      obtain ⟨rfl, rfl⟩ := hM
      simp only [if_neg h] at hc
      rcases hc with ⟨z, -⟩ | ⟨-, rfl⟩
      · exact absurd z (by decide)
      · exact ⟨rfl, outNo2⟩

theorem op_frameValue {u1 : Unit} {v : Int32} (R : Rel k n me pa oc cv cvM ss cr se re bu (ki, ow, mr, va, fi, sz) (kiB, owB, mrB, vaB, fiB, szB) z0 z1 (kM, oM, mM, vM)) (hL : ((if g_dir x = true then (if g_has (if x = nI 0 then sz else szB) y = true then 0 else 1) else 2) = 0 ∧ r = nI 0 ∧ (((if g_dir x = true then (if g_has (if x = nI 0 then sz else szB) y = true then 0 else 1) else 2) = 0 ∧ (res) = if x = nI 0 then va ((fi + ix y) % 40) else vaB ((fiB + ix y) % 40))) ∧ f1 = vp_updL f 0 (Int32.toInt64 res)) ∨ (∃ k, (if g_dir x = true then (if g_has (if x = nI 0 then sz else szB) y = true then 0 else 1) else 2) = k ∧ k ≠ 0 ∧ ((k = 1 ∧ r = nI 1) ∨ (k = 2 ∧ r = nI 2)) ∧ u1 = () ∧ f1 = f)) (hM : (v, b) = m_frv z0 z1 vM x y) : v = r ∧ outOK r f1 b := by
  obtain ⟨-, -, -, ⟨-, s0, e0, g0⟩, ⟨-, s1, e1, g1⟩, -⟩ := R
  have e0 : sz = z0 := e0
  have e1 : szB = z1 := e1
  subst e0 e1
  rcases hL with ⟨hX, rfl, ⟨-, rfl⟩, rfl⟩ | ⟨j, rfl, hj, hc, -, rfl⟩
  · by_cases h : g_dir x = true
    · rcases g_dir_iff.mp h with rfl | rfl
      · by_cases h2 : g_has sz y = true
        · simp only [m_frv, if_pos h, if_true, if_pos h2, Prod.mk.injEq] at hM
          obtain ⟨rfl, rfl⟩ := hM
          obtain ⟨a1, a2, a3, a4⟩ := g0 (ix y) (has_ix h2 s0).1
          simp only [if_true, a4]; exact ⟨trivial, outYes⟩
        · simp only [if_pos h, if_true, if_neg h2] at hX; exact absurd hX (by decide)
      · by_cases h2 : g_has szB y = true
        · simp only [m_frv, if_pos h, if_neg n10, if_pos h2, Prod.mk.injEq] at hM
          obtain ⟨rfl, rfl⟩ := hM
          obtain ⟨a1, a2, a3, a4⟩ := g1 (ix y) (has_ix h2 s1).1
          simp only [if_neg n10, a4]; exact ⟨trivial, outYes⟩
        · simp only [if_pos h, if_neg n10, if_neg h2] at hX; exact absurd hX (by decide)
    · rw [if_neg h] at hX; exact absurd hX (by decide)
  · by_cases h : g_dir x = true
    · rcases g_dir_iff.mp h with rfl | rfl
      · by_cases h2 : g_has sz y = true
        · simp only [if_pos h, if_true, if_pos h2] at hj; exact absurd rfl hj
        · simp only [m_frv, if_pos h, if_true, if_neg h2, Prod.mk.injEq] at hM
          obtain ⟨rfl, rfl⟩ := hM
          simp only [if_pos h, if_true, if_neg h2] at hc
          rcases hc with ⟨-, rfl⟩ | ⟨z, -⟩
          · exact ⟨rfl, outNo1⟩
          · exact absurd z (by decide)
      · by_cases h2 : g_has szB y = true
        · simp only [if_pos h, if_neg n10, if_pos h2] at hj; exact absurd rfl hj
        · simp only [m_frv, if_pos h, if_neg n10, if_neg h2, Prod.mk.injEq] at hM
          obtain ⟨rfl, rfl⟩ := hM
          simp only [if_pos h, if_neg n10, if_neg h2] at hc
          rcases hc with ⟨-, rfl⟩ | ⟨z, -⟩
          · exact ⟨rfl, outNo1⟩
          · exact absurd z (by decide)
    · simp only [m_frv, if_neg h, Prod.mk.injEq] at hM
      obtain ⟨rfl, rfl⟩ := hM
      simp only [if_neg h] at hc
      rcases hc with ⟨z, -⟩ | ⟨-, rfl⟩
      · exact absurd z (by decide)
      · exact ⟨rfl, outNo2⟩
end PU
