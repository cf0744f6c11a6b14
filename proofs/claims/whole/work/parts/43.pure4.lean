theorem P0_mono {n : Nat} {a b c d : Int32} (h : P0 n a b c d) : P0 (n + 1) a b c d := by
  obtain ⟨h1, ⟨j, h2, h3⟩, h4⟩ := h
  exact ⟨h1, ⟨j, by omega, h3⟩, h4⟩
theorem P1_mono {n : Nat} {a b c d : Int32} (h : P1 n a b c d) : P1 (n + 1) a b c d := by
  obtain ⟨⟨j, h2, h3⟩, h4⟩ := h
  exact ⟨⟨j, by omega, h3⟩, h4⟩
theorem P0_can {n i : Nat} {kd : Int32} (hk : kd = nI 0 ∨ kd = nI 1) (hi : i < n) : P0 n kd (nI i) (nI 0) (nI 0) :=
  ⟨by rcases hk with h | h; exact Or.inl h; exact Or.inr (Or.inl h), ⟨i, hi, rfl⟩, fun h => by rcases hk with e | e <;> rw [e] at h <;> exact absurd h (by decide +kernel)⟩
theorem Lk.f0 {L L2 : LaneS} {F F2 : FS} {n : Nat} (h : Lk L L2 F F2 n) (hp : FVp (P0 n) L) : FVp (P0 n) L2 := h.2.1 _ hp (fun _ _ hk hi => P0_can hk hi)
theorem in10 {q : Int32} : g_in q (nI 1) (nI 10) = true ↔ (¬ q < nI 1 ∧ q ≤ nI 10) := by rw [g_in_iff, Int32.not_lt (a := nI 10)]
theorem ten {q : Int32} (h : g_in q (nI 1) (nI 10) = true) : ∃ a, a ≤ 10 ∧ q = nI a := by
  obtain ⟨h1, h2⟩ := in10.mp h
  rcases pk_ix q (n := 11) (by decide) with z | z | ⟨j, hj, rfl⟩
  · exact absurd (Int32.lt_trans z (by decide +kernel : 0 < nI 1)) h1
  · exact absurd (Int32.le_trans z h2) (by decide +kernel)
  · exact ⟨j, by omega, rfl⟩
section PU
variable {k n c0 c1 : Nat} {th ti ad bu r res b x y q tm pp : Int32} {me ar dl pa oc cv cvM rq la rc su ss cr se re sv : Fn} {ki ow mr va kiB owB mrB vaB kM oM mM vM : Fn} {fi sz fiB szB z0 z1 : Nat} {f f1 : Nat → Int64}
theorem op_grant {u1 : LaneS} {v : Int32 × Nat × Fn × Fn × Fn × Fn} (R : Rel k n me pa oc cv cvM ss cr se re bu (ki, ow, mr, va, fi, sz) (kiB, owB, mrB, vaB, fiB, szB) z0 z1 (kM, oM, mM, vM)) (hL : ((if g_has n x = true then (if q < nI 1 then 2 else if q ≤ nI 10 then (if me (ix x) = nI 3 then (if oc (ix x) = -1 then 0 else 3) else 3) else 2) else 1) = 0 ∧ r = nI 0 ∧ (((if g_has n x = true then (if q < nI 1 then 2 else if q ≤ nI 10 then (if me (ix x) = nI 3 then (if oc (ix x) = -1 then 0 else 3) else 3) else 2) else 1) = 0 ∧ u1 = l_send (ki, ow, mr, va, fi, sz) (nI 2) (nI (ix x)) (nI 0) q) ∧ u1.2.2.2.2.1 < 40 ∧ u1.2.2.2.2.2 ≤ 40) ∧ f1 = f) ∨ (∃ k, (if g_has n x = true then (if q < nI 1 then 2 else if q ≤ nI 10 then (if me (ix x) = nI 3 then (if oc (ix x) = -1 then 0 else 3) else 3) else 2) else 1) = k ∧ k ≠ 0 ∧ ((k = 1 ∧ r = nI 1) ∨ (k = 2 ∧ r = nI 2) ∨ (k = 3 ∧ r = nI 3)) ∧ u1 = (ki, ow, mr, va, fi, sz) ∧ f1 = f)) (hM : v = m_gra n me oc (z0, kM, oM, mM, vM) x q) : ∃ (L2 : LaneS) (z2 : Nat) (K2 : Fn × Fn × Fn × Fn), u1 = L2 ∧ v = (r, z2, K2) ∧ Rel (k + 1) n me pa oc cv cvM ss cr se re bu L2 (kiB, owB, mrB, vaB, fiB, szB) z2 z1 K2 := by
  have R1 := R.up
  obtain ⟨g1, g2, g3, g4, g5, g6, g7⟩ := R1
  have hn := g1.1
  by_cases h : g_has n x = true
  · obtain ⟨hx1, hx2⟩ := has_ix h hn
    by_cases h2 : g_in q (nI 1) (nI 10) = true
    · obtain ⟨i1, i2⟩ := in10.mp h2
      by_cases h3 : me (ix x) = nI 3
      · by_cases h4 : oc (ix x) = -1
        · simp only [m_gra, if_pos h, if_pos h2, if_pos h3, if_pos h4] at hM
          simp only [if_pos h, if_neg i1, if_pos i2, if_pos h3, if_pos h4] at hL
          rcases hL with ⟨-, rfl, ⟨⟨-, rfl⟩, -⟩, -⟩ | ⟨j, rfl, hj, -⟩
          · obtain ⟨a, ha, rfl⟩ := ten h2
            refine ⟨_, _, (m_send 0 (z0, kM, oM, mM, vM) (nI 2) (nI (ix x)) (nI 0) (nI a)).2, rfl, hM, g1, g2, g3, RLn_send g4 _ _ _ _, RLn_so (by decide) g5 _ _ _ _, FV_send g6 ⟨Or.inr (Or.inr rfl), ⟨_, hx1, rfl⟩, fun _ => ⟨a, ha, rfl⟩⟩, g7⟩
          · exact absurd rfl hj
        · simp only [m_gra, if_pos h, if_pos h2, if_pos h3, if_neg h4] at hM
          simp only [if_pos h, if_neg i1, if_pos i2, if_pos h3, if_neg h4] at hL
          rcases hL with ⟨z, -⟩ | ⟨j, rfl, hj, hc, rfl, -⟩
          · exact absurd z (by decide)
          · have e : r = nI 3 := by rcases hc with ⟨z, -⟩ | ⟨z, -⟩ | ⟨-, z⟩; exact absurd z (by decide); exact absurd z (by decide); exact z
            subst e
            exact ⟨_, z0, (kM, oM, mM, vM), rfl, hM, g1, g2, g3, g4, g5, g6, g7⟩
      · simp only [m_gra, if_pos h, if_pos h2, if_neg h3] at hM
        simp only [if_pos h, if_neg i1, if_pos i2, if_neg h3] at hL
        rcases hL with ⟨z, -⟩ | ⟨j, rfl, hj, hc, rfl, -⟩
        · exact absurd z (by decide)
        · have e : r = nI 3 := by rcases hc with ⟨z, -⟩ | ⟨z, -⟩ | ⟨-, z⟩; exact absurd z (by decide); exact absurd z (by decide); exact z
          subst e
          exact ⟨_, z0, (kM, oM, mM, vM), rfl, hM, g1, g2, g3, g4, g5, g6, g7⟩
    · simp only [m_gra, if_pos h, if_neg h2] at hM
      have hX : (if q < nI 1 then 2 else if q ≤ nI 10 then (if me (ix x) = nI 3 then (if oc (ix x) = -1 then 0 else 3) else 3) else 2) = 2 := by
        by_cases i1 : q < nI 1
        · rw [if_pos i1]
        · by_cases i2 : q ≤ nI 10
          · exact absurd (in10.mpr ⟨i1, i2⟩) h2
          · rw [if_neg i1, if_neg i2]
      simp only [if_pos h, hX] at hL
      rcases hL with ⟨z, -⟩ | ⟨j, rfl, hj, hc, rfl, -⟩
      · exact absurd z (by decide)
      · have e : r = nI 2 := by rcases hc with ⟨z, -⟩ | ⟨-, z⟩ | ⟨z, -⟩; exact absurd z (by decide); exact z; exact absurd z (by decide)
        subst e
        exact ⟨_, z0, (kM, oM, mM, vM), rfl, hM, g1, g2, g3, g4, g5, g6, g7⟩
  · simp only [m_gra, if_neg h] at hM
    simp only [if_neg h] at hL
    rcases hL with ⟨z, -⟩ | ⟨j, rfl, hj, hc, rfl, -⟩
    · exact absurd z (by decide)
    · have e : r = nI 1 := by rcases hc with ⟨-, z⟩ | ⟨z, -⟩ | ⟨z, -⟩; exact z; exact absurd z (by decide); exact absurd z (by decide)
      subst e
      exact ⟨_, z0, (kM, oM, mM, vM), rfl, hM, g1, g2, g3, g4, g5, g6, g7⟩

theorem op_cancel {u1 : (LaneS) × (CalS)} {v : Int32 × Int32 × Fn × Nat × Fn × Fn × Fn × Fn} (R : Rel k n me pa oc cv cvM ss cr se re bu (ki, ow, mr, va, fi, sz) (kiB, owB, mrB, vaB, fiB, szB) z0 z1 (kM, oM, mM, vM)) (hL : ((if g_has n x = true then (if oc (ix x) = -1 then 0 else 3) else 1) = 0 ∧ r = nI 0 ∧ (((if g_has n x = true then (if oc (ix x) = -1 then 0 else 3) else 1) = 0 ∧ (u1.2, u1.1, (res)) = k_endT n (pa, oc, cv, rq, la, rc, su, bu) (ki, ow, mr, va, fi, sz) (ix x) (nI 1)) ∧ u1.1.2.2.2.2.1 < 40 ∧ u1.1.2.2.2.2.2 ≤ 40) ∧ f1 = vp_updL f 0 (Int32.toInt64 res)) ∨ (∃ k, (if g_has n x = true then (if oc (ix x) = -1 then 0 else 3) else 1) = k ∧ k ≠ 0 ∧ ((k = 1 ∧ r = nI 1) ∨ (k = 3 ∧ r = nI 2)) ∧ u1 = ((ki, ow, mr, va, fi, sz), (pa, oc, cv, rq, la, rc, su, bu)) ∧ f1 = f)) (hM : (v, b) = m_can n pa bu oc (z0, kM, oM, mM, vM) x) : ∃ (L2 : LaneS) (oc2 : Fn) (bu2 : Int32) (z2 : Nat) (K2 : Fn × Fn × Fn × Fn), u1 = (L2, (pa, oc2, cv, rq, la, rc, su, bu2)) ∧ v = (r, bu2, oc2, z2, K2) ∧ outOK r f1 b ∧ Rel (k + 1) n me pa oc2 cv cvM ss cr se re bu2 L2 (kiB, owB, mrB, vaB, fiB, szB) z2 z1 K2 := by
  have R1 := R.up
  obtain ⟨⟨hn, hch, hh⟩, ⟨a4, hb, hme, h4s⟩, g3, g4, g5, g6, g7⟩ := R1
  by_cases h : g_has n x = true
  · obtain ⟨hx1, hx2⟩ := has_ix h hn
    by_cases h4 : oc (ix x) = -1
    · obtain ⟨L2, F2, k2, e1, e2, e3⟩ := endT_sim (cv := cv) (rq := rq) (la := la) (rc := rc) (su := su) (bu := bu) (tk := bu) (o := nI 1) hn hch hh hx1 (nn1 1 (by decide)) g4
      simp only [m_can, if_pos h, if_pos h4, e2, Prod.mk.injEq] at hM
      simp only [if_pos h, if_pos h4, e1, Prod.mk.injEq] at hL
      rcases hL with ⟨-, rfl, ⟨⟨-, hu2, hu1, rfl⟩, -⟩, rfl⟩ | ⟨j, rfl, hj, -⟩
      · obtain ⟨rfl, rfl⟩ := hM
        refine ⟨L2, fo pa oc (ix x) (nI 1) n, bu, F2.1, F2.2, Prod.ext hu1 hu2, ?_, outYes, ⟨hn, hch, hop_fo hch hn hh hx1 (nn1 1 (by decide))⟩, ⟨fun i hi => ?_, hb, hme, h4s⟩, g3, e3.1, e3.2.2 _ _ g5, e3.f0 g6, g7⟩
        · rw [m_tok_n (show ¬ nI 1 = 0 by decide +kernel)]
        · rcases fo_0 hi with z | z
          · exact a4 i z.2
          · exact absurd z.2 (by decide +kernel)
      · exact absurd rfl hj
    · simp only [m_can, if_pos h, if_neg h4, Prod.mk.injEq] at hM
      simp only [if_pos h, if_neg h4] at hL
      rcases hL with ⟨z, -⟩ | ⟨j, rfl, hj, hc, rfl, -⟩
      · exact absurd z (by decide)
      · have e : r = nI 2 := by rcases hc with ⟨z, -⟩ | ⟨-, z⟩; exact absurd z (by decide); exact z
        subst e
        exact ⟨_, oc, bu, z0, (kM, oM, mM, vM), rfl, hM.1, outNo2, ⟨hn, hch, hh⟩, ⟨a4, hb, hme, h4s⟩, g3, g4, g5, g6, g7⟩
  · simp only [m_can, if_neg h, Prod.mk.injEq] at hM
    simp only [if_neg h] at hL
    rcases hL with ⟨z, -⟩ | ⟨j, rfl, hj, hc, rfl, -⟩
    · exact absurd z (by decide)
    · have e : r = nI 1 := by rcases hc with ⟨-, z⟩ | ⟨z, -⟩; exact z; exact absurd z (by decide)
      subst e
      exact ⟨_, oc, bu, z0, (kM, oM, mM, vM), rfl, hM.1, outNo1, ⟨hn, hch, hh⟩, ⟨a4, hb, hme, h4s⟩, g3, g4, g5, g6, g7⟩

theorem op_pass {u1 : (Int32) × (LaneS) × (CalS) × (SerS)} {v : Int32 × Int32 × Int32 × Fn × Fn × Fn × Fn × Nat × Fn × Fn × Fn × Fn} (R : Rel k n me pa oc cv cvM ss cr se re bu (ki, ow, mr, va, fi, sz) (kiB, owB, mrB, vaB, fiB, szB) z0 z1 (kM, oM, mM, vM)) (hL : ((if x < nI 1 then 2 else if x ≤ nI 200 then 0 else 2) = 0 ∧ r = nI 0 ∧ (((if x < nI 1 then 2 else if x ≤ nI 200 then 0 else 2) = 0 ∧ (u1, (res)) = it (g_tick1 n dl) (ix x - 0) 0 (((ti, (ki, ow, mr, va, fi, sz), (pa, oc, cv, rq, la, rc, su, bu), (ss, cr, se, re, sv, ad)), nI 0) : (Int32 × LaneS × CalS × SerS) × Int32)) ∧ u1.2.1.2.2.2.2.1 < 40 ∧ u1.2.1.2.2.2.2.2 ≤ 40) ∧ f1 = vp_updL f 0 (Int32.toInt64 res)) ∨ (∃ k, (if x < nI 1 then 2 else if x ≤ nI 200 then 0 else 2) = k ∧ k ≠ 0 ∧ ((k = 2 ∧ r = nI 1)) ∧ u1 = ((ti), (ki, ow, mr, va, fi, sz), (pa, oc, cv, rq, la, rc, su, bu), (ss, cr, se, re, sv, ad)) ∧ f1 = f)) (hM : (v, b) = m_pass n pa dl rc (ti, bu, oc, ss, rq, la, (z0, kM, oM, mM, vM)) x) : ∃ (ti2 bu2 : Int32) (oc2 rq2 la2 ss2 : Fn) (L2 : LaneS) (z2 : Nat) (K2 : Fn × Fn × Fn × Fn), u1 = (ti2, L2, (pa, oc2, cv, rq2, la2, rc, su, bu2), (ss2, cr, se, re, sv, ad)) ∧ v = (r, ti2, bu2, oc2, ss2, rq2, la2, z2, K2) ∧ outOK r f1 b ∧ Rel (k + 1) n me pa oc2 cv cvM ss2 cr se re bu2 L2 (kiB, owB, mrB, vaB, fiB, szB) z2 z1 K2 := by
  have R1 := R.up
  obtain ⟨⟨hn, hch, hh⟩, ⟨a4, hb, hme, h4s⟩, g3, g4, g5, g6, g7⟩ := R1
  have hin : g_in x (nI 1) (nI 200) = true ↔ (¬ x < nI 1 ∧ x ≤ nI 200) := by rw [g_in_iff, Int32.not_lt (a := nI 200)]
  by_cases h : g_in x (nI 1) (nI 200) = true
  · obtain ⟨h1, h2⟩ := hin.mp h
    obtain ⟨ti2, bu2, oc2, rq2, la2, ss2, L2, F2, k2, e1, e2, e3, e4, e5, e6, e7⟩ := ticks_sim (j := ix x) (cv := cv) (rq := rq) (la := la) (rc := rc) (su := su) (dl := dl) (cr := cr) (se := se) (re := re) (sv := sv) (ti := ti) (ad := ad) hn hch hh g4 hb h4s
    simp only [m_pass, if_pos h, e2, Prod.mk.injEq] at hM
    simp only [if_neg h1, if_pos h2, e1, Prod.mk.injEq] at hL
    rcases hL with ⟨-, rfl, ⟨⟨-, rfl, rfl⟩, -⟩, rfl⟩ | ⟨j, rfl, hj, -⟩
    · obtain ⟨rfl, rfl⟩ := hM
      exact ⟨ti2, bu2, oc2, rq2, la2, ss2, L2, F2.1, F2.2, rfl, rfl, outYes, ⟨hn, hch, e4⟩, ⟨fun i hi => a4 i (e5 i hi), e6, hme, e7⟩, g3, e3.1, e3.2.2 _ _ g5, e3.f0 g6, g7⟩
    · exact absurd rfl hj
  · simp only [m_pass, if_neg h, Prod.mk.injEq] at hM
    have hX : (if x < nI 1 then 2 else if x ≤ nI 200 then 0 else 2) = 2 := by
      by_cases i1 : x < nI 1
      · rw [if_pos i1]
      · by_cases i2 : x ≤ nI 200
        · exact absurd (hin.mpr ⟨i1, i2⟩) h
        · rw [if_neg i1, if_neg i2]
    simp only [hX] at hL
    rcases hL with ⟨z, -⟩ | ⟨j, rfl, hj, hc, rfl, -⟩
    · exact absurd z (by decide)
    · obtain ⟨-, rfl⟩ := hc
      exact ⟨ti, bu, oc, rq, la, ss, _, z0, (kM, oM, mM, vM), rfl, hM.1, outNo1, ⟨hn, hch, hh⟩, ⟨a4, hb, hme, h4s⟩, g3, g4, g5, g6, g7⟩
end PU
