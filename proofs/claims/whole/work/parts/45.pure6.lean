theorem owners {k n : Nat} {me pa oc cv cvM ss cr se re ki ow mr va kiB owB mrB vaB kM oM mM vM : Fn} {bu : Int32} {fi sz fiB szB z0 z1 : Nat} (R : Rel k n me pa oc cv cvM ss cr se re bu (ki, ow, mr, va, fi, sz) (kiB, owB, mrB, vaB, fiB, szB) z0 z1 (kM, oM, mM, vM)) :
    ∃ c0 c1 : Nat, (0 < sz → c0 < n ∧ ow ((fi + 0) % 40) = nI c0) ∧ (0 < szB → c1 < n ∧ owB ((fiB + 0) % 40) = nI c1) ∧ (0 < z0 → c0 < n ∧ oM (40 * 0) = nI c0) ∧ (0 < z1 → c1 < n ∧ oM (40 * 1) = nI c1) := by
  obtain ⟨-, -, -, ⟨-, -, e0, g0⟩, ⟨-, -, e1, g1⟩, f0, f1⟩ := R
  have e0 : sz = z0 := e0
  have e1 : szB = z1 := e1
  subst e0 e1
  have a0 : ∃ c0 : Nat, 0 < sz → c0 < n ∧ ow ((fi + 0) % 40) = nI c0 := by
    by_cases h : 0 < sz
    · obtain ⟨-, ⟨c, hc, e⟩, -⟩ := f0 0 h
      exact ⟨c, fun _ => ⟨hc, e⟩⟩
    · exact ⟨0, fun z => absurd z h⟩
  have a1 : ∃ c1 : Nat, 0 < szB → c1 < n ∧ owB ((fiB + 0) % 40) = nI c1 := by
    by_cases h : 0 < szB
    · obtain ⟨⟨c, hc, e⟩, -⟩ := f1 0 h
      exact ⟨c, fun _ => ⟨hc, e⟩⟩
    · exact ⟨0, fun z => absurd z h⟩
  obtain ⟨c0, h0⟩ := a0
  obtain ⟨c1, h1⟩ := a1
  exact ⟨c0, c1, h0, h1, fun h => ⟨(h0 h).1, (g0 0 h).2.1.symm.trans (h0 h).2⟩, fun h => ⟨(h1 h).1, (g1 0 h).2.1.symm.trans (h1 h).2⟩⟩
section PU
variable {k n c0 c1 : Nat} {th ti ad bu r res b x y q tm pp : Int32} {me ar dl pa oc cv cvM rq la rc su ss cr se re sv : Fn} {ki ow mr va kiB owB mrB vaB kM oM mM vM : Fn} {fi sz fiB szB z0 z1 : Nat} {f f1 : Nat → Int64}
theorem op_lose {u1 : (LaneS) × (LaneS)} {v : Int32 × Nat × Nat × Fn × Fn × Fn × Fn} (R : Rel k n me pa oc cv cvM ss cr se re bu (ki, ow, mr, va, fi, sz) (kiB, owB, mrB, vaB, fiB, szB) z0 z1 (kM, oM, mM, vM)) (hL : ((if g_dir x = true then (if g_has (if x = nI 0 then sz else szB) (nI 0) = true then 0 else 3) else 2) = 0 ∧ r = nI 0 ∧ (((if g_dir x = true then (if g_has (if x = nI 0 then sz else szB) (nI 0) = true then 0 else 3) else 2) = 0 ∧ u1 = (if x = nI 0 then (l_rem (ki, ow, mr, va, fi, sz), (kiB, owB, mrB, vaB, fiB, szB)) else ((ki, ow, mr, va, fi, sz), l_rem (kiB, owB, mrB, vaB, fiB, szB))) ∧ (res) = if x = nI 0 then nI c0 else nI c1) ∧ u1.1.2.2.2.2.1 < 40 ∧ u1.1.2.2.2.2.2 ≤ 40 ∧ u1.2.2.2.2.2.1 < 40 ∧ u1.2.2.2.2.2.2 ≤ 40) ∧ f1 = vp_updL f 0 (Int32.toInt64 res)) ∨ (∃ k, (if g_dir x = true then (if g_has (if x = nI 0 then sz else szB) (nI 0) = true then 0 else 3) else 2) = k ∧ k ≠ 0 ∧ ((k = 2 ∧ r = nI 1) ∨ (k = 3 ∧ r = nI 2)) ∧ u1 = ((ki, ow, mr, va, fi, sz), (kiB, owB, mrB, vaB, fiB, szB)) ∧ f1 = f)) (hM : (v, b) = m_los z0 z1 (kM, oM, mM, vM) c0 c1 x) : ∃ (L2 L3 : LaneS) (z2 z3 : Nat) (K2 : Fn × Fn × Fn × Fn), u1 = (L2, L3) ∧ v = (r, z2, z3, K2) ∧ outOK r f1 b ∧ Rel (k + 1) n me pa oc cv cvM ss cr se re bu L2 L3 z2 z3 K2 := by
  have R1 := R.up
  obtain ⟨⟨hn, hch, hh⟩, ⟨a4, hb, hme, h4s⟩, ⟨hcr1, hse, hre⟩, g4, g5, g6, g7⟩ := R1
  have hcr := R.2.2.1.1
  have s0 : sz ≤ 40 := g4.2.1
  have s1 : szB ≤ 40 := g5.2.1
  have e0 : sz = z0 := g4.2.2.1
  have e1 : szB = z1 := g5.2.2.1
  subst e0 e1
  by_cases h : g_dir x = true
  · rcases g_dir_iff.mp h with rfl | rfl
    · by_cases h2 : g_has sz (nI 0) = true
      · have hz : 0 < sz := g_has_pos h2
        have hz0 : ¬ sz = 0 := by omega
        simp only [m_los, if_pos h, if_true, if_neg hz0, Prod.mk.injEq] at hM
        simp only [if_pos h, if_true, if_pos h2] at hL
        rcases hL with ⟨-, rfl, ⟨⟨-, rfl, rfl⟩, -⟩, rfl⟩ | ⟨j, rfl, hj, -⟩
        · obtain ⟨rfl, rfl⟩ := hM
          exact ⟨_, _, sz - 1, szB, m_shift 0 sz (kM, oM, mM, vM), rfl, rfl, outYes, ⟨hn, hch, hh⟩, ⟨a4, hb, hme, h4s⟩, ⟨hcr1, hse, hre⟩, RLn_rem g4 hz, RLn_rem_other (by decide) s0 g5, FV_rem g6 hz, g7⟩
        · exact absurd rfl hj
      · have hz0 : sz = 0 := by
          have := mt (has0 s0).mpr h2
          omega
        simp only [m_los, if_pos h, if_true, if_pos hz0, Prod.mk.injEq] at hM
        simp only [if_pos h, if_true, if_neg h2] at hL
        rcases hL with ⟨z, -⟩ | ⟨j, rfl, hj, hc, rfl, -⟩
        · exact absurd z (by decide)
        · have e : r = nI 2 := by rcases hc with ⟨z, -⟩ | ⟨-, z⟩; exact absurd z (by decide); exact z
          subst e
          exact ⟨_, _, sz, szB, (kM, oM, mM, vM), rfl, hM.1, outNo2, ⟨hn, hch, hh⟩, ⟨a4, hb, hme, h4s⟩, ⟨hcr1, hse, hre⟩, g4, g5, g6, g7⟩
    · by_cases h2 : g_has szB (nI 0) = true
      · have hz : 0 < szB := g_has_pos h2
        have hz0 : ¬ szB = 0 := by omega
        simp only [m_los, if_pos h, if_neg n10, if_neg hz0, Prod.mk.injEq] at hM
        simp only [if_pos h, if_neg n10, if_pos h2] at hL
        rcases hL with ⟨-, rfl, ⟨⟨-, rfl, rfl⟩, -⟩, rfl⟩ | ⟨j, rfl, hj, -⟩
        · obtain ⟨rfl, rfl⟩ := hM
          exact ⟨_, _, sz, szB - 1, m_shift 1 szB (kM, oM, mM, vM), rfl, rfl, outYes, ⟨hn, hch, hh⟩, ⟨a4, hb, hme, h4s⟩, ⟨hcr1, hse, hre⟩, RLn_rem_other (by decide) s1 g4, RLn_rem g5 hz, g6, FV_rem g7 hz⟩
        · exact absurd rfl hj
      · have hz0 : szB = 0 := by
          have := mt (has0 s1).mpr h2
          omega
        simp only [m_los, if_pos h, if_neg n10, if_pos hz0, Prod.mk.injEq] at hM
        simp only [if_pos h, if_neg n10, if_neg h2] at hL
        rcases hL with ⟨z, -⟩ | ⟨j, rfl, hj, hc, rfl, -⟩
        · exact absurd z (by decide)
        · have e : r = nI 2 := by rcases hc with ⟨z, -⟩ | ⟨-, z⟩; exact absurd z (by decide); exact z
          subst e
          exact ⟨_, _, sz, szB, (kM, oM, mM, vM), rfl, hM.1, outNo2, ⟨hn, hch, hh⟩, ⟨a4, hb, hme, h4s⟩, ⟨hcr1, hse, hre⟩, g4, g5, g6, g7⟩
  · simp only [m_los, if_neg h, Prod.mk.injEq] at hM
    simp only [if_neg h] at hL
    rcases hL with ⟨z, -⟩ | ⟨j, rfl, hj, hc, rfl, -⟩
    · exact absurd z (by decide)
    · have e : r = nI 1 := by rcases hc with ⟨-, z⟩ | ⟨z, -⟩; exact z; exact absurd z (by decide)
      subst e
      exact ⟨_, _, sz, szB, (kM, oM, mM, vM), rfl, hM.1, outNo1, ⟨hn, hch, hh⟩, ⟨a4, hb, hme, h4s⟩, ⟨hcr1, hse, hre⟩, g4, g5, g6, g7⟩

theorem op_deliver {u1 : (LaneS) × (LaneS) × (CalS) × (SerS)} {v : Int32 × Int32 × Fn × Fn × Fn × Fn × Fn × Fn × Nat × Nat × Fn × Fn × Fn × Fn} (R : Rel k n me pa oc cv cvM ss cr se re bu (ki, ow, mr, va, fi, sz) (kiB, owB, mrB, vaB, fiB, szB) z0 z1 (kM, oM, mM, vM)) (ho : 0 < sz → c0 < n ∧ ow ((fi + 0) % 40) = nI c0) (hoB : 0 < szB → c1 < n ∧ owB ((fiB + 0) % 40) = nI c1) (hL : ((if g_dir x = true then (if g_has (if x = nI 0 then sz else szB) (nI 0) = true then 0 else 3) else 2) = 0 ∧ r = nI 0 ∧ (((if g_dir x = true then (if g_has (if x = nI 0 then sz else szB) (nI 0) = true then 0 else 3) else 2) = 0 ∧ u1 = g_del n me dl (ki, ow, mr, va, fi, sz) (kiB, owB, mrB, vaB, fiB, szB) (pa, oc, cv, rq, la, rc, su, bu) (ss, cr, se, re, sv, ad) ti x c0 c1 ∧ (res) = if x = nI 0 then nI c0 else nI c1) ∧ u1.1.2.2.2.2.1 < 40 ∧ u1.1.2.2.2.2.2 ≤ 40 ∧ u1.2.1.2.2.2.2.1 < 40 ∧ u1.2.1.2.2.2.2.2 ≤ 40) ∧ f1 = vp_updL f 0 (Int32.toInt64 res)) ∨ (∃ k, (if g_dir x = true then (if g_has (if x = nI 0 then sz else szB) (nI 0) = true then 0 else 3) else 2) = k ∧ k ≠ 0 ∧ ((k = 2 ∧ r = nI 1) ∨ (k = 3 ∧ r = nI 2)) ∧ u1 = ((ki, ow, mr, va, fi, sz), (kiB, owB, mrB, vaB, fiB, szB), (pa, oc, cv, rq, la, rc, su, bu), (ss, cr, se, re, sv, ad)) ∧ f1 = f)) (hM : (v, b) = m_del n pa me ti dl bu oc cvM rc su ss cr re sv z0 z1 (kM, oM, mM, vM) c0 c1 x) : ∃ (L2 L3 : LaneS) (oc2 cv2 cvM2 rc2 su2 : Fn) (bu2 : Int32) (ss2 cr2 : Fn) (z2 z3 : Nat) (K2 : Fn × Fn × Fn × Fn), u1 = (L2, L3, (pa, oc2, cv2, rq, la, rc2, su2, bu2), (ss2, cr2, se, re, sv, ad)) ∧ v = (r, bu2, oc2, cvM2, rc2, su2, ss2, cr2, z2, z3, K2) ∧ outOK r f1 b ∧ Rel (k + 1) n me pa oc2 cv2 cvM2 ss2 cr2 se re bu2 L2 L3 z2 z3 K2 := by
  have R1 := R.up
  obtain ⟨⟨hn, hch, hh⟩, ⟨a4, hb, hme, h4s⟩, ⟨hcr1, hse, hre⟩, g4, g5, g6, g7⟩ := R1
  have hcr := R.2.2.1.1
  have s0 : sz ≤ 40 := g4.2.1
  have s1 : szB ≤ 40 := g5.2.1
  have e0 : sz = z0 := g4.2.2.1
  have e1 : szB = z1 := g5.2.2.1
  subst e0 e1
  by_cases h : g_dir x = true
  · rcases g_dir_iff.mp h with rfl | rfl
    · by_cases h2 : g_has sz (nI 0) = true
      · have hz : 0 < sz := g_has_pos h2
        have hz0 : ¬ sz = 0 := by omega
        obtain ⟨hp1, hp2, hp3⟩ := g6 0 hz
        obtain ⟨q1, q2, q3, q4⟩ := g4.2.2.2 0 hz
        have q1 : ki ((fi + 0) % 40) = kM (40 * 0) := q1
        have q4 : va ((fi + 0) % 40) = vM (40 * 0) := q4
        obtain ⟨ss2, cr2, L2, F2, t1, t2, t3, t4, t5, t6, t7⟩ := arrS_sim (k := k) (c := c0) (dl := dl) (ss := ss) (cr := cr) (se := se) (re := re) (sv := sv) (ad := ad) (ti := ti) hp1 hp3 h4s hcr (RLn_rem_other (d := 0) (z := sz) (by decide) s0 g5)
        rw [q1, q4] at t1 t2
        simp only [m_del, if_pos h, if_true, if_neg hz0, t2, Prod.mk.injEq] at hM
        simp only [if_pos h, if_true, if_pos h2, g_del, l_kd, l_va, q1, q4, t1] at hL
        rcases hL with ⟨-, rfl, ⟨⟨-, rfl, rfl⟩, -⟩, rfl⟩ | ⟨j, rfl, hj, -⟩
        · obtain ⟨rfl, rfl⟩ := hM
          have hc0 := (ho hz).1
          exact ⟨_, L2, oc, cv, cvM, rc, su, bu, ss2, cr2, sz - 1, F2.1, F2.2, rfl, rfl, outYes, ⟨hn, hch, hh⟩, ⟨a4, hb, hme, t4⟩, ⟨t5, hse, hre⟩, t7 _ _ (RLn_rem g4 hz), t3, FV_rem g6 hz, t6 _ g7 ⟨⟨c0, hc0, rfl⟩, fun _ => hre c0⟩⟩
        · exact absurd rfl hj
      · have hz0 : sz = 0 := by
          have := mt (has0 s0).mpr h2
          omega
        simp only [m_del, if_pos h, if_true, if_pos hz0, Prod.mk.injEq] at hM
        simp only [if_pos h, if_true, if_neg h2] at hL
        rcases hL with ⟨z, -⟩ | ⟨j, rfl, hj, hc, rfl, -⟩
        · exact absurd z (by decide)
        · have e : r = nI 2 := by rcases hc with ⟨z, -⟩ | ⟨-, z⟩; exact absurd z (by decide); exact z
          subst e
          exact ⟨_, _, oc, cv, cvM, rc, su, bu, ss, cr, sz, szB, (kM, oM, mM, vM), rfl, hM.1, outNo2, ⟨hn, hch, hh⟩, ⟨a4, hb, hme, h4s⟩, ⟨hcr1, hse, hre⟩, g4, g5, g6, g7⟩
    · by_cases h2 : g_has szB (nI 0) = true
      · have hz : 0 < szB := g_has_pos h2
        have hz0 : ¬ szB = 0 := by omega
        obtain ⟨hp1, hp2⟩ := g7 0 hz
        obtain ⟨q1, q2, q3, q4⟩ := g5.2.2.2 0 hz
        have q1 : kiB ((fiB + 0) % 40) = kM (40 * 1) := q1
        have q3 : mrB ((fiB + 0) % 40) = mM (40 * 1) := q3
        have q4 : vaB ((fiB + 0) % 40) = vM (40 * 1) := q4
        have hc1 := (hoB hz).1
        obtain ⟨oc2, cv2, cvM2, rc2, su2, bu2, L2, F2, t1, t2, t3, t4, t5, t6⟩ := arrC_sim (me := me) (rq := rq) (la := la) (rc := rc) (su := su) (kd := kiB ((fiB + 0) % 40)) (q := mrB ((fiB + 0) % 40)) (v := vaB ((fiB + 0) % 40)) hn hch hh a4 hb hc1 hp2 (RLn_rem_other (d := 1) (z := szB) (by decide) s1 g4)
        rw [q1, q3, q4] at t1 t2
        simp only [m_del, if_pos h, if_neg n10, if_neg hz0, t2, Prod.mk.injEq] at hM
        simp only [if_pos h, if_neg n10, if_pos h2, g_del, l_kd, l_mr, l_va, q1, q3, q4, t1] at hL
        rcases hL with ⟨-, rfl, ⟨⟨-, rfl, rfl⟩, -⟩, rfl⟩ | ⟨j, rfl, hj, -⟩
        · obtain ⟨rfl, rfl⟩ := hM
          exact ⟨L2, _, oc2, cv2, cvM2, rc2, su2, bu2, ss, cr, F2.1, szB - 1, F2.2, rfl, rfl, outYes, ⟨hn, hch, t4⟩, ⟨t5, t6, hme, h4s⟩, ⟨hcr1, hse, hre⟩, t3.1, t3.2.2 _ _ (RLn_rem g5 hz), t3.f0 g6, FV_rem g7 hz⟩
        · exact absurd rfl hj
      · have hz0 : szB = 0 := by
          have := mt (has0 s1).mpr h2
          omega
        simp only [m_del, if_pos h, if_neg n10, if_pos hz0, Prod.mk.injEq] at hM
        simp only [if_pos h, if_neg n10, if_neg h2] at hL
        rcases hL with ⟨z, -⟩ | ⟨j, rfl, hj, hc, rfl, -⟩
        · exact absurd z (by decide)
        · have e : r = nI 2 := by rcases hc with ⟨z, -⟩ | ⟨-, z⟩; exact absurd z (by decide); exact z
          subst e
          exact ⟨_, _, oc, cv, cvM, rc, su, bu, ss, cr, sz, szB, (kM, oM, mM, vM), rfl, hM.1, outNo2, ⟨hn, hch, hh⟩, ⟨a4, hb, hme, h4s⟩, ⟨hcr1, hse, hre⟩, g4, g5, g6, g7⟩
  · simp only [m_del, if_neg h, Prod.mk.injEq] at hM
    simp only [if_neg h] at hL
    rcases hL with ⟨z, -⟩ | ⟨j, rfl, hj, hc, rfl, -⟩
    · exact absurd z (by decide)
    · have e : r = nI 1 := by rcases hc with ⟨-, z⟩ | ⟨z, -⟩; exact z; exact absurd z (by decide)
      subst e
      exact ⟨_, _, oc, cv, cvM, rc, su, bu, ss, cr, sz, szB, (kM, oM, mM, vM), rfl, hM.1, outNo1, ⟨hn, hch, hh⟩, ⟨a4, hb, hme, h4s⟩, ⟨hcr1, hse, hre⟩, g4, g5, g6, g7⟩

theorem op_work {u1 : (LaneS) × (SerS)} {v : Int32 × Int32 × Fn × Fn × Fn × Fn × Fn × Nat × Fn × Fn × Fn × Fn} (R : Rel k n me pa oc cv cvM ss cr se re bu (ki, ow, mr, va, fi, sz) (kiB, owB, mrB, vaB, fiB, szB) z0 z1 (kM, oM, mM, vM)) (hk6 : k ≤ 600) (hL : ((if g_has n x = true then (if ss (ix x) = nI 1 then (if s_next me ar (ss, cr, se, re, sv, ad) (ix x) = true then (if nI 1 ≤ cr (ix x) then 0 else 3) else 0) else 3) else 1) = 0 ∧ r = nI 0 ∧ (((if g_has n x = true then (if ss (ix x) = nI 1 then (if s_next me ar (ss, cr, se, re, sv, ad) (ix x) = true then (if nI 1 ≤ cr (ix x) then 0 else 3) else 0) else 3) else 1) = 0 ∧ (u1.2, u1.1) = s_step me ar (ss, cr, se, re, sv, ad) (kiB, owB, mrB, vaB, fiB, szB) (ix x) ∧ (res) = u1.2.1 (ix x)) ∧ u1.1.2.2.2.2.1 < 40 ∧ u1.1.2.2.2.2.2 ≤ 40) ∧ f1 = vp_updL f 0 (Int32.toInt64 res)) ∨ (∃ k, (if g_has n x = true then (if ss (ix x) = nI 1 then (if s_next me ar (ss, cr, se, re, sv, ad) (ix x) = true then (if nI 1 ≤ cr (ix x) then 0 else 3) else 0) else 3) else 1) = k ∧ k ≠ 0 ∧ ((k = 1 ∧ r = nI 1) ∨ (k = 3 ∧ r = nI 2)) ∧ u1 = ((kiB, owB, mrB, vaB, fiB, szB), (ss, cr, se, re, sv, ad)) ∧ f1 = f)) (hM : (v, b) = m_work n me ar ad ss cr se re sv (z1, kM, oM, mM, vM) x) : ∃ (L2 : LaneS) (ss2 cr2 se2 re2 sv2 : Fn) (ad2 : Int32) (z2 : Nat) (K2 : Fn × Fn × Fn × Fn), u1 = (L2, (ss2, cr2, se2, re2, sv2, ad2)) ∧ v = (r, ad2, ss2, cr2, se2, re2, sv2, z2, K2) ∧ outOK r f1 b ∧ Rel (k + 1) n me pa oc cv cvM ss2 cr2 se2 re2 bu (ki, ow, mr, va, fi, sz) L2 z0 z2 K2 := by
  have R1 := R.up
  obtain ⟨⟨hn, hch, hh⟩, ⟨a4, hb, hme, h4s⟩, ⟨hcr1, hse, hre⟩, g4, g5, g6, g7⟩ := R1
  have hcr := R.2.2.1.1
  by_cases h : g_has n x = true
  · obtain ⟨hx1, hx2⟩ := has_ix h hn
    simp only [m_work, if_pos h] at hM
    generalize ix x = i at *
    have hni := next_isit (me := me) (ar := ar) (ss := ss) (cr := cr) (re := re) (sv := sv) (ad := ad) (hse i)
    by_cases h1 : ss i = nI 1
    · by_cases h2 : m_isit me ar se i = true
      · by_cases h3 : cr i = 0
        · have h4 : ¬ nI 1 ≤ cr i := by rw [h3]; decide +kernel
          simp only [m_work, if_pos h, m_work1, if_pos h1, if_pos h2, if_pos h3, Prod.mk.injEq] at hM
          simp only [if_pos h, if_pos h1, hni, if_pos h2, if_neg h4] at hL
          rcases hL with ⟨z, -⟩ | ⟨j, rfl, hj, hc, rfl, -⟩
          · exact absurd z (by decide)
          · have e : r = nI 2 := by rcases hc with ⟨z, -⟩ | ⟨-, z⟩; exact absurd z (by decide); exact z
            subst e
            exact ⟨_, ss, cr, se, re, sv, ad, z1, (kM, oM, mM, vM), rfl, hM.1, outNo2, ⟨hn, hch, hh⟩, ⟨a4, hb, hme, h4s⟩, ⟨hcr1, hse, hre⟩, g4, g5, g6, g7⟩
        · obtain ⟨a, ha, ea⟩ := hcr i
          have ha0 : 0 < a := by
            rcases Nat.eq_zero_or_pos a with z | z
            · subst z; exact absurd (ea.trans nI_0) h3
            · exact z
          have hk : a < 2 ^ 31 ∨ ¬ a < 2 ^ 31 := Decidable.em _
          have h4 : nI 1 ≤ cr i := by rw [ea]; exact nI_le (by omega) (by omega)
          have hns : s_next me ar (ss, cr, se, re, sv, ad) i = true := by rw [hni]; exact h2
          simp only [m_work, if_pos h, m_work1, if_pos h1, if_pos h2, if_neg h3, Prod.mk.injEq] at hM
          simp only [if_pos h, if_pos h1, if_pos hns, if_pos h4, s_step, s_item] at hL
          rcases hL with ⟨-, rfl, ⟨⟨-, hu, rfl⟩, -⟩, rfl⟩ | ⟨j, rfl, hj, -⟩
          · obtain ⟨rfl, rfl⟩ := hM
            have hu2 : u1 = (l_send (kiB, owB, mrB, vaB, fiB, szB) (nI 4) (nI i) (se i) (ar i - se i), (ss, upd cr i (cr i - nI 1), upd se i (se i + nI 1), re, sv, ad)) := by
              obtain ⟨ua, ub⟩ := u1
              simp only [Prod.mk.injEq] at hu ⊢
              exact ⟨hu.2, hu.1⟩
            subst hu2
            have hle : ¬ ar i ≤ se i := by
              have := hns
              simp only [s_next, Bool.and_eq_true, decide_eq_true_eq] at this
              exact this.2
            refine ⟨_, ss, upd cr i (cr i - nI 1), upd se i (se i + nI 1), re, sv, ad, _, (m_send 1 (z1, kM, oM, mM, vM) (nI 4) (nI i) (se i) (ar i - se i)).2, rfl, rfl, outYes, ⟨hn, hch, hh⟩, ⟨a4, hb, hme, h4s⟩, ⟨?_, upd_all (p := fun z => nI 0 ≤ z) hse (se_up (hse i) hle), hre⟩, RLn_so (by decide) g4 _ _ _ _, RLn_send g5 _ _ _ _, g6, FV_send g7 ⟨⟨i, hx1, rfl⟩, fun z => absurd z (by decide +kernel)⟩⟩
            exact upd_all (p := fun z => ∃ a, a ≤ 2 + 10 * (k + 1) ∧ z = nI a) hcr1 ⟨a - 1, by omega, by rw [ea, pk_sub (by omega)]⟩
          · exact absurd rfl hj
      · have hns : ¬ s_next me ar (ss, cr, se, re, sv, ad) i = true := by rw [hni]; exact h2
        have key : ∀ (v3 : Int32), (v3 = nI 0 ∨ v3 = nI 3) → ∀ (w ad2 : Int32), s_perf me ar (ss, cr, se, re, sv, ad) (kiB, owB, mrB, vaB, fiB, szB) i = ((upd ss i (nI 2), cr, se, upd re i v3, upd sv i w, ad2), l_send (kiB, owB, mrB, vaB, fiB, szB) (nI 3) (nI i) v3 w) → m_work1 me ar ad ss cr se re sv (z1, kM, oM, mM, vM) i = ((nI 0, ad2, upd ss i (nI 2), cr, se, upd re i v3, upd sv i w, m_send 1 (z1, kM, oM, mM, vM) (nI 3) (nI i) v3 w), nI 2) → ∃ (L2 : LaneS) (ss2 cr2 se2 re2 sv2 : Fn) (ad2 : Int32) (z2 : Nat) (K2 : Fn × Fn × Fn × Fn), u1 = (L2, (ss2, cr2, se2, re2, sv2, ad2)) ∧ v = (r, ad2, ss2, cr2, se2, re2, sv2, z2, K2) ∧ outOK r f1 b ∧ Rel (k + 1) n me pa oc cv cvM ss2 cr2 se2 re2 bu (ki, ow, mr, va, fi, sz) L2 z0 z2 K2 := by
          intro v3 hv3 w ad2 e1 e2
          simp only [m_work, if_pos h, e2, Prod.mk.injEq] at hM
          simp only [if_pos h, if_pos h1, if_neg hns, s_step, e1] at hL
          rcases hL with ⟨-, rfl, ⟨⟨-, hu, rfl⟩, -⟩, rfl⟩ | ⟨j, rfl, hj, -⟩
          · obtain ⟨rfl, rfl⟩ := hM
            have hu2 : u1 = (l_send (kiB, owB, mrB, vaB, fiB, szB) (nI 3) (nI i) v3 w, (upd ss i (nI 2), cr, se, upd re i v3, upd sv i w, ad2)) := by
              obtain ⟨ua, ub⟩ := u1
              simp only [Prod.mk.injEq] at hu ⊢
              exact ⟨hu.2, hu.1⟩
            subst hu2
            refine ⟨_, upd ss i (nI 2), cr, se, upd re i v3, upd sv i w, ad2, _, (m_send 1 (z1, kM, oM, mM, vM) (nI 3) (nI i) v3 w).2, rfl, rfl, ?_, ⟨hn, hch, hh⟩, ⟨a4, hb, hme, ok4_upd h4s (Or.inr (Or.inr (Or.inl rfl)))⟩, ⟨hcr1, hse, upd_all (p := fun z => z = nI 0 ∨ z = nI 3) hre hv3⟩, RLn_so (by decide) g4 _ _ _ _, RLn_send g5 _ _ _ _, g6, FV_send g7 ⟨⟨i, hx1, rfl⟩, fun _ => hv3⟩⟩
            show outOK (nI 0) (vp_updL f 0 (Int32.toInt64 (upd ss i (nI 2) i))) (nI 2)
            rw [upd_s]; exact outYes
          · exact absurd rfl hj
        have m2 : ¬ nI 2 = (0 : Int32) := by decide +kernel
        have m1 : ¬ nI 1 = (0 : Int32) := by decide +kernel
        have m3 : ¬ nI 3 = (0 : Int32) := by decide +kernel
        have m21 : ¬ nI 2 = nI 1 := by decide +kernel
        have m31 : ¬ nI 3 = nI 1 := by decide +kernel
        have m32 : ¬ nI 3 = nI 2 := by decide +kernel
        have m01 : ¬ nI 0 = nI 1 := by decide +kernel
        have m02 : ¬ nI 0 = nI 2 := by decide +kernel
        have m12 : ¬ nI 1 = nI 2 := by decide +kernel
        rcases hme i hx1 with m | m | m | m
        · refine key (nI 0) (Or.inl rfl) (ar i * ar i) ad ?_ ?_
          · simp only [s_perf, s_sendA, m, s_ans, if_true, if_neg m02, if_neg m01, upd_s]
          · simp only [m_work1, if_pos h1, if_neg h2, m_ans, upd_s, if_pos (m.trans nI_0)]
        · refine key (nI 0) (Or.inl rfl) (ad + ar i) (ad + ar i) ?_ ?_
          · simp only [s_perf, s_sendA, m, s_ans, if_true, if_neg n10, if_neg m12, upd_s]
          · simp only [m_work1, if_pos h1, if_neg h2, m_ans, upd_s, m, if_neg m1, if_true]
        · refine key (nI 3) (Or.inr rfl) (nI 0) ad ?_ ?_
          · simp only [s_perf, s_sendA, m, s_ans, if_true, if_neg n20, if_neg m21, upd_s]
          · simp only [m_work1, if_pos h1, if_neg h2, m_ans, upd_s, m, if_neg m2, if_neg m21, if_true]
        · refine key (nI 0) (Or.inl rfl) (m_item (ar i)) ad ?_ ?_
          · simp only [s_perf, s_sendA, m, s_ans, if_true, if_neg n30, if_neg m31, if_neg m32, upd_s, item_max]
          · simp only [m_work1, if_pos h1, if_neg h2, m_ans, upd_s, m, if_neg m3, if_neg m31, if_neg m32]
    · simp only [m_work, if_pos h, m_work1, if_neg h1, Prod.mk.injEq] at hM
      simp only [if_pos h, if_neg h1] at hL
      rcases hL with ⟨z, -⟩ | ⟨j, rfl, hj, hc, rfl, -⟩
      · exact absurd z (by decide)
      · have e : r = nI 2 := by rcases hc with ⟨z, -⟩ | ⟨-, z⟩; exact absurd z (by decide); exact z
        subst e
        exact ⟨_, ss, cr, se, re, sv, ad, z1, (kM, oM, mM, vM), rfl, hM.1, outNo2, ⟨hn, hch, hh⟩, ⟨a4, hb, hme, h4s⟩, ⟨hcr1, hse, hre⟩, g4, g5, g6, g7⟩
  · simp only [m_work, if_neg h, Prod.mk.injEq] at hM
    simp only [if_neg h] at hL
    rcases hL with ⟨z, -⟩ | ⟨j, rfl, hj, hc, rfl, -⟩
    · exact absurd z (by decide)
    · have e : r = nI 1 := by rcases hc with ⟨-, z⟩ | ⟨z, -⟩; exact z; exact absurd z (by decide)
      subst e
      exact ⟨_, ss, cr, se, re, sv, ad, z1, (kM, oM, mM, vM), rfl, hM.1, outNo1, ⟨hn, hch, hh⟩, ⟨a4, hb, hme, h4s⟩, ⟨hcr1, hse, hre⟩, g4, g5, g6, g7⟩
end PU
