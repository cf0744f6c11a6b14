theorem L_in {q x tm : Int32} {Y : Nat} : (if g_ma q x = true then (if tm < nI 1 then 2 else if tm ≤ nI 1000 then Y else 2) else 2) = if (g_in q (nI 0) (nI 3) = true ∧ g_in x (-1000) (nI 1000) = true ∧ g_in tm (nI 1) (nI 1000) = true) then Y else 2 := by
  have h3 : g_in tm (nI 1) (nI 1000) = true ↔ (¬ tm < nI 1 ∧ tm ≤ nI 1000) := by rw [g_in_iff, Int32.not_lt (a := nI 1000)]
  by_cases h : g_ma q x = true
  · obtain ⟨a, b⟩ := gma.mp h
    rw [if_pos h]
    by_cases i1 : tm < nI 1
    · rw [if_pos i1, if_neg (fun z => (h3.mp z.2.2).1 i1)]
    · by_cases i2 : tm ≤ nI 1000
      · rw [if_neg i1, if_pos i2, if_pos ⟨a, b, h3.mpr ⟨i1, i2⟩⟩]
      · rw [if_neg i1, if_neg i2, if_neg (fun z => i2 (h3.mp z.2.2).2)]
  · rw [if_neg h, if_neg (fun z => h (gma.mpr ⟨z.1, z.2.1⟩))]
theorem M_in {α : Type} {q x tm : Int32} {Z W : α} : (if g_in q (nI 0) (nI 3) = true then (if g_in x (-1000) (nI 1000) = true then (if g_in tm (nI 1) (nI 1000) = true then Z else W) else W) else W) = if (g_in q (nI 0) (nI 3) = true ∧ g_in x (-1000) (nI 1000) = true ∧ g_in tm (nI 1) (nI 1000) = true) then Z else W := by
  by_cases a : g_in q (nI 0) (nI 3) = true
  · by_cases b : g_in x (-1000) (nI 1000) = true
    · by_cases c : g_in tm (nI 1) (nI 1000) = true
      · rw [if_pos a, if_pos b, if_pos c, if_pos ⟨a, b, c⟩]
      · rw [if_pos a, if_pos b, if_neg c, if_neg (fun z => c z.2.2)]
    · rw [if_pos a, if_neg b, if_neg (fun z => b z.2.1)]
  · rw [if_neg a, if_neg (fun z => a z.1)]
theorem c40 {n : Nat} (hn : n ≤ 40) : (¬ n < 40) ↔ n = 40 := by omega
section PU
variable {k n c0 c1 : Nat} {th ti ad bu r res b x y q tm pp : Int32} {me ar dl pa oc cv cvM rq la rc su ss cr se re sv : Fn} {ki ow mr va kiB owB mrB vaB kM oM mM vM : Fn} {fi sz fiB szB z0 z1 : Nat} {f f1 : Nat → Int64}
theorem op_open {u1 : (BookS) × (LaneS) × (CalS)} {v : Int32 × Nat × Fn × Fn × Fn × Fn × Fn × Fn × Fn × Nat × Fn × Fn × Fn × Fn} (R : Rel k n me pa oc cv cvM ss cr se re bu (ki, ow, mr, va, fi, sz) (kiB, owB, mrB, vaB, fiB, szB) z0 z1 (kM, oM, mM, vM)) (hL : ((if pp = -1 then (if g_ma q x = true then (if tm < nI 1 then 2 else if tm ≤ nI 1000 then (if ¬ n < 40 then 3 else 0) else 2) else 2) else if g_has n pp = true then (if g_ma q x = true then (if tm < nI 1 then 2 else if tm ≤ nI 1000 then (if oc (ix pp) = -1 then (if ¬ n < 40 then 3 else 0) else 3) else 2) else 2) else 1) = 0 ∧ r = nI 0 ∧ (((if pp = -1 then (if g_ma q x = true then (if tm < nI 1 then 2 else if tm ≤ nI 1000 then (if ¬ n < 40 then 3 else 0) else 2) else 2) else if g_has n pp = true then (if g_ma q x = true then (if tm < nI 1 then 2 else if tm ≤ nI 1000 then (if oc (ix pp) = -1 then (if ¬ n < 40 then 3 else 0) else 3) else 2) else 2) else 1) = 0 ∧ u1 = ((upd me n q, upd ar n x, upd dl n (g_end dl ti tm pp), n + 1), (k_begin (pa, oc, cv, rq, la, rc, su, bu) (ki, ow, mr, va, fi, sz) n pp ti).2, (k_begin (pa, oc, cv, rq, la, rc, su, bu) (ki, ow, mr, va, fi, sz) n pp ti).1) ∧ (res) = nI n) ∧ u1.2.1.2.2.2.2.1 < 40 ∧ u1.2.1.2.2.2.2.2 ≤ 40) ∧ f1 = vp_updL f 0 (Int32.toInt64 res)) ∨ (∃ k, (if pp = -1 then (if g_ma q x = true then (if tm < nI 1 then 2 else if tm ≤ nI 1000 then (if ¬ n < 40 then 3 else 0) else 2) else 2) else if g_has n pp = true then (if g_ma q x = true then (if tm < nI 1 then 2 else if tm ≤ nI 1000 then (if oc (ix pp) = -1 then (if ¬ n < 40 then 3 else 0) else 3) else 2) else 2) else 1) = k ∧ k ≠ 0 ∧ ((k = 1 ∧ r = nI 1) ∨ (k = 2 ∧ r = nI 2) ∨ (k = 3 ∧ r = nI 3)) ∧ u1 = ((me, ar, dl, n), (ki, ow, mr, va, fi, sz), (pa, oc, cv, rq, la, rc, su, bu)) ∧ f1 = f)) (hM : (v, b) = m_open n me ar pa dl rq la oc (z0, kM, oM, mM, vM) ti q x tm pp) : ∃ (n2 : Nat) (me2 ar2 dl2 pa2 oc2 rq2 la2 : Fn) (L2 : LaneS) (z2 : Nat) (K2 : Fn × Fn × Fn × Fn), u1 = ((me2, ar2, dl2, n2), L2, (pa2, oc2, cv, rq2, la2, rc, su, bu)) ∧ v = (r, n2, me2, ar2, pa2, dl2, rq2, la2, oc2, z2, K2) ∧ outOK r f1 b ∧ Rel (k + 1) n2 me2 pa2 oc2 cv cvM ss cr se re bu L2 (kiB, owB, mrB, vaB, fiB, szB) z2 z1 K2 := by
  have R1 := R.up
  obtain ⟨⟨hn, hch, hh⟩, ⟨a4, hb, hme, h4s⟩, g3, g4, g5, g6, g7⟩ := R1
  simp only [L_in] at hL
  unfold m_open at hM
  simp only [M_in] at hM
  by_cases hp : pp = -1
  · rw [if_pos hp] at hM
    simp only [if_pos hp] at hL
    by_cases hr : (g_in q (nI 0) (nI 3) = true ∧ g_in x (-1000) (nI 1000) = true ∧ g_in tm (nI 1) (nI 1000) = true)
    · rw [if_pos hr] at hM
      simp only [if_pos hr] at hL
      by_cases h40 : n = 40
      · rw [if_pos h40, Prod.mk.injEq] at hM
        simp only [if_pos ((c40 hn).mpr h40)] at hL
        rcases hL with ⟨z, -⟩ | ⟨j, rfl, hj, hc, rfl, -⟩
        · exact absurd z (by decide)
        · have e : r = nI 3 := by rcases hc with ⟨z, -⟩ | ⟨z, -⟩ | ⟨-, z⟩; exact absurd z (by decide); exact absurd z (by decide); exact z
          subst e
          exact ⟨n, me, ar, dl, pa, oc, rq, la, _, z0, (kM, oM, mM, vM), rfl, hM.1, outNo3, R.up⟩
      · rw [if_neg h40, m_opn, Prod.mk.injEq] at hM
        simp only [if_neg (fun z => h40 ((c40 hn).mp z)), k_begin, k_req] at hL
        rcases hL with ⟨-, rfl, ⟨⟨-, rfl, rfl⟩, -⟩, rfl⟩ | ⟨j, rfl, hj, -⟩
        · obtain ⟨rfl, rfl⟩ := hM
          have hlt : n < 40 := by omega
          refine ⟨n + 1, upd me n q, upd ar n x, upd dl n (g_end dl ti tm pp), upd pa n pp, upd oc n (-1), upd rq n (rq n + nI 1), upd la n ti, l_send (ki, ow, mr, va, fi, sz) (nI 0) (nI n) (nI 0) (nI 0), (m_send 0 (z0, kM, oM, mM, vM) (nI 0) (nI n) (nI 0) (nI 0)).1, (m_send 0 (z0, kM, oM, mM, vM) (nI 0) (nI n) (nI 0) (nI 0)).2, rfl, ?_, outYes, ⟨hlt, ?_, ?_⟩, ⟨fun i hi => ?_, hb, fun i hi => ?_, h4s⟩, g3, RLn_send g4 _ _ _ _, RLn_so (by decide) g5 _ _ _ _, FV_send (FV_mono g6 (fun _ _ _ _ => P0_mono)) ⟨Or.inl rfl, ⟨n, Nat.lt_succ_self n, rfl⟩, fun z => absurd z (by decide +kernel)⟩, FV_mono g7 (fun _ _ _ _ => P1_mono)⟩
          · (try rw [end_eq]); (try rfl)
          · intro i hi
            by_cases e : i = n
            · rw [e, upd_s]
              exact Or.inl hp
            · rw [upd_n e]; exact hch i (by omega)
          · intro i hi hoi
            by_cases e : i = n
            · rw [e, upd_s]
              exact Or.inl hp
            · rw [upd_n e] at hoi ⊢
              rcases hh i (by omega) hoi with z | ⟨j, hj, e1, e2⟩
              · exact Or.inl z
              · exact Or.inr ⟨j, hj, e1, by rw [upd_n (show j ≠ n by omega)]; exact e2⟩
          · by_cases e : i = n
            · rw [e, upd_s] at hi; exact absurd hi (by decide +kernel)
            · rw [upd_n e] at hi; exact a4 i hi
          · by_cases e : i = n
            · rw [e, upd_s]; exact four hr.1
            · rw [upd_n e]; exact hme i (by omega)
        · exact absurd rfl hj
    · rw [if_neg hr, Prod.mk.injEq] at hM
      simp only [if_neg hr] at hL
      rcases hL with ⟨z, -⟩ | ⟨j, rfl, hj, hc, rfl, -⟩
      · exact absurd z (by decide)
      · have e : r = nI 2 := by rcases hc with ⟨z, -⟩ | ⟨-, z⟩ | ⟨z, -⟩; exact absurd z (by decide); exact z; exact absurd z (by decide)
        subst e
        exact ⟨n, me, ar, dl, pa, oc, rq, la, _, z0, (kM, oM, mM, vM), rfl, hM.1, outNo2, R.up⟩
  · rw [if_neg hp] at hM
    simp only [if_neg hp] at hL
    by_cases h : g_has n pp = true
    · obtain ⟨hx1, hx2⟩ := has_ix h hn
      rw [if_pos h] at hM
      simp only [if_pos h] at hL
      by_cases hr : (g_in q (nI 0) (nI 3) = true ∧ g_in x (-1000) (nI 1000) = true ∧ g_in tm (nI 1) (nI 1000) = true)
      · rw [if_pos hr] at hM
        simp only [if_pos hr] at hL
        by_cases ho : oc (ix pp) = -1
        · by_cases h40 : n = 40
          · rw [if_pos h40, Prod.mk.injEq] at hM
            simp only [if_pos ho, if_pos ((c40 hn).mpr h40)] at hL
            rcases hL with ⟨z, -⟩ | ⟨j, rfl, hj, hc, rfl, -⟩
            · exact absurd z (by decide)
            · have e : r = nI 3 := by rcases hc with ⟨z, -⟩ | ⟨z, -⟩ | ⟨-, z⟩; exact absurd z (by decide); exact absurd z (by decide); exact z
              subst e
              exact ⟨n, me, ar, dl, pa, oc, rq, la, _, z0, (kM, oM, mM, vM), rfl, hM.1, outNo3, R.up⟩
          · rw [if_neg h40, if_pos ho, m_opn, Prod.mk.injEq] at hM
            simp only [if_pos ho, if_neg (fun z => h40 ((c40 hn).mp z)), k_begin, k_req] at hL
            rcases hL with ⟨-, rfl, ⟨⟨-, rfl, rfl⟩, -⟩, rfl⟩ | ⟨j, rfl, hj, -⟩
            · obtain ⟨rfl, rfl⟩ := hM
              have hlt : n < 40 := by omega
              refine ⟨n + 1, upd me n q, upd ar n x, upd dl n (g_end dl ti tm pp), upd pa n pp, upd oc n (-1), upd rq n (rq n + nI 1), upd la n ti, l_send (ki, ow, mr, va, fi, sz) (nI 0) (nI n) (nI 0) (nI 0), (m_send 0 (z0, kM, oM, mM, vM) (nI 0) (nI n) (nI 0) (nI 0)).1, (m_send 0 (z0, kM, oM, mM, vM) (nI 0) (nI n) (nI 0) (nI 0)).2, rfl, ?_, outYes, ⟨hlt, ?_, ?_⟩, ⟨fun i hi => ?_, hb, fun i hi => ?_, h4s⟩, g3, RLn_send g4 _ _ _ _, RLn_so (by decide) g5 _ _ _ _, FV_send (FV_mono g6 (fun _ _ _ _ => P0_mono)) ⟨Or.inl rfl, ⟨n, Nat.lt_succ_self n, rfl⟩, fun z => absurd z (by decide +kernel)⟩, FV_mono g7 (fun _ _ _ _ => P1_mono)⟩
              · (try rw [end_eq]); (try rfl)
              · intro i hi
                by_cases e : i = n
                · rw [e, upd_s]
                  exact Or.inr ⟨ix pp, hx1, hx2⟩
                · rw [upd_n e]; exact hch i (by omega)
              · intro i hi hoi
                by_cases e : i = n
                · rw [e, upd_s]
                  exact Or.inr ⟨ix pp, hx1, hx2, by rw [upd_n (show ix pp ≠ n by omega)]; exact ho⟩
                · rw [upd_n e] at hoi ⊢
                  rcases hh i (by omega) hoi with z | ⟨j, hj, e1, e2⟩
                  · exact Or.inl z
                  · exact Or.inr ⟨j, hj, e1, by rw [upd_n (show j ≠ n by omega)]; exact e2⟩
              · by_cases e : i = n
                · rw [e, upd_s] at hi; exact absurd hi (by decide +kernel)
                · rw [upd_n e] at hi; exact a4 i hi
              · by_cases e : i = n
                · rw [e, upd_s]; exact four hr.1
                · rw [upd_n e]; exact hme i (by omega)
            · exact absurd rfl hj
        · have hM2 : v = (nI 3, n, me, ar, pa, dl, rq, la, oc, z0, kM, oM, mM, vM) ∧ b = nI 0 := by
            by_cases h40 : n = 40
            · rw [if_pos h40, Prod.mk.injEq] at hM; exact hM
            · rw [if_neg h40, if_neg ho, Prod.mk.injEq] at hM; exact hM
          clear hM
          have hM := hM2
          simp only [if_neg ho] at hL
          rcases hL with ⟨z, -⟩ | ⟨j, rfl, hj, hc, rfl, -⟩
          · exact absurd z (by decide)
          · have e : r = nI 3 := by rcases hc with ⟨z, -⟩ | ⟨z, -⟩ | ⟨-, z⟩; exact absurd z (by decide); exact absurd z (by decide); exact z
            subst e
            exact ⟨n, me, ar, dl, pa, oc, rq, la, _, z0, (kM, oM, mM, vM), rfl, hM.1, outNo3, R.up⟩
      · rw [if_neg hr, Prod.mk.injEq] at hM
        simp only [if_neg hr] at hL
        rcases hL with ⟨z, -⟩ | ⟨j, rfl, hj, hc, rfl, -⟩
        · exact absurd z (by decide)
        · have e : r = nI 2 := by rcases hc with ⟨z, -⟩ | ⟨-, z⟩ | ⟨z, -⟩; exact absurd z (by decide); exact z; exact absurd z (by decide)
          subst e
          exact ⟨n, me, ar, dl, pa, oc, rq, la, _, z0, (kM, oM, mM, vM), rfl, hM.1, outNo2, R.up⟩
    · rw [if_neg h, Prod.mk.injEq] at hM
      simp only [if_neg h] at hL
      rcases hL with ⟨z, -⟩ | ⟨j, rfl, hj, hc, rfl, -⟩
      · exact absurd z (by decide)
      · have e : r = nI 1 := by rcases hc with ⟨-, z⟩ | ⟨z, -⟩ | ⟨z, -⟩; exact z; exact absurd z (by decide); exact absurd z (by decide)
        subst e
        exact ⟨n, me, ar, dl, pa, oc, rq, la, _, z0, (kM, oM, mM, vM), rfl, hM.1, outNo1, R.up⟩
end PU
