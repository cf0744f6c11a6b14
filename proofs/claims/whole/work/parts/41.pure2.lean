theorem fo_init {pa oc : Fn} {n c : Nat} {o : Int32} (hch : m_ch pa n) (hn : n ≤ 40) (hc : c < n) : fo pa oc c o (c + 1) = upd oc c o := by
  funext j
  rw [fo, if_neg]
  rintro ⟨h1, h2, h3, h4⟩
  have hb : bel pa c j = false := by
    refine m_bel_low hch hn hc (j + 1) (pa j) ?_
    rcases hch j (by omega) with e | ⟨j2, e1, e2⟩
    · exact Or.inl e
    · exact Or.inr ⟨j2, e2, by omega, by omega⟩
  rw [hb] at h4
  exact absurd h4 (by decide)
theorem add_a (k : Int32) : nI 1 + k + nI 1 = nI 1 + (k + nI 1) := Int32.add_assoc _ _ _
theorem add_z (k : Int32) : k + nI 0 = k := by rw [nI_0]; exact Int32.add_zero k
/-- lanes that a walk of the caller's leaves behind: the same row, the same frames but cancellations, the other direction as it was -/
def Lk (L L2 : LaneS) (F F2 : FS) (n : Nat) : Prop := RLn L2 0 F2 ∧ (∀ P : Int32 → Int32 → Int32 → Int32 → Prop, FVp P L → (∀ kd i, (kd = nI 0 ∨ kd = nI 1) → i < n → P kd (nI i) (nI 0) (nI 0)) → FVp P L2) ∧ (∀ L1 z1, RLn L1 1 (z1, F.2) → RLn L1 1 (z1, F2.2))
theorem Lk.rf {L : LaneS} {F : FS} {n : Nat} (h : RLn L 0 F) : Lk L L F F n := ⟨h, fun _ h _ => h, fun _ _ h => h⟩
theorem Lk.send {L L2 : LaneS} {F F2 : FS} {n i : Nat} {kd : Int32} (h : Lk L L2 F F2 n) (hk : kd = nI 0 ∨ kd = nI 1) (hi : i < n) : Lk L (l_send L2 kd (nI i) (nI 0) (nI 0)) F (m_send 0 F2 kd (nI i) (nI 0) (nI 0)) n :=
  ⟨RLn_send h.1 _ _ _ _, fun P hp hq => FV_send (h.2.1 P hp hq) (hq kd i hk hi), fun L1 z1 hl => RLn_so (by decide) (h.2.2 L1 z1 hl) _ _ _ _⟩
theorem Lk.trans {L L2 L3 : LaneS} {F F2 F3 : FS} {n : Nat} (h : Lk L L2 F F2 n) (h2 : Lk L2 L3 F2 F3 n) : Lk L L3 F F3 n :=
  ⟨h2.1, fun P hp hq => h2.2.1 P (h.2.1 P hp hq) hq, fun L1 z1 hl => h2.2.2 L1 z1 (h.2.2 L1 z1 hl)⟩
theorem orph_sim {n c : Nat} {pa oc cv rq la rc su : Fn} {bu o : Int32} {L : LaneS} {F : FS} (hn : n ≤ 40) (hch : m_ch pa n) (hh : hop pa oc n) (hc : c < n) (ho : ¬ o = -1) (hL : RLn L 0 F) :
    ∃ (L2 : LaneS) (F2 : FS) (k2 : Int32), k_orph n c (pa, upd oc c o, cv, rq, la, rc, su, bu) L = ((pa, fo pa oc c o n, cv, rq, la, rc, su, bu), L2, k2) ∧ it (m_orph1 pa c) (n - (c + 1)) (c + 1) (upd oc c o, F, nI 1) = (fo pa oc c o n, F2, nI 1 + k2) ∧ Lk L L2 F F2 n := by
  have key := it_sim (st := k_orph1 n) (st' := m_orph1 pa c) (fun i x y => ∃ (L' : LaneS) (F' : FS) (k' : Int32), x = ((pa, fo pa oc c o i, cv, rq, la, rc, su, bu), L', k') ∧ y = (fo pa oc c o i, F', nI 1 + k') ∧ c < i ∧ Lk L L' F F' n) n ?_ (n - (c + 1)) (c + 1) ((pa, upd oc c o, cv, rq, la, rc, su, bu), L, nI 0) (upd oc c o, F, nI 1) (by omega) ?_
  · rw [show c + 1 + (n - (c + 1)) = n by omega] at key
    obtain ⟨L2, F2, k2, h1, h2, -, h3⟩ := key
    exact ⟨L2, F2, k2, h1, h2, h3⟩
  · rintro i x y hi ⟨L', F', k', rfl, rfl, hci, hk⟩
    by_cases h1 : oc i = -1
    · have hb := hep_bel hch hn hh hc hi hci ho h1
      by_cases h2 : bel pa c i = true
      · refine ⟨l_send L' (nI 1) (nI i) (nI 0) (nI 0), m_send 0 F' (nI 1) (nI i) (nI 0) (nI 0), k' + nI 1, ?_, ?_, by omega, hk.send (Or.inr rfl) hi⟩
        · rw [fo_s hci, if_pos ⟨h1, h2⟩]
          simp only [k_orph1, fo_i hci, hb, h1, h2, and_self, if_true]
        · rw [fo_s hci, if_pos ⟨h1, h2⟩, ← add_a]
          have h3 : m_bel pa c (i + 1) (pa i) = true := h2
          simp only [m_orph1, fo_i hci, h1, h3, and_self, if_true]
      · refine ⟨L', F', k', ?_, ?_, by omega, hk⟩
        · rw [fo_s hci, if_neg (fun z => h2 z.2)]
          simp only [k_orph1, fo_i hci, hb, h1, h2, and_false, if_false, Bool.false_eq_true]
        · rw [fo_s hci, if_neg (fun z => h2 z.2)]
          have h3 : ¬ m_bel pa c (i + 1) (pa i) = true := h2
          simp only [m_orph1, fo_i hci, h1, h3, and_false, if_false, Bool.false_eq_true]
    · refine ⟨L', F', k', ?_, ?_, by omega, hk⟩
      · rw [fo_s hci, if_neg (fun z => h1 z.1)]
        simp only [k_orph1, fo_i hci, h1, false_and, if_false]
      · rw [fo_s hci, if_neg (fun z => h1 z.1)]
        simp only [m_orph1, fo_i hci, h1, false_and, if_false]
  · exact ⟨L, F, nI 0, by rw [fo_init hch hn hc], by rw [fo_init hch hn hc, add_z], by omega, Lk.rf hL⟩
theorem m_tok_n {tk o : Int32} (h : ¬ o = 0) : m_tok tk o = tk := by rw [m_tok, if_neg h, add_z]
theorem endS_sim {n c : Nat} {pa oc cv rq la rc su : Fn} {bu o tk : Int32} {L : LaneS} {F : FS} (hn : n ≤ 40) (hch : m_ch pa n) (hh : hop pa oc n) (hc : c < n) (ho : ¬ o = -1) (hL : RLn L 0 F) :
    ∃ (L2 : LaneS) (F2 : FS) (k2 : Int32), k_endS n (pa, oc, cv, rq, la, rc, su, bu) L c o = ((pa, fo pa oc c o n, cv, rq, la, rc, su, bu), L2, k2) ∧ m_fin n pa tk oc F c o false = (m_tok tk o, fo pa oc c o n, F2, k2) ∧ Lk L L2 F F2 n := by
  obtain ⟨L2, F2, k2, h1, h2, h3⟩ := orph_sim (cv := cv) (rq := rq) (la := la) (rc := rc) (su := su) (bu := bu) hn hch hh hc ho hL
  refine ⟨L2, F2, nI 1 + k2, ?_, ?_, h3⟩
  · simp only [k_endS, h1]
  · simp only [m_fin, Bool.false_eq_true, if_false, h2]
theorem endT_sim {n c : Nat} {pa oc cv rq la rc su : Fn} {bu o tk : Int32} {L : LaneS} {F : FS} (hn : n ≤ 40) (hch : m_ch pa n) (hh : hop pa oc n) (hc : c < n) (ho : ¬ o = -1) (hL : RLn L 0 F) :
    ∃ (L2 : LaneS) (F2 : FS) (k2 : Int32), k_endT n (pa, oc, cv, rq, la, rc, su, bu) L c o = ((pa, fo pa oc c o n, cv, rq, la, rc, su, bu), L2, k2) ∧ m_fin n pa tk oc F c o true = (m_tok tk o, fo pa oc c o n, F2, k2) ∧ Lk L L2 F F2 n := by
  have h0 : Lk L (l_send L (nI 1) (nI c) (nI 0) (nI 0)) F (m_send 0 F (nI 1) (nI c) (nI 0) (nI 0)) n := (Lk.rf hL).send (Or.inr rfl) hc
  obtain ⟨L2, F2, k2, h1, h2, h3⟩ := orph_sim (cv := cv) (rq := rq) (la := la) (rc := rc) (su := su) (bu := bu) hn hch hh hc ho h0.1
  refine ⟨L2, F2, nI 1 + k2, ?_, ?_, h0.trans h3⟩
  · simp only [k_endT, h1]
  · simp only [m_fin, if_true, h2]
theorem nn1 (j : Nat) (h : j < 100) : ¬ nI j = -1 := nI_nm1 (by omega)
theorem due_sim {n : Nat} {pa oc cv rq la rc su dl : Fn} {bu t : Int32} {L : LaneS} {F : FS} (hn : n ≤ 40) (hch : m_ch pa n) (hh : hop pa oc n) (hL : RLn L 0 F) :
    ∃ (oc2 : Fn) (L2 : LaneS) (F2 : FS) (k2 : Int32), k_due n dl t (pa, oc, cv, rq, la, rc, su, bu) L = ((pa, oc2, cv, rq, la, rc, su, bu), L2, k2) ∧ it (m_due1 n pa dl t) (n - 0) 0 (bu, oc, F, nI 0) = (bu, oc2, F2, k2) ∧ Lk L L2 F F2 n ∧ hop pa oc2 n ∧ ∀ i, oc2 i = 0 → oc i = 0 := by
  have key := it_sim (st := k_due1 n dl t) (st' := m_due1 n pa dl t) (fun _ x y => ∃ (oc' : Fn) (L' : LaneS) (F' : FS) (k' : Int32), x = ((pa, oc', cv, rq, la, rc, su, bu), L', k') ∧ y = (bu, oc', F', k') ∧ Lk L L' F F' n ∧ hop pa oc' n ∧ ∀ i, oc' i = 0 → oc i = 0) n ?_ (n - 0) 0 ((pa, oc, cv, rq, la, rc, su, bu), L, nI 0) (bu, oc, F, nI 0) (by omega) ⟨oc, L, F, nI 0, rfl, rfl, Lk.rf hL, hh, fun _ h => h⟩
  · exact key
  · rintro i x y hi ⟨oc', L', F', k', rfl, rfl, hk, hh', h0⟩
    by_cases h1 : oc' i = -1 ∧ ¬ t < dl i
    · obtain ⟨L2, F2, k2, e1, e2, h3⟩ := endS_sim (cv := cv) (rq := rq) (la := la) (rc := rc) (su := su) (bu := bu) (tk := bu) (o := nI 2) hn hch hh' hi (nn1 2 (by decide)) hk.1
      refine ⟨_, L2, F2, k' + k2, ?_, ?_, hk.trans h3, hop_fo hch hn hh' hi (nn1 2 (by decide)), fun q hq => ?_⟩
      · simp only [k_due1, if_pos h1, e1]
      · simp only [m_due1, if_pos h1, e2, m_tok_n (show ¬ nI 2 = 0 by decide +kernel)]
      · rcases fo_0 hq with z | z
        · exact h0 q z.2
        · exact absurd z.2 (by decide +kernel)
    · refine ⟨oc', L', F', k', ?_, ?_, hk, hh', h0⟩
      · simp only [k_due1, if_neg h1]
      · simp only [m_due1, if_neg h1]
theorem bu_10 {b : Int32} (h1 : b ≤ nI 100) (h2 : ¬ b < nI 10) : b - nI 10 ≤ nI 100 := by
  have a1 : (nI 100).toInt = 100 := by decide +kernel
  have a2 : (nI 10).toInt = 10 := by decide +kernel
  rw [Int32.le_iff_toInt_le, a1] at h1
  rw [Int32.lt_iff_toInt_lt, a2] at h2
  rw [Int32.le_iff_toInt_le, a1, Int32.toInt_sub, a2]
  have : (b.toInt - 10).bmod (2 ^ 32) = b.toInt - 10 := Int.bmod_eq_of_le (by omega) (by omega)
  rw [this]; omega
theorem bu_1 {b : Int32} (h1 : b ≤ nI 100) : (if nI 100 < b + nI 1 then nI 100 else b + nI 1) = m_tok b 0 ∧ m_tok b 0 ≤ nI 100 := by
  have a1 : (nI 100).toInt = 100 := by decide +kernel
  have a2 : (nI 1).toInt = 1 := by decide +kernel
  have hb := b.toInt_lt
  have hb2 := b.le_toInt
  have h3 : b.toInt ≤ 100 := by rw [Int32.le_iff_toInt_le, a1] at h1; exact h1
  have e : (b + nI 1).toInt = b.toInt + 1 := by
    rw [Int32.toInt_add, a2]
    exact Int.bmod_eq_of_le (by omega) (by omega)
  have c1 : nI 100 < b + nI 1 ↔ nI 100 ≤ b := by
    rw [Int32.lt_iff_toInt_lt, Int32.le_iff_toInt_le, a1, e]; omega
  unfold m_tok
  rw [if_pos rfl]
  by_cases q : nI 100 ≤ b
  · rw [if_pos (c1.mpr q), if_pos q, add_z]
    refine ⟨?_, h1⟩
    apply Int32.toInt_inj.mp
    rw [Int32.le_iff_toInt_le, a1] at q
    omega
  · rw [if_neg (fun z => q (c1.mp z)), if_neg q]
    refine ⟨rfl, ?_⟩
    rw [Int32.le_iff_toInt_le, a1, e]
    rw [Int32.le_iff_toInt_le, a1] at q
    omega
theorem rep_sim {n : Nat} {pa oc cv rq la rc su : Fn} {bu t : Int32} {L : LaneS} {F : FS} (hL : RLn L 0 F) (hb : bu ≤ nI 100) :
    ∃ (rq2 la2 : Fn) (bu2 : Int32) (L2 : LaneS) (F2 : FS), k_rep n t (pa, oc, cv, rq, la, rc, su, bu) L = ((pa, oc, cv, rq2, la2, rc, su, bu2), L2) ∧ it (m_rep1 oc rc t) (n - 0) 0 (bu, rq, la, F) = (bu2, rq2, la2, F2) ∧ Lk L L2 F F2 n ∧ bu2 ≤ nI 100 := by
  have key := it_sim (st := k_rep1 t) (st' := m_rep1 oc rc t) (fun _ x y => ∃ (rq' la' : Fn) (bu' : Int32) (L' : LaneS) (F' : FS), x = ((pa, oc, cv, rq', la', rc, su, bu'), L') ∧ y = (bu', rq', la', F') ∧ Lk L L' F F' n ∧ bu' ≤ nI 100) n ?_ (n - 0) 0 ((pa, oc, cv, rq, la, rc, su, bu), L) (bu, rq, la, F) (by omega) ⟨rq, la, bu, L, F, rfl, rfl, Lk.rf hL, hb⟩
  · exact key
  · rintro i x y hi ⟨rq', la', bu', L', F', rfl, rfl, hk, hb'⟩
    have hc : (k_isrep (pa, oc, cv, rq', la', rc, su, bu') i t = true ∧ ¬ bu' < nI 10) ↔ (oc i = -1 ∧ rc i = 0 ∧ ¬ t - la' i < nI 8 ∧ ¬ nI 4 ≤ rq' i ∧ ¬ bu' < nI 10) := by
      simp only [k_isrep, Bool.and_eq_true, decide_eq_true_eq]
      constructor
      · rintro ⟨⟨h1, h2, h3, h4⟩, h5⟩; exact ⟨h1, h2, h4, h3, h5⟩
      · rintro ⟨h1, h2, h3, h4, h5⟩; exact ⟨⟨h1, h2, h4, h3⟩, h5⟩
    by_cases h1 : oc i = -1 ∧ rc i = 0 ∧ ¬ t - la' i < nI 8 ∧ ¬ nI 4 ≤ rq' i ∧ ¬ bu' < nI 10
    · refine ⟨upd rq' i (rq' i + nI 1), upd la' i t, bu' - nI 10, l_send L' (nI 0) (nI i) (nI 0) (nI 0), m_send 0 F' (nI 0) (nI i) (nI 0) (nI 0), ?_, ?_, hk.send (Or.inl rfl) hi, bu_10 hb' h1.2.2.2.2⟩
      · simp only [k_rep1, if_pos (hc.mpr h1), k_req]
      · simp only [m_rep1, if_pos h1, m_rq]
    · refine ⟨rq', la', bu', L', F', ?_, ?_, hk, hb'⟩
      · simp only [k_rep1, if_neg (fun z => h1 (hc.mp z))]
      · simp only [m_rep1, if_neg h1]
/-- a task's state is one of four -/
def ok4 (ss : Fn) : Prop := ∀ i, ss i = nI 0 ∨ ss i = nI 1 ∨ ss i = nI 2 ∨ ss i = nI 3
theorem ok4_upd {ss : Fn} {k : Nat} {x : Int32} (h : ok4 ss) (hx : x = nI 0 ∨ x = nI 1 ∨ x = nI 2 ∨ x = nI 3) : ok4 (upd ss k x) := by
  intro i
  by_cases e : i = k
  · rw [e, upd_s]; exact hx
  · rw [upd_n e]; exact h i
theorem close_sim {n : Nat} {ss cr se re sv dl : Fn} {ad t : Int32} (h4 : ok4 ss) : s_close n dl t (ss, cr, se, re, sv, ad) = (it (m_cl1 dl t) (n - 0) 0 ss, cr, se, re, sv, ad) ∧ ok4 (it (m_cl1 dl t) (n - 0) 0 ss) := by
  have key := it_sim (st := s_close1 dl t) (st' := m_cl1 dl t) (fun _ x y => x = (y, cr, se, re, sv, ad) ∧ ok4 y) n ?_ (n - 0) 0 (ss, cr, se, re, sv, ad) ss (by omega) ⟨rfl, h4⟩
  · exact key
  · rintro i x y hi ⟨rfl, h⟩
    by_cases h1 : y i = nI 1 ∧ ¬ t < dl i
    · refine ⟨?_, ?_⟩
      · simp only [s_close1, m_cl1, if_pos h1]
      · simp only [m_cl1, if_pos h1]
        exact ok4_upd h (Or.inr (Or.inr (Or.inr rfl)))
    · refine ⟨?_, ?_⟩
      · simp only [s_close1, m_cl1, if_neg h1, upd_id]
      · simp only [m_cl1, if_neg h1, upd_id]
        exact h
theorem ticks_sim {n j : Nat} {pa oc cv rq la rc su dl ss cr se re sv : Fn} {bu ti ad : Int32} {L : LaneS} {F : FS} (hn : n ≤ 40) (hch : m_ch pa n) (hh : hop pa oc n) (hL : RLn L 0 F) (hb : bu ≤ nI 100) (h4 : ok4 ss) :
    ∃ (ti2 bu2 : Int32) (oc2 rq2 la2 ss2 : Fn) (L2 : LaneS) (F2 : FS) (k2 : Int32), it (g_tick1 n dl) (j - 0) 0 ((ti, L, (pa, oc, cv, rq, la, rc, su, bu), (ss, cr, se, re, sv, ad)), nI 0) = ((ti2, L2, (pa, oc2, cv, rq2, la2, rc, su, bu2), (ss2, cr, se, re, sv, ad)), k2)
      ∧ it (m_tick1 n pa dl rc) (j - 0) 0 ((ti, bu, oc, ss, rq, la, F), nI 0) = ((ti2, bu2, oc2, ss2, rq2, la2, F2), k2) ∧ Lk L L2 F F2 n ∧ hop pa oc2 n ∧ (∀ i, oc2 i = 0 → oc i = 0) ∧ bu2 ≤ nI 100 ∧ ok4 ss2 := by
  have key := it_sim (st := g_tick1 n dl) (st' := m_tick1 n pa dl rc) (fun _ x y => ∃ (ti2 bu2 : Int32) (oc2 rq2 la2 ss2 : Fn) (L2 : LaneS) (F2 : FS) (k2 : Int32), x = ((ti2, L2, (pa, oc2, cv, rq2, la2, rc, su, bu2), (ss2, cr, se, re, sv, ad)), k2) ∧ y = ((ti2, bu2, oc2, ss2, rq2, la2, F2), k2) ∧ Lk L L2 F F2 n ∧ hop pa oc2 n ∧ (∀ i, oc2 i = 0 → oc i = 0) ∧ bu2 ≤ nI 100 ∧ ok4 ss2) j ?_ (j - 0) 0 ((ti, L, (pa, oc, cv, rq, la, rc, su, bu), (ss, cr, se, re, sv, ad)), nI 0) ((ti, bu, oc, ss, rq, la, F), nI 0) (by omega) ⟨ti, bu, oc, rq, la, ss, L, F, nI 0, rfl, rfl, Lk.rf hL, hh, fun _ h => h, hb, h4⟩
  · exact key
  · rintro i x y hi ⟨ti1, bu1, oc1, rq1, la1, ss1, L1, F1, k1, rfl, rfl, hk, hh1, h0, hb1, h41⟩
    obtain ⟨oc2, L2, F2, k2, e1, e2, h3, h5, h6⟩ := due_sim (cv := cv) (rq := rq1) (la := la1) (rc := rc) (su := su) (dl := dl) (bu := bu1) (t := ti1 + nI 1) hn hch hh1 hk.1
    obtain ⟨rq3, la3, bu3, L3, F3, e3, e4, h7, h8⟩ := rep_sim (n := n) (pa := pa) (oc := oc2) (cv := cv) (rq := rq1) (la := la1) (rc := rc) (su := su) (t := ti1 + nI 1) h3.1 hb1
    obtain ⟨e5, h9⟩ := close_sim (n := n) (cr := cr) (se := se) (re := re) (sv := sv) (dl := dl) (ad := ad) (t := ti1 + nI 1) h41
    refine ⟨ti1 + nI 1, bu3, oc2, rq3, la3, it (m_cl1 dl (ti1 + nI 1)) (n - 0) 0 ss1, L3, F3, k1 + k2, ?_, ?_, (hk.trans h3).trans h7, h5, fun q hq => h0 q (h6 q hq), h8, h9⟩
    · simp only [g_tick1, e1, e3, e5]
    · simp only [m_tick1, m_tick, e2, e4]
