theorem has0 {n : Nat} (hn : n ≤ 40) : g_has n (nI 0) = true ↔ 0 < n := by
  refine ⟨g_has_pos, fun h => g_has_iff.mpr ⟨nI_pos (by decide), nI_ge h (by omega)⟩⟩
theorem arrS_sim {k c : Nat} {dl ss cr se re sv : Fn} {ad ti kd q : Int32} {L : LaneS} {F : FS} (hkd : kd = nI 0 ∨ kd = nI 1 ∨ kd = nI 2) (hq : kd = nI 2 → ∃ a, a ≤ 10 ∧ q = nI a) (h4 : ok4 ss) (hcr : ∀ i, ∃ a, a ≤ 2 + 10 * k ∧ cr i = nI a) (hL : RLn L 1 F) :
    ∃ (ss2 cr2 : Fn) (L2 : LaneS) (F2 : FS), s_take dl (ss, cr, se, re, sv, ad) L kd c q ti = ((ss2, cr2, se, re, sv, ad), L2) ∧ m_arrS ti dl ss cr re sv F kd c q = (ss2, cr2, F2) ∧ RLn L2 1 F2 ∧ ok4 ss2 ∧ (∀ i, ∃ a, a ≤ 2 + 10 * (k + 1) ∧ cr2 i = nI a)
      ∧ (∀ P : Int32 → Int32 → Int32 → Int32 → Prop, FVp P L → P (nI 3) (nI c) (re c) (sv c) → FVp P L2) ∧ (∀ L0 z, RLn L0 0 (z, F.2) → RLn L0 0 (z, F2.2)) := by
  have up : ∀ i, ∃ a, a ≤ 2 + 10 * (k + 1) ∧ cr i = nI a := fun i => by obtain ⟨a, h1, h2⟩ := hcr i; exact ⟨a, by omega, h2⟩
  have upk : ∀ (x : Int32), (∃ a, a ≤ 2 + 10 * (k + 1) ∧ x = nI a) → ∀ i, ∃ a, a ≤ 2 + 10 * (k + 1) ∧ upd cr c x i = nI a := fun x hx i => by
    by_cases e : i = c
    · rw [e, upd_s]; exact hx
    · rw [upd_n e]; exact up i
  have z2 : ¬ nI 2 = (0 : Int32) := by decide +kernel
  have z1 : ¬ nI 1 = (0 : Int32) := by decide +kernel
  have z3 : ¬ nI 3 = (0 : Int32) := by decide +kernel
  have z21 : ¬ nI 2 = nI 1 := by decide +kernel
  have z12 : ¬ nI 1 = nI 2 := by decide +kernel
  have hti : ¬ dl c ≤ ti ↔ ¬ ¬ ti < dl c := by rw [Int32.not_le]; exact ⟨fun h z => z h, fun h => Classical.not_not.mp h⟩
  have same : ∃ (ss2 cr2 : Fn) (L2 : LaneS) (F2 : FS), ((ss, cr, se, re, sv, ad), L) = (((ss2, cr2, se, re, sv, ad) : SerS), L2) ∧ (ss, cr, F) = (ss2, cr2, F2) ∧ RLn L2 1 F2 ∧ ok4 ss2 ∧ (∀ i, ∃ a, a ≤ 2 + 10 * (k + 1) ∧ cr2 i = nI a) ∧ (∀ P : Int32 → Int32 → Int32 → Int32 → Prop, FVp P L → P (nI 3) (nI c) (re c) (sv c) → FVp P L2) ∧ (∀ L0 z, RLn L0 0 (z, F.2) → RLn L0 0 (z, F2.2)) :=
    ⟨ss, cr, L, F, rfl, rfl, hL, h4, up, fun P h _ => h, fun _ _ h => h⟩
  rcases hkd with rfl | rfl | rfl
  · rw [nI_0]
    by_cases s2 : ss c = nI 2
    · refine ⟨ss, cr, l_send L (nI 3) (nI c) (re c) (sv c), m_send 1 F (nI 3) (nI c) (re c) (sv c), ?_, ?_, RLn_send hL _ _ _ _, h4, up, fun P h hp => FV_send h hp, fun L0 z h => RLn_so (by decide) h _ _ _ _⟩
      · simp only [s_take, s_treq, s_sendA, if_pos s2, if_true]
      · unfold m_arrS; rw [if_neg (show ¬ ((0 : Int32) = 0 ∧ ss c = 0 ∧ ¬ dl c ≤ ti) from fun z => z2 (s2.symm.trans z.2.1)), if_pos (show (0 : Int32) = 0 ∧ ss c = nI 2 from ⟨rfl, s2⟩), m_ans]
    · by_cases s0 : ss c = 0
      · by_cases ht : ¬ ¬ ti < dl c
        · refine ⟨upd ss c (nI 1), upd cr c (nI 2), L, F, ?_, ?_, hL, ok4_upd h4 (Or.inr (Or.inl rfl)), upk _ ⟨2, by omega, rfl⟩, fun P h _ => h, fun _ _ h => h⟩
          · simp only [s_take, s_treq, if_true, if_neg s2, if_pos (show ss c = 0 ∧ ¬ ¬ ti < dl c from ⟨s0, ht⟩)]
          · unfold m_arrS; rw [if_pos (show (0 : Int32) = 0 ∧ ss c = 0 ∧ ¬ dl c ≤ ti from ⟨rfl, s0, hti.mpr ht⟩)]
        · have e1 : s_take dl (ss, cr, se, re, sv, ad) L 0 c q ti = ((ss, cr, se, re, sv, ad), L) := by
            simp only [s_take, s_treq, if_true, if_neg s2, if_neg (show ¬ (ss c = 0 ∧ ¬ ¬ ti < dl c) from fun z => ht z.2)]
          have e2 : m_arrS ti dl ss cr re sv F 0 c q = (ss, cr, F) := by
            unfold m_arrS; rw [if_neg (show ¬ ((0 : Int32) = 0 ∧ ss c = 0 ∧ ¬ dl c ≤ ti) from fun z => ht (hti.mp z.2.2)), if_neg (show ¬ ((0 : Int32) = 0 ∧ ss c = nI 2) from fun z => s2 z.2), if_neg (show ¬ ((0 : Int32) = nI 1 ∧ ¬ nI 2 ≤ ss c) from fun z => z1 z.1.symm), if_neg (show ¬ ((0 : Int32) = nI 2 ∧ ss c = nI 1) from fun z => z2 z.1.symm)]
          rw [e1, e2]; exact same
      · have e1 : s_take dl (ss, cr, se, re, sv, ad) L 0 c q ti = ((ss, cr, se, re, sv, ad), L) := by
          simp only [s_take, s_treq, if_true, if_neg s2, if_neg (show ¬ (ss c = 0 ∧ ¬ ¬ ti < dl c) from fun z => s0 z.1)]
        have e2 : m_arrS ti dl ss cr re sv F 0 c q = (ss, cr, F) := by
          unfold m_arrS; rw [if_neg (show ¬ ((0 : Int32) = 0 ∧ ss c = 0 ∧ ¬ dl c ≤ ti) from fun z => s0 z.2.1), if_neg (show ¬ ((0 : Int32) = 0 ∧ ss c = nI 2) from fun z => s2 z.2), if_neg (show ¬ ((0 : Int32) = nI 1 ∧ ¬ nI 2 ≤ ss c) from fun z => z1 z.1.symm), if_neg (show ¬ ((0 : Int32) = nI 2 ∧ ss c = nI 1) from fun z => z2 z.1.symm)]
        rw [e1, e2]; exact same
  · have n0 : ¬ (nI 1 = 0 ∧ ss c = 0 ∧ ¬ dl c ≤ ti) := fun z => z1 z.1
    have n1 : ¬ (nI 1 = 0 ∧ ss c = nI 2) := fun z => z1 z.1
    have n3 : ¬ (nI 1 = nI 2 ∧ ss c = nI 1) := fun z => z12 z.1
    rcases h4 c with s | s | s | s
    · have p : nI 1 = nI 1 ∧ ¬ nI 2 ≤ ss c := ⟨rfl, by rw [s]; decide +kernel⟩
      refine ⟨upd ss c (nI 3), cr, L, F, ?_, ?_, hL, ok4_upd h4 (Or.inr (Or.inr (Or.inr rfl))), up, fun P h _ => h, fun _ _ h => h⟩
      · simp only [s_take, s_tcan, if_neg z1, if_true, if_neg (show ¬ ss c = nI 2 by rw [s]; decide +kernel)]
      · unfold m_arrS; rw [if_neg n0, if_neg n1, if_pos p]
    · have p : nI 1 = nI 1 ∧ ¬ nI 2 ≤ ss c := ⟨rfl, by rw [s]; decide +kernel⟩
      refine ⟨upd ss c (nI 3), cr, L, F, ?_, ?_, hL, ok4_upd h4 (Or.inr (Or.inr (Or.inr rfl))), up, fun P h _ => h, fun _ _ h => h⟩
      · simp only [s_take, s_tcan, if_neg z1, if_true, if_neg (show ¬ ss c = nI 2 by rw [s]; decide +kernel)]
      · unfold m_arrS; rw [if_neg n0, if_neg n1, if_pos p]
    · have p : ¬ (nI 1 = nI 1 ∧ ¬ nI 2 ≤ ss c) := fun z => z.2 (by rw [s]; decide +kernel)
      have e1 : s_take dl (ss, cr, se, re, sv, ad) L (nI 1) c q ti = ((ss, cr, se, re, sv, ad), L) := by simp only [s_take, s_tcan, if_neg z1, if_true, if_pos s]
      have e2 : m_arrS ti dl ss cr re sv F (nI 1) c q = (ss, cr, F) := by unfold m_arrS; rw [if_neg n0, if_neg n1, if_neg p, if_neg n3]
      rw [e1, e2]; exact same
    · have p : ¬ (nI 1 = nI 1 ∧ ¬ nI 2 ≤ ss c) := fun z => z.2 (by rw [s]; decide +kernel)
      have e1 : s_take dl (ss, cr, se, re, sv, ad) L (nI 1) c q ti = ((ss, cr, se, re, sv, ad), L) := by simp only [s_take, s_tcan, if_neg z1, if_true, if_neg (show ¬ ss c = nI 2 by rw [s]; decide +kernel), upd_id s]
      have e2 : m_arrS ti dl ss cr re sv F (nI 1) c q = (ss, cr, F) := by unfold m_arrS; rw [if_neg n0, if_neg n1, if_neg p, if_neg n3]
      rw [e1, e2]; exact same
  · have n0 : ¬ (nI 2 = 0 ∧ ss c = 0 ∧ ¬ dl c ≤ ti) := fun z => z2 z.1
    have n1 : ¬ (nI 2 = 0 ∧ ss c = nI 2) := fun z => z2 z.1
    have n2 : ¬ (nI 2 = nI 1 ∧ ¬ nI 2 ≤ ss c) := fun z => z21 z.1
    by_cases s : ss c = nI 1
    · obtain ⟨a, ha, rfl⟩ := hq rfl
      obtain ⟨a2, ha2, e⟩ := hcr c
      refine ⟨ss, upd cr c (cr c + nI a), L, F, ?_, ?_, hL, h4, upk _ ⟨a2 + a, by omega, by rw [e, nI_add]⟩, fun P h _ => h, fun _ _ h => h⟩
      · simp only [s_take, if_neg z2, if_neg z21, if_pos s]
      · unfold m_arrS; rw [if_neg n0, if_neg n1, if_neg n2, if_pos (show nI 2 = nI 2 ∧ ss c = nI 1 from ⟨rfl, s⟩)]
    · have e1 : s_take dl (ss, cr, se, re, sv, ad) L (nI 2) c q ti = ((ss, cr, se, re, sv, ad), L) := by simp only [s_take, if_neg z2, if_neg z21, if_neg s]
      have e2 : m_arrS ti dl ss cr re sv F (nI 2) c q = (ss, cr, F) := by unfold m_arrS; rw [if_neg n0, if_neg n1, if_neg n2, if_neg (show ¬ (nI 2 = nI 2 ∧ ss c = nI 1) from fun z => s z.2)]
      rw [e1, e2]; exact same
theorem arrC_sim {n c : Nat} {me pa oc cv cvM rq la rc su : Fn} {bu kd q v : Int32} {L : LaneS} {F : FS} (hn : n ≤ 40) (hch : m_ch pa n) (hh : hop pa oc n) (h0 : ∀ i, oc i = 0 → cv i = cvM i) (hb : bu ≤ nI 100) (hc : c < n) (hq : kd = nI 3 → q = nI 0 ∨ q = nI 3) (hL : RLn L 0 F) :
    ∃ (oc2 cv2 cvM2 rc2 su2 : Fn) (bu2 : Int32) (L2 : LaneS) (F2 : FS), k_take n me (pa, oc, cv, rq, la, rc, su, bu) L kd c q v = ((pa, oc2, cv2, rq, la, rc2, su2, bu2), L2) ∧ m_arrC n pa me bu oc cvM rc su F kd c q v = (bu2, oc2, cvM2, rc2, su2, F2) ∧ Lk L L2 F F2 n ∧ hop pa oc2 n ∧ (∀ i, oc2 i = 0 → cv2 i = cvM2 i) ∧ bu2 ≤ nI 100 := by
  have z4 : ¬ nI 4 = (0 : Int32) := by decide +kernel
  by_cases h1 : oc c = -1
  · by_cases h2 : kd = nI 3
    · by_cases h3 : me c = nI 3 ∧ ¬ v = rc c
      · obtain ⟨L2, F2, k2, e1, e2, e3⟩ := endS_sim (cv := cv) (rq := rq) (la := la) (rc := rc) (su := su) (bu := bu) (tk := bu) (o := nI 4) hn hch hh hc (nn1 4 (by decide)) hL
        refine ⟨fo pa oc c (nI 4) n, cv, upd cvM c v, rc, su, bu, L2, F2, ?_, ?_, e3, hop_fo hch hn hh hc (nn1 4 (by decide)), fun i hi => ?_, hb⟩
        · simp only [k_take, if_pos h1, if_pos h2, k_tans, if_pos h3, e1]
        · simp only [m_arrC, if_pos h1, if_pos h2, if_pos h3, e2, m_tok_n z4]
        · rcases fo_0 hi with z | z
          · rw [upd_n z.1]; exact h0 i z.2
          · exact absurd z.2 z4
      · have hqn : ¬ q = -1 := by rcases hq h2 with rfl | rfl; exact nn1 0 (by decide); exact nn1 3 (by decide)
        obtain ⟨L2, F2, k2, e1, e2, e3⟩ := endS_sim (cv := upd cv c v) (rq := rq) (la := la) (rc := rc) (su := su) (bu := bu) (tk := bu) (o := q) hn hch hh hc hqn hL
        have hA : ∀ i, fo pa oc c q n i = 0 → upd cv c v i = upd cvM c v i := fun i hi => by
          rcases fo_0 hi with z | z
          · rw [upd_n z.1, upd_n z.1]; exact h0 i z.2
          · rw [z.1, upd_s, upd_s]
        by_cases hq0 : q = 0
        · refine ⟨fo pa oc c q n, upd cv c v, upd cvM c v, rc, su, m_tok bu 0, L2, F2, ?_, ?_, e3, hop_fo hch hn hh hc hqn, hA, (bu_1 hb).2⟩
          · simp only [k_take, if_pos h1, if_pos h2, k_tans, if_neg h3, e1, if_pos hq0, (bu_1 hb).1]
          · have e4 : m_tok bu q = m_tok bu 0 := by rw [hq0]
            simp only [m_arrC, if_pos h1, if_pos h2, if_neg h3, e2, e4]
        · refine ⟨fo pa oc c q n, upd cv c v, upd cvM c v, rc, su, bu, L2, F2, ?_, ?_, e3, hop_fo hch hn hh hc hqn, hA, hb⟩
          · simp only [k_take, if_pos h1, if_pos h2, k_tans, if_neg h3, e1, if_neg hq0]
          · simp only [m_arrC, if_pos h1, if_pos h2, if_neg h3, e2, m_tok_n hq0]
    · by_cases h3 : q = rc c
      · refine ⟨oc, cv, cvM, upd rc c (rc c + nI 1), upd su c (su c + v), bu, L, F, ?_, ?_, Lk.rf hL, hh, h0, hb⟩
        · simp only [k_take, if_pos h1, if_neg h2, k_titem, if_pos h3]
        · simp only [m_arrC, if_pos h1, if_neg h2, if_pos h3]
      · obtain ⟨L2, F2, k2, e1, e2, e3⟩ := endT_sim (cv := cv) (rq := rq) (la := la) (rc := rc) (su := su) (bu := bu) (tk := bu) (o := nI 4) hn hch hh hc (nn1 4 (by decide)) hL
        refine ⟨fo pa oc c (nI 4) n, cv, cvM, rc, su, bu, L2, F2, ?_, ?_, e3, hop_fo hch hn hh hc (nn1 4 (by decide)), fun i hi => ?_, hb⟩
        · simp only [k_take, if_pos h1, if_neg h2, k_titem, if_neg h3, e1]
        · simp only [m_arrC, if_pos h1, if_neg h2, if_neg h3, e2, m_tok_n z4]
        · rcases fo_0 hi with z | z
          · exact h0 i z.2
          · exact absurd z.2 z4
  · refine ⟨oc, cv, cvM, rc, su, bu, L, F, ?_, ?_, Lk.rf hL, hh, h0, hb⟩
    · simp only [k_take, if_neg h1]
    · simp only [m_arrC, if_neg h1]
theorem next_isit {me ar ss cr se re sv : Fn} {ad : Int32} {j : Nat} (h : nI 0 ≤ se j) : s_next me ar (ss, cr, se, re, sv, ad) j = m_isit me ar se j := by
  rw [nI_0] at h
  have e : (¬ ar j ≤ se j) ↔ (¬ m_item (ar j) ≤ se j) := by
    unfold m_item
    by_cases q : ar j ≤ 0
    · rw [if_neg (fun z => z q), nI_0]
      exact ⟨fun z => absurd (Int32.le_trans q h) z, fun z => absurd h z⟩
    · rw [if_pos q]
  have e2 : decide (¬ ar j ≤ se j) = decide (¬ m_item (ar j) ≤ se j) := decide_eq_decide.mpr e
  simp only [s_next, m_isit, e2]
theorem se_up {se ar : Int32} (h : nI 0 ≤ se) (h2 : ¬ ar ≤ se) : nI 0 ≤ se + nI 1 := by
  have a0 : (nI 0).toInt = 0 := by decide +kernel
  have a1 : (nI 1).toInt = 1 := by decide +kernel
  rw [Int32.le_iff_toInt_le, a0] at h
  rw [Int32.le_iff_toInt_le] at h2
  have h3 := ar.toInt_lt
  rw [Int32.le_iff_toInt_le, a0, Int32.toInt_add, a1]
  have : (se.toInt + 1).bmod (2 ^ 32) = se.toInt + 1 := Int.bmod_eq_of_le (by omega) (by omega)
  rw [this]; omega
theorem upd_all {p : Int32 → Prop} {f : Fn} {k : Nat} {x : Int32} (h : ∀ i, p (f i)) (hx : p x) : ∀ i, p (upd f k x i) := fun i => by
  by_cases e : i = k
  · rw [e, upd_s]; exact hx
  · rw [upd_n e]; exact h i
theorem end_eq {dl : Fn} {ti tm pp : Int32} : g_end dl ti tm pp = m_end dl ti tm pp := by
  unfold g_end m_end
  by_cases h : pp = -1
  · rw [if_pos h, if_pos h]
  · rw [if_neg h, if_neg h]
    by_cases q : dl (ix pp) < ti + tm
    · rw [if_pos q, if_neg (Int32.not_le.mpr q)]
    · rw [if_neg q, if_pos (Int32.not_lt.mp q)]
