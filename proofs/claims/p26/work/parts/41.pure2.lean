section PC
variable {z z' i n c : Nat} {me ar dl ss e lp pa oc cv cv2 rq la rc su : Fn} {ti t bu o v q : Int32} {L L2 : LaneS}
theorem CI_end (h : CI z i n me ar dl ss e lp ti (pa, oc, cv, rq, la, rc, su, bu) L) (hi : c ≤ i) (hc : c < n) (h1 : oc c = -1) (hcv : ∀ j, j ≠ c → cv2 j = cv j) (h0 : ¬ o < 0)
    (hA : o = 0 → ss c = nI 2 ∧ ¬ me c = nI 2 ∧ (me c = nI 0 → cv2 c = ar c * ar c) ∧ (me c = nI 3 → cv2 c = mx (ar c) ∧ rc c = mx (ar c))) (h3 : o = nI 3 → me c = nI 2) (h4 : o = nI 4 → me c = nI 3)
    (hz : (¬ o = 0 ∧ z' = z) ∨ (o = 0 ∧ z' = z + 1)) (hL : FVp (P0 n) L2 ∧ LOK L2) : CI z' (c + 1) n me ar dl ss e lp ti (pa, upd oc c o, cv2, rq, la, rc, su, bu) L2 := by
  obtain ⟨⟨a1, a2, a3⟩, ⟨a4, a5, a6⟩, a7⟩ := h
  refine ⟨⟨fun j hj => ?_, fun j hj hq => ?_, fun x hx hxn hq j hj hp => ?_⟩, ⟨?_, a5, a6⟩, hL⟩
  · by_cases E : j = c
    · subst E
      have b := a1 j hj
      rw [h1] at b
      rw [upd_s]
      exact PV_end b h0 hA h3 h4
    · rw [upd_n E, hcv j E]
      exact a1 j hj
  · by_cases E : j = c
    · subst E
      rw [upd_s] at hq
      exact absurd hq (m1lt h0)
    · rw [upd_n E] at hq
      exact a2 j hj hq
  · by_cases E : x = c
    · subst E
      rw [upd_s] at hq
      exact absurd hq (m1lt h0)
    · rw [upd_n E] at hq
      have hj2 : j ≠ c := by omega
      rw [upd_n hj2]
      exact a3 x (by omega) hxn hq j hj hp
  · obtain ⟨b, b1, b2, b3, b4⟩ := a4
    refine ⟨b, b1, b2, b3, ?_⟩
    have key : sN (cz (upd oc c o)) n + cz oc c = sN (cz oc) n + cz (upd oc c o) c := sN_upd n hc (fun j hj hE => by unfold cz; rw [upd_n hE])
    have f0 : cz oc c = 0 := by unfold cz; rw [h1, if_neg m1_0]
    rcases hz with ⟨q1, rfl⟩ | ⟨q1, rfl⟩
    · have f1 : cz (upd oc c o) c = 0 := by unfold cz; rw [upd_s, if_neg q1]
      omega
    · have f1 : cz (upd oc c o) c = 1 := by unfold cz; rw [upd_s, if_pos q1]
      omega
theorem CI_more (h : CI z i n me ar dl ss e lp ti (pa, oc, cv, rq, la, rc, su, bu) L) (hq : oc i = -1 → ∀ j, j < i → pa i = nI j → oc j = -1) : CI z (i + 1) n me ar dl ss e lp ti (pa, oc, cv, rq, la, rc, su, bu) L := by
  obtain ⟨⟨a1, a2, a3⟩, a4⟩ := h
  refine ⟨⟨a1, a2, fun x hx hxn h1 j hj hp => ?_⟩, a4⟩
  by_cases E : x = i
  · subst E; exact hq h1 j hj hp
  · exact a3 x (by omega) hxn h1 j hj hp
theorem c20 : ¬ nI 2 = 0 := by decide +kernel
theorem c10 : ¬ nI 1 = 0 := by decide +kernel
theorem c40 : ¬ nI 4 = 0 := by decide +kernel
theorem c30 : ¬ nI 3 = 0 := by decide +kernel
theorem c13 : ¬ nI 1 = nI 3 := by decide +kernel
theorem c14 : ¬ nI 1 = nI 4 := by decide +kernel
theorem c23 : ¬ nI 2 = nI 3 := by decide +kernel
theorem c24 : ¬ nI 2 = nI 4 := by decide +kernel
theorem c34 : ¬ nI 3 = nI 4 := by decide +kernel
theorem c43 : ¬ nI 4 = nI 3 := by decide +kernel
theorem c12 : ¬ nI 1 = nI 2 := by decide +kernel
theorem c32 : ¬ nI 3 = nI 2 := by decide +kernel
theorem c02 : ¬ (0 : Int32) = nI 2 := by decide +kernel
theorem c03 : ¬ (0 : Int32) = nI 3 := by decide +kernel
theorem c04 : ¬ (0 : Int32) = nI 4 := by decide +kernel
theorem p1 : ¬ nI 1 < 0 := by decide +kernel
theorem p2 : ¬ nI 2 < 0 := by decide +kernel
theorem p3 : ¬ nI 3 < 0 := by decide +kernel
theorem p4 : ¬ nI 4 < 0 := by decide +kernel
theorem CI_orph (hn : n ≤ 40) (hc : c < n) {C : CalS} (h : CI z (c + 1) n me ar dl ss e lp ti C L) : CI z n n me ar dl ss e lp ti (k_orph n c C L).1 (k_orph n c C L).2.1 ∧ MO C.2.1 (k_orph n c C L).1.2.1 := by
  have st : ∀ (i : Nat) (x : CalS × LaneS × Int32), i < n → (CI z i n me ar dl ss e lp ti x.1 x.2.1 ∧ MO C.2.1 x.1.2.1) → (CI z (i + 1) n me ar dl ss e lp ti (k_orph1 n i x).1 (k_orph1 n i x).2.1 ∧ MO C.2.1 (k_orph1 n i x).1.2.1) := by
    rintro i ⟨⟨pa, oc, cv, rq, la, rc, su, bu⟩, L, k⟩ hi ⟨hx, hm⟩
    by_cases q : oc i = -1 ∧ k_hep pa oc n i = true
    · have e1 : k_orph1 n i ((pa, oc, cv, rq, la, rc, su, bu), L, k) = ((pa, upd oc i (nI 1), cv, rq, la, rc, su, bu), l_send L (nI 1) (nI i) (nI 0) (nI 0), k + nI 1) := by simp only [k_orph1, if_pos q]
      rw [e1]
      have hL := hx.2.2
      refine ⟨CI_end hx (Nat.le_refl _) hi q.1 (fun _ _ => rfl) p1 (fun z => absurd z c10) (fun z => absurd z c13) (fun z => absurd z c14) (Or.inl ⟨c10, rfl⟩) ⟨FV_send hL.1 ⟨i, hi, rfl, Or.inr (Or.inl rfl)⟩, LOK_send hL.2⟩, fun x => ?_⟩
      by_cases E : x = i
      · subst E
        exact Or.inl (hm.back q.1)
      · show C.2.1 x = -1 ∨ upd oc i (nI 1) x = C.2.1 x
        rw [upd_n E]
        exact hm x
    · have e1 : k_orph1 n i ((pa, oc, cv, rq, la, rc, su, bu), L, k) = ((pa, oc, cv, rq, la, rc, su, bu), L, k) := by simp only [k_orph1, if_neg q]
      rw [e1]
      refine ⟨CI_more hx (fun h1 j hj hp => ?_), hm⟩
      by_cases E : oc j = -1
      · exact E
      · refine absurd ⟨h1, ?_⟩ q
        have g := g_has_c (n := n) (c := j) (by omega) hn
        have g2 : (nI j).toNatClampNeg = j := nI_clamp (by omega)
        unfold k_hep
        rw [hp, g2, decide_eq_true g, decide_eq_true E]
        rfl
  have key := it_inv (fun i x => CI z i n me ar dl ss e lp ti x.1 x.2.1 ∧ MO C.2.1 x.1.2.1) n st (n - (c + 1)) (c + 1) (C, L, nI 0) (by omega) ⟨h, MO.rf⟩
  rw [show c + 1 + (n - (c + 1)) = n by omega] at key
  exact key
/-- a call ends without a word to the server -/
theorem CI_endS (hn : n ≤ 40) (h : CI z n n me ar dl ss e lp ti (pa, oc, cv, rq, la, rc, su, bu) L) (hc : c < n) (h1 : oc c = -1) (hcv : ∀ j, j ≠ c → cv2 j = cv j) (h0 : ¬ o < 0)
    (hA : o = 0 → ss c = nI 2 ∧ ¬ me c = nI 2 ∧ (me c = nI 0 → cv2 c = ar c * ar c) ∧ (me c = nI 3 → cv2 c = mx (ar c) ∧ rc c = mx (ar c))) (h3 : o = nI 3 → me c = nI 2) (h4 : o = nI 4 → me c = nI 3)
    (hz : (¬ o = 0 ∧ z' = z) ∨ (o = 0 ∧ z' = z + 1)) (hL : FVp (P0 n) L2 ∧ LOK L2) :
    CI z' n n me ar dl ss e lp ti (k_endS n (pa, oc, cv2, rq, la, rc, su, bu) L2 c o).1 (k_endS n (pa, oc, cv2, rq, la, rc, su, bu) L2 c o).2.1 ∧ MO oc (k_endS n (pa, oc, cv2, rq, la, rc, su, bu) L2 c o).1.2.1 ∧ (k_endS n (pa, oc, cv2, rq, la, rc, su, bu) L2 c o).1.2.1 c = o := by
  have o1 := CI_orph hn hc (CI_end h (Nat.le_of_lt hc) hc h1 hcv h0 hA h3 h4 hz hL)
  rcases hk : k_orph n c (pa, upd oc c o, cv2, rq, la, rc, su, bu) L2 with ⟨C2, L3, k⟩
  rw [hk] at o1
  have e1 : k_endS n (pa, oc, cv2, rq, la, rc, su, bu) L2 c o = (C2, L3, nI 1 + k) := by simp only [k_endS, hk]
  rw [e1]
  obtain ⟨o2, o3⟩ := o1
  have o3 : MO (upd oc c o) C2.2.1 := o3
  refine ⟨o2, o3.upd h1, ?_⟩
  have o4 := o3.keep (c := c) (by rw [upd_s]; exact m1lt h0)
  rw [upd_s] at o4
  exact o4
/-- a call ends, and a cancellation is sent for it -/
theorem CI_endT (hn : n ≤ 40) (h : CI z n n me ar dl ss e lp ti (pa, oc, cv, rq, la, rc, su, bu) L) (hc : c < n) (h1 : oc c = -1) (h0 : ¬ o < 0) (hA : ¬ o = 0) (h3 : o = nI 3 → me c = nI 2) (h4 : o = nI 4 → me c = nI 3) :
    CI z n n me ar dl ss e lp ti (k_endT n (pa, oc, cv, rq, la, rc, su, bu) L c o).1 (k_endT n (pa, oc, cv, rq, la, rc, su, bu) L c o).2.1 ∧ MO oc (k_endT n (pa, oc, cv, rq, la, rc, su, bu) L c o).1.2.1 := by
  have hL := h.2.2
  have o1 := CI_orph hn hc (CI_end (z' := z) (L2 := l_send L (nI 1) (nI c) (nI 0) (nI 0)) h (Nat.le_of_lt hc) hc h1 (fun _ _ => rfl) h0 (fun q => absurd q hA) h3 h4 (Or.inl ⟨hA, rfl⟩) ⟨FV_send hL.1 ⟨c, hc, rfl, Or.inr (Or.inl rfl)⟩, LOK_send hL.2⟩)
  rcases hk : k_orph n c (pa, upd oc c o, cv, rq, la, rc, su, bu) (l_send L (nI 1) (nI c) (nI 0) (nI 0)) with ⟨C2, L3, k⟩
  rw [hk] at o1
  have e1 : k_endT n (pa, oc, cv, rq, la, rc, su, bu) L c o = (C2, L3, nI 1 + k) := by simp only [k_endT, hk]
  rw [e1]
  obtain ⟨o2, o3⟩ := o1
  have o3 : MO (upd oc c o) C2.2.1 := o3
  exact ⟨o2, o3.upd h1⟩
theorem CI_bud (h : CI 1 i n me ar dl ss e lp ti (pa, oc, cv, rq, la, rc, su, bu) L) : CI 0 i n me ar dl ss e lp ti (pa, oc, cv, rq, la, rc, su, if nI 100 < bu + nI 1 then nI 100 else bu + nI 1) L := by
  obtain ⟨a1, ⟨⟨b, rfl, b2, b3, b4⟩, a5⟩, a7⟩ := h
  refine ⟨a1, ⟨?_, a5⟩, a7⟩
  rw [nI_add]
  by_cases E : 100 < b + 1
  · rw [if_pos ((nI_ltI (by omega) (by omega)).mpr E)]
    exact ⟨100, rfl, by omega, by omega, by omega⟩
  · rw [if_neg (fun q => E ((nI_ltI (by omega) (by omega)).mp q))]
    exact ⟨b + 1, rfl, by omega, by omega, by omega⟩
theorem CI_tans (hn : n ≤ 40) (h : CI 0 n n me ar dl ss e lp ti (pa, oc, cv, rq, la, rc, su, bu) L) (hc : c < n) (h1 : oc c = -1) (hs : ss c = nI 2) (ha : ANS (me c) (ar c) q v) :
    CI 0 n n me ar dl ss e lp ti (k_tans n me (pa, oc, cv, rq, la, rc, su, bu) L c q v).1 (k_tans n me (pa, oc, cv, rq, la, rc, su, bu) L c q v).2 := by
  obtain ⟨r1, r2, r3⟩ := ha
  have hL := h.2.2
  by_cases m3 : me c = nI 3 ∧ ¬ v = rc c
  · have o1 := (CI_endS (z' := 0) (o := nI 4) (cv2 := cv) hn h hc h1 (fun _ _ => rfl) p4 (fun z => absurd z c40) (fun z => absurd z c43) (fun _ => m3.1) (Or.inl ⟨c40, rfl⟩) hL).1
    rcases hk : k_endS n (pa, oc, cv, rq, la, rc, su, bu) L c (nI 4) with ⟨C2, L3, k⟩
    rw [hk] at o1
    have e1 : k_tans n me (pa, oc, cv, rq, la, rc, su, bu) L c q v = (C2, L3) := by simp only [k_tans, if_pos m3, hk]
    rw [e1]
    exact o1
  · by_cases m2 : me c = nI 2
    · rw [if_pos m2] at r1
      subst r1
      have o1 := (CI_endS (z' := 0) (o := nI 3) (cv2 := upd cv c v) hn h hc h1 (fun _ hj => upd_n hj) p3 (fun z => absurd z c30) (fun _ => m2) (fun z => absurd z c34) (Or.inl ⟨c30, rfl⟩) hL).1
      rcases hk : k_endS n (pa, oc, upd cv c v, rq, la, rc, su, bu) L c (nI 3) with ⟨⟨pa2, oc2, cv3, rq2, la2, rc2, su2, bu2⟩, L3, k⟩
      rw [hk] at o1
      have e1 : k_tans n me (pa, oc, cv, rq, la, rc, su, bu) L c (nI 3) v = ((pa2, oc2, cv3, rq2, la2, rc2, su2, bu2), L3) := by simp only [k_tans, if_neg m3, hk, if_neg c30]
      rw [e1]
      exact o1
    · rw [if_neg m2] at r1
      subst r1
      rw [nI_0]
      have o1 := (CI_endS (z' := 1) (o := 0) (cv2 := upd cv c v) hn h hc h1 (fun _ hj => upd_n hj) (by decide +kernel) (fun _ => ⟨hs, m2, fun z => by rw [upd_s]; exact r2 z, fun z => by
        rw [upd_s]
        have hv : v = rc c := Decidable.byContradiction fun y => m3 ⟨z, y⟩
        exact ⟨r3 z, hv.symm.trans (r3 z)⟩⟩) (fun z => absurd z c03) (fun z => absurd z c04) (Or.inr ⟨rfl, rfl⟩) hL).1
      rcases hk : k_endS n (pa, oc, upd cv c v, rq, la, rc, su, bu) L c 0 with ⟨⟨pa2, oc2, cv3, rq2, la2, rc2, su2, bu2⟩, L3, k⟩
      rw [hk] at o1
      have e1 : k_tans n me (pa, oc, cv, rq, la, rc, su, bu) L c 0 v = ((pa2, oc2, cv3, rq2, la2, rc2, su2, if nI 100 < bu2 + nI 1 then nI 100 else bu2 + nI 1), L3) := by simp only [k_tans, if_neg m3, hk, if_true]
      rw [e1]
      exact CI_bud o1
theorem CI_titem {k : Nat} (hn : n ≤ 40) (h : CI 0 n n me ar dl ss e lp ti (pa, oc, cv, rq, la, rc, su, bu) L) (hc : c < n) (h1 : oc c = -1) (hm : me c = nI 3) (ha : ar c = -1 ∨ ∃ k, k ≤ 5 ∧ ar c = nI k) (hk : k ≤ 5) (hl : nI k < ar c) :
    CI 0 n n me ar dl ss e lp ti (k_titem n (pa, oc, cv, rq, la, rc, su, bu) L c (nI k) (ar c - nI k)).1 (k_titem n (pa, oc, cv, rq, la, rc, su, bu) L c (nI k) (ar c - nI k)).2 := by
  by_cases m3 : nI k = rc c
  · have e1 : k_titem n (pa, oc, cv, rq, la, rc, su, bu) L c (nI k) (ar c - nI k) = ((pa, oc, cv, rq, la, upd rc c (rc c + nI 1), upd su c (su c + (ar c - nI k)), bu), L) := by simp only [k_titem, if_pos m3]
    rw [e1]
    obtain ⟨⟨a1, a2, a3⟩, ⟨a4, a5, a6⟩, a7⟩ := h
    refine ⟨⟨fun j hj => ?_, a2, a3⟩, ⟨a4, a5, fun j hj => ?_⟩, a7⟩
    · by_cases E : j = c
      · subst E
        have b := a1 j hj
        rw [h1] at b
        rw [upd_s, upd_s, h1]
        exact PV_item b hm (itm_step ha hk m3.symm hl (b.2.2.2.2.2.1 hm))
      · rw [upd_n E, upd_n E]
        exact a1 j hj
    · rw [upd_n (by omega), upd_n (by omega)]
      exact a6 j hj
  · have o1 := (CI_endT (o := nI 4) hn h hc h1 p4 c40 (fun z => absurd z c43) (fun _ => hm)).1
    rcases hk : k_endT n (pa, oc, cv, rq, la, rc, su, bu) L c (nI 4) with ⟨C2, L3, k3⟩
    rw [hk] at o1
    have e1 : k_titem n (pa, oc, cv, rq, la, rc, su, bu) L c (nI k) (ar c - nI k) = (C2, L3) := by simp only [k_titem, if_neg m3, hk]
    rw [e1]
    exact o1
theorem CI_take {kd o : Int32} {re sv : Fn} (hn : n ≤ 40) (h : CI 0 n n me ar dl ss e lp ti (pa, oc, cv, rq, la, rc, su, bu) L) (hA : ∀ c, c < n → AOK (me c) (ar c)) (hS : ∀ c, c < n → ss c = nI 2 → ANS (me c) (ar c) (re c) (sv c)) (hF : P1 n me ar ss re sv kd o q v) (hc : c < n) (ho : o = nI c) :
    CI 0 n n me ar dl ss e lp ti (k_take n me (pa, oc, cv, rq, la, rc, su, bu) L kd c q v).1 (k_take n me (pa, oc, cv, rq, la, rc, su, bu) L kd c q v).2 := by
  by_cases h1 : oc c = -1
  · obtain ⟨c2, g1, g2, g3⟩ := hF
    have ec : c2 = c := (nI_eq (by omega) (by omega)).mp (g2.symm.trans ho)
    subst ec
    rcases g3 with ⟨rfl, y1, rfl, rfl⟩ | ⟨rfl, y1, k, hk, rfl, y3, rfl⟩
    · have e1 : k_take n me (pa, oc, cv, rq, la, rc, su, bu) L (nI 3) c2 (re c2) (sv c2) = k_tans n me (pa, oc, cv, rq, la, rc, su, bu) L c2 (re c2) (sv c2) := by simp only [k_take, if_pos h1, if_true]
      rw [e1]
      exact CI_tans hn h hc h1 y1 (hS c2 hc y1)
    · have e1 : k_take n me (pa, oc, cv, rq, la, rc, su, bu) L (nI 4) c2 (nI k) (ar c2 - nI k) = k_titem n (pa, oc, cv, rq, la, rc, su, bu) L c2 (nI k) (ar c2 - nI k) := by simp only [k_take, if_pos h1, if_neg c43]
      rw [e1]
      exact CI_titem hn h hc h1 y1 ((hA c2 hc).2 y1) hk y3
  · have e1 : k_take n me (pa, oc, cv, rq, la, rc, su, bu) L kd c q v = ((pa, oc, cv, rq, la, rc, su, bu), L) := by simp only [k_take, if_neg h1]
    rw [e1]
    exact h
theorem CI_req (h : CI 0 n n me ar dl ss e lp ti (pa, oc, cv, rq, la, rc, su, bu) L) (hc : c < n) (h4 : ¬ nI 4 ≤ rq c) (hb : ¬ bu < nI 10) :
    CI 0 n n me ar dl ss e lp ti (k_req (pa, oc, cv, rq, la, rc, su, bu - nI 10) L c t).1 (k_req (pa, oc, cv, rq, la, rc, su, bu - nI 10) L c t).2 := by
  obtain ⟨⟨a1, a2, a3⟩, ⟨⟨b, rfl, b2, b3, b4⟩, a5, a6⟩, a7, a8⟩ := h
  obtain ⟨k, k1, k2⟩ := (a1 c hc).2.2.2.2.2.2.2
  have hk : k + 1 < 4 := by
    rcases Nat.lt_or_ge (k + 1) 4 with y | y
    · exact y
    · refine absurd ?_ h4
      rw [k2]
      exact (nI_leI (by omega) (by omega)).mpr y
  have hb2 : 10 ≤ b := by
    rcases Nat.lt_or_ge b 10 with y | y
    · exact absurd ((nI_ltI (by omega) (by omega)).mpr y) hb
    · exact y
  have e2 : rq c + nI 1 = nI (k + 1 + 1) := by rw [k2, nI_add]
  have e1 : k_req (pa, oc, cv, rq, la, rc, su, nI b - nI 10) L c t = ((pa, oc, cv, upd rq c (rq c + nI 1), upd la c t, rc, su, nI b - nI 10), l_send L (nI 0) (nI c) (nI 0) (nI 0)) := rfl
  rw [e1]
  have key : sN (ag (upd rq c (rq c + nI 1))) n + ag rq c = sN (ag rq) n + ag (upd rq c (rq c + nI 1)) c := sN_upd n hc (fun j hj hE => by unfold ag; rw [upd_n hE])
  have f0 : ag rq c = k := by unfold ag; rw [k2, ix_nI (by omega)]; rfl
  have f1 : ag (upd rq c (rq c + nI 1)) c = k + 1 := by unfold ag; rw [upd_s, e2, ix_nI (by omega)]; rfl
  refine ⟨⟨fun j hj => ?_, a2, a3⟩, ⟨⟨b - 10, pk_sub hb2, by omega, by omega, by omega⟩, a5, fun j hj => ?_⟩, FV_send a7 ⟨c, hc, rfl, Or.inl rfl⟩, LOK_send a8⟩
  · by_cases E : j = c
    · subst E
      rw [upd_s]
      exact PV_req (a1 j hj) ⟨k + 1, by omega, e2⟩
    · rw [upd_n E]
      exact a1 j hj
  · obtain ⟨d1, d2, d3⟩ := a6 j hj
    rw [upd_n (by omega)]
    exact ⟨d1, d2, d3⟩
theorem CI_rep (hn : n ≤ 40) {C : CalS} (h : CI 0 n n me ar dl ss e lp ti C L) : CI 0 n n me ar dl ss e lp ti (k_rep n t C L).1 (k_rep n t C L).2 := by
  have st : ∀ (i : Nat) (x : CalS × LaneS), i < n → CI 0 n n me ar dl ss e lp ti x.1 x.2 → CI 0 n n me ar dl ss e lp ti (k_rep1 t i x).1 (k_rep1 t i x).2 := by
    rintro i ⟨⟨pa, oc, cv, rq, la, rc, su, bu⟩, L⟩ hi hx
    by_cases q : k_isrep (pa, oc, cv, rq, la, rc, su, bu) i t = true ∧ ¬ bu < nI 10
    · have e1 : k_rep1 t i ((pa, oc, cv, rq, la, rc, su, bu), L) = k_req (pa, oc, cv, rq, la, rc, su, bu - nI 10) L i t := by simp only [k_rep1, if_pos q]
      rw [e1]
      have q2 := q.1
      simp only [k_isrep, Bool.and_eq_true, decide_eq_true_eq] at q2
      exact CI_req hx hi q2.2.2.1 q.2
    · have e1 : k_rep1 t i ((pa, oc, cv, rq, la, rc, su, bu), L) = ((pa, oc, cv, rq, la, rc, su, bu), L) := by simp only [k_rep1, if_neg q]
      rw [e1]
      exact hx
  exact it_inv (fun _ x => CI 0 n n me ar dl ss e lp ti x.1 x.2) n st (n - 0) 0 (C, L) (by omega) h
theorem CI_due (hn : n ≤ 40) {C : CalS} (h : CI 0 n n me ar dl ss e lp ti C L) : CI 0 n n me ar dl ss e lp t (k_due n dl t C L).1 (k_due n dl t C L).2.1 := by
  have st : ∀ (i : Nat) (x : CalS × LaneS × Int32), i < n → (CI 0 n n me ar dl ss e lp ti x.1 x.2.1 ∧ ∀ c, c < i → x.1.2.1 c = -1 → t < dl c) → (CI 0 n n me ar dl ss e lp ti (k_due1 n dl t i x).1 (k_due1 n dl t i x).2.1 ∧ ∀ c, c < i + 1 → (k_due1 n dl t i x).1.2.1 c = -1 → t < dl c) := by
    rintro i ⟨⟨pa, oc, cv, rq, la, rc, su, bu⟩, L, k⟩ hi ⟨hx, hm⟩
    by_cases q : oc i = -1 ∧ ¬ t < dl i
    · have o1 := CI_endS (z' := 0) (o := nI 2) (cv2 := cv) hn hx hi q.1 (fun _ _ => rfl) p2 (fun z => absurd z c20) (fun z => absurd z c23) (fun z => absurd z c24) (Or.inl ⟨c20, rfl⟩) hx.2.2
      rcases hk : k_endS n (pa, oc, cv, rq, la, rc, su, bu) L i (nI 2) with ⟨C2, L3, k3⟩
      rw [hk] at o1
      have e1 : k_due1 n dl t i ((pa, oc, cv, rq, la, rc, su, bu), L, k) = (C2, L3, k + k3) := by simp only [k_due1, if_pos q, hk]
      rw [e1]
      obtain ⟨o2, o3, o4⟩ := o1
      have o4 : C2.2.1 i = nI 2 := o4
      refine ⟨o2, fun c hc hq => ?_⟩
      by_cases E : c = i
      · subst E
        exact absurd (o4.symm.trans hq) (m1lt p2)
      · exact hm c (by omega) (MO.back o3 hq)
    · have e1 : k_due1 n dl t i ((pa, oc, cv, rq, la, rc, su, bu), L, k) = ((pa, oc, cv, rq, la, rc, su, bu), L, k) := by simp only [k_due1, if_neg q]
      rw [e1]
      refine ⟨hx, fun c hc hq => ?_⟩
      by_cases E : c = i
      · subst E
        exact Decidable.byContradiction fun y => q ⟨hq, y⟩
      · exact hm c (by omega) hq
  have key := it_inv (fun i x => CI 0 n n me ar dl ss e lp ti x.1 x.2.1 ∧ ∀ c, c < i → x.1.2.1 c = -1 → t < dl c) n st (n - 0) 0 (C, L, nI 0) (by omega) ⟨h, fun c hc => absurd hc (Nat.not_lt_zero _)⟩
  rw [show 0 + (n - 0) = n by omega] at key
  obtain ⟨k1, k2⟩ := key
  have k1 : CI 0 n n me ar dl ss e lp ti (k_due n dl t C L).1 (k_due n dl t C L).2.1 := k1
  have k2 : ∀ c, c < n → (k_due n dl t C L).1.2.1 c = -1 → t < dl c := k2
  generalize k_due n dl t C L = X at k1 k2 ⊢
  obtain ⟨⟨pa, oc, cv, rq, la, rc, su, bu⟩, L3, k3⟩ := X
  obtain ⟨⟨a1, a2, a3⟩, a4⟩ := k1
  exact ⟨⟨a1, k2, a3⟩, a4⟩
theorem CI_ss {ss2 : Fn} {C : CalS} (h : CI z i n me ar dl ss e lp ti C L) (hs : ∀ c, ss c = nI 2 → ss2 c = nI 2) : CI z i n me ar dl ss2 e lp ti C L := by
  obtain ⟨pa, oc, cv, rq, la, rc, su, bu⟩ := C
  obtain ⟨⟨a1, a2, a3⟩, a4⟩ := h
  exact ⟨⟨fun j hj => PV_s (a1 j hj) (hs j), a2, a3⟩, a4⟩
end PC
