/-- what holds after T turns of the law: the class, and the law's own rows -/
def LI (T n : Nat) (me ar dl : Fn) (ti : Int32) (L0 L1 : LaneS) (C : CalS) (S : SerS) (lm lr lp le : Fn) : Prop :=
  (n ≤ 40 ∧ (∀ c, c < n → AOK (me c) (ar c)) ∧ (∃ tt, tt ≤ 9 * T ∧ ti = nI tt)) ∧ (CI 0 n n me ar dl S.1 le lp ti C L0 ∧ SI T n me ar dl ti S L1) ∧ (∀ c, c < n → lm c = me c ∧ lr c = ar c)
section PL
variable {T n j k c0 : Nat} {me ar dl lm lr lp le : Fn} {ti q x pp en r : Int32} {L0 L1 L2 L3 : LaneS} {C C2 : CalS} {S S2 : SerS} {ki ow mr va : Fn} {fi sz : Nat}
theorem LI.up (R : LI T n me ar dl ti L0 L1 C S lm lr lp le) : LI (T + 1) n me ar dl ti L0 L1 C S lm lr lp le := by
  obtain ⟨⟨h1, h2, tt, h3, h4⟩, ⟨h5, h6⟩, h7⟩ := R
  exact ⟨⟨h1, h2, tt, by omega, h4⟩, ⟨h5, SI_up h6⟩, h7⟩
theorem LI.owner0 (R : LI T n me ar dl ti (ki, ow, mr, va, fi, sz) L1 C S lm lr lp le) (hz : 0 < sz) : ∃ c0, c0 < n ∧ ow ((fi + 0) % 40) = nI c0 := by
  obtain ⟨pa, oc, cv, rq, la, rc, su, bu⟩ := C
  obtain ⟨-, ⟨⟨-, -, h5, -⟩, -⟩, -⟩ := R
  obtain ⟨c, a1, a2, -⟩ := h5 0 hz
  exact ⟨c, a1, a2⟩
theorem LI.owner1 (R : LI T n me ar dl ti L0 (ki, ow, mr, va, fi, sz) C S lm lr lp le) (hz : 0 < sz) : ∃ c0, c0 < n ∧ ow ((fi + 0) % 40) = nI c0 := by
  obtain ⟨ss, cr, se, re, sv, ad⟩ := S
  obtain ⟨-, ⟨-, -, -, h5, -⟩, -⟩ := R
  obtain ⟨c, a1, a2, -⟩ := h5 0 hz
  exact ⟨c, a1, a2⟩
theorem op_lose0 (R : LI T n me ar dl ti (ki, ow, mr, va, fi, sz) L1 C S lm lr lp le) (hz : 0 < sz) (hu : L2 = l_rem (ki, ow, mr, va, fi, sz)) : LI (T + 1) n me ar dl ti L2 L1 C S lm lr lp le := by
  subst hu
  obtain ⟨pa, oc, cv, rq, la, rc, su, bu⟩ := C
  obtain ⟨h1, ⟨⟨a1, a2, a3, a4⟩, h6⟩, h7⟩ := R.up
  exact ⟨h1, ⟨⟨a1, a2, FV_rem a3 hz, LOK_rem a4⟩, h6⟩, h7⟩
theorem op_lose1 (R : LI T n me ar dl ti L0 (ki, ow, mr, va, fi, sz) C S lm lr lp le) (hz : 0 < sz) (hu : L2 = l_rem (ki, ow, mr, va, fi, sz)) : LI (T + 1) n me ar dl ti L0 L2 C S lm lr lp le := by
  subst hu
  obtain ⟨ss, cr, se, re, sv, ad⟩ := S
  obtain ⟨h1, ⟨h5, a1, a2, a3, a4⟩, h7⟩ := R.up
  exact ⟨h1, ⟨h5, a1, a2, FV_rem a3 hz, LOK_rem a4⟩, h7⟩
theorem op_del0 (hT : T ≤ 200) (R : LI T n me ar dl ti (ki, ow, mr, va, fi, sz) L1 C S lm lr lp le) (hz : 0 < sz) (hc : c0 < n) (ho : ow ((fi + 0) % 40) = nI c0) (hu : (L2, L3, S2) = g_del0 dl (ki, ow, mr, va, fi, sz) L1 S ti c0) : LI (T + 1) n me ar dl ti L2 L3 C S2 lm lr lp le := by
  obtain ⟨ss, cr, se, re, sv, ad⟩ := S
  obtain ⟨pa, oc, cv, rq, la, rc, su, bu⟩ := C
  obtain ⟨⟨h1, h2, tt, h3, h4⟩, ⟨h5, h6⟩, h7⟩ := R
  have hF := h5.2.2.1 0 hz
  obtain ⟨k1, k2⟩ := SI_take hT h1 h6 hF hc ho
  simp only [g_del0, l_kd, l_va] at hu
  rcases hk : s_take dl (ss, cr, se, re, sv, ad) L1 (ki ((fi + 0) % 40)) c0 (va ((fi + 0) % 40)) ti with ⟨S3, L4⟩
  rw [hk] at k1 k2 hu
  cases hu
  obtain ⟨a1, a2, a3, a4⟩ := CI_ss h5 k2
  exact ⟨⟨h1, h2, tt, by omega, h4⟩, ⟨⟨a1, a2, FV_rem a3 hz, LOK_rem a4⟩, k1⟩, h7⟩
theorem op_del1 (R : LI T n me ar dl ti L0 (ki, ow, mr, va, fi, sz) C S lm lr lp le) (hz : 0 < sz) (hc : c0 < n) (ho : ow ((fi + 0) % 40) = nI c0) (hu : (L2, L3, C2) = g_del1 n me L0 (ki, ow, mr, va, fi, sz) C c0) : LI (T + 1) n me ar dl ti L2 L3 C2 S lm lr lp le := by
  obtain ⟨ss, cr, se, re, sv, ad⟩ := S
  obtain ⟨pa, oc, cv, rq, la, rc, su, bu⟩ := C
  obtain ⟨⟨h1, h2, tt, h3, h4⟩, ⟨h5, h6⟩, h7⟩ := R
  have h8 := SI_up h6
  obtain ⟨a1, a2, a3, a4⟩ := h8
  have hF := a3 0 hz
  have k1 := CI_take h1 h5 h2 (fun c hc hs => (a1 c hc).2.1 hs) hF hc ho
  simp only [g_del1, l_kd, l_va, l_mr] at hu
  rcases hk : k_take n me (pa, oc, cv, rq, la, rc, su, bu) L0 (ki ((fi + 0) % 40)) c0 (mr ((fi + 0) % 40)) (va ((fi + 0) % 40)) with ⟨C3, L4⟩
  rw [hk] at k1 hu
  cases hu
  exact ⟨⟨h1, h2, tt, by omega, h4⟩, ⟨k1, a1, a2, FV_rem a3 hz, LOK_rem a4⟩, h7⟩
theorem op_pass {jt : Nat} {ti2 : Int32} (hj : jt ≤ 9) (R : LI T n me ar dl ti L0 L1 C S lm lr lp le) (hu : ((ti2, L2, C2, S2), r) = it (g_tick1 n dl) (jt - 0) 0 (((ti, L0, C, S), nI 0) : (Int32 × LaneS × CalS × SerS) × Int32)) : LI (T + 1) n me ar dl ti2 L2 L1 C2 S2 lm lr lp le := by
  obtain ⟨⟨h1, h2, h3⟩, ⟨h5, h6⟩, h7⟩ := R
  have st : ∀ (i : Nat) (y : (Int32 × LaneS × CalS × SerS) × Int32), i < jt → (CI 0 n n me ar dl y.1.2.2.2.1 le lp y.1.1 y.1.2.2.1 y.1.2.1 ∧ SI T n me ar dl y.1.1 y.1.2.2.2 L1 ∧ ∃ tt, tt ≤ 9 * T + i ∧ y.1.1 = nI tt) → (CI 0 n n me ar dl (g_tick1 n dl i y).1.2.2.2.1 le lp (g_tick1 n dl i y).1.1 (g_tick1 n dl i y).1.2.2.1 (g_tick1 n dl i y).1.2.1 ∧ SI T n me ar dl (g_tick1 n dl i y).1.1 (g_tick1 n dl i y).1.2.2.2 L1 ∧ ∃ tt, tt ≤ 9 * T + (i + 1) ∧ (g_tick1 n dl i y).1.1 = nI tt) := by
    rintro i ⟨⟨ti, L0, C, S⟩, w⟩ hi ⟨a1, a2, tt, a3, a4⟩
    have a1 : CI 0 n n me ar dl S.1 le lp ti C L0 := a1
    have a2 : SI T n me ar dl ti S L1 := a2
    have a4 : ti = nI tt := a4
    have b1 := CI_due (t := ti + nI 1) h1 a1
    rcases hk : k_due n dl (ti + nI 1) C L0 with ⟨C3, L3, w3⟩
    rw [hk] at b1
    have b2 := CI_rep (t := ti + nI 1) h1 b1
    rcases hk2 : k_rep n (ti + nI 1) C3 L3 with ⟨C4, L4⟩
    rw [hk2] at b2
    obtain ⟨b3, b4⟩ := SI_close (t := ti + nI 1) a2
    have e1 : g_tick1 n dl i ((ti, L0, C, S), w) = ((ti + nI 1, L4, C4, s_close n dl (ti + nI 1) S), w + w3) := by simp only [g_tick1, hk, hk2]
    rw [e1]
    exact ⟨CI_ss b2 b4, b3, tt + 1, by omega, by rw [a4, nI_add]⟩
  have key := it_inv (fun i (y : (Int32 × LaneS × CalS × SerS) × Int32) => CI 0 n n me ar dl y.1.2.2.2.1 le lp y.1.1 y.1.2.2.1 y.1.2.1 ∧ SI T n me ar dl y.1.1 y.1.2.2.2 L1 ∧ ∃ tt, tt ≤ 9 * T + i ∧ y.1.1 = nI tt) jt st (jt - 0) 0 ((ti, L0, C, S), nI 0) (by omega) ⟨h5, h6, h3⟩
  rw [← hu, show 0 + (jt - 0) = jt by omega] at key
  obtain ⟨k1, k2, tt, k3, k4⟩ := key
  exact ⟨⟨h1, h2, tt, by omega, k4⟩, ⟨k1, SI_up k2⟩, h7⟩
theorem op_cancel (R : LI T n me ar dl ti L0 L1 C S lm lr lp le) (hj : j < n) (h0 : C.2.1 j = -1) (hu : (C2, L2, r) = k_endT n C L0 j (nI 1)) : LI (T + 1) n me ar dl ti L2 L1 C2 S lm lr lp le := by
  obtain ⟨pa, oc, cv, rq, la, rc, su, bu⟩ := C
  obtain ⟨h1, ⟨h5, h6⟩, h7⟩ := R.up
  have k1 := (CI_endT (o := nI 1) h1.1 h5 hj h0 p1 c10 (fun z => absurd z c13) (fun z => absurd z c14)).1
  rw [← hu] at k1
  exact ⟨h1, ⟨k1, h6⟩, h7⟩
theorem op_grant (R : LI T n me ar dl ti L0 L1 C S lm lr lp le) (hj : j < n) (hk : k ≤ 10) (hu : L2 = l_send L0 (nI 2) (nI j) (nI 0) (nI k)) : LI (T + 1) n me ar dl ti L2 L1 C S lm lr lp le := by
  subst hu
  obtain ⟨pa, oc, cv, rq, la, rc, su, bu⟩ := C
  obtain ⟨h1, ⟨⟨a1, a2, a3, a4⟩, h6⟩, h7⟩ := R.up
  exact ⟨h1, ⟨⟨a1, a2, FV_send a3 ⟨j, hj, rfl, Or.inr (Or.inr ⟨k, hk, rfl⟩)⟩, LOK_send a4⟩, h6⟩, h7⟩
theorem op_work (hT : T ≤ 200) (R : LI T n me ar dl ti L0 L1 C S lm lr lp le) (hj : j < n) (h1s : S.1 j = nI 1) (h2s : s_next me ar S j = true → nI 1 ≤ S.2.1 j) (hu : (S2, L2) = s_step me ar S L1 j) : LI (T + 1) n me ar dl ti L0 L2 C S2 lm lr lp le := by
  obtain ⟨ss, cr, se, re, sv, ad⟩ := S
  obtain ⟨⟨h1, h2, tt, h3, h4⟩, ⟨h5, h6⟩, h7⟩ := R
  obtain ⟨k1, k2⟩ := SI_step hT h6 h2 hj h1s h2s
  rw [← hu] at k1 k2
  exact ⟨⟨h1, h2, tt, by omega, h4⟩, ⟨CI_ss h5 k2, SI_up k1⟩, h7⟩
/-- a credit that isn't 0 is one -/
theorem LI.credit (hT : T ≤ 200) (R : LI T n me ar dl ti L0 L1 C S lm lr lp le) (hj : j < n) (h : ¬ S.2.1 j = 0) : nI 1 ≤ S.2.1 j := by
  obtain ⟨ss, cr, se, re, sv, ad⟩ := S
  obtain ⟨-, ⟨-, h6⟩, -⟩ := R
  obtain ⟨-, -, ⟨k, hk, ek⟩, -⟩ := h6.1 j hj
  have ek : cr j = nI k := ek
  have h : ¬ cr j = 0 := h
  show nI 1 ≤ cr j
  rw [ek] at h ⊢
  rw [nI_leI (by omega) (by omega)]
  rcases Nat.eq_zero_or_pos k with y | y
  · subst y; exact absurd nI_0 h
  · exact y
theorem c0_1 : ¬ (0 : Int32) = nI 1 := by decide +kernel
theorem P1_open {n : Nat} {me ar ss re sv : Fn} {q x : Int32} {kd o a v : Int32} (p : P1 n me ar ss re sv kd o a v) : P1 (n + 1) (upd me n q) (upd ar n x) ss re sv kd o a v := by
  obtain ⟨c, h1, h2, h3⟩ := p
  have e : c ≠ n := by omega
  refine ⟨c, by omega, h2, ?_⟩
  rw [upd_n e, upd_n e]
  exact h3
theorem op_open {b2 : BookS} (R : LI T n me ar dl ti L0 L1 C S lm lr lp le) (hn : n < 40) (hA : AOK q x) (hp : pp = -1 ∨ ∃ j, j < n ∧ pp = nI j ∧ C.2.1 j = -1 ∧ ¬ dl j < en) (he : ti < en)
    (hu : (b2, L2, C2) = ((upd me n q, upd ar n x, upd dl n en, n + 1), (k_begin C L0 n pp ti).2, (k_begin C L0 n pp ti).1)) : LI (T + 1) b2.2.2.2 b2.1 b2.2.1 b2.2.2.1 ti L2 L1 C2 S (upd lm n q) (upd lr n x) (upd lp n pp) (upd le n (-1)) := by
  cases hu
  show LI (T + 1) (n + 1) (upd me n q) (upd ar n x) (upd dl n en) ti (k_begin C L0 n pp ti).2 L1 (k_begin C L0 n pp ti).1 S (upd lm n q) (upd lr n x) (upd lp n pp) (upd le n (-1))
  obtain ⟨ss, cr, se, re, sv, ad⟩ := S
  obtain ⟨pa, oc, cv, rq, la, rc, su, bu⟩ := C
  have e1 : k_begin (pa, oc, cv, rq, la, rc, su, bu) L0 n pp ti = ((upd pa n pp, upd oc n (-1), cv, upd rq n (rq n + nI 1), upd la n ti, rc, su, bu), l_send L0 (nI 0) (nI n) (nI 0) (nI 0)) := rfl
  rw [e1]
  obtain ⟨⟨h1, h2, h3⟩, ⟨⟨⟨a1, a2, a3⟩, ⟨⟨b, b1, b2, b3, b4⟩, a5, a6⟩, a7, a8⟩, ⟨s1, ⟨s2, s3⟩, s4, s5⟩⟩, h7⟩ := R.up
  obtain ⟨f1, f2, f3⟩ := a6 n (Nat.le_refl _)
  obtain ⟨g1, g2, g3⟩ := s3 n (Nat.le_refl _)
  have hne : ∀ {c : Nat}, c < n → c ≠ n := fun h => by omega
  have er : rq n + nI 1 = nI (0 + 1) := by rw [f3]; decide +kernel
  refine ⟨⟨hn, fun c hc => ?_, h3⟩, ⟨⟨⟨fun c hc => ?_, fun c hc hq => ?_, fun c hc hcn hq j hj hpj => ?_⟩, ⟨⟨b, b1, b2, ?_, ?_⟩, fun c hc => ?_, fun c hc => ?_⟩, FV_send (FV_mono a7 (fun _ _ _ _ p => P0_up p)) ⟨n, Nat.lt_succ_self _, rfl, Or.inl rfl⟩, LOK_send a8⟩, fun c hc => ?_, ⟨?_, fun c hc => ?_⟩, FV_mono s4 (fun _ _ _ _ p => P1_open p), s5⟩, fun c hc => ?_⟩
  · show AOK (upd me n q c) (upd ar n x c)
    by_cases E : c = n
    · subst E; rw [upd_s, upd_s]; exact hA
    · rw [upd_n E, upd_n E]; exact h2 c (by omega)
  · show PV (upd me n q c) (upd ar n x c) (ss c) (upd le n (-1) c) (upd oc n (-1) c) (cv c) (upd rq n (rq n + nI 1) c) (rc c) (su c)
    by_cases E : c = n
    · subst E
      rw [upd_s, upd_s, upd_s, upd_s, upd_s, f1, f2]
      exact ⟨Or.inl rfl, Or.inl rfl, fun z => absurd z m1_0, fun z => absurd z m1_3, fun z => absurd z m1_4, fun _ => itm0, fun _ => ⟨rfl, rfl⟩, 0, by omega, er⟩
    · rw [upd_n E, upd_n E, upd_n E, upd_n E, upd_n E]
      exact a1 c (by omega)
  · show ti < upd dl n en c
    by_cases E : c = n
    · subst E; rw [upd_s]; exact he
    · have hq : upd oc n (-1) c = -1 := hq
      rw [upd_n E] at hq ⊢
      exact a2 c (by omega) hq
  · show upd oc n (-1) j = -1
    rw [upd_n (by omega)]
    have hpj : upd pa n pp c = nI j := hpj
    by_cases E : c = n
    · subst E
      rw [upd_s] at hpj
      rcases hp with z | ⟨i, i1, i2, i3, -⟩
      · exact absurd (hpj.symm.trans z) (nIneg (by omega))
      · have ei : i = j := (nI_eq (by omega) (by omega)).mp (i2.symm.trans hpj)
        subst ei
        exact i3
    · rw [upd_n E] at hpj
      have hq : upd oc n (-1) c = -1 := hq
      rw [upd_n E] at hq
      exact a3 c (by omega) (by omega) hq j hj hpj
  · have k1 : sN (ag (upd rq n (rq n + nI 1))) n = sN (ag rq) n := sN_congr n (fun c hc => by unfold ag; rw [upd_n (hne hc)])
    have k2 : sN (ag (upd rq n (rq n + nI 1))) (n + 1) = sN (ag (upd rq n (rq n + nI 1))) n + ag (upd rq n (rq n + nI 1)) n := rfl
    rw [k2, k1]
    omega
  · have k1 : sN (ag (upd rq n (rq n + nI 1))) n = sN (ag rq) n := sN_congr n (fun c hc => by unfold ag; rw [upd_n (hne hc)])
    have k2 : sN (ag (upd rq n (rq n + nI 1))) (n + 1) = sN (ag (upd rq n (rq n + nI 1))) n + ag (upd rq n (rq n + nI 1)) n := rfl
    have k3 : ag (upd rq n (rq n + nI 1)) n = 0 := by unfold ag; rw [upd_s, er, ix_nI (by omega)]
    have k4 : sN (cz (upd oc n (-1))) n = sN (cz oc) n := sN_congr n (fun c hc => by unfold cz; rw [upd_n (hne hc)])
    have k5 : sN (cz (upd oc n (-1))) (n + 1) = sN (cz (upd oc n (-1))) n + cz (upd oc n (-1)) n := rfl
    rw [k2, k1, k3, k5, k4]
    omega
  · show (upd pa n pp c = -1 ∨ ∃ j, j < c ∧ upd pa n pp c = nI j ∧ ¬ upd dl n en j < upd dl n en c) ∧ upd lp n pp c = upd pa n pp c
    by_cases E : c = n
    · subst E
      rw [upd_s, upd_s, upd_s]
      refine ⟨?_, rfl⟩
      rcases hp with z | ⟨i, i1, i2, i3, i4⟩
      · exact Or.inl z
      · exact Or.inr ⟨i, i1, i2, by rw [upd_n (hne i1)]; exact i4⟩
    · rw [upd_n E, upd_n E, upd_n E]
      obtain ⟨d1, d2⟩ := a5 c (by omega)
      refine ⟨?_, d2⟩
      rcases d1 with z | ⟨i, i1, i2, i3⟩
      · exact Or.inl z
      · exact Or.inr ⟨i, i1, i2, by rw [upd_n (by omega)]; exact i3⟩
  · show rc c = 0 ∧ su c = 0 ∧ upd rq n (rq n + nI 1) c = 0
    have hc : n + 1 ≤ c := hc
    obtain ⟨d1, d2, d3⟩ := a6 c (by omega)
    rw [upd_n (by omega)]
    exact ⟨d1, d2, d3⟩
  · show SV (T + 1) ti (upd dl n en c) (upd me n q c) (upd ar n x c) (ss c) (cr c) (se c) (re c) (sv c)
    by_cases E : c = n
    · subst E
      rw [g1, g2, g3]
      exact ⟨fun z => absurd z c0_1, fun z => absurd z c02, ⟨0, by omega, nI_0.symm⟩, ⟨0, by omega, nI_0.symm⟩⟩
    · rw [upd_n E, upd_n E, upd_n E]
      exact s1 c (by omega)
  · have k1 : sI (wk (upd me n q) (upd ar n x) ss) n = sI (wk me ar ss) n := sI_congr n (fun c hc => by unfold wk; rw [upd_n (hne hc), upd_n (hne hc)])
    have k2 : sI (wk (upd me n q) (upd ar n x) ss) (n + 1) = sI (wk (upd me n q) (upd ar n x) ss) n + wk (upd me n q) (upd ar n x) ss n := rfl
    have k3 : wk (upd me n q) (upd ar n x) ss n = nI 0 := by unfold wk; rw [if_neg (fun z => absurd (g1.symm.trans z.2) c02)]
    rw [k2, k1, k3, nI_0, Int32.add_zero]
    exact s2
  · have hc : n + 1 ≤ c := hc
    exact s3 c (by omega)
  · show upd lm n q c = upd me n q c ∧ upd lr n x c = upd ar n x c
    by_cases E : c = n
    · subst E; rw [upd_s, upd_s, upd_s, upd_s]; exact ⟨rfl, rfl⟩
    · rw [upd_n E, upd_n E, upd_n E, upd_n E]
      exact h7 c (by omega)
/-- what the law asks of a call -/
def CK (j : Nat) (ti : Int32) (dl oc cv rq rc su ss lm lr lp le : Fn) : Prop :=
  ((le j = -1 ∨ le j = oc j) ∧ (oc j = -1 ∨ ¬ oc j < 0) ∧ (oc j = -1 → ti < dl j) ∧ (ss j = nI 1 → ti < dl j)) ∧ (lp j = -1 ∨ ∃ i, i < j ∧ lp j = nI i ∧ ¬ dl i < dl j ∧ (oc j = -1 → oc i = -1))
    ∧ (lm j = nI 3 → ITM (lr j) (rc j) (su j)) ∧ (¬ lm j = nI 3 → rc j = 0 ∧ su j = 0) ∧ (oc j = 0 → ss j = nI 2 ∧ (lm j = 0 ∨ lm j = nI 1 ∨ lm j = nI 3) ∧ (lm j = 0 → cv j = lr j * lr j) ∧ (lm j = nI 3 → cv j = mx (lr j) ∧ rc j = mx (lr j)))
    ∧ (oc j = nI 3 → lm j = nI 2) ∧ (oc j = nI 4 → lm j = nI 3) ∧ (∃ k, k ≤ 3 ∧ rq j = nI (k + 1))
theorem LI.call {pa oc cv rq la rc su ss cr se re sv : Fn} {bu ad : Int32} (R : LI T n me ar dl ti L0 L1 (pa, oc, cv, rq, la, rc, su, bu) (ss, cr, se, re, sv, ad) lm lr lp le) (hj : j < n) : CK j ti dl oc cv rq rc su ss lm lr lp le := by
  obtain ⟨⟨h1, h2, h3⟩, ⟨⟨⟨a1, a2, a3⟩, ⟨a4, a5, a6⟩, a7⟩, ⟨s1, s2⟩⟩, h7⟩ := R
  obtain ⟨e1, e2⟩ := h7 j hj
  obtain ⟨v1, v2, v3, v4, v5, v6, v7, v8⟩ := a1 j hj
  obtain ⟨p1, p2⟩ := a5 j hj
  unfold CK
  rw [e1, e2, p2]
  refine ⟨⟨v2, v1, a2 j hj, (s1 j hj).1⟩, ?_, v6, v7, fun z => ?_, v4, v5, v8⟩
  · rcases p1 with z | ⟨i, i1, i2, i3⟩
    · exact Or.inl z
    · exact Or.inr ⟨i, i1, i2, i3, fun z => a3 j hj hj z i i1 i2⟩
  · obtain ⟨w1, w2, w3, w4⟩ := v3 z
    refine ⟨w1, ?_, fun y => w3 (y.trans nI_0.symm), w4⟩
    rcases (h2 j hj).1 with y | y | y | y
    · exact Or.inl (y.trans nI_0)
    · exact Or.inr (Or.inl y)
    · exact absurd y w2
    · exact Or.inr (Or.inr y)
theorem LI.seen {pa oc cv rq la rc su : Fn} {bu : Int32} (R : LI T n me ar dl ti L0 L1 (pa, oc, cv, rq, la, rc, su, bu) S lm lr lp le) : LI T n me ar dl ti L0 L1 (pa, oc, cv, rq, la, rc, su, bu) S lm lr lp (upd le j (oc j)) := by
  obtain ⟨h1, ⟨⟨⟨a1, a2, a3⟩, a4⟩, h6⟩, h7⟩ := R
  refine ⟨h1, ⟨⟨⟨fun c hc => ?_, a2, a3⟩, a4⟩, h6⟩, h7⟩
  by_cases E : c = j
  · subst E; rw [upd_s]; exact PV_e (a1 c hc)
  · rw [upd_n E]; exact a1 c hc
/-- what the law asks of all calls together -/
def TOT (n : Nat) (oc rq ss lm lr : Fn) (bu ad : Int32) : Prop := ad = sI (wk lm lr ss) n ∧ (∃ b, bu = nI b ∧ b ≤ 100 ∧ 100 ≤ b + 10 * sN (ag rq) n ∧ b + 10 * sN (ag rq) n ≤ 100 + sN (cz oc) n) ∧ (∀ c, c < n → ∃ k, k ≤ 3 ∧ rq c = nI (k + 1))
theorem LI.tot {pa oc cv rq la rc su ss cr se re sv : Fn} {bu ad : Int32} (R : LI T n me ar dl ti L0 L1 (pa, oc, cv, rq, la, rc, su, bu) (ss, cr, se, re, sv, ad) lm lr lp le) : TOT n oc rq ss lm lr bu ad := by
  obtain ⟨⟨h1, h2, h3⟩, ⟨⟨⟨a1, a2, a3⟩, ⟨⟨b, b1, b2, b3, b4⟩, a5, a6⟩, a7⟩, ⟨s1, ⟨s2, s3⟩, s4⟩⟩, h7⟩ := R
  refine ⟨?_, ⟨b, b1, b2, b3, b4⟩, fun c hc => (a1 c hc).2.2.2.2.2.2.2⟩
  rw [s2]
  exact sI_congr n (fun c hc => by unfold wk; rw [(h7 c hc).1, (h7 c hc).2])
theorem sN_le {f : Nat → Nat} {d : Nat} : ∀ n : Nat, (∀ c, c < n → f c ≤ d) → sN f n ≤ d * n := by
  intro n
  induction n with
  | zero => intro _; exact Nat.le_refl _
  | succ n ih =>
    intro h
    show sN f n + f n ≤ d * (n + 1)
    have e1 := ih (fun c hc => h c (by omega))
    have e2 := h n (by omega)
    rw [Nat.mul_succ]
    omega
end PL
