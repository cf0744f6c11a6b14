def SV (T : Nat) (ti d m a s cr se re sv : Int32) : Prop := (s = nI 1 → ti < d) ∧ (s = nI 2 → ANS m a re sv) ∧ (∃ k, k ≤ 2 + 10 * T ∧ cr = nI k) ∧ (∃ k, k ≤ 5 ∧ se = nI k)
def wk (me ar ss : Fn) (c : Nat) : Int32 := if me c = nI 1 ∧ ss c = nI 2 then ar c else nI 0
def SI (T n : Nat) (me ar dl : Fn) (ti : Int32) (S : SerS) (L : LaneS) : Prop := match S with
  | (ss, cr, se, re, sv, ad) => (∀ c, c < n → SV T ti (dl c) (me c) (ar c) (ss c) (cr c) (se c) (re c) (sv c)) ∧ (ad = sI (wk me ar ss) n ∧ ∀ c, n ≤ c → ss c = 0 ∧ cr c = 0 ∧ se c = 0) ∧ (FVp (P1 n me ar ss re sv) L ∧ LOK L)
/-- what is answered stays so -/
def MS (ss re sv ss2 re2 sv2 : Fn) : Prop := ∀ c, ss c = nI 2 → ss2 c = nI 2 ∧ re2 c = re c ∧ sv2 c = sv c
theorem P1_ms {n : Nat} {me ar ss re sv ss2 re2 sv2 : Fn} (h : MS ss re sv ss2 re2 sv2) {kd o q v : Int32} (p : P1 n me ar ss re sv kd o q v) : P1 n me ar ss2 re2 sv2 kd o q v := by
  obtain ⟨c, h1, h2, h3⟩ := p
  refine ⟨c, h1, h2, ?_⟩
  rcases h3 with ⟨g1, g2, g3, g4⟩ | g
  · obtain ⟨b1, b2, b3⟩ := h c g2
    exact Or.inl ⟨g1, b1, g3.trans b2.symm, g4.trans b3.symm⟩
  · exact Or.inr g
section PS
variable {T n c : Nat} {me ar dl ss cr se re sv : Fn} {ti t ad q v kd o : Int32} {L L2 : LaneS}
theorem SV_up {d m a s cr se re sv : Int32} (h : SV T ti d m a s cr se re sv) : SV (T + 1) ti d m a s cr se re sv := by
  obtain ⟨h1, h2, ⟨k, h3, h4⟩, h5⟩ := h
  exact ⟨h1, h2, ⟨k, by omega, h4⟩, h5⟩
theorem SI_up {S : SerS} (h : SI T n me ar dl ti S L) : SI (T + 1) n me ar dl ti S L := by
  obtain ⟨ss, cr, se, re, sv, ad⟩ := S
  obtain ⟨h1, h2⟩ := h
  exact ⟨fun c hc => SV_up (h1 c hc), h2⟩
theorem SI_lane {S : SerS} (h : SI T n me ar dl ti S L) (hL : FVp (P1 n me ar S.1 S.2.2.2.1 S.2.2.2.2.1) L2 ∧ LOK L2) : SI T n me ar dl ti S L2 := by
  obtain ⟨ss, cr, se, re, sv, ad⟩ := S
  obtain ⟨h1, h2, h3⟩ := h
  exact ⟨h1, h2, hL⟩
/-- a task that hasn't answered changes, and doesn't answer -/
theorem SI_set {s2 r2 : Int32} (h : SI T n me ar dl ti (ss, cr, se, re, sv, ad) L) (hc : c < n) (hs : ¬ ss c = nI 2) (hs2 : ¬ s2 = nI 2) (h1 : s2 = nI 1 → ti < dl c) (hr : ∃ k, k ≤ 2 + 10 * T ∧ r2 = nI k) :
    SI T n me ar dl ti (upd ss c s2, upd cr c r2, se, re, sv, ad) L ∧ MS ss re sv (upd ss c s2) re sv := by
  obtain ⟨a1, ⟨a2, a3⟩, a4, a5⟩ := h
  have hm : MS ss re sv (upd ss c s2) re sv := by
    intro j hj
    by_cases E : j = c
    · subst E; exact absurd hj hs
    · rw [upd_n E]; exact ⟨hj, rfl, rfl⟩
  refine ⟨⟨fun j hj => ?_, ⟨?_, fun j hj => ?_⟩, FV_mono a4 (fun _ _ _ _ p => P1_ms hm p), a5⟩, hm⟩
  · by_cases E : j = c
    · subst E
      obtain ⟨b1, b2, b3, b4⟩ := a1 j hj
      rw [upd_s, upd_s]
      exact ⟨h1, fun z => absurd z hs2, hr, b4⟩
    · rw [upd_n E, upd_n E]
      exact a1 j hj
  · rw [a2]
    refine sI_congr n (fun j hj => ?_)
    unfold wk
    by_cases E : j = c
    · subst E
      rw [upd_s, if_neg (fun z => hs z.2), if_neg (fun z => hs2 z.2)]
    · rw [upd_n E]
  · rw [upd_n (by omega), upd_n (by omega)]
    exact a3 j hj
theorem upd_same {f : Fn} {k : Nat} : upd f k (f k) = f := by
  funext j
  by_cases e : j = k
  · rw [e, upd_s]
  · rw [upd_n e]
theorem SI_sendA (h : SI T n me ar dl ti (ss, cr, se, re, sv, ad) L) (hc : c < n) (hs : ss c = nI 2) : SI T n me ar dl ti (ss, cr, se, re, sv, ad) (s_sendA (ss, cr, se, re, sv, ad) L c) := by
  obtain ⟨a1, a2, a4, a5⟩ := h
  exact ⟨a1, a2, FV_send a4 ⟨c, hc, rfl, Or.inl ⟨rfl, hs, rfl, rfl⟩⟩, LOK_send a5⟩
theorem SI_take (hT : T ≤ 200) (hn : n ≤ 40) (h : SI T n me ar dl ti (ss, cr, se, re, sv, ad) L) (hF : P0 n kd o v q) (hc : c < n) (ho : o = nI c) :
    SI (T + 1) n me ar dl ti (s_take dl (ss, cr, se, re, sv, ad) L kd c q ti).1 (s_take dl (ss, cr, se, re, sv, ad) L kd c q ti).2 ∧ (∀ j, ss j = nI 2 → (s_take dl (ss, cr, se, re, sv, ad) L kd c q ti).1.1 j = nI 2) := by
  have hu := SI_up h
  obtain ⟨c2, g1, g2, g3⟩ := hF
  have ec : c2 = c := (nI_eq (by omega) (by omega)).mp (g2.symm.trans ho)
  subst ec
  have cc : ∃ k, k ≤ 2 + 10 * (T + 1) ∧ cr c2 = nI k := (hu.1 c2 hc).2.2.1
  by_cases k0 : kd = 0
  · by_cases s2 : ss c2 = nI 2
    · have e1 : s_take dl (ss, cr, se, re, sv, ad) L kd c2 q ti = ((ss, cr, se, re, sv, ad), s_sendA (ss, cr, se, re, sv, ad) L c2) := by simp only [s_take, s_treq, if_pos k0, if_pos s2]
      rw [e1]
      exact ⟨SI_sendA hu hc s2, fun _ z => z⟩
    · by_cases s0 : ss c2 = 0 ∧ ¬ ¬ ti < dl c2
      · have e1 : s_take dl (ss, cr, se, re, sv, ad) L kd c2 q ti = ((upd ss c2 (nI 1), upd cr c2 (nI 2), se, re, sv, ad), L) := by simp only [s_take, s_treq, if_pos k0, if_neg s2, if_pos s0]
        rw [e1]
        obtain ⟨d1, d2⟩ := SI_set (s2 := nI 1) (r2 := nI 2) hu hc s2 c12 (fun _ => Decidable.not_not.mp s0.2) ⟨2, by omega, rfl⟩
        exact ⟨d1, fun j z => (d2 j z).1⟩
      · have e1 : s_take dl (ss, cr, se, re, sv, ad) L kd c2 q ti = ((ss, cr, se, re, sv, ad), L) := by simp only [s_take, s_treq, if_pos k0, if_neg s2, if_neg s0]
        rw [e1]
        exact ⟨hu, fun _ z => z⟩
  · by_cases k1 : kd = nI 1
    · by_cases s2 : ss c2 = nI 2
      · have e1 : s_take dl (ss, cr, se, re, sv, ad) L kd c2 q ti = ((ss, cr, se, re, sv, ad), L) := by simp only [s_take, s_tcan, if_neg k0, if_pos k1, if_pos s2]
        rw [e1]
        exact ⟨hu, fun _ z => z⟩
      · have e1 : s_take dl (ss, cr, se, re, sv, ad) L kd c2 q ti = ((upd ss c2 (nI 3), cr, se, re, sv, ad), L) := by simp only [s_take, s_tcan, if_neg k0, if_pos k1, if_neg s2]
        rw [e1]
        obtain ⟨d1, d2⟩ := SI_set (s2 := nI 3) (r2 := cr c2) hu hc s2 c32 (fun z => absurd z (by decide +kernel)) cc
        rw [upd_same] at d1
        exact ⟨d1, fun j z => (d2 j z).1⟩
    · by_cases s1 : ss c2 = nI 1
      · have e1 : s_take dl (ss, cr, se, re, sv, ad) L kd c2 q ti = ((ss, upd cr c2 (cr c2 + q), se, re, sv, ad), L) := by simp only [s_take, if_neg k0, if_neg k1, if_pos s1]
        rw [e1]
        have hq : ∃ k, k ≤ 10 ∧ q = nI k := by
          rcases g3 with z | z | z
          · exact absurd (z.trans nI_0) k0
          · exact absurd z k1
          · exact z
        obtain ⟨k, hk, rfl⟩ := hq
        obtain ⟨k2, hk2, ek2⟩ := (h.1 c2 hc).2.2.1
        have s2 : ¬ ss c2 = nI 2 := by rw [s1]; exact c12
        obtain ⟨d1, d2⟩ := SI_set (s2 := ss c2) (r2 := cr c2 + nI k) hu hc s2 s2 (hu.1 c2 hc).1 ⟨k2 + k, by omega, by rw [ek2, nI_add]⟩
        rw [upd_same] at d1
        exact ⟨d1, fun _ z => z⟩
      · have e1 : s_take dl (ss, cr, se, re, sv, ad) L kd c2 q ti = ((ss, cr, se, re, sv, ad), L) := by simp only [s_take, if_neg k0, if_neg k1, if_neg s1]
        rw [e1]
        exact ⟨hu, fun _ z => z⟩
theorem SI_step (hT : T ≤ 200) (h : SI T n me ar dl ti (ss, cr, se, re, sv, ad) L) (hA : ∀ c, c < n → AOK (me c) (ar c)) (hc : c < n) (s1 : ss c = nI 1) (hcr : s_next me ar (ss, cr, se, re, sv, ad) c = true → nI 1 ≤ cr c) :
    SI T n me ar dl ti (s_step me ar (ss, cr, se, re, sv, ad) L c).1 (s_step me ar (ss, cr, se, re, sv, ad) L c).2 ∧ (∀ j, ss j = nI 2 → (s_step me ar (ss, cr, se, re, sv, ad) L c).1.1 j = nI 2) := by
  have s2 : ¬ ss c = nI 2 := by rw [s1]; exact c12
  by_cases hn : s_next me ar (ss, cr, se, re, sv, ad) c = true
  · have e1 : s_step me ar (ss, cr, se, re, sv, ad) L c = ((ss, upd cr c (cr c - nI 1), upd se c (se c + nI 1), re, sv, ad), l_send L (nI 4) (nI c) (se c) (ar c - se c)) := by simp only [s_step, s_item, if_pos hn]
    rw [e1]
    have h1 := hcr hn
    simp only [s_next, Bool.and_eq_true, decide_eq_true_eq] at hn
    obtain ⟨a1, ⟨a2, a3⟩, a4, a5⟩ := h
    obtain ⟨b1, b2, ⟨k, b3, b4⟩, ⟨j2, b5, b6⟩⟩ := a1 c hc
    have hlt : nI j2 < ar c := by
      rw [← b6]
      exact Int32.not_le.mp hn.2
    obtain ⟨b, hb, eb, hjb⟩ := arg_lt ((hA c hc).2 hn.1) (by omega) hlt
    have hk1 : 1 ≤ k := by
      rw [b4] at h1
      exact (nI_leI (by omega) (by omega)).mp h1
    refine ⟨⟨fun j hj => ?_, ⟨a2, fun j hj => ?_⟩, FV_send a4 ⟨c, hc, rfl, Or.inr ⟨rfl, hn.1, j2, b5, b6, hlt, by rw [b6]⟩⟩, LOK_send a5⟩, fun _ z => z⟩
    · by_cases E : j = c
      · subst E
        rw [upd_s, upd_s]
        exact ⟨b1, b2, ⟨k - 1, by omega, by rw [b4, pk_sub hk1]⟩, ⟨j2 + 1, by omega, by rw [b6, nI_add]⟩⟩
      · rw [upd_n E, upd_n E]
        exact a1 j hj
    · rw [upd_n (by omega), upd_n (by omega)]
      exact a3 j hj
  · have e1 : s_step me ar (ss, cr, se, re, sv, ad) L c = s_perf me ar (ss, cr, se, re, sv, ad) L c := by simp only [s_step, if_neg hn]
    rw [e1]
    obtain ⟨a1, ⟨a2, a3⟩, a4, a5⟩ := h
    generalize hre : (if me c = nI 2 then nI 3 else nI 0) = r2
    generalize hsv : s_ans ad (me c) (ar c) = v2
    have e2 : s_perf me ar (ss, cr, se, re, sv, ad) L c = ((upd ss c (nI 2), cr, se, upd re c r2, upd sv c v2, if me c = nI 1 then v2 else ad), l_send L (nI 3) (nI c) (upd re c r2 c) (upd sv c v2 c)) := by
      simp only [s_perf, s_sendA, hre, hsv]
    rw [e2]
    have hm : MS ss re sv (upd ss c (nI 2)) (upd re c r2) (upd sv c v2) := by
      intro j hj
      by_cases E : j = c
      · subst E; exact absurd hj s2
      · rw [upd_n E, upd_n E, upd_n E]; exact ⟨hj, rfl, rfl⟩
    refine ⟨⟨fun j hj => ?_, ⟨?_, fun j hj => ?_⟩, FV_send (FV_mono a4 (fun _ _ _ _ p => P1_ms hm p)) ⟨c, hc, rfl, Or.inl ⟨rfl, upd_s, rfl, rfl⟩⟩, LOK_send a5⟩, fun j z => (hm j z).1⟩
    · by_cases E : j = c
      · subst E
        obtain ⟨b1, b2, b3, b4⟩ := a1 j hj
        rw [upd_s, upd_s, upd_s]
        refine ⟨fun z => absurd z.symm c12, fun _ => ⟨hre.symm, fun z => ?_, fun z => ?_⟩, b3, b4⟩
        · rw [← hsv]
          simp only [s_ans, if_pos z]
        · rw [← hsv, z]
          simp only [s_ans, if_neg (show ¬ nI 3 = nI 0 by decide +kernel), if_neg (show ¬ nI 3 = nI 1 by decide +kernel), if_neg c32, if_true]
          rfl
      · rw [upd_n E, upd_n E, upd_n E]
        exact a1 j hj
    · have f0 : wk me ar ss c = nI 0 := by unfold wk; rw [if_neg (fun z => s2 z.2)]
      have key : sI (wk me ar (upd ss c (nI 2))) n = sI (wk me ar ss) n + wk me ar (upd ss c (nI 2)) c := sI_upd f0 n hc (fun j hj hE => by unfold wk; rw [upd_n hE])
      rw [key, ← a2]
      by_cases m1 : me c = nI 1
      · have f1 : wk me ar (upd ss c (nI 2)) c = ar c := by unfold wk; rw [if_pos ⟨m1, upd_s⟩]
        rw [if_pos m1, f1, ← hsv, m1]
        simp only [s_ans, if_neg (show ¬ nI 1 = nI 0 by decide +kernel), if_true]
      · have f1 : wk me ar (upd ss c (nI 2)) c = nI 0 := by unfold wk; rw [if_neg (fun z => m1 z.1)]
        rw [if_neg m1, f1, nI_0, Int32.add_zero]
    · rw [upd_n (by omega)]
      exact a3 j hj
theorem SI_close {S : SerS} (h : SI T n me ar dl ti S L) : SI T n me ar dl t (s_close n dl t S) L ∧ (∀ j, S.1 j = nI 2 → (s_close n dl t S).1 j = nI 2) := by
  have st : ∀ (i : Nat) (x : SerS), i < n → (SI T n me ar dl ti x L ∧ (∀ c, c < i → x.1 c = nI 1 → t < dl c) ∧ (∀ j, S.1 j = nI 2 → x.1 j = nI 2)) → (SI T n me ar dl ti (s_close1 dl t i x) L ∧ (∀ c, c < i + 1 → (s_close1 dl t i x).1 c = nI 1 → t < dl c) ∧ (∀ j, S.1 j = nI 2 → (s_close1 dl t i x).1 j = nI 2)) := by
    rintro i ⟨ss, cr, se, re, sv, ad⟩ hi ⟨hx, hm, hs⟩
    by_cases q : ss i = nI 1 ∧ ¬ t < dl i
    · have e1 : s_close1 dl t i (ss, cr, se, re, sv, ad) = (upd ss i (nI 3), cr, se, re, sv, ad) := by simp only [s_close1, if_pos q]
      rw [e1]
      obtain ⟨d1, d2⟩ := SI_set (s2 := nI 3) (r2 := cr i) hx hi (by rw [q.1]; exact c12) c32 (fun z => absurd z (by decide +kernel)) (hx.1 i hi).2.2.1
      rw [upd_same] at d1
      refine ⟨d1, fun c hc hq => ?_, fun j z => (d2 j (hs j z)).1⟩
      by_cases E : c = i
      · subst E
        have hq : upd ss c (nI 3) c = nI 1 := hq
        rw [upd_s] at hq
        exact absurd hq (by decide +kernel)
      · have hq : upd ss i (nI 3) c = nI 1 := hq
        rw [upd_n E] at hq
        exact hm c (by omega) hq
    · have e1 : s_close1 dl t i (ss, cr, se, re, sv, ad) = (ss, cr, se, re, sv, ad) := by simp only [s_close1, if_neg q]
      rw [e1]
      refine ⟨hx, fun c hc hq => ?_, hs⟩
      by_cases E : c = i
      · subst E
        exact Decidable.byContradiction fun y => q ⟨hq, y⟩
      · exact hm c (by omega) hq
  have key := it_inv (fun i x => SI T n me ar dl ti x L ∧ (∀ c, c < i → x.1 c = nI 1 → t < dl c) ∧ (∀ j, S.1 j = nI 2 → x.1 j = nI 2)) n st (n - 0) 0 S (by omega) ⟨h, fun c hc => absurd hc (Nat.not_lt_zero _), fun _ z => z⟩
  rw [show 0 + (n - 0) = n by omega] at key
  obtain ⟨k1, k2, k3⟩ := key
  have k1 : SI T n me ar dl ti (s_close n dl t S) L := k1
  have k2 : ∀ c, c < n → (s_close n dl t S).1 c = nI 1 → t < dl c := k2
  have k3 : ∀ j, S.1 j = nI 2 → (s_close n dl t S).1 j = nI 2 := k3
  refine ⟨?_, k3⟩
  generalize s_close n dl t S = X at k1 k2
  obtain ⟨ss, cr, se, re, sv, ad⟩ := X
  obtain ⟨a1, a2⟩ := k1
  exact ⟨fun c hc => ⟨k2 c hc, (a1 c hc).2⟩, a2⟩
end PS
