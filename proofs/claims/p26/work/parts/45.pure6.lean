def four (x : Int32) : Prop := x = nI 0 ∨ x = nI 1 ∨ x = nI 2 ∨ x = nI 3
theorem four0 : four (nI 0) := Or.inl rfl
theorem four1 : four (nI 1) := Or.inr (Or.inl rfl)
theorem four2 : four (nI 2) := Or.inr (Or.inr (Or.inl rfl))
theorem four3 : four (nI 3) := Or.inr (Or.inr (Or.inr rfl))
theorem four12 {a : Nat} (h0 : ¬ a = 0) (h2 : ¬ 2 < a) : four (nI (a - 1)) := by
  have : a = 1 ∨ a = 2 := by omega
  rcases this with rfl | rfl
  · exact four0
  · exact four1
def ARG (m a : Int32) : Prop := AOK m a ∧ g_ma m a = true
theorem ma_of {m a : Int32} (hm : four m) (h1 : ¬ a < (-1000)) (h2 : a ≤ nI 1000) : g_ma m a = true := by
  rw [g_ma_iff]
  rcases hm with rfl | rfl | rfl | rfl
  · exact ⟨by decide +kernel, by decide +kernel, h1, h2⟩
  · exact ⟨by decide +kernel, by decide +kernel, h1, h2⟩
  · exact ⟨by decide +kernel, by decide +kernel, h1, h2⟩
  · exact ⟨by decide +kernel, by decide +kernel, h1, h2⟩
theorem sub_lo {a b : Nat} (ha : a < 2 ^ 30) (hb : b ≤ 1000) : ¬ (nI a - nI b < (-1000)) := by
  rw [Int32.lt_iff_toInt_lt, pk_sub_toInt ha (by omega), show ((-1000) : Int32).toInt = -1000 by decide +kernel]
  omega
theorem sub_hi {a b c : Nat} (ha : a < 2 ^ 30) (hb : b < 2 ^ 30) (hc : c < 2 ^ 31) (h : a ≤ b + c) : nI a - nI b ≤ nI c := by
  rw [Int32.le_iff_toInt_le, pk_sub_toInt ha hb, nI_toInt hc]
  omega
theorem arg3 {m : Int32} {a : Nat} (hm : m = nI 3) (ha : a < 7) : ARG m (nI a - nI 1) := by
  subst hm
  refine ⟨⟨four3, fun _ => ?_⟩, ma_of four3 (sub_lo (by omega) (by omega)) (sub_hi (by omega) (by omega) (by omega) (by omega))⟩
  rcases Nat.eq_zero_or_pos a with z | z
  · subst z
    exact Or.inl (by decide +kernel)
  · exact Or.inr ⟨a - 1, by omega, pk_sub z⟩
theorem argN {m : Int32} {a : Nat} (h4 : four m) (hm : ¬ m = nI 3) (ha : a < 2001) : ARG m (nI a - nI 1000) :=
  ⟨⟨h4, fun z => absurd z hm⟩, ma_of h4 (sub_lo (by omega) (by omega)) (sub_hi (by omega) (by omega) (by omega) (by omega))⟩
theorem lo1 {a : Nat} (h : a < 2000) : ¬ nI (1 + a) < nI 1 := by
  rw [nI_ltI (by omega) (by omega)]
  omega
theorem hiN {a b : Nat} (h : 1 + a ≤ b) (hb : b < 2000) : nI (1 + a) ≤ nI b := by
  rw [nI_leI (by omega) (by omega)]
  exact h
theorem en_lt {a b t : Int32} (h1 : t < a) (h2 : t < b) : t < (if a < b then a else b) := by
  by_cases q : a < b
  · rw [if_pos q]; exact h1
  · rw [if_neg q]; exact h2
theorem en_le {a b : Int32} : ¬ a < (if a < b then a else b) := by
  by_cases q : a < b
  · rw [if_pos q]; exact fun h => Int32.lt_irrefl h
  · rw [if_neg q]; exact q
section PM
variable {T n j k : Nat} {me ar dl lm lr lp le : Fn} {ti : Int32} {L0 L1 : LaneS} {C : CalS} {S : SerS}
theorem LI.fut (hT : T ≤ 200) (R : LI T n me ar dl ti L0 L1 C S lm lr lp le) {d : Nat} (hd : d < 1000) : ti < ti + nI (1 + d) := by
  obtain ⟨⟨-, -, tt, h3, h4⟩, -⟩ := R
  rw [h4, nI_add, nI_ltI (by omega) (by omega)]
  omega
theorem LI.open_lt {pa oc cv rq la rc su : Fn} {bu : Int32} (R : LI T n me ar dl ti L0 L1 (pa, oc, cv, rq, la, rc, su, bu) S lm lr lp le) (hj : j < n) (h : oc j = -1) : ti < dl j := by
  obtain ⟨-, ⟨⟨⟨-, a2, -⟩, -⟩, -⟩, -⟩ := R
  exact a2 j hj h
theorem LI.meth (R : LI T n me ar dl ti L0 L1 C S lm lr lp le) (hj : j < n) : lm j = me j := (R.2.2 j hj).1
theorem LI.workable {ss cr se re sv : Fn} {ad : Int32} (hT : T ≤ 200) (R : LI T n me ar dl ti L0 L1 C (ss, cr, se, re, sv, ad) lm lr lp le) (hj : j < n) (h : lm j = nI 3 → ¬ cr j = 0) : s_next me ar (ss, cr, se, re, sv, ad) j = true → nI 1 ≤ cr j := by
  intro z
  simp only [s_next, Bool.and_eq_true, decide_eq_true_eq] at z
  exact R.credit hT hj (h ((R.meth hj).trans z.1))
theorem LI.ok (R : LI T n me ar dl ti L0 L1 C S lm lr lp le) : n ≤ 40 := R.1.1
theorem LI.lane0 {ki ow mr va : Fn} {fi sz : Nat} (R : LI T n me ar dl ti (ki, ow, mr, va, fi, sz) L1 C S lm lr lp le) : fi < 40 ∧ sz ≤ 40 := by
  obtain ⟨pa, oc, cv, rq, la, rc, su, bu⟩ := C
  obtain ⟨-, ⟨⟨-, -, -, h5⟩, -⟩, -⟩ := R
  exact h5
theorem LI.lane1 {ki ow mr va : Fn} {fi sz : Nat} (R : LI T n me ar dl ti L0 (ki, ow, mr, va, fi, sz) C S lm lr lp le) : fi < 40 ∧ sz ≤ 40 := by
  obtain ⟨ss, cr, se, re, sv, ad⟩ := S
  obtain ⟨-, ⟨-, -, -, -, h5⟩, -⟩ := R
  exact h5
theorem work_x {x a b : Int32} (h : x = nI 1 ∨ (x = nI 0 ∧ (a = nI 3 → ¬ b = 0))) (hx : x = 0) : a = nI 3 → ¬ b = 0 := by
  rcases h with z | z
  · exact absurd (z.symm.trans hx) c10
  · exact z.2
end PM
