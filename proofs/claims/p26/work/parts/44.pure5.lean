theorem mx_le {x : Int32} (h : x ≤ 0) : nI 0 = mx x := by
  unfold mx
  by_cases q : x < nI 0
  · rw [if_pos q]
  · rw [if_neg q, nI_0]
    rw [nI_0] at q
    exact Int32.le_antisymm (Int32.not_lt.mp q) h
theorem mx_gt {x : Int32} (h : ¬ x ≤ 0) : x = mx x := by
  unfold mx
  rw [if_neg (fun q => h (Int32.le_of_lt (by rw [nI_0] at q; exact q)))]
theorem lp_neg {x : Int32} (h : x = -1) : x < 0 := by rw [h]; decide +kernel
theorem itm_le {a r u : Int32} (h : ITM a r u) : ¬ mx a < r := by
  obtain ⟨k, -, rfl, h2, -⟩ := h
  exact h2
theorem itm_sum {a r u : Int32} (h : ITM a r u) : u = r * mx a - r * (r - nI 1) / nI 2 := by
  obtain ⟨k, -, rfl, -, rfl⟩ := h
  rfl
theorem open_dead {o x : Int32} (q : o = -1 ∨ ¬ o < 0) (hx : o = -1 → x = nI 1) (h : ¬ 0 ≤ o) (g : x = 0) : False := by
  rcases q with z | z
  · exact c10 ((hx z).symm.trans g)
  · exact h (Int32.not_lt.mp z)
theorem rq_lo {q : Int32} {k : Nat} (hk : k ≤ 3) (e : q = nI (k + 1)) : ¬ q < nI 1 := by
  rw [e, nI_ltI (by omega) (by omega)]
  omega
theorem rq_hi {q : Int32} {k : Nat} (hk : k ≤ 3) (e : q = nI (k + 1)) : ¬ nI 4 < q := by
  rw [e, nI_ltI (by omega) (by omega)]
  omega
theorem tok_lo {b a : Nat} (hb : b ≤ 100) (ha : a ≤ 1000) (h : 100 ≤ b + a) (g : nI b < nI 100 - nI a) : False := by
  rw [Int32.lt_iff_toInt_lt, nI_toInt (by omega), pk_sub_toInt (by omega) (by omega)] at g
  omega
theorem tok_hi {b a z : Nat} (hb : b ≤ 100) (ha : a ≤ 2000) (hz : z ≤ 1000) (h : b + a ≤ 100 + z) (g : nI 100 - nI a + nI z < nI b) : False := by
  have e : nI 100 - nI a + nI z = nI (100 + z) - nI a := by
    rw [← nI_add, Int32.sub_eq_add_neg, Int32.sub_eq_add_neg, Int32.add_assoc, Int32.add_comm (-nI a), ← Int32.add_assoc]
  rw [e, Int32.lt_iff_toInt_lt, nI_toInt (by omega), pk_sub_toInt (by omega) (by omega)] at g
  omega
theorem loc_ok {r ad t : Int32} (h : r = s_ans ad (nI 1) (nI 5)) (e : ad = t) : r = t + nI 5 := by
  rw [h, e]
  simp only [s_ans, if_neg (show ¬ nI 1 = nI 0 by decide +kernel), if_true]
theorem ag_eq {q : Fn} {c k : Nat} (hk : k ≤ 3) (e : q c = nI (k + 1)) : q c = nI (ag q c + 1) := by
  have f : ag q c = k := by unfold ag; rw [e, ix_nI (by omega)]; rfl
  rw [f, e]
theorem ag_le {q : Fn} {c k : Nat} (hk : k ≤ 3) (e : q c = nI (k + 1)) : ag q c ≤ 3 := by
  have f : ag q c = k := by unfold ag; rw [e, ix_nI (by omega)]; rfl
  omega
theorem cz_le {q : Fn} {c : Nat} : cz q c ≤ 1 := by
  unfold cz
  by_cases h : q c = 0
  · rw [if_pos h]; omega
  · rw [if_neg h]; omega
theorem wk_in {me ar ss : Fn} {c : Nat} (h1 : me c = nI 1) (h2 : ss c = nI 2) : ar c = wk me ar ss c := by unfold wk; rw [if_pos ⟨h1, h2⟩]
theorem wk_m {me ar ss : Fn} {c : Nat} (h1 : ¬ me c = nI 1) : nI 0 = wk me ar ss c := by unfold wk; rw [if_neg (fun z => h1 z.1)]
theorem wk_s {me ar ss : Fn} {c : Nat} (h1 : ¬ ss c = nI 2) : nI 0 = wk me ar ss c := by unfold wk; rw [if_neg (fun z => h1 z.2)]
theorem cz_1 {q : Fn} {c : Nat} (h : q c = 0) : nI 1 = nI (cz q c) := by unfold cz; rw [if_pos h]
theorem cz_0 {q : Fn} {c : Nat} (h : ¬ q c = 0) : nI 0 = nI (cz q c) := by unfold cz; rw [if_neg h]
def lowv (x : Int32) (k : Nat) : Nat := ix (x &&& 2147483647) % k
theorem lowv_lt {x : Int32} {k : Nat} (h : 0 < k) : lowv x k < k := Nat.mod_lt _ h
theorem nInz {k : Nat} (h0 : 0 < k) (h : k < 2 ^ 31) : ¬ nI k = 0 := by
  intro e
  rw [← nI_0] at e
  have := (nI_eq h (by omega)).mp e
  omega
