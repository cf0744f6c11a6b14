/-- an index that is one -/
def ix (x : Int32) : Nat := x.toNatClampNeg
theorem ix_nI {j : Nat} (h : j < 2 ^ 31) : ix (nI j) = j := nI_clamp h
def g_has (n : Nat) (x : Int32) : Bool := decide (¬ x < 0 ∧ ¬ nI n ≤ x)
theorem g_has_iff {n : Nat} {x : Int32} : g_has n x = true ↔ (¬ x < 0 ∧ ¬ nI n ≤ x) := decide_eq_true_iff
theorem g_has_j {n : Nat} {x : Int32} (h : g_has n x = true) (hn : n < 2 ^ 31) : ∃ j : Nat, j < n ∧ x = nI j := k_has (g_has_iff.mp h) hn
theorem g_has_pos {n : Nat} (h : g_has n (nI 0) = true) : 0 < n := by
  rcases Nat.eq_zero_or_pos n with e | e
  · subst e; exact absurd h (by decide +kernel)
  · exact e
def g_ma (q x : Int32) : Bool := decide (¬ q < 0 ∧ q ≤ nI 3 ∧ ¬ x < (-1000) ∧ x ≤ nI 1000)
theorem g_ma_iff {q x : Int32} : g_ma q x = true ↔ (¬ q < 0 ∧ q ≤ nI 3 ∧ ¬ x < (-1000) ∧ x ≤ nI 1000) := decide_eq_true_iff
def g_dir (x : Int32) : Bool := decide (x = nI 0) || decide (x = nI 1)
theorem g_dir_iff {x : Int32} : g_dir x = true ↔ (x = nI 0 ∨ x = nI 1) := by simp [g_dir]
theorem g_tick {x : Int32} (h1 : ¬ x < nI 1) (h2 : x ≤ nI 200) : ∃ j : Nat, j < 201 ∧ x = nI j := by
  rcases pk_ix x (n := 201) (by decide) with q | q | q
  · exact absurd (Int32.lt_trans q (by decide +kernel)) h1
  · exact absurd (Int32.le_trans q h2) (by decide +kernel)
  · exact q
def l_rem (L : LaneS) : LaneS := match L with | (ki, ow, mr, va, fi, sz) => (ki, ow, mr, va, (fi + 1) % 40, sz - 1)
def l_kd (L : LaneS) : Int32 := match L with | (ki, _, _, _, fi, _) => ki ((fi + 0) % 40)
def l_mr (L : LaneS) : Int32 := match L with | (_, _, mr, _, fi, _) => mr ((fi + 0) % 40)
def l_va (L : LaneS) : Int32 := match L with | (_, _, _, va, fi, _) => va ((fi + 0) % 40)
def g_end (dl : Fn) (ti tm pp : Int32) : Int32 := if pp = -1 then ti + tm else if dl (ix pp) < ti + tm then dl (ix pp) else ti + tm
def g_del (n : Nat) (me dl : Fn) (L0 L1 : LaneS) (C : CalS) (S : SerS) (ti x : Int32) (c0 c1 : Nat) : LaneS × LaneS × CalS × SerS :=
  if x = nI 0 then (match s_take dl S L1 (l_kd L0) c0 (l_va L0) ti with | (S2, L2) => (l_rem L0, L2, C, S2))
  else (match k_take n me C L0 (l_kd L1) c1 (l_mr L1) (l_va L1) with | (C2, L2) => (L2, l_rem L1, C2, S))
def g_tick1 (n : Nat) (dl : Fn) (_ : Nat) (x : (Int32 × LaneS × CalS × SerS) × Int32) : (Int32 × LaneS × CalS × SerS) × Int32 := match x with
  | ((ti, L0, C, S), k) => match k_due n dl (ti + nI 1) C L0 with
    | (C2, L2, j) => match k_rep n (ti + nI 1) C2 L2 with
      | (C3, L3) => ((ti + nI 1, L3, C3, s_close n dl (ti + nI 1) S), k + j)
theorem g_has_c {n c : Nat} (h : c < n) (hn : n ≤ 40) : ¬ nI c < 0 ∧ ¬ nI n ≤ nI c := by
  rw [nI_leI (by omega) (by omega)]
  refine ⟨?_, by omega⟩
  rw [← nI_0, nI_ltI (by omega) (by omega)]
  omega
