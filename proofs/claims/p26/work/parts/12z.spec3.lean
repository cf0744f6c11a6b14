def g_del0 (dl : Fn) (L0 L1 : LaneS) (S : SerS) (ti : Int32) (c : Nat) : LaneS × LaneS × SerS := match s_take dl S L1 (l_kd L0) c (l_va L0) ti with
  | (S2, L2) => (l_rem L0, L2, S2)
def g_del1 (n : Nat) (me : Fn) (L0 L1 : LaneS) (C : CalS) (c : Nat) : LaneS × LaneS × CalS := match k_take n me C L0 (l_kd L1) c (l_mr L1) (l_va L1) with
  | (C2, L2) => (L2, l_rem L1, C2)
