set_option maxHeartbeats 4000000 in
set_option maxRecDepth 100000 in
theorem law_step {p : Program} {l : Launch} {e : Env} {s : State} {m : MethodId} {below : List Frame} {meth : Method} {c : Code} {b L : Nat} {xs : Nat → Int32} {G : va_G} {cI cL : ClassId} {ga ba d0 d1 ca sa ma : Nat → Nat} {o k : Nat} (F : LFix p l s m meth c b L xs G cI cL) (h5 : 5 * k ≤ L) (ih : 5 * k + 5 ≤ L → LGo p l e s m below meth c b G cI cL ga ba d0 d1 ca sa ma o (k + 1)) : LGo p l e s m below meth c b G cI cL ga ba d0 d1 ca sa ma o k := by
  have FF := F
  obtain ⟨⟨hx, hb, hr, hml, hown, hts⟩, ⟨hX, hbl, hlocks⟩, ⟨hK, hN, hC, hl0⟩, hL⟩ := F
  have hA : ∀ q : Nat, s.heap.size ≤ q → (fun q : Nat => s.heap.size ≤ q) q := fun _ h => h
  have hbA : ¬ (fun q : Nat => s.heap.size ≤ q) b := Nat.not_le.mpr hbl
  have hK1 := hK.sub (tys' := [(cI, .int)]) [0] rfl
  intro ti me ar dl n ki ow mr va fi sz kiB owB mrB vaB fiB szB pa oc cv rq la rc su bu ss cr se re sv ad cvM z0 z1 kM oM mM vM th f H locs ls R hP hD hS hl
  refine lv_iload hx hb dL_law_23 (lv_at hl 4 rfl) ?_
  refine lv_aload_n hx hb dL_law_25 rfl (lv_at hl 0 rfl) ?_
  refine va_slen hx hb hX hbl hbA hS dL_law_26 ?_
  refine lv_iconst (v := nI 5) hx hb dL_law_27 (by decide +kernel) ?_
  refine lv_isub hx hb dL_law_28 ?_
  refine lv_icmp_gt (tgt := 1330) hx hb dL_law_29 (by decide) (fun c1 => ?_) (fun c1 => ?_)
  · refine lv_iconst (v := 1) hx hb dL_law_1330 (by decide) ?_
    refine va_forget (fun q hq => hS.2.2 q hq) ?_
    refine W.widen (k := 1091) (n := 10196) (by omega) (by omega) ?_
    exact lw_ret hx hb hr hlocks dL_law_1331
  · have hk : 5 * k + 5 ≤ L := by
      rcases Nat.lt_or_ge L (5 * k + 5) with q | q
      · refine absurd ?_ c1
        have e1 : (nI L - nI 5).toInt = (L : Int) - ((5 : Nat) : Int) := pk_sub_toInt (by omega) (by omega)
        have e2 : (nI (5 * k)).toInt = ((5 * k : Nat) : Int) := nI_toInt (by omega)
        show nI L - nI 5 < nI (5 * k)
        rw [Int32.lt_iff_toInt_lt, e1, e2]
        omega
      · exact q
    have I := ih hk
    refine lv_aload_n hx hb dL_law_32 rfl (lv_at hl 0 rfl) ?_
    refine lv_iload hx hb dL_law_33 (lv_at hl 4 rfl) ?_
    refine gz_sld hx hb hX hbl hbA hS (j := 5 * k) (by omega) (by omega) dL_law_35 ?_
    refine lv_bipush (v := nI 31) hx hb dL_law_36 (by decide +kernel) ?_
    refine lv_iand hx hb dL_law_38 ?_
    obtain ⟨j, hj, e9⟩ := pk_andE (xs (5 * k)) (m := nI 31) 5 (by decide +kernel)
    refine gz_top e9 ?_
    by_cases e_0 : j = 0
    · subst e_0
      refine lv_tableIn (off := 105) (tgt := 144) hx hb dL_law_39 (by decide +kernel) (by decide +kernel) (by decide +kernel) (by decide) ?_
      exact law_open FF I hk R hP hD hS hl
    by_cases e_1 : j = 1
    · subst e_1
      refine lv_tableIn (off := 197) (tgt := 236) hx hb dL_law_39 (by decide +kernel) (by decide +kernel) (by decide +kernel) (by decide) ?_
      exact law_cancel FF I hk R hP hD hS hl
    by_cases e_2 : j = 2
    · subst e_2
      refine lv_tableIn (off := 253) (tgt := 292) hx hb dL_law_39 (by decide +kernel) (by decide +kernel) (by decide +kernel) (by decide) ?_
      exact law_grant FF I hk R hP hD hS hl
    by_cases e_3 : j = 3
    · subst e_3
      refine lv_tableIn (off := 301) (tgt := 340) hx hb dL_law_39 (by decide +kernel) (by decide +kernel) (by decide +kernel) (by decide) ?_
      exact law_calls FF I hk R hP hD hS hl
    by_cases e_4 : j = 4
    · subst e_4
      refine lv_tableIn (off := 314) (tgt := 353) hx hb dL_law_39 (by decide +kernel) (by decide +kernel) (by decide +kernel) (by decide) ?_
      exact law_outcome FF I hk R hP hD hS hl
    by_cases e_5 : j = 5
    · subst e_5
      refine lv_tableIn (off := 370) (tgt := 409) hx hb dL_law_39 (by decide +kernel) (by decide +kernel) (by decide +kernel) (by decide) ?_
      exact law_value FF I hk R hP hD hS hl
    by_cases e_6 : j = 6
    · subst e_6
      refine lv_tableIn (off := 426) (tgt := 465) hx hb dL_law_39 (by decide +kernel) (by decide +kernel) (by decide +kernel) (by decide) ?_
      exact law_deadline FF I hk R hP hD hS hl
    by_cases e_7 : j = 7
    · subst e_7
      refine lv_tableIn (off := 482) (tgt := 521) hx hb dL_law_39 (by decide +kernel) (by decide +kernel) (by decide +kernel) (by decide) ?_
      exact law_attempts FF I hk R hP hD hS hl
    by_cases e_8 : j = 8
    · subst e_8
      refine lv_tableIn (off := 538) (tgt := 577) hx hb dL_law_39 (by decide +kernel) (by decide +kernel) (by decide +kernel) (by decide) ?_
      exact law_received FF I hk R hP hD hS hl
    by_cases e_9 : j = 9
    · subst e_9
      refine lv_tableIn (off := 594) (tgt := 633) hx hb dL_law_39 (by decide +kernel) (by decide +kernel) (by decide +kernel) (by decide) ?_
      exact law_sum FF I hk R hP hD hS hl
    by_cases e_10 : j = 10
    · subst e_10
      refine lv_tableIn (off := 650) (tgt := 689) hx hb dL_law_39 (by decide +kernel) (by decide +kernel) (by decide +kernel) (by decide) ?_
      exact law_tokens FF I hk R hP hD hS hl
    by_cases e_11 : j = 11
    · subst e_11
      refine lv_tableIn (off := 663) (tgt := 702) hx hb dL_law_39 (by decide +kernel) (by decide +kernel) (by decide +kernel) (by decide) ?_
      exact law_work FF I hk R hP hD hS hl
    by_cases e_12 : j = 12
    · subst e_12
      refine lv_tableIn (off := 719) (tgt := 758) hx hb dL_law_39 (by decide +kernel) (by decide +kernel) (by decide +kernel) (by decide) ?_
      exact law_task FF I hk R hP hD hS hl
    by_cases e_13 : j = 13
    · subst e_13
      refine lv_tableIn (off := 775) (tgt := 814) hx hb dL_law_39 (by decide +kernel) (by decide +kernel) (by decide +kernel) (by decide) ?_
      exact law_credits FF I hk R hP hD hS hl
    by_cases e_14 : j = 14
    · subst e_14
      refine lv_tableIn (off := 831) (tgt := 870) hx hb dL_law_39 (by decide +kernel) (by decide +kernel) (by decide +kernel) (by decide) ?_
      exact law_total FF I hk R hP hD hS hl
    by_cases e_15 : j = 15
    · subst e_15
      refine lv_tableIn (off := 844) (tgt := 883) hx hb dL_law_39 (by decide +kernel) (by decide +kernel) (by decide +kernel) (by decide) ?_
      exact law_local FF I hk R hP hD hS hl
    by_cases e_16 : j = 16
    · subst e_16
      refine lv_tableIn (off := 912) (tgt := 951) hx hb dL_law_39 (by decide +kernel) (by decide +kernel) (by decide +kernel) (by decide) ?_
      exact law_deliver FF I hk R hP hD hS hl
    by_cases e_17 : j = 17
    · subst e_17
      refine lv_tableIn (off := 968) (tgt := 1007) hx hb dL_law_39 (by decide +kernel) (by decide +kernel) (by decide +kernel) (by decide) ?_
      exact law_lose FF I hk R hP hD hS hl
    by_cases e_18 : j = 18
    · subst e_18
      refine lv_tableIn (off := 1024) (tgt := 1063) hx hb dL_law_39 (by decide +kernel) (by decide +kernel) (by decide +kernel) (by decide) ?_
      exact law_frames FF I hk R hP hD hS hl
    by_cases e_19 : j = 19
    · subst e_19
      refine lv_tableIn (off := 1080) (tgt := 1119) hx hb dL_law_39 (by decide +kernel) (by decide +kernel) (by decide +kernel) (by decide) ?_
      exact law_frame FF I hk R hP hD hS hl
    by_cases e_20 : j = 20
    · subst e_20
      refine lv_tableIn (off := 1148) (tgt := 1187) hx hb dL_law_39 (by decide +kernel) (by decide +kernel) (by decide +kernel) (by decide) ?_
      exact law_frameValue FF I hk R hP hD hS hl
    by_cases e_21 : j = 21
    · subst e_21
      refine lv_tableIn (off := 1216) (tgt := 1255) hx hb dL_law_39 (by decide +kernel) (by decide +kernel) (by decide +kernel) (by decide) ?_
      exact law_pass FF I hk R hP hD hS hl
    by_cases e_22 : j = 22
    · subst e_22
      refine lv_tableIn (off := 1272) (tgt := 1311) hx hb dL_law_39 (by decide +kernel) (by decide +kernel) (by decide +kernel) (by decide) ?_
      exact law_now FF I hk R hP hD hS hl
    refine lv_tableOut (tgt := 1324) hx hb dL_law_39 (Or.inr (by rw [nI_toInt (by omega)]; omega)) (by decide) ?_
    refine W.widen (k := 51 + (k + 1)) (n := 1908 + 6 * (k + 1)) (by omega) (by omega) ?_
    exact law_next FF I R.up hP hD hS hl
theorem law_loop {p : Program} {l : Launch} {e : Env} {s : State} {m : MethodId} {below : List Frame} {meth : Method} {c : Code} {b L : Nat} {xs : Nat → Int32} {G : va_G} {cI cL : ClassId} {ga ba d0 d1 ca sa ma : Nat → Nat} {o : Nat} (F : LFix p l s m meth c b L xs G cI cL) : ∀ d k : Nat, 5 * k ≤ L → L + 5 ≤ 5 * (k + d) → LGo p l e s m below meth c b G cI cL ga ba d0 d1 ca sa ma o k := by
  intro d
  induction d with
  | zero => intro k h1 h2; exact absurd h2 (by omega)
  | succ d ihd => intro k h1 h2; exact law_step F h1 (fun h3 => ihd (k + 1) (by omega) (by omega))
