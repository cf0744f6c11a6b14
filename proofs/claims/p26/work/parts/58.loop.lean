set_option maxHeartbeats 4000000 in
set_option maxRecDepth 100000 in
theorem law_end {p : Program} {l : Launch} {e : Env} {s : State} {m : MethodId} {below : List Frame} {meth : Method} {c : Code} {b L : Nat} {xs : Nat → Int32} {G : va_G} {cI : ClassId} {A : Nat → Prop} {ga ba d0 d1 ca sa : Nat → Nat} {mA aA pA eA : Nat} (F : LFix p l s m meth c b L xs G cI A) : LGo p l e s m below meth c b G cI A ga ba d0 d1 ca sa mA aA pA eA 33 130 130 := by
  intro ti me ar dl n ki ow mr va fi sz kiB owB mrB vaB fiB szB pa oc cv rq la rc su bu ss cr se re sv ad lm lr lp le H locs ls hR hP hD hS hl
  obtain ⟨⟨hx, hb, hr, hml, hown, hts⟩, ⟨hX, hbl, hlocks⟩, ⟨hK, hN⟩, hA, hbA, hL, hAq⟩ := F
  refine lv_iload hx hb dL_law_33 (lv_at hl 6 rfl) ?_
  refine lv_sipush (v := nI 130) hx hb dL_law_35 (by decide +kernel) ?_
  refine lv_icmp_ge (tgt := 606) hx hb dL_law_38 (by decide) (fun c1 => ?_) (fun c1 => ?_)
  · refine lv_iconst (v := 1) hx hb dL_law_606 (by decide) ?_
    refine va_forget (fun q hq => hAq _ (hS.2.2 q hq)) ?_
    refine W.widen (k := 152) (n := 2042) (by omega) (by omega) ?_
    exact lw_ret hx hb hr hlocks dL_law_607
  · exact absurd (Int32.le_refl _) c1
set_option maxHeartbeats 4000000 in
set_option maxRecDepth 100000 in
theorem law_step {p : Program} {l : Launch} {e : Env} {s : State} {m : MethodId} {below : List Frame} {meth : Method} {c : Code} {b L : Nat} {xs : Nat → Int32} {G : va_G} {cI : ClassId} {A : Nat → Prop} {ga ba d0 d1 ca sa : Nat → Nat} {mA aA pA eA T : Nat} (F : LFix p l s m meth c b L xs G cI A) (hT : T < 130) (ih : LGo p l e s m below meth c b G cI A ga ba d0 d1 ca sa mA aA pA eA 33 (T + 1) (T + 1)) : LGo p l e s m below meth c b G cI A ga ba d0 d1 ca sa mA aA pA eA 33 T T := by
  have K6 : LGo p l e s m below meth c b G cI A ga ba d0 d1 ca sa mA aA pA eA 600 T (T + 1) := by
    intro ti me ar dl n ki ow mr va fi sz kiB owB mrB vaB fiB szB pa oc cv rq la rc su bu ss cr se re sv ad lm lr lp le H locs ls hR hP hD hS hl
    obtain ⟨⟨hx, hb, hr, hml, hown, hts⟩, -⟩ := F
    refine lv_iinc (v := nI (T + 1)) (lv' := [(6, .int (nI (T + 1))), (0, .ref b), (1, .ref (ga 0)), (2, .ref mA), (3, .ref aA), (4, .ref pA), (5, .ref eA)]) hx hb dL_law_600 hl (k := 6) rfl (nI_1 _) (by decide) rfl (fun ls hl => ?_)
    refine lv_goto (tgt := 33) hx hb dL_law_603 (by decide) ?_
    exact ih ti me ar dl n ki ow mr va fi sz kiB owB mrB vaB fiB szB pa oc cv rq la rc su bu ss cr se re sv ad lm lr lp le H locs ls hR hP hD hS (lv_sub hl [1, 2, 3, 4, 5, 6, 0] rfl)
  have K5 : LGo p l e s m below meth c b G cI A ga ba d0 d1 ca sa mA aA pA eA 535 T (T + 1) := by
    intro ti me ar dl n ki ow mr va fi sz kiB owB mrB vaB fiB szB pa oc cv rq la rc su bu ss cr se re sv ad lm lr lp le H locs ls hR hP hD hS hl
    exact law_check K6 F hT hR hP hD hS hl
  intro ti me ar dl n ki ow mr va fi sz kiB owB mrB vaB fiB szB pa oc cv rq la rc su bu ss cr se re sv ad lm lr lp le H locs ls hR hP hD hS hl
  exact law_turn F K5 hT hR hP hD hS hl
theorem law_loop {p : Program} {l : Launch} {e : Env} {s : State} {m : MethodId} {below : List Frame} {meth : Method} {c : Code} {b L : Nat} {xs : Nat → Int32} {G : va_G} {cI : ClassId} {A : Nat → Prop} {ga ba d0 d1 ca sa : Nat → Nat} {mA aA pA eA : Nat} (F : LFix p l s m meth c b L xs G cI A) : ∀ d T : Nat, T + d = 130 → LGo p l e s m below meth c b G cI A ga ba d0 d1 ca sa mA aA pA eA 33 T T := by
  intro d
  induction d with
  | zero =>
    intro T h
    have e1 : T = 130 := by omega
    subst e1
    exact law_end F
  | succ d ihd => intro T h; exact law_step F (by omega) (ihd (T + 1) (by omega))
