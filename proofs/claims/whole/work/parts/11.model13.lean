section
variable {kn : (Nat → Int32)} {ne : (Nat → Int32)} {fi : (Nat → Int32)} {se : (Nat → Int32)} {ma : Int32} {on : (Nat → Int32)} {ot : (Nat → Int32)} {ta : (Nat → Int64)} {po : (Nat → Int64)} {ti : (Nat → Int64)} {nu : (Nat → Int64)} {mo : (Nat → Int64)} {wa : (Nat → Int64)} {nx : (Nat → Int64)} {oT : (Nat → Int32)} {cF : (Nat → Int32)} {bg : Int32} {ed : Int32} {sF : (Nat → Int32)} {qu : (Nat → Int32)} {qd : Int32} {tr : (Nat → Int32)}
noncomputable def b_X6_oddOnes_5 (ma : Int32) (on : (Nat → Int32)) (ot : (Nat → Int32)) (y1 : Int64) (x : Int32 × Int32) : Option ((Int32 × Int32) ⊕ (Int32)) := if ma ≤ x.2 then (some (Sum.inr x.1)) else (if (lg_cmp ((y1 >>> (x.2.toInt64 &&& 63)) &&& (1 : Int64)) (1 : Int64)) = 0 then (chk x.2 45 (chk x.2 45 (lt' (x.1 ^^^ (((1 : Int32) <<< ((on x.2.toNatClampNeg) &&& 31)) ^^^ ((1 : Int32) <<< ((ot x.2.toNatClampNeg) &&& 31)))) (fun z5 => some (Sum.inl (z5, x.2 + (1 : Int32))))))) else (some (Sum.inl (x.1 ^^^ (0 : Int32), x.2 + (1 : Int32)))))
noncomputable def s_X6_oddOnes (ma : Int32) (on : (Nat → Int32)) (ot : (Nat → Int32)) (a1 : Int64) : Option (Int32) := (loop (b_X6_oddOnes_5 ma on ot a1) ((0 : Int32), (0 : Int32))).bind (fun e6 => some e6)
set_option maxRecDepth 20000 in
theorem g_X6_oddOnes_5 {d : Nat} {Q : Option AV → List AC → Prop} {y1 : Int64} (x0_ : Int32) (x1_ : Int32) (r : Int32) (hl : loop (b_X6_oddOnes_5 ma on ot y1) (x0_, x1_) = some r) (hk : Go mX6_oddOnes (d + 0) false 0 0 57 [none, none, none, some (vI r), none] [] (wM kn ne fi se ma on ot ta po ti nu mo wa nx oT cF bg ed sF qu qd tr) Q) : Go mX6_oddOnes (d + 0) false 0 0 5 [some (vR 0), some (vL y1), none, some (vI x0_), some (vI x1_)] [] (wM kn ne fi se ma on ot ta po ti nu mo wa nx oT cF bg ed sF qu qd tr) Q := by
  refine loop_go (P := fun x : Int32 × Int32 => ∀ (x0_ : Int32) (x1_ : Int32), x = (x0_, x1_) → Go mX6_oddOnes (d + 0) false 0 0 5 [some (vR 0), some (vL y1), none, some (vI x0_), some (vI x1_)] [] (wM kn ne fi se ma on ot ta po ti nu mo wa nx oT cF bg ed sF qu qd tr) Q) (K := fun r : Int32 => Go mX6_oddOnes (d + 0) false 0 0 57 [none, none, none, some (vI r), none] [] (wM kn ne fi se ma on ot ta po ti nu mo wa nx oT cF bg ed sF qu qd tr) Q) ?_ (x0_, x1_) r hl hk x0_ x1_ rfl
  · intro x y hs hI hE x0_ x1_ hx
    subst hx
    unfold b_X6_oddOnes_5 at hs
    try dsimp only at hs
    refine go_iload (pc := 5) dX6_oddOnes_5 rfl ?_
    refine go_aload_n (pc := 7) 0 dX6_oddOnes_7 rfl rfl ?_
    refine go_getfield (pc := 8) (v := vI ma) 0 6 4 dX6_oddOnes_8 flX6_105 rfl rfl ?_
    refine go_icmp_ge (pc := 11) 57 dX6_oddOnes_11 (by decide) (fun h1 => ?_) (fun h1 => ?_)
    · have hs := it_t h1 hs
      obtain rfl := Option.some.inj hs
      refine go_sub (lv' := [none, none, none, some (vI x0_), none]) ⟨rfl, trivial⟩ ?_
      exact hE x0_ rfl
    · have hs := it_f h1 hs
      refine go_iload_n (pc := 14) 3 dX6_oddOnes_14 rfl rfl ?_
      refine go_lload_n (pc := 15) 1 dX6_oddOnes_15 rfl rfl ?_
      refine go_iload (pc := 16) dX6_oddOnes_16 rfl ?_
      refine go_lshr (pc := 18) dX6_oddOnes_18 ?_
      refine go_lconst (pc := 19) (1 : Int64) dX6_oddOnes_19 (by decide) ?_
      refine go_land (pc := 20) dX6_oddOnes_20 ?_
      refine go_lconst (pc := 21) (1 : Int64) dX6_oddOnes_21 (by decide) ?_
      refine go_lcmp (pc := 22) dX6_oddOnes_22 ?_
      refine go_if_ne (pc := 23) 48 dX6_oddOnes_23 (by decide) (fun h2 => ?_) (fun h2 => ?_)
      · have hs := it_f h2 hs
        refine go_iconst (pc := 48) (0 : Int32) dX6_oddOnes_48 (by decide) ?_
        refine go_ixor (pc := 49) dX6_oddOnes_49 ?_
        refine go_istore_n (pc := 50) 3 [some (vR 0), some (vL y1), none, some (vI (x0_ ^^^ (0 : Int32))), some (vI x1_)] dX6_oddOnes_50 rfl (by decide) rfl ?_
        refine go_iinc (pc := 51) (x1_ + (1 : Int32)) [some (vR 0), some (vL y1), none, some (vI (x0_ ^^^ (0 : Int32))), some (vI (x1_ + (1 : Int32)))] dX6_oddOnes_51 rfl (iinc_1 _) (by decide) rfl ?_
        refine go_goto (pc := 54) 5 dX6_oddOnes_54 (by decide) ?_
        obtain rfl := Option.some.inj hs
        exact hI (x0_ ^^^ (0 : Int32), x1_ + (1 : Int32)) rfl (x0_ ^^^ (0 : Int32)) (x1_ + (1 : Int32)) rfl
      · have hs := it_t h2 hs
        refine go_iconst (pc := 26) (1 : Int32) dX6_oddOnes_26 (by decide) ?_
        refine go_aload_n (pc := 27) 0 dX6_oddOnes_27 rfl rfl ?_
        refine go_getfield (pc := 28) (v := vR 5) 0 6 5 dX6_oddOnes_28 flX6_22 rfl rfl ?_
        refine go_iload (pc := 31) dX6_oddOnes_31 rfl ?_
        obtain ⟨hi3, hs⟩ := chk_t hs
        refine go_iaload (pc := 33) 5 dX6_oddOnes_33 rfl hi3 ?_
        refine go_ishl (pc := 34) dX6_oddOnes_34 ?_
        refine go_iconst (pc := 35) (1 : Int32) dX6_oddOnes_35 (by decide) ?_
        refine go_aload_n (pc := 36) 0 dX6_oddOnes_36 rfl rfl ?_
        refine go_getfield (pc := 37) (v := vR 6) 0 6 6 dX6_oddOnes_37 flX6_25 rfl rfl ?_
        refine go_iload (pc := 40) dX6_oddOnes_40 rfl ?_
        obtain ⟨hi4, hs⟩ := chk_t hs
        refine go_iaload (pc := 42) 6 dX6_oddOnes_42 rfl hi4 ?_
        refine go_ishl (pc := 43) dX6_oddOnes_43 ?_
        refine go_ixor (pc := 44) dX6_oddOnes_44 ?_
        refine go_goto (pc := 45) 49 dX6_oddOnes_45 (by decide) ?_
        refine go_ixor (pc := 49) dX6_oddOnes_49 ?_
        refine go_topi (fun z5 ez5 => ?_)
        have hs := lt_t ez5 hs
        refine go_istore_n (pc := 50) 3 [some (vR 0), some (vL y1), none, some (vI z5), some (vI x1_)] dX6_oddOnes_50 rfl (by decide) rfl ?_
        refine go_iinc (pc := 51) (x1_ + (1 : Int32)) [some (vR 0), some (vL y1), none, some (vI z5), some (vI (x1_ + (1 : Int32)))] dX6_oddOnes_51 rfl (iinc_1 _) (by decide) rfl ?_
        refine go_goto (pc := 54) 5 dX6_oddOnes_54 (by decide) ?_
        obtain rfl := Option.some.inj hs
        exact hI (z5, x1_ + (1 : Int32)) rfl z5 (x1_ + (1 : Int32)) rfl
set_option maxRecDepth 20000 in
theorem c_X6_oddOnes {d : Nat}  {a1 : Int64} {res0 : Int32} (hs : s_X6_oddOnes ma on ot a1 = some res0) : Calls mX6_oddOnes (d + 0) false 0 0 [vR 0, vL a1] (wM kn ne fi se ma on ot ta po ti nu mo wa nx oT cF bg ed sF qu qd tr) (fun r w' => r = some (vI res0) ∧ w' = (wM kn ne fi se ma on ot ta po ti nu mo wa nx oT cF bg ed sF qu qd tr)) := by
  unfold s_X6_oddOnes at hs
  refine Calls.of kX6_oddOnes 2 [some (vR 0), some (vL a1), none, none, none] rfl (Nat.le_of_ble_eq_true rfl) ?_
  refine go_iconst (pc := 0) (0 : Int32) dX6_oddOnes_0 (by decide) ?_
  refine go_istore_n (pc := 1) 3 [some (vR 0), some (vL a1), none, some (vI (0 : Int32)), none] dX6_oddOnes_1 rfl (by decide) rfl ?_
  refine go_iconst (pc := 2) (0 : Int32) dX6_oddOnes_2 (by decide) ?_
  refine go_istore (pc := 3) [some (vR 0), some (vL a1), none, some (vI (0 : Int32)), some (vI (0 : Int32))] dX6_oddOnes_3 (by decide) rfl ?_
  obtain ⟨e6, hl7, hs⟩ := bnd hs
  refine g_X6_oddOnes_5 (d := d) (0 : Int32) (0 : Int32) e6 hl7 ?_
  refine go_iload_n (pc := 57) 3 dX6_oddOnes_57 rfl rfl ?_
  cases hs
  exact go_ireturn (st := []) (pc := 58) dX6_oddOnes_58 rfl (vp_nar_int _) (fun h => by cases h) ⟨rfl, rfl⟩
noncomputable def s_X6_isWord (kn : (Nat → Int32)) (ne : (Nat → Int32)) (ma : Int32) (on : (Nat → Int32)) (ot : (Nat → Int32)) (a1 : Int32) (a2 : Int64) : Option (Int32 × Int32 × (Nat → Int32) × (Nat → Int32)) := (s_X6_isNet a1).bind (fun x1 => if x1 = 0 then (some ((0 : Int32), ma, on, ot)) else ((s_X6_layLines kn ne ma on ot a1).bind (fun x4 => if (lg_cmp a2 (0 : Int64)) < 0 then (some ((0 : Int32), x4.1, x4.2.1, x4.2.2)) else (if (lg_cmp (a2 >>> (x4.1.toInt64 &&& 63)) (0 : Int64)) = 0 then (some ((1 : Int32), x4.1, x4.2.1, x4.2.2)) else (some ((0 : Int32), x4.1, x4.2.1, x4.2.2))))))
set_option maxRecDepth 20000 in
theorem c_X6_isWord {d : Nat}  {a1 : Int32} {a2 : Int64} {res0 : Int32} {res1 : Int32} {res2 : (Nat → Int32)} {res3 : (Nat → Int32)} (hs : s_X6_isWord kn ne ma on ot a1 a2 = some (res0, res1, res2, res3)) : Calls mX6_isWord (d + 2) false 0 0 [vR 0, vI a1, vL a2] (wM kn ne fi se ma on ot ta po ti nu mo wa nx oT cF bg ed sF qu qd tr) (fun r w' => r = some (vI res0) ∧ w' = (wM kn ne fi se res1 res2 res3 ta po ti nu mo wa nx oT cF bg ed sF qu qd tr)) := by
  unfold s_X6_isWord at hs
  refine Calls.of kX6_isWord 0 [some (vR 0), some (vI a1), some (vL a2), none] rfl (Nat.le_of_ble_eq_true rfl) ?_
  refine go_iload_n (pc := 0) 1 dX6_isWord_0 rfl rfl ?_
  obtain ⟨x1, hc2, hs⟩ := bnd hs
  refine go_callS (bc := 0) (bs := 0) (mc := 0) (ms := 0) (d := d + 1) (pc := 1) [vI a1] [] dX6_isWord_1 kX6_isNet mlX6_69 isX6_isNet rfl (Nat.le_of_ble_eq_true rfl) rfl (c_X6_isNet (d := d + 0) (res0 := x1) hc2) (fun r w' hq => ?_)
  obtain ⟨rfl, rfl⟩ := hq
  show Go mX6_isWord (d + 2) false 0 0 4 [some (vR 0), some (vI a1), some (vL a2), none] [vI x1] (wM kn ne fi se ma on ot ta po ti nu mo wa nx oT cF bg ed sF qu qd tr) _
  refine go_if_ne (pc := 4) 9 dX6_isWord_4 (by decide) (fun h3 => ?_) (fun h3 => ?_)
  · have hs := it_f h3 hs
    refine go_aload_n (pc := 9) 0 dX6_isWord_9 rfl rfl ?_
    refine go_iload_n (pc := 10) 1 dX6_isWord_10 rfl rfl ?_
    obtain ⟨x4, hc5, hs⟩ := bnd hs
    refine go_callV (bc := 0) (bs := 0) (mc := 0) (ms := 0) (d := d + 1) (pc := 11) (a := 0) (ci := 6) [vI a1] [] dX6_isWord_11 kX6_layLines mlX6_109 ivX6_layLines rfl rfl rfl rfl (Nat.le_of_ble_eq_true rfl) rfl (c_X6_layLines (d := d + 0) (res0 := x4.1) (res1 := x4.2.1) (res2 := x4.2.2) hc5) (fun r w' hq => ?_)
    obtain ⟨rfl, rfl⟩ := hq
    show Go mX6_isWord (d + 2) false 0 0 14 [some (vR 0), some (vI a1), some (vL a2), none] [] (wM kn ne fi se x4.1 x4.2.1 x4.2.2 ta po ti nu mo wa nx oT cF bg ed sF qu qd tr) _
    refine go_lload_n (pc := 14) 2 dX6_isWord_14 rfl rfl ?_
    refine go_lconst (pc := 15) (0 : Int64) dX6_isWord_15 (by decide) ?_
    refine go_lcmp (pc := 16) dX6_isWord_16 ?_
    refine go_if_lt (pc := 17) 35 dX6_isWord_17 (by decide) (fun h6 => ?_) (fun h6 => ?_)
    · have hs := it_t h6 hs
      refine go_iconst (pc := 35) (0 : Int32) dX6_isWord_35 (by decide) ?_
      cases hs
      exact go_ireturn (st := []) (pc := 36) dX6_isWord_36 rfl rfl (fun h => by cases h) ⟨rfl, rfl⟩
    · have hs := it_f h6 hs
      refine go_lload_n (pc := 20) 2 dX6_isWord_20 rfl rfl ?_
      refine go_aload_n (pc := 21) 0 dX6_isWord_21 rfl rfl ?_
      refine go_getfield (pc := 22) (v := vI x4.1) 0 6 4 dX6_isWord_22 flX6_105 rfl rfl ?_
      refine go_lshr (pc := 25) dX6_isWord_25 ?_
      refine go_lconst (pc := 26) (0 : Int64) dX6_isWord_26 (by decide) ?_
      refine go_lcmp (pc := 27) dX6_isWord_27 ?_
      refine go_if_ne (pc := 28) 35 dX6_isWord_28 (by decide) (fun h7 => ?_) (fun h7 => ?_)
      · have hs := it_f h7 hs
        refine go_iconst (pc := 35) (0 : Int32) dX6_isWord_35 (by decide) ?_
        cases hs
        exact go_ireturn (st := []) (pc := 36) dX6_isWord_36 rfl rfl (fun h => by cases h) ⟨rfl, rfl⟩
      · have hs := it_t h7 hs
        refine go_iconst (pc := 31) (1 : Int32) dX6_isWord_31 (by decide) ?_
        refine go_goto (pc := 32) 36 dX6_isWord_32 (by decide) ?_
        cases hs
        exact go_ireturn (st := []) (pc := 36) dX6_isWord_36 rfl rfl (fun h => by cases h) ⟨rfl, rfl⟩
  · have hs := it_t h3 hs
    refine go_iconst (pc := 7) (0 : Int32) dX6_isWord_7 (by decide) ?_
    cases hs
    exact go_ireturn (st := []) (pc := 8) dX6_isWord_8 rfl rfl (fun h => by cases h) ⟨rfl, rfl⟩
noncomputable def s_X6_odd (kn : (Nat → Int32)) (ne : (Nat → Int32)) (ma : Int32) (on : (Nat → Int32)) (ot : (Nat → Int32)) (a1 : Int32) (a2 : Int64) : Option (Int32 × Int32 × (Nat → Int32) × (Nat → Int32)) := (s_X6_isWord kn ne ma on ot a1 a2).bind (fun x1 => if x1.1 = 0 then (some ((-2 : Int32), x1.2.1, x1.2.2.1, x1.2.2.2)) else ((s_X6_oddOnes x1.2.1 x1.2.2.1 x1.2.2.2 a2).bind (fun x4 => (s_X6_bits x4).bind (fun x6 => some (x6, x1.2.1, x1.2.2.1, x1.2.2.2)))))
set_option maxRecDepth 20000 in
theorem c_X6_odd {d : Nat}  {a1 : Int32} {a2 : Int64} {res0 : Int32} {res1 : Int32} {res2 : (Nat → Int32)} {res3 : (Nat → Int32)} (hs : s_X6_odd kn ne ma on ot a1 a2 = some (res0, res1, res2, res3)) : Calls mX6_odd (d + 3) false 0 0 [vR 0, vI a1, vL a2] (wM kn ne fi se ma on ot ta po ti nu mo wa nx oT cF bg ed sF qu qd tr) (fun r w' => r = some (vI res0) ∧ w' = (wM kn ne fi se res1 res2 res3 ta po ti nu mo wa nx oT cF bg ed sF qu qd tr)) := by
  unfold s_X6_odd at hs
  refine Calls.of kX6_odd 0 [some (vR 0), some (vI a1), some (vL a2), none] rfl (Nat.le_of_ble_eq_true rfl) ?_
  refine go_aload_n (pc := 0) 0 dX6_odd_0 rfl rfl ?_
  refine go_iload_n (pc := 1) 1 dX6_odd_1 rfl rfl ?_
  refine go_lload_n (pc := 2) 2 dX6_odd_2 rfl rfl ?_
  obtain ⟨x1, hc2, hs⟩ := bnd hs
  refine go_callV (bc := 0) (bs := 0) (mc := 0) (ms := 0) (d := d + 2) (pc := 3) (a := 0) (ci := 6) [vI a1, vL a2] [] dX6_odd_3 kX6_isWord mlX6_177 ivX6_isWord rfl rfl rfl rfl (Nat.le_of_ble_eq_true rfl) rfl (c_X6_isWord (d := d + 0) (res0 := x1.1) (res1 := x1.2.1) (res2 := x1.2.2.1) (res3 := x1.2.2.2) hc2) (fun r w' hq => ?_)
  obtain ⟨rfl, rfl⟩ := hq
  show Go mX6_odd (d + 3) false 0 0 6 [some (vR 0), some (vI a1), some (vL a2), none] [vI x1.1] (wM kn ne fi se x1.2.1 x1.2.2.1 x1.2.2.2 ta po ti nu mo wa nx oT cF bg ed sF qu qd tr) _
  refine go_if_eq (pc := 6) 20 dX6_odd_6 (by decide) (fun h3 => ?_) (fun h3 => ?_)
  · have hs := it_t h3 hs
    refine go_bipush (pc := 20) (-2 : Int32) dX6_odd_20 (by decide) ?_
    cases hs
    exact go_ireturn (st := []) (pc := 22) dX6_odd_22 rfl (vp_nar_int _) (fun h => by cases h) ⟨rfl, rfl⟩
  · have hs := it_f h3 hs
    refine go_aload_n (pc := 9) 0 dX6_odd_9 rfl rfl ?_
    refine go_lload_n (pc := 10) 2 dX6_odd_10 rfl rfl ?_
    obtain ⟨x4, hc5, hs⟩ := bnd hs
    refine go_callV (bc := 0) (bs := 0) (mc := 0) (ms := 0) (d := d + 2) (pc := 11) (a := 0) (ci := 6) [vL a2] [] dX6_odd_11 kX6_oddOnes mlX6_181 ivX6_oddOnes rfl rfl rfl rfl (Nat.le_of_ble_eq_true rfl) rfl (c_X6_oddOnes (d := d + 2) (res0 := x4) hc5) (fun r w' hq => ?_)
    obtain ⟨rfl, rfl⟩ := hq
    show Go mX6_odd (d + 3) false 0 0 14 [some (vR 0), some (vI a1), some (vL a2), none] [vI x4] (wM kn ne fi se x1.2.1 x1.2.2.1 x1.2.2.2 ta po ti nu mo wa nx oT cF bg ed sF qu qd tr) _
    obtain ⟨x6, hc7, hs⟩ := bnd hs
    refine go_callS (bc := 0) (bs := 0) (mc := 0) (ms := 0) (d := d + 2) (pc := 14) [vI x4] [] dX6_odd_14 kX6_bits mlX6_73 isX6_bits rfl (Nat.le_of_ble_eq_true rfl) rfl (c_X6_bits (d := d + 2) (res0 := x6) hc7) (fun r w' hq => ?_)
    obtain ⟨rfl, rfl⟩ := hq
    show Go mX6_odd (d + 3) false 0 0 17 [some (vR 0), some (vI a1), some (vL a2), none] [vI x6] (wM kn ne fi se x1.2.1 x1.2.2.1 x1.2.2.2 ta po ti nu mo wa nx oT cF bg ed sF qu qd tr) _
    refine go_goto (pc := 17) 22 dX6_odd_17 (by decide) ?_
    cases hs
    exact go_ireturn (st := []) (pc := 22) dX6_odd_22 rfl (vp_nar_int _) (fun h => by cases h) ⟨rfl, rfl⟩
noncomputable def b_X6_flipped_38 (ma : Int32) (on : (Nat → Int32)) (ot : (Nat → Int32)) (y7 : Int32) (x : Int64 × Int32 × Int32) : Option ((Int64 × Int32 × Int32) ⊕ (Int64 × Int32)) := if ma ≤ x.2.2 then (some (Sum.inr (x.1, x.2.1))) else (if x.2.1 = 0 then (chk x.2.2 45 (if ((y7 >>> ((on x.2.2.toNatClampNeg) &&& 31)) &&& (1 : Int32)) = (1 : Int32) then (chk x.2.2 45 (if ((y7 >>> ((ot x.2.2.toNatClampNeg) &&& 31)) &&& (1 : Int32)) = (1 : Int32) then (some (Sum.inl (x.1 ^^^ ((1 : Int64) <<< (x.2.2.toInt64 &&& 63)), (1 : Int32), x.2.2 + (1 : Int32)))) else (some (Sum.inl (x.1, x.2.1, x.2.2 + (1 : Int32)))))) else (some (Sum.inl (x.1, x.2.1, x.2.2 + (1 : Int32)))))) else (some (Sum.inr (x.1, x.2.1))))
noncomputable def b_X6_flipped_19 (ma : Int32) (on : (Nat → Int32)) (ot : (Nat → Int32)) (x : Int64 × Int32) : Option ((Int64 × Int32) ⊕ (Int64)) := if x.2 = 0 then (some (Sum.inr x.1)) else ((s_X6_oddOnes ma on ot x.1).bind (fun x5 => (loop (b_X6_flipped_38 ma on ot x5) (x.1, (0 : Int32), (0 : Int32))).bind (fun e13 => some (Sum.inl (e13.1, e13.2)))))
noncomputable def s_X6_flipped (kn : (Nat → Int32)) (ne : (Nat → Int32)) (ma : Int32) (on : (Nat → Int32)) (ot : (Nat → Int32)) (a1 : Int32) (a2 : Int64) : Option (Int64 × Int32 × (Nat → Int32) × (Nat → Int32)) := (s_X6_isWord kn ne ma on ot a1 a2).bind (fun x1 => if x1.1 = 0 then (some ((-2 : Int64), x1.2.1, x1.2.2.1, x1.2.2.2)) else ((loop (b_X6_flipped_19 x1.2.1 x1.2.2.1 x1.2.2.2) (a2, (1 : Int32))).bind (fun e18 => some (e18, x1.2.1, x1.2.2.1, x1.2.2.2))))
set_option maxRecDepth 20000 in
theorem g_X6_flipped_38 {d : Nat} {Q : Option AV → List AC → Prop} {y7 : Int32} (x0_ : Int64) (x1_ : Int32) (x2_ : Int32) (r : Int64 × Int32) (hl : loop (b_X6_flipped_38 ma on ot y7) (x0_, x1_, x2_) = some r) (hk : ∀ (r0_ : Int64) (r1_ : Int32), r = (r0_, r1_) → Go mX6_flipped (d + 3) false 0 0 102 [some (vR 0), none, none, none, some (vL r0_), none, some (vI r1_), none, none] [] (wM kn ne fi se ma on ot ta po ti nu mo wa nx oT cF bg ed sF qu qd tr) Q) : Go mX6_flipped (d + 3) false 0 0 38 [some (vR 0), none, none, none, some (vL x0_), none, some (vI x1_), some (vI y7), some (vI x2_)] [] (wM kn ne fi se ma on ot ta po ti nu mo wa nx oT cF bg ed sF qu qd tr) Q := by
  refine loop_go (P := fun x : Int64 × Int32 × Int32 => ∀ (x0_ : Int64) (x1_ : Int32) (x2_ : Int32), x = (x0_, x1_, x2_) → Go mX6_flipped (d + 3) false 0 0 38 [some (vR 0), none, none, none, some (vL x0_), none, some (vI x1_), some (vI y7), some (vI x2_)] [] (wM kn ne fi se ma on ot ta po ti nu mo wa nx oT cF bg ed sF qu qd tr) Q) (K := fun r : Int64 × Int32 => ∀ (r0_ : Int64) (r1_ : Int32), r = (r0_, r1_) → Go mX6_flipped (d + 3) false 0 0 102 [some (vR 0), none, none, none, some (vL r0_), none, some (vI r1_), none, none] [] (wM kn ne fi se ma on ot ta po ti nu mo wa nx oT cF bg ed sF qu qd tr) Q) ?_ (x0_, x1_, x2_) r hl hk x0_ x1_ x2_ rfl
  · intro x y hs hI hE x0_ x1_ x2_ hx
    subst hx
    unfold b_X6_flipped_38 at hs
    try dsimp only at hs
    refine go_iload (pc := 38) dX6_flipped_38 rfl ?_
    refine go_aload_n (pc := 40) 0 dX6_flipped_40 rfl rfl ?_
    refine go_getfield (pc := 41) (v := vI ma) 0 6 4 dX6_flipped_41 flX6_105 rfl rfl ?_
    refine go_icmp_ge (pc := 44) 102 dX6_flipped_44 (by decide) (fun h7 => ?_) (fun h7 => ?_)
    · have hs := it_t h7 hs
      obtain rfl := Option.some.inj hs
      refine go_sub (lv' := [some (vR 0), none, none, none, some (vL x0_), none, some (vI x1_), none, none]) ⟨rfl, ⟨rfl, ⟨rfl, trivial⟩⟩⟩ ?_
      exact (hE (x0_, x1_) rfl) x0_ x1_ rfl
    · have hs := it_f h7 hs
      refine go_iload (pc := 47) dX6_flipped_47 rfl ?_
      refine go_if_ne (pc := 49) 102 dX6_flipped_49 (by decide) (fun h8 => ?_) (fun h8 => ?_)
      · have hs := it_f h8 hs
        obtain rfl := Option.some.inj hs
        refine go_sub (lv' := [some (vR 0), none, none, none, some (vL x0_), none, some (vI x1_), none, none]) ⟨rfl, ⟨rfl, ⟨rfl, trivial⟩⟩⟩ ?_
        exact (hE (x0_, x1_) rfl) x0_ x1_ rfl
      · have hs := it_t h8 hs
        refine go_iload (pc := 52) dX6_flipped_52 rfl ?_
        refine go_aload_n (pc := 54) 0 dX6_flipped_54 rfl rfl ?_
        refine go_getfield (pc := 55) (v := vR 5) 0 6 5 dX6_flipped_55 flX6_22 rfl rfl ?_
        refine go_iload (pc := 58) dX6_flipped_58 rfl ?_
        obtain ⟨hi9, hs⟩ := chk_t hs
        refine go_iaload (pc := 60) 5 dX6_flipped_60 rfl hi9 ?_
        refine go_ishr (pc := 61) dX6_flipped_61 ?_
        refine go_iconst (pc := 62) (1 : Int32) dX6_flipped_62 (by decide) ?_
        refine go_iand (pc := 63) dX6_flipped_63 ?_
        refine go_iconst (pc := 64) (1 : Int32) dX6_flipped_64 (by decide) ?_
        refine go_icmp_ne (pc := 65) 96 dX6_flipped_65 (by decide) (fun h10 => ?_) (fun h10 => ?_)
        · have hs := it_f h10 hs
          refine go_iinc (pc := 96) (x2_ + (1 : Int32)) [some (vR 0), none, none, none, some (vL x0_), none, some (vI x1_), some (vI y7), some (vI (x2_ + (1 : Int32)))] dX6_flipped_96 rfl (iinc_1 _) (by decide) rfl ?_
          refine go_goto (pc := 99) 38 dX6_flipped_99 (by decide) ?_
          obtain rfl := Option.some.inj hs
          exact hI (x0_, x1_, x2_ + (1 : Int32)) rfl x0_ x1_ (x2_ + (1 : Int32)) rfl
        · have hs := it_t h10 hs
          refine go_iload (pc := 68) dX6_flipped_68 rfl ?_
          refine go_aload_n (pc := 70) 0 dX6_flipped_70 rfl rfl ?_
          refine go_getfield (pc := 71) (v := vR 6) 0 6 6 dX6_flipped_71 flX6_25 rfl rfl ?_
          refine go_iload (pc := 74) dX6_flipped_74 rfl ?_
          obtain ⟨hi11, hs⟩ := chk_t hs
          refine go_iaload (pc := 76) 6 dX6_flipped_76 rfl hi11 ?_
          refine go_ishr (pc := 77) dX6_flipped_77 ?_
          refine go_iconst (pc := 78) (1 : Int32) dX6_flipped_78 (by decide) ?_
          refine go_iand (pc := 79) dX6_flipped_79 ?_
          refine go_iconst (pc := 80) (1 : Int32) dX6_flipped_80 (by decide) ?_
          refine go_icmp_ne (pc := 81) 96 dX6_flipped_81 (by decide) (fun h12 => ?_) (fun h12 => ?_)
          · have hs := it_f h12 hs
            refine go_iinc (pc := 96) (x2_ + (1 : Int32)) [some (vR 0), none, none, none, some (vL x0_), none, some (vI x1_), some (vI y7), some (vI (x2_ + (1 : Int32)))] dX6_flipped_96 rfl (iinc_1 _) (by decide) rfl ?_
            refine go_goto (pc := 99) 38 dX6_flipped_99 (by decide) ?_
            obtain rfl := Option.some.inj hs
            exact hI (x0_, x1_, x2_ + (1 : Int32)) rfl x0_ x1_ (x2_ + (1 : Int32)) rfl
          · have hs := it_t h12 hs
            refine go_lload (pc := 84) dX6_flipped_84 rfl ?_
            refine go_lconst (pc := 86) (1 : Int64) dX6_flipped_86 (by decide) ?_
            refine go_iload (pc := 87) dX6_flipped_87 rfl ?_
            refine go_lshl (pc := 89) dX6_flipped_89 ?_
            refine go_lxor (pc := 90) dX6_flipped_90 ?_
            refine go_lstore (pc := 91) [some (vR 0), none, none, none, some (vL (x0_ ^^^ ((1 : Int64) <<< (x2_.toInt64 &&& 63)))), none, some (vI x1_), some (vI y7), some (vI x2_)] dX6_flipped_91 (by decide) rfl ?_
            refine go_iconst (pc := 93) (1 : Int32) dX6_flipped_93 (by decide) ?_
            refine go_istore (pc := 94) [some (vR 0), none, none, none, some (vL (x0_ ^^^ ((1 : Int64) <<< (x2_.toInt64 &&& 63)))), none, some (vI (1 : Int32)), some (vI y7), some (vI x2_)] dX6_flipped_94 (by decide) rfl ?_
            refine go_iinc (pc := 96) (x2_ + (1 : Int32)) [some (vR 0), none, none, none, some (vL (x0_ ^^^ ((1 : Int64) <<< (x2_.toInt64 &&& 63)))), none, some (vI (1 : Int32)), some (vI y7), some (vI (x2_ + (1 : Int32)))] dX6_flipped_96 rfl (iinc_1 _) (by decide) rfl ?_
            refine go_goto (pc := 99) 38 dX6_flipped_99 (by decide) ?_
            obtain rfl := Option.some.inj hs
            exact hI (x0_ ^^^ ((1 : Int64) <<< (x2_.toInt64 &&& 63)), (1 : Int32), x2_ + (1 : Int32)) rfl (x0_ ^^^ ((1 : Int64) <<< (x2_.toInt64 &&& 63))) (1 : Int32) (x2_ + (1 : Int32)) rfl
set_option maxRecDepth 20000 in
theorem g_X6_flipped_19 {d : Nat} {Q : Option AV → List AC → Prop}  (x0_ : Int64) (x1_ : Int32) (r : Int64) (hl : loop (b_X6_flipped_19 ma on ot) (x0_, x1_) = some r) (hk : Go mX6_flipped (d + 3) false 0 0 105 [none, none, none, none, some (vL r), none, none, none, none] [] (wM kn ne fi se ma on ot ta po ti nu mo wa nx oT cF bg ed sF qu qd tr) Q) : Go mX6_flipped (d + 3) false 0 0 19 [some (vR 0), none, none, none, some (vL x0_), none, some (vI x1_), none, none] [] (wM kn ne fi se ma on ot ta po ti nu mo wa nx oT cF bg ed sF qu qd tr) Q := by
  refine loop_go (P := fun x : Int64 × Int32 => ∀ (x0_ : Int64) (x1_ : Int32), x = (x0_, x1_) → Go mX6_flipped (d + 3) false 0 0 19 [some (vR 0), none, none, none, some (vL x0_), none, some (vI x1_), none, none] [] (wM kn ne fi se ma on ot ta po ti nu mo wa nx oT cF bg ed sF qu qd tr) Q) (K := fun r : Int64 => Go mX6_flipped (d + 3) false 0 0 105 [none, none, none, none, some (vL r), none, none, none, none] [] (wM kn ne fi se ma on ot ta po ti nu mo wa nx oT cF bg ed sF qu qd tr) Q) ?_ (x0_, x1_) r hl hk x0_ x1_ rfl
  · intro x y hs hI hE x0_ x1_ hx
    subst hx
    unfold b_X6_flipped_19 at hs
    try dsimp only at hs
    refine go_iload (pc := 19) dX6_flipped_19 rfl ?_
    refine go_if_eq (pc := 21) 105 dX6_flipped_21 (by decide) (fun h4 => ?_) (fun h4 => ?_)
    · have hs := it_t h4 hs
      obtain rfl := Option.some.inj hs
      refine go_sub (lv' := [none, none, none, none, some (vL x0_), none, none, none, none]) ⟨rfl, trivial⟩ ?_
      exact hE x0_ rfl
    · have hs := it_f h4 hs
      refine go_aload_n (pc := 24) 0 dX6_flipped_24 rfl rfl ?_
      refine go_lload (pc := 25) dX6_flipped_25 rfl ?_
      obtain ⟨x5, hc6, hs⟩ := bnd hs
      refine go_callV (bc := 0) (bs := 0) (mc := 0) (ms := 0) (d := d + 2) (pc := 27) (a := 0) (ci := 6) [vL x0_] [] dX6_flipped_27 kX6_oddOnes mlX6_181 ivX6_oddOnes rfl rfl rfl rfl (Nat.le_of_ble_eq_true rfl) rfl (c_X6_oddOnes (d := d + 2) (res0 := x5) hc6) (fun r w' hq => ?_)
      obtain ⟨rfl, rfl⟩ := hq
      show Go mX6_flipped (d + 3) false 0 0 30 [some (vR 0), none, none, none, some (vL x0_), none, some (vI x1_), none, none] [vI x5] (wM kn ne fi se ma on ot ta po ti nu mo wa nx oT cF bg ed sF qu qd tr) Q
      refine go_istore (pc := 30) [some (vR 0), none, none, none, some (vL x0_), none, some (vI x1_), some (vI x5), none] dX6_flipped_30 (by decide) rfl ?_
      refine go_iconst (pc := 32) (0 : Int32) dX6_flipped_32 (by decide) ?_
      refine go_istore (pc := 33) [some (vR 0), none, none, none, some (vL x0_), none, some (vI (0 : Int32)), some (vI x5), none] dX6_flipped_33 (by decide) rfl ?_
      refine go_iconst (pc := 35) (0 : Int32) dX6_flipped_35 (by decide) ?_
      refine go_istore (pc := 36) [some (vR 0), none, none, none, some (vL x0_), none, some (vI (0 : Int32)), some (vI x5), some (vI (0 : Int32))] dX6_flipped_36 (by decide) rfl ?_
      obtain ⟨e13, hl14, hs⟩ := bnd hs
      refine g_X6_flipped_38 (d := d) x0_ (0 : Int32) (0 : Int32) e13 hl14 ?_
      intro v15 v16 hv17
      subst hv17
      try dsimp only at hs
      refine go_goto (pc := 102) 19 dX6_flipped_102 (by decide) ?_
      obtain rfl := Option.some.inj hs
      exact hI (v15, v16) rfl v15 v16 rfl
set_option maxRecDepth 20000 in
theorem c_X6_flipped {d : Nat}  {a1 : Int32} {a2 : Int64} {res0 : Int64} {res1 : Int32} {res2 : (Nat → Int32)} {res3 : (Nat → Int32)} (hs : s_X6_flipped kn ne ma on ot a1 a2 = some (res0, res1, res2, res3)) : Calls mX6_flipped (d + 3) false 0 0 [vR 0, vI a1, vL a2] (wM kn ne fi se ma on ot ta po ti nu mo wa nx oT cF bg ed sF qu qd tr) (fun r w' => r = some (vL res0) ∧ w' = (wM kn ne fi se res1 res2 res3 ta po ti nu mo wa nx oT cF bg ed sF qu qd tr)) := by
  unfold s_X6_flipped at hs
  refine Calls.of kX6_flipped 5 [some (vR 0), some (vI a1), some (vL a2), none, none, none, none, none, none] rfl (Nat.le_of_ble_eq_true rfl) ?_
  refine go_aload_n (pc := 0) 0 dX6_flipped_0 rfl rfl ?_
  refine go_iload_n (pc := 1) 1 dX6_flipped_1 rfl rfl ?_
  refine go_lload_n (pc := 2) 2 dX6_flipped_2 rfl rfl ?_
  obtain ⟨x1, hc2, hs⟩ := bnd hs
  refine go_callV (bc := 0) (bs := 0) (mc := 0) (ms := 0) (d := d + 2) (pc := 3) (a := 0) (ci := 6) [vI a1, vL a2] [] dX6_flipped_3 kX6_isWord mlX6_177 ivX6_isWord rfl rfl rfl rfl (Nat.le_of_ble_eq_true rfl) rfl (c_X6_isWord (d := d + 0) (res0 := x1.1) (res1 := x1.2.1) (res2 := x1.2.2.1) (res3 := x1.2.2.2) hc2) (fun r w' hq => ?_)
  obtain ⟨rfl, rfl⟩ := hq
  show Go mX6_flipped (d + 3) false 0 0 6 [some (vR 0), some (vI a1), some (vL a2), none, none, none, none, none, none] [vI x1.1] (wM kn ne fi se x1.2.1 x1.2.2.1 x1.2.2.2 ta po ti nu mo wa nx oT cF bg ed sF qu qd tr) _
  refine go_if_ne (pc := 6) 13 dX6_flipped_6 (by decide) (fun h3 => ?_) (fun h3 => ?_)
  · have hs := it_f h3 hs
    refine go_lload_n (pc := 13) 2 dX6_flipped_13 rfl rfl ?_
    refine go_lstore (pc := 14) [some (vR 0), some (vI a1), some (vL a2), none, some (vL a2), none, none, none, none] dX6_flipped_14 (by decide) rfl ?_
    refine go_iconst (pc := 16) (1 : Int32) dX6_flipped_16 (by decide) ?_
    refine go_istore (pc := 17) [some (vR 0), some (vI a1), some (vL a2), none, some (vL a2), none, some (vI (1 : Int32)), none, none] dX6_flipped_17 (by decide) rfl ?_
    refine go_sub (lv' := [some (vR 0), none, none, none, some (vL a2), none, some (vI (1 : Int32)), none, none]) ⟨rfl, ⟨rfl, ⟨rfl, trivial⟩⟩⟩ ?_
    obtain ⟨e18, hl19, hs⟩ := bnd hs
    refine g_X6_flipped_19 (d := d) a2 (1 : Int32) e18 hl19 ?_
    refine go_lload (pc := 105) dX6_flipped_105 rfl ?_
    cases hs
    exact go_lreturn (st := []) (pc := 107) dX6_flipped_107 rfl (fun h => by cases h) ⟨rfl, rfl⟩
  · have hs := it_t h3 hs
    refine go_ldc2 (pc := 9) (-2 : Int64) dX6_flipped_9 kcX6_145 ?_
    cases hs
    exact go_lreturn (st := []) (pc := 12) dX6_flipped_12 rfl (fun h => by cases h) ⟨rfl, rfl⟩
noncomputable def b_X6_digest_28 (kn : (Nat → Int32)) (ne : (Nat → Int32)) (y3 : Int32) (x : Int64 × Int32) : Option ((Int64 × Int32) ⊕ (Int64)) := chk y3 4 (if (kn y3.toNatClampNeg) ≤ x.2 then (some (Sum.inr x.1)) else (chk (((10 : Int32) * y3) + x.2) 40 (lt' (((31 : Int64) * x.1) + ((ne (((10 : Int32) * y3) + x.2).toNatClampNeg).toInt64)) (fun z6 => some (Sum.inl (z6, x.2 + (1 : Int32)))))))
noncomputable def b_X6_digest_6 (kn : (Nat → Int32)) (ne : (Nat → Int32)) (x : Int64 × Int32) : Option ((Int64 × Int32) ⊕ (Int64)) := if (4 : Int32) ≤ x.2 then (some (Sum.inr x.1)) else (chk x.2 4 ((loop (b_X6_digest_28 kn ne x.2) (((31 : Int64) * x.1) + ((kn x.2.toNatClampNeg).toInt64), (0 : Int32))).bind (fun e7 => some (Sum.inl (e7, x.2 + (1 : Int32))))))
noncomputable def s_X6_digest (kn : (Nat → Int32)) (ne : (Nat → Int32)) : Option (Int64) := (loop (b_X6_digest_6 kn ne) ((241 : Int64), (0 : Int32))).bind (fun e10 => some e10)
set_option maxRecDepth 20000 in
theorem g_X6_digest_28 {d : Nat} {Q : Option AV → List AC → Prop} {y3 : Int32} (x0_ : Int64) (x1_ : Int32) (r : Int64) (hl : loop (b_X6_digest_28 kn ne y3) (x0_, x1_) = some r) (hk : Go mX6_digest (d + 0) false 0 0 65 [some (vR 0), some (vL r), none, some (vI y3), none] [] (wM kn ne fi se ma on ot ta po ti nu mo wa nx oT cF bg ed sF qu qd tr) Q) : Go mX6_digest (d + 0) false 0 0 28 [some (vR 0), some (vL x0_), none, some (vI y3), some (vI x1_)] [] (wM kn ne fi se ma on ot ta po ti nu mo wa nx oT cF bg ed sF qu qd tr) Q := by
  refine loop_go (P := fun x : Int64 × Int32 => ∀ (x0_ : Int64) (x1_ : Int32), x = (x0_, x1_) → Go mX6_digest (d + 0) false 0 0 28 [some (vR 0), some (vL x0_), none, some (vI y3), some (vI x1_)] [] (wM kn ne fi se ma on ot ta po ti nu mo wa nx oT cF bg ed sF qu qd tr) Q) (K := fun r : Int64 => Go mX6_digest (d + 0) false 0 0 65 [some (vR 0), some (vL r), none, some (vI y3), none] [] (wM kn ne fi se ma on ot ta po ti nu mo wa nx oT cF bg ed sF qu qd tr) Q) ?_ (x0_, x1_) r hl hk x0_ x1_ rfl
  · intro x y hs hI hE x0_ x1_ hx
    subst hx
    unfold b_X6_digest_28 at hs
    try dsimp only at hs
    refine go_iload (pc := 28) dX6_digest_28 rfl ?_
    refine go_aload_n (pc := 30) 0 dX6_digest_30 rfl rfl ?_
    refine go_getfield (pc := 31) (v := vR 1) 0 6 0 dX6_digest_31 flX6_7 rfl rfl ?_
    refine go_iload_n (pc := 34) 3 dX6_digest_34 rfl rfl ?_
    obtain ⟨hi3, hs⟩ := chk_t hs
    refine go_iaload (pc := 35) 1 dX6_digest_35 rfl hi3 ?_
    refine go_icmp_ge (pc := 36) 65 dX6_digest_36 (by decide) (fun h4 => ?_) (fun h4 => ?_)
    · have hs := it_t h4 hs
      obtain rfl := Option.some.inj hs
      refine go_sub (lv' := [some (vR 0), some (vL x0_), none, some (vI y3), none]) ⟨rfl, ⟨rfl, ⟨rfl, trivial⟩⟩⟩ ?_
      exact hE x0_ rfl
    · have hs := it_f h4 hs
      refine go_ldc2 (pc := 39) (31 : Int64) dX6_digest_39 kcX6_187 ?_
      refine go_lload_n (pc := 42) 1 dX6_digest_42 rfl rfl ?_
      refine go_lmul (pc := 43) dX6_digest_43 ?_
      refine go_aload_n (pc := 44) 0 dX6_digest_44 rfl rfl ?_
      refine go_getfield (pc := 45) (v := vR 2) 0 6 1 dX6_digest_45 flX6_13 rfl rfl ?_
      refine go_bipush (pc := 48) (10 : Int32) dX6_digest_48 (by decide) ?_
      refine go_iload_n (pc := 50) 3 dX6_digest_50 rfl rfl ?_
      refine go_imul (pc := 51) dX6_digest_51 ?_
      refine go_iload (pc := 52) dX6_digest_52 rfl ?_
      refine go_iadd (pc := 54) dX6_digest_54 ?_
      obtain ⟨hi5, hs⟩ := chk_t hs
      refine go_iaload (pc := 55) 2 dX6_digest_55 rfl hi5 ?_
      refine go_i2l (pc := 56) dX6_digest_56 ?_
      refine go_ladd (pc := 57) dX6_digest_57 ?_
      refine go_topl (fun z6 ez6 => ?_)
      have hs := lt_t ez6 hs
      refine go_lstore_n (pc := 58) 1 [some (vR 0), some (vL z6), none, some (vI y3), some (vI x1_)] dX6_digest_58 rfl (by decide) rfl ?_
      refine go_iinc (pc := 59) (x1_ + (1 : Int32)) [some (vR 0), some (vL z6), none, some (vI y3), some (vI (x1_ + (1 : Int32)))] dX6_digest_59 rfl (iinc_1 _) (by decide) rfl ?_
      refine go_goto (pc := 62) 28 dX6_digest_62 (by decide) ?_
      obtain rfl := Option.some.inj hs
      exact hI (z6, x1_ + (1 : Int32)) rfl z6 (x1_ + (1 : Int32)) rfl
set_option maxRecDepth 20000 in
theorem g_X6_digest_6 {d : Nat} {Q : Option AV → List AC → Prop}  (x0_ : Int64) (x1_ : Int32) (r : Int64) (hl : loop (b_X6_digest_6 kn ne) (x0_, x1_) = some r) (hk : Go mX6_digest (d + 0) false 0 0 71 [none, some (vL r), none, none, none] [] (wM kn ne fi se ma on ot ta po ti nu mo wa nx oT cF bg ed sF qu qd tr) Q) : Go mX6_digest (d + 0) false 0 0 6 [some (vR 0), some (vL x0_), none, some (vI x1_), none] [] (wM kn ne fi se ma on ot ta po ti nu mo wa nx oT cF bg ed sF qu qd tr) Q := by
  refine loop_go (P := fun x : Int64 × Int32 => ∀ (x0_ : Int64) (x1_ : Int32), x = (x0_, x1_) → Go mX6_digest (d + 0) false 0 0 6 [some (vR 0), some (vL x0_), none, some (vI x1_), none] [] (wM kn ne fi se ma on ot ta po ti nu mo wa nx oT cF bg ed sF qu qd tr) Q) (K := fun r : Int64 => Go mX6_digest (d + 0) false 0 0 71 [none, some (vL r), none, none, none] [] (wM kn ne fi se ma on ot ta po ti nu mo wa nx oT cF bg ed sF qu qd tr) Q) ?_ (x0_, x1_) r hl hk x0_ x1_ rfl
  · intro x y hs hI hE x0_ x1_ hx
    subst hx
    unfold b_X6_digest_6 at hs
    try dsimp only at hs
    refine go_iload_n (pc := 6) 3 dX6_digest_6 rfl rfl ?_
    refine go_iconst (pc := 7) (4 : Int32) dX6_digest_7 (by decide) ?_
    refine go_icmp_ge (pc := 8) 71 dX6_digest_8 (by decide) (fun h1 => ?_) (fun h1 => ?_)
    · have hs := it_t h1 hs
      obtain rfl := Option.some.inj hs
      refine go_sub (lv' := [none, some (vL x0_), none, none, none]) ⟨rfl, trivial⟩ ?_
      exact hE x0_ rfl
    · have hs := it_f h1 hs
      refine go_ldc2 (pc := 11) (31 : Int64) dX6_digest_11 kcX6_187 ?_
      refine go_lload_n (pc := 14) 1 dX6_digest_14 rfl rfl ?_
      refine go_lmul (pc := 15) dX6_digest_15 ?_
      refine go_aload_n (pc := 16) 0 dX6_digest_16 rfl rfl ?_
      refine go_getfield (pc := 17) (v := vR 1) 0 6 0 dX6_digest_17 flX6_7 rfl rfl ?_
      refine go_iload_n (pc := 20) 3 dX6_digest_20 rfl rfl ?_
      obtain ⟨hi2, hs⟩ := chk_t hs
      refine go_iaload (pc := 21) 1 dX6_digest_21 rfl hi2 ?_
      refine go_i2l (pc := 22) dX6_digest_22 ?_
      refine go_ladd (pc := 23) dX6_digest_23 ?_
      refine go_lstore_n (pc := 24) 1 [some (vR 0), some (vL (((31 : Int64) * x0_) + ((kn x1_.toNatClampNeg).toInt64))), none, some (vI x1_), none] dX6_digest_24 rfl (by decide) rfl ?_
      refine go_iconst (pc := 25) (0 : Int32) dX6_digest_25 (by decide) ?_
      refine go_istore (pc := 26) [some (vR 0), some (vL (((31 : Int64) * x0_) + ((kn x1_.toNatClampNeg).toInt64))), none, some (vI x1_), some (vI (0 : Int32))] dX6_digest_26 (by decide) rfl ?_
      obtain ⟨e7, hl8, hs⟩ := bnd hs
      refine g_X6_digest_28 (d := d) (((31 : Int64) * x0_) + ((kn x1_.toNatClampNeg).toInt64)) (0 : Int32) e7 hl8 ?_
      refine go_iinc (pc := 65) (x1_ + (1 : Int32)) [some (vR 0), some (vL e7), none, some (vI (x1_ + (1 : Int32))), none] dX6_digest_65 rfl (iinc_1 _) (by decide) rfl ?_
      refine go_goto (pc := 68) 6 dX6_digest_68 (by decide) ?_
      obtain rfl := Option.some.inj hs
      exact hI (e7, x1_ + (1 : Int32)) rfl e7 (x1_ + (1 : Int32)) rfl
set_option maxRecDepth 20000 in
theorem c_X6_digest {d : Nat}   {res0 : Int64} (hs : s_X6_digest kn ne = some res0) : Calls mX6_digest (d + 0) false 0 0 [vR 0] (wM kn ne fi se ma on ot ta po ti nu mo wa nx oT cF bg ed sF qu qd tr) (fun r w' => r = some (vL res0) ∧ w' = (wM kn ne fi se ma on ot ta po ti nu mo wa nx oT cF bg ed sF qu qd tr)) := by
  unfold s_X6_digest at hs
  refine Calls.of kX6_digest 4 [some (vR 0), none, none, none, none] rfl (Nat.le_of_ble_eq_true rfl) ?_
  refine go_ldc2 (pc := 0) (241 : Int64) dX6_digest_0 kcX6_185 ?_
  refine go_lstore_n (pc := 3) 1 [some (vR 0), some (vL (241 : Int64)), none, none, none] dX6_digest_3 rfl (by decide) rfl ?_
  refine go_iconst (pc := 4) (0 : Int32) dX6_digest_4 (by decide) ?_
  refine go_istore_n (pc := 5) 3 [some (vR 0), some (vL (241 : Int64)), none, some (vI (0 : Int32)), none] dX6_digest_5 rfl (by decide) rfl ?_
  obtain ⟨e10, hl11, hs⟩ := bnd hs
  refine g_X6_digest_6 (d := d) (241 : Int64) (0 : Int32) e10 hl11 ?_
  refine go_lload_n (pc := 71) 1 dX6_digest_71 rfl rfl ?_
  cases hs
  exact go_lreturn (st := []) (pc := 72) dX6_digest_72 rfl (fun h => by cases h) ⟨rfl, rfl⟩
end
