section
variable {kn : (Nat → Int32)} {ne : (Nat → Int32)} {fi : (Nat → Int32)} {se : (Nat → Int32)} {ma : Int32} {on : (Nat → Int32)} {ot : (Nat → Int32)} {ta : (Nat → Int64)} {po : (Nat → Int64)} {ti : (Nat → Int64)} {nu : (Nat → Int64)} {mo : (Nat → Int64)} {wa : (Nat → Int64)} {nx : (Nat → Int64)} {oT : (Nat → Int32)} {cF : (Nat → Int32)} {bg : Int32} {ed : Int32} {sF : (Nat → Int32)} {qu : (Nat → Int32)} {qd : Int32} {tr : (Nat → Int32)}
noncomputable def s_X6_about (kn : (Nat → Int32)) (ne : (Nat → Int32)) (a1 : Int32) (a2 : Int32) : Option (Int32) := (s_X6_isNet a1).bind (fun x1 => if x1 = 0 then (some (-2 : Int32)) else (if a2 = 0 then (chk a1 4 (some (kn a1.toNatClampNeg))) else (if a2 = (1 : Int32) then ((s_X6_lines kn ne a1).bind (fun x12 => some x12)) else (if a2 = (2 : Int32) then ((s_X6_degreeOf kn ne a1).bind (fun x10 => some x10)) else (if a2 = (3 : Int32) then ((s_X6_parts kn ne a1).bind (fun x8 => some x8)) else (some (-2 : Int32)))))))
set_option maxRecDepth 20000 in
theorem c_X6_about {d : Nat}  {a1 : Int32} {a2 : Int32} {res0 : Int32} (hs : s_X6_about kn ne a1 a2 = some res0) : Calls mX6_about (d + 2) false 0 0 [vR 0, vI a1, vI a2] (wM kn ne fi se ma on ot ta po ti nu mo wa nx oT cF bg ed sF qu qd tr) (fun r w' => r = some (vI res0) ∧ w' = (wM kn ne fi se ma on ot ta po ti nu mo wa nx oT cF bg ed sF qu qd tr)) := by
  unfold s_X6_about at hs
  refine Calls.of kX6_about 0 [some (vR 0), some (vI a1), some (vI a2)] rfl (Nat.le_of_ble_eq_true rfl) ?_
  refine go_iload_n (pc := 0) 1 dX6_about_0 rfl rfl ?_
  obtain ⟨x1, hc2, hs⟩ := bnd hs
  refine go_callS (bc := 0) (bs := 0) (mc := 0) (ms := 0) (d := d + 1) (pc := 1) [vI a1] [] dX6_about_1 kX6_isNet mlX6_69 isX6_isNet rfl (Nat.le_of_ble_eq_true rfl) rfl (c_X6_isNet (d := d + 0) (res0 := x1) hc2) (fun r w' hq => ?_)
  obtain ⟨rfl, rfl⟩ := hq
  show Go mX6_about (d + 2) false 0 0 4 [some (vR 0), some (vI a1), some (vI a2)] [vI x1] (wM kn ne fi se ma on ot ta po ti nu mo wa nx oT cF bg ed sF qu qd tr) _
  refine go_if_ne (pc := 4) 10 dX6_about_4 (by decide) (fun h3 => ?_) (fun h3 => ?_)
  · have hs := it_f h3 hs
    refine go_iload_n (pc := 10) 2 dX6_about_10 rfl rfl ?_
    refine go_if_ne (pc := 11) 23 dX6_about_11 (by decide) (fun h4 => ?_) (fun h4 => ?_)
    · have hs := it_f h4 hs
      refine go_iload_n (pc := 23) 2 dX6_about_23 rfl rfl ?_
      refine go_iconst (pc := 24) (1 : Int32) dX6_about_24 (by decide) ?_
      refine go_icmp_ne (pc := 25) 36 dX6_about_25 (by decide) (fun h5 => ?_) (fun h5 => ?_)
      · have hs := it_f h5 hs
        refine go_iload_n (pc := 36) 2 dX6_about_36 rfl rfl ?_
        refine go_iconst (pc := 37) (2 : Int32) dX6_about_37 (by decide) ?_
        refine go_icmp_ne (pc := 38) 49 dX6_about_38 (by decide) (fun h6 => ?_) (fun h6 => ?_)
        · have hs := it_f h6 hs
          refine go_iload_n (pc := 49) 2 dX6_about_49 rfl rfl ?_
          refine go_iconst (pc := 50) (3 : Int32) dX6_about_50 (by decide) ?_
          refine go_icmp_ne (pc := 51) 62 dX6_about_51 (by decide) (fun h7 => ?_) (fun h7 => ?_)
          · have hs := it_f h7 hs
            refine go_bipush (pc := 62) (-2 : Int32) dX6_about_62 (by decide) ?_
            cases hs
            exact go_ireturn (st := []) (pc := 64) dX6_about_64 rfl (vp_nar_int _) (fun h => by cases h) ⟨rfl, rfl⟩
          · have hs := it_t h7 hs
            refine go_aload_n (pc := 54) 0 dX6_about_54 rfl rfl ?_
            refine go_iload_n (pc := 55) 1 dX6_about_55 rfl rfl ?_
            obtain ⟨x8, hc9, hs⟩ := bnd hs
            refine go_callV (bc := 0) (bs := 0) (mc := 0) (ms := 0) (d := d + 1) (pc := 56) (a := 0) (ci := 6) [vI a1] [] dX6_about_56 kX6_parts mlX6_102 ivX6_parts rfl rfl rfl rfl (Nat.le_of_ble_eq_true rfl) rfl (c_X6_parts (d := d + 0) (res0 := x8) hc9) (fun r w' hq => ?_)
            obtain ⟨rfl, rfl⟩ := hq
            show Go mX6_about (d + 2) false 0 0 59 [some (vR 0), some (vI a1), some (vI a2)] [vI x8] (wM kn ne fi se ma on ot ta po ti nu mo wa nx oT cF bg ed sF qu qd tr) _
            refine go_goto (pc := 59) 64 dX6_about_59 (by decide) ?_
            cases hs
            exact go_ireturn (st := []) (pc := 64) dX6_about_64 rfl (vp_nar_int _) (fun h => by cases h) ⟨rfl, rfl⟩
        · have hs := it_t h6 hs
          refine go_aload_n (pc := 41) 0 dX6_about_41 rfl rfl ?_
          refine go_iload_n (pc := 42) 1 dX6_about_42 rfl rfl ?_
          obtain ⟨x10, hc11, hs⟩ := bnd hs
          refine go_callV (bc := 0) (bs := 0) (mc := 0) (ms := 0) (d := d + 1) (pc := 43) (a := 0) (ci := 6) [vI a1] [] dX6_about_43 kX6_degreeOf mlX6_99 ivX6_degreeOf rfl rfl rfl rfl (Nat.le_of_ble_eq_true rfl) rfl (c_X6_degreeOf (d := d + 0) (res0 := x10) hc11) (fun r w' hq => ?_)
          obtain ⟨rfl, rfl⟩ := hq
          show Go mX6_about (d + 2) false 0 0 46 [some (vR 0), some (vI a1), some (vI a2)] [vI x10] (wM kn ne fi se ma on ot ta po ti nu mo wa nx oT cF bg ed sF qu qd tr) _
          refine go_goto (pc := 46) 64 dX6_about_46 (by decide) ?_
          cases hs
          exact go_ireturn (st := []) (pc := 64) dX6_about_64 rfl (vp_nar_int _) (fun h => by cases h) ⟨rfl, rfl⟩
      · have hs := it_t h5 hs
        refine go_aload_n (pc := 28) 0 dX6_about_28 rfl rfl ?_
        refine go_iload_n (pc := 29) 1 dX6_about_29 rfl rfl ?_
        obtain ⟨x12, hc13, hs⟩ := bnd hs
        refine go_callV (bc := 0) (bs := 0) (mc := 0) (ms := 0) (d := d + 1) (pc := 30) (a := 0) (ci := 6) [vI a1] [] dX6_about_30 kX6_lines mlX6_92 ivX6_lines rfl rfl rfl rfl (Nat.le_of_ble_eq_true rfl) rfl (c_X6_lines (d := d + 0) (res0 := x12) hc13) (fun r w' hq => ?_)
        obtain ⟨rfl, rfl⟩ := hq
        show Go mX6_about (d + 2) false 0 0 33 [some (vR 0), some (vI a1), some (vI a2)] [vI x12] (wM kn ne fi se ma on ot ta po ti nu mo wa nx oT cF bg ed sF qu qd tr) _
        refine go_goto (pc := 33) 64 dX6_about_33 (by decide) ?_
        cases hs
        exact go_ireturn (st := []) (pc := 64) dX6_about_64 rfl (vp_nar_int _) (fun h => by cases h) ⟨rfl, rfl⟩
    · have hs := it_t h4 hs
      refine go_aload_n (pc := 14) 0 dX6_about_14 rfl rfl ?_
      refine go_getfield (pc := 15) (v := vR 1) 0 6 0 dX6_about_15 flX6_7 rfl rfl ?_
      refine go_iload_n (pc := 18) 1 dX6_about_18 rfl rfl ?_
      obtain ⟨hi14, hs⟩ := chk_t hs
      refine go_iaload (pc := 19) 1 dX6_about_19 rfl hi14 ?_
      refine go_goto (pc := 20) 64 dX6_about_20 (by decide) ?_
      cases hs
      exact go_ireturn (st := []) (pc := 64) dX6_about_64 rfl (vp_nar_int _) (fun h => by cases h) ⟨rfl, rfl⟩
  · have hs := it_t h3 hs
    refine go_bipush (pc := 7) (-2 : Int32) dX6_about_7 (by decide) ?_
    cases hs
    exact go_ireturn (st := []) (pc := 9) dX6_about_9 rfl (vp_nar_int _) (fun h => by cases h) ⟨rfl, rfl⟩
noncomputable def s_X6_near (kn : (Nat → Int32)) (ne : (Nat → Int32)) (a1 : Int32) (a2 : Int32) : Option (Int32) := (s_X6_isKnot kn a1 a2).bind (fun x1 => if x1 = 0 then (some (-2 : Int32)) else (chk (((10 : Int32) * a1) + a2) 40 (some (ne (((10 : Int32) * a1) + a2).toNatClampNeg))))
set_option maxRecDepth 20000 in
theorem c_X6_near {d : Nat}  {a1 : Int32} {a2 : Int32} {res0 : Int32} (hs : s_X6_near kn ne a1 a2 = some res0) : Calls mX6_near (d + 3) false 0 0 [vR 0, vI a1, vI a2] (wM kn ne fi se ma on ot ta po ti nu mo wa nx oT cF bg ed sF qu qd tr) (fun r w' => r = some (vI res0) ∧ w' = (wM kn ne fi se ma on ot ta po ti nu mo wa nx oT cF bg ed sF qu qd tr)) := by
  unfold s_X6_near at hs
  refine Calls.of kX6_near 0 [some (vR 0), some (vI a1), some (vI a2)] rfl (Nat.le_of_ble_eq_true rfl) ?_
  refine go_aload_n (pc := 0) 0 dX6_near_0 rfl rfl ?_
  refine go_iload_n (pc := 1) 1 dX6_near_1 rfl rfl ?_
  refine go_iload_n (pc := 2) 2 dX6_near_2 rfl rfl ?_
  obtain ⟨x1, hc2, hs⟩ := bnd hs
  refine go_callV (bc := 0) (bs := 0) (mc := 0) (ms := 0) (d := d + 2) (pc := 3) (a := 0) (ci := 6) [vI a1, vI a2] [] dX6_near_3 kX6_isKnot mlX6_81 ivX6_isKnot rfl rfl rfl rfl (Nat.le_of_ble_eq_true rfl) rfl (c_X6_isKnot (d := d + 0) (res0 := x1) hc2) (fun r w' hq => ?_)
  obtain ⟨rfl, rfl⟩ := hq
  show Go mX6_near (d + 3) false 0 0 6 [some (vR 0), some (vI a1), some (vI a2)] [vI x1] (wM kn ne fi se ma on ot ta po ti nu mo wa nx oT cF bg ed sF qu qd tr) _
  refine go_if_eq (pc := 6) 23 dX6_near_6 (by decide) (fun h3 => ?_) (fun h3 => ?_)
  · have hs := it_t h3 hs
    refine go_bipush (pc := 23) (-2 : Int32) dX6_near_23 (by decide) ?_
    cases hs
    exact go_ireturn (st := []) (pc := 25) dX6_near_25 rfl (vp_nar_int _) (fun h => by cases h) ⟨rfl, rfl⟩
  · have hs := it_f h3 hs
    refine go_aload_n (pc := 9) 0 dX6_near_9 rfl rfl ?_
    refine go_getfield (pc := 10) (v := vR 2) 0 6 1 dX6_near_10 flX6_13 rfl rfl ?_
    refine go_bipush (pc := 13) (10 : Int32) dX6_near_13 (by decide) ?_
    refine go_iload_n (pc := 15) 1 dX6_near_15 rfl rfl ?_
    refine go_imul (pc := 16) dX6_near_16 ?_
    refine go_iload_n (pc := 17) 2 dX6_near_17 rfl rfl ?_
    refine go_iadd (pc := 18) dX6_near_18 ?_
    obtain ⟨hi4, hs⟩ := chk_t hs
    refine go_iaload (pc := 19) 2 dX6_near_19 rfl hi4 ?_
    refine go_goto (pc := 20) 25 dX6_near_20 (by decide) ?_
    cases hs
    exact go_ireturn (st := []) (pc := 25) dX6_near_25 rfl (vp_nar_int _) (fun h => by cases h) ⟨rfl, rfl⟩
noncomputable def b_X6_layLines_21 (kn : (Nat → Int32)) (ne : (Nat → Int32)) (y1 : Int32) (y2 : Int32) (x : Int32 × Int32 × (Nat → Int32) × (Nat → Int32)) : Option ((Int32 × Int32 × (Nat → Int32) × (Nat → Int32)) ⊕ (Int32 × (Nat → Int32) × (Nat → Int32))) := chk y1 4 (if (kn y1.toNatClampNeg) ≤ x.1 then (some (Sum.inr (x.2.1, x.2.2.1, x.2.2.2))) else ((s_X6_has ne y1 y2 x.1).bind (fun x5 => if x5 = 0 then (some (Sum.inl (x.1 + (1 : Int32), x.2.1, x.2.2.1, x.2.2.2))) else (chk x.2.1 45 (chk x.2.1 45 (some (Sum.inl (x.1 + (1 : Int32), x.2.1 + (1 : Int32), upd x.2.2.1 x.2.1.toNatClampNeg y2, upd x.2.2.2 x.2.1.toNatClampNeg x.1))))))))
noncomputable def b_X6_layLines_7 (kn : (Nat → Int32)) (ne : (Nat → Int32)) (y1 : Int32) (x : Int32 × Int32 × (Nat → Int32) × (Nat → Int32)) : Option ((Int32 × Int32 × (Nat → Int32) × (Nat → Int32)) ⊕ (Int32 × (Nat → Int32) × (Nat → Int32))) := chk y1 4 (if (kn y1.toNatClampNeg) ≤ x.1 then (some (Sum.inr (x.2.1, x.2.2.1, x.2.2.2))) else ((loop (b_X6_layLines_21 kn ne y1 x.1) (x.1 + (1 : Int32), x.2.1, x.2.2.1, x.2.2.2)).bind (fun e10 => some (Sum.inl (x.1 + (1 : Int32), e10.1, e10.2.1, e10.2.2)))))
noncomputable def s_X6_layLines (kn : (Nat → Int32)) (ne : (Nat → Int32)) (ma : Int32) (on : (Nat → Int32)) (ot : (Nat → Int32)) (a1 : Int32) : Option (Int32 × (Nat → Int32) × (Nat → Int32)) := (loop (b_X6_layLines_7 kn ne a1) ((0 : Int32), (0 : Int32), on, ot)).bind (fun e16 => some (e16.1, e16.2.1, e16.2.2))
set_option maxRecDepth 20000 in
theorem g_X6_layLines_21 {d : Nat} {Q : Option AV → List AC → Prop} {y1 : Int32} {y2 : Int32} (x0_ : Int32) (x1_ : Int32) (x2_ : (Nat → Int32)) (x3_ : (Nat → Int32)) (r : Int32 × (Nat → Int32) × (Nat → Int32)) (hl : loop (b_X6_layLines_21 kn ne y1 y2) (x0_, x1_, x2_, x3_) = some r) (hk : ∀ (r0_ : Int32) (r1_ : (Nat → Int32)) (r2_ : (Nat → Int32)), r = (r0_, r1_, r2_) → Go mX6_layLines (d + 1) false 0 0 77 [some (vR 0), some (vI y1), some (vI y2), none] [] (wM kn ne fi se r0_ r1_ r2_ ta po ti nu mo wa nx oT cF bg ed sF qu qd tr) Q) : Go mX6_layLines (d + 1) false 0 0 21 [some (vR 0), some (vI y1), some (vI y2), some (vI x0_)] [] (wM kn ne fi se x1_ x2_ x3_ ta po ti nu mo wa nx oT cF bg ed sF qu qd tr) Q := by
  refine loop_go (P := fun x : Int32 × Int32 × (Nat → Int32) × (Nat → Int32) => ∀ (x0_ : Int32) (x1_ : Int32) (x2_ : (Nat → Int32)) (x3_ : (Nat → Int32)), x = (x0_, x1_, x2_, x3_) → Go mX6_layLines (d + 1) false 0 0 21 [some (vR 0), some (vI y1), some (vI y2), some (vI x0_)] [] (wM kn ne fi se x1_ x2_ x3_ ta po ti nu mo wa nx oT cF bg ed sF qu qd tr) Q) (K := fun r : Int32 × (Nat → Int32) × (Nat → Int32) => ∀ (r0_ : Int32) (r1_ : (Nat → Int32)) (r2_ : (Nat → Int32)), r = (r0_, r1_, r2_) → Go mX6_layLines (d + 1) false 0 0 77 [some (vR 0), some (vI y1), some (vI y2), none] [] (wM kn ne fi se r0_ r1_ r2_ ta po ti nu mo wa nx oT cF bg ed sF qu qd tr) Q) ?_ (x0_, x1_, x2_, x3_) r hl hk x0_ x1_ x2_ x3_ rfl
  · intro x y hs hI hE x0_ x1_ x2_ x3_ hx
    subst hx
    unfold b_X6_layLines_21 at hs
    try dsimp only at hs
    refine go_iload_n (pc := 21) 3 dX6_layLines_21 rfl rfl ?_
    refine go_aload_n (pc := 22) 0 dX6_layLines_22 rfl rfl ?_
    refine go_getfield (pc := 23) (v := vR 1) 0 6 0 dX6_layLines_23 flX6_7 rfl rfl ?_
    refine go_iload_n (pc := 26) 1 dX6_layLines_26 rfl rfl ?_
    obtain ⟨hi3, hs⟩ := chk_t hs
    refine go_iaload (pc := 27) 1 dX6_layLines_27 rfl hi3 ?_
    refine go_icmp_ge (pc := 28) 77 dX6_layLines_28 (by decide) (fun h4 => ?_) (fun h4 => ?_)
    · have hs := it_t h4 hs
      obtain rfl := Option.some.inj hs
      refine go_sub (lv' := [some (vR 0), some (vI y1), some (vI y2), none]) ⟨rfl, ⟨rfl, ⟨rfl, trivial⟩⟩⟩ ?_
      exact (hE (x1_, x2_, x3_) rfl) x1_ x2_ x3_ rfl
    · have hs := it_f h4 hs
      refine go_aload_n (pc := 31) 0 dX6_layLines_31 rfl rfl ?_
      refine go_iload_n (pc := 32) 1 dX6_layLines_32 rfl rfl ?_
      refine go_iload_n (pc := 33) 2 dX6_layLines_33 rfl rfl ?_
      refine go_iload_n (pc := 34) 3 dX6_layLines_34 rfl rfl ?_
      obtain ⟨x5, hc6, hs⟩ := bnd hs
      refine go_callV (bc := 0) (bs := 0) (mc := 0) (ms := 0) (d := d + 0) (pc := 35) (a := 0) (ci := 6) [vI y1, vI y2, vI x0_] [] dX6_layLines_35 kX6_has mlX6_85 ivX6_has rfl rfl rfl rfl (Nat.le_of_ble_eq_true rfl) rfl (c_X6_has (d := d + 0) (res0 := x5) hc6) (fun r w' hq => ?_)
      obtain ⟨rfl, rfl⟩ := hq
      show Go mX6_layLines (d + 1) false 0 0 38 [some (vR 0), some (vI y1), some (vI y2), some (vI x0_)] [vI x5] (wM kn ne fi se x1_ x2_ x3_ ta po ti nu mo wa nx oT cF bg ed sF qu qd tr) Q
      refine go_if_eq (pc := 38) 71 dX6_layLines_38 (by decide) (fun h7 => ?_) (fun h7 => ?_)
      · have hs := it_t h7 hs
        refine go_iinc (pc := 71) (x0_ + (1 : Int32)) [some (vR 0), some (vI y1), some (vI y2), some (vI (x0_ + (1 : Int32)))] dX6_layLines_71 rfl (iinc_1 _) (by decide) rfl ?_
        refine go_goto (pc := 74) 21 dX6_layLines_74 (by decide) ?_
        obtain rfl := Option.some.inj hs
        exact hI (x0_ + (1 : Int32), x1_, x2_, x3_) rfl (x0_ + (1 : Int32)) x1_ x2_ x3_ rfl
      · have hs := it_f h7 hs
        refine go_aload_n (pc := 41) 0 dX6_layLines_41 rfl rfl ?_
        refine go_getfield (pc := 42) (v := vR 5) 0 6 5 dX6_layLines_42 flX6_22 rfl rfl ?_
        refine go_aload_n (pc := 45) 0 dX6_layLines_45 rfl rfl ?_
        refine go_getfield (pc := 46) (v := vI x1_) 0 6 4 dX6_layLines_46 flX6_105 rfl rfl ?_
        refine go_iload_n (pc := 49) 2 dX6_layLines_49 rfl rfl ?_
        obtain ⟨hi8, hs⟩ := chk_t hs
        refine go_iastore (pc := 50) 5 dX6_layLines_50 rfl hi8 (show Go mX6_layLines (d + 1) false 0 0 51 [some (vR 0), some (vI y1), some (vI y2), some (vI x0_)] [] (wM kn ne fi se x1_ (upd x2_ x1_.toNatClampNeg y2) x3_ ta po ti nu mo wa nx oT cF bg ed sF qu qd tr) Q from ?_)
        refine go_aload_n (pc := 51) 0 dX6_layLines_51 rfl rfl ?_
        refine go_getfield (pc := 52) (v := vR 6) 0 6 6 dX6_layLines_52 flX6_25 rfl rfl ?_
        refine go_aload_n (pc := 55) 0 dX6_layLines_55 rfl rfl ?_
        refine go_getfield (pc := 56) (v := vI x1_) 0 6 4 dX6_layLines_56 flX6_105 rfl rfl ?_
        refine go_iload_n (pc := 59) 3 dX6_layLines_59 rfl rfl ?_
        obtain ⟨hi9, hs⟩ := chk_t hs
        refine go_iastore (pc := 60) 6 dX6_layLines_60 rfl hi9 (show Go mX6_layLines (d + 1) false 0 0 61 [some (vR 0), some (vI y1), some (vI y2), some (vI x0_)] [] (wM kn ne fi se x1_ (upd x2_ x1_.toNatClampNeg y2) (upd x3_ x1_.toNatClampNeg x0_) ta po ti nu mo wa nx oT cF bg ed sF qu qd tr) Q from ?_)
        refine go_aload_n (pc := 61) 0 dX6_layLines_61 rfl rfl ?_
        refine go_dup (pc := 62) dX6_layLines_62 rfl ?_
        refine go_getfield (pc := 63) (v := vI x1_) 0 6 4 dX6_layLines_63 flX6_105 rfl rfl ?_
        refine go_iconst (pc := 66) (1 : Int32) dX6_layLines_66 (by decide) ?_
        refine go_iadd (pc := 67) dX6_layLines_67 ?_
        refine go_putI (pc := 68) 0 6 4 dX6_layLines_68 fpX6_105 rfl (Nat.le_of_ble_eq_true rfl) (show Go mX6_layLines (d + 1) false 0 0 71 [some (vR 0), some (vI y1), some (vI y2), some (vI x0_)] [] (wM kn ne fi se (x1_ + (1 : Int32)) (upd x2_ x1_.toNatClampNeg y2) (upd x3_ x1_.toNatClampNeg x0_) ta po ti nu mo wa nx oT cF bg ed sF qu qd tr) Q from ?_)
        refine go_iinc (pc := 71) (x0_ + (1 : Int32)) [some (vR 0), some (vI y1), some (vI y2), some (vI (x0_ + (1 : Int32)))] dX6_layLines_71 rfl (iinc_1 _) (by decide) rfl ?_
        refine go_goto (pc := 74) 21 dX6_layLines_74 (by decide) ?_
        obtain rfl := Option.some.inj hs
        exact hI (x0_ + (1 : Int32), x1_ + (1 : Int32), upd x2_ x1_.toNatClampNeg y2, upd x3_ x1_.toNatClampNeg x0_) rfl (x0_ + (1 : Int32)) (x1_ + (1 : Int32)) (upd x2_ x1_.toNatClampNeg y2) (upd x3_ x1_.toNatClampNeg x0_) rfl
set_option maxRecDepth 20000 in
theorem g_X6_layLines_7 {d : Nat} {Q : Option AV → List AC → Prop} {y1 : Int32} (x0_ : Int32) (x1_ : Int32) (x2_ : (Nat → Int32)) (x3_ : (Nat → Int32)) (r : Int32 × (Nat → Int32) × (Nat → Int32)) (hl : loop (b_X6_layLines_7 kn ne y1) (x0_, x1_, x2_, x3_) = some r) (hk : ∀ (r0_ : Int32) (r1_ : (Nat → Int32)) (r2_ : (Nat → Int32)), r = (r0_, r1_, r2_) → Go mX6_layLines (d + 1) false 0 0 83 [none, none, none, none] [] (wM kn ne fi se r0_ r1_ r2_ ta po ti nu mo wa nx oT cF bg ed sF qu qd tr) Q) : Go mX6_layLines (d + 1) false 0 0 7 [some (vR 0), some (vI y1), some (vI x0_), none] [] (wM kn ne fi se x1_ x2_ x3_ ta po ti nu mo wa nx oT cF bg ed sF qu qd tr) Q := by
  refine loop_go (P := fun x : Int32 × Int32 × (Nat → Int32) × (Nat → Int32) => ∀ (x0_ : Int32) (x1_ : Int32) (x2_ : (Nat → Int32)) (x3_ : (Nat → Int32)), x = (x0_, x1_, x2_, x3_) → Go mX6_layLines (d + 1) false 0 0 7 [some (vR 0), some (vI y1), some (vI x0_), none] [] (wM kn ne fi se x1_ x2_ x3_ ta po ti nu mo wa nx oT cF bg ed sF qu qd tr) Q) (K := fun r : Int32 × (Nat → Int32) × (Nat → Int32) => ∀ (r0_ : Int32) (r1_ : (Nat → Int32)) (r2_ : (Nat → Int32)), r = (r0_, r1_, r2_) → Go mX6_layLines (d + 1) false 0 0 83 [none, none, none, none] [] (wM kn ne fi se r0_ r1_ r2_ ta po ti nu mo wa nx oT cF bg ed sF qu qd tr) Q) ?_ (x0_, x1_, x2_, x3_) r hl hk x0_ x1_ x2_ x3_ rfl
  · intro x y hs hI hE x0_ x1_ x2_ x3_ hx
    subst hx
    unfold b_X6_layLines_7 at hs
    try dsimp only at hs
    refine go_iload_n (pc := 7) 2 dX6_layLines_7 rfl rfl ?_
    refine go_aload_n (pc := 8) 0 dX6_layLines_8 rfl rfl ?_
    refine go_getfield (pc := 9) (v := vR 1) 0 6 0 dX6_layLines_9 flX6_7 rfl rfl ?_
    refine go_iload_n (pc := 12) 1 dX6_layLines_12 rfl rfl ?_
    obtain ⟨hi1, hs⟩ := chk_t hs
    refine go_iaload (pc := 13) 1 dX6_layLines_13 rfl hi1 ?_
    refine go_icmp_ge (pc := 14) 83 dX6_layLines_14 (by decide) (fun h2 => ?_) (fun h2 => ?_)
    · have hs := it_t h2 hs
      obtain rfl := Option.some.inj hs
      refine go_sub (lv' := [none, none, none, none]) trivial ?_
      exact (hE (x1_, x2_, x3_) rfl) x1_ x2_ x3_ rfl
    · have hs := it_f h2 hs
      refine go_iload_n (pc := 17) 2 dX6_layLines_17 rfl rfl ?_
      refine go_iconst (pc := 18) (1 : Int32) dX6_layLines_18 (by decide) ?_
      refine go_iadd (pc := 19) dX6_layLines_19 ?_
      refine go_istore_n (pc := 20) 3 [some (vR 0), some (vI y1), some (vI x0_), some (vI (x0_ + (1 : Int32)))] dX6_layLines_20 rfl (by decide) rfl ?_
      obtain ⟨e10, hl11, hs⟩ := bnd hs
      refine g_X6_layLines_21 (d := d) (x0_ + (1 : Int32)) x1_ x2_ x3_ e10 hl11 ?_
      intro v12 v13 v14 hv15
      subst hv15
      try dsimp only at hs
      refine go_iinc (pc := 77) (x0_ + (1 : Int32)) [some (vR 0), some (vI y1), some (vI (x0_ + (1 : Int32))), none] dX6_layLines_77 rfl (iinc_1 _) (by decide) rfl ?_
      refine go_goto (pc := 80) 7 dX6_layLines_80 (by decide) ?_
      obtain rfl := Option.some.inj hs
      exact hI (x0_ + (1 : Int32), v12, v13, v14) rfl (x0_ + (1 : Int32)) v12 v13 v14 rfl
set_option maxRecDepth 20000 in
theorem c_X6_layLines {d : Nat}  {a1 : Int32} {res0 : Int32} {res1 : (Nat → Int32)} {res2 : (Nat → Int32)} (hs : s_X6_layLines kn ne ma on ot a1 = some (res0, res1, res2)) : Calls mX6_layLines (d + 1) false 0 0 [vR 0, vI a1] (wM kn ne fi se ma on ot ta po ti nu mo wa nx oT cF bg ed sF qu qd tr) (fun r w' => r = none ∧ w' = (wM kn ne fi se res0 res1 res2 ta po ti nu mo wa nx oT cF bg ed sF qu qd tr)) := by
  unfold s_X6_layLines at hs
  refine Calls.of kX6_layLines 2 [some (vR 0), some (vI a1), none, none] rfl (Nat.le_of_ble_eq_true rfl) ?_
  refine go_aload_n (pc := 0) 0 dX6_layLines_0 rfl rfl ?_
  refine go_iconst (pc := 1) (0 : Int32) dX6_layLines_1 (by decide) ?_
  refine go_putI (pc := 2) 0 6 4 dX6_layLines_2 fpX6_105 rfl (Nat.le_of_ble_eq_true rfl) (show Go mX6_layLines (d + 1) false 0 0 5 [some (vR 0), some (vI a1), none, none] [] (wM kn ne fi se ((0 : Int32)) on ot ta po ti nu mo wa nx oT cF bg ed sF qu qd tr) _ from ?_)
  refine go_iconst (pc := 5) (0 : Int32) dX6_layLines_5 (by decide) ?_
  refine go_istore_n (pc := 6) 2 [some (vR 0), some (vI a1), some (vI (0 : Int32)), none] dX6_layLines_6 rfl (by decide) rfl ?_
  obtain ⟨e16, hl17, hs⟩ := bnd hs
  refine g_X6_layLines_7 (d := d) (0 : Int32) (0 : Int32) on ot e16 hl17 ?_
  intro v18 v19 v20 hv21
  subst hv21
  try dsimp only at hs
  cases hs
  exact go_return (st := []) (pc := 83) dX6_layLines_83 rfl (fun h => by cases h) ⟨rfl, rfl⟩
noncomputable def b_X6_number_54 (ma : Int32) (on : (Nat → Int32)) (ot : (Nat → Int32)) (y4 : Int32) (y5 : Int32) (x : Int32) : Option ((Int32) ⊕ ((Int32) ⊕ (Unit))) := if ma ≤ x then (some (Sum.inr (Sum.inr ()))) else (chk x 45 (if (on x.toNatClampNeg) = y4 then (chk x 45 (if (ot x.toNatClampNeg) = y5 then (some (Sum.inr (Sum.inl x))) else (some (Sum.inl (x + (1 : Int32)))))) else (some (Sum.inl (x + (1 : Int32))))))
noncomputable def s_X6_number (kn : (Nat → Int32)) (ne : (Nat → Int32)) (ma : Int32) (on : (Nat → Int32)) (ot : (Nat → Int32)) (a1 : Int32) (a2 : Int32) (a3 : Int32) : Option (Int32 × Int32 × (Nat → Int32) × (Nat → Int32)) := (s_X6_isKnot kn a1 a2).bind (fun x1 => if x1 = 0 then (some ((-2 : Int32), ma, on, ot)) else ((s_X6_isKnot kn a1 a3).bind (fun x4 => if x4 = 0 then (some ((-2 : Int32), ma, on, ot)) else (if a2 = a3 then (some ((-2 : Int32), ma, on, ot)) else ((s_X6_layLines kn ne ma on ot a1).bind (fun x8 => if a3 ≤ a2 then ((loop (b_X6_number_54 x8.1 x8.2.1 x8.2.2 a3 ((a2 + a3) - a3)) (0 : Int32)).bind (fun e16 => Sum.elim (fun v19 => some (v19, x8.1, x8.2.1, x8.2.2)) (fun e20 => some ((-1 : Int32), x8.1, x8.2.1, x8.2.2)) e16)) else ((loop (b_X6_number_54 x8.1 x8.2.1 x8.2.2 a2 ((a2 + a3) - a2)) (0 : Int32)).bind (fun e23 => Sum.elim (fun v26 => some (v26, x8.1, x8.2.1, x8.2.2)) (fun e27 => some ((-1 : Int32), x8.1, x8.2.1, x8.2.2)) e23))))))))
set_option maxRecDepth 20000 in
theorem g_X6_number_54 {d : Nat} {Q : Option AV → List AC → Prop} {y4 : Int32} {y5 : Int32} (x0_ : Int32) (r : (Int32) ⊕ (Unit)) (hl : loop (b_X6_number_54 ma on ot y4 y5) x0_ = some r) (hk : (∀ (r0_ : Int32), r = Sum.inl r0_ → Go mX6_number (d + 3) false 0 0 87 [none, none, none, none, none, none, some (vI r0_)] [] (wM kn ne fi se ma on ot ta po ti nu mo wa nx oT cF bg ed sF qu qd tr) Q) ∧ (r = Sum.inr () → Go mX6_number (d + 3) false 0 0 96 [none, none, none, none, none, none, none] [] (wM kn ne fi se ma on ot ta po ti nu mo wa nx oT cF bg ed sF qu qd tr) Q)) : Go mX6_number (d + 3) false 0 0 54 [some (vR 0), none, none, none, some (vI y4), some (vI y5), some (vI x0_)] [] (wM kn ne fi se ma on ot ta po ti nu mo wa nx oT cF bg ed sF qu qd tr) Q := by
  refine loop_go (P := fun x0_ : Int32 => Go mX6_number (d + 3) false 0 0 54 [some (vR 0), none, none, none, some (vI y4), some (vI y5), some (vI x0_)] [] (wM kn ne fi se ma on ot ta po ti nu mo wa nx oT cF bg ed sF qu qd tr) Q) (K := fun r : (Int32) ⊕ (Unit) => (∀ (r0_ : Int32), r = Sum.inl r0_ → Go mX6_number (d + 3) false 0 0 87 [none, none, none, none, none, none, some (vI r0_)] [] (wM kn ne fi se ma on ot ta po ti nu mo wa nx oT cF bg ed sF qu qd tr) Q) ∧ (r = Sum.inr () → Go mX6_number (d + 3) false 0 0 96 [none, none, none, none, none, none, none] [] (wM kn ne fi se ma on ot ta po ti nu mo wa nx oT cF bg ed sF qu qd tr) Q)) ?_ x0_ r hl hk 
  · intro x0_ y hs hI hE
    unfold b_X6_number_54 at hs
    refine go_iload (pc := 54) dX6_number_54 rfl ?_
    refine go_aload_n (pc := 56) 0 dX6_number_56 rfl rfl ?_
    refine go_getfield (pc := 57) (v := vI ma) 0 6 4 dX6_number_57 flX6_105 rfl rfl ?_
    refine go_icmp_ge (pc := 60) 96 dX6_number_60 (by decide) (fun h11 => ?_) (fun h11 => ?_)
    · have hs := it_t h11 hs
      obtain rfl := Option.some.inj hs
      refine go_sub (lv' := [none, none, none, none, none, none, none]) trivial ?_
      exact (hE (Sum.inr ()) rfl).2  rfl
    · have hs := it_f h11 hs
      refine go_aload_n (pc := 63) 0 dX6_number_63 rfl rfl ?_
      refine go_getfield (pc := 64) (v := vR 5) 0 6 5 dX6_number_64 flX6_22 rfl rfl ?_
      refine go_iload (pc := 67) dX6_number_67 rfl ?_
      obtain ⟨hi12, hs⟩ := chk_t hs
      refine go_iaload (pc := 69) 5 dX6_number_69 rfl hi12 ?_
      refine go_iload (pc := 70) dX6_number_70 rfl ?_
      refine go_icmp_ne (pc := 72) 90 dX6_number_72 (by decide) (fun h13 => ?_) (fun h13 => ?_)
      · have hs := it_f h13 hs
        refine go_iinc (pc := 90) (x0_ + (1 : Int32)) [some (vR 0), none, none, none, some (vI y4), some (vI y5), some (vI (x0_ + (1 : Int32)))] dX6_number_90 rfl (iinc_1 _) (by decide) rfl ?_
        refine go_goto (pc := 93) 54 dX6_number_93 (by decide) ?_
        obtain rfl := Option.some.inj hs
        exact hI (x0_ + (1 : Int32)) rfl
      · have hs := it_t h13 hs
        refine go_aload_n (pc := 75) 0 dX6_number_75 rfl rfl ?_
        refine go_getfield (pc := 76) (v := vR 6) 0 6 6 dX6_number_76 flX6_25 rfl rfl ?_
        refine go_iload (pc := 79) dX6_number_79 rfl ?_
        obtain ⟨hi14, hs⟩ := chk_t hs
        refine go_iaload (pc := 81) 6 dX6_number_81 rfl hi14 ?_
        refine go_iload (pc := 82) dX6_number_82 rfl ?_
        refine go_icmp_ne (pc := 84) 90 dX6_number_84 (by decide) (fun h15 => ?_) (fun h15 => ?_)
        · have hs := it_f h15 hs
          refine go_iinc (pc := 90) (x0_ + (1 : Int32)) [some (vR 0), none, none, none, some (vI y4), some (vI y5), some (vI (x0_ + (1 : Int32)))] dX6_number_90 rfl (iinc_1 _) (by decide) rfl ?_
          refine go_goto (pc := 93) 54 dX6_number_93 (by decide) ?_
          obtain rfl := Option.some.inj hs
          exact hI (x0_ + (1 : Int32)) rfl
        · have hs := it_t h15 hs
          obtain rfl := Option.some.inj hs
          refine go_sub (lv' := [none, none, none, none, none, none, some (vI x0_)]) ⟨rfl, trivial⟩ ?_
          exact (hE (Sum.inl x0_) rfl).1 x0_ rfl
set_option maxRecDepth 20000 in
theorem c_X6_number {d : Nat}  {a1 : Int32} {a2 : Int32} {a3 : Int32} {res0 : Int32} {res1 : Int32} {res2 : (Nat → Int32)} {res3 : (Nat → Int32)} (hs : s_X6_number kn ne ma on ot a1 a2 a3 = some (res0, res1, res2, res3)) : Calls mX6_number (d + 3) false 0 0 [vR 0, vI a1, vI a2, vI a3] (wM kn ne fi se ma on ot ta po ti nu mo wa nx oT cF bg ed sF qu qd tr) (fun r w' => r = some (vI res0) ∧ w' = (wM kn ne fi se res1 res2 res3 ta po ti nu mo wa nx oT cF bg ed sF qu qd tr)) := by
  unfold s_X6_number at hs
  refine Calls.of kX6_number 3 [some (vR 0), some (vI a1), some (vI a2), some (vI a3), none, none, none] rfl (Nat.le_of_ble_eq_true rfl) ?_
  refine go_aload_n (pc := 0) 0 dX6_number_0 rfl rfl ?_
  refine go_iload_n (pc := 1) 1 dX6_number_1 rfl rfl ?_
  refine go_iload_n (pc := 2) 2 dX6_number_2 rfl rfl ?_
  obtain ⟨x1, hc2, hs⟩ := bnd hs
  refine go_callV (bc := 0) (bs := 0) (mc := 0) (ms := 0) (d := d + 2) (pc := 3) (a := 0) (ci := 6) [vI a1, vI a2] [] dX6_number_3 kX6_isKnot mlX6_81 ivX6_isKnot rfl rfl rfl rfl (Nat.le_of_ble_eq_true rfl) rfl (c_X6_isKnot (d := d + 0) (res0 := x1) hc2) (fun r w' hq => ?_)
  obtain ⟨rfl, rfl⟩ := hq
  show Go mX6_number (d + 3) false 0 0 6 [some (vR 0), some (vI a1), some (vI a2), some (vI a3), none, none, none] [vI x1] (wM kn ne fi se ma on ot ta po ti nu mo wa nx oT cF bg ed sF qu qd tr) _
  refine go_if_eq (pc := 6) 23 dX6_number_6 (by decide) (fun h3 => ?_) (fun h3 => ?_)
  · have hs := it_t h3 hs
    refine go_bipush (pc := 23) (-2 : Int32) dX6_number_23 (by decide) ?_
    cases hs
    exact go_ireturn (st := []) (pc := 25) dX6_number_25 rfl (vp_nar_int _) (fun h => by cases h) ⟨rfl, rfl⟩
  · have hs := it_f h3 hs
    refine go_aload_n (pc := 9) 0 dX6_number_9 rfl rfl ?_
    refine go_iload_n (pc := 10) 1 dX6_number_10 rfl rfl ?_
    refine go_iload_n (pc := 11) 3 dX6_number_11 rfl rfl ?_
    obtain ⟨x4, hc5, hs⟩ := bnd hs
    refine go_callV (bc := 0) (bs := 0) (mc := 0) (ms := 0) (d := d + 2) (pc := 12) (a := 0) (ci := 6) [vI a1, vI a3] [] dX6_number_12 kX6_isKnot mlX6_81 ivX6_isKnot rfl rfl rfl rfl (Nat.le_of_ble_eq_true rfl) rfl (c_X6_isKnot (d := d + 0) (res0 := x4) hc5) (fun r w' hq => ?_)
    obtain ⟨rfl, rfl⟩ := hq
    show Go mX6_number (d + 3) false 0 0 15 [some (vR 0), some (vI a1), some (vI a2), some (vI a3), none, none, none] [vI x4] (wM kn ne fi se ma on ot ta po ti nu mo wa nx oT cF bg ed sF qu qd tr) _
    refine go_if_eq (pc := 15) 23 dX6_number_15 (by decide) (fun h6 => ?_) (fun h6 => ?_)
    · have hs := it_t h6 hs
      refine go_bipush (pc := 23) (-2 : Int32) dX6_number_23 (by decide) ?_
      cases hs
      exact go_ireturn (st := []) (pc := 25) dX6_number_25 rfl (vp_nar_int _) (fun h => by cases h) ⟨rfl, rfl⟩
    · have hs := it_f h6 hs
      refine go_iload_n (pc := 18) 2 dX6_number_18 rfl rfl ?_
      refine go_iload_n (pc := 19) 3 dX6_number_19 rfl rfl ?_
      refine go_icmp_ne (pc := 20) 26 dX6_number_20 (by decide) (fun h7 => ?_) (fun h7 => ?_)
      · have hs := it_f h7 hs
        refine go_aload_n (pc := 26) 0 dX6_number_26 rfl rfl ?_
        refine go_iload_n (pc := 27) 1 dX6_number_27 rfl rfl ?_
        obtain ⟨x8, hc9, hs⟩ := bnd hs
        refine go_callV (bc := 0) (bs := 0) (mc := 0) (ms := 0) (d := d + 2) (pc := 28) (a := 0) (ci := 6) [vI a1] [] dX6_number_28 kX6_layLines mlX6_109 ivX6_layLines rfl rfl rfl rfl (Nat.le_of_ble_eq_true rfl) rfl (c_X6_layLines (d := d + 1) (res0 := x8.1) (res1 := x8.2.1) (res2 := x8.2.2) hc9) (fun r w' hq => ?_)
        obtain ⟨rfl, rfl⟩ := hq
        show Go mX6_number (d + 3) false 0 0 31 [some (vR 0), some (vI a1), some (vI a2), some (vI a3), none, none, none] [] (wM kn ne fi se x8.1 x8.2.1 x8.2.2 ta po ti nu mo wa nx oT cF bg ed sF qu qd tr) _
        refine go_iload_n (pc := 31) 2 dX6_number_31 rfl rfl ?_
        refine go_iload_n (pc := 32) 3 dX6_number_32 rfl rfl ?_
        refine go_icmp_ge (pc := 33) 40 dX6_number_33 (by decide) (fun h10 => ?_) (fun h10 => ?_)
        · have hs := it_t h10 hs
          refine go_iload_n (pc := 40) 3 dX6_number_40 rfl rfl ?_
          refine go_istore (pc := 41) [some (vR 0), some (vI a1), some (vI a2), some (vI a3), some (vI a3), none, none] dX6_number_41 (by decide) rfl ?_
          refine go_iload_n (pc := 43) 2 dX6_number_43 rfl rfl ?_
          refine go_iload_n (pc := 44) 3 dX6_number_44 rfl rfl ?_
          refine go_iadd (pc := 45) dX6_number_45 ?_
          refine go_iload (pc := 46) dX6_number_46 rfl ?_
          refine go_isub (pc := 48) dX6_number_48 ?_
          refine go_istore (pc := 49) [some (vR 0), some (vI a1), some (vI a2), some (vI a3), some (vI a3), some (vI ((a2 + a3) - a3)), none] dX6_number_49 (by decide) rfl ?_
          refine go_iconst (pc := 51) (0 : Int32) dX6_number_51 (by decide) ?_
          refine go_istore (pc := 52) [some (vR 0), some (vI a1), some (vI a2), some (vI a3), some (vI a3), some (vI ((a2 + a3) - a3)), some (vI (0 : Int32))] dX6_number_52 (by decide) rfl ?_
          refine go_sub (lv' := [some (vR 0), none, none, none, some (vI a3), some (vI ((a2 + a3) - a3)), some (vI (0 : Int32))]) ⟨rfl, ⟨rfl, ⟨rfl, ⟨rfl, trivial⟩⟩⟩⟩ ?_
          obtain ⟨e16, hl17, hs⟩ := bnd hs
          refine g_X6_number_54 (d := d) (0 : Int32) e16 hl17 ?_
          constructor
          · intro v19 hv21
            subst hv21
            simp only [Sum.elim_inl] at hs
            refine go_iload (pc := 87) dX6_number_87 rfl ?_
            cases hs
            exact go_ireturn (st := []) (pc := 89) dX6_number_89 rfl (vp_nar_int _) (fun h => by cases h) ⟨rfl, rfl⟩
          · intro  hv22
            subst hv22
            simp only [Sum.elim_inr] at hs
            refine go_iconst (pc := 96) (-1 : Int32) dX6_number_96 (by decide) ?_
            cases hs
            exact go_ireturn (st := []) (pc := 97) dX6_number_97 rfl (vp_nar_int _) (fun h => by cases h) ⟨rfl, rfl⟩
        · have hs := it_f h10 hs
          refine go_iload_n (pc := 36) 2 dX6_number_36 rfl rfl ?_
          refine go_goto (pc := 37) 41 dX6_number_37 (by decide) ?_
          refine go_istore (pc := 41) [some (vR 0), some (vI a1), some (vI a2), some (vI a3), some (vI a2), none, none] dX6_number_41 (by decide) rfl ?_
          refine go_iload_n (pc := 43) 2 dX6_number_43 rfl rfl ?_
          refine go_iload_n (pc := 44) 3 dX6_number_44 rfl rfl ?_
          refine go_iadd (pc := 45) dX6_number_45 ?_
          refine go_iload (pc := 46) dX6_number_46 rfl ?_
          refine go_isub (pc := 48) dX6_number_48 ?_
          refine go_istore (pc := 49) [some (vR 0), some (vI a1), some (vI a2), some (vI a3), some (vI a2), some (vI ((a2 + a3) - a2)), none] dX6_number_49 (by decide) rfl ?_
          refine go_iconst (pc := 51) (0 : Int32) dX6_number_51 (by decide) ?_
          refine go_istore (pc := 52) [some (vR 0), some (vI a1), some (vI a2), some (vI a3), some (vI a2), some (vI ((a2 + a3) - a2)), some (vI (0 : Int32))] dX6_number_52 (by decide) rfl ?_
          refine go_sub (lv' := [some (vR 0), none, none, none, some (vI a2), some (vI ((a2 + a3) - a2)), some (vI (0 : Int32))]) ⟨rfl, ⟨rfl, ⟨rfl, ⟨rfl, trivial⟩⟩⟩⟩ ?_
          obtain ⟨e23, hl24, hs⟩ := bnd hs
          refine g_X6_number_54 (d := d) (0 : Int32) e23 hl24 ?_
          constructor
          · intro v26 hv28
            subst hv28
            simp only [Sum.elim_inl] at hs
            refine go_iload (pc := 87) dX6_number_87 rfl ?_
            cases hs
            exact go_ireturn (st := []) (pc := 89) dX6_number_89 rfl (vp_nar_int _) (fun h => by cases h) ⟨rfl, rfl⟩
          · intro  hv29
            subst hv29
            simp only [Sum.elim_inr] at hs
            refine go_iconst (pc := 96) (-1 : Int32) dX6_number_96 (by decide) ?_
            cases hs
            exact go_ireturn (st := []) (pc := 97) dX6_number_97 rfl (vp_nar_int _) (fun h => by cases h) ⟨rfl, rfl⟩
      · have hs := it_t h7 hs
        refine go_bipush (pc := 23) (-2 : Int32) dX6_number_23 (by decide) ?_
        cases hs
        exact go_ireturn (st := []) (pc := 25) dX6_number_25 rfl (vp_nar_int _) (fun h => by cases h) ⟨rfl, rfl⟩
noncomputable def b_X6_outside_6 (kn : (Nat → Int32)) (ne : (Nat → Int32)) (y1 : Int32) (y2 : Int32) (y3 : Int32) (x : Int32 × Int32) : Option ((Int32 × Int32) ⊕ (Int32)) := chk y1 4 (if (kn y1.toNatClampNeg) ≤ x.2 then (some (Sum.inr x.1)) else (if ((y2 >>> (x.2 &&& 31)) &&& (1 : Int32)) = (1 : Int32) then (if y3 = 0 then (if (0 : Int32) ≤ 0 then (some (Sum.inl (x.1 + (0 : Int32), x.2 + (1 : Int32)))) else (some (Sum.inl (x.1 + (1 : Int32), x.2 + (1 : Int32))))) else (some (Sum.inl (x.1 + (0 : Int32), x.2 + (1 : Int32))))) else (chk (((10 : Int32) * y1) + x.2) 40 ((s_X6_bits ((ne (((10 : Int32) * y1) + x.2).toNatClampNeg) &&& y2)).bind (fun x5 => if y3 = 0 then (if x5 ≤ 0 then (some (Sum.inl (x.1 + (0 : Int32), x.2 + (1 : Int32)))) else (some (Sum.inl (x.1 + (1 : Int32), x.2 + (1 : Int32))))) else (some (Sum.inl (x.1 + x5, x.2 + (1 : Int32)))))))))
noncomputable def s_X6_outside (kn : (Nat → Int32)) (ne : (Nat → Int32)) (a1 : Int32) (a2 : Int32) (a3 : Int32) : Option (Int32) := (loop (b_X6_outside_6 kn ne a1 a2 a3) ((0 : Int32), (0 : Int32))).bind (fun e11 => some e11)
set_option maxRecDepth 20000 in
theorem g_X6_outside_6 {d : Nat} {Q : Option AV → List AC → Prop} {y1 : Int32} {y2 : Int32} {y3 : Int32} (x0_ : Int32) (x1_ : Int32) (r : Int32) (hl : loop (b_X6_outside_6 kn ne y1 y2 y3) (x0_, x1_) = some r) (hk : Go mX6_outside (d + 1) false 0 0 80 [none, none, none, none, some (vI r), none, none] [] (wM kn ne fi se ma on ot ta po ti nu mo wa nx oT cF bg ed sF qu qd tr) Q) : Go mX6_outside (d + 1) false 0 0 6 [some (vR 0), some (vI y1), some (vI y2), some (vI y3), some (vI x0_), some (vI x1_), none] [] (wM kn ne fi se ma on ot ta po ti nu mo wa nx oT cF bg ed sF qu qd tr) Q := by
  refine loop_go (P := fun x : Int32 × Int32 => ∀ (x0_ : Int32) (x1_ : Int32), x = (x0_, x1_) → Go mX6_outside (d + 1) false 0 0 6 [some (vR 0), some (vI y1), some (vI y2), some (vI y3), some (vI x0_), some (vI x1_), none] [] (wM kn ne fi se ma on ot ta po ti nu mo wa nx oT cF bg ed sF qu qd tr) Q) (K := fun r : Int32 => Go mX6_outside (d + 1) false 0 0 80 [none, none, none, none, some (vI r), none, none] [] (wM kn ne fi se ma on ot ta po ti nu mo wa nx oT cF bg ed sF qu qd tr) Q) ?_ (x0_, x1_) r hl hk x0_ x1_ rfl
  · intro x y hs hI hE x0_ x1_ hx
    subst hx
    unfold b_X6_outside_6 at hs
    try dsimp only at hs
    refine go_iload (pc := 6) dX6_outside_6 rfl ?_
    refine go_aload_n (pc := 8) 0 dX6_outside_8 rfl rfl ?_
    refine go_getfield (pc := 9) (v := vR 1) 0 6 0 dX6_outside_9 flX6_7 rfl rfl ?_
    refine go_iload_n (pc := 12) 1 dX6_outside_12 rfl rfl ?_
    obtain ⟨hi1, hs⟩ := chk_t hs
    refine go_iaload (pc := 13) 1 dX6_outside_13 rfl hi1 ?_
    refine go_icmp_ge (pc := 14) 80 dX6_outside_14 (by decide) (fun h2 => ?_) (fun h2 => ?_)
    · have hs := it_t h2 hs
      obtain rfl := Option.some.inj hs
      refine go_sub (lv' := [none, none, none, none, some (vI x0_), none, none]) ⟨rfl, trivial⟩ ?_
      exact hE x0_ rfl
    · have hs := it_f h2 hs
      refine go_iload_n (pc := 17) 2 dX6_outside_17 rfl rfl ?_
      refine go_iload (pc := 18) dX6_outside_18 rfl ?_
      refine go_ishr (pc := 20) dX6_outside_20 ?_
      refine go_iconst (pc := 21) (1 : Int32) dX6_outside_21 (by decide) ?_
      refine go_iand (pc := 22) dX6_outside_22 ?_
      refine go_iconst (pc := 23) (1 : Int32) dX6_outside_23 (by decide) ?_
      refine go_icmp_ne (pc := 24) 31 dX6_outside_24 (by decide) (fun h3 => ?_) (fun h3 => ?_)
      · have hs := it_f h3 hs
        refine go_aload_n (pc := 31) 0 dX6_outside_31 rfl rfl ?_
        refine go_getfield (pc := 32) (v := vR 2) 0 6 1 dX6_outside_32 flX6_13 rfl rfl ?_
        refine go_bipush (pc := 35) (10 : Int32) dX6_outside_35 (by decide) ?_
        refine go_iload_n (pc := 37) 1 dX6_outside_37 rfl rfl ?_
        refine go_imul (pc := 38) dX6_outside_38 ?_
        refine go_iload (pc := 39) dX6_outside_39 rfl ?_
        refine go_iadd (pc := 41) dX6_outside_41 ?_
        obtain ⟨hi4, hs⟩ := chk_t hs
        refine go_iaload (pc := 42) 2 dX6_outside_42 rfl hi4 ?_
        refine go_iload_n (pc := 43) 2 dX6_outside_43 rfl rfl ?_
        refine go_iand (pc := 44) dX6_outside_44 ?_
        obtain ⟨x5, hc6, hs⟩ := bnd hs
        refine go_callS (bc := 0) (bs := 0) (mc := 0) (ms := 0) (d := d + 0) (pc := 45) [vI ((ne (((10 : Int32) * y1) + x1_).toNatClampNeg) &&& y2)] [] dX6_outside_45 kX6_bits mlX6_73 isX6_bits rfl (Nat.le_of_ble_eq_true rfl) rfl (c_X6_bits (d := d + 0) (res0 := x5) hc6) (fun r w' hq => ?_)
        obtain ⟨rfl, rfl⟩ := hq
        show Go mX6_outside (d + 1) false 0 0 48 [some (vR 0), some (vI y1), some (vI y2), some (vI y3), some (vI x0_), some (vI x1_), none] [vI x5] (wM kn ne fi se ma on ot ta po ti nu mo wa nx oT cF bg ed sF qu qd tr) Q
        refine go_istore (pc := 48) [some (vR 0), some (vI y1), some (vI y2), some (vI y3), some (vI x0_), some (vI x1_), some (vI x5)] dX6_outside_48 (by decide) rfl ?_
        refine go_iload (pc := 50) dX6_outside_50 rfl ?_
        refine go_iload_n (pc := 52) 3 dX6_outside_52 rfl rfl ?_
        refine go_if_eq (pc := 53) 61 dX6_outside_53 (by decide) (fun h7 => ?_) (fun h7 => ?_)
        · have hs := it_t h7 hs
          refine go_iload (pc := 61) dX6_outside_61 rfl ?_
          refine go_if_le (pc := 63) 70 dX6_outside_63 (by decide) (fun h8 => ?_) (fun h8 => ?_)
          · have hs := it_t h8 hs
            refine go_iconst (pc := 70) (0 : Int32) dX6_outside_70 (by decide) ?_
            refine go_iadd (pc := 71) dX6_outside_71 ?_
            refine go_istore (pc := 72) [some (vR 0), some (vI y1), some (vI y2), some (vI y3), some (vI (x0_ + (0 : Int32))), some (vI x1_), some (vI x5)] dX6_outside_72 (by decide) rfl ?_
            refine go_iinc (pc := 74) (x1_ + (1 : Int32)) [some (vR 0), some (vI y1), some (vI y2), some (vI y3), some (vI (x0_ + (0 : Int32))), some (vI (x1_ + (1 : Int32))), some (vI x5)] dX6_outside_74 rfl (iinc_1 _) (by decide) rfl ?_
            refine go_goto (pc := 77) 6 dX6_outside_77 (by decide) ?_
            obtain rfl := Option.some.inj hs
            refine go_sub (lv' := [some (vR 0), some (vI y1), some (vI y2), some (vI y3), some (vI (x0_ + (0 : Int32))), some (vI (x1_ + (1 : Int32))), none]) ⟨rfl, ⟨rfl, ⟨rfl, ⟨rfl, ⟨rfl, ⟨rfl, trivial⟩⟩⟩⟩⟩⟩ ?_
            exact hI (x0_ + (0 : Int32), x1_ + (1 : Int32)) rfl (x0_ + (0 : Int32)) (x1_ + (1 : Int32)) rfl
          · have hs := it_f h8 hs
            refine go_iconst (pc := 66) (1 : Int32) dX6_outside_66 (by decide) ?_
            refine go_goto (pc := 67) 71 dX6_outside_67 (by decide) ?_
            refine go_iadd (pc := 71) dX6_outside_71 ?_
            refine go_istore (pc := 72) [some (vR 0), some (vI y1), some (vI y2), some (vI y3), some (vI (x0_ + (1 : Int32))), some (vI x1_), some (vI x5)] dX6_outside_72 (by decide) rfl ?_
            refine go_iinc (pc := 74) (x1_ + (1 : Int32)) [some (vR 0), some (vI y1), some (vI y2), some (vI y3), some (vI (x0_ + (1 : Int32))), some (vI (x1_ + (1 : Int32))), some (vI x5)] dX6_outside_74 rfl (iinc_1 _) (by decide) rfl ?_
            refine go_goto (pc := 77) 6 dX6_outside_77 (by decide) ?_
            obtain rfl := Option.some.inj hs
            refine go_sub (lv' := [some (vR 0), some (vI y1), some (vI y2), some (vI y3), some (vI (x0_ + (1 : Int32))), some (vI (x1_ + (1 : Int32))), none]) ⟨rfl, ⟨rfl, ⟨rfl, ⟨rfl, ⟨rfl, ⟨rfl, trivial⟩⟩⟩⟩⟩⟩ ?_
            exact hI (x0_ + (1 : Int32), x1_ + (1 : Int32)) rfl (x0_ + (1 : Int32)) (x1_ + (1 : Int32)) rfl
        · have hs := it_f h7 hs
          refine go_iload (pc := 56) dX6_outside_56 rfl ?_
          refine go_goto (pc := 58) 71 dX6_outside_58 (by decide) ?_
          refine go_iadd (pc := 71) dX6_outside_71 ?_
          refine go_istore (pc := 72) [some (vR 0), some (vI y1), some (vI y2), some (vI y3), some (vI (x0_ + x5)), some (vI x1_), some (vI x5)] dX6_outside_72 (by decide) rfl ?_
          refine go_iinc (pc := 74) (x1_ + (1 : Int32)) [some (vR 0), some (vI y1), some (vI y2), some (vI y3), some (vI (x0_ + x5)), some (vI (x1_ + (1 : Int32))), some (vI x5)] dX6_outside_74 rfl (iinc_1 _) (by decide) rfl ?_
          refine go_goto (pc := 77) 6 dX6_outside_77 (by decide) ?_
          obtain rfl := Option.some.inj hs
          refine go_sub (lv' := [some (vR 0), some (vI y1), some (vI y2), some (vI y3), some (vI (x0_ + x5)), some (vI (x1_ + (1 : Int32))), none]) ⟨rfl, ⟨rfl, ⟨rfl, ⟨rfl, ⟨rfl, ⟨rfl, trivial⟩⟩⟩⟩⟩⟩ ?_
          exact hI (x0_ + x5, x1_ + (1 : Int32)) rfl (x0_ + x5) (x1_ + (1 : Int32)) rfl
      · have hs := it_t h3 hs
        refine go_iconst (pc := 27) (0 : Int32) dX6_outside_27 (by decide) ?_
        refine go_goto (pc := 28) 48 dX6_outside_28 (by decide) ?_
        refine go_istore (pc := 48) [some (vR 0), some (vI y1), some (vI y2), some (vI y3), some (vI x0_), some (vI x1_), some (vI (0 : Int32))] dX6_outside_48 (by decide) rfl ?_
        refine go_iload (pc := 50) dX6_outside_50 rfl ?_
        refine go_iload_n (pc := 52) 3 dX6_outside_52 rfl rfl ?_
        refine go_if_eq (pc := 53) 61 dX6_outside_53 (by decide) (fun h9 => ?_) (fun h9 => ?_)
        · have hs := it_t h9 hs
          refine go_iload (pc := 61) dX6_outside_61 rfl ?_
          refine go_if_le (pc := 63) 70 dX6_outside_63 (by decide) (fun h10 => ?_) (fun h10 => ?_)
          · have hs := it_t h10 hs
            refine go_iconst (pc := 70) (0 : Int32) dX6_outside_70 (by decide) ?_
            refine go_iadd (pc := 71) dX6_outside_71 ?_
            refine go_istore (pc := 72) [some (vR 0), some (vI y1), some (vI y2), some (vI y3), some (vI (x0_ + (0 : Int32))), some (vI x1_), some (vI (0 : Int32))] dX6_outside_72 (by decide) rfl ?_
            refine go_iinc (pc := 74) (x1_ + (1 : Int32)) [some (vR 0), some (vI y1), some (vI y2), some (vI y3), some (vI (x0_ + (0 : Int32))), some (vI (x1_ + (1 : Int32))), some (vI (0 : Int32))] dX6_outside_74 rfl (iinc_1 _) (by decide) rfl ?_
            refine go_goto (pc := 77) 6 dX6_outside_77 (by decide) ?_
            obtain rfl := Option.some.inj hs
            refine go_sub (lv' := [some (vR 0), some (vI y1), some (vI y2), some (vI y3), some (vI (x0_ + (0 : Int32))), some (vI (x1_ + (1 : Int32))), none]) ⟨rfl, ⟨rfl, ⟨rfl, ⟨rfl, ⟨rfl, ⟨rfl, trivial⟩⟩⟩⟩⟩⟩ ?_
            exact hI (x0_ + (0 : Int32), x1_ + (1 : Int32)) rfl (x0_ + (0 : Int32)) (x1_ + (1 : Int32)) rfl
          · have hs := it_f h10 hs
            refine go_iconst (pc := 66) (1 : Int32) dX6_outside_66 (by decide) ?_
            refine go_goto (pc := 67) 71 dX6_outside_67 (by decide) ?_
            refine go_iadd (pc := 71) dX6_outside_71 ?_
            refine go_istore (pc := 72) [some (vR 0), some (vI y1), some (vI y2), some (vI y3), some (vI (x0_ + (1 : Int32))), some (vI x1_), some (vI (0 : Int32))] dX6_outside_72 (by decide) rfl ?_
            refine go_iinc (pc := 74) (x1_ + (1 : Int32)) [some (vR 0), some (vI y1), some (vI y2), some (vI y3), some (vI (x0_ + (1 : Int32))), some (vI (x1_ + (1 : Int32))), some (vI (0 : Int32))] dX6_outside_74 rfl (iinc_1 _) (by decide) rfl ?_
            refine go_goto (pc := 77) 6 dX6_outside_77 (by decide) ?_
            obtain rfl := Option.some.inj hs
            refine go_sub (lv' := [some (vR 0), some (vI y1), some (vI y2), some (vI y3), some (vI (x0_ + (1 : Int32))), some (vI (x1_ + (1 : Int32))), none]) ⟨rfl, ⟨rfl, ⟨rfl, ⟨rfl, ⟨rfl, ⟨rfl, trivial⟩⟩⟩⟩⟩⟩ ?_
            exact hI (x0_ + (1 : Int32), x1_ + (1 : Int32)) rfl (x0_ + (1 : Int32)) (x1_ + (1 : Int32)) rfl
        · have hs := it_f h9 hs
          refine go_iload (pc := 56) dX6_outside_56 rfl ?_
          refine go_goto (pc := 58) 71 dX6_outside_58 (by decide) ?_
          refine go_iadd (pc := 71) dX6_outside_71 ?_
          refine go_istore (pc := 72) [some (vR 0), some (vI y1), some (vI y2), some (vI y3), some (vI (x0_ + (0 : Int32))), some (vI x1_), some (vI (0 : Int32))] dX6_outside_72 (by decide) rfl ?_
          refine go_iinc (pc := 74) (x1_ + (1 : Int32)) [some (vR 0), some (vI y1), some (vI y2), some (vI y3), some (vI (x0_ + (0 : Int32))), some (vI (x1_ + (1 : Int32))), some (vI (0 : Int32))] dX6_outside_74 rfl (iinc_1 _) (by decide) rfl ?_
          refine go_goto (pc := 77) 6 dX6_outside_77 (by decide) ?_
          obtain rfl := Option.some.inj hs
          refine go_sub (lv' := [some (vR 0), some (vI y1), some (vI y2), some (vI y3), some (vI (x0_ + (0 : Int32))), some (vI (x1_ + (1 : Int32))), none]) ⟨rfl, ⟨rfl, ⟨rfl, ⟨rfl, ⟨rfl, ⟨rfl, trivial⟩⟩⟩⟩⟩⟩ ?_
          exact hI (x0_ + (0 : Int32), x1_ + (1 : Int32)) rfl (x0_ + (0 : Int32)) (x1_ + (1 : Int32)) rfl
set_option maxRecDepth 20000 in
theorem c_X6_outside {d : Nat}  {a1 : Int32} {a2 : Int32} {a3 : Int32} {res0 : Int32} (hs : s_X6_outside kn ne a1 a2 a3 = some res0) : Calls mX6_outside (d + 1) false 0 0 [vR 0, vI a1, vI a2, vI a3] (wM kn ne fi se ma on ot ta po ti nu mo wa nx oT cF bg ed sF qu qd tr) (fun r w' => r = some (vI res0) ∧ w' = (wM kn ne fi se ma on ot ta po ti nu mo wa nx oT cF bg ed sF qu qd tr)) := by
  unfold s_X6_outside at hs
  refine Calls.of kX6_outside 3 [some (vR 0), some (vI a1), some (vI a2), some (vI a3), none, none, none] rfl (Nat.le_of_ble_eq_true rfl) ?_
  refine go_iconst (pc := 0) (0 : Int32) dX6_outside_0 (by decide) ?_
  refine go_istore (pc := 1) [some (vR 0), some (vI a1), some (vI a2), some (vI a3), some (vI (0 : Int32)), none, none] dX6_outside_1 (by decide) rfl ?_
  refine go_iconst (pc := 3) (0 : Int32) dX6_outside_3 (by decide) ?_
  refine go_istore (pc := 4) [some (vR 0), some (vI a1), some (vI a2), some (vI a3), some (vI (0 : Int32)), some (vI (0 : Int32)), none] dX6_outside_4 (by decide) rfl ?_
  obtain ⟨e11, hl12, hs⟩ := bnd hs
  refine g_X6_outside_6 (d := d) (0 : Int32) (0 : Int32) e11 hl12 ?_
  refine go_iload (pc := 80) dX6_outside_80 rfl ?_
  cases hs
  exact go_ireturn (st := []) (pc := 82) dX6_outside_82 rfl (vp_nar_int _) (fun h => by cases h) ⟨rfl, rfl⟩
end
