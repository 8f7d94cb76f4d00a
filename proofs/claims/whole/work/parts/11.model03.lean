section
variable {kn : (Nat → Int32)} {ne : (Nat → Int32)} {fi : (Nat → Int32)} {se : (Nat → Int32)} {ma : Int32} {on : (Nat → Int32)} {ot : (Nat → Int32)} {ta : (Nat → Int64)} {po : (Nat → Int64)} {ti : (Nat → Int64)} {nu : (Nat → Int64)} {mo : (Nat → Int64)} {wa : (Nat → Int64)} {nx : (Nat → Int64)} {oT : (Nat → Int32)} {cF : (Nat → Int32)} {bg : Int32} {ed : Int32} {sF : (Nat → Int32)} {qu : (Nat → Int32)} {qd : Int32} {tr : (Nat → Int32)}
noncomputable def b_X6_turned_27 (ne : (Nat → Int32)) (y1 : Int32) (x : Int32 × (Nat → Int32)) : Option ((Int32 × (Nat → Int32)) ⊕ ((Nat → Int32))) := if (10 : Int32) ≤ x.1 then (some (Sum.inr x.2)) else (chk (((10 : Int32) * y1) + x.1) 40 (chk x.1 10 (some (Sum.inl (x.1 + (1 : Int32), upd x.2 x.1.toNatClampNeg (ne (((10 : Int32) * y1) + x.1).toNatClampNeg))))))
noncomputable def b_X6_turned_68 (fi : (Nat → Int32)) (y2 : Int32) (y3 : Int32) (x : Int32 × (Nat → Int32)) : Option ((Int32 × (Nat → Int32)) ⊕ ((Nat → Int32))) := if y3 ≤ x.1 then (some (Sum.inr x.2)) else (chk x.1 10 (chk (((10 : Int32) * y2) + x.1) 40 (some (Sum.inl (x.1 + (1 : Int32), upd x.2 (((10 : Int32) * y2) + x.1).toNatClampNeg (((((1 : Int32) <<< (y3 &&& 31)) - (1 : Int32)) &&& ((fi x.1.toNatClampNeg) ^^^ (-1 : Int32))) &&& (((1 : Int32) <<< (x.1 &&& 31)) ^^^ (-1 : Int32))))))))
noncomputable def s_X6_turned (kn : (Nat → Int32)) (ne : (Nat → Int32)) (fi : (Nat → Int32)) (a1 : Int32) (a2 : Int32) : Option (Int32 × (Nat → Int32) × (Nat → Int32) × (Nat → Int32)) := (s_X6_isNet a1).bind (fun x1 => if x1 = 0 then (some ((-2 : Int32), kn, ne, fi)) else ((s_X6_isNet a2).bind (fun x4 => if x4 = 0 then (some ((-2 : Int32), kn, ne, fi)) else (chk a1 4 ((loop (b_X6_turned_27 ne a1) ((0 : Int32), fi)).bind (fun e11 => (s_X6_begin kn ne a2 (kn a1.toNatClampNeg)).bind (fun x14 => (loop (b_X6_turned_68 e11 a2 (kn a1.toNatClampNeg)) ((0 : Int32), x14.2)).bind (fun e19 => (s_X6_lines x14.1 e19 a2).bind (fun x22 => some (x22, x14.1, e19, e11))))))))))
set_option maxRecDepth 20000 in
theorem g_X6_turned_27 {d : Nat} {Q : Option AV → List AC → Prop} {y1 : Int32} {y2 : Int32} {y3 : Int32} (x0_ : Int32) (x1_ : (Nat → Int32)) (r : (Nat → Int32)) (hl : loop (b_X6_turned_27 ne y1) (x0_, x1_) = some r) (hk : Go mX6_turned (d + 2) false 0 0 59 [some (vR 0), none, some (vI y2), some (vI y3), none] [] (wM kn ne r se ma on ot ta po ti nu mo wa nx oT cF bg ed sF qu qd tr) Q) : Go mX6_turned (d + 2) false 0 0 27 [some (vR 0), some (vI y1), some (vI y2), some (vI y3), some (vI x0_)] [] (wM kn ne x1_ se ma on ot ta po ti nu mo wa nx oT cF bg ed sF qu qd tr) Q := by
  refine loop_go (P := fun x : Int32 × (Nat → Int32) => ∀ (x0_ : Int32) (x1_ : (Nat → Int32)), x = (x0_, x1_) → Go mX6_turned (d + 2) false 0 0 27 [some (vR 0), some (vI y1), some (vI y2), some (vI y3), some (vI x0_)] [] (wM kn ne x1_ se ma on ot ta po ti nu mo wa nx oT cF bg ed sF qu qd tr) Q) (K := fun r : (Nat → Int32) => Go mX6_turned (d + 2) false 0 0 59 [some (vR 0), none, some (vI y2), some (vI y3), none] [] (wM kn ne r se ma on ot ta po ti nu mo wa nx oT cF bg ed sF qu qd tr) Q) ?_ (x0_, x1_) r hl hk x0_ x1_ rfl
  · intro x y hs hI hE x0_ x1_ hx
    subst hx
    unfold b_X6_turned_27 at hs
    try dsimp only at hs
    refine go_iload (pc := 27) dX6_turned_27 rfl ?_
    refine go_bipush (pc := 29) (10 : Int32) dX6_turned_29 (by decide) ?_
    refine go_icmp_ge (pc := 31) 59 dX6_turned_31 (by decide) (fun h8 => ?_) (fun h8 => ?_)
    · have hs := it_t h8 hs
      obtain rfl := Option.some.inj hs
      refine go_sub (lv' := [some (vR 0), none, some (vI y2), some (vI y3), none]) ⟨rfl, ⟨rfl, ⟨rfl, trivial⟩⟩⟩ ?_
      exact hE x1_ rfl
    · have hs := it_f h8 hs
      refine go_aload_n (pc := 34) 0 dX6_turned_34 rfl rfl ?_
      refine go_getfield (pc := 35) (v := vR 3) 0 6 2 dX6_turned_35 flX6_16 rfl rfl ?_
      refine go_iload (pc := 38) dX6_turned_38 rfl ?_
      refine go_aload_n (pc := 40) 0 dX6_turned_40 rfl rfl ?_
      refine go_getfield (pc := 41) (v := vR 2) 0 6 1 dX6_turned_41 flX6_13 rfl rfl ?_
      refine go_bipush (pc := 44) (10 : Int32) dX6_turned_44 (by decide) ?_
      refine go_iload_n (pc := 46) 1 dX6_turned_46 rfl rfl ?_
      refine go_imul (pc := 47) dX6_turned_47 ?_
      refine go_iload (pc := 48) dX6_turned_48 rfl ?_
      refine go_iadd (pc := 50) dX6_turned_50 ?_
      obtain ⟨hi9, hs⟩ := chk_t hs
      refine go_iaload (pc := 51) 2 dX6_turned_51 rfl hi9 ?_
      obtain ⟨hi10, hs⟩ := chk_t hs
      refine go_iastore (pc := 52) 3 dX6_turned_52 rfl hi10 (show Go mX6_turned (d + 2) false 0 0 53 [some (vR 0), some (vI y1), some (vI y2), some (vI y3), some (vI x0_)] [] (wM kn ne (upd x1_ x0_.toNatClampNeg (ne (((10 : Int32) * y1) + x0_).toNatClampNeg)) se ma on ot ta po ti nu mo wa nx oT cF bg ed sF qu qd tr) Q from ?_)
      refine go_iinc (pc := 53) (x0_ + (1 : Int32)) [some (vR 0), some (vI y1), some (vI y2), some (vI y3), some (vI (x0_ + (1 : Int32)))] dX6_turned_53 rfl (iinc_1 _) (by decide) rfl ?_
      refine go_goto (pc := 56) 27 dX6_turned_56 (by decide) ?_
      obtain rfl := Option.some.inj hs
      exact hI (x0_ + (1 : Int32), upd x1_ x0_.toNatClampNeg (ne (((10 : Int32) * y1) + x0_).toNatClampNeg)) rfl (x0_ + (1 : Int32)) (upd x1_ x0_.toNatClampNeg (ne (((10 : Int32) * y1) + x0_).toNatClampNeg)) rfl
set_option maxRecDepth 20000 in
theorem g_X6_turned_68 {d : Nat} {Q : Option AV → List AC → Prop} {y2 : Int32} {y3 : Int32} (x0_ : Int32) (x1_ : (Nat → Int32)) (r : (Nat → Int32)) (hl : loop (b_X6_turned_68 fi y2 y3) (x0_, x1_) = some r) (hk : Go mX6_turned (d + 2) false 0 0 114 [some (vR 0), none, some (vI y2), none, none] [] (wM kn r fi se ma on ot ta po ti nu mo wa nx oT cF bg ed sF qu qd tr) Q) : Go mX6_turned (d + 2) false 0 0 68 [some (vR 0), none, some (vI y2), some (vI y3), some (vI x0_)] [] (wM kn x1_ fi se ma on ot ta po ti nu mo wa nx oT cF bg ed sF qu qd tr) Q := by
  refine loop_go (P := fun x : Int32 × (Nat → Int32) => ∀ (x0_ : Int32) (x1_ : (Nat → Int32)), x = (x0_, x1_) → Go mX6_turned (d + 2) false 0 0 68 [some (vR 0), none, some (vI y2), some (vI y3), some (vI x0_)] [] (wM kn x1_ fi se ma on ot ta po ti nu mo wa nx oT cF bg ed sF qu qd tr) Q) (K := fun r : (Nat → Int32) => Go mX6_turned (d + 2) false 0 0 114 [some (vR 0), none, some (vI y2), none, none] [] (wM kn r fi se ma on ot ta po ti nu mo wa nx oT cF bg ed sF qu qd tr) Q) ?_ (x0_, x1_) r hl hk x0_ x1_ rfl
  · intro x y hs hI hE x0_ x1_ hx
    subst hx
    unfold b_X6_turned_68 at hs
    try dsimp only at hs
    refine go_iload (pc := 68) dX6_turned_68 rfl ?_
    refine go_iload_n (pc := 70) 3 dX6_turned_70 rfl rfl ?_
    refine go_icmp_ge (pc := 71) 114 dX6_turned_71 (by decide) (fun h16 => ?_) (fun h16 => ?_)
    · have hs := it_t h16 hs
      obtain rfl := Option.some.inj hs
      refine go_sub (lv' := [some (vR 0), none, some (vI y2), none, none]) ⟨rfl, ⟨rfl, trivial⟩⟩ ?_
      exact hE x1_ rfl
    · have hs := it_f h16 hs
      refine go_aload_n (pc := 74) 0 dX6_turned_74 rfl rfl ?_
      refine go_getfield (pc := 75) (v := vR 2) 0 6 1 dX6_turned_75 flX6_13 rfl rfl ?_
      refine go_bipush (pc := 78) (10 : Int32) dX6_turned_78 (by decide) ?_
      refine go_iload_n (pc := 80) 2 dX6_turned_80 rfl rfl ?_
      refine go_imul (pc := 81) dX6_turned_81 ?_
      refine go_iload (pc := 82) dX6_turned_82 rfl ?_
      refine go_iadd (pc := 84) dX6_turned_84 ?_
      refine go_iconst (pc := 85) (1 : Int32) dX6_turned_85 (by decide) ?_
      refine go_iload_n (pc := 86) 3 dX6_turned_86 rfl rfl ?_
      refine go_ishl (pc := 87) dX6_turned_87 ?_
      refine go_iconst (pc := 88) (1 : Int32) dX6_turned_88 (by decide) ?_
      refine go_isub (pc := 89) dX6_turned_89 ?_
      refine go_aload_n (pc := 90) 0 dX6_turned_90 rfl rfl ?_
      refine go_getfield (pc := 91) (v := vR 3) 0 6 2 dX6_turned_91 flX6_16 rfl rfl ?_
      refine go_iload (pc := 94) dX6_turned_94 rfl ?_
      obtain ⟨hi17, hs⟩ := chk_t hs
      refine go_iaload (pc := 96) 3 dX6_turned_96 rfl hi17 ?_
      refine go_iconst (pc := 97) (-1 : Int32) dX6_turned_97 (by decide) ?_
      refine go_ixor (pc := 98) dX6_turned_98 ?_
      refine go_iand (pc := 99) dX6_turned_99 ?_
      refine go_iconst (pc := 100) (1 : Int32) dX6_turned_100 (by decide) ?_
      refine go_iload (pc := 101) dX6_turned_101 rfl ?_
      refine go_ishl (pc := 103) dX6_turned_103 ?_
      refine go_iconst (pc := 104) (-1 : Int32) dX6_turned_104 (by decide) ?_
      refine go_ixor (pc := 105) dX6_turned_105 ?_
      refine go_iand (pc := 106) dX6_turned_106 ?_
      obtain ⟨hi18, hs⟩ := chk_t hs
      refine go_iastore (pc := 107) 2 dX6_turned_107 rfl hi18 (show Go mX6_turned (d + 2) false 0 0 108 [some (vR 0), none, some (vI y2), some (vI y3), some (vI x0_)] [] (wM kn (upd x1_ (((10 : Int32) * y2) + x0_).toNatClampNeg (((((1 : Int32) <<< (y3 &&& 31)) - (1 : Int32)) &&& ((fi x0_.toNatClampNeg) ^^^ (-1 : Int32))) &&& (((1 : Int32) <<< (x0_ &&& 31)) ^^^ (-1 : Int32)))) fi se ma on ot ta po ti nu mo wa nx oT cF bg ed sF qu qd tr) Q from ?_)
      refine go_iinc (pc := 108) (x0_ + (1 : Int32)) [some (vR 0), none, some (vI y2), some (vI y3), some (vI (x0_ + (1 : Int32)))] dX6_turned_108 rfl (iinc_1 _) (by decide) rfl ?_
      refine go_goto (pc := 111) 68 dX6_turned_111 (by decide) ?_
      obtain rfl := Option.some.inj hs
      exact hI (x0_ + (1 : Int32), upd x1_ (((10 : Int32) * y2) + x0_).toNatClampNeg (((((1 : Int32) <<< (y3 &&& 31)) - (1 : Int32)) &&& ((fi x0_.toNatClampNeg) ^^^ (-1 : Int32))) &&& (((1 : Int32) <<< (x0_ &&& 31)) ^^^ (-1 : Int32)))) rfl (x0_ + (1 : Int32)) (upd x1_ (((10 : Int32) * y2) + x0_).toNatClampNeg (((((1 : Int32) <<< (y3 &&& 31)) - (1 : Int32)) &&& ((fi x0_.toNatClampNeg) ^^^ (-1 : Int32))) &&& (((1 : Int32) <<< (x0_ &&& 31)) ^^^ (-1 : Int32)))) rfl
set_option maxRecDepth 20000 in
theorem c_X6_turned {d : Nat}  {a1 : Int32} {a2 : Int32} {res0 : Int32} {res1 : (Nat → Int32)} {res2 : (Nat → Int32)} {res3 : (Nat → Int32)} (hs : s_X6_turned kn ne fi a1 a2 = some (res0, res1, res2, res3)) : Calls mX6_turned (d + 2) false 0 0 [vR 0, vI a1, vI a2] (wM kn ne fi se ma on ot ta po ti nu mo wa nx oT cF bg ed sF qu qd tr) (fun r w' => r = some (vI res0) ∧ w' = (wM res1 res2 res3 se ma on ot ta po ti nu mo wa nx oT cF bg ed sF qu qd tr)) := by
  unfold s_X6_turned at hs
  refine Calls.of kX6_turned 2 [some (vR 0), some (vI a1), some (vI a2), none, none] rfl (Nat.le_of_ble_eq_true rfl) ?_
  refine go_iload_n (pc := 0) 1 dX6_turned_0 rfl rfl ?_
  obtain ⟨x1, hc2, hs⟩ := bnd hs
  refine go_callS (bc := 0) (bs := 0) (mc := 0) (ms := 0) (d := d + 1) (pc := 1) [vI a1] [] dX6_turned_1 kX6_isNet mlX6_69 isX6_isNet rfl (Nat.le_of_ble_eq_true rfl) rfl (c_X6_isNet (d := d + 0) (res0 := x1) hc2) (fun r w' hq => ?_)
  obtain ⟨rfl, rfl⟩ := hq
  show Go mX6_turned (d + 2) false 0 0 4 [some (vR 0), some (vI a1), some (vI a2), none, none] [vI x1] (wM kn ne fi se ma on ot ta po ti nu mo wa nx oT cF bg ed sF qu qd tr) _
  refine go_if_eq (pc := 4) 14 dX6_turned_4 (by decide) (fun h3 => ?_) (fun h3 => ?_)
  · have hs := it_t h3 hs
    refine go_bipush (pc := 14) (-2 : Int32) dX6_turned_14 (by decide) ?_
    cases hs
    exact go_ireturn (st := []) (pc := 16) dX6_turned_16 rfl (vp_nar_int _) (fun h => by cases h) ⟨rfl, rfl⟩
  · have hs := it_f h3 hs
    refine go_iload_n (pc := 7) 2 dX6_turned_7 rfl rfl ?_
    obtain ⟨x4, hc5, hs⟩ := bnd hs
    refine go_callS (bc := 0) (bs := 0) (mc := 0) (ms := 0) (d := d + 1) (pc := 8) [vI a2] [] dX6_turned_8 kX6_isNet mlX6_69 isX6_isNet rfl (Nat.le_of_ble_eq_true rfl) rfl (c_X6_isNet (d := d + 0) (res0 := x4) hc5) (fun r w' hq => ?_)
    obtain ⟨rfl, rfl⟩ := hq
    show Go mX6_turned (d + 2) false 0 0 11 [some (vR 0), some (vI a1), some (vI a2), none, none] [vI x4] (wM kn ne fi se ma on ot ta po ti nu mo wa nx oT cF bg ed sF qu qd tr) _
    refine go_if_ne (pc := 11) 17 dX6_turned_11 (by decide) (fun h6 => ?_) (fun h6 => ?_)
    · have hs := it_f h6 hs
      refine go_aload_n (pc := 17) 0 dX6_turned_17 rfl rfl ?_
      refine go_getfield (pc := 18) (v := vR 1) 0 6 0 dX6_turned_18 flX6_7 rfl rfl ?_
      refine go_iload_n (pc := 21) 1 dX6_turned_21 rfl rfl ?_
      obtain ⟨hi7, hs⟩ := chk_t hs
      refine go_iaload (pc := 22) 1 dX6_turned_22 rfl hi7 ?_
      refine go_istore_n (pc := 23) 3 [some (vR 0), some (vI a1), some (vI a2), some (vI (kn a1.toNatClampNeg)), none] dX6_turned_23 rfl (by decide) rfl ?_
      refine go_iconst (pc := 24) (0 : Int32) dX6_turned_24 (by decide) ?_
      refine go_istore (pc := 25) [some (vR 0), some (vI a1), some (vI a2), some (vI (kn a1.toNatClampNeg)), some (vI (0 : Int32))] dX6_turned_25 (by decide) rfl ?_
      obtain ⟨e11, hl12, hs⟩ := bnd hs
      refine g_X6_turned_27 (d := d) (0 : Int32) fi e11 hl12 ?_
      refine go_aload_n (pc := 59) 0 dX6_turned_59 rfl rfl ?_
      refine go_iload_n (pc := 60) 2 dX6_turned_60 rfl rfl ?_
      refine go_iload_n (pc := 61) 3 dX6_turned_61 rfl rfl ?_
      obtain ⟨x14, hc15, hs⟩ := bnd hs
      refine go_callV (bc := 0) (bs := 0) (mc := 0) (ms := 0) (d := d + 1) (pc := 62) (a := 0) (ci := 6) [vI a2, vI (kn a1.toNatClampNeg)] [] dX6_turned_62 kX6_begin mlX6_77 ivX6_begin rfl rfl rfl rfl (Nat.le_of_ble_eq_true rfl) rfl (c_X6_begin (d := d + 1) (res0 := x14.1) (res1 := x14.2) hc15) (fun r w' hq => ?_)
      obtain ⟨rfl, rfl⟩ := hq
      show Go mX6_turned (d + 2) false 0 0 65 [some (vR 0), none, some (vI a2), some (vI (kn a1.toNatClampNeg)), none] [] (wM x14.1 x14.2 e11 se ma on ot ta po ti nu mo wa nx oT cF bg ed sF qu qd tr) _
      refine go_iconst (pc := 65) (0 : Int32) dX6_turned_65 (by decide) ?_
      refine go_istore (pc := 66) [some (vR 0), none, some (vI a2), some (vI (kn a1.toNatClampNeg)), some (vI (0 : Int32))] dX6_turned_66 (by decide) rfl ?_
      obtain ⟨e19, hl20, hs⟩ := bnd hs
      refine g_X6_turned_68 (d := d) (0 : Int32) x14.2 e19 hl20 ?_
      refine go_aload_n (pc := 114) 0 dX6_turned_114 rfl rfl ?_
      refine go_iload_n (pc := 115) 2 dX6_turned_115 rfl rfl ?_
      obtain ⟨x22, hc23, hs⟩ := bnd hs
      refine go_callV (bc := 0) (bs := 0) (mc := 0) (ms := 0) (d := d + 1) (pc := 116) (a := 0) (ci := 6) [vI a2] [] dX6_turned_116 kX6_lines mlX6_92 ivX6_lines rfl rfl rfl rfl (Nat.le_of_ble_eq_true rfl) rfl (c_X6_lines (d := d + 0) (res0 := x22) hc23) (fun r w' hq => ?_)
      obtain ⟨rfl, rfl⟩ := hq
      show Go mX6_turned (d + 2) false 0 0 119 [some (vR 0), none, some (vI a2), none, none] [vI x22] (wM x14.1 e19 e11 se ma on ot ta po ti nu mo wa nx oT cF bg ed sF qu qd tr) _
      cases hs
      exact go_ireturn (st := []) (pc := 119) dX6_turned_119 rfl (vp_nar_int _) (fun h => by cases h) ⟨rfl, rfl⟩
    · have hs := it_t h6 hs
      refine go_bipush (pc := 14) (-2 : Int32) dX6_turned_14 (by decide) ?_
      cases hs
      exact go_ireturn (st := []) (pc := 16) dX6_turned_16 rfl (vp_nar_int _) (fun h => by cases h) ⟨rfl, rfl⟩
noncomputable def b_X6_degreeOf_15 (kn : (Nat → Int32)) (ne : (Nat → Int32)) (y1 : Int32) (x : Int32 × Int32) : Option ((Int32 × Int32) ⊕ (Int32)) := chk y1 4 (if (kn y1.toNatClampNeg) ≤ x.2 then (some (Sum.inr x.1)) else (chk (((10 : Int32) * y1) + x.2) 40 ((s_X6_bits (ne (((10 : Int32) * y1) + x.2).toNatClampNeg)).bind (fun x7 => if x7 = x.1 then (some (Sum.inl (x.1, x.2 + (1 : Int32)))) else (some (Sum.inl ((-1 : Int32), x.2 + (1 : Int32))))))))
noncomputable def s_X6_degreeOf (kn : (Nat → Int32)) (ne : (Nat → Int32)) (a1 : Int32) : Option (Int32) := chk ((10 : Int32) * a1) 40 ((s_X6_bits (ne ((10 : Int32) * a1).toNatClampNeg)).bind (fun x2 => (loop (b_X6_degreeOf_15 kn ne a1) (x2, (1 : Int32))).bind (fun e10 => some e10)))
set_option maxRecDepth 20000 in
theorem g_X6_degreeOf_15 {d : Nat} {Q : Option AV → List AC → Prop} {y1 : Int32} (x0_ : Int32) (x1_ : Int32) (r : Int32) (hl : loop (b_X6_degreeOf_15 kn ne y1) (x0_, x1_) = some r) (hk : Go mX6_degreeOf (d + 1) false 0 0 55 [none, none, some (vI r), none] [] (wM kn ne fi se ma on ot ta po ti nu mo wa nx oT cF bg ed sF qu qd tr) Q) : Go mX6_degreeOf (d + 1) false 0 0 15 [some (vR 0), some (vI y1), some (vI x0_), some (vI x1_)] [] (wM kn ne fi se ma on ot ta po ti nu mo wa nx oT cF bg ed sF qu qd tr) Q := by
  refine loop_go (P := fun x : Int32 × Int32 => ∀ (x0_ : Int32) (x1_ : Int32), x = (x0_, x1_) → Go mX6_degreeOf (d + 1) false 0 0 15 [some (vR 0), some (vI y1), some (vI x0_), some (vI x1_)] [] (wM kn ne fi se ma on ot ta po ti nu mo wa nx oT cF bg ed sF qu qd tr) Q) (K := fun r : Int32 => Go mX6_degreeOf (d + 1) false 0 0 55 [none, none, some (vI r), none] [] (wM kn ne fi se ma on ot ta po ti nu mo wa nx oT cF bg ed sF qu qd tr) Q) ?_ (x0_, x1_) r hl hk x0_ x1_ rfl
  · intro x y hs hI hE x0_ x1_ hx
    subst hx
    unfold b_X6_degreeOf_15 at hs
    try dsimp only at hs
    refine go_iload_n (pc := 15) 3 dX6_degreeOf_15 rfl rfl ?_
    refine go_aload_n (pc := 16) 0 dX6_degreeOf_16 rfl rfl ?_
    refine go_getfield (pc := 17) (v := vR 1) 0 6 0 dX6_degreeOf_17 flX6_7 rfl rfl ?_
    refine go_iload_n (pc := 20) 1 dX6_degreeOf_20 rfl rfl ?_
    obtain ⟨hi4, hs⟩ := chk_t hs
    refine go_iaload (pc := 21) 1 dX6_degreeOf_21 rfl hi4 ?_
    refine go_icmp_ge (pc := 22) 55 dX6_degreeOf_22 (by decide) (fun h5 => ?_) (fun h5 => ?_)
    · have hs := it_t h5 hs
      obtain rfl := Option.some.inj hs
      refine go_sub (lv' := [none, none, some (vI x0_), none]) ⟨rfl, trivial⟩ ?_
      exact hE x0_ rfl
    · have hs := it_f h5 hs
      refine go_aload_n (pc := 25) 0 dX6_degreeOf_25 rfl rfl ?_
      refine go_getfield (pc := 26) (v := vR 2) 0 6 1 dX6_degreeOf_26 flX6_13 rfl rfl ?_
      refine go_bipush (pc := 29) (10 : Int32) dX6_degreeOf_29 (by decide) ?_
      refine go_iload_n (pc := 31) 1 dX6_degreeOf_31 rfl rfl ?_
      refine go_imul (pc := 32) dX6_degreeOf_32 ?_
      refine go_iload_n (pc := 33) 3 dX6_degreeOf_33 rfl rfl ?_
      refine go_iadd (pc := 34) dX6_degreeOf_34 ?_
      obtain ⟨hi6, hs⟩ := chk_t hs
      refine go_iaload (pc := 35) 2 dX6_degreeOf_35 rfl hi6 ?_
      obtain ⟨x7, hc8, hs⟩ := bnd hs
      refine go_callS (bc := 0) (bs := 0) (mc := 0) (ms := 0) (d := d + 0) (pc := 36) [vI (ne (((10 : Int32) * y1) + x1_).toNatClampNeg)] [] dX6_degreeOf_36 kX6_bits mlX6_73 isX6_bits rfl (Nat.le_of_ble_eq_true rfl) rfl (c_X6_bits (d := d + 0) (res0 := x7) hc8) (fun r w' hq => ?_)
      obtain ⟨rfl, rfl⟩ := hq
      show Go mX6_degreeOf (d + 1) false 0 0 39 [some (vR 0), some (vI y1), some (vI x0_), some (vI x1_)] [vI x7] (wM kn ne fi se ma on ot ta po ti nu mo wa nx oT cF bg ed sF qu qd tr) Q
      refine go_iload_n (pc := 39) 2 dX6_degreeOf_39 rfl rfl ?_
      refine go_icmp_ne (pc := 40) 47 dX6_degreeOf_40 (by decide) (fun h9 => ?_) (fun h9 => ?_)
      · have hs := it_f h9 hs
        refine go_iconst (pc := 47) (-1 : Int32) dX6_degreeOf_47 (by decide) ?_
        refine go_istore_n (pc := 48) 2 [some (vR 0), some (vI y1), some (vI (-1 : Int32)), some (vI x1_)] dX6_degreeOf_48 rfl (by decide) rfl ?_
        refine go_iinc (pc := 49) (x1_ + (1 : Int32)) [some (vR 0), some (vI y1), some (vI (-1 : Int32)), some (vI (x1_ + (1 : Int32)))] dX6_degreeOf_49 rfl (iinc_1 _) (by decide) rfl ?_
        refine go_goto (pc := 52) 15 dX6_degreeOf_52 (by decide) ?_
        obtain rfl := Option.some.inj hs
        exact hI ((-1 : Int32), x1_ + (1 : Int32)) rfl (-1 : Int32) (x1_ + (1 : Int32)) rfl
      · have hs := it_t h9 hs
        refine go_iload_n (pc := 43) 2 dX6_degreeOf_43 rfl rfl ?_
        refine go_goto (pc := 44) 48 dX6_degreeOf_44 (by decide) ?_
        refine go_istore_n (pc := 48) 2 [some (vR 0), some (vI y1), some (vI x0_), some (vI x1_)] dX6_degreeOf_48 rfl (by decide) rfl ?_
        refine go_iinc (pc := 49) (x1_ + (1 : Int32)) [some (vR 0), some (vI y1), some (vI x0_), some (vI (x1_ + (1 : Int32)))] dX6_degreeOf_49 rfl (iinc_1 _) (by decide) rfl ?_
        refine go_goto (pc := 52) 15 dX6_degreeOf_52 (by decide) ?_
        obtain rfl := Option.some.inj hs
        exact hI (x0_, x1_ + (1 : Int32)) rfl x0_ (x1_ + (1 : Int32)) rfl
set_option maxRecDepth 20000 in
theorem c_X6_degreeOf {d : Nat}  {a1 : Int32} {res0 : Int32} (hs : s_X6_degreeOf kn ne a1 = some res0) : Calls mX6_degreeOf (d + 1) false 0 0 [vR 0, vI a1] (wM kn ne fi se ma on ot ta po ti nu mo wa nx oT cF bg ed sF qu qd tr) (fun r w' => r = some (vI res0) ∧ w' = (wM kn ne fi se ma on ot ta po ti nu mo wa nx oT cF bg ed sF qu qd tr)) := by
  unfold s_X6_degreeOf at hs
  refine Calls.of kX6_degreeOf 2 [some (vR 0), some (vI a1), none, none] rfl (Nat.le_of_ble_eq_true rfl) ?_
  refine go_aload_n (pc := 0) 0 dX6_degreeOf_0 rfl rfl ?_
  refine go_getfield (pc := 1) (v := vR 2) 0 6 1 dX6_degreeOf_1 flX6_13 rfl rfl ?_
  refine go_bipush (pc := 4) (10 : Int32) dX6_degreeOf_4 (by decide) ?_
  refine go_iload_n (pc := 6) 1 dX6_degreeOf_6 rfl rfl ?_
  refine go_imul (pc := 7) dX6_degreeOf_7 ?_
  obtain ⟨hi1, hs⟩ := chk_t hs
  refine go_iaload (pc := 8) 2 dX6_degreeOf_8 rfl hi1 ?_
  obtain ⟨x2, hc3, hs⟩ := bnd hs
  refine go_callS (bc := 0) (bs := 0) (mc := 0) (ms := 0) (d := d + 0) (pc := 9) [vI (ne ((10 : Int32) * a1).toNatClampNeg)] [] dX6_degreeOf_9 kX6_bits mlX6_73 isX6_bits rfl (Nat.le_of_ble_eq_true rfl) rfl (c_X6_bits (d := d + 0) (res0 := x2) hc3) (fun r w' hq => ?_)
  obtain ⟨rfl, rfl⟩ := hq
  show Go mX6_degreeOf (d + 1) false 0 0 12 [some (vR 0), some (vI a1), none, none] [vI x2] (wM kn ne fi se ma on ot ta po ti nu mo wa nx oT cF bg ed sF qu qd tr) _
  refine go_istore_n (pc := 12) 2 [some (vR 0), some (vI a1), some (vI x2), none] dX6_degreeOf_12 rfl (by decide) rfl ?_
  refine go_iconst (pc := 13) (1 : Int32) dX6_degreeOf_13 (by decide) ?_
  refine go_istore_n (pc := 14) 3 [some (vR 0), some (vI a1), some (vI x2), some (vI (1 : Int32))] dX6_degreeOf_14 rfl (by decide) rfl ?_
  obtain ⟨e10, hl11, hs⟩ := bnd hs
  refine g_X6_degreeOf_15 (d := d) x2 (1 : Int32) e10 hl11 ?_
  refine go_iload_n (pc := 55) 2 dX6_degreeOf_55 rfl rfl ?_
  cases hs
  exact go_ireturn (st := []) (pc := 56) dX6_degreeOf_56 rfl (vp_nar_int _) (fun h => by cases h) ⟨rfl, rfl⟩
noncomputable def b_X6_grown_19 (kn : (Nat → Int32)) (ne : (Nat → Int32)) (y1 : Int32) (x : Int32 × Int32) : Option ((Int32 × Int32) ⊕ (Int32)) := chk y1 4 (if (kn y1.toNatClampNeg) ≤ x.2 then (some (Sum.inr x.1)) else (if ((x.1 >>> (x.2 &&& 31)) &&& (1 : Int32)) = (1 : Int32) then (chk (((10 : Int32) * y1) + x.2) 40 (some (Sum.inl (x.1 ||| (ne (((10 : Int32) * y1) + x.2).toNatClampNeg), x.2 + (1 : Int32))))) else (some (Sum.inl (x.1 ||| (0 : Int32), x.2 + (1 : Int32))))))
noncomputable def b_X6_grown_5 (kn : (Nat → Int32)) (ne : (Nat → Int32)) (y1 : Int32) (x : Int32 × Int32) : Option ((Int32 × Int32) ⊕ (Int32)) := chk y1 4 (if (kn y1.toNatClampNeg) ≤ x.2 then (some (Sum.inr x.1)) else ((loop (b_X6_grown_19 kn ne y1) (x.1, (0 : Int32))).bind (fun e7 => some (Sum.inl (e7, x.2 + (1 : Int32))))))
noncomputable def s_X6_grown (kn : (Nat → Int32)) (ne : (Nat → Int32)) (a1 : Int32) (a2 : Int32) : Option (Int32) := (loop (b_X6_grown_5 kn ne a1) (a2, (0 : Int32))).bind (fun e10 => some e10)
set_option maxRecDepth 20000 in
theorem g_X6_grown_19 {d : Nat} {Q : Option AV → List AC → Prop} {y1 : Int32} {y4 : Int32} (x0_ : Int32) (x1_ : Int32) (r : Int32) (hl : loop (b_X6_grown_19 kn ne y1) (x0_, x1_) = some r) (hk : Go mX6_grown (d + 0) false 0 0 65 [some (vR 0), some (vI y1), none, some (vI r), some (vI y4), none] [] (wM kn ne fi se ma on ot ta po ti nu mo wa nx oT cF bg ed sF qu qd tr) Q) : Go mX6_grown (d + 0) false 0 0 19 [some (vR 0), some (vI y1), none, some (vI x0_), some (vI y4), some (vI x1_)] [] (wM kn ne fi se ma on ot ta po ti nu mo wa nx oT cF bg ed sF qu qd tr) Q := by
  refine loop_go (P := fun x : Int32 × Int32 => ∀ (x0_ : Int32) (x1_ : Int32), x = (x0_, x1_) → Go mX6_grown (d + 0) false 0 0 19 [some (vR 0), some (vI y1), none, some (vI x0_), some (vI y4), some (vI x1_)] [] (wM kn ne fi se ma on ot ta po ti nu mo wa nx oT cF bg ed sF qu qd tr) Q) (K := fun r : Int32 => Go mX6_grown (d + 0) false 0 0 65 [some (vR 0), some (vI y1), none, some (vI r), some (vI y4), none] [] (wM kn ne fi se ma on ot ta po ti nu mo wa nx oT cF bg ed sF qu qd tr) Q) ?_ (x0_, x1_) r hl hk x0_ x1_ rfl
  · intro x y hs hI hE x0_ x1_ hx
    subst hx
    unfold b_X6_grown_19 at hs
    try dsimp only at hs
    refine go_iload (pc := 19) dX6_grown_19 rfl ?_
    refine go_aload_n (pc := 21) 0 dX6_grown_21 rfl rfl ?_
    refine go_getfield (pc := 22) (v := vR 1) 0 6 0 dX6_grown_22 flX6_7 rfl rfl ?_
    refine go_iload_n (pc := 25) 1 dX6_grown_25 rfl rfl ?_
    obtain ⟨hi3, hs⟩ := chk_t hs
    refine go_iaload (pc := 26) 1 dX6_grown_26 rfl hi3 ?_
    refine go_icmp_ge (pc := 27) 65 dX6_grown_27 (by decide) (fun h4 => ?_) (fun h4 => ?_)
    · have hs := it_t h4 hs
      obtain rfl := Option.some.inj hs
      refine go_sub (lv' := [some (vR 0), some (vI y1), none, some (vI x0_), some (vI y4), none]) ⟨rfl, ⟨rfl, ⟨rfl, ⟨rfl, trivial⟩⟩⟩⟩ ?_
      exact hE x0_ rfl
    · have hs := it_f h4 hs
      refine go_iload_n (pc := 30) 3 dX6_grown_30 rfl rfl ?_
      refine go_iload_n (pc := 31) 3 dX6_grown_31 rfl rfl ?_
      refine go_iload (pc := 32) dX6_grown_32 rfl ?_
      refine go_ishr (pc := 34) dX6_grown_34 ?_
      refine go_iconst (pc := 35) (1 : Int32) dX6_grown_35 (by decide) ?_
      refine go_iand (pc := 36) dX6_grown_36 ?_
      refine go_iconst (pc := 37) (1 : Int32) dX6_grown_37 (by decide) ?_
      refine go_icmp_ne (pc := 38) 56 dX6_grown_38 (by decide) (fun h5 => ?_) (fun h5 => ?_)
      · have hs := it_f h5 hs
        refine go_iconst (pc := 56) (0 : Int32) dX6_grown_56 (by decide) ?_
        refine go_ior (pc := 57) dX6_grown_57 ?_
        refine go_istore_n (pc := 58) 3 [some (vR 0), some (vI y1), none, some (vI (x0_ ||| (0 : Int32))), some (vI y4), some (vI x1_)] dX6_grown_58 rfl (by decide) rfl ?_
        refine go_iinc (pc := 59) (x1_ + (1 : Int32)) [some (vR 0), some (vI y1), none, some (vI (x0_ ||| (0 : Int32))), some (vI y4), some (vI (x1_ + (1 : Int32)))] dX6_grown_59 rfl (iinc_1 _) (by decide) rfl ?_
        refine go_goto (pc := 62) 19 dX6_grown_62 (by decide) ?_
        obtain rfl := Option.some.inj hs
        exact hI (x0_ ||| (0 : Int32), x1_ + (1 : Int32)) rfl (x0_ ||| (0 : Int32)) (x1_ + (1 : Int32)) rfl
      · have hs := it_t h5 hs
        refine go_aload_n (pc := 41) 0 dX6_grown_41 rfl rfl ?_
        refine go_getfield (pc := 42) (v := vR 2) 0 6 1 dX6_grown_42 flX6_13 rfl rfl ?_
        refine go_bipush (pc := 45) (10 : Int32) dX6_grown_45 (by decide) ?_
        refine go_iload_n (pc := 47) 1 dX6_grown_47 rfl rfl ?_
        refine go_imul (pc := 48) dX6_grown_48 ?_
        refine go_iload (pc := 49) dX6_grown_49 rfl ?_
        refine go_iadd (pc := 51) dX6_grown_51 ?_
        obtain ⟨hi6, hs⟩ := chk_t hs
        refine go_iaload (pc := 52) 2 dX6_grown_52 rfl hi6 ?_
        refine go_goto (pc := 53) 57 dX6_grown_53 (by decide) ?_
        refine go_ior (pc := 57) dX6_grown_57 ?_
        refine go_istore_n (pc := 58) 3 [some (vR 0), some (vI y1), none, some (vI (x0_ ||| (ne (((10 : Int32) * y1) + x1_).toNatClampNeg))), some (vI y4), some (vI x1_)] dX6_grown_58 rfl (by decide) rfl ?_
        refine go_iinc (pc := 59) (x1_ + (1 : Int32)) [some (vR 0), some (vI y1), none, some (vI (x0_ ||| (ne (((10 : Int32) * y1) + x1_).toNatClampNeg))), some (vI y4), some (vI (x1_ + (1 : Int32)))] dX6_grown_59 rfl (iinc_1 _) (by decide) rfl ?_
        refine go_goto (pc := 62) 19 dX6_grown_62 (by decide) ?_
        obtain rfl := Option.some.inj hs
        exact hI (x0_ ||| (ne (((10 : Int32) * y1) + x1_).toNatClampNeg), x1_ + (1 : Int32)) rfl (x0_ ||| (ne (((10 : Int32) * y1) + x1_).toNatClampNeg)) (x1_ + (1 : Int32)) rfl
set_option maxRecDepth 20000 in
theorem g_X6_grown_5 {d : Nat} {Q : Option AV → List AC → Prop} {y1 : Int32} (x0_ : Int32) (x1_ : Int32) (r : Int32) (hl : loop (b_X6_grown_5 kn ne y1) (x0_, x1_) = some r) (hk : Go mX6_grown (d + 0) false 0 0 71 [none, none, none, some (vI r), none, none] [] (wM kn ne fi se ma on ot ta po ti nu mo wa nx oT cF bg ed sF qu qd tr) Q) : Go mX6_grown (d + 0) false 0 0 5 [some (vR 0), some (vI y1), none, some (vI x0_), some (vI x1_), none] [] (wM kn ne fi se ma on ot ta po ti nu mo wa nx oT cF bg ed sF qu qd tr) Q := by
  refine loop_go (P := fun x : Int32 × Int32 => ∀ (x0_ : Int32) (x1_ : Int32), x = (x0_, x1_) → Go mX6_grown (d + 0) false 0 0 5 [some (vR 0), some (vI y1), none, some (vI x0_), some (vI x1_), none] [] (wM kn ne fi se ma on ot ta po ti nu mo wa nx oT cF bg ed sF qu qd tr) Q) (K := fun r : Int32 => Go mX6_grown (d + 0) false 0 0 71 [none, none, none, some (vI r), none, none] [] (wM kn ne fi se ma on ot ta po ti nu mo wa nx oT cF bg ed sF qu qd tr) Q) ?_ (x0_, x1_) r hl hk x0_ x1_ rfl
  · intro x y hs hI hE x0_ x1_ hx
    subst hx
    unfold b_X6_grown_5 at hs
    try dsimp only at hs
    refine go_iload (pc := 5) dX6_grown_5 rfl ?_
    refine go_aload_n (pc := 7) 0 dX6_grown_7 rfl rfl ?_
    refine go_getfield (pc := 8) (v := vR 1) 0 6 0 dX6_grown_8 flX6_7 rfl rfl ?_
    refine go_iload_n (pc := 11) 1 dX6_grown_11 rfl rfl ?_
    obtain ⟨hi1, hs⟩ := chk_t hs
    refine go_iaload (pc := 12) 1 dX6_grown_12 rfl hi1 ?_
    refine go_icmp_ge (pc := 13) 71 dX6_grown_13 (by decide) (fun h2 => ?_) (fun h2 => ?_)
    · have hs := it_t h2 hs
      obtain rfl := Option.some.inj hs
      refine go_sub (lv' := [none, none, none, some (vI x0_), none, none]) ⟨rfl, trivial⟩ ?_
      exact hE x0_ rfl
    · have hs := it_f h2 hs
      refine go_iconst (pc := 16) (0 : Int32) dX6_grown_16 (by decide) ?_
      refine go_istore (pc := 17) [some (vR 0), some (vI y1), none, some (vI x0_), some (vI x1_), some (vI (0 : Int32))] dX6_grown_17 (by decide) rfl ?_
      obtain ⟨e7, hl8, hs⟩ := bnd hs
      refine g_X6_grown_19 (d := d) x0_ (0 : Int32) e7 hl8 ?_
      refine go_iinc (pc := 65) (x1_ + (1 : Int32)) [some (vR 0), some (vI y1), none, some (vI e7), some (vI (x1_ + (1 : Int32))), none] dX6_grown_65 rfl (iinc_1 _) (by decide) rfl ?_
      refine go_goto (pc := 68) 5 dX6_grown_68 (by decide) ?_
      obtain rfl := Option.some.inj hs
      exact hI (e7, x1_ + (1 : Int32)) rfl e7 (x1_ + (1 : Int32)) rfl
set_option maxRecDepth 20000 in
theorem c_X6_grown {d : Nat}  {a1 : Int32} {a2 : Int32} {res0 : Int32} (hs : s_X6_grown kn ne a1 a2 = some res0) : Calls mX6_grown (d + 0) false 0 0 [vR 0, vI a1, vI a2] (wM kn ne fi se ma on ot ta po ti nu mo wa nx oT cF bg ed sF qu qd tr) (fun r w' => r = some (vI res0) ∧ w' = (wM kn ne fi se ma on ot ta po ti nu mo wa nx oT cF bg ed sF qu qd tr)) := by
  unfold s_X6_grown at hs
  refine Calls.of kX6_grown 3 [some (vR 0), some (vI a1), some (vI a2), none, none, none] rfl (Nat.le_of_ble_eq_true rfl) ?_
  refine go_iload_n (pc := 0) 2 dX6_grown_0 rfl rfl ?_
  refine go_istore_n (pc := 1) 3 [some (vR 0), some (vI a1), some (vI a2), some (vI a2), none, none] dX6_grown_1 rfl (by decide) rfl ?_
  refine go_iconst (pc := 2) (0 : Int32) dX6_grown_2 (by decide) ?_
  refine go_istore (pc := 3) [some (vR 0), some (vI a1), some (vI a2), some (vI a2), some (vI (0 : Int32)), none] dX6_grown_3 (by decide) rfl ?_
  refine go_sub (lv' := [some (vR 0), some (vI a1), none, some (vI a2), some (vI (0 : Int32)), none]) ⟨rfl, ⟨rfl, ⟨rfl, ⟨rfl, trivial⟩⟩⟩⟩ ?_
  obtain ⟨e10, hl11, hs⟩ := bnd hs
  refine g_X6_grown_5 (d := d) a2 (0 : Int32) e10 hl11 ?_
  refine go_iload_n (pc := 71) 3 dX6_grown_71 rfl rfl ?_
  cases hs
  exact go_ireturn (st := []) (pc := 72) dX6_grown_72 rfl (vp_nar_int _) (fun h => by cases h) ⟨rfl, rfl⟩
noncomputable def b_X6_parts_7 (kn : (Nat → Int32)) (ne : (Nat → Int32)) (y1 : Int32) (x : Int32 × Int32 × Int32) : Option ((Int32 × Int32 × Int32) ⊕ (Int32)) := chk y1 4 (if (kn y1.toNatClampNeg) ≤ x.2.2 then (some (Sum.inr x.1)) else (if ((x.2.1 >>> (x.2.2 &&& 31)) &&& (1 : Int32)) = 0 then ((s_X6_grown kn ne y1 ((1 : Int32) <<< (x.2.2 &&& 31))).bind (fun x4 => some (Sum.inl (x.1 + (1 : Int32), x.2.1 ||| x4, x.2.2 + (1 : Int32))))) else (some (Sum.inl (x.1, x.2.1, x.2.2 + (1 : Int32))))))
noncomputable def s_X6_parts (kn : (Nat → Int32)) (ne : (Nat → Int32)) (a1 : Int32) : Option (Int32) := (loop (b_X6_parts_7 kn ne a1) ((0 : Int32), (0 : Int32), (0 : Int32))).bind (fun e6 => some e6)
set_option maxRecDepth 20000 in
theorem g_X6_parts_7 {d : Nat} {Q : Option AV → List AC → Prop} {y1 : Int32} (x0_ : Int32) (x1_ : Int32) (x2_ : Int32) (r : Int32) (hl : loop (b_X6_parts_7 kn ne y1) (x0_, x1_, x2_) = some r) (hk : Go mX6_parts (d + 1) false 0 0 48 [none, none, some (vI r), none, none] [] (wM kn ne fi se ma on ot ta po ti nu mo wa nx oT cF bg ed sF qu qd tr) Q) : Go mX6_parts (d + 1) false 0 0 7 [some (vR 0), some (vI y1), some (vI x0_), some (vI x1_), some (vI x2_)] [] (wM kn ne fi se ma on ot ta po ti nu mo wa nx oT cF bg ed sF qu qd tr) Q := by
  refine loop_go (P := fun x : Int32 × Int32 × Int32 => ∀ (x0_ : Int32) (x1_ : Int32) (x2_ : Int32), x = (x0_, x1_, x2_) → Go mX6_parts (d + 1) false 0 0 7 [some (vR 0), some (vI y1), some (vI x0_), some (vI x1_), some (vI x2_)] [] (wM kn ne fi se ma on ot ta po ti nu mo wa nx oT cF bg ed sF qu qd tr) Q) (K := fun r : Int32 => Go mX6_parts (d + 1) false 0 0 48 [none, none, some (vI r), none, none] [] (wM kn ne fi se ma on ot ta po ti nu mo wa nx oT cF bg ed sF qu qd tr) Q) ?_ (x0_, x1_, x2_) r hl hk x0_ x1_ x2_ rfl
  · intro x y hs hI hE x0_ x1_ x2_ hx
    subst hx
    unfold b_X6_parts_7 at hs
    try dsimp only at hs
    refine go_iload (pc := 7) dX6_parts_7 rfl ?_
    refine go_aload_n (pc := 9) 0 dX6_parts_9 rfl rfl ?_
    refine go_getfield (pc := 10) (v := vR 1) 0 6 0 dX6_parts_10 flX6_7 rfl rfl ?_
    refine go_iload_n (pc := 13) 1 dX6_parts_13 rfl rfl ?_
    obtain ⟨hi1, hs⟩ := chk_t hs
    refine go_iaload (pc := 14) 1 dX6_parts_14 rfl hi1 ?_
    refine go_icmp_ge (pc := 15) 48 dX6_parts_15 (by decide) (fun h2 => ?_) (fun h2 => ?_)
    · have hs := it_t h2 hs
      obtain rfl := Option.some.inj hs
      refine go_sub (lv' := [none, none, some (vI x0_), none, none]) ⟨rfl, trivial⟩ ?_
      exact hE x0_ rfl
    · have hs := it_f h2 hs
      refine go_iload_n (pc := 18) 3 dX6_parts_18 rfl rfl ?_
      refine go_iload (pc := 19) dX6_parts_19 rfl ?_
      refine go_ishr (pc := 21) dX6_parts_21 ?_
      refine go_iconst (pc := 22) (1 : Int32) dX6_parts_22 (by decide) ?_
      refine go_iand (pc := 23) dX6_parts_23 ?_
      refine go_if_ne (pc := 24) 42 dX6_parts_24 (by decide) (fun h3 => ?_) (fun h3 => ?_)
      · have hs := it_f h3 hs
        refine go_iinc (pc := 42) (x2_ + (1 : Int32)) [some (vR 0), some (vI y1), some (vI x0_), some (vI x1_), some (vI (x2_ + (1 : Int32)))] dX6_parts_42 rfl (iinc_1 _) (by decide) rfl ?_
        refine go_goto (pc := 45) 7 dX6_parts_45 (by decide) ?_
        obtain rfl := Option.some.inj hs
        exact hI (x0_, x1_, x2_ + (1 : Int32)) rfl x0_ x1_ (x2_ + (1 : Int32)) rfl
      · have hs := it_t h3 hs
        refine go_iload_n (pc := 27) 3 dX6_parts_27 rfl rfl ?_
        refine go_aload_n (pc := 28) 0 dX6_parts_28 rfl rfl ?_
        refine go_iload_n (pc := 29) 1 dX6_parts_29 rfl rfl ?_
        refine go_iconst (pc := 30) (1 : Int32) dX6_parts_30 (by decide) ?_
        refine go_iload (pc := 31) dX6_parts_31 rfl ?_
        refine go_ishl (pc := 33) dX6_parts_33 ?_
        obtain ⟨x4, hc5, hs⟩ := bnd hs
        refine go_callV (bc := 0) (bs := 0) (mc := 0) (ms := 0) (d := d + 0) (pc := 34) (a := 0) (ci := 6) [vI y1, vI ((1 : Int32) <<< (x2_ &&& 31))] [vI x1_] dX6_parts_34 kX6_grown mlX6_95 ivX6_grown rfl rfl rfl rfl (Nat.le_of_ble_eq_true rfl) rfl (c_X6_grown (d := d + 0) (res0 := x4) hc5) (fun r w' hq => ?_)
        obtain ⟨rfl, rfl⟩ := hq
        show Go mX6_parts (d + 1) false 0 0 37 [some (vR 0), some (vI y1), some (vI x0_), some (vI x1_), some (vI x2_)] [vI x4, vI x1_] (wM kn ne fi se ma on ot ta po ti nu mo wa nx oT cF bg ed sF qu qd tr) Q
        refine go_ior (pc := 37) dX6_parts_37 ?_
        refine go_istore_n (pc := 38) 3 [some (vR 0), some (vI y1), some (vI x0_), some (vI (x1_ ||| x4)), some (vI x2_)] dX6_parts_38 rfl (by decide) rfl ?_
        refine go_iinc (pc := 39) (x0_ + (1 : Int32)) [some (vR 0), some (vI y1), some (vI (x0_ + (1 : Int32))), some (vI (x1_ ||| x4)), some (vI x2_)] dX6_parts_39 rfl (iinc_1 _) (by decide) rfl ?_
        refine go_iinc (pc := 42) (x2_ + (1 : Int32)) [some (vR 0), some (vI y1), some (vI (x0_ + (1 : Int32))), some (vI (x1_ ||| x4)), some (vI (x2_ + (1 : Int32)))] dX6_parts_42 rfl (iinc_1 _) (by decide) rfl ?_
        refine go_goto (pc := 45) 7 dX6_parts_45 (by decide) ?_
        obtain rfl := Option.some.inj hs
        exact hI (x0_ + (1 : Int32), x1_ ||| x4, x2_ + (1 : Int32)) rfl (x0_ + (1 : Int32)) (x1_ ||| x4) (x2_ + (1 : Int32)) rfl
set_option maxRecDepth 20000 in
theorem c_X6_parts {d : Nat}  {a1 : Int32} {res0 : Int32} (hs : s_X6_parts kn ne a1 = some res0) : Calls mX6_parts (d + 1) false 0 0 [vR 0, vI a1] (wM kn ne fi se ma on ot ta po ti nu mo wa nx oT cF bg ed sF qu qd tr) (fun r w' => r = some (vI res0) ∧ w' = (wM kn ne fi se ma on ot ta po ti nu mo wa nx oT cF bg ed sF qu qd tr)) := by
  unfold s_X6_parts at hs
  refine Calls.of kX6_parts 3 [some (vR 0), some (vI a1), none, none, none] rfl (Nat.le_of_ble_eq_true rfl) ?_
  refine go_iconst (pc := 0) (0 : Int32) dX6_parts_0 (by decide) ?_
  refine go_istore_n (pc := 1) 2 [some (vR 0), some (vI a1), some (vI (0 : Int32)), none, none] dX6_parts_1 rfl (by decide) rfl ?_
  refine go_iconst (pc := 2) (0 : Int32) dX6_parts_2 (by decide) ?_
  refine go_istore_n (pc := 3) 3 [some (vR 0), some (vI a1), some (vI (0 : Int32)), some (vI (0 : Int32)), none] dX6_parts_3 rfl (by decide) rfl ?_
  refine go_iconst (pc := 4) (0 : Int32) dX6_parts_4 (by decide) ?_
  refine go_istore (pc := 5) [some (vR 0), some (vI a1), some (vI (0 : Int32)), some (vI (0 : Int32)), some (vI (0 : Int32))] dX6_parts_5 (by decide) rfl ?_
  obtain ⟨e6, hl7, hs⟩ := bnd hs
  refine g_X6_parts_7 (d := d) (0 : Int32) (0 : Int32) (0 : Int32) e6 hl7 ?_
  refine go_iload_n (pc := 48) 2 dX6_parts_48 rfl rfl ?_
  cases hs
  exact go_ireturn (st := []) (pc := 49) dX6_parts_49 rfl (vp_nar_int _) (fun h => by cases h) ⟨rfl, rfl⟩
end
