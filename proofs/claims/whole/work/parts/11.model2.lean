section
variable {kn : (Nat → Int32)} {ne : (Nat → Int32)} {fi : (Nat → Int32)} {se : (Nat → Int32)} {ma : Int32} {on : (Nat → Int32)} {ot : (Nat → Int32)} {ta : (Nat → Int64)} {po : (Nat → Int64)} {ti : (Nat → Int64)} {nu : (Nat → Int64)} {mo : (Nat → Int64)} {wa : (Nat → Int64)} {nx : (Nat → Int64)} {oT : (Nat → Int32)} {cF : (Nat → Int32)} {bg : Int32} {ed : Int32} {sF : (Nat → Int32)} {qu : (Nat → Int32)} {qd : Int32} {tr : (Nat → Int32)}
noncomputable def b_X6_turned_27 (ne : (Nat → Int32)) (y1 : Int32) (x : Int32 × (Nat → Int32)) : Option ((Int32 × (Nat → Int32)) ⊕ ((Nat → Int32))) := if (10 : Int32) ≤ x.1 then (some (Sum.inr x.2)) else (chk (((10 : Int32) * y1) + x.1) 40 (chk x.1 10 (some (Sum.inl (x.1 + (1 : Int32), upd x.2 x.1.toNatClampNeg (ne (((10 : Int32) * y1) + x.1).toNatClampNeg))))))
noncomputable def b_X6_turned_68 (fi : (Nat → Int32)) (y2 : Int32) (y3 : Int32) (x : Int32 × (Nat → Int32)) : Option ((Int32 × (Nat → Int32)) ⊕ ((Nat → Int32))) := if y3 ≤ x.1 then (some (Sum.inr x.2)) else (chk x.1 10 (chk (((10 : Int32) * y2) + x.1) 40 (some (Sum.inl (x.1 + (1 : Int32), upd x.2 (((10 : Int32) * y2) + x.1).toNatClampNeg (((((1 : Int32) <<< (y3 &&& 31)) - (1 : Int32)) &&& ((fi x.1.toNatClampNeg) ^^^ (-1 : Int32))) &&& (((1 : Int32) <<< (x.1 &&& 31)) ^^^ (-1 : Int32))))))))
noncomputable def s_X6_turned (kn : (Nat → Int32)) (ne : (Nat → Int32)) (fi : (Nat → Int32)) (a1 : Int32) (a2 : Int32) : Option (Int32 × (Nat → Int32) × (Nat → Int32) × (Nat → Int32)) := (s_X6_isNet a1).bind (fun x1 => if x1 = 0 then (some ((-2 : Int32), kn, ne, fi)) else ((s_X6_isNet a2).bind (fun x4 => if x4 = 0 then (some ((-2 : Int32), kn, ne, fi)) else (chk a1 4 ((loop (b_X6_turned_27 ne a1) ((0 : Int32), fi)).bind (fun e11 => (s_X6_begin kn ne a2 (kn a1.toNatClampNeg)).bind (fun x13 => (loop (b_X6_turned_68 e11 a2 (kn a1.toNatClampNeg)) ((0 : Int32), x13.2)).bind (fun e18 => (s_X6_lines x13.1 e18 a2).bind (fun x20 => some (x20, x13.1, e18, e11))))))))))
set_option maxRecDepth 20000 in
theorem g_X6_turned_27 {d : Nat} {Q : Option AV → List AC → Prop} {y1 : Int32} {y2 : Int32} {y3 : Int32} (x : Int32 × (Nat → Int32)) (r : (Nat → Int32)) (hl : loop (b_X6_turned_27 ne y1) x = some r) (hk : (fun r : (Nat → Int32) => Go mX6_turned (d + 2) false 0 0 59 [some (vR 0), none, some (vI y2), some (vI y3), none] [] (wM kn ne r se ma on ot ta po ti nu mo wa nx oT cF bg ed sF qu qd tr) Q) r) : (fun x : Int32 × (Nat → Int32) => Go mX6_turned (d + 2) false 0 0 27 [some (vR 0), some (vI y1), some (vI y2), some (vI y3), some (vI x.1)] [] (wM kn ne x.2 se ma on ot ta po ti nu mo wa nx oT cF bg ed sF qu qd tr) Q) x := by
  refine loop_go (P := fun x : Int32 × (Nat → Int32) => Go mX6_turned (d + 2) false 0 0 27 [some (vR 0), some (vI y1), some (vI y2), some (vI y3), some (vI x.1)] [] (wM kn ne x.2 se ma on ot ta po ti nu mo wa nx oT cF bg ed sF qu qd tr) Q) (K := fun r : (Nat → Int32) => Go mX6_turned (d + 2) false 0 0 59 [some (vR 0), none, some (vI y2), some (vI y3), none] [] (wM kn ne r se ma on ot ta po ti nu mo wa nx oT cF bg ed sF qu qd tr) Q) ?_ x r hl hk
  · intro x y hs hI hE
    unfold b_X6_turned_27 at hs
    show Go mX6_turned (d + 2) false 0 0 27 [some (vR 0), some (vI y1), some (vI y2), some (vI y3), some (vI x.1)] [] (wM kn ne x.2 se ma on ot ta po ti nu mo wa nx oT cF bg ed sF qu qd tr) Q
    refine go_iload (pc := 27) dX6_turned_27 rfl ?_
    refine go_bipush (pc := 29) (10 : Int32) dX6_turned_29 (by decide) ?_
    refine go_icmp_ge (pc := 31) 59 dX6_turned_31 (by decide) (fun h8 => ?_) (fun h8 => ?_)
    · have hs := it_t h8 hs
      obtain rfl := Option.some.inj hs
      refine go_sub (lv' := [some (vR 0), none, some (vI y2), some (vI y3), none]) ⟨rfl, ⟨rfl, ⟨rfl, trivial⟩⟩⟩ ?_
      exact hE _ rfl
    · have hs := it_f h8 hs
      refine go_aload_n (pc := 34) 0 dX6_turned_34 rfl rfl ?_
      refine go_getfield (pc := 35) (v := vR 3) 0 6 2 dX6_turned_35 flX6_16 rfl rfl ?_
      refine go_iload (pc := 38) dX6_turned_38 rfl ?_
      refine go_aload_n (pc := 40) 0 dX6_turned_40 rfl rfl ?_
      refine go_getfield (pc := 41) (v := vR 2) 0 6 1 dX6_turned_41 flX6_13 rfl rfl ?_
      refine go_bipush (pc := 44) (10 : Int32) dX6_turned_44 (by decide) ?_
      refine go_iload_n (pc := 46) 1 dX6_turned_46 rfl rfl ?_
      refine go_imul (pc := 47) dX6_turned_47 ?_
      refine go_iload (pc := 48) dX6_turned_48 rfl ?_
      refine go_iadd (pc := 50) dX6_turned_50 ?_
      obtain ⟨hi9, hs⟩ := chk_t hs
      refine go_iaload (pc := 51) 2 dX6_turned_51 rfl hi9 ?_
      obtain ⟨hi10, hs⟩ := chk_t hs
      refine go_iastore (pc := 52) 3 dX6_turned_52 rfl hi10 (show Go mX6_turned (d + 2) false 0 0 53 [some (vR 0), some (vI y1), some (vI y2), some (vI y3), some (vI x.1)] [] (wM kn ne (upd x.2 x.1.toNatClampNeg (ne (((10 : Int32) * y1) + x.1).toNatClampNeg)) se ma on ot ta po ti nu mo wa nx oT cF bg ed sF qu qd tr) Q from ?_)
      refine go_iinc (pc := 53) (x.1 + (1 : Int32)) [some (vR 0), some (vI y1), some (vI y2), some (vI y3), some (vI (x.1 + (1 : Int32)))] dX6_turned_53 rfl rfl (by decide) rfl ?_
      refine go_goto (pc := 56) 27 dX6_turned_56 (by decide) ?_
      obtain rfl := Option.some.inj hs
      exact hI _ rfl
set_option maxRecDepth 20000 in
theorem g_X6_turned_68 {d : Nat} {Q : Option AV → List AC → Prop} {y2 : Int32} {y3 : Int32} (x : Int32 × (Nat → Int32)) (r : (Nat → Int32)) (hl : loop (b_X6_turned_68 fi y2 y3) x = some r) (hk : (fun r : (Nat → Int32) => Go mX6_turned (d + 2) false 0 0 114 [some (vR 0), none, some (vI y2), none, none] [] (wM kn r fi se ma on ot ta po ti nu mo wa nx oT cF bg ed sF qu qd tr) Q) r) : (fun x : Int32 × (Nat → Int32) => Go mX6_turned (d + 2) false 0 0 68 [some (vR 0), none, some (vI y2), some (vI y3), some (vI x.1)] [] (wM kn x.2 fi se ma on ot ta po ti nu mo wa nx oT cF bg ed sF qu qd tr) Q) x := by
  refine loop_go (P := fun x : Int32 × (Nat → Int32) => Go mX6_turned (d + 2) false 0 0 68 [some (vR 0), none, some (vI y2), some (vI y3), some (vI x.1)] [] (wM kn x.2 fi se ma on ot ta po ti nu mo wa nx oT cF bg ed sF qu qd tr) Q) (K := fun r : (Nat → Int32) => Go mX6_turned (d + 2) false 0 0 114 [some (vR 0), none, some (vI y2), none, none] [] (wM kn r fi se ma on ot ta po ti nu mo wa nx oT cF bg ed sF qu qd tr) Q) ?_ x r hl hk
  · intro x y hs hI hE
    unfold b_X6_turned_68 at hs
    show Go mX6_turned (d + 2) false 0 0 68 [some (vR 0), none, some (vI y2), some (vI y3), some (vI x.1)] [] (wM kn x.2 fi se ma on ot ta po ti nu mo wa nx oT cF bg ed sF qu qd tr) Q
    refine go_iload (pc := 68) dX6_turned_68 rfl ?_
    refine go_iload_n (pc := 70) 3 dX6_turned_70 rfl rfl ?_
    refine go_icmp_ge (pc := 71) 114 dX6_turned_71 (by decide) (fun h15 => ?_) (fun h15 => ?_)
    · have hs := it_t h15 hs
      obtain rfl := Option.some.inj hs
      refine go_sub (lv' := [some (vR 0), none, some (vI y2), none, none]) ⟨rfl, ⟨rfl, trivial⟩⟩ ?_
      exact hE _ rfl
    · have hs := it_f h15 hs
      refine go_aload_n (pc := 74) 0 dX6_turned_74 rfl rfl ?_
      refine go_getfield (pc := 75) (v := vR 2) 0 6 1 dX6_turned_75 flX6_13 rfl rfl ?_
      refine go_bipush (pc := 78) (10 : Int32) dX6_turned_78 (by decide) ?_
      refine go_iload_n (pc := 80) 2 dX6_turned_80 rfl rfl ?_
      refine go_imul (pc := 81) dX6_turned_81 ?_
      refine go_iload (pc := 82) dX6_turned_82 rfl ?_
      refine go_iadd (pc := 84) dX6_turned_84 ?_
      refine go_iconst (pc := 85) (1 : Int32) dX6_turned_85 (by decide) ?_
      refine go_iload_n (pc := 86) 3 dX6_turned_86 rfl rfl ?_
      refine go_ishl (pc := 87) dX6_turned_87 ?_
      refine go_iconst (pc := 88) (1 : Int32) dX6_turned_88 (by decide) ?_
      refine go_isub (pc := 89) dX6_turned_89 ?_
      refine go_aload_n (pc := 90) 0 dX6_turned_90 rfl rfl ?_
      refine go_getfield (pc := 91) (v := vR 3) 0 6 2 dX6_turned_91 flX6_16 rfl rfl ?_
      refine go_iload (pc := 94) dX6_turned_94 rfl ?_
      obtain ⟨hi16, hs⟩ := chk_t hs
      refine go_iaload (pc := 96) 3 dX6_turned_96 rfl hi16 ?_
      refine go_iconst (pc := 97) (-1 : Int32) dX6_turned_97 (by decide) ?_
      refine go_ixor (pc := 98) dX6_turned_98 ?_
      refine go_iand (pc := 99) dX6_turned_99 ?_
      refine go_iconst (pc := 100) (1 : Int32) dX6_turned_100 (by decide) ?_
      refine go_iload (pc := 101) dX6_turned_101 rfl ?_
      refine go_ishl (pc := 103) dX6_turned_103 ?_
      refine go_iconst (pc := 104) (-1 : Int32) dX6_turned_104 (by decide) ?_
      refine go_ixor (pc := 105) dX6_turned_105 ?_
      refine go_iand (pc := 106) dX6_turned_106 ?_
      obtain ⟨hi17, hs⟩ := chk_t hs
      refine go_iastore (pc := 107) 2 dX6_turned_107 rfl hi17 (show Go mX6_turned (d + 2) false 0 0 108 [some (vR 0), none, some (vI y2), some (vI y3), some (vI x.1)] [] (wM kn (upd x.2 (((10 : Int32) * y2) + x.1).toNatClampNeg (((((1 : Int32) <<< (y3 &&& 31)) - (1 : Int32)) &&& ((fi x.1.toNatClampNeg) ^^^ (-1 : Int32))) &&& (((1 : Int32) <<< (x.1 &&& 31)) ^^^ (-1 : Int32)))) fi se ma on ot ta po ti nu mo wa nx oT cF bg ed sF qu qd tr) Q from ?_)
      refine go_iinc (pc := 108) (x.1 + (1 : Int32)) [some (vR 0), none, some (vI y2), some (vI y3), some (vI (x.1 + (1 : Int32)))] dX6_turned_108 rfl rfl (by decide) rfl ?_
      refine go_goto (pc := 111) 68 dX6_turned_111 (by decide) ?_
      obtain rfl := Option.some.inj hs
      exact hI _ rfl
set_option maxRecDepth 20000 in
theorem c_X6_turned {d : Nat}  {a1 : Int32} {a2 : Int32} {res : Int32 × (Nat → Int32) × (Nat → Int32) × (Nat → Int32)} (hs : s_X6_turned kn ne fi a1 a2 = some res) : Calls mX6_turned (d + 2) false 0 0 [vR 0, vI a1, vI a2] (wM kn ne fi se ma on ot ta po ti nu mo wa nx oT cF bg ed sF qu qd tr) (fun r w' => r = some (vI res.1) ∧ w' = (wM res.2.1 res.2.2.1 res.2.2.2 se ma on ot ta po ti nu mo wa nx oT cF bg ed sF qu qd tr)) := by
  unfold s_X6_turned at hs
  refine Calls.of kX6_turned 2 [some (vR 0), some (vI a1), some (vI a2), none, none] rfl (Nat.le_of_ble_eq_true rfl) ?_
  refine go_iload_n (pc := 0) 1 dX6_turned_0 rfl rfl ?_
  obtain ⟨x1, hc2, hs⟩ := bnd hs
  refine go_callS (bc := 0) (bs := 0) (mc := 0) (ms := 0) (d := d + 1) (pc := 1) [vI a1] [] dX6_turned_1 kX6_isNet mlX6_69 isX6_isNet rfl (Nat.le_of_ble_eq_true rfl) rfl (c_X6_isNet (d := d + 0) hc2) (fun r w' hq => ?_)
  obtain ⟨rfl, rfl⟩ := hq
  show Go mX6_turned (d + 2) false 0 0 4 [some (vR 0), some (vI a1), some (vI a2), none, none] [vI x1] (wM kn ne fi se ma on ot ta po ti nu mo wa nx oT cF bg ed sF qu qd tr) _
  refine go_if_eq (pc := 4) 14 dX6_turned_4 (by decide) (fun h3 => ?_) (fun h3 => ?_)
  · have hs := it_t h3 hs
    refine go_bipush (pc := 14) (-2 : Int32) dX6_turned_14 (by decide) ?_
    obtain rfl := Option.some.inj hs
    exact go_ireturn (st := []) (pc := 16) dX6_turned_16 rfl (vp_nar_int _) (fun h => by cases h) ⟨rfl, rfl⟩
  · have hs := it_f h3 hs
    refine go_iload_n (pc := 7) 2 dX6_turned_7 rfl rfl ?_
    obtain ⟨x4, hc5, hs⟩ := bnd hs
    refine go_callS (bc := 0) (bs := 0) (mc := 0) (ms := 0) (d := d + 1) (pc := 8) [vI a2] [] dX6_turned_8 kX6_isNet mlX6_69 isX6_isNet rfl (Nat.le_of_ble_eq_true rfl) rfl (c_X6_isNet (d := d + 0) hc5) (fun r w' hq => ?_)
    obtain ⟨rfl, rfl⟩ := hq
    show Go mX6_turned (d + 2) false 0 0 11 [some (vR 0), some (vI a1), some (vI a2), none, none] [vI x4] (wM kn ne fi se ma on ot ta po ti nu mo wa nx oT cF bg ed sF qu qd tr) _
    refine go_if_ne (pc := 11) 17 dX6_turned_11 (by decide) (fun h6 => ?_) (fun h6 => ?_)
    · have hs := it_f h6 hs
      refine go_aload_n (pc := 17) 0 dX6_turned_17 rfl rfl ?_
      refine go_getfield (pc := 18) (v := vR 1) 0 6 0 dX6_turned_18 flX6_7 rfl rfl ?_
      refine go_iload_n (pc := 21) 1 dX6_turned_21 rfl rfl ?_
      obtain ⟨hi7, hs⟩ := chk_t hs
      refine go_iaload (pc := 22) 1 dX6_turned_22 rfl hi7 ?_
      refine go_istore_n (pc := 23) 3 [some (vR 0), some (vI a1), some (vI a2), some (vI (kn a1.toNatClampNeg)), none] dX6_turned_23 rfl (by decide) rfl ?_
      refine go_iconst (pc := 24) (0 : Int32) dX6_turned_24 (by decide) ?_
      refine go_istore (pc := 25) [some (vR 0), some (vI a1), some (vI a2), some (vI (kn a1.toNatClampNeg)), some (vI (0 : Int32))] dX6_turned_25 (by decide) rfl ?_
      obtain ⟨e11, hl12, hs⟩ := bnd hs
      refine g_X6_turned_27 (d := d) _ e11 hl12 ?_
      refine go_aload_n (pc := 59) 0 dX6_turned_59 rfl rfl ?_
      refine go_iload_n (pc := 60) 2 dX6_turned_60 rfl rfl ?_
      refine go_iload_n (pc := 61) 3 dX6_turned_61 rfl rfl ?_
      obtain ⟨x13, hc14, hs⟩ := bnd hs
      refine go_callV (bc := 0) (bs := 0) (mc := 0) (ms := 0) (d := d + 1) (pc := 62) (a := 0) (ci := 6) [vI a2, vI (kn a1.toNatClampNeg)] [] dX6_turned_62 kX6_begin mlX6_77 ivX6_begin rfl rfl rfl rfl (Nat.le_of_ble_eq_true rfl) rfl (c_X6_begin (d := d + 1) hc14) (fun r w' hq => ?_)
      obtain ⟨rfl, rfl⟩ := hq
      show Go mX6_turned (d + 2) false 0 0 65 [some (vR 0), none, some (vI a2), some (vI (kn a1.toNatClampNeg)), none] [] (wM x13.1 x13.2 e11 se ma on ot ta po ti nu mo wa nx oT cF bg ed sF qu qd tr) _
      refine go_iconst (pc := 65) (0 : Int32) dX6_turned_65 (by decide) ?_
      refine go_istore (pc := 66) [some (vR 0), none, some (vI a2), some (vI (kn a1.toNatClampNeg)), some (vI (0 : Int32))] dX6_turned_66 (by decide) rfl ?_
      obtain ⟨e18, hl19, hs⟩ := bnd hs
      refine g_X6_turned_68 (d := d) _ e18 hl19 ?_
      refine go_aload_n (pc := 114) 0 dX6_turned_114 rfl rfl ?_
      refine go_iload_n (pc := 115) 2 dX6_turned_115 rfl rfl ?_
      obtain ⟨x20, hc21, hs⟩ := bnd hs
      refine go_callV (bc := 0) (bs := 0) (mc := 0) (ms := 0) (d := d + 1) (pc := 116) (a := 0) (ci := 6) [vI a2] [] dX6_turned_116 kX6_lines mlX6_92 ivX6_lines rfl rfl rfl rfl (Nat.le_of_ble_eq_true rfl) rfl (c_X6_lines (d := d + 0) hc21) (fun r w' hq => ?_)
      obtain ⟨rfl, rfl⟩ := hq
      show Go mX6_turned (d + 2) false 0 0 119 [some (vR 0), none, some (vI a2), none, none] [vI x20] (wM x13.1 e18 e11 se ma on ot ta po ti nu mo wa nx oT cF bg ed sF qu qd tr) _
      obtain rfl := Option.some.inj hs
      exact go_ireturn (st := []) (pc := 119) dX6_turned_119 rfl (vp_nar_int _) (fun h => by cases h) ⟨rfl, rfl⟩
    · have hs := it_t h6 hs
      refine go_bipush (pc := 14) (-2 : Int32) dX6_turned_14 (by decide) ?_
      obtain rfl := Option.some.inj hs
      exact go_ireturn (st := []) (pc := 16) dX6_turned_16 rfl (vp_nar_int _) (fun h => by cases h) ⟨rfl, rfl⟩
noncomputable def b_X6_degreeOf_15 (kn : (Nat → Int32)) (ne : (Nat → Int32)) (y1 : Int32) (x : Int32 × Int32) : Option ((Int32 × Int32) ⊕ (Int32)) := chk y1 4 (if (kn y1.toNatClampNeg) ≤ x.2 then (some (Sum.inr x.1)) else (chk (((10 : Int32) * y1) + x.2) 40 ((s_X6_bits (ne (((10 : Int32) * y1) + x.2).toNatClampNeg)).bind (fun x7 => if x7 = x.1 then (some (Sum.inl (x.1, x.2 + (1 : Int32)))) else (some (Sum.inl ((-1 : Int32), x.2 + (1 : Int32))))))))
noncomputable def s_X6_degreeOf (kn : (Nat → Int32)) (ne : (Nat → Int32)) (a1 : Int32) : Option (Int32) := chk ((10 : Int32) * a1) 40 ((s_X6_bits (ne ((10 : Int32) * a1).toNatClampNeg)).bind (fun x2 => (loop (b_X6_degreeOf_15 kn ne a1) (x2, (1 : Int32))).bind (fun e10 => some e10)))
set_option maxRecDepth 20000 in
theorem g_X6_degreeOf_15 {d : Nat} {Q : Option AV → List AC → Prop} {y1 : Int32} (x : Int32 × Int32) (r : Int32) (hl : loop (b_X6_degreeOf_15 kn ne y1) x = some r) (hk : (fun r : Int32 => Go mX6_degreeOf (d + 1) false 0 0 55 [none, none, some (vI r), none] [] (wM kn ne fi se ma on ot ta po ti nu mo wa nx oT cF bg ed sF qu qd tr) Q) r) : (fun x : Int32 × Int32 => Go mX6_degreeOf (d + 1) false 0 0 15 [some (vR 0), some (vI y1), some (vI x.1), some (vI x.2)] [] (wM kn ne fi se ma on ot ta po ti nu mo wa nx oT cF bg ed sF qu qd tr) Q) x := by
  refine loop_go (P := fun x : Int32 × Int32 => Go mX6_degreeOf (d + 1) false 0 0 15 [some (vR 0), some (vI y1), some (vI x.1), some (vI x.2)] [] (wM kn ne fi se ma on ot ta po ti nu mo wa nx oT cF bg ed sF qu qd tr) Q) (K := fun r : Int32 => Go mX6_degreeOf (d + 1) false 0 0 55 [none, none, some (vI r), none] [] (wM kn ne fi se ma on ot ta po ti nu mo wa nx oT cF bg ed sF qu qd tr) Q) ?_ x r hl hk
  · intro x y hs hI hE
    unfold b_X6_degreeOf_15 at hs
    show Go mX6_degreeOf (d + 1) false 0 0 15 [some (vR 0), some (vI y1), some (vI x.1), some (vI x.2)] [] (wM kn ne fi se ma on ot ta po ti nu mo wa nx oT cF bg ed sF qu qd tr) Q
    refine go_iload_n (pc := 15) 3 dX6_degreeOf_15 rfl rfl ?_
    refine go_aload_n (pc := 16) 0 dX6_degreeOf_16 rfl rfl ?_
    refine go_getfield (pc := 17) (v := vR 1) 0 6 0 dX6_degreeOf_17 flX6_7 rfl rfl ?_
    refine go_iload_n (pc := 20) 1 dX6_degreeOf_20 rfl rfl ?_
    obtain ⟨hi4, hs⟩ := chk_t hs
    refine go_iaload (pc := 21) 1 dX6_degreeOf_21 rfl hi4 ?_
    refine go_icmp_ge (pc := 22) 55 dX6_degreeOf_22 (by decide) (fun h5 => ?_) (fun h5 => ?_)
    · have hs := it_t h5 hs
      obtain rfl := Option.some.inj hs
      refine go_sub (lv' := [none, none, some (vI x.1), none]) ⟨rfl, trivial⟩ ?_
      exact hE _ rfl
    · have hs := it_f h5 hs
      refine go_aload_n (pc := 25) 0 dX6_degreeOf_25 rfl rfl ?_
      refine go_getfield (pc := 26) (v := vR 2) 0 6 1 dX6_degreeOf_26 flX6_13 rfl rfl ?_
      refine go_bipush (pc := 29) (10 : Int32) dX6_degreeOf_29 (by decide) ?_
      refine go_iload_n (pc := 31) 1 dX6_degreeOf_31 rfl rfl ?_
      refine go_imul (pc := 32) dX6_degreeOf_32 ?_
      refine go_iload_n (pc := 33) 3 dX6_degreeOf_33 rfl rfl ?_
      refine go_iadd (pc := 34) dX6_degreeOf_34 ?_
      obtain ⟨hi6, hs⟩ := chk_t hs
      refine go_iaload (pc := 35) 2 dX6_degreeOf_35 rfl hi6 ?_
      obtain ⟨x7, hc8, hs⟩ := bnd hs
      refine go_callS (bc := 0) (bs := 0) (mc := 0) (ms := 0) (d := d + 0) (pc := 36) [vI (ne (((10 : Int32) * y1) + x.2).toNatClampNeg)] [] dX6_degreeOf_36 kX6_bits mlX6_73 isX6_bits rfl (Nat.le_of_ble_eq_true rfl) rfl (c_X6_bits (d := d + 0) hc8) (fun r w' hq => ?_)
      obtain ⟨rfl, rfl⟩ := hq
      show Go mX6_degreeOf (d + 1) false 0 0 39 [some (vR 0), some (vI y1), some (vI x.1), some (vI x.2)] [vI x7] (wM kn ne fi se ma on ot ta po ti nu mo wa nx oT cF bg ed sF qu qd tr) Q
      refine go_iload_n (pc := 39) 2 dX6_degreeOf_39 rfl rfl ?_
      refine go_icmp_ne (pc := 40) 47 dX6_degreeOf_40 (by decide) (fun h9 => ?_) (fun h9 => ?_)
      · have hs := it_f h9 hs
        refine go_iconst (pc := 47) (-1 : Int32) dX6_degreeOf_47 (by decide) ?_
        refine go_istore_n (pc := 48) 2 [some (vR 0), some (vI y1), some (vI (-1 : Int32)), some (vI x.2)] dX6_degreeOf_48 rfl (by decide) rfl ?_
        refine go_iinc (pc := 49) (x.2 + (1 : Int32)) [some (vR 0), some (vI y1), some (vI (-1 : Int32)), some (vI (x.2 + (1 : Int32)))] dX6_degreeOf_49 rfl rfl (by decide) rfl ?_
        refine go_goto (pc := 52) 15 dX6_degreeOf_52 (by decide) ?_
        obtain rfl := Option.some.inj hs
        exact hI _ rfl
      · have hs := it_t h9 hs
        refine go_iload_n (pc := 43) 2 dX6_degreeOf_43 rfl rfl ?_
        refine go_goto (pc := 44) 48 dX6_degreeOf_44 (by decide) ?_
        refine go_istore_n (pc := 48) 2 [some (vR 0), some (vI y1), some (vI x.1), some (vI x.2)] dX6_degreeOf_48 rfl (by decide) rfl ?_
        refine go_iinc (pc := 49) (x.2 + (1 : Int32)) [some (vR 0), some (vI y1), some (vI x.1), some (vI (x.2 + (1 : Int32)))] dX6_degreeOf_49 rfl rfl (by decide) rfl ?_
        refine go_goto (pc := 52) 15 dX6_degreeOf_52 (by decide) ?_
        obtain rfl := Option.some.inj hs
        exact hI _ rfl
set_option maxRecDepth 20000 in
theorem c_X6_degreeOf {d : Nat}  {a1 : Int32} {res : Int32} (hs : s_X6_degreeOf kn ne a1 = some res) : Calls mX6_degreeOf (d + 1) false 0 0 [vR 0, vI a1] (wM kn ne fi se ma on ot ta po ti nu mo wa nx oT cF bg ed sF qu qd tr) (fun r w' => r = some (vI res) ∧ w' = (wM kn ne fi se ma on ot ta po ti nu mo wa nx oT cF bg ed sF qu qd tr)) := by
  unfold s_X6_degreeOf at hs
  refine Calls.of kX6_degreeOf 2 [some (vR 0), some (vI a1), none, none] rfl (Nat.le_of_ble_eq_true rfl) ?_
  refine go_aload_n (pc := 0) 0 dX6_degreeOf_0 rfl rfl ?_
  refine go_getfield (pc := 1) (v := vR 2) 0 6 1 dX6_degreeOf_1 flX6_13 rfl rfl ?_
  refine go_bipush (pc := 4) (10 : Int32) dX6_degreeOf_4 (by decide) ?_
  refine go_iload_n (pc := 6) 1 dX6_degreeOf_6 rfl rfl ?_
  refine go_imul (pc := 7) dX6_degreeOf_7 ?_
  obtain ⟨hi1, hs⟩ := chk_t hs
  refine go_iaload (pc := 8) 2 dX6_degreeOf_8 rfl hi1 ?_
  obtain ⟨x2, hc3, hs⟩ := bnd hs
  refine go_callS (bc := 0) (bs := 0) (mc := 0) (ms := 0) (d := d + 0) (pc := 9) [vI (ne ((10 : Int32) * a1).toNatClampNeg)] [] dX6_degreeOf_9 kX6_bits mlX6_73 isX6_bits rfl (Nat.le_of_ble_eq_true rfl) rfl (c_X6_bits (d := d + 0) hc3) (fun r w' hq => ?_)
  obtain ⟨rfl, rfl⟩ := hq
  show Go mX6_degreeOf (d + 1) false 0 0 12 [some (vR 0), some (vI a1), none, none] [vI x2] (wM kn ne fi se ma on ot ta po ti nu mo wa nx oT cF bg ed sF qu qd tr) _
  refine go_istore_n (pc := 12) 2 [some (vR 0), some (vI a1), some (vI x2), none] dX6_degreeOf_12 rfl (by decide) rfl ?_
  refine go_iconst (pc := 13) (1 : Int32) dX6_degreeOf_13 (by decide) ?_
  refine go_istore_n (pc := 14) 3 [some (vR 0), some (vI a1), some (vI x2), some (vI (1 : Int32))] dX6_degreeOf_14 rfl (by decide) rfl ?_
  obtain ⟨e10, hl11, hs⟩ := bnd hs
  refine g_X6_degreeOf_15 (d := d) _ e10 hl11 ?_
  refine go_iload_n (pc := 55) 2 dX6_degreeOf_55 rfl rfl ?_
  obtain rfl := Option.some.inj hs
  exact go_ireturn (st := []) (pc := 56) dX6_degreeOf_56 rfl (vp_nar_int _) (fun h => by cases h) ⟨rfl, rfl⟩
noncomputable def b_X6_grown_19 (kn : (Nat → Int32)) (ne : (Nat → Int32)) (y1 : Int32) (x : Int32 × Int32) : Option ((Int32 × Int32) ⊕ (Int32)) := chk y1 4 (if (kn y1.toNatClampNeg) ≤ x.2 then (some (Sum.inr x.1)) else (if ((x.1 >>> (x.2 &&& 31)) &&& (1 : Int32)) = (1 : Int32) then (chk (((10 : Int32) * y1) + x.2) 40 (some (Sum.inl (x.1 ||| (ne (((10 : Int32) * y1) + x.2).toNatClampNeg), x.2 + (1 : Int32))))) else (some (Sum.inl (x.1 ||| (0 : Int32), x.2 + (1 : Int32))))))
noncomputable def b_X6_grown_5 (kn : (Nat → Int32)) (ne : (Nat → Int32)) (y1 : Int32) (x : Int32 × Int32) : Option ((Int32 × Int32) ⊕ (Int32)) := chk y1 4 (if (kn y1.toNatClampNeg) ≤ x.2 then (some (Sum.inr x.1)) else ((loop (b_X6_grown_19 kn ne y1) (x.1, (0 : Int32))).bind (fun e7 => some (Sum.inl (e7, x.2 + (1 : Int32))))))
noncomputable def s_X6_grown (kn : (Nat → Int32)) (ne : (Nat → Int32)) (a1 : Int32) (a2 : Int32) : Option (Int32) := (loop (b_X6_grown_5 kn ne a1) (a2, (0 : Int32))).bind (fun e9 => some e9)
set_option maxRecDepth 20000 in
theorem g_X6_grown_19 {d : Nat} {Q : Option AV → List AC → Prop} {y1 : Int32} {y4 : Int32} (x : Int32 × Int32) (r : Int32) (hl : loop (b_X6_grown_19 kn ne y1) x = some r) (hk : (fun r : Int32 => Go mX6_grown (d + 0) false 0 0 65 [some (vR 0), some (vI y1), none, some (vI r), some (vI y4), none] [] (wM kn ne fi se ma on ot ta po ti nu mo wa nx oT cF bg ed sF qu qd tr) Q) r) : (fun x : Int32 × Int32 => Go mX6_grown (d + 0) false 0 0 19 [some (vR 0), some (vI y1), none, some (vI x.1), some (vI y4), some (vI x.2)] [] (wM kn ne fi se ma on ot ta po ti nu mo wa nx oT cF bg ed sF qu qd tr) Q) x := by
  refine loop_go (P := fun x : Int32 × Int32 => Go mX6_grown (d + 0) false 0 0 19 [some (vR 0), some (vI y1), none, some (vI x.1), some (vI y4), some (vI x.2)] [] (wM kn ne fi se ma on ot ta po ti nu mo wa nx oT cF bg ed sF qu qd tr) Q) (K := fun r : Int32 => Go mX6_grown (d + 0) false 0 0 65 [some (vR 0), some (vI y1), none, some (vI r), some (vI y4), none] [] (wM kn ne fi se ma on ot ta po ti nu mo wa nx oT cF bg ed sF qu qd tr) Q) ?_ x r hl hk
  · intro x y hs hI hE
    unfold b_X6_grown_19 at hs
    show Go mX6_grown (d + 0) false 0 0 19 [some (vR 0), some (vI y1), none, some (vI x.1), some (vI y4), some (vI x.2)] [] (wM kn ne fi se ma on ot ta po ti nu mo wa nx oT cF bg ed sF qu qd tr) Q
    refine go_iload (pc := 19) dX6_grown_19 rfl ?_
    refine go_aload_n (pc := 21) 0 dX6_grown_21 rfl rfl ?_
    refine go_getfield (pc := 22) (v := vR 1) 0 6 0 dX6_grown_22 flX6_7 rfl rfl ?_
    refine go_iload_n (pc := 25) 1 dX6_grown_25 rfl rfl ?_
    obtain ⟨hi3, hs⟩ := chk_t hs
    refine go_iaload (pc := 26) 1 dX6_grown_26 rfl hi3 ?_
    refine go_icmp_ge (pc := 27) 65 dX6_grown_27 (by decide) (fun h4 => ?_) (fun h4 => ?_)
    · have hs := it_t h4 hs
      obtain rfl := Option.some.inj hs
      refine go_sub (lv' := [some (vR 0), some (vI y1), none, some (vI x.1), some (vI y4), none]) ⟨rfl, ⟨rfl, ⟨rfl, ⟨rfl, trivial⟩⟩⟩⟩ ?_
      exact hE _ rfl
    · have hs := it_f h4 hs
      refine go_iload_n (pc := 30) 3 dX6_grown_30 rfl rfl ?_
      refine go_iload_n (pc := 31) 3 dX6_grown_31 rfl rfl ?_
      refine go_iload (pc := 32) dX6_grown_32 rfl ?_
      refine go_ishr (pc := 34) dX6_grown_34 ?_
      refine go_iconst (pc := 35) (1 : Int32) dX6_grown_35 (by decide) ?_
      refine go_iand (pc := 36) dX6_grown_36 ?_
      refine go_iconst (pc := 37) (1 : Int32) dX6_grown_37 (by decide) ?_
      refine go_icmp_ne (pc := 38) 56 dX6_grown_38 (by decide) (fun h5 => ?_) (fun h5 => ?_)
      · have hs := it_f h5 hs
        refine go_iconst (pc := 56) (0 : Int32) dX6_grown_56 (by decide) ?_
        refine go_ior (pc := 57) dX6_grown_57 ?_
        refine go_istore_n (pc := 58) 3 [some (vR 0), some (vI y1), none, some (vI (x.1 ||| (0 : Int32))), some (vI y4), some (vI x.2)] dX6_grown_58 rfl (by decide) rfl ?_
        refine go_iinc (pc := 59) (x.2 + (1 : Int32)) [some (vR 0), some (vI y1), none, some (vI (x.1 ||| (0 : Int32))), some (vI y4), some (vI (x.2 + (1 : Int32)))] dX6_grown_59 rfl rfl (by decide) rfl ?_
        refine go_goto (pc := 62) 19 dX6_grown_62 (by decide) ?_
        obtain rfl := Option.some.inj hs
        exact hI _ rfl
      · have hs := it_t h5 hs
        refine go_aload_n (pc := 41) 0 dX6_grown_41 rfl rfl ?_
        refine go_getfield (pc := 42) (v := vR 2) 0 6 1 dX6_grown_42 flX6_13 rfl rfl ?_
        refine go_bipush (pc := 45) (10 : Int32) dX6_grown_45 (by decide) ?_
        refine go_iload_n (pc := 47) 1 dX6_grown_47 rfl rfl ?_
        refine go_imul (pc := 48) dX6_grown_48 ?_
        refine go_iload (pc := 49) dX6_grown_49 rfl ?_
        refine go_iadd (pc := 51) dX6_grown_51 ?_
        obtain ⟨hi6, hs⟩ := chk_t hs
        refine go_iaload (pc := 52) 2 dX6_grown_52 rfl hi6 ?_
        refine go_goto (pc := 53) 57 dX6_grown_53 (by decide) ?_
        refine go_ior (pc := 57) dX6_grown_57 ?_
        refine go_istore_n (pc := 58) 3 [some (vR 0), some (vI y1), none, some (vI (x.1 ||| (ne (((10 : Int32) * y1) + x.2).toNatClampNeg))), some (vI y4), some (vI x.2)] dX6_grown_58 rfl (by decide) rfl ?_
        refine go_iinc (pc := 59) (x.2 + (1 : Int32)) [some (vR 0), some (vI y1), none, some (vI (x.1 ||| (ne (((10 : Int32) * y1) + x.2).toNatClampNeg))), some (vI y4), some (vI (x.2 + (1 : Int32)))] dX6_grown_59 rfl rfl (by decide) rfl ?_
        refine go_goto (pc := 62) 19 dX6_grown_62 (by decide) ?_
        obtain rfl := Option.some.inj hs
        exact hI _ rfl
set_option maxRecDepth 20000 in
theorem g_X6_grown_5 {d : Nat} {Q : Option AV → List AC → Prop} {y1 : Int32} (x : Int32 × Int32) (r : Int32) (hl : loop (b_X6_grown_5 kn ne y1) x = some r) (hk : (fun r : Int32 => Go mX6_grown (d + 0) false 0 0 71 [none, none, none, some (vI r), none, none] [] (wM kn ne fi se ma on ot ta po ti nu mo wa nx oT cF bg ed sF qu qd tr) Q) r) : (fun x : Int32 × Int32 => Go mX6_grown (d + 0) false 0 0 5 [some (vR 0), some (vI y1), none, some (vI x.1), some (vI x.2), none] [] (wM kn ne fi se ma on ot ta po ti nu mo wa nx oT cF bg ed sF qu qd tr) Q) x := by
  refine loop_go (P := fun x : Int32 × Int32 => Go mX6_grown (d + 0) false 0 0 5 [some (vR 0), some (vI y1), none, some (vI x.1), some (vI x.2), none] [] (wM kn ne fi se ma on ot ta po ti nu mo wa nx oT cF bg ed sF qu qd tr) Q) (K := fun r : Int32 => Go mX6_grown (d + 0) false 0 0 71 [none, none, none, some (vI r), none, none] [] (wM kn ne fi se ma on ot ta po ti nu mo wa nx oT cF bg ed sF qu qd tr) Q) ?_ x r hl hk
  · intro x y hs hI hE
    unfold b_X6_grown_5 at hs
    show Go mX6_grown (d + 0) false 0 0 5 [some (vR 0), some (vI y1), none, some (vI x.1), some (vI x.2), none] [] (wM kn ne fi se ma on ot ta po ti nu mo wa nx oT cF bg ed sF qu qd tr) Q
    refine go_iload (pc := 5) dX6_grown_5 rfl ?_
    refine go_aload_n (pc := 7) 0 dX6_grown_7 rfl rfl ?_
    refine go_getfield (pc := 8) (v := vR 1) 0 6 0 dX6_grown_8 flX6_7 rfl rfl ?_
    refine go_iload_n (pc := 11) 1 dX6_grown_11 rfl rfl ?_
    obtain ⟨hi1, hs⟩ := chk_t hs
    refine go_iaload (pc := 12) 1 dX6_grown_12 rfl hi1 ?_
    refine go_icmp_ge (pc := 13) 71 dX6_grown_13 (by decide) (fun h2 => ?_) (fun h2 => ?_)
    · have hs := it_t h2 hs
      obtain rfl := Option.some.inj hs
      refine go_sub (lv' := [none, none, none, some (vI x.1), none, none]) ⟨rfl, trivial⟩ ?_
      exact hE _ rfl
    · have hs := it_f h2 hs
      refine go_iconst (pc := 16) (0 : Int32) dX6_grown_16 (by decide) ?_
      refine go_istore (pc := 17) [some (vR 0), some (vI y1), none, some (vI x.1), some (vI x.2), some (vI (0 : Int32))] dX6_grown_17 (by decide) rfl ?_
      obtain ⟨e7, hl8, hs⟩ := bnd hs
      refine g_X6_grown_19 (d := d) _ e7 hl8 ?_
      refine go_iinc (pc := 65) (x.2 + (1 : Int32)) [some (vR 0), some (vI y1), none, some (vI e7), some (vI (x.2 + (1 : Int32))), none] dX6_grown_65 rfl rfl (by decide) rfl ?_
      refine go_goto (pc := 68) 5 dX6_grown_68 (by decide) ?_
      obtain rfl := Option.some.inj hs
      exact hI _ rfl
set_option maxRecDepth 20000 in
theorem c_X6_grown {d : Nat}  {a1 : Int32} {a2 : Int32} {res : Int32} (hs : s_X6_grown kn ne a1 a2 = some res) : Calls mX6_grown (d + 0) false 0 0 [vR 0, vI a1, vI a2] (wM kn ne fi se ma on ot ta po ti nu mo wa nx oT cF bg ed sF qu qd tr) (fun r w' => r = some (vI res) ∧ w' = (wM kn ne fi se ma on ot ta po ti nu mo wa nx oT cF bg ed sF qu qd tr)) := by
  unfold s_X6_grown at hs
  refine Calls.of kX6_grown 3 [some (vR 0), some (vI a1), some (vI a2), none, none, none] rfl (Nat.le_of_ble_eq_true rfl) ?_
  refine go_iload_n (pc := 0) 2 dX6_grown_0 rfl rfl ?_
  refine go_istore_n (pc := 1) 3 [some (vR 0), some (vI a1), some (vI a2), some (vI a2), none, none] dX6_grown_1 rfl (by decide) rfl ?_
  refine go_iconst (pc := 2) (0 : Int32) dX6_grown_2 (by decide) ?_
  refine go_istore (pc := 3) [some (vR 0), some (vI a1), some (vI a2), some (vI a2), some (vI (0 : Int32)), none] dX6_grown_3 (by decide) rfl ?_
  refine go_sub (lv' := [some (vR 0), some (vI a1), none, some (vI a2), some (vI (0 : Int32)), none]) ⟨rfl, ⟨rfl, ⟨rfl, ⟨rfl, trivial⟩⟩⟩⟩ ?_
  obtain ⟨e9, hl10, hs⟩ := bnd hs
  refine g_X6_grown_5 (d := d) _ e9 hl10 ?_
  refine go_iload_n (pc := 71) 3 dX6_grown_71 rfl rfl ?_
  obtain rfl := Option.some.inj hs
  exact go_ireturn (st := []) (pc := 72) dX6_grown_72 rfl (vp_nar_int _) (fun h => by cases h) ⟨rfl, rfl⟩
noncomputable def b_X6_parts_7 (kn : (Nat → Int32)) (ne : (Nat → Int32)) (y1 : Int32) (x : Int32 × Int32 × Int32) : Option ((Int32 × Int32 × Int32) ⊕ (Int32)) := chk y1 4 (if (kn y1.toNatClampNeg) ≤ x.2.2 then (some (Sum.inr x.1)) else (if ((x.2.1 >>> (x.2.2 &&& 31)) &&& (1 : Int32)) = 0 then ((s_X6_grown kn ne y1 ((1 : Int32) <<< (x.2.2 &&& 31))).bind (fun x4 => some (Sum.inl (x.1 + (1 : Int32), x.2.1 ||| x4, x.2.2 + (1 : Int32))))) else (some (Sum.inl (x.1, x.2.1, x.2.2 + (1 : Int32))))))
noncomputable def s_X6_parts (kn : (Nat → Int32)) (ne : (Nat → Int32)) (a1 : Int32) : Option (Int32) := (loop (b_X6_parts_7 kn ne a1) ((0 : Int32), (0 : Int32), (0 : Int32))).bind (fun e6 => some e6)
set_option maxRecDepth 20000 in
theorem g_X6_parts_7 {d : Nat} {Q : Option AV → List AC → Prop} {y1 : Int32} (x : Int32 × Int32 × Int32) (r : Int32) (hl : loop (b_X6_parts_7 kn ne y1) x = some r) (hk : (fun r : Int32 => Go mX6_parts (d + 1) false 0 0 48 [none, none, some (vI r), none, none] [] (wM kn ne fi se ma on ot ta po ti nu mo wa nx oT cF bg ed sF qu qd tr) Q) r) : (fun x : Int32 × Int32 × Int32 => Go mX6_parts (d + 1) false 0 0 7 [some (vR 0), some (vI y1), some (vI x.1), some (vI x.2.1), some (vI x.2.2)] [] (wM kn ne fi se ma on ot ta po ti nu mo wa nx oT cF bg ed sF qu qd tr) Q) x := by
  refine loop_go (P := fun x : Int32 × Int32 × Int32 => Go mX6_parts (d + 1) false 0 0 7 [some (vR 0), some (vI y1), some (vI x.1), some (vI x.2.1), some (vI x.2.2)] [] (wM kn ne fi se ma on ot ta po ti nu mo wa nx oT cF bg ed sF qu qd tr) Q) (K := fun r : Int32 => Go mX6_parts (d + 1) false 0 0 48 [none, none, some (vI r), none, none] [] (wM kn ne fi se ma on ot ta po ti nu mo wa nx oT cF bg ed sF qu qd tr) Q) ?_ x r hl hk
  · intro x y hs hI hE
    unfold b_X6_parts_7 at hs
    show Go mX6_parts (d + 1) false 0 0 7 [some (vR 0), some (vI y1), some (vI x.1), some (vI x.2.1), some (vI x.2.2)] [] (wM kn ne fi se ma on ot ta po ti nu mo wa nx oT cF bg ed sF qu qd tr) Q
    refine go_iload (pc := 7) dX6_parts_7 rfl ?_
    refine go_aload_n (pc := 9) 0 dX6_parts_9 rfl rfl ?_
    refine go_getfield (pc := 10) (v := vR 1) 0 6 0 dX6_parts_10 flX6_7 rfl rfl ?_
    refine go_iload_n (pc := 13) 1 dX6_parts_13 rfl rfl ?_
    obtain ⟨hi1, hs⟩ := chk_t hs
    refine go_iaload (pc := 14) 1 dX6_parts_14 rfl hi1 ?_
    refine go_icmp_ge (pc := 15) 48 dX6_parts_15 (by decide) (fun h2 => ?_) (fun h2 => ?_)
    · have hs := it_t h2 hs
      obtain rfl := Option.some.inj hs
      refine go_sub (lv' := [none, none, some (vI x.1), none, none]) ⟨rfl, trivial⟩ ?_
      exact hE _ rfl
    · have hs := it_f h2 hs
      refine go_iload_n (pc := 18) 3 dX6_parts_18 rfl rfl ?_
      refine go_iload (pc := 19) dX6_parts_19 rfl ?_
      refine go_ishr (pc := 21) dX6_parts_21 ?_
      refine go_iconst (pc := 22) (1 : Int32) dX6_parts_22 (by decide) ?_
      refine go_iand (pc := 23) dX6_parts_23 ?_
      refine go_if_ne (pc := 24) 42 dX6_parts_24 (by decide) (fun h3 => ?_) (fun h3 => ?_)
      · have hs := it_f h3 hs
        refine go_iinc (pc := 42) (x.2.2 + (1 : Int32)) [some (vR 0), some (vI y1), some (vI x.1), some (vI x.2.1), some (vI (x.2.2 + (1 : Int32)))] dX6_parts_42 rfl rfl (by decide) rfl ?_
        refine go_goto (pc := 45) 7 dX6_parts_45 (by decide) ?_
        obtain rfl := Option.some.inj hs
        exact hI _ rfl
      · have hs := it_t h3 hs
        refine go_iload_n (pc := 27) 3 dX6_parts_27 rfl rfl ?_
        refine go_aload_n (pc := 28) 0 dX6_parts_28 rfl rfl ?_
        refine go_iload_n (pc := 29) 1 dX6_parts_29 rfl rfl ?_
        refine go_iconst (pc := 30) (1 : Int32) dX6_parts_30 (by decide) ?_
        refine go_iload (pc := 31) dX6_parts_31 rfl ?_
        refine go_ishl (pc := 33) dX6_parts_33 ?_
        obtain ⟨x4, hc5, hs⟩ := bnd hs
        refine go_callV (bc := 0) (bs := 0) (mc := 0) (ms := 0) (d := d + 0) (pc := 34) (a := 0) (ci := 6) [vI y1, vI ((1 : Int32) <<< (x.2.2 &&& 31))] [vI x.2.1] dX6_parts_34 kX6_grown mlX6_95 ivX6_grown rfl rfl rfl rfl (Nat.le_of_ble_eq_true rfl) rfl (c_X6_grown (d := d + 0) hc5) (fun r w' hq => ?_)
        obtain ⟨rfl, rfl⟩ := hq
        show Go mX6_parts (d + 1) false 0 0 37 [some (vR 0), some (vI y1), some (vI x.1), some (vI x.2.1), some (vI x.2.2)] [vI x4, vI x.2.1] (wM kn ne fi se ma on ot ta po ti nu mo wa nx oT cF bg ed sF qu qd tr) Q
        refine go_ior (pc := 37) dX6_parts_37 ?_
        refine go_istore_n (pc := 38) 3 [some (vR 0), some (vI y1), some (vI x.1), some (vI (x.2.1 ||| x4)), some (vI x.2.2)] dX6_parts_38 rfl (by decide) rfl ?_
        refine go_iinc (pc := 39) (x.1 + (1 : Int32)) [some (vR 0), some (vI y1), some (vI (x.1 + (1 : Int32))), some (vI (x.2.1 ||| x4)), some (vI x.2.2)] dX6_parts_39 rfl rfl (by decide) rfl ?_
        refine go_iinc (pc := 42) (x.2.2 + (1 : Int32)) [some (vR 0), some (vI y1), some (vI (x.1 + (1 : Int32))), some (vI (x.2.1 ||| x4)), some (vI (x.2.2 + (1 : Int32)))] dX6_parts_42 rfl rfl (by decide) rfl ?_
        refine go_goto (pc := 45) 7 dX6_parts_45 (by decide) ?_
        obtain rfl := Option.some.inj hs
        exact hI _ rfl
set_option maxRecDepth 20000 in
theorem c_X6_parts {d : Nat}  {a1 : Int32} {res : Int32} (hs : s_X6_parts kn ne a1 = some res) : Calls mX6_parts (d + 1) false 0 0 [vR 0, vI a1] (wM kn ne fi se ma on ot ta po ti nu mo wa nx oT cF bg ed sF qu qd tr) (fun r w' => r = some (vI res) ∧ w' = (wM kn ne fi se ma on ot ta po ti nu mo wa nx oT cF bg ed sF qu qd tr)) := by
  unfold s_X6_parts at hs
  refine Calls.of kX6_parts 3 [some (vR 0), some (vI a1), none, none, none] rfl (Nat.le_of_ble_eq_true rfl) ?_
  refine go_iconst (pc := 0) (0 : Int32) dX6_parts_0 (by decide) ?_
  refine go_istore_n (pc := 1) 2 [some (vR 0), some (vI a1), some (vI (0 : Int32)), none, none] dX6_parts_1 rfl (by decide) rfl ?_
  refine go_iconst (pc := 2) (0 : Int32) dX6_parts_2 (by decide) ?_
  refine go_istore_n (pc := 3) 3 [some (vR 0), some (vI a1), some (vI (0 : Int32)), some (vI (0 : Int32)), none] dX6_parts_3 rfl (by decide) rfl ?_
  refine go_iconst (pc := 4) (0 : Int32) dX6_parts_4 (by decide) ?_
  refine go_istore (pc := 5) [some (vR 0), some (vI a1), some (vI (0 : Int32)), some (vI (0 : Int32)), some (vI (0 : Int32))] dX6_parts_5 (by decide) rfl ?_
  obtain ⟨e6, hl7, hs⟩ := bnd hs
  refine g_X6_parts_7 (d := d) _ e6 hl7 ?_
  refine go_iload_n (pc := 48) 2 dX6_parts_48 rfl rfl ?_
  obtain rfl := Option.some.inj hs
  exact go_ireturn (st := []) (pc := 49) dX6_parts_49 rfl (vp_nar_int _) (fun h => by cases h) ⟨rfl, rfl⟩
noncomputable def s_X6_about (kn : (Nat → Int32)) (ne : (Nat → Int32)) (a1 : Int32) (a2 : Int32) : Option (Int32) := (s_X6_isNet a1).bind (fun x1 => if x1 = 0 then (some (-2 : Int32)) else (if a2 = 0 then (chk a1 4 (some (kn a1.toNatClampNeg))) else (if a2 = (1 : Int32) then ((s_X6_lines kn ne a1).bind (fun x12 => some x12)) else (if a2 = (2 : Int32) then ((s_X6_degreeOf kn ne a1).bind (fun x10 => some x10)) else (if a2 = (3 : Int32) then ((s_X6_parts kn ne a1).bind (fun x8 => some x8)) else (some (-2 : Int32)))))))
set_option maxRecDepth 20000 in
theorem c_X6_about {d : Nat}  {a1 : Int32} {a2 : Int32} {res : Int32} (hs : s_X6_about kn ne a1 a2 = some res) : Calls mX6_about (d + 2) false 0 0 [vR 0, vI a1, vI a2] (wM kn ne fi se ma on ot ta po ti nu mo wa nx oT cF bg ed sF qu qd tr) (fun r w' => r = some (vI res) ∧ w' = (wM kn ne fi se ma on ot ta po ti nu mo wa nx oT cF bg ed sF qu qd tr)) := by
  unfold s_X6_about at hs
  refine Calls.of kX6_about 0 [some (vR 0), some (vI a1), some (vI a2)] rfl (Nat.le_of_ble_eq_true rfl) ?_
  refine go_iload_n (pc := 0) 1 dX6_about_0 rfl rfl ?_
  obtain ⟨x1, hc2, hs⟩ := bnd hs
  refine go_callS (bc := 0) (bs := 0) (mc := 0) (ms := 0) (d := d + 1) (pc := 1) [vI a1] [] dX6_about_1 kX6_isNet mlX6_69 isX6_isNet rfl (Nat.le_of_ble_eq_true rfl) rfl (c_X6_isNet (d := d + 0) hc2) (fun r w' hq => ?_)
  obtain ⟨rfl, rfl⟩ := hq
  show Go mX6_about (d + 2) false 0 0 4 [some (vR 0), some (vI a1), some (vI a2)] [vI x1] (wM kn ne fi se ma on ot ta po ti nu mo wa nx oT cF bg ed sF qu qd tr) _
  refine go_if_ne (pc := 4) 10 dX6_about_4 (by decide) (fun h3 => ?_) (fun h3 => ?_)
  · have hs := it_f h3 hs
    refine go_iload_n (pc := 10) 2 dX6_about_10 rfl rfl ?_
    refine go_if_ne (pc := 11) 23 dX6_about_11 (by decide) (fun h4 => ?_) (fun h4 => ?_)
    · have hs := it_f h4 hs
      refine go_iload_n (pc := 23) 2 dX6_about_23 rfl rfl ?_
      refine go_iconst (pc := 24) (1 : Int32) dX6_about_24 (by decide) ?_
      refine go_icmp_ne (pc := 25) 36 dX6_about_25 (by decide) (fun h5 => ?_) (fun h5 => ?_)
      · have hs := it_f h5 hs
        refine go_iload_n (pc := 36) 2 dX6_about_36 rfl rfl ?_
        refine go_iconst (pc := 37) (2 : Int32) dX6_about_37 (by decide) ?_
        refine go_icmp_ne (pc := 38) 49 dX6_about_38 (by decide) (fun h6 => ?_) (fun h6 => ?_)
        · have hs := it_f h6 hs
          refine go_iload_n (pc := 49) 2 dX6_about_49 rfl rfl ?_
          refine go_iconst (pc := 50) (3 : Int32) dX6_about_50 (by decide) ?_
          refine go_icmp_ne (pc := 51) 62 dX6_about_51 (by decide) (fun h7 => ?_) (fun h7 => ?_)
          · have hs := it_f h7 hs
            refine go_bipush (pc := 62) (-2 : Int32) dX6_about_62 (by decide) ?_
            obtain rfl := Option.some.inj hs
            exact go_ireturn (st := []) (pc := 64) dX6_about_64 rfl (vp_nar_int _) (fun h => by cases h) ⟨rfl, rfl⟩
          · have hs := it_t h7 hs
            refine go_aload_n (pc := 54) 0 dX6_about_54 rfl rfl ?_
            refine go_iload_n (pc := 55) 1 dX6_about_55 rfl rfl ?_
            obtain ⟨x8, hc9, hs⟩ := bnd hs
            refine go_callV (bc := 0) (bs := 0) (mc := 0) (ms := 0) (d := d + 1) (pc := 56) (a := 0) (ci := 6) [vI a1] [] dX6_about_56 kX6_parts mlX6_102 ivX6_parts rfl rfl rfl rfl (Nat.le_of_ble_eq_true rfl) rfl (c_X6_parts (d := d + 0) hc9) (fun r w' hq => ?_)
            obtain ⟨rfl, rfl⟩ := hq
            show Go mX6_about (d + 2) false 0 0 59 [some (vR 0), some (vI a1), some (vI a2)] [vI x8] (wM kn ne fi se ma on ot ta po ti nu mo wa nx oT cF bg ed sF qu qd tr) _
            refine go_goto (pc := 59) 64 dX6_about_59 (by decide) ?_
            obtain rfl := Option.some.inj hs
            exact go_ireturn (st := []) (pc := 64) dX6_about_64 rfl (vp_nar_int _) (fun h => by cases h) ⟨rfl, rfl⟩
        · have hs := it_t h6 hs
          refine go_aload_n (pc := 41) 0 dX6_about_41 rfl rfl ?_
          refine go_iload_n (pc := 42) 1 dX6_about_42 rfl rfl ?_
          obtain ⟨x10, hc11, hs⟩ := bnd hs
          refine go_callV (bc := 0) (bs := 0) (mc := 0) (ms := 0) (d := d + 1) (pc := 43) (a := 0) (ci := 6) [vI a1] [] dX6_about_43 kX6_degreeOf mlX6_99 ivX6_degreeOf rfl rfl rfl rfl (Nat.le_of_ble_eq_true rfl) rfl (c_X6_degreeOf (d := d + 0) hc11) (fun r w' hq => ?_)
          obtain ⟨rfl, rfl⟩ := hq
          show Go mX6_about (d + 2) false 0 0 46 [some (vR 0), some (vI a1), some (vI a2)] [vI x10] (wM kn ne fi se ma on ot ta po ti nu mo wa nx oT cF bg ed sF qu qd tr) _
          refine go_goto (pc := 46) 64 dX6_about_46 (by decide) ?_
          obtain rfl := Option.some.inj hs
          exact go_ireturn (st := []) (pc := 64) dX6_about_64 rfl (vp_nar_int _) (fun h => by cases h) ⟨rfl, rfl⟩
      · have hs := it_t h5 hs
        refine go_aload_n (pc := 28) 0 dX6_about_28 rfl rfl ?_
        refine go_iload_n (pc := 29) 1 dX6_about_29 rfl rfl ?_
        obtain ⟨x12, hc13, hs⟩ := bnd hs
        refine go_callV (bc := 0) (bs := 0) (mc := 0) (ms := 0) (d := d + 1) (pc := 30) (a := 0) (ci := 6) [vI a1] [] dX6_about_30 kX6_lines mlX6_92 ivX6_lines rfl rfl rfl rfl (Nat.le_of_ble_eq_true rfl) rfl (c_X6_lines (d := d + 0) hc13) (fun r w' hq => ?_)
        obtain ⟨rfl, rfl⟩ := hq
        show Go mX6_about (d + 2) false 0 0 33 [some (vR 0), some (vI a1), some (vI a2)] [vI x12] (wM kn ne fi se ma on ot ta po ti nu mo wa nx oT cF bg ed sF qu qd tr) _
        refine go_goto (pc := 33) 64 dX6_about_33 (by decide) ?_
        obtain rfl := Option.some.inj hs
        exact go_ireturn (st := []) (pc := 64) dX6_about_64 rfl (vp_nar_int _) (fun h => by cases h) ⟨rfl, rfl⟩
    · have hs := it_t h4 hs
      refine go_aload_n (pc := 14) 0 dX6_about_14 rfl rfl ?_
      refine go_getfield (pc := 15) (v := vR 1) 0 6 0 dX6_about_15 flX6_7 rfl rfl ?_
      refine go_iload_n (pc := 18) 1 dX6_about_18 rfl rfl ?_
      obtain ⟨hi14, hs⟩ := chk_t hs
      refine go_iaload (pc := 19) 1 dX6_about_19 rfl hi14 ?_
      refine go_goto (pc := 20) 64 dX6_about_20 (by decide) ?_
      obtain rfl := Option.some.inj hs
      exact go_ireturn (st := []) (pc := 64) dX6_about_64 rfl (vp_nar_int _) (fun h => by cases h) ⟨rfl, rfl⟩
  · have hs := it_t h3 hs
    refine go_bipush (pc := 7) (-2 : Int32) dX6_about_7 (by decide) ?_
    obtain rfl := Option.some.inj hs
    exact go_ireturn (st := []) (pc := 9) dX6_about_9 rfl (vp_nar_int _) (fun h => by cases h) ⟨rfl, rfl⟩
noncomputable def s_X6_near (kn : (Nat → Int32)) (ne : (Nat → Int32)) (a1 : Int32) (a2 : Int32) : Option (Int32) := (s_X6_isKnot kn a1 a2).bind (fun x1 => if x1 = 0 then (some (-2 : Int32)) else (chk (((10 : Int32) * a1) + a2) 40 (some (ne (((10 : Int32) * a1) + a2).toNatClampNeg))))
set_option maxRecDepth 20000 in
theorem c_X6_near {d : Nat}  {a1 : Int32} {a2 : Int32} {res : Int32} (hs : s_X6_near kn ne a1 a2 = some res) : Calls mX6_near (d + 3) false 0 0 [vR 0, vI a1, vI a2] (wM kn ne fi se ma on ot ta po ti nu mo wa nx oT cF bg ed sF qu qd tr) (fun r w' => r = some (vI res) ∧ w' = (wM kn ne fi se ma on ot ta po ti nu mo wa nx oT cF bg ed sF qu qd tr)) := by
  unfold s_X6_near at hs
  refine Calls.of kX6_near 0 [some (vR 0), some (vI a1), some (vI a2)] rfl (Nat.le_of_ble_eq_true rfl) ?_
  refine go_aload_n (pc := 0) 0 dX6_near_0 rfl rfl ?_
  refine go_iload_n (pc := 1) 1 dX6_near_1 rfl rfl ?_
  refine go_iload_n (pc := 2) 2 dX6_near_2 rfl rfl ?_
  obtain ⟨x1, hc2, hs⟩ := bnd hs
  refine go_callV (bc := 0) (bs := 0) (mc := 0) (ms := 0) (d := d + 2) (pc := 3) (a := 0) (ci := 6) [vI a1, vI a2] [] dX6_near_3 kX6_isKnot mlX6_81 ivX6_isKnot rfl rfl rfl rfl (Nat.le_of_ble_eq_true rfl) rfl (c_X6_isKnot (d := d + 0) hc2) (fun r w' hq => ?_)
  obtain ⟨rfl, rfl⟩ := hq
  show Go mX6_near (d + 3) false 0 0 6 [some (vR 0), some (vI a1), some (vI a2)] [vI x1] (wM kn ne fi se ma on ot ta po ti nu mo wa nx oT cF bg ed sF qu qd tr) _
  refine go_if_eq (pc := 6) 23 dX6_near_6 (by decide) (fun h3 => ?_) (fun h3 => ?_)
  · have hs := it_t h3 hs
    refine go_bipush (pc := 23) (-2 : Int32) dX6_near_23 (by decide) ?_
    obtain rfl := Option.some.inj hs
    exact go_ireturn (st := []) (pc := 25) dX6_near_25 rfl (vp_nar_int _) (fun h => by cases h) ⟨rfl, rfl⟩
  · have hs := it_f h3 hs
    refine go_aload_n (pc := 9) 0 dX6_near_9 rfl rfl ?_
    refine go_getfield (pc := 10) (v := vR 2) 0 6 1 dX6_near_10 flX6_13 rfl rfl ?_
    refine go_bipush (pc := 13) (10 : Int32) dX6_near_13 (by decide) ?_
    refine go_iload_n (pc := 15) 1 dX6_near_15 rfl rfl ?_
    refine go_imul (pc := 16) dX6_near_16 ?_
    refine go_iload_n (pc := 17) 2 dX6_near_17 rfl rfl ?_
    refine go_iadd (pc := 18) dX6_near_18 ?_
    obtain ⟨hi4, hs⟩ := chk_t hs
    refine go_iaload (pc := 19) 2 dX6_near_19 rfl hi4 ?_
    refine go_goto (pc := 20) 25 dX6_near_20 (by decide) ?_
    obtain rfl := Option.some.inj hs
    exact go_ireturn (st := []) (pc := 25) dX6_near_25 rfl (vp_nar_int _) (fun h => by cases h) ⟨rfl, rfl⟩
noncomputable def b_X6_layLines_21 (kn : (Nat → Int32)) (ne : (Nat → Int32)) (y1 : Int32) (y2 : Int32) (x : Int32 × Int32 × (Nat → Int32) × (Nat → Int32)) : Option ((Int32 × Int32 × (Nat → Int32) × (Nat → Int32)) ⊕ (Int32 × (Nat → Int32) × (Nat → Int32))) := chk y1 4 (if (kn y1.toNatClampNeg) ≤ x.1 then (some (Sum.inr (x.2.1, x.2.2.1, x.2.2.2))) else ((s_X6_has ne y1 y2 x.1).bind (fun x5 => if x5 = 0 then (some (Sum.inl (x.1 + (1 : Int32), x.2.1, x.2.2.1, x.2.2.2))) else (chk x.2.1 45 (chk x.2.1 45 (some (Sum.inl (x.1 + (1 : Int32), x.2.1 + (1 : Int32), upd x.2.2.1 x.2.1.toNatClampNeg y2, upd x.2.2.2 x.2.1.toNatClampNeg x.1))))))))
noncomputable def b_X6_layLines_7 (kn : (Nat → Int32)) (ne : (Nat → Int32)) (y1 : Int32) (x : Int32 × Int32 × (Nat → Int32) × (Nat → Int32)) : Option ((Int32 × Int32 × (Nat → Int32) × (Nat → Int32)) ⊕ (Int32 × (Nat → Int32) × (Nat → Int32))) := chk y1 4 (if (kn y1.toNatClampNeg) ≤ x.1 then (some (Sum.inr (x.2.1, x.2.2.1, x.2.2.2))) else ((loop (b_X6_layLines_21 kn ne y1 x.1) (x.1 + (1 : Int32), x.2.1, x.2.2.1, x.2.2.2)).bind (fun e10 => some (Sum.inl (x.1 + (1 : Int32), e10.1, e10.2.1, e10.2.2)))))
noncomputable def s_X6_layLines (kn : (Nat → Int32)) (ne : (Nat → Int32)) (ma : Int32) (on : (Nat → Int32)) (ot : (Nat → Int32)) (a1 : Int32) : Option (Int32 × (Nat → Int32) × (Nat → Int32)) := (loop (b_X6_layLines_7 kn ne a1) ((0 : Int32), (0 : Int32), on, ot)).bind (fun e12 => some (e12.1, e12.2.1, e12.2.2))
set_option maxRecDepth 20000 in
theorem g_X6_layLines_21 {d : Nat} {Q : Option AV → List AC → Prop} {y1 : Int32} {y2 : Int32} (x : Int32 × Int32 × (Nat → Int32) × (Nat → Int32)) (r : Int32 × (Nat → Int32) × (Nat → Int32)) (hl : loop (b_X6_layLines_21 kn ne y1 y2) x = some r) (hk : (fun r : Int32 × (Nat → Int32) × (Nat → Int32) => Go mX6_layLines (d + 1) false 0 0 77 [some (vR 0), some (vI y1), some (vI y2), none] [] (wM kn ne fi se r.1 r.2.1 r.2.2 ta po ti nu mo wa nx oT cF bg ed sF qu qd tr) Q) r) : (fun x : Int32 × Int32 × (Nat → Int32) × (Nat → Int32) => Go mX6_layLines (d + 1) false 0 0 21 [some (vR 0), some (vI y1), some (vI y2), some (vI x.1)] [] (wM kn ne fi se x.2.1 x.2.2.1 x.2.2.2 ta po ti nu mo wa nx oT cF bg ed sF qu qd tr) Q) x := by
  refine loop_go (P := fun x : Int32 × Int32 × (Nat → Int32) × (Nat → Int32) => Go mX6_layLines (d + 1) false 0 0 21 [some (vR 0), some (vI y1), some (vI y2), some (vI x.1)] [] (wM kn ne fi se x.2.1 x.2.2.1 x.2.2.2 ta po ti nu mo wa nx oT cF bg ed sF qu qd tr) Q) (K := fun r : Int32 × (Nat → Int32) × (Nat → Int32) => Go mX6_layLines (d + 1) false 0 0 77 [some (vR 0), some (vI y1), some (vI y2), none] [] (wM kn ne fi se r.1 r.2.1 r.2.2 ta po ti nu mo wa nx oT cF bg ed sF qu qd tr) Q) ?_ x r hl hk
  · intro x y hs hI hE
    unfold b_X6_layLines_21 at hs
    show Go mX6_layLines (d + 1) false 0 0 21 [some (vR 0), some (vI y1), some (vI y2), some (vI x.1)] [] (wM kn ne fi se x.2.1 x.2.2.1 x.2.2.2 ta po ti nu mo wa nx oT cF bg ed sF qu qd tr) Q
    refine go_iload_n (pc := 21) 3 dX6_layLines_21 rfl rfl ?_
    refine go_aload_n (pc := 22) 0 dX6_layLines_22 rfl rfl ?_
    refine go_getfield (pc := 23) (v := vR 1) 0 6 0 dX6_layLines_23 flX6_7 rfl rfl ?_
    refine go_iload_n (pc := 26) 1 dX6_layLines_26 rfl rfl ?_
    obtain ⟨hi3, hs⟩ := chk_t hs
    refine go_iaload (pc := 27) 1 dX6_layLines_27 rfl hi3 ?_
    refine go_icmp_ge (pc := 28) 77 dX6_layLines_28 (by decide) (fun h4 => ?_) (fun h4 => ?_)
    · have hs := it_t h4 hs
      obtain rfl := Option.some.inj hs
      refine go_sub (lv' := [some (vR 0), some (vI y1), some (vI y2), none]) ⟨rfl, ⟨rfl, ⟨rfl, trivial⟩⟩⟩ ?_
      exact hE _ rfl
    · have hs := it_f h4 hs
      refine go_aload_n (pc := 31) 0 dX6_layLines_31 rfl rfl ?_
      refine go_iload_n (pc := 32) 1 dX6_layLines_32 rfl rfl ?_
      refine go_iload_n (pc := 33) 2 dX6_layLines_33 rfl rfl ?_
      refine go_iload_n (pc := 34) 3 dX6_layLines_34 rfl rfl ?_
      obtain ⟨x5, hc6, hs⟩ := bnd hs
      refine go_callV (bc := 0) (bs := 0) (mc := 0) (ms := 0) (d := d + 0) (pc := 35) (a := 0) (ci := 6) [vI y1, vI y2, vI x.1] [] dX6_layLines_35 kX6_has mlX6_85 ivX6_has rfl rfl rfl rfl (Nat.le_of_ble_eq_true rfl) rfl (c_X6_has (d := d + 0) hc6) (fun r w' hq => ?_)
      obtain ⟨rfl, rfl⟩ := hq
      show Go mX6_layLines (d + 1) false 0 0 38 [some (vR 0), some (vI y1), some (vI y2), some (vI x.1)] [vI x5] (wM kn ne fi se x.2.1 x.2.2.1 x.2.2.2 ta po ti nu mo wa nx oT cF bg ed sF qu qd tr) Q
      refine go_if_eq (pc := 38) 71 dX6_layLines_38 (by decide) (fun h7 => ?_) (fun h7 => ?_)
      · have hs := it_t h7 hs
        refine go_iinc (pc := 71) (x.1 + (1 : Int32)) [some (vR 0), some (vI y1), some (vI y2), some (vI (x.1 + (1 : Int32)))] dX6_layLines_71 rfl rfl (by decide) rfl ?_
        refine go_goto (pc := 74) 21 dX6_layLines_74 (by decide) ?_
        obtain rfl := Option.some.inj hs
        exact hI _ rfl
      · have hs := it_f h7 hs
        refine go_aload_n (pc := 41) 0 dX6_layLines_41 rfl rfl ?_
        refine go_getfield (pc := 42) (v := vR 5) 0 6 5 dX6_layLines_42 flX6_22 rfl rfl ?_
        refine go_aload_n (pc := 45) 0 dX6_layLines_45 rfl rfl ?_
        refine go_getfield (pc := 46) (v := vI x.2.1) 0 6 4 dX6_layLines_46 flX6_105 rfl rfl ?_
        refine go_iload_n (pc := 49) 2 dX6_layLines_49 rfl rfl ?_
        obtain ⟨hi8, hs⟩ := chk_t hs
        refine go_iastore (pc := 50) 5 dX6_layLines_50 rfl hi8 (show Go mX6_layLines (d + 1) false 0 0 51 [some (vR 0), some (vI y1), some (vI y2), some (vI x.1)] [] (wM kn ne fi se x.2.1 (upd x.2.2.1 x.2.1.toNatClampNeg y2) x.2.2.2 ta po ti nu mo wa nx oT cF bg ed sF qu qd tr) Q from ?_)
        refine go_aload_n (pc := 51) 0 dX6_layLines_51 rfl rfl ?_
        refine go_getfield (pc := 52) (v := vR 6) 0 6 6 dX6_layLines_52 flX6_25 rfl rfl ?_
        refine go_aload_n (pc := 55) 0 dX6_layLines_55 rfl rfl ?_
        refine go_getfield (pc := 56) (v := vI x.2.1) 0 6 4 dX6_layLines_56 flX6_105 rfl rfl ?_
        refine go_iload_n (pc := 59) 3 dX6_layLines_59 rfl rfl ?_
        obtain ⟨hi9, hs⟩ := chk_t hs
        refine go_iastore (pc := 60) 6 dX6_layLines_60 rfl hi9 (show Go mX6_layLines (d + 1) false 0 0 61 [some (vR 0), some (vI y1), some (vI y2), some (vI x.1)] [] (wM kn ne fi se x.2.1 (upd x.2.2.1 x.2.1.toNatClampNeg y2) (upd x.2.2.2 x.2.1.toNatClampNeg x.1) ta po ti nu mo wa nx oT cF bg ed sF qu qd tr) Q from ?_)
        refine go_aload_n (pc := 61) 0 dX6_layLines_61 rfl rfl ?_
        refine go_dup (pc := 62) dX6_layLines_62 rfl ?_
        refine go_getfield (pc := 63) (v := vI x.2.1) 0 6 4 dX6_layLines_63 flX6_105 rfl rfl ?_
        refine go_iconst (pc := 66) (1 : Int32) dX6_layLines_66 (by decide) ?_
        refine go_iadd (pc := 67) dX6_layLines_67 ?_
        refine go_putI (pc := 68) 0 6 4 dX6_layLines_68 fpX6_105 rfl (Nat.le_of_ble_eq_true rfl) (show Go mX6_layLines (d + 1) false 0 0 71 [some (vR 0), some (vI y1), some (vI y2), some (vI x.1)] [] (wM kn ne fi se (x.2.1 + (1 : Int32)) (upd x.2.2.1 x.2.1.toNatClampNeg y2) (upd x.2.2.2 x.2.1.toNatClampNeg x.1) ta po ti nu mo wa nx oT cF bg ed sF qu qd tr) Q from ?_)
        refine go_iinc (pc := 71) (x.1 + (1 : Int32)) [some (vR 0), some (vI y1), some (vI y2), some (vI (x.1 + (1 : Int32)))] dX6_layLines_71 rfl rfl (by decide) rfl ?_
        refine go_goto (pc := 74) 21 dX6_layLines_74 (by decide) ?_
        obtain rfl := Option.some.inj hs
        exact hI _ rfl
set_option maxRecDepth 20000 in
theorem g_X6_layLines_7 {d : Nat} {Q : Option AV → List AC → Prop} {y1 : Int32} (x : Int32 × Int32 × (Nat → Int32) × (Nat → Int32)) (r : Int32 × (Nat → Int32) × (Nat → Int32)) (hl : loop (b_X6_layLines_7 kn ne y1) x = some r) (hk : (fun r : Int32 × (Nat → Int32) × (Nat → Int32) => Go mX6_layLines (d + 1) false 0 0 83 [none, none, none, none] [] (wM kn ne fi se r.1 r.2.1 r.2.2 ta po ti nu mo wa nx oT cF bg ed sF qu qd tr) Q) r) : (fun x : Int32 × Int32 × (Nat → Int32) × (Nat → Int32) => Go mX6_layLines (d + 1) false 0 0 7 [some (vR 0), some (vI y1), some (vI x.1), none] [] (wM kn ne fi se x.2.1 x.2.2.1 x.2.2.2 ta po ti nu mo wa nx oT cF bg ed sF qu qd tr) Q) x := by
  refine loop_go (P := fun x : Int32 × Int32 × (Nat → Int32) × (Nat → Int32) => Go mX6_layLines (d + 1) false 0 0 7 [some (vR 0), some (vI y1), some (vI x.1), none] [] (wM kn ne fi se x.2.1 x.2.2.1 x.2.2.2 ta po ti nu mo wa nx oT cF bg ed sF qu qd tr) Q) (K := fun r : Int32 × (Nat → Int32) × (Nat → Int32) => Go mX6_layLines (d + 1) false 0 0 83 [none, none, none, none] [] (wM kn ne fi se r.1 r.2.1 r.2.2 ta po ti nu mo wa nx oT cF bg ed sF qu qd tr) Q) ?_ x r hl hk
  · intro x y hs hI hE
    unfold b_X6_layLines_7 at hs
    show Go mX6_layLines (d + 1) false 0 0 7 [some (vR 0), some (vI y1), some (vI x.1), none] [] (wM kn ne fi se x.2.1 x.2.2.1 x.2.2.2 ta po ti nu mo wa nx oT cF bg ed sF qu qd tr) Q
    refine go_iload_n (pc := 7) 2 dX6_layLines_7 rfl rfl ?_
    refine go_aload_n (pc := 8) 0 dX6_layLines_8 rfl rfl ?_
    refine go_getfield (pc := 9) (v := vR 1) 0 6 0 dX6_layLines_9 flX6_7 rfl rfl ?_
    refine go_iload_n (pc := 12) 1 dX6_layLines_12 rfl rfl ?_
    obtain ⟨hi1, hs⟩ := chk_t hs
    refine go_iaload (pc := 13) 1 dX6_layLines_13 rfl hi1 ?_
    refine go_icmp_ge (pc := 14) 83 dX6_layLines_14 (by decide) (fun h2 => ?_) (fun h2 => ?_)
    · have hs := it_t h2 hs
      obtain rfl := Option.some.inj hs
      refine go_sub (lv' := [none, none, none, none]) trivial ?_
      exact hE _ rfl
    · have hs := it_f h2 hs
      refine go_iload_n (pc := 17) 2 dX6_layLines_17 rfl rfl ?_
      refine go_iconst (pc := 18) (1 : Int32) dX6_layLines_18 (by decide) ?_
      refine go_iadd (pc := 19) dX6_layLines_19 ?_
      refine go_istore_n (pc := 20) 3 [some (vR 0), some (vI y1), some (vI x.1), some (vI (x.1 + (1 : Int32)))] dX6_layLines_20 rfl (by decide) rfl ?_
      obtain ⟨e10, hl11, hs⟩ := bnd hs
      refine g_X6_layLines_21 (d := d) _ e10 hl11 ?_
      refine go_iinc (pc := 77) (x.1 + (1 : Int32)) [some (vR 0), some (vI y1), some (vI (x.1 + (1 : Int32))), none] dX6_layLines_77 rfl rfl (by decide) rfl ?_
      refine go_goto (pc := 80) 7 dX6_layLines_80 (by decide) ?_
      obtain rfl := Option.some.inj hs
      exact hI _ rfl
set_option maxRecDepth 20000 in
theorem c_X6_layLines {d : Nat}  {a1 : Int32} {res : Int32 × (Nat → Int32) × (Nat → Int32)} (hs : s_X6_layLines kn ne ma on ot a1 = some res) : Calls mX6_layLines (d + 1) false 0 0 [vR 0, vI a1] (wM kn ne fi se ma on ot ta po ti nu mo wa nx oT cF bg ed sF qu qd tr) (fun r w' => r = none ∧ w' = (wM kn ne fi se res.1 res.2.1 res.2.2 ta po ti nu mo wa nx oT cF bg ed sF qu qd tr)) := by
  unfold s_X6_layLines at hs
  refine Calls.of kX6_layLines 2 [some (vR 0), some (vI a1), none, none] rfl (Nat.le_of_ble_eq_true rfl) ?_
  refine go_aload_n (pc := 0) 0 dX6_layLines_0 rfl rfl ?_
  refine go_iconst (pc := 1) (0 : Int32) dX6_layLines_1 (by decide) ?_
  refine go_putI (pc := 2) 0 6 4 dX6_layLines_2 fpX6_105 rfl (Nat.le_of_ble_eq_true rfl) (show Go mX6_layLines (d + 1) false 0 0 5 [some (vR 0), some (vI a1), none, none] [] (wM kn ne fi se ((0 : Int32)) on ot ta po ti nu mo wa nx oT cF bg ed sF qu qd tr) _ from ?_)
  refine go_iconst (pc := 5) (0 : Int32) dX6_layLines_5 (by decide) ?_
  refine go_istore_n (pc := 6) 2 [some (vR 0), some (vI a1), some (vI (0 : Int32)), none] dX6_layLines_6 rfl (by decide) rfl ?_
  obtain ⟨e12, hl13, hs⟩ := bnd hs
  refine g_X6_layLines_7 (d := d) _ e12 hl13 ?_
  obtain rfl := Option.some.inj hs
  exact go_return (st := []) (pc := 83) dX6_layLines_83 rfl (fun h => by cases h) ⟨rfl, rfl⟩
noncomputable def b_X6_number_54 (ma : Int32) (on : (Nat → Int32)) (ot : (Nat → Int32)) (y4 : Int32) (y5 : Int32) (x : Int32) : Option ((Int32) ⊕ ((Int32) ⊕ (Unit))) := if ma ≤ x then (some (Sum.inr (Sum.inr ()))) else (chk x 45 (if (on x.toNatClampNeg) = y4 then (chk x 45 (if (ot x.toNatClampNeg) = y5 then (some (Sum.inr (Sum.inl x))) else (some (Sum.inl (x + (1 : Int32)))))) else (some (Sum.inl (x + (1 : Int32))))))
noncomputable def s_X6_number (kn : (Nat → Int32)) (ne : (Nat → Int32)) (ma : Int32) (on : (Nat → Int32)) (ot : (Nat → Int32)) (a1 : Int32) (a2 : Int32) (a3 : Int32) : Option (Int32 × Int32 × (Nat → Int32) × (Nat → Int32)) := (s_X6_isKnot kn a1 a2).bind (fun x1 => if x1 = 0 then (some ((-2 : Int32), ma, on, ot)) else ((s_X6_isKnot kn a1 a3).bind (fun x4 => if x4 = 0 then (some ((-2 : Int32), ma, on, ot)) else (if a2 = a3 then (some ((-2 : Int32), ma, on, ot)) else ((s_X6_layLines kn ne ma on ot a1).bind (fun x8 => if a3 ≤ a2 then ((loop (b_X6_number_54 x8.1 x8.2.1 x8.2.2 a3 ((a2 + a3) - a3)) (0 : Int32)).bind (fun e16 => Sum.elim (fun e18 => some (e18, x8.1, x8.2.1, x8.2.2)) (fun e19 => some ((-1 : Int32), x8.1, x8.2.1, x8.2.2)) e16)) else ((loop (b_X6_number_54 x8.1 x8.2.1 x8.2.2 a2 ((a2 + a3) - a2)) (0 : Int32)).bind (fun e20 => Sum.elim (fun e22 => some (e22, x8.1, x8.2.1, x8.2.2)) (fun e23 => some ((-1 : Int32), x8.1, x8.2.1, x8.2.2)) e20))))))))
set_option maxRecDepth 20000 in
theorem g_X6_number_54 {d : Nat} {Q : Option AV → List AC → Prop} {y4 : Int32} {y5 : Int32} (x : Int32) (r : (Int32) ⊕ (Unit)) (hl : loop (b_X6_number_54 ma on ot y4 y5) x = some r) (hk : (fun r : (Int32) ⊕ (Unit) => Sum.elim (fun r : Int32 => Go mX6_number (d + 3) false 0 0 87 [none, none, none, none, none, none, some (vI r)] [] (wM kn ne fi se ma on ot ta po ti nu mo wa nx oT cF bg ed sF qu qd tr) Q) (fun r : Unit => Go mX6_number (d + 3) false 0 0 96 [none, none, none, none, none, none, none] [] (wM kn ne fi se ma on ot ta po ti nu mo wa nx oT cF bg ed sF qu qd tr) Q) r) r) : (fun x : Int32 => Go mX6_number (d + 3) false 0 0 54 [some (vR 0), none, none, none, some (vI y4), some (vI y5), some (vI x)] [] (wM kn ne fi se ma on ot ta po ti nu mo wa nx oT cF bg ed sF qu qd tr) Q) x := by
  refine loop_go (P := fun x : Int32 => Go mX6_number (d + 3) false 0 0 54 [some (vR 0), none, none, none, some (vI y4), some (vI y5), some (vI x)] [] (wM kn ne fi se ma on ot ta po ti nu mo wa nx oT cF bg ed sF qu qd tr) Q) (K := fun r : (Int32) ⊕ (Unit) => Sum.elim (fun r : Int32 => Go mX6_number (d + 3) false 0 0 87 [none, none, none, none, none, none, some (vI r)] [] (wM kn ne fi se ma on ot ta po ti nu mo wa nx oT cF bg ed sF qu qd tr) Q) (fun r : Unit => Go mX6_number (d + 3) false 0 0 96 [none, none, none, none, none, none, none] [] (wM kn ne fi se ma on ot ta po ti nu mo wa nx oT cF bg ed sF qu qd tr) Q) r) ?_ x r hl hk
  · intro x y hs hI hE
    unfold b_X6_number_54 at hs
    show Go mX6_number (d + 3) false 0 0 54 [some (vR 0), none, none, none, some (vI y4), some (vI y5), some (vI x)] [] (wM kn ne fi se ma on ot ta po ti nu mo wa nx oT cF bg ed sF qu qd tr) Q
    refine go_iload (pc := 54) dX6_number_54 rfl ?_
    refine go_aload_n (pc := 56) 0 dX6_number_56 rfl rfl ?_
    refine go_getfield (pc := 57) (v := vI ma) 0 6 4 dX6_number_57 flX6_105 rfl rfl ?_
    refine go_icmp_ge (pc := 60) 96 dX6_number_60 (by decide) (fun h11 => ?_) (fun h11 => ?_)
    · have hs := it_t h11 hs
      obtain rfl := Option.some.inj hs
      refine go_sub (lv' := [none, none, none, none, none, none, none]) trivial ?_
      exact hE _ rfl
    · have hs := it_f h11 hs
      refine go_aload_n (pc := 63) 0 dX6_number_63 rfl rfl ?_
      refine go_getfield (pc := 64) (v := vR 5) 0 6 5 dX6_number_64 flX6_22 rfl rfl ?_
      refine go_iload (pc := 67) dX6_number_67 rfl ?_
      obtain ⟨hi12, hs⟩ := chk_t hs
      refine go_iaload (pc := 69) 5 dX6_number_69 rfl hi12 ?_
      refine go_iload (pc := 70) dX6_number_70 rfl ?_
      refine go_icmp_ne (pc := 72) 90 dX6_number_72 (by decide) (fun h13 => ?_) (fun h13 => ?_)
      · have hs := it_f h13 hs
        refine go_iinc (pc := 90) (x + (1 : Int32)) [some (vR 0), none, none, none, some (vI y4), some (vI y5), some (vI (x + (1 : Int32)))] dX6_number_90 rfl rfl (by decide) rfl ?_
        refine go_goto (pc := 93) 54 dX6_number_93 (by decide) ?_
        obtain rfl := Option.some.inj hs
        exact hI _ rfl
      · have hs := it_t h13 hs
        refine go_aload_n (pc := 75) 0 dX6_number_75 rfl rfl ?_
        refine go_getfield (pc := 76) (v := vR 6) 0 6 6 dX6_number_76 flX6_25 rfl rfl ?_
        refine go_iload (pc := 79) dX6_number_79 rfl ?_
        obtain ⟨hi14, hs⟩ := chk_t hs
        refine go_iaload (pc := 81) 6 dX6_number_81 rfl hi14 ?_
        refine go_iload (pc := 82) dX6_number_82 rfl ?_
        refine go_icmp_ne (pc := 84) 90 dX6_number_84 (by decide) (fun h15 => ?_) (fun h15 => ?_)
        · have hs := it_f h15 hs
          refine go_iinc (pc := 90) (x + (1 : Int32)) [some (vR 0), none, none, none, some (vI y4), some (vI y5), some (vI (x + (1 : Int32)))] dX6_number_90 rfl rfl (by decide) rfl ?_
          refine go_goto (pc := 93) 54 dX6_number_93 (by decide) ?_
          obtain rfl := Option.some.inj hs
          exact hI _ rfl
        · have hs := it_t h15 hs
          obtain rfl := Option.some.inj hs
          refine go_sub (lv' := [none, none, none, none, none, none, some (vI x)]) ⟨rfl, trivial⟩ ?_
          exact hE _ rfl
set_option maxRecDepth 20000 in
theorem c_X6_number {d : Nat}  {a1 : Int32} {a2 : Int32} {a3 : Int32} {res : Int32 × Int32 × (Nat → Int32) × (Nat → Int32)} (hs : s_X6_number kn ne ma on ot a1 a2 a3 = some res) : Calls mX6_number (d + 3) false 0 0 [vR 0, vI a1, vI a2, vI a3] (wM kn ne fi se ma on ot ta po ti nu mo wa nx oT cF bg ed sF qu qd tr) (fun r w' => r = some (vI res.1) ∧ w' = (wM kn ne fi se res.2.1 res.2.2.1 res.2.2.2 ta po ti nu mo wa nx oT cF bg ed sF qu qd tr)) := by
  unfold s_X6_number at hs
  refine Calls.of kX6_number 3 [some (vR 0), some (vI a1), some (vI a2), some (vI a3), none, none, none] rfl (Nat.le_of_ble_eq_true rfl) ?_
  refine go_aload_n (pc := 0) 0 dX6_number_0 rfl rfl ?_
  refine go_iload_n (pc := 1) 1 dX6_number_1 rfl rfl ?_
  refine go_iload_n (pc := 2) 2 dX6_number_2 rfl rfl ?_
  obtain ⟨x1, hc2, hs⟩ := bnd hs
  refine go_callV (bc := 0) (bs := 0) (mc := 0) (ms := 0) (d := d + 2) (pc := 3) (a := 0) (ci := 6) [vI a1, vI a2] [] dX6_number_3 kX6_isKnot mlX6_81 ivX6_isKnot rfl rfl rfl rfl (Nat.le_of_ble_eq_true rfl) rfl (c_X6_isKnot (d := d + 0) hc2) (fun r w' hq => ?_)
  obtain ⟨rfl, rfl⟩ := hq
  show Go mX6_number (d + 3) false 0 0 6 [some (vR 0), some (vI a1), some (vI a2), some (vI a3), none, none, none] [vI x1] (wM kn ne fi se ma on ot ta po ti nu mo wa nx oT cF bg ed sF qu qd tr) _
  refine go_if_eq (pc := 6) 23 dX6_number_6 (by decide) (fun h3 => ?_) (fun h3 => ?_)
  · have hs := it_t h3 hs
    refine go_bipush (pc := 23) (-2 : Int32) dX6_number_23 (by decide) ?_
    obtain rfl := Option.some.inj hs
    exact go_ireturn (st := []) (pc := 25) dX6_number_25 rfl (vp_nar_int _) (fun h => by cases h) ⟨rfl, rfl⟩
  · have hs := it_f h3 hs
    refine go_aload_n (pc := 9) 0 dX6_number_9 rfl rfl ?_
    refine go_iload_n (pc := 10) 1 dX6_number_10 rfl rfl ?_
    refine go_iload_n (pc := 11) 3 dX6_number_11 rfl rfl ?_
    obtain ⟨x4, hc5, hs⟩ := bnd hs
    refine go_callV (bc := 0) (bs := 0) (mc := 0) (ms := 0) (d := d + 2) (pc := 12) (a := 0) (ci := 6) [vI a1, vI a3] [] dX6_number_12 kX6_isKnot mlX6_81 ivX6_isKnot rfl rfl rfl rfl (Nat.le_of_ble_eq_true rfl) rfl (c_X6_isKnot (d := d + 0) hc5) (fun r w' hq => ?_)
    obtain ⟨rfl, rfl⟩ := hq
    show Go mX6_number (d + 3) false 0 0 15 [some (vR 0), some (vI a1), some (vI a2), some (vI a3), none, none, none] [vI x4] (wM kn ne fi se ma on ot ta po ti nu mo wa nx oT cF bg ed sF qu qd tr) _
    refine go_if_eq (pc := 15) 23 dX6_number_15 (by decide) (fun h6 => ?_) (fun h6 => ?_)
    · have hs := it_t h6 hs
      refine go_bipush (pc := 23) (-2 : Int32) dX6_number_23 (by decide) ?_
      obtain rfl := Option.some.inj hs
      exact go_ireturn (st := []) (pc := 25) dX6_number_25 rfl (vp_nar_int _) (fun h => by cases h) ⟨rfl, rfl⟩
    · have hs := it_f h6 hs
      refine go_iload_n (pc := 18) 2 dX6_number_18 rfl rfl ?_
      refine go_iload_n (pc := 19) 3 dX6_number_19 rfl rfl ?_
      refine go_icmp_ne (pc := 20) 26 dX6_number_20 (by decide) (fun h7 => ?_) (fun h7 => ?_)
      · have hs := it_f h7 hs
        refine go_aload_n (pc := 26) 0 dX6_number_26 rfl rfl ?_
        refine go_iload_n (pc := 27) 1 dX6_number_27 rfl rfl ?_
        obtain ⟨x8, hc9, hs⟩ := bnd hs
        refine go_callV (bc := 0) (bs := 0) (mc := 0) (ms := 0) (d := d + 2) (pc := 28) (a := 0) (ci := 6) [vI a1] [] dX6_number_28 kX6_layLines mlX6_109 ivX6_layLines rfl rfl rfl rfl (Nat.le_of_ble_eq_true rfl) rfl (c_X6_layLines (d := d + 1) hc9) (fun r w' hq => ?_)
        obtain ⟨rfl, rfl⟩ := hq
        show Go mX6_number (d + 3) false 0 0 31 [some (vR 0), some (vI a1), some (vI a2), some (vI a3), none, none, none] [] (wM kn ne fi se x8.1 x8.2.1 x8.2.2 ta po ti nu mo wa nx oT cF bg ed sF qu qd tr) _
        refine go_iload_n (pc := 31) 2 dX6_number_31 rfl rfl ?_
        refine go_iload_n (pc := 32) 3 dX6_number_32 rfl rfl ?_
        refine go_icmp_ge (pc := 33) 40 dX6_number_33 (by decide) (fun h10 => ?_) (fun h10 => ?_)
        · have hs := it_t h10 hs
          refine go_iload_n (pc := 40) 3 dX6_number_40 rfl rfl ?_
          refine go_istore (pc := 41) [some (vR 0), some (vI a1), some (vI a2), some (vI a3), some (vI a3), none, none] dX6_number_41 (by decide) rfl ?_
          refine go_iload_n (pc := 43) 2 dX6_number_43 rfl rfl ?_
          refine go_iload_n (pc := 44) 3 dX6_number_44 rfl rfl ?_
          refine go_iadd (pc := 45) dX6_number_45 ?_
          refine go_iload (pc := 46) dX6_number_46 rfl ?_
          refine go_isub (pc := 48) dX6_number_48 ?_
          refine go_istore (pc := 49) [some (vR 0), some (vI a1), some (vI a2), some (vI a3), some (vI a3), some (vI ((a2 + a3) - a3)), none] dX6_number_49 (by decide) rfl ?_
          refine go_iconst (pc := 51) (0 : Int32) dX6_number_51 (by decide) ?_
          refine go_istore (pc := 52) [some (vR 0), some (vI a1), some (vI a2), some (vI a3), some (vI a3), some (vI ((a2 + a3) - a3)), some (vI (0 : Int32))] dX6_number_52 (by decide) rfl ?_
          refine go_sub (lv' := [some (vR 0), none, none, none, some (vI a3), some (vI ((a2 + a3) - a3)), some (vI (0 : Int32))]) ⟨rfl, ⟨rfl, ⟨rfl, ⟨rfl, trivial⟩⟩⟩⟩ ?_
          obtain ⟨e16, hl17, hs⟩ := bnd hs
          refine g_X6_number_54 (d := d) _ e16 hl17 ?_
          rcases e16 with e18 | e19
          · show Go mX6_number (d + 3) false 0 0 87 [none, none, none, none, none, none, some (vI e18)] [] (wM kn ne fi se x8.1 x8.2.1 x8.2.2 ta po ti nu mo wa nx oT cF bg ed sF qu qd tr) _
            simp only [Sum.elim_inl] at hs
            refine go_iload (pc := 87) dX6_number_87 rfl ?_
            obtain rfl := Option.some.inj hs
            exact go_ireturn (st := []) (pc := 89) dX6_number_89 rfl (vp_nar_int _) (fun h => by cases h) ⟨rfl, rfl⟩
          · show Go mX6_number (d + 3) false 0 0 96 [none, none, none, none, none, none, none] [] (wM kn ne fi se x8.1 x8.2.1 x8.2.2 ta po ti nu mo wa nx oT cF bg ed sF qu qd tr) _
            simp only [Sum.elim_inr] at hs
            refine go_iconst (pc := 96) (-1 : Int32) dX6_number_96 (by decide) ?_
            obtain rfl := Option.some.inj hs
            exact go_ireturn (st := []) (pc := 97) dX6_number_97 rfl (vp_nar_int _) (fun h => by cases h) ⟨rfl, rfl⟩
        · have hs := it_f h10 hs
          refine go_iload_n (pc := 36) 2 dX6_number_36 rfl rfl ?_
          refine go_goto (pc := 37) 41 dX6_number_37 (by decide) ?_
          refine go_istore (pc := 41) [some (vR 0), some (vI a1), some (vI a2), some (vI a3), some (vI a2), none, none] dX6_number_41 (by decide) rfl ?_
          refine go_iload_n (pc := 43) 2 dX6_number_43 rfl rfl ?_
          refine go_iload_n (pc := 44) 3 dX6_number_44 rfl rfl ?_
          refine go_iadd (pc := 45) dX6_number_45 ?_
          refine go_iload (pc := 46) dX6_number_46 rfl ?_
          refine go_isub (pc := 48) dX6_number_48 ?_
          refine go_istore (pc := 49) [some (vR 0), some (vI a1), some (vI a2), some (vI a3), some (vI a2), some (vI ((a2 + a3) - a2)), none] dX6_number_49 (by decide) rfl ?_
          refine go_iconst (pc := 51) (0 : Int32) dX6_number_51 (by decide) ?_
          refine go_istore (pc := 52) [some (vR 0), some (vI a1), some (vI a2), some (vI a3), some (vI a2), some (vI ((a2 + a3) - a2)), some (vI (0 : Int32))] dX6_number_52 (by decide) rfl ?_
          refine go_sub (lv' := [some (vR 0), none, none, none, some (vI a2), some (vI ((a2 + a3) - a2)), some (vI (0 : Int32))]) ⟨rfl, ⟨rfl, ⟨rfl, ⟨rfl, trivial⟩⟩⟩⟩ ?_
          obtain ⟨e20, hl21, hs⟩ := bnd hs
          refine g_X6_number_54 (d := d) _ e20 hl21 ?_
          rcases e20 with e22 | e23
          · show Go mX6_number (d + 3) false 0 0 87 [none, none, none, none, none, none, some (vI e22)] [] (wM kn ne fi se x8.1 x8.2.1 x8.2.2 ta po ti nu mo wa nx oT cF bg ed sF qu qd tr) _
            simp only [Sum.elim_inl] at hs
            refine go_iload (pc := 87) dX6_number_87 rfl ?_
            obtain rfl := Option.some.inj hs
            exact go_ireturn (st := []) (pc := 89) dX6_number_89 rfl (vp_nar_int _) (fun h => by cases h) ⟨rfl, rfl⟩
          · show Go mX6_number (d + 3) false 0 0 96 [none, none, none, none, none, none, none] [] (wM kn ne fi se x8.1 x8.2.1 x8.2.2 ta po ti nu mo wa nx oT cF bg ed sF qu qd tr) _
            simp only [Sum.elim_inr] at hs
            refine go_iconst (pc := 96) (-1 : Int32) dX6_number_96 (by decide) ?_
            obtain rfl := Option.some.inj hs
            exact go_ireturn (st := []) (pc := 97) dX6_number_97 rfl (vp_nar_int _) (fun h => by cases h) ⟨rfl, rfl⟩
      · have hs := it_t h7 hs
        refine go_bipush (pc := 23) (-2 : Int32) dX6_number_23 (by decide) ?_
        obtain rfl := Option.some.inj hs
        exact go_ireturn (st := []) (pc := 25) dX6_number_25 rfl (vp_nar_int _) (fun h => by cases h) ⟨rfl, rfl⟩
noncomputable def b_X6_outside_6 (kn : (Nat → Int32)) (ne : (Nat → Int32)) (y1 : Int32) (y2 : Int32) (y3 : Int32) (x : Int32 × Int32) : Option ((Int32 × Int32) ⊕ (Int32)) := chk y1 4 (if (kn y1.toNatClampNeg) ≤ x.2 then (some (Sum.inr x.1)) else (if ((y2 >>> (x.2 &&& 31)) &&& (1 : Int32)) = (1 : Int32) then (if y3 = 0 then (if (0 : Int32) ≤ 0 then (some (Sum.inl (x.1 + (0 : Int32), x.2 + (1 : Int32)))) else (some (Sum.inl (x.1 + (1 : Int32), x.2 + (1 : Int32))))) else (some (Sum.inl (x.1 + (0 : Int32), x.2 + (1 : Int32))))) else (chk (((10 : Int32) * y1) + x.2) 40 ((s_X6_bits ((ne (((10 : Int32) * y1) + x.2).toNatClampNeg) &&& y2)).bind (fun x5 => if y3 = 0 then (if x5 ≤ 0 then (some (Sum.inl (x.1 + (0 : Int32), x.2 + (1 : Int32)))) else (some (Sum.inl (x.1 + (1 : Int32), x.2 + (1 : Int32))))) else (some (Sum.inl (x.1 + x5, x.2 + (1 : Int32)))))))))
noncomputable def s_X6_outside (kn : (Nat → Int32)) (ne : (Nat → Int32)) (a1 : Int32) (a2 : Int32) (a3 : Int32) : Option (Int32) := (loop (b_X6_outside_6 kn ne a1 a2 a3) ((0 : Int32), (0 : Int32))).bind (fun e11 => some e11)
set_option maxRecDepth 20000 in
theorem g_X6_outside_6 {d : Nat} {Q : Option AV → List AC → Prop} {y1 : Int32} {y2 : Int32} {y3 : Int32} (x : Int32 × Int32) (r : Int32) (hl : loop (b_X6_outside_6 kn ne y1 y2 y3) x = some r) (hk : (fun r : Int32 => Go mX6_outside (d + 1) false 0 0 80 [none, none, none, none, some (vI r), none, none] [] (wM kn ne fi se ma on ot ta po ti nu mo wa nx oT cF bg ed sF qu qd tr) Q) r) : (fun x : Int32 × Int32 => Go mX6_outside (d + 1) false 0 0 6 [some (vR 0), some (vI y1), some (vI y2), some (vI y3), some (vI x.1), some (vI x.2), none] [] (wM kn ne fi se ma on ot ta po ti nu mo wa nx oT cF bg ed sF qu qd tr) Q) x := by
  refine loop_go (P := fun x : Int32 × Int32 => Go mX6_outside (d + 1) false 0 0 6 [some (vR 0), some (vI y1), some (vI y2), some (vI y3), some (vI x.1), some (vI x.2), none] [] (wM kn ne fi se ma on ot ta po ti nu mo wa nx oT cF bg ed sF qu qd tr) Q) (K := fun r : Int32 => Go mX6_outside (d + 1) false 0 0 80 [none, none, none, none, some (vI r), none, none] [] (wM kn ne fi se ma on ot ta po ti nu mo wa nx oT cF bg ed sF qu qd tr) Q) ?_ x r hl hk
  · intro x y hs hI hE
    unfold b_X6_outside_6 at hs
    show Go mX6_outside (d + 1) false 0 0 6 [some (vR 0), some (vI y1), some (vI y2), some (vI y3), some (vI x.1), some (vI x.2), none] [] (wM kn ne fi se ma on ot ta po ti nu mo wa nx oT cF bg ed sF qu qd tr) Q
    refine go_iload (pc := 6) dX6_outside_6 rfl ?_
    refine go_aload_n (pc := 8) 0 dX6_outside_8 rfl rfl ?_
    refine go_getfield (pc := 9) (v := vR 1) 0 6 0 dX6_outside_9 flX6_7 rfl rfl ?_
    refine go_iload_n (pc := 12) 1 dX6_outside_12 rfl rfl ?_
    obtain ⟨hi1, hs⟩ := chk_t hs
    refine go_iaload (pc := 13) 1 dX6_outside_13 rfl hi1 ?_
    refine go_icmp_ge (pc := 14) 80 dX6_outside_14 (by decide) (fun h2 => ?_) (fun h2 => ?_)
    · have hs := it_t h2 hs
      obtain rfl := Option.some.inj hs
      refine go_sub (lv' := [none, none, none, none, some (vI x.1), none, none]) ⟨rfl, trivial⟩ ?_
      exact hE _ rfl
    · have hs := it_f h2 hs
      refine go_iload_n (pc := 17) 2 dX6_outside_17 rfl rfl ?_
      refine go_iload (pc := 18) dX6_outside_18 rfl ?_
      refine go_ishr (pc := 20) dX6_outside_20 ?_
      refine go_iconst (pc := 21) (1 : Int32) dX6_outside_21 (by decide) ?_
      refine go_iand (pc := 22) dX6_outside_22 ?_
      refine go_iconst (pc := 23) (1 : Int32) dX6_outside_23 (by decide) ?_
      refine go_icmp_ne (pc := 24) 31 dX6_outside_24 (by decide) (fun h3 => ?_) (fun h3 => ?_)
      · have hs := it_f h3 hs
        refine go_aload_n (pc := 31) 0 dX6_outside_31 rfl rfl ?_
        refine go_getfield (pc := 32) (v := vR 2) 0 6 1 dX6_outside_32 flX6_13 rfl rfl ?_
        refine go_bipush (pc := 35) (10 : Int32) dX6_outside_35 (by decide) ?_
        refine go_iload_n (pc := 37) 1 dX6_outside_37 rfl rfl ?_
        refine go_imul (pc := 38) dX6_outside_38 ?_
        refine go_iload (pc := 39) dX6_outside_39 rfl ?_
        refine go_iadd (pc := 41) dX6_outside_41 ?_
        obtain ⟨hi4, hs⟩ := chk_t hs
        refine go_iaload (pc := 42) 2 dX6_outside_42 rfl hi4 ?_
        refine go_iload_n (pc := 43) 2 dX6_outside_43 rfl rfl ?_
        refine go_iand (pc := 44) dX6_outside_44 ?_
        obtain ⟨x5, hc6, hs⟩ := bnd hs
        refine go_callS (bc := 0) (bs := 0) (mc := 0) (ms := 0) (d := d + 0) (pc := 45) [vI ((ne (((10 : Int32) * y1) + x.2).toNatClampNeg) &&& y2)] [] dX6_outside_45 kX6_bits mlX6_73 isX6_bits rfl (Nat.le_of_ble_eq_true rfl) rfl (c_X6_bits (d := d + 0) hc6) (fun r w' hq => ?_)
        obtain ⟨rfl, rfl⟩ := hq
        show Go mX6_outside (d + 1) false 0 0 48 [some (vR 0), some (vI y1), some (vI y2), some (vI y3), some (vI x.1), some (vI x.2), none] [vI x5] (wM kn ne fi se ma on ot ta po ti nu mo wa nx oT cF bg ed sF qu qd tr) Q
        refine go_istore (pc := 48) [some (vR 0), some (vI y1), some (vI y2), some (vI y3), some (vI x.1), some (vI x.2), some (vI x5)] dX6_outside_48 (by decide) rfl ?_
        refine go_iload (pc := 50) dX6_outside_50 rfl ?_
        refine go_iload_n (pc := 52) 3 dX6_outside_52 rfl rfl ?_
        refine go_if_eq (pc := 53) 61 dX6_outside_53 (by decide) (fun h7 => ?_) (fun h7 => ?_)
        · have hs := it_t h7 hs
          refine go_iload (pc := 61) dX6_outside_61 rfl ?_
          refine go_if_le (pc := 63) 70 dX6_outside_63 (by decide) (fun h8 => ?_) (fun h8 => ?_)
          · have hs := it_t h8 hs
            refine go_iconst (pc := 70) (0 : Int32) dX6_outside_70 (by decide) ?_
            refine go_iadd (pc := 71) dX6_outside_71 ?_
            refine go_istore (pc := 72) [some (vR 0), some (vI y1), some (vI y2), some (vI y3), some (vI (x.1 + (0 : Int32))), some (vI x.2), some (vI x5)] dX6_outside_72 (by decide) rfl ?_
            refine go_iinc (pc := 74) (x.2 + (1 : Int32)) [some (vR 0), some (vI y1), some (vI y2), some (vI y3), some (vI (x.1 + (0 : Int32))), some (vI (x.2 + (1 : Int32))), some (vI x5)] dX6_outside_74 rfl rfl (by decide) rfl ?_
            refine go_goto (pc := 77) 6 dX6_outside_77 (by decide) ?_
            obtain rfl := Option.some.inj hs
            refine go_sub (lv' := [some (vR 0), some (vI y1), some (vI y2), some (vI y3), some (vI (x.1 + (0 : Int32))), some (vI (x.2 + (1 : Int32))), none]) ⟨rfl, ⟨rfl, ⟨rfl, ⟨rfl, ⟨rfl, ⟨rfl, trivial⟩⟩⟩⟩⟩⟩ ?_
            exact hI _ rfl
          · have hs := it_f h8 hs
            refine go_iconst (pc := 66) (1 : Int32) dX6_outside_66 (by decide) ?_
            refine go_goto (pc := 67) 71 dX6_outside_67 (by decide) ?_
            refine go_iadd (pc := 71) dX6_outside_71 ?_
            refine go_istore (pc := 72) [some (vR 0), some (vI y1), some (vI y2), some (vI y3), some (vI (x.1 + (1 : Int32))), some (vI x.2), some (vI x5)] dX6_outside_72 (by decide) rfl ?_
            refine go_iinc (pc := 74) (x.2 + (1 : Int32)) [some (vR 0), some (vI y1), some (vI y2), some (vI y3), some (vI (x.1 + (1 : Int32))), some (vI (x.2 + (1 : Int32))), some (vI x5)] dX6_outside_74 rfl rfl (by decide) rfl ?_
            refine go_goto (pc := 77) 6 dX6_outside_77 (by decide) ?_
            obtain rfl := Option.some.inj hs
            refine go_sub (lv' := [some (vR 0), some (vI y1), some (vI y2), some (vI y3), some (vI (x.1 + (1 : Int32))), some (vI (x.2 + (1 : Int32))), none]) ⟨rfl, ⟨rfl, ⟨rfl, ⟨rfl, ⟨rfl, ⟨rfl, trivial⟩⟩⟩⟩⟩⟩ ?_
            exact hI _ rfl
        · have hs := it_f h7 hs
          refine go_iload (pc := 56) dX6_outside_56 rfl ?_
          refine go_goto (pc := 58) 71 dX6_outside_58 (by decide) ?_
          refine go_iadd (pc := 71) dX6_outside_71 ?_
          refine go_istore (pc := 72) [some (vR 0), some (vI y1), some (vI y2), some (vI y3), some (vI (x.1 + x5)), some (vI x.2), some (vI x5)] dX6_outside_72 (by decide) rfl ?_
          refine go_iinc (pc := 74) (x.2 + (1 : Int32)) [some (vR 0), some (vI y1), some (vI y2), some (vI y3), some (vI (x.1 + x5)), some (vI (x.2 + (1 : Int32))), some (vI x5)] dX6_outside_74 rfl rfl (by decide) rfl ?_
          refine go_goto (pc := 77) 6 dX6_outside_77 (by decide) ?_
          obtain rfl := Option.some.inj hs
          refine go_sub (lv' := [some (vR 0), some (vI y1), some (vI y2), some (vI y3), some (vI (x.1 + x5)), some (vI (x.2 + (1 : Int32))), none]) ⟨rfl, ⟨rfl, ⟨rfl, ⟨rfl, ⟨rfl, ⟨rfl, trivial⟩⟩⟩⟩⟩⟩ ?_
          exact hI _ rfl
      · have hs := it_t h3 hs
        refine go_iconst (pc := 27) (0 : Int32) dX6_outside_27 (by decide) ?_
        refine go_goto (pc := 28) 48 dX6_outside_28 (by decide) ?_
        refine go_istore (pc := 48) [some (vR 0), some (vI y1), some (vI y2), some (vI y3), some (vI x.1), some (vI x.2), some (vI (0 : Int32))] dX6_outside_48 (by decide) rfl ?_
        refine go_iload (pc := 50) dX6_outside_50 rfl ?_
        refine go_iload_n (pc := 52) 3 dX6_outside_52 rfl rfl ?_
        refine go_if_eq (pc := 53) 61 dX6_outside_53 (by decide) (fun h9 => ?_) (fun h9 => ?_)
        · have hs := it_t h9 hs
          refine go_iload (pc := 61) dX6_outside_61 rfl ?_
          refine go_if_le (pc := 63) 70 dX6_outside_63 (by decide) (fun h10 => ?_) (fun h10 => ?_)
          · have hs := it_t h10 hs
            refine go_iconst (pc := 70) (0 : Int32) dX6_outside_70 (by decide) ?_
            refine go_iadd (pc := 71) dX6_outside_71 ?_
            refine go_istore (pc := 72) [some (vR 0), some (vI y1), some (vI y2), some (vI y3), some (vI (x.1 + (0 : Int32))), some (vI x.2), some (vI (0 : Int32))] dX6_outside_72 (by decide) rfl ?_
            refine go_iinc (pc := 74) (x.2 + (1 : Int32)) [some (vR 0), some (vI y1), some (vI y2), some (vI y3), some (vI (x.1 + (0 : Int32))), some (vI (x.2 + (1 : Int32))), some (vI (0 : Int32))] dX6_outside_74 rfl rfl (by decide) rfl ?_
            refine go_goto (pc := 77) 6 dX6_outside_77 (by decide) ?_
            obtain rfl := Option.some.inj hs
            refine go_sub (lv' := [some (vR 0), some (vI y1), some (vI y2), some (vI y3), some (vI (x.1 + (0 : Int32))), some (vI (x.2 + (1 : Int32))), none]) ⟨rfl, ⟨rfl, ⟨rfl, ⟨rfl, ⟨rfl, ⟨rfl, trivial⟩⟩⟩⟩⟩⟩ ?_
            exact hI _ rfl
          · have hs := it_f h10 hs
            refine go_iconst (pc := 66) (1 : Int32) dX6_outside_66 (by decide) ?_
            refine go_goto (pc := 67) 71 dX6_outside_67 (by decide) ?_
            refine go_iadd (pc := 71) dX6_outside_71 ?_
            refine go_istore (pc := 72) [some (vR 0), some (vI y1), some (vI y2), some (vI y3), some (vI (x.1 + (1 : Int32))), some (vI x.2), some (vI (0 : Int32))] dX6_outside_72 (by decide) rfl ?_
            refine go_iinc (pc := 74) (x.2 + (1 : Int32)) [some (vR 0), some (vI y1), some (vI y2), some (vI y3), some (vI (x.1 + (1 : Int32))), some (vI (x.2 + (1 : Int32))), some (vI (0 : Int32))] dX6_outside_74 rfl rfl (by decide) rfl ?_
            refine go_goto (pc := 77) 6 dX6_outside_77 (by decide) ?_
            obtain rfl := Option.some.inj hs
            refine go_sub (lv' := [some (vR 0), some (vI y1), some (vI y2), some (vI y3), some (vI (x.1 + (1 : Int32))), some (vI (x.2 + (1 : Int32))), none]) ⟨rfl, ⟨rfl, ⟨rfl, ⟨rfl, ⟨rfl, ⟨rfl, trivial⟩⟩⟩⟩⟩⟩ ?_
            exact hI _ rfl
        · have hs := it_f h9 hs
          refine go_iload (pc := 56) dX6_outside_56 rfl ?_
          refine go_goto (pc := 58) 71 dX6_outside_58 (by decide) ?_
          refine go_iadd (pc := 71) dX6_outside_71 ?_
          refine go_istore (pc := 72) [some (vR 0), some (vI y1), some (vI y2), some (vI y3), some (vI (x.1 + (0 : Int32))), some (vI x.2), some (vI (0 : Int32))] dX6_outside_72 (by decide) rfl ?_
          refine go_iinc (pc := 74) (x.2 + (1 : Int32)) [some (vR 0), some (vI y1), some (vI y2), some (vI y3), some (vI (x.1 + (0 : Int32))), some (vI (x.2 + (1 : Int32))), some (vI (0 : Int32))] dX6_outside_74 rfl rfl (by decide) rfl ?_
          refine go_goto (pc := 77) 6 dX6_outside_77 (by decide) ?_
          obtain rfl := Option.some.inj hs
          refine go_sub (lv' := [some (vR 0), some (vI y1), some (vI y2), some (vI y3), some (vI (x.1 + (0 : Int32))), some (vI (x.2 + (1 : Int32))), none]) ⟨rfl, ⟨rfl, ⟨rfl, ⟨rfl, ⟨rfl, ⟨rfl, trivial⟩⟩⟩⟩⟩⟩ ?_
          exact hI _ rfl
set_option maxRecDepth 20000 in
theorem c_X6_outside {d : Nat}  {a1 : Int32} {a2 : Int32} {a3 : Int32} {res : Int32} (hs : s_X6_outside kn ne a1 a2 a3 = some res) : Calls mX6_outside (d + 1) false 0 0 [vR 0, vI a1, vI a2, vI a3] (wM kn ne fi se ma on ot ta po ti nu mo wa nx oT cF bg ed sF qu qd tr) (fun r w' => r = some (vI res) ∧ w' = (wM kn ne fi se ma on ot ta po ti nu mo wa nx oT cF bg ed sF qu qd tr)) := by
  unfold s_X6_outside at hs
  refine Calls.of kX6_outside 3 [some (vR 0), some (vI a1), some (vI a2), some (vI a3), none, none, none] rfl (Nat.le_of_ble_eq_true rfl) ?_
  refine go_iconst (pc := 0) (0 : Int32) dX6_outside_0 (by decide) ?_
  refine go_istore (pc := 1) [some (vR 0), some (vI a1), some (vI a2), some (vI a3), some (vI (0 : Int32)), none, none] dX6_outside_1 (by decide) rfl ?_
  refine go_iconst (pc := 3) (0 : Int32) dX6_outside_3 (by decide) ?_
  refine go_istore (pc := 4) [some (vR 0), some (vI a1), some (vI a2), some (vI a3), some (vI (0 : Int32)), some (vI (0 : Int32)), none] dX6_outside_4 (by decide) rfl ?_
  obtain ⟨e11, hl12, hs⟩ := bnd hs
  refine g_X6_outside_6 (d := d) _ e11 hl12 ?_
  refine go_iload (pc := 80) dX6_outside_80 rfl ?_
  obtain rfl := Option.some.inj hs
  exact go_ireturn (st := []) (pc := 82) dX6_outside_82 rfl (vp_nar_int _) (fun h => by cases h) ⟨rfl, rfl⟩
noncomputable def b_X6_growth_25 (kn : (Nat → Int32)) (ne : (Nat → Int32)) (y1 : Int32) (y2 : Int32) (x : Int32 × Int32) : Option ((Int32 × Int32) ⊕ (Int32)) := chk y1 4 (if ((1 : Int32) <<< ((kn y1.toNatClampNeg) &&& 31)) ≤ x.2 then (some (Sum.inr x.1)) else ((s_X6_bits x.2).bind (fun x9 => chk y1 4 (if (kn y1.toNatClampNeg) < ((2 : Int32) * x9) then (some (Sum.inl (x.1, x.2 + (1 : Int32)))) else (if x.1 = 0 then (if (1 : Int32) = 0 then (some (Sum.inl (x.1, x.2 + (1 : Int32)))) else (some (Sum.inl (x.2, x.2 + (1 : Int32))))) else ((s_X6_outside kn ne y1 x.2 y2).bind (fun x15 => (s_X6_bits x.1).bind (fun x17 => (s_X6_outside kn ne y1 x.1 y2).bind (fun x19 => (s_X6_bits x.2).bind (fun x21 => if (x19 * x21) ≤ (x15 * x17) then (if (0 : Int32) = 0 then (some (Sum.inl (x.1, x.2 + (1 : Int32)))) else (some (Sum.inl (x.2, x.2 + (1 : Int32))))) else (if (1 : Int32) = 0 then (some (Sum.inl (x.1, x.2 + (1 : Int32)))) else (some (Sum.inl (x.2, x.2 + (1 : Int32)))))))))))))))
noncomputable def s_X6_growth (kn : (Nat → Int32)) (ne : (Nat → Int32)) (a1 : Int32) (a2 : Int32) (a3 : Int32) : Option (Int32) := (s_X6_isNet a1).bind (fun x1 => if x1 = 0 then (some (-2 : Int32)) else ((s_X6_in a3 (0 : Int32) (2 : Int32)).bind (fun x4 => if x4 = 0 then (some (-2 : Int32)) else ((loop (b_X6_growth_25 kn ne a1 a2) ((0 : Int32), (1 : Int32))).bind (fun e26 => if e26 = 0 then (some (-1 : Int32)) else (if a3 = 0 then ((s_X6_outside kn ne a1 e26 a2).bind (fun x33 => some x33)) else (if a3 = (1 : Int32) then ((s_X6_bits e26).bind (fun x31 => some x31)) else (some e26))))))))
set_option maxRecDepth 20000 in
theorem g_X6_growth_25 {d : Nat} {Q : Option AV → List AC → Prop} {y1 : Int32} {y2 : Int32} {y3 : Int32} (x : Int32 × Int32) (r : Int32) (hl : loop (b_X6_growth_25 kn ne y1 y2) x = some r) (hk : (fun r : Int32 => Go mX6_growth (d + 2) false 0 0 117 [some (vR 0), some (vI y1), some (vI y2), some (vI y3), some (vI r), none, none] [] (wM kn ne fi se ma on ot ta po ti nu mo wa nx oT cF bg ed sF qu qd tr) Q) r) : (fun x : Int32 × Int32 => Go mX6_growth (d + 2) false 0 0 25 [some (vR 0), some (vI y1), some (vI y2), some (vI y3), some (vI x.1), some (vI x.2), none] [] (wM kn ne fi se ma on ot ta po ti nu mo wa nx oT cF bg ed sF qu qd tr) Q) x := by
  refine loop_go (P := fun x : Int32 × Int32 => Go mX6_growth (d + 2) false 0 0 25 [some (vR 0), some (vI y1), some (vI y2), some (vI y3), some (vI x.1), some (vI x.2), none] [] (wM kn ne fi se ma on ot ta po ti nu mo wa nx oT cF bg ed sF qu qd tr) Q) (K := fun r : Int32 => Go mX6_growth (d + 2) false 0 0 117 [some (vR 0), some (vI y1), some (vI y2), some (vI y3), some (vI r), none, none] [] (wM kn ne fi se ma on ot ta po ti nu mo wa nx oT cF bg ed sF qu qd tr) Q) ?_ x r hl hk
  · intro x y hs hI hE
    unfold b_X6_growth_25 at hs
    show Go mX6_growth (d + 2) false 0 0 25 [some (vR 0), some (vI y1), some (vI y2), some (vI y3), some (vI x.1), some (vI x.2), none] [] (wM kn ne fi se ma on ot ta po ti nu mo wa nx oT cF bg ed sF qu qd tr) Q
    refine go_iload (pc := 25) dX6_growth_25 rfl ?_
    refine go_iconst (pc := 27) (1 : Int32) dX6_growth_27 (by decide) ?_
    refine go_aload_n (pc := 28) 0 dX6_growth_28 rfl rfl ?_
    refine go_getfield (pc := 29) (v := vR 1) 0 6 0 dX6_growth_29 flX6_7 rfl rfl ?_
    refine go_iload_n (pc := 32) 1 dX6_growth_32 rfl rfl ?_
    obtain ⟨hi7, hs⟩ := chk_t hs
    refine go_iaload (pc := 33) 1 dX6_growth_33 rfl hi7 ?_
    refine go_ishl (pc := 34) dX6_growth_34 ?_
    refine go_icmp_ge (pc := 35) 117 dX6_growth_35 (by decide) (fun h8 => ?_) (fun h8 => ?_)
    · have hs := it_t h8 hs
      obtain rfl := Option.some.inj hs
      refine go_sub (lv' := [some (vR 0), some (vI y1), some (vI y2), some (vI y3), some (vI x.1), none, none]) ⟨rfl, ⟨rfl, ⟨rfl, ⟨rfl, ⟨rfl, trivial⟩⟩⟩⟩⟩ ?_
      exact hE _ rfl
    · have hs := it_f h8 hs
      refine go_iconst (pc := 38) (2 : Int32) dX6_growth_38 (by decide) ?_
      refine go_iload (pc := 39) dX6_growth_39 rfl ?_
      obtain ⟨x9, hc10, hs⟩ := bnd hs
      refine go_callS (bc := 0) (bs := 0) (mc := 0) (ms := 0) (d := d + 1) (pc := 41) [vI x.2] [vI (2 : Int32)] dX6_growth_41 kX6_bits mlX6_73 isX6_bits rfl (Nat.le_of_ble_eq_true rfl) rfl (c_X6_bits (d := d + 1) hc10) (fun r w' hq => ?_)
      obtain ⟨rfl, rfl⟩ := hq
      show Go mX6_growth (d + 2) false 0 0 44 [some (vR 0), some (vI y1), some (vI y2), some (vI y3), some (vI x.1), some (vI x.2), none] [vI x9, vI (2 : Int32)] (wM kn ne fi se ma on ot ta po ti nu mo wa nx oT cF bg ed sF qu qd tr) Q
      refine go_imul (pc := 44) dX6_growth_44 ?_
      refine go_aload_n (pc := 45) 0 dX6_growth_45 rfl rfl ?_
      refine go_getfield (pc := 46) (v := vR 1) 0 6 0 dX6_growth_46 flX6_7 rfl rfl ?_
      refine go_iload_n (pc := 49) 1 dX6_growth_49 rfl rfl ?_
      obtain ⟨hi11, hs⟩ := chk_t hs
      refine go_iaload (pc := 50) 1 dX6_growth_50 rfl hi11 ?_
      refine go_icmp_gt (pc := 51) 111 dX6_growth_51 (by decide) (fun h12 => ?_) (fun h12 => ?_)
      · have hs := it_t h12 hs
        refine go_iinc (pc := 111) (x.2 + (1 : Int32)) [some (vR 0), some (vI y1), some (vI y2), some (vI y3), some (vI x.1), some (vI (x.2 + (1 : Int32))), none] dX6_growth_111 rfl rfl (by decide) rfl ?_
        refine go_goto (pc := 114) 25 dX6_growth_114 (by decide) ?_
        obtain rfl := Option.some.inj hs
        exact hI _ rfl
      · have hs := it_f h12 hs
        refine go_iload (pc := 54) dX6_growth_54 rfl ?_
        refine go_if_eq (pc := 56) 90 dX6_growth_56 (by decide) (fun h13 => ?_) (fun h13 => ?_)
        · have hs := it_t h13 hs
          refine go_iconst (pc := 90) (1 : Int32) dX6_growth_90 (by decide) ?_
          refine go_goto (pc := 91) 95 dX6_growth_91 (by decide) ?_
          refine go_istore (pc := 95) [some (vR 0), some (vI y1), some (vI y2), some (vI y3), some (vI x.1), some (vI x.2), some (vI (1 : Int32))] dX6_growth_95 (by decide) rfl ?_
          refine go_iload (pc := 97) dX6_growth_97 rfl ?_
          refine go_if_eq (pc := 99) 107 dX6_growth_99 (by decide) (fun h14 => ?_) (fun h14 => ?_)
          · have hs := it_t h14 hs
            refine go_iload (pc := 107) dX6_growth_107 rfl ?_
            refine go_istore (pc := 109) [some (vR 0), some (vI y1), some (vI y2), some (vI y3), some (vI x.1), some (vI x.2), some (vI (1 : Int32))] dX6_growth_109 (by decide) rfl ?_
            refine go_iinc (pc := 111) (x.2 + (1 : Int32)) [some (vR 0), some (vI y1), some (vI y2), some (vI y3), some (vI x.1), some (vI (x.2 + (1 : Int32))), some (vI (1 : Int32))] dX6_growth_111 rfl rfl (by decide) rfl ?_
            refine go_goto (pc := 114) 25 dX6_growth_114 (by decide) ?_
            obtain rfl := Option.some.inj hs
            refine go_sub (lv' := [some (vR 0), some (vI y1), some (vI y2), some (vI y3), some (vI x.1), some (vI (x.2 + (1 : Int32))), none]) ⟨rfl, ⟨rfl, ⟨rfl, ⟨rfl, ⟨rfl, ⟨rfl, trivial⟩⟩⟩⟩⟩⟩ ?_
            exact hI _ rfl
          · have hs := it_f h14 hs
            refine go_iload (pc := 102) dX6_growth_102 rfl ?_
            refine go_goto (pc := 104) 109 dX6_growth_104 (by decide) ?_
            refine go_istore (pc := 109) [some (vR 0), some (vI y1), some (vI y2), some (vI y3), some (vI x.2), some (vI x.2), some (vI (1 : Int32))] dX6_growth_109 (by decide) rfl ?_
            refine go_iinc (pc := 111) (x.2 + (1 : Int32)) [some (vR 0), some (vI y1), some (vI y2), some (vI y3), some (vI x.2), some (vI (x.2 + (1 : Int32))), some (vI (1 : Int32))] dX6_growth_111 rfl rfl (by decide) rfl ?_
            refine go_goto (pc := 114) 25 dX6_growth_114 (by decide) ?_
            obtain rfl := Option.some.inj hs
            refine go_sub (lv' := [some (vR 0), some (vI y1), some (vI y2), some (vI y3), some (vI x.2), some (vI (x.2 + (1 : Int32))), none]) ⟨rfl, ⟨rfl, ⟨rfl, ⟨rfl, ⟨rfl, ⟨rfl, trivial⟩⟩⟩⟩⟩⟩ ?_
            exact hI _ rfl
        · have hs := it_f h13 hs
          refine go_aload_n (pc := 59) 0 dX6_growth_59 rfl rfl ?_
          refine go_iload_n (pc := 60) 1 dX6_growth_60 rfl rfl ?_
          refine go_iload (pc := 61) dX6_growth_61 rfl ?_
          refine go_iload_n (pc := 63) 2 dX6_growth_63 rfl rfl ?_
          obtain ⟨x15, hc16, hs⟩ := bnd hs
          refine go_callV (bc := 0) (bs := 0) (mc := 0) (ms := 0) (d := d + 1) (pc := 64) (a := 0) (ci := 6) [vI y1, vI x.2, vI y2] [] dX6_growth_64 kX6_outside mlX6_113 ivX6_outside rfl rfl rfl rfl (Nat.le_of_ble_eq_true rfl) rfl (c_X6_outside (d := d + 0) hc16) (fun r w' hq => ?_)
          obtain ⟨rfl, rfl⟩ := hq
          show Go mX6_growth (d + 2) false 0 0 67 [some (vR 0), some (vI y1), some (vI y2), some (vI y3), some (vI x.1), some (vI x.2), none] [vI x15] (wM kn ne fi se ma on ot ta po ti nu mo wa nx oT cF bg ed sF qu qd tr) Q
          refine go_iload (pc := 67) dX6_growth_67 rfl ?_
          obtain ⟨x17, hc18, hs⟩ := bnd hs
          refine go_callS (bc := 0) (bs := 0) (mc := 0) (ms := 0) (d := d + 1) (pc := 69) [vI x.1] [vI x15] dX6_growth_69 kX6_bits mlX6_73 isX6_bits rfl (Nat.le_of_ble_eq_true rfl) rfl (c_X6_bits (d := d + 1) hc18) (fun r w' hq => ?_)
          obtain ⟨rfl, rfl⟩ := hq
          show Go mX6_growth (d + 2) false 0 0 72 [some (vR 0), some (vI y1), some (vI y2), some (vI y3), some (vI x.1), some (vI x.2), none] [vI x17, vI x15] (wM kn ne fi se ma on ot ta po ti nu mo wa nx oT cF bg ed sF qu qd tr) Q
          refine go_imul (pc := 72) dX6_growth_72 ?_
          refine go_aload_n (pc := 73) 0 dX6_growth_73 rfl rfl ?_
          refine go_iload_n (pc := 74) 1 dX6_growth_74 rfl rfl ?_
          refine go_iload (pc := 75) dX6_growth_75 rfl ?_
          refine go_iload_n (pc := 77) 2 dX6_growth_77 rfl rfl ?_
          obtain ⟨x19, hc20, hs⟩ := bnd hs
          refine go_callV (bc := 0) (bs := 0) (mc := 0) (ms := 0) (d := d + 1) (pc := 78) (a := 0) (ci := 6) [vI y1, vI x.1, vI y2] [vI (x15 * x17)] dX6_growth_78 kX6_outside mlX6_113 ivX6_outside rfl rfl rfl rfl (Nat.le_of_ble_eq_true rfl) rfl (c_X6_outside (d := d + 0) hc20) (fun r w' hq => ?_)
          obtain ⟨rfl, rfl⟩ := hq
          show Go mX6_growth (d + 2) false 0 0 81 [some (vR 0), some (vI y1), some (vI y2), some (vI y3), some (vI x.1), some (vI x.2), none] [vI x19, vI (x15 * x17)] (wM kn ne fi se ma on ot ta po ti nu mo wa nx oT cF bg ed sF qu qd tr) Q
          refine go_iload (pc := 81) dX6_growth_81 rfl ?_
          obtain ⟨x21, hc22, hs⟩ := bnd hs
          refine go_callS (bc := 0) (bs := 0) (mc := 0) (ms := 0) (d := d + 1) (pc := 83) [vI x.2] [vI x19, vI (x15 * x17)] dX6_growth_83 kX6_bits mlX6_73 isX6_bits rfl (Nat.le_of_ble_eq_true rfl) rfl (c_X6_bits (d := d + 1) hc22) (fun r w' hq => ?_)
          obtain ⟨rfl, rfl⟩ := hq
          show Go mX6_growth (d + 2) false 0 0 86 [some (vR 0), some (vI y1), some (vI y2), some (vI y3), some (vI x.1), some (vI x.2), none] [vI x21, vI x19, vI (x15 * x17)] (wM kn ne fi se ma on ot ta po ti nu mo wa nx oT cF bg ed sF qu qd tr) Q
          refine go_imul (pc := 86) dX6_growth_86 ?_
          refine go_icmp_ge (pc := 87) 94 dX6_growth_87 (by decide) (fun h23 => ?_) (fun h23 => ?_)
          · have hs := it_t h23 hs
            refine go_iconst (pc := 94) (0 : Int32) dX6_growth_94 (by decide) ?_
            refine go_istore (pc := 95) [some (vR 0), some (vI y1), some (vI y2), some (vI y3), some (vI x.1), some (vI x.2), some (vI (0 : Int32))] dX6_growth_95 (by decide) rfl ?_
            refine go_iload (pc := 97) dX6_growth_97 rfl ?_
            refine go_if_eq (pc := 99) 107 dX6_growth_99 (by decide) (fun h24 => ?_) (fun h24 => ?_)
            · have hs := it_t h24 hs
              refine go_iload (pc := 107) dX6_growth_107 rfl ?_
              refine go_istore (pc := 109) [some (vR 0), some (vI y1), some (vI y2), some (vI y3), some (vI x.1), some (vI x.2), some (vI (0 : Int32))] dX6_growth_109 (by decide) rfl ?_
              refine go_iinc (pc := 111) (x.2 + (1 : Int32)) [some (vR 0), some (vI y1), some (vI y2), some (vI y3), some (vI x.1), some (vI (x.2 + (1 : Int32))), some (vI (0 : Int32))] dX6_growth_111 rfl rfl (by decide) rfl ?_
              refine go_goto (pc := 114) 25 dX6_growth_114 (by decide) ?_
              obtain rfl := Option.some.inj hs
              refine go_sub (lv' := [some (vR 0), some (vI y1), some (vI y2), some (vI y3), some (vI x.1), some (vI (x.2 + (1 : Int32))), none]) ⟨rfl, ⟨rfl, ⟨rfl, ⟨rfl, ⟨rfl, ⟨rfl, trivial⟩⟩⟩⟩⟩⟩ ?_
              exact hI _ rfl
            · have hs := it_f h24 hs
              refine go_iload (pc := 102) dX6_growth_102 rfl ?_
              refine go_goto (pc := 104) 109 dX6_growth_104 (by decide) ?_
              refine go_istore (pc := 109) [some (vR 0), some (vI y1), some (vI y2), some (vI y3), some (vI x.2), some (vI x.2), some (vI (0 : Int32))] dX6_growth_109 (by decide) rfl ?_
              refine go_iinc (pc := 111) (x.2 + (1 : Int32)) [some (vR 0), some (vI y1), some (vI y2), some (vI y3), some (vI x.2), some (vI (x.2 + (1 : Int32))), some (vI (0 : Int32))] dX6_growth_111 rfl rfl (by decide) rfl ?_
              refine go_goto (pc := 114) 25 dX6_growth_114 (by decide) ?_
              obtain rfl := Option.some.inj hs
              refine go_sub (lv' := [some (vR 0), some (vI y1), some (vI y2), some (vI y3), some (vI x.2), some (vI (x.2 + (1 : Int32))), none]) ⟨rfl, ⟨rfl, ⟨rfl, ⟨rfl, ⟨rfl, ⟨rfl, trivial⟩⟩⟩⟩⟩⟩ ?_
              exact hI _ rfl
          · have hs := it_f h23 hs
            refine go_iconst (pc := 90) (1 : Int32) dX6_growth_90 (by decide) ?_
            refine go_goto (pc := 91) 95 dX6_growth_91 (by decide) ?_
            refine go_istore (pc := 95) [some (vR 0), some (vI y1), some (vI y2), some (vI y3), some (vI x.1), some (vI x.2), some (vI (1 : Int32))] dX6_growth_95 (by decide) rfl ?_
            refine go_iload (pc := 97) dX6_growth_97 rfl ?_
            refine go_if_eq (pc := 99) 107 dX6_growth_99 (by decide) (fun h25 => ?_) (fun h25 => ?_)
            · have hs := it_t h25 hs
              refine go_iload (pc := 107) dX6_growth_107 rfl ?_
              refine go_istore (pc := 109) [some (vR 0), some (vI y1), some (vI y2), some (vI y3), some (vI x.1), some (vI x.2), some (vI (1 : Int32))] dX6_growth_109 (by decide) rfl ?_
              refine go_iinc (pc := 111) (x.2 + (1 : Int32)) [some (vR 0), some (vI y1), some (vI y2), some (vI y3), some (vI x.1), some (vI (x.2 + (1 : Int32))), some (vI (1 : Int32))] dX6_growth_111 rfl rfl (by decide) rfl ?_
              refine go_goto (pc := 114) 25 dX6_growth_114 (by decide) ?_
              obtain rfl := Option.some.inj hs
              refine go_sub (lv' := [some (vR 0), some (vI y1), some (vI y2), some (vI y3), some (vI x.1), some (vI (x.2 + (1 : Int32))), none]) ⟨rfl, ⟨rfl, ⟨rfl, ⟨rfl, ⟨rfl, ⟨rfl, trivial⟩⟩⟩⟩⟩⟩ ?_
              exact hI _ rfl
            · have hs := it_f h25 hs
              refine go_iload (pc := 102) dX6_growth_102 rfl ?_
              refine go_goto (pc := 104) 109 dX6_growth_104 (by decide) ?_
              refine go_istore (pc := 109) [some (vR 0), some (vI y1), some (vI y2), some (vI y3), some (vI x.2), some (vI x.2), some (vI (1 : Int32))] dX6_growth_109 (by decide) rfl ?_
              refine go_iinc (pc := 111) (x.2 + (1 : Int32)) [some (vR 0), some (vI y1), some (vI y2), some (vI y3), some (vI x.2), some (vI (x.2 + (1 : Int32))), some (vI (1 : Int32))] dX6_growth_111 rfl rfl (by decide) rfl ?_
              refine go_goto (pc := 114) 25 dX6_growth_114 (by decide) ?_
              obtain rfl := Option.some.inj hs
              refine go_sub (lv' := [some (vR 0), some (vI y1), some (vI y2), some (vI y3), some (vI x.2), some (vI (x.2 + (1 : Int32))), none]) ⟨rfl, ⟨rfl, ⟨rfl, ⟨rfl, ⟨rfl, ⟨rfl, trivial⟩⟩⟩⟩⟩⟩ ?_
              exact hI _ rfl
set_option maxRecDepth 20000 in
theorem c_X6_growth {d : Nat}  {a1 : Int32} {a2 : Int32} {a3 : Int32} {res : Int32} (hs : s_X6_growth kn ne a1 a2 a3 = some res) : Calls mX6_growth (d + 2) false 0 0 [vR 0, vI a1, vI a2, vI a3] (wM kn ne fi se ma on ot ta po ti nu mo wa nx oT cF bg ed sF qu qd tr) (fun r w' => r = some (vI res) ∧ w' = (wM kn ne fi se ma on ot ta po ti nu mo wa nx oT cF bg ed sF qu qd tr)) := by
  unfold s_X6_growth at hs
  refine Calls.of kX6_growth 3 [some (vR 0), some (vI a1), some (vI a2), some (vI a3), none, none, none] rfl (Nat.le_of_ble_eq_true rfl) ?_
  refine go_iload_n (pc := 0) 1 dX6_growth_0 rfl rfl ?_
  obtain ⟨x1, hc2, hs⟩ := bnd hs
  refine go_callS (bc := 0) (bs := 0) (mc := 0) (ms := 0) (d := d + 1) (pc := 1) [vI a1] [] dX6_growth_1 kX6_isNet mlX6_69 isX6_isNet rfl (Nat.le_of_ble_eq_true rfl) rfl (c_X6_isNet (d := d + 0) hc2) (fun r w' hq => ?_)
  obtain ⟨rfl, rfl⟩ := hq
  show Go mX6_growth (d + 2) false 0 0 4 [some (vR 0), some (vI a1), some (vI a2), some (vI a3), none, none, none] [vI x1] (wM kn ne fi se ma on ot ta po ti nu mo wa nx oT cF bg ed sF qu qd tr) _
  refine go_if_eq (pc := 4) 16 dX6_growth_4 (by decide) (fun h3 => ?_) (fun h3 => ?_)
  · have hs := it_t h3 hs
    refine go_bipush (pc := 16) (-2 : Int32) dX6_growth_16 (by decide) ?_
    obtain rfl := Option.some.inj hs
    exact go_ireturn (st := []) (pc := 18) dX6_growth_18 rfl (vp_nar_int _) (fun h => by cases h) ⟨rfl, rfl⟩
  · have hs := it_f h3 hs
    refine go_iload_n (pc := 7) 3 dX6_growth_7 rfl rfl ?_
    refine go_iconst (pc := 8) (0 : Int32) dX6_growth_8 (by decide) ?_
    refine go_iconst (pc := 9) (2 : Int32) dX6_growth_9 (by decide) ?_
    obtain ⟨x4, hc5, hs⟩ := bnd hs
    refine go_callS (bc := 0) (bs := 0) (mc := 0) (ms := 0) (d := d + 1) (pc := 10) [vI a3, vI (0 : Int32), vI (2 : Int32)] [] dX6_growth_10 kX6_in mlX6_65 isX6_in rfl (Nat.le_of_ble_eq_true rfl) rfl (c_X6_in (d := d + 1) hc5) (fun r w' hq => ?_)
    obtain ⟨rfl, rfl⟩ := hq
    show Go mX6_growth (d + 2) false 0 0 13 [some (vR 0), some (vI a1), some (vI a2), some (vI a3), none, none, none] [vI x4] (wM kn ne fi se ma on ot ta po ti nu mo wa nx oT cF bg ed sF qu qd tr) _
    refine go_if_ne (pc := 13) 19 dX6_growth_13 (by decide) (fun h6 => ?_) (fun h6 => ?_)
    · have hs := it_f h6 hs
      refine go_iconst (pc := 19) (0 : Int32) dX6_growth_19 (by decide) ?_
      refine go_istore (pc := 20) [some (vR 0), some (vI a1), some (vI a2), some (vI a3), some (vI (0 : Int32)), none, none] dX6_growth_20 (by decide) rfl ?_
      refine go_iconst (pc := 22) (1 : Int32) dX6_growth_22 (by decide) ?_
      refine go_istore (pc := 23) [some (vR 0), some (vI a1), some (vI a2), some (vI a3), some (vI (0 : Int32)), some (vI (1 : Int32)), none] dX6_growth_23 (by decide) rfl ?_
      obtain ⟨e26, hl27, hs⟩ := bnd hs
      refine g_X6_growth_25 (d := d) _ e26 hl27 ?_
      refine go_iload (pc := 117) dX6_growth_117 rfl ?_
      refine go_if_ne (pc := 119) 126 dX6_growth_119 (by decide) (fun h28 => ?_) (fun h28 => ?_)
      · have hs := it_f h28 hs
        refine go_iload_n (pc := 126) 3 dX6_growth_126 rfl rfl ?_
        refine go_if_ne (pc := 127) 141 dX6_growth_127 (by decide) (fun h29 => ?_) (fun h29 => ?_)
        · have hs := it_f h29 hs
          refine go_iload_n (pc := 141) 3 dX6_growth_141 rfl rfl ?_
          refine go_iconst (pc := 142) (1 : Int32) dX6_growth_142 (by decide) ?_
          refine go_icmp_ne (pc := 143) 154 dX6_growth_143 (by decide) (fun h30 => ?_) (fun h30 => ?_)
          · have hs := it_f h30 hs
            refine go_iload (pc := 154) dX6_growth_154 rfl ?_
            obtain rfl := Option.some.inj hs
            exact go_ireturn (st := []) (pc := 156) dX6_growth_156 rfl (vp_nar_int _) (fun h => by cases h) ⟨rfl, rfl⟩
          · have hs := it_t h30 hs
            refine go_iload (pc := 146) dX6_growth_146 rfl ?_
            obtain ⟨x31, hc32, hs⟩ := bnd hs
            refine go_callS (bc := 0) (bs := 0) (mc := 0) (ms := 0) (d := d + 1) (pc := 148) [vI e26] [] dX6_growth_148 kX6_bits mlX6_73 isX6_bits rfl (Nat.le_of_ble_eq_true rfl) rfl (c_X6_bits (d := d + 1) hc32) (fun r w' hq => ?_)
            obtain ⟨rfl, rfl⟩ := hq
            show Go mX6_growth (d + 2) false 0 0 151 [some (vR 0), some (vI a1), some (vI a2), some (vI a3), some (vI e26), none, none] [vI x31] (wM kn ne fi se ma on ot ta po ti nu mo wa nx oT cF bg ed sF qu qd tr) _
            refine go_goto (pc := 151) 156 dX6_growth_151 (by decide) ?_
            obtain rfl := Option.some.inj hs
            exact go_ireturn (st := []) (pc := 156) dX6_growth_156 rfl (vp_nar_int _) (fun h => by cases h) ⟨rfl, rfl⟩
        · have hs := it_t h29 hs
          refine go_aload_n (pc := 130) 0 dX6_growth_130 rfl rfl ?_
          refine go_iload_n (pc := 131) 1 dX6_growth_131 rfl rfl ?_
          refine go_iload (pc := 132) dX6_growth_132 rfl ?_
          refine go_iload_n (pc := 134) 2 dX6_growth_134 rfl rfl ?_
          obtain ⟨x33, hc34, hs⟩ := bnd hs
          refine go_callV (bc := 0) (bs := 0) (mc := 0) (ms := 0) (d := d + 1) (pc := 135) (a := 0) (ci := 6) [vI a1, vI e26, vI a2] [] dX6_growth_135 kX6_outside mlX6_113 ivX6_outside rfl rfl rfl rfl (Nat.le_of_ble_eq_true rfl) rfl (c_X6_outside (d := d + 0) hc34) (fun r w' hq => ?_)
          obtain ⟨rfl, rfl⟩ := hq
          show Go mX6_growth (d + 2) false 0 0 138 [some (vR 0), some (vI a1), some (vI a2), some (vI a3), some (vI e26), none, none] [vI x33] (wM kn ne fi se ma on ot ta po ti nu mo wa nx oT cF bg ed sF qu qd tr) _
          refine go_goto (pc := 138) 156 dX6_growth_138 (by decide) ?_
          obtain rfl := Option.some.inj hs
          exact go_ireturn (st := []) (pc := 156) dX6_growth_156 rfl (vp_nar_int _) (fun h => by cases h) ⟨rfl, rfl⟩
      · have hs := it_t h28 hs
        refine go_iconst (pc := 122) (-1 : Int32) dX6_growth_122 (by decide) ?_
        refine go_goto (pc := 123) 156 dX6_growth_123 (by decide) ?_
        obtain rfl := Option.some.inj hs
        exact go_ireturn (st := []) (pc := 156) dX6_growth_156 rfl (vp_nar_int _) (fun h => by cases h) ⟨rfl, rfl⟩
    · have hs := it_t h6 hs
      refine go_bipush (pc := 16) (-2 : Int32) dX6_growth_16 (by decide) ?_
      obtain rfl := Option.some.inj hs
      exact go_ireturn (st := []) (pc := 18) dX6_growth_18 rfl (vp_nar_int _) (fun h => by cases h) ⟨rfl, rfl⟩
end
