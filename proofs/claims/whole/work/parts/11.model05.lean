section
variable {kn : (Nat → Int32)} {ne : (Nat → Int32)} {fi : (Nat → Int32)} {se : (Nat → Int32)} {ma : Int32} {on : (Nat → Int32)} {ot : (Nat → Int32)} {ta : (Nat → Int64)} {po : (Nat → Int64)} {ti : (Nat → Int64)} {nu : (Nat → Int64)} {mo : (Nat → Int64)} {wa : (Nat → Int64)} {nx : (Nat → Int64)} {oT : (Nat → Int32)} {cF : (Nat → Int32)} {bg : Int32} {ed : Int32} {sF : (Nat → Int32)} {qu : (Nat → Int32)} {qd : Int32} {tr : (Nat → Int32)}
noncomputable def b_X6_growth_25 (kn : (Nat → Int32)) (ne : (Nat → Int32)) (y1 : Int32) (y2 : Int32) (x : Int32 × Int32) : Option ((Int32 × Int32) ⊕ (Int32)) := chk y1 4 (if ((1 : Int32) <<< ((kn y1.toNatClampNeg) &&& 31)) ≤ x.2 then (some (Sum.inr x.1)) else ((s_X6_bits x.2).bind (fun x9 => chk y1 4 (if (kn y1.toNatClampNeg) < ((2 : Int32) * x9) then (some (Sum.inl (x.1, x.2 + (1 : Int32)))) else (if x.1 = 0 then (if (1 : Int32) = 0 then (some (Sum.inl (x.1, x.2 + (1 : Int32)))) else (some (Sum.inl (x.2, x.2 + (1 : Int32))))) else ((s_X6_outside kn ne y1 x.2 y2).bind (fun x15 => (s_X6_bits x.1).bind (fun x17 => (s_X6_outside kn ne y1 x.1 y2).bind (fun x19 => (s_X6_bits x.2).bind (fun x21 => if (x19 * x21) ≤ (x15 * x17) then (if (0 : Int32) = 0 then (some (Sum.inl (x.1, x.2 + (1 : Int32)))) else (some (Sum.inl (x.2, x.2 + (1 : Int32))))) else (if (1 : Int32) = 0 then (some (Sum.inl (x.1, x.2 + (1 : Int32)))) else (some (Sum.inl (x.2, x.2 + (1 : Int32)))))))))))))))
noncomputable def s_X6_growth (kn : (Nat → Int32)) (ne : (Nat → Int32)) (a1 : Int32) (a2 : Int32) (a3 : Int32) : Option (Int32) := (s_X6_isNet a1).bind (fun x1 => if x1 = 0 then (some (-2 : Int32)) else ((s_X6_in a3 (0 : Int32) (2 : Int32)).bind (fun x4 => if x4 = 0 then (some (-2 : Int32)) else ((loop (b_X6_growth_25 kn ne a1 a2) ((0 : Int32), (1 : Int32))).bind (fun e26 => if e26 = 0 then (some (-1 : Int32)) else (if a3 = 0 then ((s_X6_outside kn ne a1 e26 a2).bind (fun x34 => some x34)) else (if a3 = (1 : Int32) then ((s_X6_bits e26).bind (fun x32 => some x32)) else (some e26))))))))
set_option maxRecDepth 20000 in
theorem g_X6_growth_25 {d : Nat} {Q : Option AV → List AC → Prop} {y1 : Int32} {y2 : Int32} {y3 : Int32} (x0_ : Int32) (x1_ : Int32) (r : Int32) (hl : loop (b_X6_growth_25 kn ne y1 y2) (x0_, x1_) = some r) (hk : Go mX6_growth (d + 2) false 0 0 117 [some (vR 0), some (vI y1), some (vI y2), some (vI y3), some (vI r), none, none] [] (wM kn ne fi se ma on ot ta po ti nu mo wa nx oT cF bg ed sF qu qd tr) Q) : Go mX6_growth (d + 2) false 0 0 25 [some (vR 0), some (vI y1), some (vI y2), some (vI y3), some (vI x0_), some (vI x1_), none] [] (wM kn ne fi se ma on ot ta po ti nu mo wa nx oT cF bg ed sF qu qd tr) Q := by
  refine loop_go (P := fun x : Int32 × Int32 => ∀ (x0_ : Int32) (x1_ : Int32), x = (x0_, x1_) → Go mX6_growth (d + 2) false 0 0 25 [some (vR 0), some (vI y1), some (vI y2), some (vI y3), some (vI x0_), some (vI x1_), none] [] (wM kn ne fi se ma on ot ta po ti nu mo wa nx oT cF bg ed sF qu qd tr) Q) (K := fun r : Int32 => Go mX6_growth (d + 2) false 0 0 117 [some (vR 0), some (vI y1), some (vI y2), some (vI y3), some (vI r), none, none] [] (wM kn ne fi se ma on ot ta po ti nu mo wa nx oT cF bg ed sF qu qd tr) Q) ?_ (x0_, x1_) r hl hk x0_ x1_ rfl
  · intro x y hs hI hE x0_ x1_ hx
    subst hx
    unfold b_X6_growth_25 at hs
    try dsimp only at hs
    refine go_iload (pc := 25) dX6_growth_25 rfl ?_
    refine go_iconst (pc := 27) (1 : Int32) dX6_growth_27 (by decide) ?_
    refine go_aload_n (pc := 28) 0 dX6_growth_28 rfl rfl ?_
    refine go_getfield (pc := 29) (v := vR 1) 0 6 0 dX6_growth_29 flX6_7 rfl rfl ?_
    refine go_iload_n (pc := 32) 1 dX6_growth_32 rfl rfl ?_
    obtain ⟨hi7, hs⟩ := chk_t hs
    refine go_iaload (pc := 33) 1 dX6_growth_33 rfl hi7 ?_
    refine go_ishl (pc := 34) dX6_growth_34 ?_
    refine go_icmp_ge (pc := 35) 117 dX6_growth_35 (by decide) (fun h8 => ?_) (fun h8 => ?_)
    · have hs := it_t h8 hs
      obtain rfl := Option.some.inj hs
      refine go_sub (lv' := [some (vR 0), some (vI y1), some (vI y2), some (vI y3), some (vI x0_), none, none]) ⟨rfl, ⟨rfl, ⟨rfl, ⟨rfl, ⟨rfl, trivial⟩⟩⟩⟩⟩ ?_
      exact hE x0_ rfl
    · have hs := it_f h8 hs
      refine go_iconst (pc := 38) (2 : Int32) dX6_growth_38 (by decide) ?_
      refine go_iload (pc := 39) dX6_growth_39 rfl ?_
      obtain ⟨x9, hc10, hs⟩ := bnd hs
      refine go_callS (bc := 0) (bs := 0) (mc := 0) (ms := 0) (d := d + 1) (pc := 41) [vI x1_] [vI (2 : Int32)] dX6_growth_41 kX6_bits mlX6_73 isX6_bits rfl (Nat.le_of_ble_eq_true rfl) rfl (c_X6_bits (d := d + 1) (res0 := x9) hc10) (fun r w' hq => ?_)
      obtain ⟨rfl, rfl⟩ := hq
      show Go mX6_growth (d + 2) false 0 0 44 [some (vR 0), some (vI y1), some (vI y2), some (vI y3), some (vI x0_), some (vI x1_), none] [vI x9, vI (2 : Int32)] (wM kn ne fi se ma on ot ta po ti nu mo wa nx oT cF bg ed sF qu qd tr) Q
      refine go_imul (pc := 44) dX6_growth_44 ?_
      refine go_aload_n (pc := 45) 0 dX6_growth_45 rfl rfl ?_
      refine go_getfield (pc := 46) (v := vR 1) 0 6 0 dX6_growth_46 flX6_7 rfl rfl ?_
      refine go_iload_n (pc := 49) 1 dX6_growth_49 rfl rfl ?_
      obtain ⟨hi11, hs⟩ := chk_t hs
      refine go_iaload (pc := 50) 1 dX6_growth_50 rfl hi11 ?_
      refine go_icmp_gt (pc := 51) 111 dX6_growth_51 (by decide) (fun h12 => ?_) (fun h12 => ?_)
      · have hs := it_t h12 hs
        refine go_iinc (pc := 111) (x1_ + (1 : Int32)) [some (vR 0), some (vI y1), some (vI y2), some (vI y3), some (vI x0_), some (vI (x1_ + (1 : Int32))), none] dX6_growth_111 rfl (iinc_1 _) (by decide) rfl ?_
        refine go_goto (pc := 114) 25 dX6_growth_114 (by decide) ?_
        obtain rfl := Option.some.inj hs
        exact hI (x0_, x1_ + (1 : Int32)) rfl x0_ (x1_ + (1 : Int32)) rfl
      · have hs := it_f h12 hs
        refine go_iload (pc := 54) dX6_growth_54 rfl ?_
        refine go_if_eq (pc := 56) 90 dX6_growth_56 (by decide) (fun h13 => ?_) (fun h13 => ?_)
        · have hs := it_t h13 hs
          refine go_iconst (pc := 90) (1 : Int32) dX6_growth_90 (by decide) ?_
          refine go_goto (pc := 91) 95 dX6_growth_91 (by decide) ?_
          refine go_istore (pc := 95) [some (vR 0), some (vI y1), some (vI y2), some (vI y3), some (vI x0_), some (vI x1_), some (vI (1 : Int32))] dX6_growth_95 (by decide) rfl ?_
          refine go_iload (pc := 97) dX6_growth_97 rfl ?_
          refine go_if_eq (pc := 99) 107 dX6_growth_99 (by decide) (fun h14 => ?_) (fun h14 => ?_)
          · have hs := it_t h14 hs
            refine go_iload (pc := 107) dX6_growth_107 rfl ?_
            refine go_istore (pc := 109) [some (vR 0), some (vI y1), some (vI y2), some (vI y3), some (vI x0_), some (vI x1_), some (vI (1 : Int32))] dX6_growth_109 (by decide) rfl ?_
            refine go_iinc (pc := 111) (x1_ + (1 : Int32)) [some (vR 0), some (vI y1), some (vI y2), some (vI y3), some (vI x0_), some (vI (x1_ + (1 : Int32))), some (vI (1 : Int32))] dX6_growth_111 rfl (iinc_1 _) (by decide) rfl ?_
            refine go_goto (pc := 114) 25 dX6_growth_114 (by decide) ?_
            obtain rfl := Option.some.inj hs
            refine go_sub (lv' := [some (vR 0), some (vI y1), some (vI y2), some (vI y3), some (vI x0_), some (vI (x1_ + (1 : Int32))), none]) ⟨rfl, ⟨rfl, ⟨rfl, ⟨rfl, ⟨rfl, ⟨rfl, trivial⟩⟩⟩⟩⟩⟩ ?_
            exact hI (x0_, x1_ + (1 : Int32)) rfl x0_ (x1_ + (1 : Int32)) rfl
          · have hs := it_f h14 hs
            refine go_iload (pc := 102) dX6_growth_102 rfl ?_
            refine go_goto (pc := 104) 109 dX6_growth_104 (by decide) ?_
            refine go_istore (pc := 109) [some (vR 0), some (vI y1), some (vI y2), some (vI y3), some (vI x1_), some (vI x1_), some (vI (1 : Int32))] dX6_growth_109 (by decide) rfl ?_
            refine go_iinc (pc := 111) (x1_ + (1 : Int32)) [some (vR 0), some (vI y1), some (vI y2), some (vI y3), some (vI x1_), some (vI (x1_ + (1 : Int32))), some (vI (1 : Int32))] dX6_growth_111 rfl (iinc_1 _) (by decide) rfl ?_
            refine go_goto (pc := 114) 25 dX6_growth_114 (by decide) ?_
            obtain rfl := Option.some.inj hs
            refine go_sub (lv' := [some (vR 0), some (vI y1), some (vI y2), some (vI y3), some (vI x1_), some (vI (x1_ + (1 : Int32))), none]) ⟨rfl, ⟨rfl, ⟨rfl, ⟨rfl, ⟨rfl, ⟨rfl, trivial⟩⟩⟩⟩⟩⟩ ?_
            exact hI (x1_, x1_ + (1 : Int32)) rfl x1_ (x1_ + (1 : Int32)) rfl
        · have hs := it_f h13 hs
          refine go_aload_n (pc := 59) 0 dX6_growth_59 rfl rfl ?_
          refine go_iload_n (pc := 60) 1 dX6_growth_60 rfl rfl ?_
          refine go_iload (pc := 61) dX6_growth_61 rfl ?_
          refine go_iload_n (pc := 63) 2 dX6_growth_63 rfl rfl ?_
          obtain ⟨x15, hc16, hs⟩ := bnd hs
          refine go_callV (bc := 0) (bs := 0) (mc := 0) (ms := 0) (d := d + 1) (pc := 64) (a := 0) (ci := 6) [vI y1, vI x1_, vI y2] [] dX6_growth_64 kX6_outside mlX6_113 ivX6_outside rfl rfl rfl rfl (Nat.le_of_ble_eq_true rfl) rfl (c_X6_outside (d := d + 0) (res0 := x15) hc16) (fun r w' hq => ?_)
          obtain ⟨rfl, rfl⟩ := hq
          show Go mX6_growth (d + 2) false 0 0 67 [some (vR 0), some (vI y1), some (vI y2), some (vI y3), some (vI x0_), some (vI x1_), none] [vI x15] (wM kn ne fi se ma on ot ta po ti nu mo wa nx oT cF bg ed sF qu qd tr) Q
          refine go_iload (pc := 67) dX6_growth_67 rfl ?_
          obtain ⟨x17, hc18, hs⟩ := bnd hs
          refine go_callS (bc := 0) (bs := 0) (mc := 0) (ms := 0) (d := d + 1) (pc := 69) [vI x0_] [vI x15] dX6_growth_69 kX6_bits mlX6_73 isX6_bits rfl (Nat.le_of_ble_eq_true rfl) rfl (c_X6_bits (d := d + 1) (res0 := x17) hc18) (fun r w' hq => ?_)
          obtain ⟨rfl, rfl⟩ := hq
          show Go mX6_growth (d + 2) false 0 0 72 [some (vR 0), some (vI y1), some (vI y2), some (vI y3), some (vI x0_), some (vI x1_), none] [vI x17, vI x15] (wM kn ne fi se ma on ot ta po ti nu mo wa nx oT cF bg ed sF qu qd tr) Q
          refine go_imul (pc := 72) dX6_growth_72 ?_
          refine go_aload_n (pc := 73) 0 dX6_growth_73 rfl rfl ?_
          refine go_iload_n (pc := 74) 1 dX6_growth_74 rfl rfl ?_
          refine go_iload (pc := 75) dX6_growth_75 rfl ?_
          refine go_iload_n (pc := 77) 2 dX6_growth_77 rfl rfl ?_
          obtain ⟨x19, hc20, hs⟩ := bnd hs
          refine go_callV (bc := 0) (bs := 0) (mc := 0) (ms := 0) (d := d + 1) (pc := 78) (a := 0) (ci := 6) [vI y1, vI x0_, vI y2] [vI (x15 * x17)] dX6_growth_78 kX6_outside mlX6_113 ivX6_outside rfl rfl rfl rfl (Nat.le_of_ble_eq_true rfl) rfl (c_X6_outside (d := d + 0) (res0 := x19) hc20) (fun r w' hq => ?_)
          obtain ⟨rfl, rfl⟩ := hq
          show Go mX6_growth (d + 2) false 0 0 81 [some (vR 0), some (vI y1), some (vI y2), some (vI y3), some (vI x0_), some (vI x1_), none] [vI x19, vI (x15 * x17)] (wM kn ne fi se ma on ot ta po ti nu mo wa nx oT cF bg ed sF qu qd tr) Q
          refine go_iload (pc := 81) dX6_growth_81 rfl ?_
          obtain ⟨x21, hc22, hs⟩ := bnd hs
          refine go_callS (bc := 0) (bs := 0) (mc := 0) (ms := 0) (d := d + 1) (pc := 83) [vI x1_] [vI x19, vI (x15 * x17)] dX6_growth_83 kX6_bits mlX6_73 isX6_bits rfl (Nat.le_of_ble_eq_true rfl) rfl (c_X6_bits (d := d + 1) (res0 := x21) hc22) (fun r w' hq => ?_)
          obtain ⟨rfl, rfl⟩ := hq
          show Go mX6_growth (d + 2) false 0 0 86 [some (vR 0), some (vI y1), some (vI y2), some (vI y3), some (vI x0_), some (vI x1_), none] [vI x21, vI x19, vI (x15 * x17)] (wM kn ne fi se ma on ot ta po ti nu mo wa nx oT cF bg ed sF qu qd tr) Q
          refine go_imul (pc := 86) dX6_growth_86 ?_
          refine go_icmp_ge (pc := 87) 94 dX6_growth_87 (by decide) (fun h23 => ?_) (fun h23 => ?_)
          · have hs := it_t h23 hs
            refine go_iconst (pc := 94) (0 : Int32) dX6_growth_94 (by decide) ?_
            refine go_istore (pc := 95) [some (vR 0), some (vI y1), some (vI y2), some (vI y3), some (vI x0_), some (vI x1_), some (vI (0 : Int32))] dX6_growth_95 (by decide) rfl ?_
            refine go_iload (pc := 97) dX6_growth_97 rfl ?_
            refine go_if_eq (pc := 99) 107 dX6_growth_99 (by decide) (fun h24 => ?_) (fun h24 => ?_)
            · have hs := it_t h24 hs
              refine go_iload (pc := 107) dX6_growth_107 rfl ?_
              refine go_istore (pc := 109) [some (vR 0), some (vI y1), some (vI y2), some (vI y3), some (vI x0_), some (vI x1_), some (vI (0 : Int32))] dX6_growth_109 (by decide) rfl ?_
              refine go_iinc (pc := 111) (x1_ + (1 : Int32)) [some (vR 0), some (vI y1), some (vI y2), some (vI y3), some (vI x0_), some (vI (x1_ + (1 : Int32))), some (vI (0 : Int32))] dX6_growth_111 rfl (iinc_1 _) (by decide) rfl ?_
              refine go_goto (pc := 114) 25 dX6_growth_114 (by decide) ?_
              obtain rfl := Option.some.inj hs
              refine go_sub (lv' := [some (vR 0), some (vI y1), some (vI y2), some (vI y3), some (vI x0_), some (vI (x1_ + (1 : Int32))), none]) ⟨rfl, ⟨rfl, ⟨rfl, ⟨rfl, ⟨rfl, ⟨rfl, trivial⟩⟩⟩⟩⟩⟩ ?_
              exact hI (x0_, x1_ + (1 : Int32)) rfl x0_ (x1_ + (1 : Int32)) rfl
            · have hs := it_f h24 hs
              refine go_iload (pc := 102) dX6_growth_102 rfl ?_
              refine go_goto (pc := 104) 109 dX6_growth_104 (by decide) ?_
              refine go_istore (pc := 109) [some (vR 0), some (vI y1), some (vI y2), some (vI y3), some (vI x1_), some (vI x1_), some (vI (0 : Int32))] dX6_growth_109 (by decide) rfl ?_
              refine go_iinc (pc := 111) (x1_ + (1 : Int32)) [some (vR 0), some (vI y1), some (vI y2), some (vI y3), some (vI x1_), some (vI (x1_ + (1 : Int32))), some (vI (0 : Int32))] dX6_growth_111 rfl (iinc_1 _) (by decide) rfl ?_
              refine go_goto (pc := 114) 25 dX6_growth_114 (by decide) ?_
              obtain rfl := Option.some.inj hs
              refine go_sub (lv' := [some (vR 0), some (vI y1), some (vI y2), some (vI y3), some (vI x1_), some (vI (x1_ + (1 : Int32))), none]) ⟨rfl, ⟨rfl, ⟨rfl, ⟨rfl, ⟨rfl, ⟨rfl, trivial⟩⟩⟩⟩⟩⟩ ?_
              exact hI (x1_, x1_ + (1 : Int32)) rfl x1_ (x1_ + (1 : Int32)) rfl
          · have hs := it_f h23 hs
            refine go_iconst (pc := 90) (1 : Int32) dX6_growth_90 (by decide) ?_
            refine go_goto (pc := 91) 95 dX6_growth_91 (by decide) ?_
            refine go_istore (pc := 95) [some (vR 0), some (vI y1), some (vI y2), some (vI y3), some (vI x0_), some (vI x1_), some (vI (1 : Int32))] dX6_growth_95 (by decide) rfl ?_
            refine go_iload (pc := 97) dX6_growth_97 rfl ?_
            refine go_if_eq (pc := 99) 107 dX6_growth_99 (by decide) (fun h25 => ?_) (fun h25 => ?_)
            · have hs := it_t h25 hs
              refine go_iload (pc := 107) dX6_growth_107 rfl ?_
              refine go_istore (pc := 109) [some (vR 0), some (vI y1), some (vI y2), some (vI y3), some (vI x0_), some (vI x1_), some (vI (1 : Int32))] dX6_growth_109 (by decide) rfl ?_
              refine go_iinc (pc := 111) (x1_ + (1 : Int32)) [some (vR 0), some (vI y1), some (vI y2), some (vI y3), some (vI x0_), some (vI (x1_ + (1 : Int32))), some (vI (1 : Int32))] dX6_growth_111 rfl (iinc_1 _) (by decide) rfl ?_
              refine go_goto (pc := 114) 25 dX6_growth_114 (by decide) ?_
              obtain rfl := Option.some.inj hs
              refine go_sub (lv' := [some (vR 0), some (vI y1), some (vI y2), some (vI y3), some (vI x0_), some (vI (x1_ + (1 : Int32))), none]) ⟨rfl, ⟨rfl, ⟨rfl, ⟨rfl, ⟨rfl, ⟨rfl, trivial⟩⟩⟩⟩⟩⟩ ?_
              exact hI (x0_, x1_ + (1 : Int32)) rfl x0_ (x1_ + (1 : Int32)) rfl
            · have hs := it_f h25 hs
              refine go_iload (pc := 102) dX6_growth_102 rfl ?_
              refine go_goto (pc := 104) 109 dX6_growth_104 (by decide) ?_
              refine go_istore (pc := 109) [some (vR 0), some (vI y1), some (vI y2), some (vI y3), some (vI x1_), some (vI x1_), some (vI (1 : Int32))] dX6_growth_109 (by decide) rfl ?_
              refine go_iinc (pc := 111) (x1_ + (1 : Int32)) [some (vR 0), some (vI y1), some (vI y2), some (vI y3), some (vI x1_), some (vI (x1_ + (1 : Int32))), some (vI (1 : Int32))] dX6_growth_111 rfl (iinc_1 _) (by decide) rfl ?_
              refine go_goto (pc := 114) 25 dX6_growth_114 (by decide) ?_
              obtain rfl := Option.some.inj hs
              refine go_sub (lv' := [some (vR 0), some (vI y1), some (vI y2), some (vI y3), some (vI x1_), some (vI (x1_ + (1 : Int32))), none]) ⟨rfl, ⟨rfl, ⟨rfl, ⟨rfl, ⟨rfl, ⟨rfl, trivial⟩⟩⟩⟩⟩⟩ ?_
              exact hI (x1_, x1_ + (1 : Int32)) rfl x1_ (x1_ + (1 : Int32)) rfl
set_option maxRecDepth 20000 in
theorem c_X6_growth {d : Nat}  {a1 : Int32} {a2 : Int32} {a3 : Int32} {res0 : Int32} (hs : s_X6_growth kn ne a1 a2 a3 = some res0) : Calls mX6_growth (d + 2) false 0 0 [vR 0, vI a1, vI a2, vI a3] (wM kn ne fi se ma on ot ta po ti nu mo wa nx oT cF bg ed sF qu qd tr) (fun r w' => r = some (vI res0) ∧ w' = (wM kn ne fi se ma on ot ta po ti nu mo wa nx oT cF bg ed sF qu qd tr)) := by
  unfold s_X6_growth at hs
  refine Calls.of kX6_growth 3 [some (vR 0), some (vI a1), some (vI a2), some (vI a3), none, none, none] rfl (Nat.le_of_ble_eq_true rfl) ?_
  refine go_iload_n (pc := 0) 1 dX6_growth_0 rfl rfl ?_
  obtain ⟨x1, hc2, hs⟩ := bnd hs
  refine go_callS (bc := 0) (bs := 0) (mc := 0) (ms := 0) (d := d + 1) (pc := 1) [vI a1] [] dX6_growth_1 kX6_isNet mlX6_69 isX6_isNet rfl (Nat.le_of_ble_eq_true rfl) rfl (c_X6_isNet (d := d + 0) (res0 := x1) hc2) (fun r w' hq => ?_)
  obtain ⟨rfl, rfl⟩ := hq
  show Go mX6_growth (d + 2) false 0 0 4 [some (vR 0), some (vI a1), some (vI a2), some (vI a3), none, none, none] [vI x1] (wM kn ne fi se ma on ot ta po ti nu mo wa nx oT cF bg ed sF qu qd tr) _
  refine go_if_eq (pc := 4) 16 dX6_growth_4 (by decide) (fun h3 => ?_) (fun h3 => ?_)
  · have hs := it_t h3 hs
    refine go_bipush (pc := 16) (-2 : Int32) dX6_growth_16 (by decide) ?_
    cases hs
    exact go_ireturn (st := []) (pc := 18) dX6_growth_18 rfl (vp_nar_int _) (fun h => by cases h) ⟨rfl, rfl⟩
  · have hs := it_f h3 hs
    refine go_iload_n (pc := 7) 3 dX6_growth_7 rfl rfl ?_
    refine go_iconst (pc := 8) (0 : Int32) dX6_growth_8 (by decide) ?_
    refine go_iconst (pc := 9) (2 : Int32) dX6_growth_9 (by decide) ?_
    obtain ⟨x4, hc5, hs⟩ := bnd hs
    refine go_callS (bc := 0) (bs := 0) (mc := 0) (ms := 0) (d := d + 1) (pc := 10) [vI a3, vI (0 : Int32), vI (2 : Int32)] [] dX6_growth_10 kX6_in mlX6_65 isX6_in rfl (Nat.le_of_ble_eq_true rfl) rfl (c_X6_in (d := d + 1) (res0 := x4) hc5) (fun r w' hq => ?_)
    obtain ⟨rfl, rfl⟩ := hq
    show Go mX6_growth (d + 2) false 0 0 13 [some (vR 0), some (vI a1), some (vI a2), some (vI a3), none, none, none] [vI x4] (wM kn ne fi se ma on ot ta po ti nu mo wa nx oT cF bg ed sF qu qd tr) _
    refine go_if_ne (pc := 13) 19 dX6_growth_13 (by decide) (fun h6 => ?_) (fun h6 => ?_)
    · have hs := it_f h6 hs
      refine go_iconst (pc := 19) (0 : Int32) dX6_growth_19 (by decide) ?_
      refine go_istore (pc := 20) [some (vR 0), some (vI a1), some (vI a2), some (vI a3), some (vI (0 : Int32)), none, none] dX6_growth_20 (by decide) rfl ?_
      refine go_iconst (pc := 22) (1 : Int32) dX6_growth_22 (by decide) ?_
      refine go_istore (pc := 23) [some (vR 0), some (vI a1), some (vI a2), some (vI a3), some (vI (0 : Int32)), some (vI (1 : Int32)), none] dX6_growth_23 (by decide) rfl ?_
      obtain ⟨e26, hl27, hs⟩ := bnd hs
      refine g_X6_growth_25 (d := d) (0 : Int32) (1 : Int32) e26 hl27 ?_
      refine go_iload (pc := 117) dX6_growth_117 rfl ?_
      refine go_if_ne (pc := 119) 126 dX6_growth_119 (by decide) (fun h29 => ?_) (fun h29 => ?_)
      · have hs := it_f h29 hs
        refine go_iload_n (pc := 126) 3 dX6_growth_126 rfl rfl ?_
        refine go_if_ne (pc := 127) 141 dX6_growth_127 (by decide) (fun h30 => ?_) (fun h30 => ?_)
        · have hs := it_f h30 hs
          refine go_iload_n (pc := 141) 3 dX6_growth_141 rfl rfl ?_
          refine go_iconst (pc := 142) (1 : Int32) dX6_growth_142 (by decide) ?_
          refine go_icmp_ne (pc := 143) 154 dX6_growth_143 (by decide) (fun h31 => ?_) (fun h31 => ?_)
          · have hs := it_f h31 hs
            refine go_iload (pc := 154) dX6_growth_154 rfl ?_
            cases hs
            exact go_ireturn (st := []) (pc := 156) dX6_growth_156 rfl (vp_nar_int _) (fun h => by cases h) ⟨rfl, rfl⟩
          · have hs := it_t h31 hs
            refine go_iload (pc := 146) dX6_growth_146 rfl ?_
            obtain ⟨x32, hc33, hs⟩ := bnd hs
            refine go_callS (bc := 0) (bs := 0) (mc := 0) (ms := 0) (d := d + 1) (pc := 148) [vI e26] [] dX6_growth_148 kX6_bits mlX6_73 isX6_bits rfl (Nat.le_of_ble_eq_true rfl) rfl (c_X6_bits (d := d + 1) (res0 := x32) hc33) (fun r w' hq => ?_)
            obtain ⟨rfl, rfl⟩ := hq
            show Go mX6_growth (d + 2) false 0 0 151 [some (vR 0), some (vI a1), some (vI a2), some (vI a3), some (vI e26), none, none] [vI x32] (wM kn ne fi se ma on ot ta po ti nu mo wa nx oT cF bg ed sF qu qd tr) _
            refine go_goto (pc := 151) 156 dX6_growth_151 (by decide) ?_
            cases hs
            exact go_ireturn (st := []) (pc := 156) dX6_growth_156 rfl (vp_nar_int _) (fun h => by cases h) ⟨rfl, rfl⟩
        · have hs := it_t h30 hs
          refine go_aload_n (pc := 130) 0 dX6_growth_130 rfl rfl ?_
          refine go_iload_n (pc := 131) 1 dX6_growth_131 rfl rfl ?_
          refine go_iload (pc := 132) dX6_growth_132 rfl ?_
          refine go_iload_n (pc := 134) 2 dX6_growth_134 rfl rfl ?_
          obtain ⟨x34, hc35, hs⟩ := bnd hs
          refine go_callV (bc := 0) (bs := 0) (mc := 0) (ms := 0) (d := d + 1) (pc := 135) (a := 0) (ci := 6) [vI a1, vI e26, vI a2] [] dX6_growth_135 kX6_outside mlX6_113 ivX6_outside rfl rfl rfl rfl (Nat.le_of_ble_eq_true rfl) rfl (c_X6_outside (d := d + 0) (res0 := x34) hc35) (fun r w' hq => ?_)
          obtain ⟨rfl, rfl⟩ := hq
          show Go mX6_growth (d + 2) false 0 0 138 [some (vR 0), some (vI a1), some (vI a2), some (vI a3), some (vI e26), none, none] [vI x34] (wM kn ne fi se ma on ot ta po ti nu mo wa nx oT cF bg ed sF qu qd tr) _
          refine go_goto (pc := 138) 156 dX6_growth_138 (by decide) ?_
          cases hs
          exact go_ireturn (st := []) (pc := 156) dX6_growth_156 rfl (vp_nar_int _) (fun h => by cases h) ⟨rfl, rfl⟩
      · have hs := it_t h29 hs
        refine go_iconst (pc := 122) (-1 : Int32) dX6_growth_122 (by decide) ?_
        refine go_goto (pc := 123) 156 dX6_growth_123 (by decide) ?_
        cases hs
        exact go_ireturn (st := []) (pc := 156) dX6_growth_156 rfl (vp_nar_int _) (fun h => by cases h) ⟨rfl, rfl⟩
    · have hs := it_t h6 hs
      refine go_bipush (pc := 16) (-2 : Int32) dX6_growth_16 (by decide) ?_
      cases hs
      exact go_ireturn (st := []) (pc := 18) dX6_growth_18 rfl (vp_nar_int _) (fun h => by cases h) ⟨rfl, rfl⟩
noncomputable def b_X6_layTable_7  (x : Int32 × (Nat → Int64)) : Option ((Int32 × (Nat → Int64)) ⊕ ((Nat → Int64))) := if (100 : Int32) ≤ x.1 then (some (Sum.inr x.2)) else (chk x.1 100 (some (Sum.inl (x.1 + (1 : Int32), vp_updL x.2 x.1.toNatClampNeg (0 : Int64)))))
noncomputable def b_X6_layTable_28 (ma : Int32) (on : (Nat → Int32)) (ot : (Nat → Int32)) (y2 : Int32) (x : Int32 × (Nat → Int64)) : Option ((Int32 × (Nat → Int64)) ⊕ ((Nat → Int64))) := if ma ≤ x.1 then (some (Sum.inr x.2)) else (if (31 : Int32) ≤ x.1 then (chk x.1 45 (chk x.1 45 (chk (((10 : Int32) * (on x.1.toNatClampNeg)) + (ot x.1.toNatClampNeg)) 100 (chk x.1 45 (chk x.1 45 (chk (((10 : Int32) * (ot x.1.toNatClampNeg)) + (on x.1.toNatClampNeg)) 100 (some (Sum.inl (x.1 + (1 : Int32), vp_updL (vp_updL x.2 (((10 : Int32) * (on x.1.toNatClampNeg)) + (ot x.1.toNatClampNeg)).toNatClampNeg (1 : Int64)) (((10 : Int32) * (ot x.1.toNatClampNeg)) + (on x.1.toNatClampNeg)).toNatClampNeg (1 : Int64)))))))))) else (if ((y2 >>> (x.1 &&& 31)) &&& (1 : Int32)) = (1 : Int32) then (chk x.1 45 (chk x.1 45 (chk (((10 : Int32) * (on x.1.toNatClampNeg)) + (ot x.1.toNatClampNeg)) 100 (chk x.1 45 (chk x.1 45 (chk (((10 : Int32) * (ot x.1.toNatClampNeg)) + (on x.1.toNatClampNeg)) 100 (some (Sum.inl (x.1 + (1 : Int32), vp_updL (vp_updL x.2 (((10 : Int32) * (on x.1.toNatClampNeg)) + (ot x.1.toNatClampNeg)).toNatClampNeg (-1 : Int64)) (((10 : Int32) * (ot x.1.toNatClampNeg)) + (on x.1.toNatClampNeg)).toNatClampNeg (-1 : Int64)))))))))) else (chk x.1 45 (chk x.1 45 (chk (((10 : Int32) * (on x.1.toNatClampNeg)) + (ot x.1.toNatClampNeg)) 100 (chk x.1 45 (chk x.1 45 (chk (((10 : Int32) * (ot x.1.toNatClampNeg)) + (on x.1.toNatClampNeg)) 100 (some (Sum.inl (x.1 + (1 : Int32), vp_updL (vp_updL x.2 (((10 : Int32) * (on x.1.toNatClampNeg)) + (ot x.1.toNatClampNeg)).toNatClampNeg (1 : Int64)) (((10 : Int32) * (ot x.1.toNatClampNeg)) + (on x.1.toNatClampNeg)).toNatClampNeg (1 : Int64))))))))))))
noncomputable def s_X6_layTable (kn : (Nat → Int32)) (ne : (Nat → Int32)) (ma : Int32) (on : (Nat → Int32)) (ot : (Nat → Int32)) (ta : (Nat → Int64)) (a1 : Int32) (a2 : Int32) : Option (Int32 × (Nat → Int32) × (Nat → Int32) × (Nat → Int64)) := (s_X6_layLines kn ne ma on ot a1).bind (fun x1 => (loop (b_X6_layTable_7) ((0 : Int32), ta)).bind (fun e5 => (loop (b_X6_layTable_28 x1.1 x1.2.1 x1.2.2 a2) ((0 : Int32), e5)).bind (fun e29 => some (x1.1, x1.2.1, x1.2.2, e29))))
set_option maxRecDepth 20000 in
theorem g_X6_layTable_7 {d : Nat} {Q : Option AV → List AC → Prop} {y2 : Int32} (x0_ : Int32) (x1_ : (Nat → Int64)) (r : (Nat → Int64)) (hl : loop (b_X6_layTable_7 ) (x0_, x1_) = some r) (hk : Go mX6_layTable (d + 2) false 0 0 26 [some (vR 0), none, some (vI y2), none, none, none] [] (wM kn ne fi se ma on ot r po ti nu mo wa nx oT cF bg ed sF qu qd tr) Q) : Go mX6_layTable (d + 2) false 0 0 7 [some (vR 0), none, some (vI y2), some (vI x0_), none, none] [] (wM kn ne fi se ma on ot x1_ po ti nu mo wa nx oT cF bg ed sF qu qd tr) Q := by
  refine loop_go (P := fun x : Int32 × (Nat → Int64) => ∀ (x0_ : Int32) (x1_ : (Nat → Int64)), x = (x0_, x1_) → Go mX6_layTable (d + 2) false 0 0 7 [some (vR 0), none, some (vI y2), some (vI x0_), none, none] [] (wM kn ne fi se ma on ot x1_ po ti nu mo wa nx oT cF bg ed sF qu qd tr) Q) (K := fun r : (Nat → Int64) => Go mX6_layTable (d + 2) false 0 0 26 [some (vR 0), none, some (vI y2), none, none, none] [] (wM kn ne fi se ma on ot r po ti nu mo wa nx oT cF bg ed sF qu qd tr) Q) ?_ (x0_, x1_) r hl hk x0_ x1_ rfl
  · intro x y hs hI hE x0_ x1_ hx
    subst hx
    unfold b_X6_layTable_7 at hs
    try dsimp only at hs
    refine go_iload_n (pc := 7) 3 dX6_layTable_7 rfl rfl ?_
    refine go_bipush (pc := 8) (100 : Int32) dX6_layTable_8 (by decide) ?_
    refine go_icmp_ge (pc := 10) 26 dX6_layTable_10 (by decide) (fun h3 => ?_) (fun h3 => ?_)
    · have hs := it_t h3 hs
      obtain rfl := Option.some.inj hs
      refine go_sub (lv' := [some (vR 0), none, some (vI y2), none, none, none]) ⟨rfl, ⟨rfl, trivial⟩⟩ ?_
      exact hE x1_ rfl
    · have hs := it_f h3 hs
      refine go_aload_n (pc := 13) 0 dX6_layTable_13 rfl rfl ?_
      refine go_getfield (pc := 14) (v := vR 7) 0 6 7 dX6_layTable_14 flX6_28 rfl rfl ?_
      refine go_iload_n (pc := 17) 3 dX6_layTable_17 rfl rfl ?_
      refine go_lconst (pc := 18) (0 : Int64) dX6_layTable_18 (by decide) ?_
      obtain ⟨hi4, hs⟩ := chk_t hs
      refine go_lastore (pc := 19) 7 dX6_layTable_19 rfl hi4 (show Go mX6_layTable (d + 2) false 0 0 20 [some (vR 0), none, some (vI y2), some (vI x0_), none, none] [] (wM kn ne fi se ma on ot (vp_updL x1_ x0_.toNatClampNeg (0 : Int64)) po ti nu mo wa nx oT cF bg ed sF qu qd tr) Q from ?_)
      refine go_iinc (pc := 20) (x0_ + (1 : Int32)) [some (vR 0), none, some (vI y2), some (vI (x0_ + (1 : Int32))), none, none] dX6_layTable_20 rfl (iinc_1 _) (by decide) rfl ?_
      refine go_goto (pc := 23) 7 dX6_layTable_23 (by decide) ?_
      obtain rfl := Option.some.inj hs
      exact hI (x0_ + (1 : Int32), vp_updL x1_ x0_.toNatClampNeg (0 : Int64)) rfl (x0_ + (1 : Int32)) (vp_updL x1_ x0_.toNatClampNeg (0 : Int64)) rfl
set_option maxRecDepth 20000 in
theorem g_X6_layTable_28 {d : Nat} {Q : Option AV → List AC → Prop} {y2 : Int32} (x0_ : Int32) (x1_ : (Nat → Int64)) (r : (Nat → Int64)) (hl : loop (b_X6_layTable_28 ma on ot y2) (x0_, x1_) = some r) (hk : Go mX6_layTable (d + 2) false 0 0 112 [none, none, none, none, none, none] [] (wM kn ne fi se ma on ot r po ti nu mo wa nx oT cF bg ed sF qu qd tr) Q) : Go mX6_layTable (d + 2) false 0 0 28 [some (vR 0), none, some (vI y2), some (vI x0_), none, none] [] (wM kn ne fi se ma on ot x1_ po ti nu mo wa nx oT cF bg ed sF qu qd tr) Q := by
  refine loop_go (P := fun x : Int32 × (Nat → Int64) => ∀ (x0_ : Int32) (x1_ : (Nat → Int64)), x = (x0_, x1_) → Go mX6_layTable (d + 2) false 0 0 28 [some (vR 0), none, some (vI y2), some (vI x0_), none, none] [] (wM kn ne fi se ma on ot x1_ po ti nu mo wa nx oT cF bg ed sF qu qd tr) Q) (K := fun r : (Nat → Int64) => Go mX6_layTable (d + 2) false 0 0 112 [none, none, none, none, none, none] [] (wM kn ne fi se ma on ot r po ti nu mo wa nx oT cF bg ed sF qu qd tr) Q) ?_ (x0_, x1_) r hl hk x0_ x1_ rfl
  · intro x y hs hI hE x0_ x1_ hx
    subst hx
    unfold b_X6_layTable_28 at hs
    try dsimp only at hs
    refine go_iload_n (pc := 28) 3 dX6_layTable_28 rfl rfl ?_
    refine go_aload_n (pc := 29) 0 dX6_layTable_29 rfl rfl ?_
    refine go_getfield (pc := 30) (v := vI ma) 0 6 4 dX6_layTable_30 flX6_105 rfl rfl ?_
    refine go_icmp_ge (pc := 33) 112 dX6_layTable_33 (by decide) (fun h8 => ?_) (fun h8 => ?_)
    · have hs := it_t h8 hs
      obtain rfl := Option.some.inj hs
      refine go_sub (lv' := [none, none, none, none, none, none]) trivial ?_
      exact hE x1_ rfl
    · have hs := it_f h8 hs
      refine go_iload_n (pc := 36) 3 dX6_layTable_36 rfl rfl ?_
      refine go_bipush (pc := 37) (31 : Int32) dX6_layTable_37 (by decide) ?_
      refine go_icmp_ge (pc := 39) 57 dX6_layTable_39 (by decide) (fun h9 => ?_) (fun h9 => ?_)
      · have hs := it_t h9 hs
        refine go_lconst (pc := 57) (1 : Int64) dX6_layTable_57 (by decide) ?_
        refine go_lstore (pc := 58) [some (vR 0), none, some (vI y2), some (vI x0_), some (vL (1 : Int64)), none] dX6_layTable_58 (by decide) rfl ?_
        refine go_aload_n (pc := 60) 0 dX6_layTable_60 rfl rfl ?_
        refine go_getfield (pc := 61) (v := vR 7) 0 6 7 dX6_layTable_61 flX6_28 rfl rfl ?_
        refine go_bipush (pc := 64) (10 : Int32) dX6_layTable_64 (by decide) ?_
        refine go_aload_n (pc := 66) 0 dX6_layTable_66 rfl rfl ?_
        refine go_getfield (pc := 67) (v := vR 5) 0 6 5 dX6_layTable_67 flX6_22 rfl rfl ?_
        refine go_iload_n (pc := 70) 3 dX6_layTable_70 rfl rfl ?_
        obtain ⟨hi10, hs⟩ := chk_t hs
        refine go_iaload (pc := 71) 5 dX6_layTable_71 rfl hi10 ?_
        refine go_imul (pc := 72) dX6_layTable_72 ?_
        refine go_aload_n (pc := 73) 0 dX6_layTable_73 rfl rfl ?_
        refine go_getfield (pc := 74) (v := vR 6) 0 6 6 dX6_layTable_74 flX6_25 rfl rfl ?_
        refine go_iload_n (pc := 77) 3 dX6_layTable_77 rfl rfl ?_
        obtain ⟨hi11, hs⟩ := chk_t hs
        refine go_iaload (pc := 78) 6 dX6_layTable_78 rfl hi11 ?_
        refine go_iadd (pc := 79) dX6_layTable_79 ?_
        refine go_lload (pc := 80) dX6_layTable_80 rfl ?_
        obtain ⟨hi12, hs⟩ := chk_t hs
        refine go_lastore (pc := 82) 7 dX6_layTable_82 rfl hi12 (show Go mX6_layTable (d + 2) false 0 0 83 [some (vR 0), none, some (vI y2), some (vI x0_), some (vL (1 : Int64)), none] [] (wM kn ne fi se ma on ot (vp_updL x1_ (((10 : Int32) * (on x0_.toNatClampNeg)) + (ot x0_.toNatClampNeg)).toNatClampNeg (1 : Int64)) po ti nu mo wa nx oT cF bg ed sF qu qd tr) Q from ?_)
        refine go_aload_n (pc := 83) 0 dX6_layTable_83 rfl rfl ?_
        refine go_getfield (pc := 84) (v := vR 7) 0 6 7 dX6_layTable_84 flX6_28 rfl rfl ?_
        refine go_bipush (pc := 87) (10 : Int32) dX6_layTable_87 (by decide) ?_
        refine go_aload_n (pc := 89) 0 dX6_layTable_89 rfl rfl ?_
        refine go_getfield (pc := 90) (v := vR 6) 0 6 6 dX6_layTable_90 flX6_25 rfl rfl ?_
        refine go_iload_n (pc := 93) 3 dX6_layTable_93 rfl rfl ?_
        obtain ⟨hi13, hs⟩ := chk_t hs
        refine go_iaload (pc := 94) 6 dX6_layTable_94 rfl hi13 ?_
        refine go_imul (pc := 95) dX6_layTable_95 ?_
        refine go_aload_n (pc := 96) 0 dX6_layTable_96 rfl rfl ?_
        refine go_getfield (pc := 97) (v := vR 5) 0 6 5 dX6_layTable_97 flX6_22 rfl rfl ?_
        refine go_iload_n (pc := 100) 3 dX6_layTable_100 rfl rfl ?_
        obtain ⟨hi14, hs⟩ := chk_t hs
        refine go_iaload (pc := 101) 5 dX6_layTable_101 rfl hi14 ?_
        refine go_iadd (pc := 102) dX6_layTable_102 ?_
        refine go_lload (pc := 103) dX6_layTable_103 rfl ?_
        obtain ⟨hi15, hs⟩ := chk_t hs
        refine go_lastore (pc := 105) 7 dX6_layTable_105 rfl hi15 (show Go mX6_layTable (d + 2) false 0 0 106 [some (vR 0), none, some (vI y2), some (vI x0_), some (vL (1 : Int64)), none] [] (wM kn ne fi se ma on ot (vp_updL (vp_updL x1_ (((10 : Int32) * (on x0_.toNatClampNeg)) + (ot x0_.toNatClampNeg)).toNatClampNeg (1 : Int64)) (((10 : Int32) * (ot x0_.toNatClampNeg)) + (on x0_.toNatClampNeg)).toNatClampNeg (1 : Int64)) po ti nu mo wa nx oT cF bg ed sF qu qd tr) Q from ?_)
        refine go_iinc (pc := 106) (x0_ + (1 : Int32)) [some (vR 0), none, some (vI y2), some (vI (x0_ + (1 : Int32))), some (vL (1 : Int64)), none] dX6_layTable_106 rfl (iinc_1 _) (by decide) rfl ?_
        refine go_goto (pc := 109) 28 dX6_layTable_109 (by decide) ?_
        obtain rfl := Option.some.inj hs
        refine go_sub (lv' := [some (vR 0), none, some (vI y2), some (vI (x0_ + (1 : Int32))), none, none]) ⟨rfl, ⟨rfl, ⟨rfl, trivial⟩⟩⟩ ?_
        exact hI (x0_ + (1 : Int32), vp_updL (vp_updL x1_ (((10 : Int32) * (on x0_.toNatClampNeg)) + (ot x0_.toNatClampNeg)).toNatClampNeg (1 : Int64)) (((10 : Int32) * (ot x0_.toNatClampNeg)) + (on x0_.toNatClampNeg)).toNatClampNeg (1 : Int64)) rfl (x0_ + (1 : Int32)) (vp_updL (vp_updL x1_ (((10 : Int32) * (on x0_.toNatClampNeg)) + (ot x0_.toNatClampNeg)).toNatClampNeg (1 : Int64)) (((10 : Int32) * (ot x0_.toNatClampNeg)) + (on x0_.toNatClampNeg)).toNatClampNeg (1 : Int64)) rfl
      · have hs := it_f h9 hs
        refine go_iload_n (pc := 42) 2 dX6_layTable_42 rfl rfl ?_
        refine go_iload_n (pc := 43) 3 dX6_layTable_43 rfl rfl ?_
        refine go_ishr (pc := 44) dX6_layTable_44 ?_
        refine go_iconst (pc := 45) (1 : Int32) dX6_layTable_45 (by decide) ?_
        refine go_iand (pc := 46) dX6_layTable_46 ?_
        refine go_iconst (pc := 47) (1 : Int32) dX6_layTable_47 (by decide) ?_
        refine go_icmp_ne (pc := 48) 57 dX6_layTable_48 (by decide) (fun h16 => ?_) (fun h16 => ?_)
        · have hs := it_f h16 hs
          refine go_lconst (pc := 57) (1 : Int64) dX6_layTable_57 (by decide) ?_
          refine go_lstore (pc := 58) [some (vR 0), none, some (vI y2), some (vI x0_), some (vL (1 : Int64)), none] dX6_layTable_58 (by decide) rfl ?_
          refine go_aload_n (pc := 60) 0 dX6_layTable_60 rfl rfl ?_
          refine go_getfield (pc := 61) (v := vR 7) 0 6 7 dX6_layTable_61 flX6_28 rfl rfl ?_
          refine go_bipush (pc := 64) (10 : Int32) dX6_layTable_64 (by decide) ?_
          refine go_aload_n (pc := 66) 0 dX6_layTable_66 rfl rfl ?_
          refine go_getfield (pc := 67) (v := vR 5) 0 6 5 dX6_layTable_67 flX6_22 rfl rfl ?_
          refine go_iload_n (pc := 70) 3 dX6_layTable_70 rfl rfl ?_
          obtain ⟨hi17, hs⟩ := chk_t hs
          refine go_iaload (pc := 71) 5 dX6_layTable_71 rfl hi17 ?_
          refine go_imul (pc := 72) dX6_layTable_72 ?_
          refine go_aload_n (pc := 73) 0 dX6_layTable_73 rfl rfl ?_
          refine go_getfield (pc := 74) (v := vR 6) 0 6 6 dX6_layTable_74 flX6_25 rfl rfl ?_
          refine go_iload_n (pc := 77) 3 dX6_layTable_77 rfl rfl ?_
          obtain ⟨hi18, hs⟩ := chk_t hs
          refine go_iaload (pc := 78) 6 dX6_layTable_78 rfl hi18 ?_
          refine go_iadd (pc := 79) dX6_layTable_79 ?_
          refine go_lload (pc := 80) dX6_layTable_80 rfl ?_
          obtain ⟨hi19, hs⟩ := chk_t hs
          refine go_lastore (pc := 82) 7 dX6_layTable_82 rfl hi19 (show Go mX6_layTable (d + 2) false 0 0 83 [some (vR 0), none, some (vI y2), some (vI x0_), some (vL (1 : Int64)), none] [] (wM kn ne fi se ma on ot (vp_updL x1_ (((10 : Int32) * (on x0_.toNatClampNeg)) + (ot x0_.toNatClampNeg)).toNatClampNeg (1 : Int64)) po ti nu mo wa nx oT cF bg ed sF qu qd tr) Q from ?_)
          refine go_aload_n (pc := 83) 0 dX6_layTable_83 rfl rfl ?_
          refine go_getfield (pc := 84) (v := vR 7) 0 6 7 dX6_layTable_84 flX6_28 rfl rfl ?_
          refine go_bipush (pc := 87) (10 : Int32) dX6_layTable_87 (by decide) ?_
          refine go_aload_n (pc := 89) 0 dX6_layTable_89 rfl rfl ?_
          refine go_getfield (pc := 90) (v := vR 6) 0 6 6 dX6_layTable_90 flX6_25 rfl rfl ?_
          refine go_iload_n (pc := 93) 3 dX6_layTable_93 rfl rfl ?_
          obtain ⟨hi20, hs⟩ := chk_t hs
          refine go_iaload (pc := 94) 6 dX6_layTable_94 rfl hi20 ?_
          refine go_imul (pc := 95) dX6_layTable_95 ?_
          refine go_aload_n (pc := 96) 0 dX6_layTable_96 rfl rfl ?_
          refine go_getfield (pc := 97) (v := vR 5) 0 6 5 dX6_layTable_97 flX6_22 rfl rfl ?_
          refine go_iload_n (pc := 100) 3 dX6_layTable_100 rfl rfl ?_
          obtain ⟨hi21, hs⟩ := chk_t hs
          refine go_iaload (pc := 101) 5 dX6_layTable_101 rfl hi21 ?_
          refine go_iadd (pc := 102) dX6_layTable_102 ?_
          refine go_lload (pc := 103) dX6_layTable_103 rfl ?_
          obtain ⟨hi22, hs⟩ := chk_t hs
          refine go_lastore (pc := 105) 7 dX6_layTable_105 rfl hi22 (show Go mX6_layTable (d + 2) false 0 0 106 [some (vR 0), none, some (vI y2), some (vI x0_), some (vL (1 : Int64)), none] [] (wM kn ne fi se ma on ot (vp_updL (vp_updL x1_ (((10 : Int32) * (on x0_.toNatClampNeg)) + (ot x0_.toNatClampNeg)).toNatClampNeg (1 : Int64)) (((10 : Int32) * (ot x0_.toNatClampNeg)) + (on x0_.toNatClampNeg)).toNatClampNeg (1 : Int64)) po ti nu mo wa nx oT cF bg ed sF qu qd tr) Q from ?_)
          refine go_iinc (pc := 106) (x0_ + (1 : Int32)) [some (vR 0), none, some (vI y2), some (vI (x0_ + (1 : Int32))), some (vL (1 : Int64)), none] dX6_layTable_106 rfl (iinc_1 _) (by decide) rfl ?_
          refine go_goto (pc := 109) 28 dX6_layTable_109 (by decide) ?_
          obtain rfl := Option.some.inj hs
          refine go_sub (lv' := [some (vR 0), none, some (vI y2), some (vI (x0_ + (1 : Int32))), none, none]) ⟨rfl, ⟨rfl, ⟨rfl, trivial⟩⟩⟩ ?_
          exact hI (x0_ + (1 : Int32), vp_updL (vp_updL x1_ (((10 : Int32) * (on x0_.toNatClampNeg)) + (ot x0_.toNatClampNeg)).toNatClampNeg (1 : Int64)) (((10 : Int32) * (ot x0_.toNatClampNeg)) + (on x0_.toNatClampNeg)).toNatClampNeg (1 : Int64)) rfl (x0_ + (1 : Int32)) (vp_updL (vp_updL x1_ (((10 : Int32) * (on x0_.toNatClampNeg)) + (ot x0_.toNatClampNeg)).toNatClampNeg (1 : Int64)) (((10 : Int32) * (ot x0_.toNatClampNeg)) + (on x0_.toNatClampNeg)).toNatClampNeg (1 : Int64)) rfl
        · have hs := it_t h16 hs
          refine go_ldc2 (pc := 51) (-1 : Int64) dX6_layTable_51 kcX6_117 ?_
          refine go_goto (pc := 54) 58 dX6_layTable_54 (by decide) ?_
          refine go_lstore (pc := 58) [some (vR 0), none, some (vI y2), some (vI x0_), some (vL (-1 : Int64)), none] dX6_layTable_58 (by decide) rfl ?_
          refine go_aload_n (pc := 60) 0 dX6_layTable_60 rfl rfl ?_
          refine go_getfield (pc := 61) (v := vR 7) 0 6 7 dX6_layTable_61 flX6_28 rfl rfl ?_
          refine go_bipush (pc := 64) (10 : Int32) dX6_layTable_64 (by decide) ?_
          refine go_aload_n (pc := 66) 0 dX6_layTable_66 rfl rfl ?_
          refine go_getfield (pc := 67) (v := vR 5) 0 6 5 dX6_layTable_67 flX6_22 rfl rfl ?_
          refine go_iload_n (pc := 70) 3 dX6_layTable_70 rfl rfl ?_
          obtain ⟨hi23, hs⟩ := chk_t hs
          refine go_iaload (pc := 71) 5 dX6_layTable_71 rfl hi23 ?_
          refine go_imul (pc := 72) dX6_layTable_72 ?_
          refine go_aload_n (pc := 73) 0 dX6_layTable_73 rfl rfl ?_
          refine go_getfield (pc := 74) (v := vR 6) 0 6 6 dX6_layTable_74 flX6_25 rfl rfl ?_
          refine go_iload_n (pc := 77) 3 dX6_layTable_77 rfl rfl ?_
          obtain ⟨hi24, hs⟩ := chk_t hs
          refine go_iaload (pc := 78) 6 dX6_layTable_78 rfl hi24 ?_
          refine go_iadd (pc := 79) dX6_layTable_79 ?_
          refine go_lload (pc := 80) dX6_layTable_80 rfl ?_
          obtain ⟨hi25, hs⟩ := chk_t hs
          refine go_lastore (pc := 82) 7 dX6_layTable_82 rfl hi25 (show Go mX6_layTable (d + 2) false 0 0 83 [some (vR 0), none, some (vI y2), some (vI x0_), some (vL (-1 : Int64)), none] [] (wM kn ne fi se ma on ot (vp_updL x1_ (((10 : Int32) * (on x0_.toNatClampNeg)) + (ot x0_.toNatClampNeg)).toNatClampNeg (-1 : Int64)) po ti nu mo wa nx oT cF bg ed sF qu qd tr) Q from ?_)
          refine go_aload_n (pc := 83) 0 dX6_layTable_83 rfl rfl ?_
          refine go_getfield (pc := 84) (v := vR 7) 0 6 7 dX6_layTable_84 flX6_28 rfl rfl ?_
          refine go_bipush (pc := 87) (10 : Int32) dX6_layTable_87 (by decide) ?_
          refine go_aload_n (pc := 89) 0 dX6_layTable_89 rfl rfl ?_
          refine go_getfield (pc := 90) (v := vR 6) 0 6 6 dX6_layTable_90 flX6_25 rfl rfl ?_
          refine go_iload_n (pc := 93) 3 dX6_layTable_93 rfl rfl ?_
          obtain ⟨hi26, hs⟩ := chk_t hs
          refine go_iaload (pc := 94) 6 dX6_layTable_94 rfl hi26 ?_
          refine go_imul (pc := 95) dX6_layTable_95 ?_
          refine go_aload_n (pc := 96) 0 dX6_layTable_96 rfl rfl ?_
          refine go_getfield (pc := 97) (v := vR 5) 0 6 5 dX6_layTable_97 flX6_22 rfl rfl ?_
          refine go_iload_n (pc := 100) 3 dX6_layTable_100 rfl rfl ?_
          obtain ⟨hi27, hs⟩ := chk_t hs
          refine go_iaload (pc := 101) 5 dX6_layTable_101 rfl hi27 ?_
          refine go_iadd (pc := 102) dX6_layTable_102 ?_
          refine go_lload (pc := 103) dX6_layTable_103 rfl ?_
          obtain ⟨hi28, hs⟩ := chk_t hs
          refine go_lastore (pc := 105) 7 dX6_layTable_105 rfl hi28 (show Go mX6_layTable (d + 2) false 0 0 106 [some (vR 0), none, some (vI y2), some (vI x0_), some (vL (-1 : Int64)), none] [] (wM kn ne fi se ma on ot (vp_updL (vp_updL x1_ (((10 : Int32) * (on x0_.toNatClampNeg)) + (ot x0_.toNatClampNeg)).toNatClampNeg (-1 : Int64)) (((10 : Int32) * (ot x0_.toNatClampNeg)) + (on x0_.toNatClampNeg)).toNatClampNeg (-1 : Int64)) po ti nu mo wa nx oT cF bg ed sF qu qd tr) Q from ?_)
          refine go_iinc (pc := 106) (x0_ + (1 : Int32)) [some (vR 0), none, some (vI y2), some (vI (x0_ + (1 : Int32))), some (vL (-1 : Int64)), none] dX6_layTable_106 rfl (iinc_1 _) (by decide) rfl ?_
          refine go_goto (pc := 109) 28 dX6_layTable_109 (by decide) ?_
          obtain rfl := Option.some.inj hs
          refine go_sub (lv' := [some (vR 0), none, some (vI y2), some (vI (x0_ + (1 : Int32))), none, none]) ⟨rfl, ⟨rfl, ⟨rfl, trivial⟩⟩⟩ ?_
          exact hI (x0_ + (1 : Int32), vp_updL (vp_updL x1_ (((10 : Int32) * (on x0_.toNatClampNeg)) + (ot x0_.toNatClampNeg)).toNatClampNeg (-1 : Int64)) (((10 : Int32) * (ot x0_.toNatClampNeg)) + (on x0_.toNatClampNeg)).toNatClampNeg (-1 : Int64)) rfl (x0_ + (1 : Int32)) (vp_updL (vp_updL x1_ (((10 : Int32) * (on x0_.toNatClampNeg)) + (ot x0_.toNatClampNeg)).toNatClampNeg (-1 : Int64)) (((10 : Int32) * (ot x0_.toNatClampNeg)) + (on x0_.toNatClampNeg)).toNatClampNeg (-1 : Int64)) rfl
set_option maxRecDepth 20000 in
theorem c_X6_layTable {d : Nat}  {a1 : Int32} {a2 : Int32} {res0 : Int32} {res1 : (Nat → Int32)} {res2 : (Nat → Int32)} {res3 : (Nat → Int64)} (hs : s_X6_layTable kn ne ma on ot ta a1 a2 = some (res0, res1, res2, res3)) : Calls mX6_layTable (d + 2) false 0 0 [vR 0, vI a1, vI a2] (wM kn ne fi se ma on ot ta po ti nu mo wa nx oT cF bg ed sF qu qd tr) (fun r w' => r = none ∧ w' = (wM kn ne fi se res0 res1 res2 res3 po ti nu mo wa nx oT cF bg ed sF qu qd tr)) := by
  unfold s_X6_layTable at hs
  refine Calls.of kX6_layTable 3 [some (vR 0), some (vI a1), some (vI a2), none, none, none] rfl (Nat.le_of_ble_eq_true rfl) ?_
  refine go_aload_n (pc := 0) 0 dX6_layTable_0 rfl rfl ?_
  refine go_iload_n (pc := 1) 1 dX6_layTable_1 rfl rfl ?_
  obtain ⟨x1, hc2, hs⟩ := bnd hs
  refine go_callV (bc := 0) (bs := 0) (mc := 0) (ms := 0) (d := d + 1) (pc := 2) (a := 0) (ci := 6) [vI a1] [] dX6_layTable_2 kX6_layLines mlX6_109 ivX6_layLines rfl rfl rfl rfl (Nat.le_of_ble_eq_true rfl) rfl (c_X6_layLines (d := d + 0) (res0 := x1.1) (res1 := x1.2.1) (res2 := x1.2.2) hc2) (fun r w' hq => ?_)
  obtain ⟨rfl, rfl⟩ := hq
  show Go mX6_layTable (d + 2) false 0 0 5 [some (vR 0), some (vI a1), some (vI a2), none, none, none] [] (wM kn ne fi se x1.1 x1.2.1 x1.2.2 ta po ti nu mo wa nx oT cF bg ed sF qu qd tr) _
  refine go_iconst (pc := 5) (0 : Int32) dX6_layTable_5 (by decide) ?_
  refine go_istore_n (pc := 6) 3 [some (vR 0), some (vI a1), some (vI a2), some (vI (0 : Int32)), none, none] dX6_layTable_6 rfl (by decide) rfl ?_
  refine go_sub (lv' := [some (vR 0), none, some (vI a2), some (vI (0 : Int32)), none, none]) ⟨rfl, ⟨rfl, ⟨rfl, trivial⟩⟩⟩ ?_
  obtain ⟨e5, hl6, hs⟩ := bnd hs
  refine g_X6_layTable_7 (d := d) (0 : Int32) ta e5 hl6 ?_
  refine go_iconst (pc := 26) (0 : Int32) dX6_layTable_26 (by decide) ?_
  refine go_istore_n (pc := 27) 3 [some (vR 0), none, some (vI a2), some (vI (0 : Int32)), none, none] dX6_layTable_27 rfl (by decide) rfl ?_
  obtain ⟨e29, hl30, hs⟩ := bnd hs
  refine g_X6_layTable_28 (d := d) (0 : Int32) e5 e29 hl30 ?_
  cases hs
  exact go_return (st := []) (pc := 112) dX6_layTable_112 rfl (fun h => by cases h) ⟨rfl, rfl⟩
noncomputable def b_X6_layPolynomial_2  (x : Int32 × (Nat → Int64)) : Option ((Int32 × (Nat → Int64)) ⊕ ((Nat → Int64))) := if (100 : Int32) ≤ x.1 then (some (Sum.inr x.2)) else (if (x.1 / (10 : Int32)) = (x.1 - x.1 / (10 : Int32) * (10 : Int32)) then (chk x.1 100 (some (Sum.inl (x.1 + (1 : Int32), vp_updL x.2 x.1.toNatClampNeg (1 : Int64))))) else (chk x.1 100 (some (Sum.inl (x.1 + (1 : Int32), vp_updL x.2 x.1.toNatClampNeg (0 : Int64))))))
noncomputable def b_X6_layPolynomial_72 (ta : (Nat → Int64)) (po : (Nat → Int64)) (y1 : Int32) (y3 : Int32) (y4 : Int32) (x : Int64 × Int32) : Option ((Int64 × Int32) ⊕ (Int64)) := if y1 ≤ x.2 then (some (Sum.inr x.1)) else (chk (((10 : Int32) * y3) + x.2) 100 (chk (((10 : Int32) * x.2) + y4) 100 (lt' (x.1 + ((ta (((10 : Int32) * y3) + x.2).toNatClampNeg) * (po (((10 : Int32) * x.2) + y4).toNatClampNeg))) (fun z15 => some (Sum.inl (z15, x.2 + (1 : Int32)))))))
noncomputable def b_X6_layPolynomial_60 (ta : (Nat → Int64)) (po : (Nat → Int64)) (y1 : Int32) (y3 : Int32) (x : Int32 × (Nat → Int64)) : Option ((Int32 × (Nat → Int64)) ⊕ ((Nat → Int64))) := if y1 ≤ x.1 then (some (Sum.inr x.2)) else ((loop (b_X6_layPolynomial_72 ta po y1 y3 x.1) ((0 : Int64), (0 : Int32))).bind (fun e16 => chk (((10 : Int32) * y3) + x.1) 100 (some (Sum.inl (x.1 + (1 : Int32), vp_updL x.2 (((10 : Int32) * y3) + x.1).toNatClampNeg e16)))))
noncomputable def b_X6_layPolynomial_52 (ta : (Nat → Int64)) (po : (Nat → Int64)) (y1 : Int32) (x : Int32 × (Nat → Int64)) : Option ((Int32 × (Nat → Int64)) ⊕ ((Nat → Int64))) := if y1 ≤ x.1 then (some (Sum.inr x.2)) else ((loop (b_X6_layPolynomial_60 ta po y1 x.1) ((0 : Int32), x.2)).bind (fun e20 => some (Sum.inl (x.1 + (1 : Int32), e20))))
noncomputable def b_X6_layPolynomial_146 (ti : (Nat → Int64)) (y1 : Int32) (x : Int64 × Int32) : Option ((Int64 × Int32) ⊕ (Int64)) := if y1 ≤ x.2 then (some (Sum.inr x.1)) else (chk (((10 : Int32) * x.2) + x.2) 100 (some (Sum.inl (x.1 + (ti (((10 : Int32) * x.2) + x.2).toNatClampNeg), x.2 + (1 : Int32)))))
noncomputable def b_X6_layPolynomial_199 (ti : (Nat → Int64)) (nu : (Nat → Int64)) (y1 : Int32) (y2 : Int32) (y5 : Int32) (x : Int32 × (Nat → Int64)) : Option ((Int32 × (Nat → Int64)) ⊕ ((Nat → Int64))) := if y1 ≤ x.1 then (some (Sum.inr x.2)) else (chk (((10 : Int32) * y5) + x.1) 100 (if y5 = x.1 then (chk (y1 - y2) 11 (chk (((10 : Int32) * y5) + x.1) 100 (some (Sum.inl (x.1 + (1 : Int32), vp_updL x.2 (((10 : Int32) * y5) + x.1).toNatClampNeg ((ti (((10 : Int32) * y5) + x.1).toNatClampNeg) + (nu (y1 - y2).toNatClampNeg))))))) else (chk (((10 : Int32) * y5) + x.1) 100 (some (Sum.inl (x.1 + (1 : Int32), vp_updL x.2 (((10 : Int32) * y5) + x.1).toNatClampNeg ((ti (((10 : Int32) * y5) + x.1).toNatClampNeg) + (0 : Int64))))))))
noncomputable def b_X6_layPolynomial_190 (ti : (Nat → Int64)) (nu : (Nat → Int64)) (y1 : Int32) (y2 : Int32) (x : Int32 × (Nat → Int64)) : Option ((Int32 × (Nat → Int64)) ⊕ ((Nat → Int64))) := if y1 ≤ x.1 then (some (Sum.inr x.2)) else ((loop (b_X6_layPolynomial_199 ti nu y1 y2 x.1) ((0 : Int32), x.2)).bind (fun e40 => some (Sum.inl (x.1 + (1 : Int32), e40))))
noncomputable def b_X6_layPolynomial_45 (ta : (Nat → Int64)) (y1 : Int32) (x : Int32 × (Nat → Int64) × (Nat → Int64) × (Nat → Int64)) : Option ((Int32 × (Nat → Int64) × (Nat → Int64) × (Nat → Int64)) ⊕ ((Nat → Int64) × (Nat → Int64) × (Nat → Int64))) := if y1 < x.1 then (some (Sum.inr (x.2.1, x.2.2.1, x.2.2.2))) else ((loop (b_X6_layPolynomial_52 ta x.2.1 y1) ((0 : Int32), x.2.2.1)).bind (fun e23 => (loop (b_X6_layPolynomial_146 e23 y1) ((0 : Int64), (0 : Int32))).bind (fun e28 => nezL x.1.toInt64 (chk (y1 - x.1) 11 ((loop (b_X6_layPolynomial_190 e23 (vp_updL x.2.2.2 (y1 - x.1).toNatClampNeg ((-e28) / x.1.toInt64)) y1 x.1) ((0 : Int32), x.2.1)).bind (fun e43 => some (Sum.inl (x.1 + (1 : Int32), e43, e23, vp_updL x.2.2.2 (y1 - x.1).toNatClampNeg ((-e28) / x.1.toInt64)))))))))
noncomputable def s_X6_layPolynomial (ta : (Nat → Int64)) (po : (Nat → Int64)) (ti : (Nat → Int64)) (nu : (Nat → Int64)) (a1 : Int32) : Option ((Nat → Int64) × (Nat → Int64) × (Nat → Int64)) := (loop (b_X6_layPolynomial_2) ((0 : Int32), po)).bind (fun e5 => chk a1 11 ((loop (b_X6_layPolynomial_45 ta a1) ((1 : Int32), e5, ti, vp_updL nu a1.toNatClampNeg (1 : Int64))).bind (fun e46 => some (e46.1, e46.2.1, e46.2.2))))
set_option maxRecDepth 20000 in
theorem g_X6_layPolynomial_2 {d : Nat} {Q : Option AV → List AC → Prop} {y1 : Int32} (x0_ : Int32) (x1_ : (Nat → Int64)) (r : (Nat → Int64)) (hl : loop (b_X6_layPolynomial_2 ) (x0_, x1_) = some r) (hk : Go mX6_layPolynomial (d + 0) false 0 0 36 [some (vR 0), some (vI y1), none, none, none, none, none, none] [] (wM kn ne fi se ma on ot ta r ti nu mo wa nx oT cF bg ed sF qu qd tr) Q) : Go mX6_layPolynomial (d + 0) false 0 0 2 [some (vR 0), some (vI y1), some (vI x0_), none, none, none, none, none] [] (wM kn ne fi se ma on ot ta x1_ ti nu mo wa nx oT cF bg ed sF qu qd tr) Q := by
  refine loop_go (P := fun x : Int32 × (Nat → Int64) => ∀ (x0_ : Int32) (x1_ : (Nat → Int64)), x = (x0_, x1_) → Go mX6_layPolynomial (d + 0) false 0 0 2 [some (vR 0), some (vI y1), some (vI x0_), none, none, none, none, none] [] (wM kn ne fi se ma on ot ta x1_ ti nu mo wa nx oT cF bg ed sF qu qd tr) Q) (K := fun r : (Nat → Int64) => Go mX6_layPolynomial (d + 0) false 0 0 36 [some (vR 0), some (vI y1), none, none, none, none, none, none] [] (wM kn ne fi se ma on ot ta r ti nu mo wa nx oT cF bg ed sF qu qd tr) Q) ?_ (x0_, x1_) r hl hk x0_ x1_ rfl
  · intro x y hs hI hE x0_ x1_ hx
    subst hx
    unfold b_X6_layPolynomial_2 at hs
    try dsimp only at hs
    refine go_iload_n (pc := 2) 2 dX6_layPolynomial_2 rfl rfl ?_
    refine go_bipush (pc := 3) (100 : Int32) dX6_layPolynomial_3 (by decide) ?_
    refine go_icmp_ge (pc := 5) 36 dX6_layPolynomial_5 (by decide) (fun h1 => ?_) (fun h1 => ?_)
    · have hs := it_t h1 hs
      obtain rfl := Option.some.inj hs
      refine go_sub (lv' := [some (vR 0), some (vI y1), none, none, none, none, none, none]) ⟨rfl, ⟨rfl, trivial⟩⟩ ?_
      exact hE x1_ rfl
    · have hs := it_f h1 hs
      refine go_aload_n (pc := 8) 0 dX6_layPolynomial_8 rfl rfl ?_
      refine go_getfield (pc := 9) (v := vR 8) 0 6 8 dX6_layPolynomial_9 flX6_32 rfl rfl ?_
      refine go_iload_n (pc := 12) 2 dX6_layPolynomial_12 rfl rfl ?_
      refine go_iload_n (pc := 13) 2 dX6_layPolynomial_13 rfl rfl ?_
      refine go_bipush (pc := 14) (10 : Int32) dX6_layPolynomial_14 (by decide) ?_
      refine go_idiv (pc := 16) dX6_layPolynomial_16 (by decide) ?_
      refine go_iload_n (pc := 17) 2 dX6_layPolynomial_17 rfl rfl ?_
      refine go_bipush (pc := 18) (10 : Int32) dX6_layPolynomial_18 (by decide) ?_
      refine go_irem (pc := 20) dX6_layPolynomial_20 (by decide) ?_
      refine go_icmp_ne (pc := 21) 28 dX6_layPolynomial_21 (by decide) (fun h2 => ?_) (fun h2 => ?_)
      · have hs := it_f h2 hs
        refine go_lconst (pc := 28) (0 : Int64) dX6_layPolynomial_28 (by decide) ?_
        obtain ⟨hi3, hs⟩ := chk_t hs
        refine go_lastore (pc := 29) 8 dX6_layPolynomial_29 rfl hi3 (show Go mX6_layPolynomial (d + 0) false 0 0 30 [some (vR 0), some (vI y1), some (vI x0_), none, none, none, none, none] [] (wM kn ne fi se ma on ot ta (vp_updL x1_ x0_.toNatClampNeg (0 : Int64)) ti nu mo wa nx oT cF bg ed sF qu qd tr) Q from ?_)
        refine go_iinc (pc := 30) (x0_ + (1 : Int32)) [some (vR 0), some (vI y1), some (vI (x0_ + (1 : Int32))), none, none, none, none, none] dX6_layPolynomial_30 rfl (iinc_1 _) (by decide) rfl ?_
        refine go_goto (pc := 33) 2 dX6_layPolynomial_33 (by decide) ?_
        obtain rfl := Option.some.inj hs
        exact hI (x0_ + (1 : Int32), vp_updL x1_ x0_.toNatClampNeg (0 : Int64)) rfl (x0_ + (1 : Int32)) (vp_updL x1_ x0_.toNatClampNeg (0 : Int64)) rfl
      · have hs := it_t h2 hs
        refine go_lconst (pc := 24) (1 : Int64) dX6_layPolynomial_24 (by decide) ?_
        refine go_goto (pc := 25) 29 dX6_layPolynomial_25 (by decide) ?_
        obtain ⟨hi4, hs⟩ := chk_t hs
        refine go_lastore (pc := 29) 8 dX6_layPolynomial_29 rfl hi4 (show Go mX6_layPolynomial (d + 0) false 0 0 30 [some (vR 0), some (vI y1), some (vI x0_), none, none, none, none, none] [] (wM kn ne fi se ma on ot ta (vp_updL x1_ x0_.toNatClampNeg (1 : Int64)) ti nu mo wa nx oT cF bg ed sF qu qd tr) Q from ?_)
        refine go_iinc (pc := 30) (x0_ + (1 : Int32)) [some (vR 0), some (vI y1), some (vI (x0_ + (1 : Int32))), none, none, none, none, none] dX6_layPolynomial_30 rfl (iinc_1 _) (by decide) rfl ?_
        refine go_goto (pc := 33) 2 dX6_layPolynomial_33 (by decide) ?_
        obtain rfl := Option.some.inj hs
        exact hI (x0_ + (1 : Int32), vp_updL x1_ x0_.toNatClampNeg (1 : Int64)) rfl (x0_ + (1 : Int32)) (vp_updL x1_ x0_.toNatClampNeg (1 : Int64)) rfl
set_option maxRecDepth 20000 in
theorem g_X6_layPolynomial_72 {d : Nat} {Q : Option AV → List AC → Prop} {y1 : Int32} {y2 : Int32} {y3 : Int32} {y4 : Int32} (x0_ : Int64) (x1_ : Int32) (r : Int64) (hl : loop (b_X6_layPolynomial_72 ta po y1 y3 y4) (x0_, x1_) = some r) (hk : Go mX6_layPolynomial (d + 0) false 0 0 115 [some (vR 0), some (vI y1), some (vI y2), some (vI y3), some (vI y4), some (vL r), none, none] [] (wM kn ne fi se ma on ot ta po ti nu mo wa nx oT cF bg ed sF qu qd tr) Q) : Go mX6_layPolynomial (d + 0) false 0 0 72 [some (vR 0), some (vI y1), some (vI y2), some (vI y3), some (vI y4), some (vL x0_), none, some (vI x1_)] [] (wM kn ne fi se ma on ot ta po ti nu mo wa nx oT cF bg ed sF qu qd tr) Q := by
  refine loop_go (P := fun x : Int64 × Int32 => ∀ (x0_ : Int64) (x1_ : Int32), x = (x0_, x1_) → Go mX6_layPolynomial (d + 0) false 0 0 72 [some (vR 0), some (vI y1), some (vI y2), some (vI y3), some (vI y4), some (vL x0_), none, some (vI x1_)] [] (wM kn ne fi se ma on ot ta po ti nu mo wa nx oT cF bg ed sF qu qd tr) Q) (K := fun r : Int64 => Go mX6_layPolynomial (d + 0) false 0 0 115 [some (vR 0), some (vI y1), some (vI y2), some (vI y3), some (vI y4), some (vL r), none, none] [] (wM kn ne fi se ma on ot ta po ti nu mo wa nx oT cF bg ed sF qu qd tr) Q) ?_ (x0_, x1_) r hl hk x0_ x1_ rfl
  · intro x y hs hI hE x0_ x1_ hx
    subst hx
    unfold b_X6_layPolynomial_72 at hs
    try dsimp only at hs
    refine go_iload (pc := 72) dX6_layPolynomial_72 rfl ?_
    refine go_iload_n (pc := 74) 1 dX6_layPolynomial_74 rfl rfl ?_
    refine go_icmp_ge (pc := 75) 115 dX6_layPolynomial_75 (by decide) (fun h12 => ?_) (fun h12 => ?_)
    · have hs := it_t h12 hs
      obtain rfl := Option.some.inj hs
      refine go_sub (lv' := [some (vR 0), some (vI y1), some (vI y2), some (vI y3), some (vI y4), some (vL x0_), none, none]) ⟨rfl, ⟨rfl, ⟨rfl, ⟨rfl, ⟨rfl, ⟨rfl, trivial⟩⟩⟩⟩⟩⟩ ?_
      exact hE x0_ rfl
    · have hs := it_f h12 hs
      refine go_lload (pc := 78) dX6_layPolynomial_78 rfl ?_
      refine go_aload_n (pc := 80) 0 dX6_layPolynomial_80 rfl rfl ?_
      refine go_getfield (pc := 81) (v := vR 7) 0 6 7 dX6_layPolynomial_81 flX6_28 rfl rfl ?_
      refine go_bipush (pc := 84) (10 : Int32) dX6_layPolynomial_84 (by decide) ?_
      refine go_iload_n (pc := 86) 3 dX6_layPolynomial_86 rfl rfl ?_
      refine go_imul (pc := 87) dX6_layPolynomial_87 ?_
      refine go_iload (pc := 88) dX6_layPolynomial_88 rfl ?_
      refine go_iadd (pc := 90) dX6_layPolynomial_90 ?_
      obtain ⟨hi13, hs⟩ := chk_t hs
      refine go_laload (pc := 91) 7 dX6_layPolynomial_91 rfl hi13 ?_
      refine go_aload_n (pc := 92) 0 dX6_layPolynomial_92 rfl rfl ?_
      refine go_getfield (pc := 93) (v := vR 8) 0 6 8 dX6_layPolynomial_93 flX6_32 rfl rfl ?_
      refine go_bipush (pc := 96) (10 : Int32) dX6_layPolynomial_96 (by decide) ?_
      refine go_iload (pc := 98) dX6_layPolynomial_98 rfl ?_
      refine go_imul (pc := 100) dX6_layPolynomial_100 ?_
      refine go_iload (pc := 101) dX6_layPolynomial_101 rfl ?_
      refine go_iadd (pc := 103) dX6_layPolynomial_103 ?_
      obtain ⟨hi14, hs⟩ := chk_t hs
      refine go_laload (pc := 104) 8 dX6_layPolynomial_104 rfl hi14 ?_
      refine go_lmul (pc := 105) dX6_layPolynomial_105 ?_
      refine go_ladd (pc := 106) dX6_layPolynomial_106 ?_
      refine go_topl (fun z15 ez15 => ?_)
      have hs := lt_t ez15 hs
      refine go_lstore (pc := 107) [some (vR 0), some (vI y1), some (vI y2), some (vI y3), some (vI y4), some (vL z15), none, some (vI x1_)] dX6_layPolynomial_107 (by decide) rfl ?_
      refine go_iinc (pc := 109) (x1_ + (1 : Int32)) [some (vR 0), some (vI y1), some (vI y2), some (vI y3), some (vI y4), some (vL z15), none, some (vI (x1_ + (1 : Int32)))] dX6_layPolynomial_109 rfl (iinc_1 _) (by decide) rfl ?_
      refine go_goto (pc := 112) 72 dX6_layPolynomial_112 (by decide) ?_
      obtain rfl := Option.some.inj hs
      exact hI (z15, x1_ + (1 : Int32)) rfl z15 (x1_ + (1 : Int32)) rfl
set_option maxRecDepth 20000 in
theorem g_X6_layPolynomial_60 {d : Nat} {Q : Option AV → List AC → Prop} {y1 : Int32} {y2 : Int32} {y3 : Int32} (x0_ : Int32) (x1_ : (Nat → Int64)) (r : (Nat → Int64)) (hl : loop (b_X6_layPolynomial_60 ta po y1 y3) (x0_, x1_) = some r) (hk : Go mX6_layPolynomial (d + 0) false 0 0 135 [some (vR 0), some (vI y1), some (vI y2), some (vI y3), none, none, none, none] [] (wM kn ne fi se ma on ot ta po r nu mo wa nx oT cF bg ed sF qu qd tr) Q) : Go mX6_layPolynomial (d + 0) false 0 0 60 [some (vR 0), some (vI y1), some (vI y2), some (vI y3), some (vI x0_), none, none, none] [] (wM kn ne fi se ma on ot ta po x1_ nu mo wa nx oT cF bg ed sF qu qd tr) Q := by
  refine loop_go (P := fun x : Int32 × (Nat → Int64) => ∀ (x0_ : Int32) (x1_ : (Nat → Int64)), x = (x0_, x1_) → Go mX6_layPolynomial (d + 0) false 0 0 60 [some (vR 0), some (vI y1), some (vI y2), some (vI y3), some (vI x0_), none, none, none] [] (wM kn ne fi se ma on ot ta po x1_ nu mo wa nx oT cF bg ed sF qu qd tr) Q) (K := fun r : (Nat → Int64) => Go mX6_layPolynomial (d + 0) false 0 0 135 [some (vR 0), some (vI y1), some (vI y2), some (vI y3), none, none, none, none] [] (wM kn ne fi se ma on ot ta po r nu mo wa nx oT cF bg ed sF qu qd tr) Q) ?_ (x0_, x1_) r hl hk x0_ x1_ rfl
  · intro x y hs hI hE x0_ x1_ hx
    subst hx
    unfold b_X6_layPolynomial_60 at hs
    try dsimp only at hs
    refine go_iload (pc := 60) dX6_layPolynomial_60 rfl ?_
    refine go_iload_n (pc := 62) 1 dX6_layPolynomial_62 rfl rfl ?_
    refine go_icmp_ge (pc := 63) 135 dX6_layPolynomial_63 (by decide) (fun h11 => ?_) (fun h11 => ?_)
    · have hs := it_t h11 hs
      obtain rfl := Option.some.inj hs
      refine go_sub (lv' := [some (vR 0), some (vI y1), some (vI y2), some (vI y3), none, none, none, none]) ⟨rfl, ⟨rfl, ⟨rfl, ⟨rfl, trivial⟩⟩⟩⟩ ?_
      exact hE x1_ rfl
    · have hs := it_f h11 hs
      refine go_lconst (pc := 66) (0 : Int64) dX6_layPolynomial_66 (by decide) ?_
      refine go_lstore (pc := 67) [some (vR 0), some (vI y1), some (vI y2), some (vI y3), some (vI x0_), some (vL (0 : Int64)), none, none] dX6_layPolynomial_67 (by decide) rfl ?_
      refine go_iconst (pc := 69) (0 : Int32) dX6_layPolynomial_69 (by decide) ?_
      refine go_istore (pc := 70) [some (vR 0), some (vI y1), some (vI y2), some (vI y3), some (vI x0_), some (vL (0 : Int64)), none, some (vI (0 : Int32))] dX6_layPolynomial_70 (by decide) rfl ?_
      obtain ⟨e16, hl17, hs⟩ := bnd hs
      refine g_X6_layPolynomial_72 (d := d) (0 : Int64) (0 : Int32) e16 hl17 ?_
      refine go_aload_n (pc := 115) 0 dX6_layPolynomial_115 rfl rfl ?_
      refine go_getfield (pc := 116) (v := vR 9) 0 6 9 dX6_layPolynomial_116 flX6_35 rfl rfl ?_
      refine go_bipush (pc := 119) (10 : Int32) dX6_layPolynomial_119 (by decide) ?_
      refine go_iload_n (pc := 121) 3 dX6_layPolynomial_121 rfl rfl ?_
      refine go_imul (pc := 122) dX6_layPolynomial_122 ?_
      refine go_iload (pc := 123) dX6_layPolynomial_123 rfl ?_
      refine go_iadd (pc := 125) dX6_layPolynomial_125 ?_
      refine go_lload (pc := 126) dX6_layPolynomial_126 rfl ?_
      obtain ⟨hi19, hs⟩ := chk_t hs
      refine go_lastore (pc := 128) 9 dX6_layPolynomial_128 rfl hi19 (show Go mX6_layPolynomial (d + 0) false 0 0 129 [some (vR 0), some (vI y1), some (vI y2), some (vI y3), some (vI x0_), some (vL e16), none, none] [] (wM kn ne fi se ma on ot ta po (vp_updL x1_ (((10 : Int32) * y3) + x0_).toNatClampNeg e16) nu mo wa nx oT cF bg ed sF qu qd tr) Q from ?_)
      refine go_iinc (pc := 129) (x0_ + (1 : Int32)) [some (vR 0), some (vI y1), some (vI y2), some (vI y3), some (vI (x0_ + (1 : Int32))), some (vL e16), none, none] dX6_layPolynomial_129 rfl (iinc_1 _) (by decide) rfl ?_
      refine go_goto (pc := 132) 60 dX6_layPolynomial_132 (by decide) ?_
      obtain rfl := Option.some.inj hs
      refine go_sub (lv' := [some (vR 0), some (vI y1), some (vI y2), some (vI y3), some (vI (x0_ + (1 : Int32))), none, none, none]) ⟨rfl, ⟨rfl, ⟨rfl, ⟨rfl, ⟨rfl, trivial⟩⟩⟩⟩⟩ ?_
      exact hI (x0_ + (1 : Int32), vp_updL x1_ (((10 : Int32) * y3) + x0_).toNatClampNeg e16) rfl (x0_ + (1 : Int32)) (vp_updL x1_ (((10 : Int32) * y3) + x0_).toNatClampNeg e16) rfl
set_option maxRecDepth 20000 in
theorem g_X6_layPolynomial_52 {d : Nat} {Q : Option AV → List AC → Prop} {y1 : Int32} {y2 : Int32} (x0_ : Int32) (x1_ : (Nat → Int64)) (r : (Nat → Int64)) (hl : loop (b_X6_layPolynomial_52 ta po y1) (x0_, x1_) = some r) (hk : Go mX6_layPolynomial (d + 0) false 0 0 141 [some (vR 0), some (vI y1), some (vI y2), none, none, none, none, none] [] (wM kn ne fi se ma on ot ta po r nu mo wa nx oT cF bg ed sF qu qd tr) Q) : Go mX6_layPolynomial (d + 0) false 0 0 52 [some (vR 0), some (vI y1), some (vI y2), some (vI x0_), none, none, none, none] [] (wM kn ne fi se ma on ot ta po x1_ nu mo wa nx oT cF bg ed sF qu qd tr) Q := by
  refine loop_go (P := fun x : Int32 × (Nat → Int64) => ∀ (x0_ : Int32) (x1_ : (Nat → Int64)), x = (x0_, x1_) → Go mX6_layPolynomial (d + 0) false 0 0 52 [some (vR 0), some (vI y1), some (vI y2), some (vI x0_), none, none, none, none] [] (wM kn ne fi se ma on ot ta po x1_ nu mo wa nx oT cF bg ed sF qu qd tr) Q) (K := fun r : (Nat → Int64) => Go mX6_layPolynomial (d + 0) false 0 0 141 [some (vR 0), some (vI y1), some (vI y2), none, none, none, none, none] [] (wM kn ne fi se ma on ot ta po r nu mo wa nx oT cF bg ed sF qu qd tr) Q) ?_ (x0_, x1_) r hl hk x0_ x1_ rfl
  · intro x y hs hI hE x0_ x1_ hx
    subst hx
    unfold b_X6_layPolynomial_52 at hs
    try dsimp only at hs
    refine go_iload_n (pc := 52) 3 dX6_layPolynomial_52 rfl rfl ?_
    refine go_iload_n (pc := 53) 1 dX6_layPolynomial_53 rfl rfl ?_
    refine go_icmp_ge (pc := 54) 141 dX6_layPolynomial_54 (by decide) (fun h10 => ?_) (fun h10 => ?_)
    · have hs := it_t h10 hs
      obtain rfl := Option.some.inj hs
      refine go_sub (lv' := [some (vR 0), some (vI y1), some (vI y2), none, none, none, none, none]) ⟨rfl, ⟨rfl, ⟨rfl, trivial⟩⟩⟩ ?_
      exact hE x1_ rfl
    · have hs := it_f h10 hs
      refine go_iconst (pc := 57) (0 : Int32) dX6_layPolynomial_57 (by decide) ?_
      refine go_istore (pc := 58) [some (vR 0), some (vI y1), some (vI y2), some (vI x0_), some (vI (0 : Int32)), none, none, none] dX6_layPolynomial_58 (by decide) rfl ?_
      obtain ⟨e20, hl21, hs⟩ := bnd hs
      refine g_X6_layPolynomial_60 (d := d) (0 : Int32) x1_ e20 hl21 ?_
      refine go_iinc (pc := 135) (x0_ + (1 : Int32)) [some (vR 0), some (vI y1), some (vI y2), some (vI (x0_ + (1 : Int32))), none, none, none, none] dX6_layPolynomial_135 rfl (iinc_1 _) (by decide) rfl ?_
      refine go_goto (pc := 138) 52 dX6_layPolynomial_138 (by decide) ?_
      obtain rfl := Option.some.inj hs
      exact hI (x0_ + (1 : Int32), e20) rfl (x0_ + (1 : Int32)) e20 rfl
set_option maxRecDepth 20000 in
theorem g_X6_layPolynomial_146 {d : Nat} {Q : Option AV → List AC → Prop} {y1 : Int32} {y2 : Int32} (x0_ : Int64) (x1_ : Int32) (r : Int64) (hl : loop (b_X6_layPolynomial_146 ti y1) (x0_, x1_) = some r) (hk : Go mX6_layPolynomial (d + 0) false 0 0 174 [some (vR 0), some (vI y1), some (vI y2), some (vL r), none, none, none, none] [] (wM kn ne fi se ma on ot ta po ti nu mo wa nx oT cF bg ed sF qu qd tr) Q) : Go mX6_layPolynomial (d + 0) false 0 0 146 [some (vR 0), some (vI y1), some (vI y2), some (vL x0_), none, some (vI x1_), none, none] [] (wM kn ne fi se ma on ot ta po ti nu mo wa nx oT cF bg ed sF qu qd tr) Q := by
  refine loop_go (P := fun x : Int64 × Int32 => ∀ (x0_ : Int64) (x1_ : Int32), x = (x0_, x1_) → Go mX6_layPolynomial (d + 0) false 0 0 146 [some (vR 0), some (vI y1), some (vI y2), some (vL x0_), none, some (vI x1_), none, none] [] (wM kn ne fi se ma on ot ta po ti nu mo wa nx oT cF bg ed sF qu qd tr) Q) (K := fun r : Int64 => Go mX6_layPolynomial (d + 0) false 0 0 174 [some (vR 0), some (vI y1), some (vI y2), some (vL r), none, none, none, none] [] (wM kn ne fi se ma on ot ta po ti nu mo wa nx oT cF bg ed sF qu qd tr) Q) ?_ (x0_, x1_) r hl hk x0_ x1_ rfl
  · intro x y hs hI hE x0_ x1_ hx
    subst hx
    unfold b_X6_layPolynomial_146 at hs
    try dsimp only at hs
    refine go_iload (pc := 146) dX6_layPolynomial_146 rfl ?_
    refine go_iload_n (pc := 148) 1 dX6_layPolynomial_148 rfl rfl ?_
    refine go_icmp_ge (pc := 149) 174 dX6_layPolynomial_149 (by decide) (fun h26 => ?_) (fun h26 => ?_)
    · have hs := it_t h26 hs
      obtain rfl := Option.some.inj hs
      refine go_sub (lv' := [some (vR 0), some (vI y1), some (vI y2), some (vL x0_), none, none, none, none]) ⟨rfl, ⟨rfl, ⟨rfl, ⟨rfl, trivial⟩⟩⟩⟩ ?_
      exact hE x0_ rfl
    · have hs := it_f h26 hs
      refine go_lload_n (pc := 152) 3 dX6_layPolynomial_152 rfl rfl ?_
      refine go_aload_n (pc := 153) 0 dX6_layPolynomial_153 rfl rfl ?_
      refine go_getfield (pc := 154) (v := vR 9) 0 6 9 dX6_layPolynomial_154 flX6_35 rfl rfl ?_
      refine go_bipush (pc := 157) (10 : Int32) dX6_layPolynomial_157 (by decide) ?_
      refine go_iload (pc := 159) dX6_layPolynomial_159 rfl ?_
      refine go_imul (pc := 161) dX6_layPolynomial_161 ?_
      refine go_iload (pc := 162) dX6_layPolynomial_162 rfl ?_
      refine go_iadd (pc := 164) dX6_layPolynomial_164 ?_
      obtain ⟨hi27, hs⟩ := chk_t hs
      refine go_laload (pc := 165) 9 dX6_layPolynomial_165 rfl hi27 ?_
      refine go_ladd (pc := 166) dX6_layPolynomial_166 ?_
      refine go_lstore_n (pc := 167) 3 [some (vR 0), some (vI y1), some (vI y2), some (vL (x0_ + (ti (((10 : Int32) * x1_) + x1_).toNatClampNeg))), none, some (vI x1_), none, none] dX6_layPolynomial_167 rfl (by decide) rfl ?_
      refine go_iinc (pc := 168) (x1_ + (1 : Int32)) [some (vR 0), some (vI y1), some (vI y2), some (vL (x0_ + (ti (((10 : Int32) * x1_) + x1_).toNatClampNeg))), none, some (vI (x1_ + (1 : Int32))), none, none] dX6_layPolynomial_168 rfl (iinc_1 _) (by decide) rfl ?_
      refine go_goto (pc := 171) 146 dX6_layPolynomial_171 (by decide) ?_
      obtain rfl := Option.some.inj hs
      exact hI (x0_ + (ti (((10 : Int32) * x1_) + x1_).toNatClampNeg), x1_ + (1 : Int32)) rfl (x0_ + (ti (((10 : Int32) * x1_) + x1_).toNatClampNeg)) (x1_ + (1 : Int32)) rfl
set_option maxRecDepth 20000 in
theorem g_X6_layPolynomial_199 {d : Nat} {Q : Option AV → List AC → Prop} {y1 : Int32} {y2 : Int32} {y5 : Int32} (x0_ : Int32) (x1_ : (Nat → Int64)) (r : (Nat → Int64)) (hl : loop (b_X6_layPolynomial_199 ti nu y1 y2 y5) (x0_, x1_) = some r) (hk : Go mX6_layPolynomial (d + 0) false 0 0 257 [some (vR 0), some (vI y1), some (vI y2), none, none, some (vI y5), none, none] [] (wM kn ne fi se ma on ot ta r ti nu mo wa nx oT cF bg ed sF qu qd tr) Q) : Go mX6_layPolynomial (d + 0) false 0 0 199 [some (vR 0), some (vI y1), some (vI y2), none, none, some (vI y5), some (vI x0_), none] [] (wM kn ne fi se ma on ot ta x1_ ti nu mo wa nx oT cF bg ed sF qu qd tr) Q := by
  refine loop_go (P := fun x : Int32 × (Nat → Int64) => ∀ (x0_ : Int32) (x1_ : (Nat → Int64)), x = (x0_, x1_) → Go mX6_layPolynomial (d + 0) false 0 0 199 [some (vR 0), some (vI y1), some (vI y2), none, none, some (vI y5), some (vI x0_), none] [] (wM kn ne fi se ma on ot ta x1_ ti nu mo wa nx oT cF bg ed sF qu qd tr) Q) (K := fun r : (Nat → Int64) => Go mX6_layPolynomial (d + 0) false 0 0 257 [some (vR 0), some (vI y1), some (vI y2), none, none, some (vI y5), none, none] [] (wM kn ne fi se ma on ot ta r ti nu mo wa nx oT cF bg ed sF qu qd tr) Q) ?_ (x0_, x1_) r hl hk x0_ x1_ rfl
  · intro x y hs hI hE x0_ x1_ hx
    subst hx
    unfold b_X6_layPolynomial_199 at hs
    try dsimp only at hs
    refine go_iload (pc := 199) dX6_layPolynomial_199 rfl ?_
    refine go_iload_n (pc := 201) 1 dX6_layPolynomial_201 rfl rfl ?_
    refine go_icmp_ge (pc := 202) 257 dX6_layPolynomial_202 (by decide) (fun h34 => ?_) (fun h34 => ?_)
    · have hs := it_t h34 hs
      obtain rfl := Option.some.inj hs
      refine go_sub (lv' := [some (vR 0), some (vI y1), some (vI y2), none, none, some (vI y5), none, none]) ⟨rfl, ⟨rfl, ⟨rfl, ⟨rfl, trivial⟩⟩⟩⟩ ?_
      exact hE x1_ rfl
    · have hs := it_f h34 hs
      refine go_aload_n (pc := 205) 0 dX6_layPolynomial_205 rfl rfl ?_
      refine go_getfield (pc := 206) (v := vR 8) 0 6 8 dX6_layPolynomial_206 flX6_32 rfl rfl ?_
      refine go_bipush (pc := 209) (10 : Int32) dX6_layPolynomial_209 (by decide) ?_
      refine go_iload (pc := 211) dX6_layPolynomial_211 rfl ?_
      refine go_imul (pc := 213) dX6_layPolynomial_213 ?_
      refine go_iload (pc := 214) dX6_layPolynomial_214 rfl ?_
      refine go_iadd (pc := 216) dX6_layPolynomial_216 ?_
      refine go_aload_n (pc := 217) 0 dX6_layPolynomial_217 rfl rfl ?_
      refine go_getfield (pc := 218) (v := vR 9) 0 6 9 dX6_layPolynomial_218 flX6_35 rfl rfl ?_
      refine go_bipush (pc := 221) (10 : Int32) dX6_layPolynomial_221 (by decide) ?_
      refine go_iload (pc := 223) dX6_layPolynomial_223 rfl ?_
      refine go_imul (pc := 225) dX6_layPolynomial_225 ?_
      refine go_iload (pc := 226) dX6_layPolynomial_226 rfl ?_
      refine go_iadd (pc := 228) dX6_layPolynomial_228 ?_
      obtain ⟨hi35, hs⟩ := chk_t hs
      refine go_laload (pc := 229) 9 dX6_layPolynomial_229 rfl hi35 ?_
      refine go_iload (pc := 230) dX6_layPolynomial_230 rfl ?_
      refine go_iload (pc := 232) dX6_layPolynomial_232 rfl ?_
      refine go_icmp_ne (pc := 234) 248 dX6_layPolynomial_234 (by decide) (fun h36 => ?_) (fun h36 => ?_)
      · have hs := it_f h36 hs
        refine go_lconst (pc := 248) (0 : Int64) dX6_layPolynomial_248 (by decide) ?_
        refine go_ladd (pc := 249) dX6_layPolynomial_249 ?_
        obtain ⟨hi37, hs⟩ := chk_t hs
        refine go_lastore (pc := 250) 8 dX6_layPolynomial_250 rfl hi37 (show Go mX6_layPolynomial (d + 0) false 0 0 251 [some (vR 0), some (vI y1), some (vI y2), none, none, some (vI y5), some (vI x0_), none] [] (wM kn ne fi se ma on ot ta (vp_updL x1_ (((10 : Int32) * y5) + x0_).toNatClampNeg ((ti (((10 : Int32) * y5) + x0_).toNatClampNeg) + (0 : Int64))) ti nu mo wa nx oT cF bg ed sF qu qd tr) Q from ?_)
        refine go_iinc (pc := 251) (x0_ + (1 : Int32)) [some (vR 0), some (vI y1), some (vI y2), none, none, some (vI y5), some (vI (x0_ + (1 : Int32))), none] dX6_layPolynomial_251 rfl (iinc_1 _) (by decide) rfl ?_
        refine go_goto (pc := 254) 199 dX6_layPolynomial_254 (by decide) ?_
        obtain rfl := Option.some.inj hs
        exact hI (x0_ + (1 : Int32), vp_updL x1_ (((10 : Int32) * y5) + x0_).toNatClampNeg ((ti (((10 : Int32) * y5) + x0_).toNatClampNeg) + (0 : Int64))) rfl (x0_ + (1 : Int32)) (vp_updL x1_ (((10 : Int32) * y5) + x0_).toNatClampNeg ((ti (((10 : Int32) * y5) + x0_).toNatClampNeg) + (0 : Int64))) rfl
      · have hs := it_t h36 hs
        refine go_aload_n (pc := 237) 0 dX6_layPolynomial_237 rfl rfl ?_
        refine go_getfield (pc := 238) (v := vR 10) 0 6 10 dX6_layPolynomial_238 flX6_38 rfl rfl ?_
        refine go_iload_n (pc := 241) 1 dX6_layPolynomial_241 rfl rfl ?_
        refine go_iload_n (pc := 242) 2 dX6_layPolynomial_242 rfl rfl ?_
        refine go_isub (pc := 243) dX6_layPolynomial_243 ?_
        obtain ⟨hi38, hs⟩ := chk_t hs
        refine go_laload (pc := 244) 10 dX6_layPolynomial_244 rfl hi38 ?_
        refine go_goto (pc := 245) 249 dX6_layPolynomial_245 (by decide) ?_
        refine go_ladd (pc := 249) dX6_layPolynomial_249 ?_
        obtain ⟨hi39, hs⟩ := chk_t hs
        refine go_lastore (pc := 250) 8 dX6_layPolynomial_250 rfl hi39 (show Go mX6_layPolynomial (d + 0) false 0 0 251 [some (vR 0), some (vI y1), some (vI y2), none, none, some (vI y5), some (vI x0_), none] [] (wM kn ne fi se ma on ot ta (vp_updL x1_ (((10 : Int32) * y5) + x0_).toNatClampNeg ((ti (((10 : Int32) * y5) + x0_).toNatClampNeg) + (nu (y1 - y2).toNatClampNeg))) ti nu mo wa nx oT cF bg ed sF qu qd tr) Q from ?_)
        refine go_iinc (pc := 251) (x0_ + (1 : Int32)) [some (vR 0), some (vI y1), some (vI y2), none, none, some (vI y5), some (vI (x0_ + (1 : Int32))), none] dX6_layPolynomial_251 rfl (iinc_1 _) (by decide) rfl ?_
        refine go_goto (pc := 254) 199 dX6_layPolynomial_254 (by decide) ?_
        obtain rfl := Option.some.inj hs
        exact hI (x0_ + (1 : Int32), vp_updL x1_ (((10 : Int32) * y5) + x0_).toNatClampNeg ((ti (((10 : Int32) * y5) + x0_).toNatClampNeg) + (nu (y1 - y2).toNatClampNeg))) rfl (x0_ + (1 : Int32)) (vp_updL x1_ (((10 : Int32) * y5) + x0_).toNatClampNeg ((ti (((10 : Int32) * y5) + x0_).toNatClampNeg) + (nu (y1 - y2).toNatClampNeg))) rfl
set_option maxRecDepth 20000 in
theorem g_X6_layPolynomial_190 {d : Nat} {Q : Option AV → List AC → Prop} {y1 : Int32} {y2 : Int32} (x0_ : Int32) (x1_ : (Nat → Int64)) (r : (Nat → Int64)) (hl : loop (b_X6_layPolynomial_190 ti nu y1 y2) (x0_, x1_) = some r) (hk : Go mX6_layPolynomial (d + 0) false 0 0 263 [some (vR 0), some (vI y1), some (vI y2), none, none, none, none, none] [] (wM kn ne fi se ma on ot ta r ti nu mo wa nx oT cF bg ed sF qu qd tr) Q) : Go mX6_layPolynomial (d + 0) false 0 0 190 [some (vR 0), some (vI y1), some (vI y2), none, none, some (vI x0_), none, none] [] (wM kn ne fi se ma on ot ta x1_ ti nu mo wa nx oT cF bg ed sF qu qd tr) Q := by
  refine loop_go (P := fun x : Int32 × (Nat → Int64) => ∀ (x0_ : Int32) (x1_ : (Nat → Int64)), x = (x0_, x1_) → Go mX6_layPolynomial (d + 0) false 0 0 190 [some (vR 0), some (vI y1), some (vI y2), none, none, some (vI x0_), none, none] [] (wM kn ne fi se ma on ot ta x1_ ti nu mo wa nx oT cF bg ed sF qu qd tr) Q) (K := fun r : (Nat → Int64) => Go mX6_layPolynomial (d + 0) false 0 0 263 [some (vR 0), some (vI y1), some (vI y2), none, none, none, none, none] [] (wM kn ne fi se ma on ot ta r ti nu mo wa nx oT cF bg ed sF qu qd tr) Q) ?_ (x0_, x1_) r hl hk x0_ x1_ rfl
  · intro x y hs hI hE x0_ x1_ hx
    subst hx
    unfold b_X6_layPolynomial_190 at hs
    try dsimp only at hs
    refine go_iload (pc := 190) dX6_layPolynomial_190 rfl ?_
    refine go_iload_n (pc := 192) 1 dX6_layPolynomial_192 rfl rfl ?_
    refine go_icmp_ge (pc := 193) 263 dX6_layPolynomial_193 (by decide) (fun h33 => ?_) (fun h33 => ?_)
    · have hs := it_t h33 hs
      obtain rfl := Option.some.inj hs
      refine go_sub (lv' := [some (vR 0), some (vI y1), some (vI y2), none, none, none, none, none]) ⟨rfl, ⟨rfl, ⟨rfl, trivial⟩⟩⟩ ?_
      exact hE x1_ rfl
    · have hs := it_f h33 hs
      refine go_iconst (pc := 196) (0 : Int32) dX6_layPolynomial_196 (by decide) ?_
      refine go_istore (pc := 197) [some (vR 0), some (vI y1), some (vI y2), none, none, some (vI x0_), some (vI (0 : Int32)), none] dX6_layPolynomial_197 (by decide) rfl ?_
      obtain ⟨e40, hl41, hs⟩ := bnd hs
      refine g_X6_layPolynomial_199 (d := d) (0 : Int32) x1_ e40 hl41 ?_
      refine go_iinc (pc := 257) (x0_ + (1 : Int32)) [some (vR 0), some (vI y1), some (vI y2), none, none, some (vI (x0_ + (1 : Int32))), none, none] dX6_layPolynomial_257 rfl (iinc_1 _) (by decide) rfl ?_
      refine go_goto (pc := 260) 190 dX6_layPolynomial_260 (by decide) ?_
      obtain rfl := Option.some.inj hs
      exact hI (x0_ + (1 : Int32), e40) rfl (x0_ + (1 : Int32)) e40 rfl
set_option maxRecDepth 20000 in
theorem g_X6_layPolynomial_45 {d : Nat} {Q : Option AV → List AC → Prop} {y1 : Int32} (x0_ : Int32) (x1_ : (Nat → Int64)) (x2_ : (Nat → Int64)) (x3_ : (Nat → Int64)) (r : (Nat → Int64) × (Nat → Int64) × (Nat → Int64)) (hl : loop (b_X6_layPolynomial_45 ta y1) (x0_, x1_, x2_, x3_) = some r) (hk : ∀ (r0_ : (Nat → Int64)) (r1_ : (Nat → Int64)) (r2_ : (Nat → Int64)), r = (r0_, r1_, r2_) → Go mX6_layPolynomial (d + 0) false 0 0 269 [none, none, none, none, none, none, none, none] [] (wM kn ne fi se ma on ot ta r0_ r1_ r2_ mo wa nx oT cF bg ed sF qu qd tr) Q) : Go mX6_layPolynomial (d + 0) false 0 0 45 [some (vR 0), some (vI y1), some (vI x0_), none, none, none, none, none] [] (wM kn ne fi se ma on ot ta x1_ x2_ x3_ mo wa nx oT cF bg ed sF qu qd tr) Q := by
  refine loop_go (P := fun x : Int32 × (Nat → Int64) × (Nat → Int64) × (Nat → Int64) => ∀ (x0_ : Int32) (x1_ : (Nat → Int64)) (x2_ : (Nat → Int64)) (x3_ : (Nat → Int64)), x = (x0_, x1_, x2_, x3_) → Go mX6_layPolynomial (d + 0) false 0 0 45 [some (vR 0), some (vI y1), some (vI x0_), none, none, none, none, none] [] (wM kn ne fi se ma on ot ta x1_ x2_ x3_ mo wa nx oT cF bg ed sF qu qd tr) Q) (K := fun r : (Nat → Int64) × (Nat → Int64) × (Nat → Int64) => ∀ (r0_ : (Nat → Int64)) (r1_ : (Nat → Int64)) (r2_ : (Nat → Int64)), r = (r0_, r1_, r2_) → Go mX6_layPolynomial (d + 0) false 0 0 269 [none, none, none, none, none, none, none, none] [] (wM kn ne fi se ma on ot ta r0_ r1_ r2_ mo wa nx oT cF bg ed sF qu qd tr) Q) ?_ (x0_, x1_, x2_, x3_) r hl hk x0_ x1_ x2_ x3_ rfl
  · intro x y hs hI hE x0_ x1_ x2_ x3_ hx
    subst hx
    unfold b_X6_layPolynomial_45 at hs
    try dsimp only at hs
    refine go_iload_n (pc := 45) 2 dX6_layPolynomial_45 rfl rfl ?_
    refine go_iload_n (pc := 46) 1 dX6_layPolynomial_46 rfl rfl ?_
    refine go_icmp_gt (pc := 47) 269 dX6_layPolynomial_47 (by decide) (fun h9 => ?_) (fun h9 => ?_)
    · have hs := it_t h9 hs
      obtain rfl := Option.some.inj hs
      refine go_sub (lv' := [none, none, none, none, none, none, none, none]) trivial ?_
      exact (hE (x1_, x2_, x3_) rfl) x1_ x2_ x3_ rfl
    · have hs := it_f h9 hs
      refine go_iconst (pc := 50) (0 : Int32) dX6_layPolynomial_50 (by decide) ?_
      refine go_istore_n (pc := 51) 3 [some (vR 0), some (vI y1), some (vI x0_), some (vI (0 : Int32)), none, none, none, none] dX6_layPolynomial_51 rfl (by decide) rfl ?_
      obtain ⟨e23, hl24, hs⟩ := bnd hs
      refine g_X6_layPolynomial_52 (d := d) (0 : Int32) x2_ e23 hl24 ?_
      refine go_lconst (pc := 141) (0 : Int64) dX6_layPolynomial_141 (by decide) ?_
      refine go_lstore_n (pc := 142) 3 [some (vR 0), some (vI y1), some (vI x0_), some (vL (0 : Int64)), none, none, none, none] dX6_layPolynomial_142 rfl (by decide) rfl ?_
      refine go_iconst (pc := 143) (0 : Int32) dX6_layPolynomial_143 (by decide) ?_
      refine go_istore (pc := 144) [some (vR 0), some (vI y1), some (vI x0_), some (vL (0 : Int64)), none, some (vI (0 : Int32)), none, none] dX6_layPolynomial_144 (by decide) rfl ?_
      obtain ⟨e28, hl29, hs⟩ := bnd hs
      refine g_X6_layPolynomial_146 (d := d) (0 : Int64) (0 : Int32) e28 hl29 ?_
      refine go_aload_n (pc := 174) 0 dX6_layPolynomial_174 rfl rfl ?_
      refine go_getfield (pc := 175) (v := vR 10) 0 6 10 dX6_layPolynomial_175 flX6_38 rfl rfl ?_
      refine go_iload_n (pc := 178) 1 dX6_layPolynomial_178 rfl rfl ?_
      refine go_iload_n (pc := 179) 2 dX6_layPolynomial_179 rfl rfl ?_
      refine go_isub (pc := 180) dX6_layPolynomial_180 ?_
      refine go_lload_n (pc := 181) 3 dX6_layPolynomial_181 rfl rfl ?_
      refine go_lneg (pc := 182) dX6_layPolynomial_182 ?_
      refine go_iload_n (pc := 183) 2 dX6_layPolynomial_183 rfl rfl ?_
      refine go_i2l (pc := 184) dX6_layPolynomial_184 ?_
      obtain ⟨hn31, hs⟩ := nezL_t hs
      refine go_ldiv (pc := 185) dX6_layPolynomial_185 hn31 ?_
      obtain ⟨hi32, hs⟩ := chk_t hs
      refine go_lastore (pc := 186) 10 dX6_layPolynomial_186 rfl hi32 (show Go mX6_layPolynomial (d + 0) false 0 0 187 [some (vR 0), some (vI y1), some (vI x0_), some (vL e28), none, none, none, none] [] (wM kn ne fi se ma on ot ta x1_ e23 (vp_updL x3_ (y1 - x0_).toNatClampNeg ((-e28) / x0_.toInt64)) mo wa nx oT cF bg ed sF qu qd tr) Q from ?_)
      refine go_iconst (pc := 187) (0 : Int32) dX6_layPolynomial_187 (by decide) ?_
      refine go_istore (pc := 188) [some (vR 0), some (vI y1), some (vI x0_), some (vL e28), none, some (vI (0 : Int32)), none, none] dX6_layPolynomial_188 (by decide) rfl ?_
      refine go_sub (lv' := [some (vR 0), some (vI y1), some (vI x0_), none, none, some (vI (0 : Int32)), none, none]) ⟨rfl, ⟨rfl, ⟨rfl, ⟨rfl, trivial⟩⟩⟩⟩ ?_
      obtain ⟨e43, hl44, hs⟩ := bnd hs
      refine g_X6_layPolynomial_190 (d := d) (0 : Int32) x1_ e43 hl44 ?_
      refine go_iinc (pc := 263) (x0_ + (1 : Int32)) [some (vR 0), some (vI y1), some (vI (x0_ + (1 : Int32))), none, none, none, none, none] dX6_layPolynomial_263 rfl (iinc_1 _) (by decide) rfl ?_
      refine go_goto (pc := 266) 45 dX6_layPolynomial_266 (by decide) ?_
      obtain rfl := Option.some.inj hs
      exact hI (x0_ + (1 : Int32), e43, e23, vp_updL x3_ (y1 - x0_).toNatClampNeg ((-e28) / x0_.toInt64)) rfl (x0_ + (1 : Int32)) e43 e23 (vp_updL x3_ (y1 - x0_).toNatClampNeg ((-e28) / x0_.toInt64)) rfl
set_option maxRecDepth 20000 in
theorem c_X6_layPolynomial {d : Nat}  {a1 : Int32} {res0 : (Nat → Int64)} {res1 : (Nat → Int64)} {res2 : (Nat → Int64)} (hs : s_X6_layPolynomial ta po ti nu a1 = some (res0, res1, res2)) : Calls mX6_layPolynomial (d + 0) false 0 0 [vR 0, vI a1] (wM kn ne fi se ma on ot ta po ti nu mo wa nx oT cF bg ed sF qu qd tr) (fun r w' => r = none ∧ w' = (wM kn ne fi se ma on ot ta res0 res1 res2 mo wa nx oT cF bg ed sF qu qd tr)) := by
  unfold s_X6_layPolynomial at hs
  refine Calls.of kX6_layPolynomial 6 [some (vR 0), some (vI a1), none, none, none, none, none, none] rfl (Nat.le_of_ble_eq_true rfl) ?_
  refine go_iconst (pc := 0) (0 : Int32) dX6_layPolynomial_0 (by decide) ?_
  refine go_istore_n (pc := 1) 2 [some (vR 0), some (vI a1), some (vI (0 : Int32)), none, none, none, none, none] dX6_layPolynomial_1 rfl (by decide) rfl ?_
  obtain ⟨e5, hl6, hs⟩ := bnd hs
  refine g_X6_layPolynomial_2 (d := d) (0 : Int32) po e5 hl6 ?_
  refine go_aload_n (pc := 36) 0 dX6_layPolynomial_36 rfl rfl ?_
  refine go_getfield (pc := 37) (v := vR 10) 0 6 10 dX6_layPolynomial_37 flX6_38 rfl rfl ?_
  refine go_iload_n (pc := 40) 1 dX6_layPolynomial_40 rfl rfl ?_
  refine go_lconst (pc := 41) (1 : Int64) dX6_layPolynomial_41 (by decide) ?_
  obtain ⟨hi8, hs⟩ := chk_t hs
  refine go_lastore (pc := 42) 10 dX6_layPolynomial_42 rfl hi8 (show Go mX6_layPolynomial (d + 0) false 0 0 43 [some (vR 0), some (vI a1), none, none, none, none, none, none] [] (wM kn ne fi se ma on ot ta e5 ti (vp_updL nu a1.toNatClampNeg (1 : Int64)) mo wa nx oT cF bg ed sF qu qd tr) _ from ?_)
  refine go_iconst (pc := 43) (1 : Int32) dX6_layPolynomial_43 (by decide) ?_
  refine go_istore_n (pc := 44) 2 [some (vR 0), some (vI a1), some (vI (1 : Int32)), none, none, none, none, none] dX6_layPolynomial_44 rfl (by decide) rfl ?_
  obtain ⟨e46, hl47, hs⟩ := bnd hs
  refine g_X6_layPolynomial_45 (d := d) (1 : Int32) e5 ti (vp_updL nu a1.toNatClampNeg (1 : Int64)) e46 hl47 ?_
  intro v48 v49 v50 hv51
  subst hv51
  try dsimp only at hs
  cases hs
  exact go_return (st := []) (pc := 269) dX6_layPolynomial_269 rfl (fun h => by cases h) ⟨rfl, rfl⟩
end
