section
variable {kn : (Nat → Int32)} {ne : (Nat → Int32)} {fi : (Nat → Int32)} {se : (Nat → Int32)} {ma : Int32} {on : (Nat → Int32)} {ot : (Nat → Int32)} {ta : (Nat → Int64)} {po : (Nat → Int64)} {ti : (Nat → Int64)} {nu : (Nat → Int64)} {mo : (Nat → Int64)} {wa : (Nat → Int64)} {nx : (Nat → Int64)} {oT : (Nat → Int32)} {cF : (Nat → Int32)} {bg : Int32} {ed : Int32} {sF : (Nat → Int32)} {qu : (Nat → Int32)} {qd : Int32} {tr : (Nat → Int32)}
noncomputable def b_X6_ring_55 (y1 : Int32) (y2 : Int32) (y3 : Int32) (y4 : Int32) (x : Int32 × (Nat → Int32)) : Option ((Int32 × (Nat → Int32)) ⊕ ((Nat → Int32))) := if y2 ≤ x.1 then (some (Sum.inr x.2)) else (if ((y3 >>> ((y4 - (1 : Int32)) &&& 31)) &&& (1 : Int32)) = (1 : Int32) then (nez y2 ((s_X6_put x.2 y1 x.1 ((x.1 + y4) - (x.1 + y4) / y2 * y2)).bind (fun x16 => some (Sum.inl (x.1 + (1 : Int32), x16))))) else (some (Sum.inr x.2)))
noncomputable def b_X6_ring_44 (y1 : Int32) (y2 : Int32) (y3 : Int32) (x : Int32 × (Nat → Int32)) : Option ((Int32 × (Nat → Int32)) ⊕ ((Nat → Int32))) := if (y2 / (2 : Int32)) < x.1 then (some (Sum.inr x.2)) else ((loop (b_X6_ring_55 y1 y2 y3 x.1) ((0 : Int32), x.2)).bind (fun e18 => some (Sum.inl (x.1 + (1 : Int32), e18))))
noncomputable def s_X6_ring (kn : (Nat → Int32)) (ne : (Nat → Int32)) (a1 : Int32) (a2 : Int32) (a3 : Int32) : Option (Int32 × (Nat → Int32) × (Nat → Int32)) := (s_X6_isNet a1).bind (fun x1 => if x1 = 0 then (some ((-2 : Int32), kn, ne)) else ((s_X6_in a2 (1 : Int32) (10 : Int32)).bind (fun x4 => if x4 = 0 then (some ((-2 : Int32), kn, ne)) else ((s_X6_in a3 (0 : Int32) (((1 : Int32) <<< ((a2 / (2 : Int32)) &&& 31)) - (1 : Int32))).bind (fun x7 => if x7 = 0 then (some ((-2 : Int32), kn, ne)) else ((s_X6_begin kn ne a1 a2).bind (fun x10 => (loop (b_X6_ring_44 a1 a2 a3) ((1 : Int32), x10.2)).bind (fun e21 => (s_X6_lines x10.1 e21 a1).bind (fun x24 => some (x24, x10.1, e21))))))))))
set_option maxRecDepth 20000 in
theorem g_X6_ring_55 {d : Nat} {Q : Option AV → List AC → Prop} {y1 : Int32} {y2 : Int32} {y3 : Int32} {y4 : Int32} (x0_ : Int32) (x1_ : (Nat → Int32)) (r : (Nat → Int32)) (hl : loop (b_X6_ring_55 y1 y2 y3 y4) (x0_, x1_) = some r) (hk : Go mX6_ring (d + 2) false 0 0 93 [some (vR 0), some (vI y1), some (vI y2), some (vI y3), some (vI y4), none] [] (wM kn r fi se ma on ot ta po ti nu mo wa nx oT cF bg ed sF qu qd tr) Q) : Go mX6_ring (d + 2) false 0 0 55 [some (vR 0), some (vI y1), some (vI y2), some (vI y3), some (vI y4), some (vI x0_)] [] (wM kn x1_ fi se ma on ot ta po ti nu mo wa nx oT cF bg ed sF qu qd tr) Q := by
  refine loop_go (P := fun x : Int32 × (Nat → Int32) => ∀ (x0_ : Int32) (x1_ : (Nat → Int32)), x = (x0_, x1_) → Go mX6_ring (d + 2) false 0 0 55 [some (vR 0), some (vI y1), some (vI y2), some (vI y3), some (vI y4), some (vI x0_)] [] (wM kn x1_ fi se ma on ot ta po ti nu mo wa nx oT cF bg ed sF qu qd tr) Q) (K := fun r : (Nat → Int32) => Go mX6_ring (d + 2) false 0 0 93 [some (vR 0), some (vI y1), some (vI y2), some (vI y3), some (vI y4), none] [] (wM kn r fi se ma on ot ta po ti nu mo wa nx oT cF bg ed sF qu qd tr) Q) ?_ (x0_, x1_) r hl hk x0_ x1_ rfl
  · intro x y hs hI hE x0_ x1_ hx
    subst hx
    unfold b_X6_ring_55 at hs
    try dsimp only at hs
    refine go_iload (pc := 55) dX6_ring_55 rfl ?_
    refine go_iload_n (pc := 57) 2 dX6_ring_57 rfl rfl ?_
    refine go_icmp_ge (pc := 58) 93 dX6_ring_58 (by decide) (fun h13 => ?_) (fun h13 => ?_)
    · have hs := it_t h13 hs
      obtain rfl := Option.some.inj hs
      refine go_sub (lv' := [some (vR 0), some (vI y1), some (vI y2), some (vI y3), some (vI y4), none]) ⟨rfl, ⟨rfl, ⟨rfl, ⟨rfl, ⟨rfl, trivial⟩⟩⟩⟩⟩ ?_
      exact hE x1_ rfl
    · have hs := it_f h13 hs
      refine go_iload_n (pc := 61) 3 dX6_ring_61 rfl rfl ?_
      refine go_iload (pc := 62) dX6_ring_62 rfl ?_
      refine go_iconst (pc := 64) (1 : Int32) dX6_ring_64 (by decide) ?_
      refine go_isub (pc := 65) dX6_ring_65 ?_
      refine go_ishr (pc := 66) dX6_ring_66 ?_
      refine go_iconst (pc := 67) (1 : Int32) dX6_ring_67 (by decide) ?_
      refine go_iand (pc := 68) dX6_ring_68 ?_
      refine go_iconst (pc := 69) (1 : Int32) dX6_ring_69 (by decide) ?_
      refine go_icmp_ne (pc := 70) 93 dX6_ring_70 (by decide) (fun h14 => ?_) (fun h14 => ?_)
      · have hs := it_f h14 hs
        obtain rfl := Option.some.inj hs
        refine go_sub (lv' := [some (vR 0), some (vI y1), some (vI y2), some (vI y3), some (vI y4), none]) ⟨rfl, ⟨rfl, ⟨rfl, ⟨rfl, ⟨rfl, trivial⟩⟩⟩⟩⟩ ?_
        exact hE x1_ rfl
      · have hs := it_t h14 hs
        refine go_aload_n (pc := 73) 0 dX6_ring_73 rfl rfl ?_
        refine go_iload_n (pc := 74) 1 dX6_ring_74 rfl rfl ?_
        refine go_iload (pc := 75) dX6_ring_75 rfl ?_
        refine go_iload (pc := 77) dX6_ring_77 rfl ?_
        refine go_iload (pc := 79) dX6_ring_79 rfl ?_
        refine go_iadd (pc := 81) dX6_ring_81 ?_
        refine go_iload_n (pc := 82) 2 dX6_ring_82 rfl rfl ?_
        obtain ⟨hn15, hs⟩ := nez_t hs
        refine go_irem (pc := 83) dX6_ring_83 hn15 ?_
        obtain ⟨x16, hc17, hs⟩ := bnd hs
        refine go_callV (bc := 0) (bs := 0) (mc := 0) (ms := 0) (d := d + 1) (pc := 84) (a := 0) (ci := 6) [vI y1, vI x0_, vI ((x0_ + y4) - (x0_ + y4) / y2 * y2)] [] dX6_ring_84 kX6_put mlX6_88 ivX6_put rfl rfl rfl rfl (Nat.le_of_ble_eq_true rfl) rfl (c_X6_put (d := d + 1) (res0 := x16) hc17) (fun r w' hq => ?_)
        obtain ⟨rfl, rfl⟩ := hq
        show Go mX6_ring (d + 2) false 0 0 87 [some (vR 0), some (vI y1), some (vI y2), some (vI y3), some (vI y4), some (vI x0_)] [] (wM kn x16 fi se ma on ot ta po ti nu mo wa nx oT cF bg ed sF qu qd tr) Q
        refine go_iinc (pc := 87) (x0_ + (1 : Int32)) [some (vR 0), some (vI y1), some (vI y2), some (vI y3), some (vI y4), some (vI (x0_ + (1 : Int32)))] dX6_ring_87 rfl (iinc_1 _) (by decide) rfl ?_
        refine go_goto (pc := 90) 55 dX6_ring_90 (by decide) ?_
        obtain rfl := Option.some.inj hs
        exact hI (x0_ + (1 : Int32), x16) rfl (x0_ + (1 : Int32)) x16 rfl
set_option maxRecDepth 20000 in
theorem g_X6_ring_44 {d : Nat} {Q : Option AV → List AC → Prop} {y1 : Int32} {y2 : Int32} {y3 : Int32} (x0_ : Int32) (x1_ : (Nat → Int32)) (r : (Nat → Int32)) (hl : loop (b_X6_ring_44 y1 y2 y3) (x0_, x1_) = some r) (hk : Go mX6_ring (d + 2) false 0 0 99 [some (vR 0), some (vI y1), none, none, none, none] [] (wM kn r fi se ma on ot ta po ti nu mo wa nx oT cF bg ed sF qu qd tr) Q) : Go mX6_ring (d + 2) false 0 0 44 [some (vR 0), some (vI y1), some (vI y2), some (vI y3), some (vI x0_), none] [] (wM kn x1_ fi se ma on ot ta po ti nu mo wa nx oT cF bg ed sF qu qd tr) Q := by
  refine loop_go (P := fun x : Int32 × (Nat → Int32) => ∀ (x0_ : Int32) (x1_ : (Nat → Int32)), x = (x0_, x1_) → Go mX6_ring (d + 2) false 0 0 44 [some (vR 0), some (vI y1), some (vI y2), some (vI y3), some (vI x0_), none] [] (wM kn x1_ fi se ma on ot ta po ti nu mo wa nx oT cF bg ed sF qu qd tr) Q) (K := fun r : (Nat → Int32) => Go mX6_ring (d + 2) false 0 0 99 [some (vR 0), some (vI y1), none, none, none, none] [] (wM kn r fi se ma on ot ta po ti nu mo wa nx oT cF bg ed sF qu qd tr) Q) ?_ (x0_, x1_) r hl hk x0_ x1_ rfl
  · intro x y hs hI hE x0_ x1_ hx
    subst hx
    unfold b_X6_ring_44 at hs
    try dsimp only at hs
    refine go_iload (pc := 44) dX6_ring_44 rfl ?_
    refine go_iload_n (pc := 46) 2 dX6_ring_46 rfl rfl ?_
    refine go_iconst (pc := 47) (2 : Int32) dX6_ring_47 (by decide) ?_
    refine go_idiv (pc := 48) dX6_ring_48 (by decide) ?_
    refine go_icmp_gt (pc := 49) 99 dX6_ring_49 (by decide) (fun h12 => ?_) (fun h12 => ?_)
    · have hs := it_t h12 hs
      obtain rfl := Option.some.inj hs
      refine go_sub (lv' := [some (vR 0), some (vI y1), none, none, none, none]) ⟨rfl, ⟨rfl, trivial⟩⟩ ?_
      exact hE x1_ rfl
    · have hs := it_f h12 hs
      refine go_iconst (pc := 52) (0 : Int32) dX6_ring_52 (by decide) ?_
      refine go_istore (pc := 53) [some (vR 0), some (vI y1), some (vI y2), some (vI y3), some (vI x0_), some (vI (0 : Int32))] dX6_ring_53 (by decide) rfl ?_
      obtain ⟨e18, hl19, hs⟩ := bnd hs
      refine g_X6_ring_55 (d := d) (0 : Int32) x1_ e18 hl19 ?_
      refine go_iinc (pc := 93) (x0_ + (1 : Int32)) [some (vR 0), some (vI y1), some (vI y2), some (vI y3), some (vI (x0_ + (1 : Int32))), none] dX6_ring_93 rfl (iinc_1 _) (by decide) rfl ?_
      refine go_goto (pc := 96) 44 dX6_ring_96 (by decide) ?_
      obtain rfl := Option.some.inj hs
      exact hI (x0_ + (1 : Int32), e18) rfl (x0_ + (1 : Int32)) e18 rfl
set_option maxRecDepth 20000 in
theorem c_X6_ring {d : Nat}  {a1 : Int32} {a2 : Int32} {a3 : Int32} {res0 : Int32} {res1 : (Nat → Int32)} {res2 : (Nat → Int32)} (hs : s_X6_ring kn ne a1 a2 a3 = some (res0, res1, res2)) : Calls mX6_ring (d + 2) false 0 0 [vR 0, vI a1, vI a2, vI a3] (wM kn ne fi se ma on ot ta po ti nu mo wa nx oT cF bg ed sF qu qd tr) (fun r w' => r = some (vI res0) ∧ w' = (wM res1 res2 fi se ma on ot ta po ti nu mo wa nx oT cF bg ed sF qu qd tr)) := by
  unfold s_X6_ring at hs
  refine Calls.of kX6_ring 2 [some (vR 0), some (vI a1), some (vI a2), some (vI a3), none, none] rfl (Nat.le_of_ble_eq_true rfl) ?_
  refine go_iload_n (pc := 0) 1 dX6_ring_0 rfl rfl ?_
  obtain ⟨x1, hc2, hs⟩ := bnd hs
  refine go_callS (bc := 0) (bs := 0) (mc := 0) (ms := 0) (d := d + 1) (pc := 1) [vI a1] [] dX6_ring_1 kX6_isNet mlX6_69 isX6_isNet rfl (Nat.le_of_ble_eq_true rfl) rfl (c_X6_isNet (d := d + 0) (res0 := x1) hc2) (fun r w' hq => ?_)
  obtain ⟨rfl, rfl⟩ := hq
  show Go mX6_ring (d + 2) false 0 0 4 [some (vR 0), some (vI a1), some (vI a2), some (vI a3), none, none] [vI x1] (wM kn ne fi se ma on ot ta po ti nu mo wa nx oT cF bg ed sF qu qd tr) _
  refine go_if_eq (pc := 4) 32 dX6_ring_4 (by decide) (fun h3 => ?_) (fun h3 => ?_)
  · have hs := it_t h3 hs
    refine go_bipush (pc := 32) (-2 : Int32) dX6_ring_32 (by decide) ?_
    cases hs
    exact go_ireturn (st := []) (pc := 34) dX6_ring_34 rfl (vp_nar_int _) (fun h => by cases h) ⟨rfl, rfl⟩
  · have hs := it_f h3 hs
    refine go_iload_n (pc := 7) 2 dX6_ring_7 rfl rfl ?_
    refine go_iconst (pc := 8) (1 : Int32) dX6_ring_8 (by decide) ?_
    refine go_bipush (pc := 9) (10 : Int32) dX6_ring_9 (by decide) ?_
    obtain ⟨x4, hc5, hs⟩ := bnd hs
    refine go_callS (bc := 0) (bs := 0) (mc := 0) (ms := 0) (d := d + 1) (pc := 11) [vI a2, vI (1 : Int32), vI (10 : Int32)] [] dX6_ring_11 kX6_in mlX6_65 isX6_in rfl (Nat.le_of_ble_eq_true rfl) rfl (c_X6_in (d := d + 1) (res0 := x4) hc5) (fun r w' hq => ?_)
    obtain ⟨rfl, rfl⟩ := hq
    show Go mX6_ring (d + 2) false 0 0 14 [some (vR 0), some (vI a1), some (vI a2), some (vI a3), none, none] [vI x4] (wM kn ne fi se ma on ot ta po ti nu mo wa nx oT cF bg ed sF qu qd tr) _
    refine go_if_eq (pc := 14) 32 dX6_ring_14 (by decide) (fun h6 => ?_) (fun h6 => ?_)
    · have hs := it_t h6 hs
      refine go_bipush (pc := 32) (-2 : Int32) dX6_ring_32 (by decide) ?_
      cases hs
      exact go_ireturn (st := []) (pc := 34) dX6_ring_34 rfl (vp_nar_int _) (fun h => by cases h) ⟨rfl, rfl⟩
    · have hs := it_f h6 hs
      refine go_iload_n (pc := 17) 3 dX6_ring_17 rfl rfl ?_
      refine go_iconst (pc := 18) (0 : Int32) dX6_ring_18 (by decide) ?_
      refine go_iconst (pc := 19) (1 : Int32) dX6_ring_19 (by decide) ?_
      refine go_iload_n (pc := 20) 2 dX6_ring_20 rfl rfl ?_
      refine go_iconst (pc := 21) (2 : Int32) dX6_ring_21 (by decide) ?_
      refine go_idiv (pc := 22) dX6_ring_22 (by decide) ?_
      refine go_ishl (pc := 23) dX6_ring_23 ?_
      refine go_iconst (pc := 24) (1 : Int32) dX6_ring_24 (by decide) ?_
      refine go_isub (pc := 25) dX6_ring_25 ?_
      obtain ⟨x7, hc8, hs⟩ := bnd hs
      refine go_callS (bc := 0) (bs := 0) (mc := 0) (ms := 0) (d := d + 1) (pc := 26) [vI a3, vI (0 : Int32), vI (((1 : Int32) <<< ((a2 / (2 : Int32)) &&& 31)) - (1 : Int32))] [] dX6_ring_26 kX6_in mlX6_65 isX6_in rfl (Nat.le_of_ble_eq_true rfl) rfl (c_X6_in (d := d + 1) (res0 := x7) hc8) (fun r w' hq => ?_)
      obtain ⟨rfl, rfl⟩ := hq
      show Go mX6_ring (d + 2) false 0 0 29 [some (vR 0), some (vI a1), some (vI a2), some (vI a3), none, none] [vI x7] (wM kn ne fi se ma on ot ta po ti nu mo wa nx oT cF bg ed sF qu qd tr) _
      refine go_if_ne (pc := 29) 35 dX6_ring_29 (by decide) (fun h9 => ?_) (fun h9 => ?_)
      · have hs := it_f h9 hs
        refine go_aload_n (pc := 35) 0 dX6_ring_35 rfl rfl ?_
        refine go_iload_n (pc := 36) 1 dX6_ring_36 rfl rfl ?_
        refine go_iload_n (pc := 37) 2 dX6_ring_37 rfl rfl ?_
        obtain ⟨x10, hc11, hs⟩ := bnd hs
        refine go_callV (bc := 0) (bs := 0) (mc := 0) (ms := 0) (d := d + 1) (pc := 38) (a := 0) (ci := 6) [vI a1, vI a2] [] dX6_ring_38 kX6_begin mlX6_77 ivX6_begin rfl rfl rfl rfl (Nat.le_of_ble_eq_true rfl) rfl (c_X6_begin (d := d + 1) (res0 := x10.1) (res1 := x10.2) hc11) (fun r w' hq => ?_)
        obtain ⟨rfl, rfl⟩ := hq
        show Go mX6_ring (d + 2) false 0 0 41 [some (vR 0), some (vI a1), some (vI a2), some (vI a3), none, none] [] (wM x10.1 x10.2 fi se ma on ot ta po ti nu mo wa nx oT cF bg ed sF qu qd tr) _
        refine go_iconst (pc := 41) (1 : Int32) dX6_ring_41 (by decide) ?_
        refine go_istore (pc := 42) [some (vR 0), some (vI a1), some (vI a2), some (vI a3), some (vI (1 : Int32)), none] dX6_ring_42 (by decide) rfl ?_
        obtain ⟨e21, hl22, hs⟩ := bnd hs
        refine g_X6_ring_44 (d := d) (1 : Int32) x10.2 e21 hl22 ?_
        refine go_aload_n (pc := 99) 0 dX6_ring_99 rfl rfl ?_
        refine go_iload_n (pc := 100) 1 dX6_ring_100 rfl rfl ?_
        obtain ⟨x24, hc25, hs⟩ := bnd hs
        refine go_callV (bc := 0) (bs := 0) (mc := 0) (ms := 0) (d := d + 1) (pc := 101) (a := 0) (ci := 6) [vI a1] [] dX6_ring_101 kX6_lines mlX6_92 ivX6_lines rfl rfl rfl rfl (Nat.le_of_ble_eq_true rfl) rfl (c_X6_lines (d := d + 0) (res0 := x24) hc25) (fun r w' hq => ?_)
        obtain ⟨rfl, rfl⟩ := hq
        show Go mX6_ring (d + 2) false 0 0 104 [some (vR 0), some (vI a1), none, none, none, none] [vI x24] (wM x10.1 e21 fi se ma on ot ta po ti nu mo wa nx oT cF bg ed sF qu qd tr) _
        cases hs
        exact go_ireturn (st := []) (pc := 104) dX6_ring_104 rfl (vp_nar_int _) (fun h => by cases h) ⟨rfl, rfl⟩
      · have hs := it_t h9 hs
        refine go_bipush (pc := 32) (-2 : Int32) dX6_ring_32 (by decide) ?_
        cases hs
        exact go_ireturn (st := []) (pc := 34) dX6_ring_34 rfl (vp_nar_int _) (fun h => by cases h) ⟨rfl, rfl⟩
noncomputable def b_X6_product_56 (ne : (Nat → Int32)) (y1 : Int32) (y2 : Int32) (x : Int32 × (Nat → Int32) × (Nat → Int32)) : Option ((Int32 × (Nat → Int32) × (Nat → Int32)) ⊕ ((Nat → Int32) × (Nat → Int32))) := if (10 : Int32) ≤ x.1 then (some (Sum.inr (x.2.1, x.2.2))) else (chk (((10 : Int32) * y1) + x.1) 40 (chk x.1 10 (chk (((10 : Int32) * y2) + x.1) 40 (chk x.1 10 (some (Sum.inl (x.1 + (1 : Int32), upd x.2.1 x.1.toNatClampNeg (ne (((10 : Int32) * y1) + x.1).toNatClampNeg), upd x.2.2 x.1.toNatClampNeg (ne (((10 : Int32) * y2) + x.1).toNatClampNeg))))))))
noncomputable def b_X6_product_133 (fi : (Nat → Int32)) (se : (Nat → Int32)) (y3 : Int32) (y4 : Int32) (y5 : Int32) (y6 : Int32) (x : Int32 × (Nat → Int32)) : Option ((Int32 × (Nat → Int32)) ⊕ ((Nat → Int32))) := if (y4 * y5) ≤ x.1 then (some (Sum.inr x.2)) else (nez y5 (nez y5 (if (y6 / y5) = (x.1 / y5) then (nez y5 (chk (y6 - y6 / y5 * y5) 10 (nez y5 (if (((se (y6 - y6 / y5 * y5).toNatClampNeg) >>> ((x.1 - x.1 / y5 * y5) &&& 31)) &&& (1 : Int32)) = (1 : Int32) then (nez y5 (nez y5 (if (y6 - y6 / y5 * y5) = (x.1 - x.1 / y5 * y5) then (nez y5 (chk (y6 / y5) 10 (nez y5 (if (((fi (y6 / y5).toNatClampNeg) >>> ((x.1 / y5) &&& 31)) &&& (1 : Int32)) = (1 : Int32) then (if (1 : Int32) = 0 then (if (1 : Int32) = 0 then (some (Sum.inl (x.1 + (1 : Int32), x.2))) else ((s_X6_put x.2 y3 y6 x.1).bind (fun x107 => some (Sum.inl (x.1 + (1 : Int32), x107))))) else ((s_X6_put x.2 y3 y6 x.1).bind (fun x104 => some (Sum.inl (x.1 + (1 : Int32), x104))))) else (if (1 : Int32) = 0 then (if (0 : Int32) = 0 then (some (Sum.inl (x.1 + (1 : Int32), x.2))) else ((s_X6_put x.2 y3 y6 x.1).bind (fun x101 => some (Sum.inl (x.1 + (1 : Int32), x101))))) else ((s_X6_put x.2 y3 y6 x.1).bind (fun x98 => some (Sum.inl (x.1 + (1 : Int32), x98))))))))) else (if (1 : Int32) = 0 then (if (0 : Int32) = 0 then (some (Sum.inl (x.1 + (1 : Int32), x.2))) else ((s_X6_put x.2 y3 y6 x.1).bind (fun x91 => some (Sum.inl (x.1 + (1 : Int32), x91))))) else ((s_X6_put x.2 y3 y6 x.1).bind (fun x88 => some (Sum.inl (x.1 + (1 : Int32), x88)))))))) else (nez y5 (nez y5 (if (y6 - y6 / y5 * y5) = (x.1 - x.1 / y5 * y5) then (nez y5 (chk (y6 / y5) 10 (nez y5 (if (((fi (y6 / y5).toNatClampNeg) >>> ((x.1 / y5) &&& 31)) &&& (1 : Int32)) = (1 : Int32) then (if (0 : Int32) = 0 then (if (1 : Int32) = 0 then (some (Sum.inl (x.1 + (1 : Int32), x.2))) else ((s_X6_put x.2 y3 y6 x.1).bind (fun x82 => some (Sum.inl (x.1 + (1 : Int32), x82))))) else ((s_X6_put x.2 y3 y6 x.1).bind (fun x79 => some (Sum.inl (x.1 + (1 : Int32), x79))))) else (if (0 : Int32) = 0 then (if (0 : Int32) = 0 then (some (Sum.inl (x.1 + (1 : Int32), x.2))) else ((s_X6_put x.2 y3 y6 x.1).bind (fun x76 => some (Sum.inl (x.1 + (1 : Int32), x76))))) else ((s_X6_put x.2 y3 y6 x.1).bind (fun x73 => some (Sum.inl (x.1 + (1 : Int32), x73))))))))) else (if (0 : Int32) = 0 then (if (0 : Int32) = 0 then (some (Sum.inl (x.1 + (1 : Int32), x.2))) else ((s_X6_put x.2 y3 y6 x.1).bind (fun x66 => some (Sum.inl (x.1 + (1 : Int32), x66))))) else ((s_X6_put x.2 y3 y6 x.1).bind (fun x63 => some (Sum.inl (x.1 + (1 : Int32), x63)))))))))))) else (nez y5 (nez y5 (if (y6 - y6 / y5 * y5) = (x.1 - x.1 / y5 * y5) then (nez y5 (chk (y6 / y5) 10 (nez y5 (if (((fi (y6 / y5).toNatClampNeg) >>> ((x.1 / y5) &&& 31)) &&& (1 : Int32)) = (1 : Int32) then (if (0 : Int32) = 0 then (if (1 : Int32) = 0 then (some (Sum.inl (x.1 + (1 : Int32), x.2))) else ((s_X6_put x.2 y3 y6 x.1).bind (fun x53 => some (Sum.inl (x.1 + (1 : Int32), x53))))) else ((s_X6_put x.2 y3 y6 x.1).bind (fun x50 => some (Sum.inl (x.1 + (1 : Int32), x50))))) else (if (0 : Int32) = 0 then (if (0 : Int32) = 0 then (some (Sum.inl (x.1 + (1 : Int32), x.2))) else ((s_X6_put x.2 y3 y6 x.1).bind (fun x47 => some (Sum.inl (x.1 + (1 : Int32), x47))))) else ((s_X6_put x.2 y3 y6 x.1).bind (fun x44 => some (Sum.inl (x.1 + (1 : Int32), x44))))))))) else (if (0 : Int32) = 0 then (if (0 : Int32) = 0 then (some (Sum.inl (x.1 + (1 : Int32), x.2))) else ((s_X6_put x.2 y3 y6 x.1).bind (fun x37 => some (Sum.inl (x.1 + (1 : Int32), x37))))) else ((s_X6_put x.2 y3 y6 x.1).bind (fun x34 => some (Sum.inl (x.1 + (1 : Int32), x34)))))))))))
noncomputable def b_X6_product_120 (fi : (Nat → Int32)) (se : (Nat → Int32)) (y3 : Int32) (y4 : Int32) (y5 : Int32) (x : Int32 × (Nat → Int32)) : Option ((Int32 × (Nat → Int32)) ⊕ ((Nat → Int32))) := if (y4 * y5) ≤ x.1 then (some (Sum.inr x.2)) else ((loop (b_X6_product_133 fi se y3 y4 y5 x.1) ((0 : Int32), x.2)).bind (fun e109 => some (Sum.inl (x.1 + (1 : Int32), e109))))
noncomputable def s_X6_product (kn : (Nat → Int32)) (ne : (Nat → Int32)) (fi : (Nat → Int32)) (se : (Nat → Int32)) (a1 : Int32) (a2 : Int32) (a3 : Int32) : Option (Int32 × (Nat → Int32) × (Nat → Int32) × (Nat → Int32) × (Nat → Int32)) := (s_X6_isNet a1).bind (fun x1 => if x1 = 0 then (some ((-2 : Int32), kn, ne, fi, se)) else ((s_X6_isNet a2).bind (fun x4 => if x4 = 0 then (some ((-2 : Int32), kn, ne, fi, se)) else ((s_X6_isNet a3).bind (fun x7 => if x7 = 0 then (some ((-2 : Int32), kn, ne, fi, se)) else (chk a1 4 (chk a2 4 (if ((kn a1.toNatClampNeg) * (kn a2.toNatClampNeg)) ≤ (10 : Int32) then ((loop (b_X6_product_56 ne a1 a2) ((0 : Int32), fi, se)).bind (fun e18 => (s_X6_begin kn ne a3 ((kn a1.toNatClampNeg) * (kn a2.toNatClampNeg))).bind (fun x23 => (loop (b_X6_product_120 e18.1 e18.2 a3 (kn a1.toNatClampNeg) (kn a2.toNatClampNeg)) ((0 : Int32), x23.2)).bind (fun e112 => some ((kn a1.toNatClampNeg) * (kn a2.toNatClampNeg), x23.1, e112, e18.1, e18.2))))) else (some ((-3 : Int32), kn, ne, fi, se))))))))))
set_option maxRecDepth 20000 in
theorem g_X6_product_56 {d : Nat} {Q : Option AV → List AC → Prop} {y1 : Int32} {y2 : Int32} {y3 : Int32} {y4 : Int32} {y5 : Int32} (x0_ : Int32) (x1_ : (Nat → Int32)) (x2_ : (Nat → Int32)) (r : (Nat → Int32) × (Nat → Int32)) (hl : loop (b_X6_product_56 ne y1 y2) (x0_, x1_, x2_) = some r) (hk : ∀ (r0_ : (Nat → Int32)) (r1_ : (Nat → Int32)), r = (r0_, r1_) → Go mX6_product (d + 2) false 0 0 107 [some (vR 0), none, none, some (vI y3), some (vI y4), some (vI y5), none, none, none, none] [] (wM kn ne r0_ r1_ ma on ot ta po ti nu mo wa nx oT cF bg ed sF qu qd tr) Q) : Go mX6_product (d + 2) false 0 0 56 [some (vR 0), some (vI y1), some (vI y2), some (vI y3), some (vI y4), some (vI y5), some (vI x0_), none, none, none] [] (wM kn ne x1_ x2_ ma on ot ta po ti nu mo wa nx oT cF bg ed sF qu qd tr) Q := by
  refine loop_go (P := fun x : Int32 × (Nat → Int32) × (Nat → Int32) => ∀ (x0_ : Int32) (x1_ : (Nat → Int32)) (x2_ : (Nat → Int32)), x = (x0_, x1_, x2_) → Go mX6_product (d + 2) false 0 0 56 [some (vR 0), some (vI y1), some (vI y2), some (vI y3), some (vI y4), some (vI y5), some (vI x0_), none, none, none] [] (wM kn ne x1_ x2_ ma on ot ta po ti nu mo wa nx oT cF bg ed sF qu qd tr) Q) (K := fun r : (Nat → Int32) × (Nat → Int32) => ∀ (r0_ : (Nat → Int32)) (r1_ : (Nat → Int32)), r = (r0_, r1_) → Go mX6_product (d + 2) false 0 0 107 [some (vR 0), none, none, some (vI y3), some (vI y4), some (vI y5), none, none, none, none] [] (wM kn ne r0_ r1_ ma on ot ta po ti nu mo wa nx oT cF bg ed sF qu qd tr) Q) ?_ (x0_, x1_, x2_) r hl hk x0_ x1_ x2_ rfl
  · intro x y hs hI hE x0_ x1_ x2_ hx
    subst hx
    unfold b_X6_product_56 at hs
    try dsimp only at hs
    refine go_iload (pc := 56) dX6_product_56 rfl ?_
    refine go_bipush (pc := 58) (10 : Int32) dX6_product_58 (by decide) ?_
    refine go_icmp_ge (pc := 60) 107 dX6_product_60 (by decide) (fun h13 => ?_) (fun h13 => ?_)
    · have hs := it_t h13 hs
      obtain rfl := Option.some.inj hs
      refine go_sub (lv' := [some (vR 0), none, none, some (vI y3), some (vI y4), some (vI y5), none, none, none, none]) ⟨rfl, ⟨rfl, ⟨rfl, ⟨rfl, trivial⟩⟩⟩⟩ ?_
      exact (hE (x1_, x2_) rfl) x1_ x2_ rfl
    · have hs := it_f h13 hs
      refine go_aload_n (pc := 63) 0 dX6_product_63 rfl rfl ?_
      refine go_getfield (pc := 64) (v := vR 3) 0 6 2 dX6_product_64 flX6_16 rfl rfl ?_
      refine go_iload (pc := 67) dX6_product_67 rfl ?_
      refine go_aload_n (pc := 69) 0 dX6_product_69 rfl rfl ?_
      refine go_getfield (pc := 70) (v := vR 2) 0 6 1 dX6_product_70 flX6_13 rfl rfl ?_
      refine go_bipush (pc := 73) (10 : Int32) dX6_product_73 (by decide) ?_
      refine go_iload_n (pc := 75) 1 dX6_product_75 rfl rfl ?_
      refine go_imul (pc := 76) dX6_product_76 ?_
      refine go_iload (pc := 77) dX6_product_77 rfl ?_
      refine go_iadd (pc := 79) dX6_product_79 ?_
      obtain ⟨hi14, hs⟩ := chk_t hs
      refine go_iaload (pc := 80) 2 dX6_product_80 rfl hi14 ?_
      obtain ⟨hi15, hs⟩ := chk_t hs
      refine go_iastore (pc := 81) 3 dX6_product_81 rfl hi15 (show Go mX6_product (d + 2) false 0 0 82 [some (vR 0), some (vI y1), some (vI y2), some (vI y3), some (vI y4), some (vI y5), some (vI x0_), none, none, none] [] (wM kn ne (upd x1_ x0_.toNatClampNeg (ne (((10 : Int32) * y1) + x0_).toNatClampNeg)) x2_ ma on ot ta po ti nu mo wa nx oT cF bg ed sF qu qd tr) Q from ?_)
      refine go_aload_n (pc := 82) 0 dX6_product_82 rfl rfl ?_
      refine go_getfield (pc := 83) (v := vR 4) 0 6 3 dX6_product_83 flX6_19 rfl rfl ?_
      refine go_iload (pc := 86) dX6_product_86 rfl ?_
      refine go_aload_n (pc := 88) 0 dX6_product_88 rfl rfl ?_
      refine go_getfield (pc := 89) (v := vR 2) 0 6 1 dX6_product_89 flX6_13 rfl rfl ?_
      refine go_bipush (pc := 92) (10 : Int32) dX6_product_92 (by decide) ?_
      refine go_iload_n (pc := 94) 2 dX6_product_94 rfl rfl ?_
      refine go_imul (pc := 95) dX6_product_95 ?_
      refine go_iload (pc := 96) dX6_product_96 rfl ?_
      refine go_iadd (pc := 98) dX6_product_98 ?_
      obtain ⟨hi16, hs⟩ := chk_t hs
      refine go_iaload (pc := 99) 2 dX6_product_99 rfl hi16 ?_
      obtain ⟨hi17, hs⟩ := chk_t hs
      refine go_iastore (pc := 100) 4 dX6_product_100 rfl hi17 (show Go mX6_product (d + 2) false 0 0 101 [some (vR 0), some (vI y1), some (vI y2), some (vI y3), some (vI y4), some (vI y5), some (vI x0_), none, none, none] [] (wM kn ne (upd x1_ x0_.toNatClampNeg (ne (((10 : Int32) * y1) + x0_).toNatClampNeg)) (upd x2_ x0_.toNatClampNeg (ne (((10 : Int32) * y2) + x0_).toNatClampNeg)) ma on ot ta po ti nu mo wa nx oT cF bg ed sF qu qd tr) Q from ?_)
      refine go_iinc (pc := 101) (x0_ + (1 : Int32)) [some (vR 0), some (vI y1), some (vI y2), some (vI y3), some (vI y4), some (vI y5), some (vI (x0_ + (1 : Int32))), none, none, none] dX6_product_101 rfl (iinc_1 _) (by decide) rfl ?_
      refine go_goto (pc := 104) 56 dX6_product_104 (by decide) ?_
      obtain rfl := Option.some.inj hs
      exact hI (x0_ + (1 : Int32), upd x1_ x0_.toNatClampNeg (ne (((10 : Int32) * y1) + x0_).toNatClampNeg), upd x2_ x0_.toNatClampNeg (ne (((10 : Int32) * y2) + x0_).toNatClampNeg)) rfl (x0_ + (1 : Int32)) (upd x1_ x0_.toNatClampNeg (ne (((10 : Int32) * y1) + x0_).toNatClampNeg)) (upd x2_ x0_.toNatClampNeg (ne (((10 : Int32) * y2) + x0_).toNatClampNeg)) rfl
set_option maxRecDepth 20000 in
theorem g_X6_product_133 {d : Nat} {Q : Option AV → List AC → Prop} {y3 : Int32} {y4 : Int32} {y5 : Int32} {y6 : Int32} (x0_ : Int32) (x1_ : (Nat → Int32)) (r : (Nat → Int32)) (hl : loop (b_X6_product_133 fi se y3 y4 y5 y6) (x0_, x1_) = some r) (hk : Go mX6_product (d + 2) false 0 0 252 [some (vR 0), none, none, some (vI y3), some (vI y4), some (vI y5), some (vI y6), none, none, none] [] (wM kn r fi se ma on ot ta po ti nu mo wa nx oT cF bg ed sF qu qd tr) Q) : Go mX6_product (d + 2) false 0 0 133 [some (vR 0), none, none, some (vI y3), some (vI y4), some (vI y5), some (vI y6), some (vI x0_), none, none] [] (wM kn x1_ fi se ma on ot ta po ti nu mo wa nx oT cF bg ed sF qu qd tr) Q := by
  refine loop_go (P := fun x : Int32 × (Nat → Int32) => ∀ (x0_ : Int32) (x1_ : (Nat → Int32)), x = (x0_, x1_) → Go mX6_product (d + 2) false 0 0 133 [some (vR 0), none, none, some (vI y3), some (vI y4), some (vI y5), some (vI y6), some (vI x0_), none, none] [] (wM kn x1_ fi se ma on ot ta po ti nu mo wa nx oT cF bg ed sF qu qd tr) Q) (K := fun r : (Nat → Int32) => Go mX6_product (d + 2) false 0 0 252 [some (vR 0), none, none, some (vI y3), some (vI y4), some (vI y5), some (vI y6), none, none, none] [] (wM kn r fi se ma on ot ta po ti nu mo wa nx oT cF bg ed sF qu qd tr) Q) ?_ (x0_, x1_) r hl hk x0_ x1_ rfl
  · intro x y hs hI hE x0_ x1_ hx
    subst hx
    unfold b_X6_product_133 at hs
    try dsimp only at hs
    refine go_iload (pc := 133) dX6_product_133 rfl ?_
    refine go_iload (pc := 135) dX6_product_135 rfl ?_
    refine go_iload (pc := 137) dX6_product_137 rfl ?_
    refine go_imul (pc := 139) dX6_product_139 ?_
    refine go_icmp_ge (pc := 140) 252 dX6_product_140 (by decide) (fun h26 => ?_) (fun h26 => ?_)
    · have hs := it_t h26 hs
      obtain rfl := Option.some.inj hs
      refine go_sub (lv' := [some (vR 0), none, none, some (vI y3), some (vI y4), some (vI y5), some (vI y6), none, none, none]) ⟨rfl, ⟨rfl, ⟨rfl, ⟨rfl, ⟨rfl, trivial⟩⟩⟩⟩⟩ ?_
      exact hE x1_ rfl
    · have hs := it_f h26 hs
      refine go_iload (pc := 143) dX6_product_143 rfl ?_
      refine go_iload (pc := 145) dX6_product_145 rfl ?_
      obtain ⟨hn27, hs⟩ := nez_t hs
      refine go_idiv (pc := 147) dX6_product_147 hn27 ?_
      refine go_iload (pc := 148) dX6_product_148 rfl ?_
      refine go_iload (pc := 150) dX6_product_150 rfl ?_
      obtain ⟨hn28, hs⟩ := nez_t hs
      refine go_idiv (pc := 152) dX6_product_152 hn28 ?_
      refine go_icmp_ne (pc := 153) 182 dX6_product_153 (by decide) (fun h29 => ?_) (fun h29 => ?_)
      · have hs := it_f h29 hs
        refine go_iconst (pc := 182) (0 : Int32) dX6_product_182 (by decide) ?_
        refine go_istore (pc := 183) [some (vR 0), none, none, some (vI y3), some (vI y4), some (vI y5), some (vI y6), some (vI x0_), some (vI (0 : Int32)), none] dX6_product_183 (by decide) rfl ?_
        refine go_iload (pc := 185) dX6_product_185 rfl ?_
        refine go_iload (pc := 187) dX6_product_187 rfl ?_
        obtain ⟨hn30, hs⟩ := nez_t hs
        refine go_irem (pc := 189) dX6_product_189 hn30 ?_
        refine go_iload (pc := 190) dX6_product_190 rfl ?_
        refine go_iload (pc := 192) dX6_product_192 rfl ?_
        obtain ⟨hn31, hs⟩ := nez_t hs
        refine go_irem (pc := 194) dX6_product_194 hn31 ?_
        refine go_icmp_ne (pc := 195) 224 dX6_product_195 (by decide) (fun h32 => ?_) (fun h32 => ?_)
        · have hs := it_f h32 hs
          refine go_iconst (pc := 224) (0 : Int32) dX6_product_224 (by decide) ?_
          refine go_istore (pc := 225) [some (vR 0), none, none, some (vI y3), some (vI y4), some (vI y5), some (vI y6), some (vI x0_), some (vI (0 : Int32)), some (vI (0 : Int32))] dX6_product_225 (by decide) rfl ?_
          refine go_iload (pc := 227) dX6_product_227 rfl ?_
          refine go_if_ne (pc := 229) 237 dX6_product_229 (by decide) (fun h33 => ?_) (fun h33 => ?_)
          · have hs := it_f h33 hs
            refine go_aload_n (pc := 237) 0 dX6_product_237 rfl rfl ?_
            refine go_iload_n (pc := 238) 3 dX6_product_238 rfl rfl ?_
            refine go_iload (pc := 239) dX6_product_239 rfl ?_
            refine go_iload (pc := 241) dX6_product_241 rfl ?_
            obtain ⟨x34, hc35, hs⟩ := bnd hs
            refine go_callV (bc := 0) (bs := 0) (mc := 0) (ms := 0) (d := d + 1) (pc := 243) (a := 0) (ci := 6) [vI y3, vI y6, vI x0_] [] dX6_product_243 kX6_put mlX6_88 ivX6_put rfl rfl rfl rfl (Nat.le_of_ble_eq_true rfl) rfl (c_X6_put (d := d + 1) (res0 := x34) hc35) (fun r w' hq => ?_)
            obtain ⟨rfl, rfl⟩ := hq
            show Go mX6_product (d + 2) false 0 0 246 [some (vR 0), none, none, some (vI y3), some (vI y4), some (vI y5), some (vI y6), some (vI x0_), some (vI (0 : Int32)), some (vI (0 : Int32))] [] (wM kn x34 fi se ma on ot ta po ti nu mo wa nx oT cF bg ed sF qu qd tr) Q
            refine go_iinc (pc := 246) (x0_ + (1 : Int32)) [some (vR 0), none, none, some (vI y3), some (vI y4), some (vI y5), some (vI y6), some (vI (x0_ + (1 : Int32))), some (vI (0 : Int32)), some (vI (0 : Int32))] dX6_product_246 rfl (iinc_1 _) (by decide) rfl ?_
            refine go_goto (pc := 249) 133 dX6_product_249 (by decide) ?_
            obtain rfl := Option.some.inj hs
            refine go_sub (lv' := [some (vR 0), none, none, some (vI y3), some (vI y4), some (vI y5), some (vI y6), some (vI (x0_ + (1 : Int32))), none, none]) ⟨rfl, ⟨rfl, ⟨rfl, ⟨rfl, ⟨rfl, ⟨rfl, trivial⟩⟩⟩⟩⟩⟩ ?_
            exact hI (x0_ + (1 : Int32), x34) rfl (x0_ + (1 : Int32)) x34 rfl
          · have hs := it_t h33 hs
            refine go_iload (pc := 232) dX6_product_232 rfl ?_
            refine go_if_eq (pc := 234) 246 dX6_product_234 (by decide) (fun h36 => ?_) (fun h36 => ?_)
            · have hs := it_t h36 hs
              refine go_iinc (pc := 246) (x0_ + (1 : Int32)) [some (vR 0), none, none, some (vI y3), some (vI y4), some (vI y5), some (vI y6), some (vI (x0_ + (1 : Int32))), some (vI (0 : Int32)), some (vI (0 : Int32))] dX6_product_246 rfl (iinc_1 _) (by decide) rfl ?_
              refine go_goto (pc := 249) 133 dX6_product_249 (by decide) ?_
              obtain rfl := Option.some.inj hs
              refine go_sub (lv' := [some (vR 0), none, none, some (vI y3), some (vI y4), some (vI y5), some (vI y6), some (vI (x0_ + (1 : Int32))), none, none]) ⟨rfl, ⟨rfl, ⟨rfl, ⟨rfl, ⟨rfl, ⟨rfl, trivial⟩⟩⟩⟩⟩⟩ ?_
              exact hI (x0_ + (1 : Int32), x1_) rfl (x0_ + (1 : Int32)) x1_ rfl
            · have hs := it_f h36 hs
              refine go_aload_n (pc := 237) 0 dX6_product_237 rfl rfl ?_
              refine go_iload_n (pc := 238) 3 dX6_product_238 rfl rfl ?_
              refine go_iload (pc := 239) dX6_product_239 rfl ?_
              refine go_iload (pc := 241) dX6_product_241 rfl ?_
              obtain ⟨x37, hc38, hs⟩ := bnd hs
              refine go_callV (bc := 0) (bs := 0) (mc := 0) (ms := 0) (d := d + 1) (pc := 243) (a := 0) (ci := 6) [vI y3, vI y6, vI x0_] [] dX6_product_243 kX6_put mlX6_88 ivX6_put rfl rfl rfl rfl (Nat.le_of_ble_eq_true rfl) rfl (c_X6_put (d := d + 1) (res0 := x37) hc38) (fun r w' hq => ?_)
              obtain ⟨rfl, rfl⟩ := hq
              show Go mX6_product (d + 2) false 0 0 246 [some (vR 0), none, none, some (vI y3), some (vI y4), some (vI y5), some (vI y6), some (vI x0_), some (vI (0 : Int32)), some (vI (0 : Int32))] [] (wM kn x37 fi se ma on ot ta po ti nu mo wa nx oT cF bg ed sF qu qd tr) Q
              refine go_iinc (pc := 246) (x0_ + (1 : Int32)) [some (vR 0), none, none, some (vI y3), some (vI y4), some (vI y5), some (vI y6), some (vI (x0_ + (1 : Int32))), some (vI (0 : Int32)), some (vI (0 : Int32))] dX6_product_246 rfl (iinc_1 _) (by decide) rfl ?_
              refine go_goto (pc := 249) 133 dX6_product_249 (by decide) ?_
              obtain rfl := Option.some.inj hs
              refine go_sub (lv' := [some (vR 0), none, none, some (vI y3), some (vI y4), some (vI y5), some (vI y6), some (vI (x0_ + (1 : Int32))), none, none]) ⟨rfl, ⟨rfl, ⟨rfl, ⟨rfl, ⟨rfl, ⟨rfl, trivial⟩⟩⟩⟩⟩⟩ ?_
              exact hI (x0_ + (1 : Int32), x37) rfl (x0_ + (1 : Int32)) x37 rfl
        · have hs := it_t h32 hs
          refine go_aload_n (pc := 198) 0 dX6_product_198 rfl rfl ?_
          refine go_getfield (pc := 199) (v := vR 3) 0 6 2 dX6_product_199 flX6_16 rfl rfl ?_
          refine go_iload (pc := 202) dX6_product_202 rfl ?_
          refine go_iload (pc := 204) dX6_product_204 rfl ?_
          obtain ⟨hn39, hs⟩ := nez_t hs
          refine go_idiv (pc := 206) dX6_product_206 hn39 ?_
          obtain ⟨hi40, hs⟩ := chk_t hs
          refine go_iaload (pc := 207) 3 dX6_product_207 rfl hi40 ?_
          refine go_iload (pc := 208) dX6_product_208 rfl ?_
          refine go_iload (pc := 210) dX6_product_210 rfl ?_
          obtain ⟨hn41, hs⟩ := nez_t hs
          refine go_idiv (pc := 212) dX6_product_212 hn41 ?_
          refine go_ishr (pc := 213) dX6_product_213 ?_
          refine go_iconst (pc := 214) (1 : Int32) dX6_product_214 (by decide) ?_
          refine go_iand (pc := 215) dX6_product_215 ?_
          refine go_iconst (pc := 216) (1 : Int32) dX6_product_216 (by decide) ?_
          refine go_icmp_ne (pc := 217) 224 dX6_product_217 (by decide) (fun h42 => ?_) (fun h42 => ?_)
          · have hs := it_f h42 hs
            refine go_iconst (pc := 224) (0 : Int32) dX6_product_224 (by decide) ?_
            refine go_istore (pc := 225) [some (vR 0), none, none, some (vI y3), some (vI y4), some (vI y5), some (vI y6), some (vI x0_), some (vI (0 : Int32)), some (vI (0 : Int32))] dX6_product_225 (by decide) rfl ?_
            refine go_iload (pc := 227) dX6_product_227 rfl ?_
            refine go_if_ne (pc := 229) 237 dX6_product_229 (by decide) (fun h43 => ?_) (fun h43 => ?_)
            · have hs := it_f h43 hs
              refine go_aload_n (pc := 237) 0 dX6_product_237 rfl rfl ?_
              refine go_iload_n (pc := 238) 3 dX6_product_238 rfl rfl ?_
              refine go_iload (pc := 239) dX6_product_239 rfl ?_
              refine go_iload (pc := 241) dX6_product_241 rfl ?_
              obtain ⟨x44, hc45, hs⟩ := bnd hs
              refine go_callV (bc := 0) (bs := 0) (mc := 0) (ms := 0) (d := d + 1) (pc := 243) (a := 0) (ci := 6) [vI y3, vI y6, vI x0_] [] dX6_product_243 kX6_put mlX6_88 ivX6_put rfl rfl rfl rfl (Nat.le_of_ble_eq_true rfl) rfl (c_X6_put (d := d + 1) (res0 := x44) hc45) (fun r w' hq => ?_)
              obtain ⟨rfl, rfl⟩ := hq
              show Go mX6_product (d + 2) false 0 0 246 [some (vR 0), none, none, some (vI y3), some (vI y4), some (vI y5), some (vI y6), some (vI x0_), some (vI (0 : Int32)), some (vI (0 : Int32))] [] (wM kn x44 fi se ma on ot ta po ti nu mo wa nx oT cF bg ed sF qu qd tr) Q
              refine go_iinc (pc := 246) (x0_ + (1 : Int32)) [some (vR 0), none, none, some (vI y3), some (vI y4), some (vI y5), some (vI y6), some (vI (x0_ + (1 : Int32))), some (vI (0 : Int32)), some (vI (0 : Int32))] dX6_product_246 rfl (iinc_1 _) (by decide) rfl ?_
              refine go_goto (pc := 249) 133 dX6_product_249 (by decide) ?_
              obtain rfl := Option.some.inj hs
              refine go_sub (lv' := [some (vR 0), none, none, some (vI y3), some (vI y4), some (vI y5), some (vI y6), some (vI (x0_ + (1 : Int32))), none, none]) ⟨rfl, ⟨rfl, ⟨rfl, ⟨rfl, ⟨rfl, ⟨rfl, trivial⟩⟩⟩⟩⟩⟩ ?_
              exact hI (x0_ + (1 : Int32), x44) rfl (x0_ + (1 : Int32)) x44 rfl
            · have hs := it_t h43 hs
              refine go_iload (pc := 232) dX6_product_232 rfl ?_
              refine go_if_eq (pc := 234) 246 dX6_product_234 (by decide) (fun h46 => ?_) (fun h46 => ?_)
              · have hs := it_t h46 hs
                refine go_iinc (pc := 246) (x0_ + (1 : Int32)) [some (vR 0), none, none, some (vI y3), some (vI y4), some (vI y5), some (vI y6), some (vI (x0_ + (1 : Int32))), some (vI (0 : Int32)), some (vI (0 : Int32))] dX6_product_246 rfl (iinc_1 _) (by decide) rfl ?_
                refine go_goto (pc := 249) 133 dX6_product_249 (by decide) ?_
                obtain rfl := Option.some.inj hs
                refine go_sub (lv' := [some (vR 0), none, none, some (vI y3), some (vI y4), some (vI y5), some (vI y6), some (vI (x0_ + (1 : Int32))), none, none]) ⟨rfl, ⟨rfl, ⟨rfl, ⟨rfl, ⟨rfl, ⟨rfl, trivial⟩⟩⟩⟩⟩⟩ ?_
                exact hI (x0_ + (1 : Int32), x1_) rfl (x0_ + (1 : Int32)) x1_ rfl
              · have hs := it_f h46 hs
                refine go_aload_n (pc := 237) 0 dX6_product_237 rfl rfl ?_
                refine go_iload_n (pc := 238) 3 dX6_product_238 rfl rfl ?_
                refine go_iload (pc := 239) dX6_product_239 rfl ?_
                refine go_iload (pc := 241) dX6_product_241 rfl ?_
                obtain ⟨x47, hc48, hs⟩ := bnd hs
                refine go_callV (bc := 0) (bs := 0) (mc := 0) (ms := 0) (d := d + 1) (pc := 243) (a := 0) (ci := 6) [vI y3, vI y6, vI x0_] [] dX6_product_243 kX6_put mlX6_88 ivX6_put rfl rfl rfl rfl (Nat.le_of_ble_eq_true rfl) rfl (c_X6_put (d := d + 1) (res0 := x47) hc48) (fun r w' hq => ?_)
                obtain ⟨rfl, rfl⟩ := hq
                show Go mX6_product (d + 2) false 0 0 246 [some (vR 0), none, none, some (vI y3), some (vI y4), some (vI y5), some (vI y6), some (vI x0_), some (vI (0 : Int32)), some (vI (0 : Int32))] [] (wM kn x47 fi se ma on ot ta po ti nu mo wa nx oT cF bg ed sF qu qd tr) Q
                refine go_iinc (pc := 246) (x0_ + (1 : Int32)) [some (vR 0), none, none, some (vI y3), some (vI y4), some (vI y5), some (vI y6), some (vI (x0_ + (1 : Int32))), some (vI (0 : Int32)), some (vI (0 : Int32))] dX6_product_246 rfl (iinc_1 _) (by decide) rfl ?_
                refine go_goto (pc := 249) 133 dX6_product_249 (by decide) ?_
                obtain rfl := Option.some.inj hs
                refine go_sub (lv' := [some (vR 0), none, none, some (vI y3), some (vI y4), some (vI y5), some (vI y6), some (vI (x0_ + (1 : Int32))), none, none]) ⟨rfl, ⟨rfl, ⟨rfl, ⟨rfl, ⟨rfl, ⟨rfl, trivial⟩⟩⟩⟩⟩⟩ ?_
                exact hI (x0_ + (1 : Int32), x47) rfl (x0_ + (1 : Int32)) x47 rfl
          · have hs := it_t h42 hs
            refine go_iconst (pc := 220) (1 : Int32) dX6_product_220 (by decide) ?_
            refine go_goto (pc := 221) 225 dX6_product_221 (by decide) ?_
            refine go_istore (pc := 225) [some (vR 0), none, none, some (vI y3), some (vI y4), some (vI y5), some (vI y6), some (vI x0_), some (vI (0 : Int32)), some (vI (1 : Int32))] dX6_product_225 (by decide) rfl ?_
            refine go_iload (pc := 227) dX6_product_227 rfl ?_
            refine go_if_ne (pc := 229) 237 dX6_product_229 (by decide) (fun h49 => ?_) (fun h49 => ?_)
            · have hs := it_f h49 hs
              refine go_aload_n (pc := 237) 0 dX6_product_237 rfl rfl ?_
              refine go_iload_n (pc := 238) 3 dX6_product_238 rfl rfl ?_
              refine go_iload (pc := 239) dX6_product_239 rfl ?_
              refine go_iload (pc := 241) dX6_product_241 rfl ?_
              obtain ⟨x50, hc51, hs⟩ := bnd hs
              refine go_callV (bc := 0) (bs := 0) (mc := 0) (ms := 0) (d := d + 1) (pc := 243) (a := 0) (ci := 6) [vI y3, vI y6, vI x0_] [] dX6_product_243 kX6_put mlX6_88 ivX6_put rfl rfl rfl rfl (Nat.le_of_ble_eq_true rfl) rfl (c_X6_put (d := d + 1) (res0 := x50) hc51) (fun r w' hq => ?_)
              obtain ⟨rfl, rfl⟩ := hq
              show Go mX6_product (d + 2) false 0 0 246 [some (vR 0), none, none, some (vI y3), some (vI y4), some (vI y5), some (vI y6), some (vI x0_), some (vI (0 : Int32)), some (vI (1 : Int32))] [] (wM kn x50 fi se ma on ot ta po ti nu mo wa nx oT cF bg ed sF qu qd tr) Q
              refine go_iinc (pc := 246) (x0_ + (1 : Int32)) [some (vR 0), none, none, some (vI y3), some (vI y4), some (vI y5), some (vI y6), some (vI (x0_ + (1 : Int32))), some (vI (0 : Int32)), some (vI (1 : Int32))] dX6_product_246 rfl (iinc_1 _) (by decide) rfl ?_
              refine go_goto (pc := 249) 133 dX6_product_249 (by decide) ?_
              obtain rfl := Option.some.inj hs
              refine go_sub (lv' := [some (vR 0), none, none, some (vI y3), some (vI y4), some (vI y5), some (vI y6), some (vI (x0_ + (1 : Int32))), none, none]) ⟨rfl, ⟨rfl, ⟨rfl, ⟨rfl, ⟨rfl, ⟨rfl, trivial⟩⟩⟩⟩⟩⟩ ?_
              exact hI (x0_ + (1 : Int32), x50) rfl (x0_ + (1 : Int32)) x50 rfl
            · have hs := it_t h49 hs
              refine go_iload (pc := 232) dX6_product_232 rfl ?_
              refine go_if_eq (pc := 234) 246 dX6_product_234 (by decide) (fun h52 => ?_) (fun h52 => ?_)
              · have hs := it_t h52 hs
                refine go_iinc (pc := 246) (x0_ + (1 : Int32)) [some (vR 0), none, none, some (vI y3), some (vI y4), some (vI y5), some (vI y6), some (vI (x0_ + (1 : Int32))), some (vI (0 : Int32)), some (vI (1 : Int32))] dX6_product_246 rfl (iinc_1 _) (by decide) rfl ?_
                refine go_goto (pc := 249) 133 dX6_product_249 (by decide) ?_
                obtain rfl := Option.some.inj hs
                refine go_sub (lv' := [some (vR 0), none, none, some (vI y3), some (vI y4), some (vI y5), some (vI y6), some (vI (x0_ + (1 : Int32))), none, none]) ⟨rfl, ⟨rfl, ⟨rfl, ⟨rfl, ⟨rfl, ⟨rfl, trivial⟩⟩⟩⟩⟩⟩ ?_
                exact hI (x0_ + (1 : Int32), x1_) rfl (x0_ + (1 : Int32)) x1_ rfl
              · have hs := it_f h52 hs
                refine go_aload_n (pc := 237) 0 dX6_product_237 rfl rfl ?_
                refine go_iload_n (pc := 238) 3 dX6_product_238 rfl rfl ?_
                refine go_iload (pc := 239) dX6_product_239 rfl ?_
                refine go_iload (pc := 241) dX6_product_241 rfl ?_
                obtain ⟨x53, hc54, hs⟩ := bnd hs
                refine go_callV (bc := 0) (bs := 0) (mc := 0) (ms := 0) (d := d + 1) (pc := 243) (a := 0) (ci := 6) [vI y3, vI y6, vI x0_] [] dX6_product_243 kX6_put mlX6_88 ivX6_put rfl rfl rfl rfl (Nat.le_of_ble_eq_true rfl) rfl (c_X6_put (d := d + 1) (res0 := x53) hc54) (fun r w' hq => ?_)
                obtain ⟨rfl, rfl⟩ := hq
                show Go mX6_product (d + 2) false 0 0 246 [some (vR 0), none, none, some (vI y3), some (vI y4), some (vI y5), some (vI y6), some (vI x0_), some (vI (0 : Int32)), some (vI (1 : Int32))] [] (wM kn x53 fi se ma on ot ta po ti nu mo wa nx oT cF bg ed sF qu qd tr) Q
                refine go_iinc (pc := 246) (x0_ + (1 : Int32)) [some (vR 0), none, none, some (vI y3), some (vI y4), some (vI y5), some (vI y6), some (vI (x0_ + (1 : Int32))), some (vI (0 : Int32)), some (vI (1 : Int32))] dX6_product_246 rfl (iinc_1 _) (by decide) rfl ?_
                refine go_goto (pc := 249) 133 dX6_product_249 (by decide) ?_
                obtain rfl := Option.some.inj hs
                refine go_sub (lv' := [some (vR 0), none, none, some (vI y3), some (vI y4), some (vI y5), some (vI y6), some (vI (x0_ + (1 : Int32))), none, none]) ⟨rfl, ⟨rfl, ⟨rfl, ⟨rfl, ⟨rfl, ⟨rfl, trivial⟩⟩⟩⟩⟩⟩ ?_
                exact hI (x0_ + (1 : Int32), x53) rfl (x0_ + (1 : Int32)) x53 rfl
      · have hs := it_t h29 hs
        refine go_aload_n (pc := 156) 0 dX6_product_156 rfl rfl ?_
        refine go_getfield (pc := 157) (v := vR 4) 0 6 3 dX6_product_157 flX6_19 rfl rfl ?_
        refine go_iload (pc := 160) dX6_product_160 rfl ?_
        refine go_iload (pc := 162) dX6_product_162 rfl ?_
        obtain ⟨hn55, hs⟩ := nez_t hs
        refine go_irem (pc := 164) dX6_product_164 hn55 ?_
        obtain ⟨hi56, hs⟩ := chk_t hs
        refine go_iaload (pc := 165) 4 dX6_product_165 rfl hi56 ?_
        refine go_iload (pc := 166) dX6_product_166 rfl ?_
        refine go_iload (pc := 168) dX6_product_168 rfl ?_
        obtain ⟨hn57, hs⟩ := nez_t hs
        refine go_irem (pc := 170) dX6_product_170 hn57 ?_
        refine go_ishr (pc := 171) dX6_product_171 ?_
        refine go_iconst (pc := 172) (1 : Int32) dX6_product_172 (by decide) ?_
        refine go_iand (pc := 173) dX6_product_173 ?_
        refine go_iconst (pc := 174) (1 : Int32) dX6_product_174 (by decide) ?_
        refine go_icmp_ne (pc := 175) 182 dX6_product_175 (by decide) (fun h58 => ?_) (fun h58 => ?_)
        · have hs := it_f h58 hs
          refine go_iconst (pc := 182) (0 : Int32) dX6_product_182 (by decide) ?_
          refine go_istore (pc := 183) [some (vR 0), none, none, some (vI y3), some (vI y4), some (vI y5), some (vI y6), some (vI x0_), some (vI (0 : Int32)), none] dX6_product_183 (by decide) rfl ?_
          refine go_iload (pc := 185) dX6_product_185 rfl ?_
          refine go_iload (pc := 187) dX6_product_187 rfl ?_
          obtain ⟨hn59, hs⟩ := nez_t hs
          refine go_irem (pc := 189) dX6_product_189 hn59 ?_
          refine go_iload (pc := 190) dX6_product_190 rfl ?_
          refine go_iload (pc := 192) dX6_product_192 rfl ?_
          obtain ⟨hn60, hs⟩ := nez_t hs
          refine go_irem (pc := 194) dX6_product_194 hn60 ?_
          refine go_icmp_ne (pc := 195) 224 dX6_product_195 (by decide) (fun h61 => ?_) (fun h61 => ?_)
          · have hs := it_f h61 hs
            refine go_iconst (pc := 224) (0 : Int32) dX6_product_224 (by decide) ?_
            refine go_istore (pc := 225) [some (vR 0), none, none, some (vI y3), some (vI y4), some (vI y5), some (vI y6), some (vI x0_), some (vI (0 : Int32)), some (vI (0 : Int32))] dX6_product_225 (by decide) rfl ?_
            refine go_iload (pc := 227) dX6_product_227 rfl ?_
            refine go_if_ne (pc := 229) 237 dX6_product_229 (by decide) (fun h62 => ?_) (fun h62 => ?_)
            · have hs := it_f h62 hs
              refine go_aload_n (pc := 237) 0 dX6_product_237 rfl rfl ?_
              refine go_iload_n (pc := 238) 3 dX6_product_238 rfl rfl ?_
              refine go_iload (pc := 239) dX6_product_239 rfl ?_
              refine go_iload (pc := 241) dX6_product_241 rfl ?_
              obtain ⟨x63, hc64, hs⟩ := bnd hs
              refine go_callV (bc := 0) (bs := 0) (mc := 0) (ms := 0) (d := d + 1) (pc := 243) (a := 0) (ci := 6) [vI y3, vI y6, vI x0_] [] dX6_product_243 kX6_put mlX6_88 ivX6_put rfl rfl rfl rfl (Nat.le_of_ble_eq_true rfl) rfl (c_X6_put (d := d + 1) (res0 := x63) hc64) (fun r w' hq => ?_)
              obtain ⟨rfl, rfl⟩ := hq
              show Go mX6_product (d + 2) false 0 0 246 [some (vR 0), none, none, some (vI y3), some (vI y4), some (vI y5), some (vI y6), some (vI x0_), some (vI (0 : Int32)), some (vI (0 : Int32))] [] (wM kn x63 fi se ma on ot ta po ti nu mo wa nx oT cF bg ed sF qu qd tr) Q
              refine go_iinc (pc := 246) (x0_ + (1 : Int32)) [some (vR 0), none, none, some (vI y3), some (vI y4), some (vI y5), some (vI y6), some (vI (x0_ + (1 : Int32))), some (vI (0 : Int32)), some (vI (0 : Int32))] dX6_product_246 rfl (iinc_1 _) (by decide) rfl ?_
              refine go_goto (pc := 249) 133 dX6_product_249 (by decide) ?_
              obtain rfl := Option.some.inj hs
              refine go_sub (lv' := [some (vR 0), none, none, some (vI y3), some (vI y4), some (vI y5), some (vI y6), some (vI (x0_ + (1 : Int32))), none, none]) ⟨rfl, ⟨rfl, ⟨rfl, ⟨rfl, ⟨rfl, ⟨rfl, trivial⟩⟩⟩⟩⟩⟩ ?_
              exact hI (x0_ + (1 : Int32), x63) rfl (x0_ + (1 : Int32)) x63 rfl
            · have hs := it_t h62 hs
              refine go_iload (pc := 232) dX6_product_232 rfl ?_
              refine go_if_eq (pc := 234) 246 dX6_product_234 (by decide) (fun h65 => ?_) (fun h65 => ?_)
              · have hs := it_t h65 hs
                refine go_iinc (pc := 246) (x0_ + (1 : Int32)) [some (vR 0), none, none, some (vI y3), some (vI y4), some (vI y5), some (vI y6), some (vI (x0_ + (1 : Int32))), some (vI (0 : Int32)), some (vI (0 : Int32))] dX6_product_246 rfl (iinc_1 _) (by decide) rfl ?_
                refine go_goto (pc := 249) 133 dX6_product_249 (by decide) ?_
                obtain rfl := Option.some.inj hs
                refine go_sub (lv' := [some (vR 0), none, none, some (vI y3), some (vI y4), some (vI y5), some (vI y6), some (vI (x0_ + (1 : Int32))), none, none]) ⟨rfl, ⟨rfl, ⟨rfl, ⟨rfl, ⟨rfl, ⟨rfl, trivial⟩⟩⟩⟩⟩⟩ ?_
                exact hI (x0_ + (1 : Int32), x1_) rfl (x0_ + (1 : Int32)) x1_ rfl
              · have hs := it_f h65 hs
                refine go_aload_n (pc := 237) 0 dX6_product_237 rfl rfl ?_
                refine go_iload_n (pc := 238) 3 dX6_product_238 rfl rfl ?_
                refine go_iload (pc := 239) dX6_product_239 rfl ?_
                refine go_iload (pc := 241) dX6_product_241 rfl ?_
                obtain ⟨x66, hc67, hs⟩ := bnd hs
                refine go_callV (bc := 0) (bs := 0) (mc := 0) (ms := 0) (d := d + 1) (pc := 243) (a := 0) (ci := 6) [vI y3, vI y6, vI x0_] [] dX6_product_243 kX6_put mlX6_88 ivX6_put rfl rfl rfl rfl (Nat.le_of_ble_eq_true rfl) rfl (c_X6_put (d := d + 1) (res0 := x66) hc67) (fun r w' hq => ?_)
                obtain ⟨rfl, rfl⟩ := hq
                show Go mX6_product (d + 2) false 0 0 246 [some (vR 0), none, none, some (vI y3), some (vI y4), some (vI y5), some (vI y6), some (vI x0_), some (vI (0 : Int32)), some (vI (0 : Int32))] [] (wM kn x66 fi se ma on ot ta po ti nu mo wa nx oT cF bg ed sF qu qd tr) Q
                refine go_iinc (pc := 246) (x0_ + (1 : Int32)) [some (vR 0), none, none, some (vI y3), some (vI y4), some (vI y5), some (vI y6), some (vI (x0_ + (1 : Int32))), some (vI (0 : Int32)), some (vI (0 : Int32))] dX6_product_246 rfl (iinc_1 _) (by decide) rfl ?_
                refine go_goto (pc := 249) 133 dX6_product_249 (by decide) ?_
                obtain rfl := Option.some.inj hs
                refine go_sub (lv' := [some (vR 0), none, none, some (vI y3), some (vI y4), some (vI y5), some (vI y6), some (vI (x0_ + (1 : Int32))), none, none]) ⟨rfl, ⟨rfl, ⟨rfl, ⟨rfl, ⟨rfl, ⟨rfl, trivial⟩⟩⟩⟩⟩⟩ ?_
                exact hI (x0_ + (1 : Int32), x66) rfl (x0_ + (1 : Int32)) x66 rfl
          · have hs := it_t h61 hs
            refine go_aload_n (pc := 198) 0 dX6_product_198 rfl rfl ?_
            refine go_getfield (pc := 199) (v := vR 3) 0 6 2 dX6_product_199 flX6_16 rfl rfl ?_
            refine go_iload (pc := 202) dX6_product_202 rfl ?_
            refine go_iload (pc := 204) dX6_product_204 rfl ?_
            obtain ⟨hn68, hs⟩ := nez_t hs
            refine go_idiv (pc := 206) dX6_product_206 hn68 ?_
            obtain ⟨hi69, hs⟩ := chk_t hs
            refine go_iaload (pc := 207) 3 dX6_product_207 rfl hi69 ?_
            refine go_iload (pc := 208) dX6_product_208 rfl ?_
            refine go_iload (pc := 210) dX6_product_210 rfl ?_
            obtain ⟨hn70, hs⟩ := nez_t hs
            refine go_idiv (pc := 212) dX6_product_212 hn70 ?_
            refine go_ishr (pc := 213) dX6_product_213 ?_
            refine go_iconst (pc := 214) (1 : Int32) dX6_product_214 (by decide) ?_
            refine go_iand (pc := 215) dX6_product_215 ?_
            refine go_iconst (pc := 216) (1 : Int32) dX6_product_216 (by decide) ?_
            refine go_icmp_ne (pc := 217) 224 dX6_product_217 (by decide) (fun h71 => ?_) (fun h71 => ?_)
            · have hs := it_f h71 hs
              refine go_iconst (pc := 224) (0 : Int32) dX6_product_224 (by decide) ?_
              refine go_istore (pc := 225) [some (vR 0), none, none, some (vI y3), some (vI y4), some (vI y5), some (vI y6), some (vI x0_), some (vI (0 : Int32)), some (vI (0 : Int32))] dX6_product_225 (by decide) rfl ?_
              refine go_iload (pc := 227) dX6_product_227 rfl ?_
              refine go_if_ne (pc := 229) 237 dX6_product_229 (by decide) (fun h72 => ?_) (fun h72 => ?_)
              · have hs := it_f h72 hs
                refine go_aload_n (pc := 237) 0 dX6_product_237 rfl rfl ?_
                refine go_iload_n (pc := 238) 3 dX6_product_238 rfl rfl ?_
                refine go_iload (pc := 239) dX6_product_239 rfl ?_
                refine go_iload (pc := 241) dX6_product_241 rfl ?_
                obtain ⟨x73, hc74, hs⟩ := bnd hs
                refine go_callV (bc := 0) (bs := 0) (mc := 0) (ms := 0) (d := d + 1) (pc := 243) (a := 0) (ci := 6) [vI y3, vI y6, vI x0_] [] dX6_product_243 kX6_put mlX6_88 ivX6_put rfl rfl rfl rfl (Nat.le_of_ble_eq_true rfl) rfl (c_X6_put (d := d + 1) (res0 := x73) hc74) (fun r w' hq => ?_)
                obtain ⟨rfl, rfl⟩ := hq
                show Go mX6_product (d + 2) false 0 0 246 [some (vR 0), none, none, some (vI y3), some (vI y4), some (vI y5), some (vI y6), some (vI x0_), some (vI (0 : Int32)), some (vI (0 : Int32))] [] (wM kn x73 fi se ma on ot ta po ti nu mo wa nx oT cF bg ed sF qu qd tr) Q
                refine go_iinc (pc := 246) (x0_ + (1 : Int32)) [some (vR 0), none, none, some (vI y3), some (vI y4), some (vI y5), some (vI y6), some (vI (x0_ + (1 : Int32))), some (vI (0 : Int32)), some (vI (0 : Int32))] dX6_product_246 rfl (iinc_1 _) (by decide) rfl ?_
                refine go_goto (pc := 249) 133 dX6_product_249 (by decide) ?_
                obtain rfl := Option.some.inj hs
                refine go_sub (lv' := [some (vR 0), none, none, some (vI y3), some (vI y4), some (vI y5), some (vI y6), some (vI (x0_ + (1 : Int32))), none, none]) ⟨rfl, ⟨rfl, ⟨rfl, ⟨rfl, ⟨rfl, ⟨rfl, trivial⟩⟩⟩⟩⟩⟩ ?_
                exact hI (x0_ + (1 : Int32), x73) rfl (x0_ + (1 : Int32)) x73 rfl
              · have hs := it_t h72 hs
                refine go_iload (pc := 232) dX6_product_232 rfl ?_
                refine go_if_eq (pc := 234) 246 dX6_product_234 (by decide) (fun h75 => ?_) (fun h75 => ?_)
                · have hs := it_t h75 hs
                  refine go_iinc (pc := 246) (x0_ + (1 : Int32)) [some (vR 0), none, none, some (vI y3), some (vI y4), some (vI y5), some (vI y6), some (vI (x0_ + (1 : Int32))), some (vI (0 : Int32)), some (vI (0 : Int32))] dX6_product_246 rfl (iinc_1 _) (by decide) rfl ?_
                  refine go_goto (pc := 249) 133 dX6_product_249 (by decide) ?_
                  obtain rfl := Option.some.inj hs
                  refine go_sub (lv' := [some (vR 0), none, none, some (vI y3), some (vI y4), some (vI y5), some (vI y6), some (vI (x0_ + (1 : Int32))), none, none]) ⟨rfl, ⟨rfl, ⟨rfl, ⟨rfl, ⟨rfl, ⟨rfl, trivial⟩⟩⟩⟩⟩⟩ ?_
                  exact hI (x0_ + (1 : Int32), x1_) rfl (x0_ + (1 : Int32)) x1_ rfl
                · have hs := it_f h75 hs
                  refine go_aload_n (pc := 237) 0 dX6_product_237 rfl rfl ?_
                  refine go_iload_n (pc := 238) 3 dX6_product_238 rfl rfl ?_
                  refine go_iload (pc := 239) dX6_product_239 rfl ?_
                  refine go_iload (pc := 241) dX6_product_241 rfl ?_
                  obtain ⟨x76, hc77, hs⟩ := bnd hs
                  refine go_callV (bc := 0) (bs := 0) (mc := 0) (ms := 0) (d := d + 1) (pc := 243) (a := 0) (ci := 6) [vI y3, vI y6, vI x0_] [] dX6_product_243 kX6_put mlX6_88 ivX6_put rfl rfl rfl rfl (Nat.le_of_ble_eq_true rfl) rfl (c_X6_put (d := d + 1) (res0 := x76) hc77) (fun r w' hq => ?_)
                  obtain ⟨rfl, rfl⟩ := hq
                  show Go mX6_product (d + 2) false 0 0 246 [some (vR 0), none, none, some (vI y3), some (vI y4), some (vI y5), some (vI y6), some (vI x0_), some (vI (0 : Int32)), some (vI (0 : Int32))] [] (wM kn x76 fi se ma on ot ta po ti nu mo wa nx oT cF bg ed sF qu qd tr) Q
                  refine go_iinc (pc := 246) (x0_ + (1 : Int32)) [some (vR 0), none, none, some (vI y3), some (vI y4), some (vI y5), some (vI y6), some (vI (x0_ + (1 : Int32))), some (vI (0 : Int32)), some (vI (0 : Int32))] dX6_product_246 rfl (iinc_1 _) (by decide) rfl ?_
                  refine go_goto (pc := 249) 133 dX6_product_249 (by decide) ?_
                  obtain rfl := Option.some.inj hs
                  refine go_sub (lv' := [some (vR 0), none, none, some (vI y3), some (vI y4), some (vI y5), some (vI y6), some (vI (x0_ + (1 : Int32))), none, none]) ⟨rfl, ⟨rfl, ⟨rfl, ⟨rfl, ⟨rfl, ⟨rfl, trivial⟩⟩⟩⟩⟩⟩ ?_
                  exact hI (x0_ + (1 : Int32), x76) rfl (x0_ + (1 : Int32)) x76 rfl
            · have hs := it_t h71 hs
              refine go_iconst (pc := 220) (1 : Int32) dX6_product_220 (by decide) ?_
              refine go_goto (pc := 221) 225 dX6_product_221 (by decide) ?_
              refine go_istore (pc := 225) [some (vR 0), none, none, some (vI y3), some (vI y4), some (vI y5), some (vI y6), some (vI x0_), some (vI (0 : Int32)), some (vI (1 : Int32))] dX6_product_225 (by decide) rfl ?_
              refine go_iload (pc := 227) dX6_product_227 rfl ?_
              refine go_if_ne (pc := 229) 237 dX6_product_229 (by decide) (fun h78 => ?_) (fun h78 => ?_)
              · have hs := it_f h78 hs
                refine go_aload_n (pc := 237) 0 dX6_product_237 rfl rfl ?_
                refine go_iload_n (pc := 238) 3 dX6_product_238 rfl rfl ?_
                refine go_iload (pc := 239) dX6_product_239 rfl ?_
                refine go_iload (pc := 241) dX6_product_241 rfl ?_
                obtain ⟨x79, hc80, hs⟩ := bnd hs
                refine go_callV (bc := 0) (bs := 0) (mc := 0) (ms := 0) (d := d + 1) (pc := 243) (a := 0) (ci := 6) [vI y3, vI y6, vI x0_] [] dX6_product_243 kX6_put mlX6_88 ivX6_put rfl rfl rfl rfl (Nat.le_of_ble_eq_true rfl) rfl (c_X6_put (d := d + 1) (res0 := x79) hc80) (fun r w' hq => ?_)
                obtain ⟨rfl, rfl⟩ := hq
                show Go mX6_product (d + 2) false 0 0 246 [some (vR 0), none, none, some (vI y3), some (vI y4), some (vI y5), some (vI y6), some (vI x0_), some (vI (0 : Int32)), some (vI (1 : Int32))] [] (wM kn x79 fi se ma on ot ta po ti nu mo wa nx oT cF bg ed sF qu qd tr) Q
                refine go_iinc (pc := 246) (x0_ + (1 : Int32)) [some (vR 0), none, none, some (vI y3), some (vI y4), some (vI y5), some (vI y6), some (vI (x0_ + (1 : Int32))), some (vI (0 : Int32)), some (vI (1 : Int32))] dX6_product_246 rfl (iinc_1 _) (by decide) rfl ?_
                refine go_goto (pc := 249) 133 dX6_product_249 (by decide) ?_
                obtain rfl := Option.some.inj hs
                refine go_sub (lv' := [some (vR 0), none, none, some (vI y3), some (vI y4), some (vI y5), some (vI y6), some (vI (x0_ + (1 : Int32))), none, none]) ⟨rfl, ⟨rfl, ⟨rfl, ⟨rfl, ⟨rfl, ⟨rfl, trivial⟩⟩⟩⟩⟩⟩ ?_
                exact hI (x0_ + (1 : Int32), x79) rfl (x0_ + (1 : Int32)) x79 rfl
              · have hs := it_t h78 hs
                refine go_iload (pc := 232) dX6_product_232 rfl ?_
                refine go_if_eq (pc := 234) 246 dX6_product_234 (by decide) (fun h81 => ?_) (fun h81 => ?_)
                · have hs := it_t h81 hs
                  refine go_iinc (pc := 246) (x0_ + (1 : Int32)) [some (vR 0), none, none, some (vI y3), some (vI y4), some (vI y5), some (vI y6), some (vI (x0_ + (1 : Int32))), some (vI (0 : Int32)), some (vI (1 : Int32))] dX6_product_246 rfl (iinc_1 _) (by decide) rfl ?_
                  refine go_goto (pc := 249) 133 dX6_product_249 (by decide) ?_
                  obtain rfl := Option.some.inj hs
                  refine go_sub (lv' := [some (vR 0), none, none, some (vI y3), some (vI y4), some (vI y5), some (vI y6), some (vI (x0_ + (1 : Int32))), none, none]) ⟨rfl, ⟨rfl, ⟨rfl, ⟨rfl, ⟨rfl, ⟨rfl, trivial⟩⟩⟩⟩⟩⟩ ?_
                  exact hI (x0_ + (1 : Int32), x1_) rfl (x0_ + (1 : Int32)) x1_ rfl
                · have hs := it_f h81 hs
                  refine go_aload_n (pc := 237) 0 dX6_product_237 rfl rfl ?_
                  refine go_iload_n (pc := 238) 3 dX6_product_238 rfl rfl ?_
                  refine go_iload (pc := 239) dX6_product_239 rfl ?_
                  refine go_iload (pc := 241) dX6_product_241 rfl ?_
                  obtain ⟨x82, hc83, hs⟩ := bnd hs
                  refine go_callV (bc := 0) (bs := 0) (mc := 0) (ms := 0) (d := d + 1) (pc := 243) (a := 0) (ci := 6) [vI y3, vI y6, vI x0_] [] dX6_product_243 kX6_put mlX6_88 ivX6_put rfl rfl rfl rfl (Nat.le_of_ble_eq_true rfl) rfl (c_X6_put (d := d + 1) (res0 := x82) hc83) (fun r w' hq => ?_)
                  obtain ⟨rfl, rfl⟩ := hq
                  show Go mX6_product (d + 2) false 0 0 246 [some (vR 0), none, none, some (vI y3), some (vI y4), some (vI y5), some (vI y6), some (vI x0_), some (vI (0 : Int32)), some (vI (1 : Int32))] [] (wM kn x82 fi se ma on ot ta po ti nu mo wa nx oT cF bg ed sF qu qd tr) Q
                  refine go_iinc (pc := 246) (x0_ + (1 : Int32)) [some (vR 0), none, none, some (vI y3), some (vI y4), some (vI y5), some (vI y6), some (vI (x0_ + (1 : Int32))), some (vI (0 : Int32)), some (vI (1 : Int32))] dX6_product_246 rfl (iinc_1 _) (by decide) rfl ?_
                  refine go_goto (pc := 249) 133 dX6_product_249 (by decide) ?_
                  obtain rfl := Option.some.inj hs
                  refine go_sub (lv' := [some (vR 0), none, none, some (vI y3), some (vI y4), some (vI y5), some (vI y6), some (vI (x0_ + (1 : Int32))), none, none]) ⟨rfl, ⟨rfl, ⟨rfl, ⟨rfl, ⟨rfl, ⟨rfl, trivial⟩⟩⟩⟩⟩⟩ ?_
                  exact hI (x0_ + (1 : Int32), x82) rfl (x0_ + (1 : Int32)) x82 rfl
        · have hs := it_t h58 hs
          refine go_iconst (pc := 178) (1 : Int32) dX6_product_178 (by decide) ?_
          refine go_goto (pc := 179) 183 dX6_product_179 (by decide) ?_
          refine go_istore (pc := 183) [some (vR 0), none, none, some (vI y3), some (vI y4), some (vI y5), some (vI y6), some (vI x0_), some (vI (1 : Int32)), none] dX6_product_183 (by decide) rfl ?_
          refine go_iload (pc := 185) dX6_product_185 rfl ?_
          refine go_iload (pc := 187) dX6_product_187 rfl ?_
          obtain ⟨hn84, hs⟩ := nez_t hs
          refine go_irem (pc := 189) dX6_product_189 hn84 ?_
          refine go_iload (pc := 190) dX6_product_190 rfl ?_
          refine go_iload (pc := 192) dX6_product_192 rfl ?_
          obtain ⟨hn85, hs⟩ := nez_t hs
          refine go_irem (pc := 194) dX6_product_194 hn85 ?_
          refine go_icmp_ne (pc := 195) 224 dX6_product_195 (by decide) (fun h86 => ?_) (fun h86 => ?_)
          · have hs := it_f h86 hs
            refine go_iconst (pc := 224) (0 : Int32) dX6_product_224 (by decide) ?_
            refine go_istore (pc := 225) [some (vR 0), none, none, some (vI y3), some (vI y4), some (vI y5), some (vI y6), some (vI x0_), some (vI (1 : Int32)), some (vI (0 : Int32))] dX6_product_225 (by decide) rfl ?_
            refine go_iload (pc := 227) dX6_product_227 rfl ?_
            refine go_if_ne (pc := 229) 237 dX6_product_229 (by decide) (fun h87 => ?_) (fun h87 => ?_)
            · have hs := it_f h87 hs
              refine go_aload_n (pc := 237) 0 dX6_product_237 rfl rfl ?_
              refine go_iload_n (pc := 238) 3 dX6_product_238 rfl rfl ?_
              refine go_iload (pc := 239) dX6_product_239 rfl ?_
              refine go_iload (pc := 241) dX6_product_241 rfl ?_
              obtain ⟨x88, hc89, hs⟩ := bnd hs
              refine go_callV (bc := 0) (bs := 0) (mc := 0) (ms := 0) (d := d + 1) (pc := 243) (a := 0) (ci := 6) [vI y3, vI y6, vI x0_] [] dX6_product_243 kX6_put mlX6_88 ivX6_put rfl rfl rfl rfl (Nat.le_of_ble_eq_true rfl) rfl (c_X6_put (d := d + 1) (res0 := x88) hc89) (fun r w' hq => ?_)
              obtain ⟨rfl, rfl⟩ := hq
              show Go mX6_product (d + 2) false 0 0 246 [some (vR 0), none, none, some (vI y3), some (vI y4), some (vI y5), some (vI y6), some (vI x0_), some (vI (1 : Int32)), some (vI (0 : Int32))] [] (wM kn x88 fi se ma on ot ta po ti nu mo wa nx oT cF bg ed sF qu qd tr) Q
              refine go_iinc (pc := 246) (x0_ + (1 : Int32)) [some (vR 0), none, none, some (vI y3), some (vI y4), some (vI y5), some (vI y6), some (vI (x0_ + (1 : Int32))), some (vI (1 : Int32)), some (vI (0 : Int32))] dX6_product_246 rfl (iinc_1 _) (by decide) rfl ?_
              refine go_goto (pc := 249) 133 dX6_product_249 (by decide) ?_
              obtain rfl := Option.some.inj hs
              refine go_sub (lv' := [some (vR 0), none, none, some (vI y3), some (vI y4), some (vI y5), some (vI y6), some (vI (x0_ + (1 : Int32))), none, none]) ⟨rfl, ⟨rfl, ⟨rfl, ⟨rfl, ⟨rfl, ⟨rfl, trivial⟩⟩⟩⟩⟩⟩ ?_
              exact hI (x0_ + (1 : Int32), x88) rfl (x0_ + (1 : Int32)) x88 rfl
            · have hs := it_t h87 hs
              refine go_iload (pc := 232) dX6_product_232 rfl ?_
              refine go_if_eq (pc := 234) 246 dX6_product_234 (by decide) (fun h90 => ?_) (fun h90 => ?_)
              · have hs := it_t h90 hs
                refine go_iinc (pc := 246) (x0_ + (1 : Int32)) [some (vR 0), none, none, some (vI y3), some (vI y4), some (vI y5), some (vI y6), some (vI (x0_ + (1 : Int32))), some (vI (1 : Int32)), some (vI (0 : Int32))] dX6_product_246 rfl (iinc_1 _) (by decide) rfl ?_
                refine go_goto (pc := 249) 133 dX6_product_249 (by decide) ?_
                obtain rfl := Option.some.inj hs
                refine go_sub (lv' := [some (vR 0), none, none, some (vI y3), some (vI y4), some (vI y5), some (vI y6), some (vI (x0_ + (1 : Int32))), none, none]) ⟨rfl, ⟨rfl, ⟨rfl, ⟨rfl, ⟨rfl, ⟨rfl, trivial⟩⟩⟩⟩⟩⟩ ?_
                exact hI (x0_ + (1 : Int32), x1_) rfl (x0_ + (1 : Int32)) x1_ rfl
              · have hs := it_f h90 hs
                refine go_aload_n (pc := 237) 0 dX6_product_237 rfl rfl ?_
                refine go_iload_n (pc := 238) 3 dX6_product_238 rfl rfl ?_
                refine go_iload (pc := 239) dX6_product_239 rfl ?_
                refine go_iload (pc := 241) dX6_product_241 rfl ?_
                obtain ⟨x91, hc92, hs⟩ := bnd hs
                refine go_callV (bc := 0) (bs := 0) (mc := 0) (ms := 0) (d := d + 1) (pc := 243) (a := 0) (ci := 6) [vI y3, vI y6, vI x0_] [] dX6_product_243 kX6_put mlX6_88 ivX6_put rfl rfl rfl rfl (Nat.le_of_ble_eq_true rfl) rfl (c_X6_put (d := d + 1) (res0 := x91) hc92) (fun r w' hq => ?_)
                obtain ⟨rfl, rfl⟩ := hq
                show Go mX6_product (d + 2) false 0 0 246 [some (vR 0), none, none, some (vI y3), some (vI y4), some (vI y5), some (vI y6), some (vI x0_), some (vI (1 : Int32)), some (vI (0 : Int32))] [] (wM kn x91 fi se ma on ot ta po ti nu mo wa nx oT cF bg ed sF qu qd tr) Q
                refine go_iinc (pc := 246) (x0_ + (1 : Int32)) [some (vR 0), none, none, some (vI y3), some (vI y4), some (vI y5), some (vI y6), some (vI (x0_ + (1 : Int32))), some (vI (1 : Int32)), some (vI (0 : Int32))] dX6_product_246 rfl (iinc_1 _) (by decide) rfl ?_
                refine go_goto (pc := 249) 133 dX6_product_249 (by decide) ?_
                obtain rfl := Option.some.inj hs
                refine go_sub (lv' := [some (vR 0), none, none, some (vI y3), some (vI y4), some (vI y5), some (vI y6), some (vI (x0_ + (1 : Int32))), none, none]) ⟨rfl, ⟨rfl, ⟨rfl, ⟨rfl, ⟨rfl, ⟨rfl, trivial⟩⟩⟩⟩⟩⟩ ?_
                exact hI (x0_ + (1 : Int32), x91) rfl (x0_ + (1 : Int32)) x91 rfl
          · have hs := it_t h86 hs
            refine go_aload_n (pc := 198) 0 dX6_product_198 rfl rfl ?_
            refine go_getfield (pc := 199) (v := vR 3) 0 6 2 dX6_product_199 flX6_16 rfl rfl ?_
            refine go_iload (pc := 202) dX6_product_202 rfl ?_
            refine go_iload (pc := 204) dX6_product_204 rfl ?_
            obtain ⟨hn93, hs⟩ := nez_t hs
            refine go_idiv (pc := 206) dX6_product_206 hn93 ?_
            obtain ⟨hi94, hs⟩ := chk_t hs
            refine go_iaload (pc := 207) 3 dX6_product_207 rfl hi94 ?_
            refine go_iload (pc := 208) dX6_product_208 rfl ?_
            refine go_iload (pc := 210) dX6_product_210 rfl ?_
            obtain ⟨hn95, hs⟩ := nez_t hs
            refine go_idiv (pc := 212) dX6_product_212 hn95 ?_
            refine go_ishr (pc := 213) dX6_product_213 ?_
            refine go_iconst (pc := 214) (1 : Int32) dX6_product_214 (by decide) ?_
            refine go_iand (pc := 215) dX6_product_215 ?_
            refine go_iconst (pc := 216) (1 : Int32) dX6_product_216 (by decide) ?_
            refine go_icmp_ne (pc := 217) 224 dX6_product_217 (by decide) (fun h96 => ?_) (fun h96 => ?_)
            · have hs := it_f h96 hs
              refine go_iconst (pc := 224) (0 : Int32) dX6_product_224 (by decide) ?_
              refine go_istore (pc := 225) [some (vR 0), none, none, some (vI y3), some (vI y4), some (vI y5), some (vI y6), some (vI x0_), some (vI (1 : Int32)), some (vI (0 : Int32))] dX6_product_225 (by decide) rfl ?_
              refine go_iload (pc := 227) dX6_product_227 rfl ?_
              refine go_if_ne (pc := 229) 237 dX6_product_229 (by decide) (fun h97 => ?_) (fun h97 => ?_)
              · have hs := it_f h97 hs
                refine go_aload_n (pc := 237) 0 dX6_product_237 rfl rfl ?_
                refine go_iload_n (pc := 238) 3 dX6_product_238 rfl rfl ?_
                refine go_iload (pc := 239) dX6_product_239 rfl ?_
                refine go_iload (pc := 241) dX6_product_241 rfl ?_
                obtain ⟨x98, hc99, hs⟩ := bnd hs
                refine go_callV (bc := 0) (bs := 0) (mc := 0) (ms := 0) (d := d + 1) (pc := 243) (a := 0) (ci := 6) [vI y3, vI y6, vI x0_] [] dX6_product_243 kX6_put mlX6_88 ivX6_put rfl rfl rfl rfl (Nat.le_of_ble_eq_true rfl) rfl (c_X6_put (d := d + 1) (res0 := x98) hc99) (fun r w' hq => ?_)
                obtain ⟨rfl, rfl⟩ := hq
                show Go mX6_product (d + 2) false 0 0 246 [some (vR 0), none, none, some (vI y3), some (vI y4), some (vI y5), some (vI y6), some (vI x0_), some (vI (1 : Int32)), some (vI (0 : Int32))] [] (wM kn x98 fi se ma on ot ta po ti nu mo wa nx oT cF bg ed sF qu qd tr) Q
                refine go_iinc (pc := 246) (x0_ + (1 : Int32)) [some (vR 0), none, none, some (vI y3), some (vI y4), some (vI y5), some (vI y6), some (vI (x0_ + (1 : Int32))), some (vI (1 : Int32)), some (vI (0 : Int32))] dX6_product_246 rfl (iinc_1 _) (by decide) rfl ?_
                refine go_goto (pc := 249) 133 dX6_product_249 (by decide) ?_
                obtain rfl := Option.some.inj hs
                refine go_sub (lv' := [some (vR 0), none, none, some (vI y3), some (vI y4), some (vI y5), some (vI y6), some (vI (x0_ + (1 : Int32))), none, none]) ⟨rfl, ⟨rfl, ⟨rfl, ⟨rfl, ⟨rfl, ⟨rfl, trivial⟩⟩⟩⟩⟩⟩ ?_
                exact hI (x0_ + (1 : Int32), x98) rfl (x0_ + (1 : Int32)) x98 rfl
              · have hs := it_t h97 hs
                refine go_iload (pc := 232) dX6_product_232 rfl ?_
                refine go_if_eq (pc := 234) 246 dX6_product_234 (by decide) (fun h100 => ?_) (fun h100 => ?_)
                · have hs := it_t h100 hs
                  refine go_iinc (pc := 246) (x0_ + (1 : Int32)) [some (vR 0), none, none, some (vI y3), some (vI y4), some (vI y5), some (vI y6), some (vI (x0_ + (1 : Int32))), some (vI (1 : Int32)), some (vI (0 : Int32))] dX6_product_246 rfl (iinc_1 _) (by decide) rfl ?_
                  refine go_goto (pc := 249) 133 dX6_product_249 (by decide) ?_
                  obtain rfl := Option.some.inj hs
                  refine go_sub (lv' := [some (vR 0), none, none, some (vI y3), some (vI y4), some (vI y5), some (vI y6), some (vI (x0_ + (1 : Int32))), none, none]) ⟨rfl, ⟨rfl, ⟨rfl, ⟨rfl, ⟨rfl, ⟨rfl, trivial⟩⟩⟩⟩⟩⟩ ?_
                  exact hI (x0_ + (1 : Int32), x1_) rfl (x0_ + (1 : Int32)) x1_ rfl
                · have hs := it_f h100 hs
                  refine go_aload_n (pc := 237) 0 dX6_product_237 rfl rfl ?_
                  refine go_iload_n (pc := 238) 3 dX6_product_238 rfl rfl ?_
                  refine go_iload (pc := 239) dX6_product_239 rfl ?_
                  refine go_iload (pc := 241) dX6_product_241 rfl ?_
                  obtain ⟨x101, hc102, hs⟩ := bnd hs
                  refine go_callV (bc := 0) (bs := 0) (mc := 0) (ms := 0) (d := d + 1) (pc := 243) (a := 0) (ci := 6) [vI y3, vI y6, vI x0_] [] dX6_product_243 kX6_put mlX6_88 ivX6_put rfl rfl rfl rfl (Nat.le_of_ble_eq_true rfl) rfl (c_X6_put (d := d + 1) (res0 := x101) hc102) (fun r w' hq => ?_)
                  obtain ⟨rfl, rfl⟩ := hq
                  show Go mX6_product (d + 2) false 0 0 246 [some (vR 0), none, none, some (vI y3), some (vI y4), some (vI y5), some (vI y6), some (vI x0_), some (vI (1 : Int32)), some (vI (0 : Int32))] [] (wM kn x101 fi se ma on ot ta po ti nu mo wa nx oT cF bg ed sF qu qd tr) Q
                  refine go_iinc (pc := 246) (x0_ + (1 : Int32)) [some (vR 0), none, none, some (vI y3), some (vI y4), some (vI y5), some (vI y6), some (vI (x0_ + (1 : Int32))), some (vI (1 : Int32)), some (vI (0 : Int32))] dX6_product_246 rfl (iinc_1 _) (by decide) rfl ?_
                  refine go_goto (pc := 249) 133 dX6_product_249 (by decide) ?_
                  obtain rfl := Option.some.inj hs
                  refine go_sub (lv' := [some (vR 0), none, none, some (vI y3), some (vI y4), some (vI y5), some (vI y6), some (vI (x0_ + (1 : Int32))), none, none]) ⟨rfl, ⟨rfl, ⟨rfl, ⟨rfl, ⟨rfl, ⟨rfl, trivial⟩⟩⟩⟩⟩⟩ ?_
                  exact hI (x0_ + (1 : Int32), x101) rfl (x0_ + (1 : Int32)) x101 rfl
            · have hs := it_t h96 hs
              refine go_iconst (pc := 220) (1 : Int32) dX6_product_220 (by decide) ?_
              refine go_goto (pc := 221) 225 dX6_product_221 (by decide) ?_
              refine go_istore (pc := 225) [some (vR 0), none, none, some (vI y3), some (vI y4), some (vI y5), some (vI y6), some (vI x0_), some (vI (1 : Int32)), some (vI (1 : Int32))] dX6_product_225 (by decide) rfl ?_
              refine go_iload (pc := 227) dX6_product_227 rfl ?_
              refine go_if_ne (pc := 229) 237 dX6_product_229 (by decide) (fun h103 => ?_) (fun h103 => ?_)
              · have hs := it_f h103 hs
                refine go_aload_n (pc := 237) 0 dX6_product_237 rfl rfl ?_
                refine go_iload_n (pc := 238) 3 dX6_product_238 rfl rfl ?_
                refine go_iload (pc := 239) dX6_product_239 rfl ?_
                refine go_iload (pc := 241) dX6_product_241 rfl ?_
                obtain ⟨x104, hc105, hs⟩ := bnd hs
                refine go_callV (bc := 0) (bs := 0) (mc := 0) (ms := 0) (d := d + 1) (pc := 243) (a := 0) (ci := 6) [vI y3, vI y6, vI x0_] [] dX6_product_243 kX6_put mlX6_88 ivX6_put rfl rfl rfl rfl (Nat.le_of_ble_eq_true rfl) rfl (c_X6_put (d := d + 1) (res0 := x104) hc105) (fun r w' hq => ?_)
                obtain ⟨rfl, rfl⟩ := hq
                show Go mX6_product (d + 2) false 0 0 246 [some (vR 0), none, none, some (vI y3), some (vI y4), some (vI y5), some (vI y6), some (vI x0_), some (vI (1 : Int32)), some (vI (1 : Int32))] [] (wM kn x104 fi se ma on ot ta po ti nu mo wa nx oT cF bg ed sF qu qd tr) Q
                refine go_iinc (pc := 246) (x0_ + (1 : Int32)) [some (vR 0), none, none, some (vI y3), some (vI y4), some (vI y5), some (vI y6), some (vI (x0_ + (1 : Int32))), some (vI (1 : Int32)), some (vI (1 : Int32))] dX6_product_246 rfl (iinc_1 _) (by decide) rfl ?_
                refine go_goto (pc := 249) 133 dX6_product_249 (by decide) ?_
                obtain rfl := Option.some.inj hs
                refine go_sub (lv' := [some (vR 0), none, none, some (vI y3), some (vI y4), some (vI y5), some (vI y6), some (vI (x0_ + (1 : Int32))), none, none]) ⟨rfl, ⟨rfl, ⟨rfl, ⟨rfl, ⟨rfl, ⟨rfl, trivial⟩⟩⟩⟩⟩⟩ ?_
                exact hI (x0_ + (1 : Int32), x104) rfl (x0_ + (1 : Int32)) x104 rfl
              · have hs := it_t h103 hs
                refine go_iload (pc := 232) dX6_product_232 rfl ?_
                refine go_if_eq (pc := 234) 246 dX6_product_234 (by decide) (fun h106 => ?_) (fun h106 => ?_)
                · have hs := it_t h106 hs
                  refine go_iinc (pc := 246) (x0_ + (1 : Int32)) [some (vR 0), none, none, some (vI y3), some (vI y4), some (vI y5), some (vI y6), some (vI (x0_ + (1 : Int32))), some (vI (1 : Int32)), some (vI (1 : Int32))] dX6_product_246 rfl (iinc_1 _) (by decide) rfl ?_
                  refine go_goto (pc := 249) 133 dX6_product_249 (by decide) ?_
                  obtain rfl := Option.some.inj hs
                  refine go_sub (lv' := [some (vR 0), none, none, some (vI y3), some (vI y4), some (vI y5), some (vI y6), some (vI (x0_ + (1 : Int32))), none, none]) ⟨rfl, ⟨rfl, ⟨rfl, ⟨rfl, ⟨rfl, ⟨rfl, trivial⟩⟩⟩⟩⟩⟩ ?_
                  exact hI (x0_ + (1 : Int32), x1_) rfl (x0_ + (1 : Int32)) x1_ rfl
                · have hs := it_f h106 hs
                  refine go_aload_n (pc := 237) 0 dX6_product_237 rfl rfl ?_
                  refine go_iload_n (pc := 238) 3 dX6_product_238 rfl rfl ?_
                  refine go_iload (pc := 239) dX6_product_239 rfl ?_
                  refine go_iload (pc := 241) dX6_product_241 rfl ?_
                  obtain ⟨x107, hc108, hs⟩ := bnd hs
                  refine go_callV (bc := 0) (bs := 0) (mc := 0) (ms := 0) (d := d + 1) (pc := 243) (a := 0) (ci := 6) [vI y3, vI y6, vI x0_] [] dX6_product_243 kX6_put mlX6_88 ivX6_put rfl rfl rfl rfl (Nat.le_of_ble_eq_true rfl) rfl (c_X6_put (d := d + 1) (res0 := x107) hc108) (fun r w' hq => ?_)
                  obtain ⟨rfl, rfl⟩ := hq
                  show Go mX6_product (d + 2) false 0 0 246 [some (vR 0), none, none, some (vI y3), some (vI y4), some (vI y5), some (vI y6), some (vI x0_), some (vI (1 : Int32)), some (vI (1 : Int32))] [] (wM kn x107 fi se ma on ot ta po ti nu mo wa nx oT cF bg ed sF qu qd tr) Q
                  refine go_iinc (pc := 246) (x0_ + (1 : Int32)) [some (vR 0), none, none, some (vI y3), some (vI y4), some (vI y5), some (vI y6), some (vI (x0_ + (1 : Int32))), some (vI (1 : Int32)), some (vI (1 : Int32))] dX6_product_246 rfl (iinc_1 _) (by decide) rfl ?_
                  refine go_goto (pc := 249) 133 dX6_product_249 (by decide) ?_
                  obtain rfl := Option.some.inj hs
                  refine go_sub (lv' := [some (vR 0), none, none, some (vI y3), some (vI y4), some (vI y5), some (vI y6), some (vI (x0_ + (1 : Int32))), none, none]) ⟨rfl, ⟨rfl, ⟨rfl, ⟨rfl, ⟨rfl, ⟨rfl, trivial⟩⟩⟩⟩⟩⟩ ?_
                  exact hI (x0_ + (1 : Int32), x107) rfl (x0_ + (1 : Int32)) x107 rfl
set_option maxRecDepth 20000 in
theorem g_X6_product_120 {d : Nat} {Q : Option AV → List AC → Prop} {y3 : Int32} {y4 : Int32} {y5 : Int32} (x0_ : Int32) (x1_ : (Nat → Int32)) (r : (Nat → Int32)) (hl : loop (b_X6_product_120 fi se y3 y4 y5) (x0_, x1_) = some r) (hk : Go mX6_product (d + 2) false 0 0 258 [none, none, none, none, some (vI y4), some (vI y5), none, none, none, none] [] (wM kn r fi se ma on ot ta po ti nu mo wa nx oT cF bg ed sF qu qd tr) Q) : Go mX6_product (d + 2) false 0 0 120 [some (vR 0), none, none, some (vI y3), some (vI y4), some (vI y5), some (vI x0_), none, none, none] [] (wM kn x1_ fi se ma on ot ta po ti nu mo wa nx oT cF bg ed sF qu qd tr) Q := by
  refine loop_go (P := fun x : Int32 × (Nat → Int32) => ∀ (x0_ : Int32) (x1_ : (Nat → Int32)), x = (x0_, x1_) → Go mX6_product (d + 2) false 0 0 120 [some (vR 0), none, none, some (vI y3), some (vI y4), some (vI y5), some (vI x0_), none, none, none] [] (wM kn x1_ fi se ma on ot ta po ti nu mo wa nx oT cF bg ed sF qu qd tr) Q) (K := fun r : (Nat → Int32) => Go mX6_product (d + 2) false 0 0 258 [none, none, none, none, some (vI y4), some (vI y5), none, none, none, none] [] (wM kn r fi se ma on ot ta po ti nu mo wa nx oT cF bg ed sF qu qd tr) Q) ?_ (x0_, x1_) r hl hk x0_ x1_ rfl
  · intro x y hs hI hE x0_ x1_ hx
    subst hx
    unfold b_X6_product_120 at hs
    try dsimp only at hs
    refine go_iload (pc := 120) dX6_product_120 rfl ?_
    refine go_iload (pc := 122) dX6_product_122 rfl ?_
    refine go_iload (pc := 124) dX6_product_124 rfl ?_
    refine go_imul (pc := 126) dX6_product_126 ?_
    refine go_icmp_ge (pc := 127) 258 dX6_product_127 (by decide) (fun h25 => ?_) (fun h25 => ?_)
    · have hs := it_t h25 hs
      obtain rfl := Option.some.inj hs
      refine go_sub (lv' := [none, none, none, none, some (vI y4), some (vI y5), none, none, none, none]) ⟨rfl, ⟨rfl, trivial⟩⟩ ?_
      exact hE x1_ rfl
    · have hs := it_f h25 hs
      refine go_iconst (pc := 130) (0 : Int32) dX6_product_130 (by decide) ?_
      refine go_istore (pc := 131) [some (vR 0), none, none, some (vI y3), some (vI y4), some (vI y5), some (vI x0_), some (vI (0 : Int32)), none, none] dX6_product_131 (by decide) rfl ?_
      obtain ⟨e109, hl110, hs⟩ := bnd hs
      refine g_X6_product_133 (d := d) (0 : Int32) x1_ e109 hl110 ?_
      refine go_iinc (pc := 252) (x0_ + (1 : Int32)) [some (vR 0), none, none, some (vI y3), some (vI y4), some (vI y5), some (vI (x0_ + (1 : Int32))), none, none, none] dX6_product_252 rfl (iinc_1 _) (by decide) rfl ?_
      refine go_goto (pc := 255) 120 dX6_product_255 (by decide) ?_
      obtain rfl := Option.some.inj hs
      exact hI (x0_ + (1 : Int32), e109) rfl (x0_ + (1 : Int32)) e109 rfl
set_option maxRecDepth 20000 in
theorem c_X6_product {d : Nat}  {a1 : Int32} {a2 : Int32} {a3 : Int32} {res0 : Int32} {res1 : (Nat → Int32)} {res2 : (Nat → Int32)} {res3 : (Nat → Int32)} {res4 : (Nat → Int32)} (hs : s_X6_product kn ne fi se a1 a2 a3 = some (res0, res1, res2, res3, res4)) : Calls mX6_product (d + 2) false 0 0 [vR 0, vI a1, vI a2, vI a3] (wM kn ne fi se ma on ot ta po ti nu mo wa nx oT cF bg ed sF qu qd tr) (fun r w' => r = some (vI res0) ∧ w' = (wM res1 res2 res3 res4 ma on ot ta po ti nu mo wa nx oT cF bg ed sF qu qd tr)) := by
  unfold s_X6_product at hs
  refine Calls.of kX6_product 6 [some (vR 0), some (vI a1), some (vI a2), some (vI a3), none, none, none, none, none, none] rfl (Nat.le_of_ble_eq_true rfl) ?_
  refine go_iload_n (pc := 0) 1 dX6_product_0 rfl rfl ?_
  obtain ⟨x1, hc2, hs⟩ := bnd hs
  refine go_callS (bc := 0) (bs := 0) (mc := 0) (ms := 0) (d := d + 1) (pc := 1) [vI a1] [] dX6_product_1 kX6_isNet mlX6_69 isX6_isNet rfl (Nat.le_of_ble_eq_true rfl) rfl (c_X6_isNet (d := d + 0) (res0 := x1) hc2) (fun r w' hq => ?_)
  obtain ⟨rfl, rfl⟩ := hq
  show Go mX6_product (d + 2) false 0 0 4 [some (vR 0), some (vI a1), some (vI a2), some (vI a3), none, none, none, none, none, none] [vI x1] (wM kn ne fi se ma on ot ta po ti nu mo wa nx oT cF bg ed sF qu qd tr) _
  refine go_if_eq (pc := 4) 21 dX6_product_4 (by decide) (fun h3 => ?_) (fun h3 => ?_)
  · have hs := it_t h3 hs
    refine go_bipush (pc := 21) (-2 : Int32) dX6_product_21 (by decide) ?_
    cases hs
    exact go_ireturn (st := []) (pc := 23) dX6_product_23 rfl (vp_nar_int _) (fun h => by cases h) ⟨rfl, rfl⟩
  · have hs := it_f h3 hs
    refine go_iload_n (pc := 7) 2 dX6_product_7 rfl rfl ?_
    obtain ⟨x4, hc5, hs⟩ := bnd hs
    refine go_callS (bc := 0) (bs := 0) (mc := 0) (ms := 0) (d := d + 1) (pc := 8) [vI a2] [] dX6_product_8 kX6_isNet mlX6_69 isX6_isNet rfl (Nat.le_of_ble_eq_true rfl) rfl (c_X6_isNet (d := d + 0) (res0 := x4) hc5) (fun r w' hq => ?_)
    obtain ⟨rfl, rfl⟩ := hq
    show Go mX6_product (d + 2) false 0 0 11 [some (vR 0), some (vI a1), some (vI a2), some (vI a3), none, none, none, none, none, none] [vI x4] (wM kn ne fi se ma on ot ta po ti nu mo wa nx oT cF bg ed sF qu qd tr) _
    refine go_if_eq (pc := 11) 21 dX6_product_11 (by decide) (fun h6 => ?_) (fun h6 => ?_)
    · have hs := it_t h6 hs
      refine go_bipush (pc := 21) (-2 : Int32) dX6_product_21 (by decide) ?_
      cases hs
      exact go_ireturn (st := []) (pc := 23) dX6_product_23 rfl (vp_nar_int _) (fun h => by cases h) ⟨rfl, rfl⟩
    · have hs := it_f h6 hs
      refine go_iload_n (pc := 14) 3 dX6_product_14 rfl rfl ?_
      obtain ⟨x7, hc8, hs⟩ := bnd hs
      refine go_callS (bc := 0) (bs := 0) (mc := 0) (ms := 0) (d := d + 1) (pc := 15) [vI a3] [] dX6_product_15 kX6_isNet mlX6_69 isX6_isNet rfl (Nat.le_of_ble_eq_true rfl) rfl (c_X6_isNet (d := d + 0) (res0 := x7) hc8) (fun r w' hq => ?_)
      obtain ⟨rfl, rfl⟩ := hq
      show Go mX6_product (d + 2) false 0 0 18 [some (vR 0), some (vI a1), some (vI a2), some (vI a3), none, none, none, none, none, none] [vI x7] (wM kn ne fi se ma on ot ta po ti nu mo wa nx oT cF bg ed sF qu qd tr) _
      refine go_if_ne (pc := 18) 24 dX6_product_18 (by decide) (fun h9 => ?_) (fun h9 => ?_)
      · have hs := it_f h9 hs
        refine go_aload_n (pc := 24) 0 dX6_product_24 rfl rfl ?_
        refine go_getfield (pc := 25) (v := vR 1) 0 6 0 dX6_product_25 flX6_7 rfl rfl ?_
        refine go_iload_n (pc := 28) 1 dX6_product_28 rfl rfl ?_
        obtain ⟨hi10, hs⟩ := chk_t hs
        refine go_iaload (pc := 29) 1 dX6_product_29 rfl hi10 ?_
        refine go_istore (pc := 30) [some (vR 0), some (vI a1), some (vI a2), some (vI a3), some (vI (kn a1.toNatClampNeg)), none, none, none, none, none] dX6_product_30 (by decide) rfl ?_
        refine go_aload_n (pc := 32) 0 dX6_product_32 rfl rfl ?_
        refine go_getfield (pc := 33) (v := vR 1) 0 6 0 dX6_product_33 flX6_7 rfl rfl ?_
        refine go_iload_n (pc := 36) 2 dX6_product_36 rfl rfl ?_
        obtain ⟨hi11, hs⟩ := chk_t hs
        refine go_iaload (pc := 37) 1 dX6_product_37 rfl hi11 ?_
        refine go_istore (pc := 38) [some (vR 0), some (vI a1), some (vI a2), some (vI a3), some (vI (kn a1.toNatClampNeg)), some (vI (kn a2.toNatClampNeg)), none, none, none, none] dX6_product_38 (by decide) rfl ?_
        refine go_iload (pc := 40) dX6_product_40 rfl ?_
        refine go_iload (pc := 42) dX6_product_42 rfl ?_
        refine go_imul (pc := 44) dX6_product_44 ?_
        refine go_bipush (pc := 45) (10 : Int32) dX6_product_45 (by decide) ?_
        refine go_icmp_le (pc := 47) 53 dX6_product_47 (by decide) (fun h12 => ?_) (fun h12 => ?_)
        · have hs := it_t h12 hs
          refine go_iconst (pc := 53) (0 : Int32) dX6_product_53 (by decide) ?_
          refine go_istore (pc := 54) [some (vR 0), some (vI a1), some (vI a2), some (vI a3), some (vI (kn a1.toNatClampNeg)), some (vI (kn a2.toNatClampNeg)), some (vI (0 : Int32)), none, none, none] dX6_product_54 (by decide) rfl ?_
          obtain ⟨e18, hl19, hs⟩ := bnd hs
          refine g_X6_product_56 (d := d) (0 : Int32) fi se e18 hl19 ?_
          intro v20 v21 hv22
          subst hv22
          try dsimp only at hs
          refine go_aload_n (pc := 107) 0 dX6_product_107 rfl rfl ?_
          refine go_iload_n (pc := 108) 3 dX6_product_108 rfl rfl ?_
          refine go_iload (pc := 109) dX6_product_109 rfl ?_
          refine go_iload (pc := 111) dX6_product_111 rfl ?_
          refine go_imul (pc := 113) dX6_product_113 ?_
          obtain ⟨x23, hc24, hs⟩ := bnd hs
          refine go_callV (bc := 0) (bs := 0) (mc := 0) (ms := 0) (d := d + 1) (pc := 114) (a := 0) (ci := 6) [vI a3, vI ((kn a1.toNatClampNeg) * (kn a2.toNatClampNeg))] [] dX6_product_114 kX6_begin mlX6_77 ivX6_begin rfl rfl rfl rfl (Nat.le_of_ble_eq_true rfl) rfl (c_X6_begin (d := d + 1) (res0 := x23.1) (res1 := x23.2) hc24) (fun r w' hq => ?_)
          obtain ⟨rfl, rfl⟩ := hq
          show Go mX6_product (d + 2) false 0 0 117 [some (vR 0), none, none, some (vI a3), some (vI (kn a1.toNatClampNeg)), some (vI (kn a2.toNatClampNeg)), none, none, none, none] [] (wM x23.1 x23.2 v20 v21 ma on ot ta po ti nu mo wa nx oT cF bg ed sF qu qd tr) _
          refine go_iconst (pc := 117) (0 : Int32) dX6_product_117 (by decide) ?_
          refine go_istore (pc := 118) [some (vR 0), none, none, some (vI a3), some (vI (kn a1.toNatClampNeg)), some (vI (kn a2.toNatClampNeg)), some (vI (0 : Int32)), none, none, none] dX6_product_118 (by decide) rfl ?_
          obtain ⟨e112, hl113, hs⟩ := bnd hs
          refine g_X6_product_120 (d := d) (0 : Int32) x23.2 e112 hl113 ?_
          refine go_iload (pc := 258) dX6_product_258 rfl ?_
          refine go_iload (pc := 260) dX6_product_260 rfl ?_
          refine go_imul (pc := 262) dX6_product_262 ?_
          cases hs
          exact go_ireturn (st := []) (pc := 263) dX6_product_263 rfl (vp_nar_int _) (fun h => by cases h) ⟨rfl, rfl⟩
        · have hs := it_f h12 hs
          refine go_bipush (pc := 50) (-3 : Int32) dX6_product_50 (by decide) ?_
          cases hs
          exact go_ireturn (st := []) (pc := 52) dX6_product_52 rfl (vp_nar_int _) (fun h => by cases h) ⟨rfl, rfl⟩
      · have hs := it_t h9 hs
        refine go_bipush (pc := 21) (-2 : Int32) dX6_product_21 (by decide) ?_
        cases hs
        exact go_ireturn (st := []) (pc := 23) dX6_product_23 rfl (vp_nar_int _) (fun h => by cases h) ⟨rfl, rfl⟩
end
