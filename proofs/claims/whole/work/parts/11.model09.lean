section
variable {kn : (Nat → Int32)} {ne : (Nat → Int32)} {fi : (Nat → Int32)} {se : (Nat → Int32)} {ma : Int32} {on : (Nat → Int32)} {ot : (Nat → Int32)} {ta : (Nat → Int64)} {po : (Nat → Int64)} {ti : (Nat → Int64)} {nu : (Nat → Int64)} {mo : (Nat → Int64)} {wa : (Nat → Int64)} {nx : (Nat → Int64)} {oT : (Nat → Int32)} {cF : (Nat → Int32)} {bg : Int32} {ed : Int32} {sF : (Nat → Int32)} {qu : (Nat → Int32)} {qd : Int32} {tr : (Nat → Int32)}
noncomputable def b_X6_layWalks_3 (y2 : Int32) (x : Int32 × (Nat → Int64)) : Option ((Int32 × (Nat → Int64)) ⊕ ((Nat → Int64))) := if (10 : Int32) ≤ x.1 then (some (Sum.inr x.2)) else (if x.1 = y2 then (chk x.1 10 (some (Sum.inl (x.1 + (1 : Int32), vp_updL x.2 x.1.toNatClampNeg (1 : Int64))))) else (chk x.1 10 (some (Sum.inl (x.1 + (1 : Int32), vp_updL x.2 x.1.toNatClampNeg (0 : Int64))))))
noncomputable def b_X6_layWalks_68 (kn : (Nat → Int32)) (ne : (Nat → Int32)) (wa : (Nat → Int64)) (y1 : Int32) (y5 : Int32) (x : Int32 × (Nat → Int64)) : Option ((Int32 × (Nat → Int64)) ⊕ ((Nat → Int64))) := chk y1 4 (if (kn y1.toNatClampNeg) ≤ x.1 then (some (Sum.inr x.2)) else (chk y5 10 ((s_X6_has ne y1 x.1 y5).bind (fun x15 => if x15 = 0 then (chk y5 10 (some (Sum.inl (x.1 + (1 : Int32), vp_updL x.2 y5.toNatClampNeg ((x.2 y5.toNatClampNeg) + (0 : Int64)))))) else (chk x.1 10 (chk y5 10 (some (Sum.inl (x.1 + (1 : Int32), vp_updL x.2 y5.toNatClampNeg ((x.2 y5.toNatClampNeg) + (wa x.1.toNatClampNeg)))))))))))
noncomputable def b_X6_layWalks_46 (kn : (Nat → Int32)) (ne : (Nat → Int32)) (wa : (Nat → Int64)) (y1 : Int32) (x : Int32 × (Nat → Int64)) : Option ((Int32 × (Nat → Int64)) ⊕ ((Nat → Int64))) := chk y1 4 (if (kn y1.toNatClampNeg) ≤ x.1 then (some (Sum.inr x.2)) else (chk x.1 10 ((loop (b_X6_layWalks_68 kn ne wa y1 x.1) ((0 : Int32), vp_updL x.2 x.1.toNatClampNeg (0 : Int64))).bind (fun e21 => some (Sum.inl (x.1 + (1 : Int32), e21))))))
noncomputable def b_X6_layWalks_127 (kn : (Nat → Int32)) (nx : (Nat → Int64)) (y1 : Int32) (x : Int32 × (Nat → Int64)) : Option ((Int32 × (Nat → Int64)) ⊕ ((Nat → Int64))) := chk y1 4 (if (kn y1.toNatClampNeg) ≤ x.1 then (some (Sum.inr x.2)) else (chk x.1 10 (chk x.1 10 (some (Sum.inl (x.1 + (1 : Int32), vp_updL x.2 x.1.toNatClampNeg (nx x.1.toNatClampNeg)))))))
noncomputable def b_X6_layWalks_37 (kn : (Nat → Int32)) (ne : (Nat → Int32)) (y1 : Int32) (y3 : Int32) (x : Int32 × (Nat → Int64) × (Nat → Int64)) : Option ((Int32 × (Nat → Int64) × (Nat → Int64)) ⊕ ((Nat → Int64) × (Nat → Int64))) := if y3 ≤ x.1 then (some (Sum.inr (x.2.1, x.2.2))) else ((loop (b_X6_layWalks_46 kn ne x.2.1 y1) ((0 : Int32), x.2.2)).bind (fun e24 => (loop (b_X6_layWalks_127 kn e24 y1) ((0 : Int32), x.2.1)).bind (fun e31 => some (Sum.inl (x.1 + (1 : Int32), e31, e24)))))
noncomputable def s_X6_layWalks (kn : (Nat → Int32)) (ne : (Nat → Int32)) (wa : (Nat → Int64)) (nx : (Nat → Int64)) (a1 : Int32) (a2 : Int32) (a3 : Int32) : Option ((Nat → Int64) × (Nat → Int64)) := (loop (b_X6_layWalks_3 a2) ((0 : Int32), wa)).bind (fun e5 => (loop (b_X6_layWalks_37 kn ne a1 a3) ((0 : Int32), e5, nx)).bind (fun e34 => some (e34.1, e34.2)))
set_option maxRecDepth 20000 in
theorem g_X6_layWalks_3 {d : Nat} {Q : Option AV → List AC → Prop} {y1 : Int32} {y2 : Int32} {y3 : Int32} (x0_ : Int32) (x1_ : (Nat → Int64)) (r : (Nat → Int64)) (hl : loop (b_X6_layWalks_3 y2) (x0_, x1_) = some r) (hk : Go mX6_layWalks (d + 1) false 0 0 34 [some (vR 0), some (vI y1), none, some (vI y3), none, none, none] [] (wM kn ne fi se ma on ot ta po ti nu mo r nx oT cF bg ed sF qu qd tr) Q) : Go mX6_layWalks (d + 1) false 0 0 3 [some (vR 0), some (vI y1), some (vI y2), some (vI y3), some (vI x0_), none, none] [] (wM kn ne fi se ma on ot ta po ti nu mo x1_ nx oT cF bg ed sF qu qd tr) Q := by
  refine loop_go (P := fun x : Int32 × (Nat → Int64) => ∀ (x0_ : Int32) (x1_ : (Nat → Int64)), x = (x0_, x1_) → Go mX6_layWalks (d + 1) false 0 0 3 [some (vR 0), some (vI y1), some (vI y2), some (vI y3), some (vI x0_), none, none] [] (wM kn ne fi se ma on ot ta po ti nu mo x1_ nx oT cF bg ed sF qu qd tr) Q) (K := fun r : (Nat → Int64) => Go mX6_layWalks (d + 1) false 0 0 34 [some (vR 0), some (vI y1), none, some (vI y3), none, none, none] [] (wM kn ne fi se ma on ot ta po ti nu mo r nx oT cF bg ed sF qu qd tr) Q) ?_ (x0_, x1_) r hl hk x0_ x1_ rfl
  · intro x y hs hI hE x0_ x1_ hx
    subst hx
    unfold b_X6_layWalks_3 at hs
    try dsimp only at hs
    refine go_iload (pc := 3) dX6_layWalks_3 rfl ?_
    refine go_bipush (pc := 5) (10 : Int32) dX6_layWalks_5 (by decide) ?_
    refine go_icmp_ge (pc := 7) 34 dX6_layWalks_7 (by decide) (fun h1 => ?_) (fun h1 => ?_)
    · have hs := it_t h1 hs
      obtain rfl := Option.some.inj hs
      refine go_sub (lv' := [some (vR 0), some (vI y1), none, some (vI y3), none, none, none]) ⟨rfl, ⟨rfl, ⟨rfl, trivial⟩⟩⟩ ?_
      exact hE x1_ rfl
    · have hs := it_f h1 hs
      refine go_aload_n (pc := 10) 0 dX6_layWalks_10 rfl rfl ?_
      refine go_getfield (pc := 11) (v := vR 12) 0 6 12 dX6_layWalks_11 flX6_44 rfl rfl ?_
      refine go_iload (pc := 14) dX6_layWalks_14 rfl ?_
      refine go_iload (pc := 16) dX6_layWalks_16 rfl ?_
      refine go_iload_n (pc := 18) 2 dX6_layWalks_18 rfl rfl ?_
      refine go_icmp_ne (pc := 19) 26 dX6_layWalks_19 (by decide) (fun h2 => ?_) (fun h2 => ?_)
      · have hs := it_f h2 hs
        refine go_lconst (pc := 26) (0 : Int64) dX6_layWalks_26 (by decide) ?_
        obtain ⟨hi3, hs⟩ := chk_t hs
        refine go_lastore (pc := 27) 12 dX6_layWalks_27 rfl hi3 (show Go mX6_layWalks (d + 1) false 0 0 28 [some (vR 0), some (vI y1), some (vI y2), some (vI y3), some (vI x0_), none, none] [] (wM kn ne fi se ma on ot ta po ti nu mo (vp_updL x1_ x0_.toNatClampNeg (0 : Int64)) nx oT cF bg ed sF qu qd tr) Q from ?_)
        refine go_iinc (pc := 28) (x0_ + (1 : Int32)) [some (vR 0), some (vI y1), some (vI y2), some (vI y3), some (vI (x0_ + (1 : Int32))), none, none] dX6_layWalks_28 rfl (iinc_1 _) (by decide) rfl ?_
        refine go_goto (pc := 31) 3 dX6_layWalks_31 (by decide) ?_
        obtain rfl := Option.some.inj hs
        exact hI (x0_ + (1 : Int32), vp_updL x1_ x0_.toNatClampNeg (0 : Int64)) rfl (x0_ + (1 : Int32)) (vp_updL x1_ x0_.toNatClampNeg (0 : Int64)) rfl
      · have hs := it_t h2 hs
        refine go_lconst (pc := 22) (1 : Int64) dX6_layWalks_22 (by decide) ?_
        refine go_goto (pc := 23) 27 dX6_layWalks_23 (by decide) ?_
        obtain ⟨hi4, hs⟩ := chk_t hs
        refine go_lastore (pc := 27) 12 dX6_layWalks_27 rfl hi4 (show Go mX6_layWalks (d + 1) false 0 0 28 [some (vR 0), some (vI y1), some (vI y2), some (vI y3), some (vI x0_), none, none] [] (wM kn ne fi se ma on ot ta po ti nu mo (vp_updL x1_ x0_.toNatClampNeg (1 : Int64)) nx oT cF bg ed sF qu qd tr) Q from ?_)
        refine go_iinc (pc := 28) (x0_ + (1 : Int32)) [some (vR 0), some (vI y1), some (vI y2), some (vI y3), some (vI (x0_ + (1 : Int32))), none, none] dX6_layWalks_28 rfl (iinc_1 _) (by decide) rfl ?_
        refine go_goto (pc := 31) 3 dX6_layWalks_31 (by decide) ?_
        obtain rfl := Option.some.inj hs
        exact hI (x0_ + (1 : Int32), vp_updL x1_ x0_.toNatClampNeg (1 : Int64)) rfl (x0_ + (1 : Int32)) (vp_updL x1_ x0_.toNatClampNeg (1 : Int64)) rfl
set_option maxRecDepth 20000 in
theorem g_X6_layWalks_68 {d : Nat} {Q : Option AV → List AC → Prop} {y1 : Int32} {y3 : Int32} {y4 : Int32} {y5 : Int32} (x0_ : Int32) (x1_ : (Nat → Int64)) (r : (Nat → Int64)) (hl : loop (b_X6_layWalks_68 kn ne wa y1 y5) (x0_, x1_) = some r) (hk : Go mX6_layWalks (d + 1) false 0 0 118 [some (vR 0), some (vI y1), none, some (vI y3), some (vI y4), some (vI y5), none] [] (wM kn ne fi se ma on ot ta po ti nu mo wa r oT cF bg ed sF qu qd tr) Q) : Go mX6_layWalks (d + 1) false 0 0 68 [some (vR 0), some (vI y1), none, some (vI y3), some (vI y4), some (vI y5), some (vI x0_)] [] (wM kn ne fi se ma on ot ta po ti nu mo wa x1_ oT cF bg ed sF qu qd tr) Q := by
  refine loop_go (P := fun x : Int32 × (Nat → Int64) => ∀ (x0_ : Int32) (x1_ : (Nat → Int64)), x = (x0_, x1_) → Go mX6_layWalks (d + 1) false 0 0 68 [some (vR 0), some (vI y1), none, some (vI y3), some (vI y4), some (vI y5), some (vI x0_)] [] (wM kn ne fi se ma on ot ta po ti nu mo wa x1_ oT cF bg ed sF qu qd tr) Q) (K := fun r : (Nat → Int64) => Go mX6_layWalks (d + 1) false 0 0 118 [some (vR 0), some (vI y1), none, some (vI y3), some (vI y4), some (vI y5), none] [] (wM kn ne fi se ma on ot ta po ti nu mo wa r oT cF bg ed sF qu qd tr) Q) ?_ (x0_, x1_) r hl hk x0_ x1_ rfl
  · intro x y hs hI hE x0_ x1_ hx
    subst hx
    unfold b_X6_layWalks_68 at hs
    try dsimp only at hs
    refine go_iload (pc := 68) dX6_layWalks_68 rfl ?_
    refine go_aload_n (pc := 70) 0 dX6_layWalks_70 rfl rfl ?_
    refine go_getfield (pc := 71) (v := vR 1) 0 6 0 dX6_layWalks_71 flX6_7 rfl rfl ?_
    refine go_iload_n (pc := 74) 1 dX6_layWalks_74 rfl rfl ?_
    obtain ⟨hi12, hs⟩ := chk_t hs
    refine go_iaload (pc := 75) 1 dX6_layWalks_75 rfl hi12 ?_
    refine go_icmp_ge (pc := 76) 118 dX6_layWalks_76 (by decide) (fun h13 => ?_) (fun h13 => ?_)
    · have hs := it_t h13 hs
      obtain rfl := Option.some.inj hs
      refine go_sub (lv' := [some (vR 0), some (vI y1), none, some (vI y3), some (vI y4), some (vI y5), none]) ⟨rfl, ⟨rfl, ⟨rfl, ⟨rfl, ⟨rfl, trivial⟩⟩⟩⟩⟩ ?_
      exact hE x1_ rfl
    · have hs := it_f h13 hs
      refine go_aload_n (pc := 79) 0 dX6_layWalks_79 rfl rfl ?_
      refine go_getfield (pc := 80) (v := vR 13) 0 6 13 dX6_layWalks_80 flX6_47 rfl rfl ?_
      refine go_iload (pc := 83) dX6_layWalks_83 rfl ?_
      refine go_dup2 (pc := 85) dX6_layWalks_85 rfl rfl ?_
      obtain ⟨hi14, hs⟩ := chk_t hs
      refine go_laload (pc := 86) 13 dX6_layWalks_86 rfl hi14 ?_
      refine go_aload_n (pc := 87) 0 dX6_layWalks_87 rfl rfl ?_
      refine go_iload_n (pc := 88) 1 dX6_layWalks_88 rfl rfl ?_
      refine go_iload (pc := 89) dX6_layWalks_89 rfl ?_
      refine go_iload (pc := 91) dX6_layWalks_91 rfl ?_
      obtain ⟨x15, hc16, hs⟩ := bnd hs
      refine go_callV (bc := 0) (bs := 0) (mc := 0) (ms := 0) (d := d + 0) (pc := 93) (a := 0) (ci := 6) [vI y1, vI x0_, vI y5] [vL (x1_ y5.toNatClampNeg), vI y5, vR 13] dX6_layWalks_93 kX6_has mlX6_85 ivX6_has rfl rfl rfl rfl (Nat.le_of_ble_eq_true rfl) rfl (c_X6_has (d := d + 0) (res0 := x15) hc16) (fun r w' hq => ?_)
      obtain ⟨rfl, rfl⟩ := hq
      show Go mX6_layWalks (d + 1) false 0 0 96 [some (vR 0), some (vI y1), none, some (vI y3), some (vI y4), some (vI y5), some (vI x0_)] [vI x15, vL (x1_ y5.toNatClampNeg), vI y5, vR 13] (wM kn ne fi se ma on ot ta po ti nu mo wa x1_ oT cF bg ed sF qu qd tr) Q
      refine go_if_eq (pc := 96) 109 dX6_layWalks_96 (by decide) (fun h17 => ?_) (fun h17 => ?_)
      · have hs := it_t h17 hs
        refine go_lconst (pc := 109) (0 : Int64) dX6_layWalks_109 (by decide) ?_
        refine go_ladd (pc := 110) dX6_layWalks_110 ?_
        obtain ⟨hi18, hs⟩ := chk_t hs
        refine go_lastore (pc := 111) 13 dX6_layWalks_111 rfl hi18 (show Go mX6_layWalks (d + 1) false 0 0 112 [some (vR 0), some (vI y1), none, some (vI y3), some (vI y4), some (vI y5), some (vI x0_)] [] (wM kn ne fi se ma on ot ta po ti nu mo wa (vp_updL x1_ y5.toNatClampNeg ((x1_ y5.toNatClampNeg) + (0 : Int64))) oT cF bg ed sF qu qd tr) Q from ?_)
        refine go_iinc (pc := 112) (x0_ + (1 : Int32)) [some (vR 0), some (vI y1), none, some (vI y3), some (vI y4), some (vI y5), some (vI (x0_ + (1 : Int32)))] dX6_layWalks_112 rfl (iinc_1 _) (by decide) rfl ?_
        refine go_goto (pc := 115) 68 dX6_layWalks_115 (by decide) ?_
        obtain rfl := Option.some.inj hs
        exact hI (x0_ + (1 : Int32), vp_updL x1_ y5.toNatClampNeg ((x1_ y5.toNatClampNeg) + (0 : Int64))) rfl (x0_ + (1 : Int32)) (vp_updL x1_ y5.toNatClampNeg ((x1_ y5.toNatClampNeg) + (0 : Int64))) rfl
      · have hs := it_f h17 hs
        refine go_aload_n (pc := 99) 0 dX6_layWalks_99 rfl rfl ?_
        refine go_getfield (pc := 100) (v := vR 12) 0 6 12 dX6_layWalks_100 flX6_44 rfl rfl ?_
        refine go_iload (pc := 103) dX6_layWalks_103 rfl ?_
        obtain ⟨hi19, hs⟩ := chk_t hs
        refine go_laload (pc := 105) 12 dX6_layWalks_105 rfl hi19 ?_
        refine go_goto (pc := 106) 110 dX6_layWalks_106 (by decide) ?_
        refine go_ladd (pc := 110) dX6_layWalks_110 ?_
        obtain ⟨hi20, hs⟩ := chk_t hs
        refine go_lastore (pc := 111) 13 dX6_layWalks_111 rfl hi20 (show Go mX6_layWalks (d + 1) false 0 0 112 [some (vR 0), some (vI y1), none, some (vI y3), some (vI y4), some (vI y5), some (vI x0_)] [] (wM kn ne fi se ma on ot ta po ti nu mo wa (vp_updL x1_ y5.toNatClampNeg ((x1_ y5.toNatClampNeg) + (wa x0_.toNatClampNeg))) oT cF bg ed sF qu qd tr) Q from ?_)
        refine go_iinc (pc := 112) (x0_ + (1 : Int32)) [some (vR 0), some (vI y1), none, some (vI y3), some (vI y4), some (vI y5), some (vI (x0_ + (1 : Int32)))] dX6_layWalks_112 rfl (iinc_1 _) (by decide) rfl ?_
        refine go_goto (pc := 115) 68 dX6_layWalks_115 (by decide) ?_
        obtain rfl := Option.some.inj hs
        exact hI (x0_ + (1 : Int32), vp_updL x1_ y5.toNatClampNeg ((x1_ y5.toNatClampNeg) + (wa x0_.toNatClampNeg))) rfl (x0_ + (1 : Int32)) (vp_updL x1_ y5.toNatClampNeg ((x1_ y5.toNatClampNeg) + (wa x0_.toNatClampNeg))) rfl
set_option maxRecDepth 20000 in
theorem g_X6_layWalks_46 {d : Nat} {Q : Option AV → List AC → Prop} {y1 : Int32} {y3 : Int32} {y4 : Int32} (x0_ : Int32) (x1_ : (Nat → Int64)) (r : (Nat → Int64)) (hl : loop (b_X6_layWalks_46 kn ne wa y1) (x0_, x1_) = some r) (hk : Go mX6_layWalks (d + 1) false 0 0 124 [some (vR 0), some (vI y1), none, some (vI y3), some (vI y4), none, none] [] (wM kn ne fi se ma on ot ta po ti nu mo wa r oT cF bg ed sF qu qd tr) Q) : Go mX6_layWalks (d + 1) false 0 0 46 [some (vR 0), some (vI y1), none, some (vI y3), some (vI y4), some (vI x0_), none] [] (wM kn ne fi se ma on ot ta po ti nu mo wa x1_ oT cF bg ed sF qu qd tr) Q := by
  refine loop_go (P := fun x : Int32 × (Nat → Int64) => ∀ (x0_ : Int32) (x1_ : (Nat → Int64)), x = (x0_, x1_) → Go mX6_layWalks (d + 1) false 0 0 46 [some (vR 0), some (vI y1), none, some (vI y3), some (vI y4), some (vI x0_), none] [] (wM kn ne fi se ma on ot ta po ti nu mo wa x1_ oT cF bg ed sF qu qd tr) Q) (K := fun r : (Nat → Int64) => Go mX6_layWalks (d + 1) false 0 0 124 [some (vR 0), some (vI y1), none, some (vI y3), some (vI y4), none, none] [] (wM kn ne fi se ma on ot ta po ti nu mo wa r oT cF bg ed sF qu qd tr) Q) ?_ (x0_, x1_) r hl hk x0_ x1_ rfl
  · intro x y hs hI hE x0_ x1_ hx
    subst hx
    unfold b_X6_layWalks_46 at hs
    try dsimp only at hs
    refine go_iload (pc := 46) dX6_layWalks_46 rfl ?_
    refine go_aload_n (pc := 48) 0 dX6_layWalks_48 rfl rfl ?_
    refine go_getfield (pc := 49) (v := vR 1) 0 6 0 dX6_layWalks_49 flX6_7 rfl rfl ?_
    refine go_iload_n (pc := 52) 1 dX6_layWalks_52 rfl rfl ?_
    obtain ⟨hi9, hs⟩ := chk_t hs
    refine go_iaload (pc := 53) 1 dX6_layWalks_53 rfl hi9 ?_
    refine go_icmp_ge (pc := 54) 124 dX6_layWalks_54 (by decide) (fun h10 => ?_) (fun h10 => ?_)
    · have hs := it_t h10 hs
      obtain rfl := Option.some.inj hs
      refine go_sub (lv' := [some (vR 0), some (vI y1), none, some (vI y3), some (vI y4), none, none]) ⟨rfl, ⟨rfl, ⟨rfl, ⟨rfl, trivial⟩⟩⟩⟩ ?_
      exact hE x1_ rfl
    · have hs := it_f h10 hs
      refine go_aload_n (pc := 57) 0 dX6_layWalks_57 rfl rfl ?_
      refine go_getfield (pc := 58) (v := vR 13) 0 6 13 dX6_layWalks_58 flX6_47 rfl rfl ?_
      refine go_iload (pc := 61) dX6_layWalks_61 rfl ?_
      refine go_lconst (pc := 63) (0 : Int64) dX6_layWalks_63 (by decide) ?_
      obtain ⟨hi11, hs⟩ := chk_t hs
      refine go_lastore (pc := 64) 13 dX6_layWalks_64 rfl hi11 (show Go mX6_layWalks (d + 1) false 0 0 65 [some (vR 0), some (vI y1), none, some (vI y3), some (vI y4), some (vI x0_), none] [] (wM kn ne fi se ma on ot ta po ti nu mo wa (vp_updL x1_ x0_.toNatClampNeg (0 : Int64)) oT cF bg ed sF qu qd tr) Q from ?_)
      refine go_iconst (pc := 65) (0 : Int32) dX6_layWalks_65 (by decide) ?_
      refine go_istore (pc := 66) [some (vR 0), some (vI y1), none, some (vI y3), some (vI y4), some (vI x0_), some (vI (0 : Int32))] dX6_layWalks_66 (by decide) rfl ?_
      obtain ⟨e21, hl22, hs⟩ := bnd hs
      refine g_X6_layWalks_68 (d := d) (0 : Int32) (vp_updL x1_ x0_.toNatClampNeg (0 : Int64)) e21 hl22 ?_
      refine go_iinc (pc := 118) (x0_ + (1 : Int32)) [some (vR 0), some (vI y1), none, some (vI y3), some (vI y4), some (vI (x0_ + (1 : Int32))), none] dX6_layWalks_118 rfl (iinc_1 _) (by decide) rfl ?_
      refine go_goto (pc := 121) 46 dX6_layWalks_121 (by decide) ?_
      obtain rfl := Option.some.inj hs
      exact hI (x0_ + (1 : Int32), e21) rfl (x0_ + (1 : Int32)) e21 rfl
set_option maxRecDepth 20000 in
theorem g_X6_layWalks_127 {d : Nat} {Q : Option AV → List AC → Prop} {y1 : Int32} {y3 : Int32} {y4 : Int32} (x0_ : Int32) (x1_ : (Nat → Int64)) (r : (Nat → Int64)) (hl : loop (b_X6_layWalks_127 kn nx y1) (x0_, x1_) = some r) (hk : Go mX6_layWalks (d + 1) false 0 0 158 [some (vR 0), some (vI y1), none, some (vI y3), some (vI y4), none, none] [] (wM kn ne fi se ma on ot ta po ti nu mo r nx oT cF bg ed sF qu qd tr) Q) : Go mX6_layWalks (d + 1) false 0 0 127 [some (vR 0), some (vI y1), none, some (vI y3), some (vI y4), some (vI x0_), none] [] (wM kn ne fi se ma on ot ta po ti nu mo x1_ nx oT cF bg ed sF qu qd tr) Q := by
  refine loop_go (P := fun x : Int32 × (Nat → Int64) => ∀ (x0_ : Int32) (x1_ : (Nat → Int64)), x = (x0_, x1_) → Go mX6_layWalks (d + 1) false 0 0 127 [some (vR 0), some (vI y1), none, some (vI y3), some (vI y4), some (vI x0_), none] [] (wM kn ne fi se ma on ot ta po ti nu mo x1_ nx oT cF bg ed sF qu qd tr) Q) (K := fun r : (Nat → Int64) => Go mX6_layWalks (d + 1) false 0 0 158 [some (vR 0), some (vI y1), none, some (vI y3), some (vI y4), none, none] [] (wM kn ne fi se ma on ot ta po ti nu mo r nx oT cF bg ed sF qu qd tr) Q) ?_ (x0_, x1_) r hl hk x0_ x1_ rfl
  · intro x y hs hI hE x0_ x1_ hx
    subst hx
    unfold b_X6_layWalks_127 at hs
    try dsimp only at hs
    refine go_iload (pc := 127) dX6_layWalks_127 rfl ?_
    refine go_aload_n (pc := 129) 0 dX6_layWalks_129 rfl rfl ?_
    refine go_getfield (pc := 130) (v := vR 1) 0 6 0 dX6_layWalks_130 flX6_7 rfl rfl ?_
    refine go_iload_n (pc := 133) 1 dX6_layWalks_133 rfl rfl ?_
    obtain ⟨hi27, hs⟩ := chk_t hs
    refine go_iaload (pc := 134) 1 dX6_layWalks_134 rfl hi27 ?_
    refine go_icmp_ge (pc := 135) 158 dX6_layWalks_135 (by decide) (fun h28 => ?_) (fun h28 => ?_)
    · have hs := it_t h28 hs
      obtain rfl := Option.some.inj hs
      refine go_sub (lv' := [some (vR 0), some (vI y1), none, some (vI y3), some (vI y4), none, none]) ⟨rfl, ⟨rfl, ⟨rfl, ⟨rfl, trivial⟩⟩⟩⟩ ?_
      exact hE x1_ rfl
    · have hs := it_f h28 hs
      refine go_aload_n (pc := 138) 0 dX6_layWalks_138 rfl rfl ?_
      refine go_getfield (pc := 139) (v := vR 12) 0 6 12 dX6_layWalks_139 flX6_44 rfl rfl ?_
      refine go_iload (pc := 142) dX6_layWalks_142 rfl ?_
      refine go_aload_n (pc := 144) 0 dX6_layWalks_144 rfl rfl ?_
      refine go_getfield (pc := 145) (v := vR 13) 0 6 13 dX6_layWalks_145 flX6_47 rfl rfl ?_
      refine go_iload (pc := 148) dX6_layWalks_148 rfl ?_
      obtain ⟨hi29, hs⟩ := chk_t hs
      refine go_laload (pc := 150) 13 dX6_layWalks_150 rfl hi29 ?_
      obtain ⟨hi30, hs⟩ := chk_t hs
      refine go_lastore (pc := 151) 12 dX6_layWalks_151 rfl hi30 (show Go mX6_layWalks (d + 1) false 0 0 152 [some (vR 0), some (vI y1), none, some (vI y3), some (vI y4), some (vI x0_), none] [] (wM kn ne fi se ma on ot ta po ti nu mo (vp_updL x1_ x0_.toNatClampNeg (nx x0_.toNatClampNeg)) nx oT cF bg ed sF qu qd tr) Q from ?_)
      refine go_iinc (pc := 152) (x0_ + (1 : Int32)) [some (vR 0), some (vI y1), none, some (vI y3), some (vI y4), some (vI (x0_ + (1 : Int32))), none] dX6_layWalks_152 rfl (iinc_1 _) (by decide) rfl ?_
      refine go_goto (pc := 155) 127 dX6_layWalks_155 (by decide) ?_
      obtain rfl := Option.some.inj hs
      exact hI (x0_ + (1 : Int32), vp_updL x1_ x0_.toNatClampNeg (nx x0_.toNatClampNeg)) rfl (x0_ + (1 : Int32)) (vp_updL x1_ x0_.toNatClampNeg (nx x0_.toNatClampNeg)) rfl
set_option maxRecDepth 20000 in
theorem g_X6_layWalks_37 {d : Nat} {Q : Option AV → List AC → Prop} {y1 : Int32} {y3 : Int32} (x0_ : Int32) (x1_ : (Nat → Int64)) (x2_ : (Nat → Int64)) (r : (Nat → Int64) × (Nat → Int64)) (hl : loop (b_X6_layWalks_37 kn ne y1 y3) (x0_, x1_, x2_) = some r) (hk : ∀ (r0_ : (Nat → Int64)) (r1_ : (Nat → Int64)), r = (r0_, r1_) → Go mX6_layWalks (d + 1) false 0 0 164 [none, none, none, none, none, none, none] [] (wM kn ne fi se ma on ot ta po ti nu mo r0_ r1_ oT cF bg ed sF qu qd tr) Q) : Go mX6_layWalks (d + 1) false 0 0 37 [some (vR 0), some (vI y1), none, some (vI y3), some (vI x0_), none, none] [] (wM kn ne fi se ma on ot ta po ti nu mo x1_ x2_ oT cF bg ed sF qu qd tr) Q := by
  refine loop_go (P := fun x : Int32 × (Nat → Int64) × (Nat → Int64) => ∀ (x0_ : Int32) (x1_ : (Nat → Int64)) (x2_ : (Nat → Int64)), x = (x0_, x1_, x2_) → Go mX6_layWalks (d + 1) false 0 0 37 [some (vR 0), some (vI y1), none, some (vI y3), some (vI x0_), none, none] [] (wM kn ne fi se ma on ot ta po ti nu mo x1_ x2_ oT cF bg ed sF qu qd tr) Q) (K := fun r : (Nat → Int64) × (Nat → Int64) => ∀ (r0_ : (Nat → Int64)) (r1_ : (Nat → Int64)), r = (r0_, r1_) → Go mX6_layWalks (d + 1) false 0 0 164 [none, none, none, none, none, none, none] [] (wM kn ne fi se ma on ot ta po ti nu mo r0_ r1_ oT cF bg ed sF qu qd tr) Q) ?_ (x0_, x1_, x2_) r hl hk x0_ x1_ x2_ rfl
  · intro x y hs hI hE x0_ x1_ x2_ hx
    subst hx
    unfold b_X6_layWalks_37 at hs
    try dsimp only at hs
    refine go_iload (pc := 37) dX6_layWalks_37 rfl ?_
    refine go_iload_n (pc := 39) 3 dX6_layWalks_39 rfl rfl ?_
    refine go_icmp_ge (pc := 40) 164 dX6_layWalks_40 (by decide) (fun h8 => ?_) (fun h8 => ?_)
    · have hs := it_t h8 hs
      obtain rfl := Option.some.inj hs
      refine go_sub (lv' := [none, none, none, none, none, none, none]) trivial ?_
      exact (hE (x1_, x2_) rfl) x1_ x2_ rfl
    · have hs := it_f h8 hs
      refine go_iconst (pc := 43) (0 : Int32) dX6_layWalks_43 (by decide) ?_
      refine go_istore (pc := 44) [some (vR 0), some (vI y1), none, some (vI y3), some (vI x0_), some (vI (0 : Int32)), none] dX6_layWalks_44 (by decide) rfl ?_
      obtain ⟨e24, hl25, hs⟩ := bnd hs
      refine g_X6_layWalks_46 (d := d) (0 : Int32) x2_ e24 hl25 ?_
      refine go_iconst (pc := 124) (0 : Int32) dX6_layWalks_124 (by decide) ?_
      refine go_istore (pc := 125) [some (vR 0), some (vI y1), none, some (vI y3), some (vI x0_), some (vI (0 : Int32)), none] dX6_layWalks_125 (by decide) rfl ?_
      obtain ⟨e31, hl32, hs⟩ := bnd hs
      refine g_X6_layWalks_127 (d := d) (0 : Int32) x1_ e31 hl32 ?_
      refine go_iinc (pc := 158) (x0_ + (1 : Int32)) [some (vR 0), some (vI y1), none, some (vI y3), some (vI (x0_ + (1 : Int32))), none, none] dX6_layWalks_158 rfl (iinc_1 _) (by decide) rfl ?_
      refine go_goto (pc := 161) 37 dX6_layWalks_161 (by decide) ?_
      obtain rfl := Option.some.inj hs
      exact hI (x0_ + (1 : Int32), e31, e24) rfl (x0_ + (1 : Int32)) e31 e24 rfl
set_option maxRecDepth 20000 in
theorem c_X6_layWalks {d : Nat}  {a1 : Int32} {a2 : Int32} {a3 : Int32} {res0 : (Nat → Int64)} {res1 : (Nat → Int64)} (hs : s_X6_layWalks kn ne wa nx a1 a2 a3 = some (res0, res1)) : Calls mX6_layWalks (d + 1) false 0 0 [vR 0, vI a1, vI a2, vI a3] (wM kn ne fi se ma on ot ta po ti nu mo wa nx oT cF bg ed sF qu qd tr) (fun r w' => r = none ∧ w' = (wM kn ne fi se ma on ot ta po ti nu mo res0 res1 oT cF bg ed sF qu qd tr)) := by
  unfold s_X6_layWalks at hs
  refine Calls.of kX6_layWalks 3 [some (vR 0), some (vI a1), some (vI a2), some (vI a3), none, none, none] rfl (Nat.le_of_ble_eq_true rfl) ?_
  refine go_iconst (pc := 0) (0 : Int32) dX6_layWalks_0 (by decide) ?_
  refine go_istore (pc := 1) [some (vR 0), some (vI a1), some (vI a2), some (vI a3), some (vI (0 : Int32)), none, none] dX6_layWalks_1 (by decide) rfl ?_
  obtain ⟨e5, hl6, hs⟩ := bnd hs
  refine g_X6_layWalks_3 (d := d) (0 : Int32) wa e5 hl6 ?_
  refine go_iconst (pc := 34) (0 : Int32) dX6_layWalks_34 (by decide) ?_
  refine go_istore (pc := 35) [some (vR 0), some (vI a1), none, some (vI a3), some (vI (0 : Int32)), none, none] dX6_layWalks_35 (by decide) rfl ?_
  obtain ⟨e34, hl35, hs⟩ := bnd hs
  refine g_X6_layWalks_37 (d := d) (0 : Int32) e5 nx e34 hl35 ?_
  intro v36 v37 hv38
  subst hv38
  try dsimp only at hs
  cases hs
  exact go_return (st := []) (pc := 164) dX6_layWalks_164 rfl (fun h => by cases h) ⟨rfl, rfl⟩
noncomputable def s_X6_walks (kn : (Nat → Int32)) (ne : (Nat → Int32)) (wa : (Nat → Int64)) (nx : (Nat → Int64)) (a1 : Int32) (a2 : Int32) (a3 : Int32) (a4 : Int32) : Option (Int64 × (Nat → Int64) × (Nat → Int64)) := (s_X6_isKnot kn a1 a2).bind (fun x1 => if x1 = 0 then (some ((-2 : Int64), wa, nx)) else ((s_X6_isKnot kn a1 a3).bind (fun x4 => if x4 = 0 then (some ((-2 : Int64), wa, nx)) else ((s_X6_in a4 (0 : Int32) (12 : Int32)).bind (fun x7 => if x7 = 0 then (some ((-2 : Int64), wa, nx)) else ((s_X6_layWalks kn ne wa nx a1 a2 a4).bind (fun x10 => chk a3 10 (some (x10.1 a3.toNatClampNeg, x10.1, x10.2)))))))))
set_option maxRecDepth 20000 in
theorem c_X6_walks {d : Nat}  {a1 : Int32} {a2 : Int32} {a3 : Int32} {a4 : Int32} {res0 : Int64} {res1 : (Nat → Int64)} {res2 : (Nat → Int64)} (hs : s_X6_walks kn ne wa nx a1 a2 a3 a4 = some (res0, res1, res2)) : Calls mX6_walks (d + 3) false 0 0 [vR 0, vI a1, vI a2, vI a3, vI a4] (wM kn ne fi se ma on ot ta po ti nu mo wa nx oT cF bg ed sF qu qd tr) (fun r w' => r = some (vL res0) ∧ w' = (wM kn ne fi se ma on ot ta po ti nu mo res1 res2 oT cF bg ed sF qu qd tr)) := by
  unfold s_X6_walks at hs
  refine Calls.of kX6_walks 0 [some (vR 0), some (vI a1), some (vI a2), some (vI a3), some (vI a4)] rfl (Nat.le_of_ble_eq_true rfl) ?_
  refine go_aload_n (pc := 0) 0 dX6_walks_0 rfl rfl ?_
  refine go_iload_n (pc := 1) 1 dX6_walks_1 rfl rfl ?_
  refine go_iload_n (pc := 2) 2 dX6_walks_2 rfl rfl ?_
  obtain ⟨x1, hc2, hs⟩ := bnd hs
  refine go_callV (bc := 0) (bs := 0) (mc := 0) (ms := 0) (d := d + 2) (pc := 3) (a := 0) (ci := 6) [vI a1, vI a2] [] dX6_walks_3 kX6_isKnot mlX6_81 ivX6_isKnot rfl rfl rfl rfl (Nat.le_of_ble_eq_true rfl) rfl (c_X6_isKnot (d := d + 0) (res0 := x1) hc2) (fun r w' hq => ?_)
  obtain ⟨rfl, rfl⟩ := hq
  show Go mX6_walks (d + 3) false 0 0 6 [some (vR 0), some (vI a1), some (vI a2), some (vI a3), some (vI a4)] [vI x1] (wM kn ne fi se ma on ot ta po ti nu mo wa nx oT cF bg ed sF qu qd tr) _
  refine go_if_eq (pc := 6) 29 dX6_walks_6 (by decide) (fun h3 => ?_) (fun h3 => ?_)
  · have hs := it_t h3 hs
    refine go_ldc2 (pc := 29) (-2 : Int64) dX6_walks_29 kcX6_145 ?_
    cases hs
    exact go_lreturn (st := []) (pc := 32) dX6_walks_32 rfl (fun h => by cases h) ⟨rfl, rfl⟩
  · have hs := it_f h3 hs
    refine go_aload_n (pc := 9) 0 dX6_walks_9 rfl rfl ?_
    refine go_iload_n (pc := 10) 1 dX6_walks_10 rfl rfl ?_
    refine go_iload_n (pc := 11) 3 dX6_walks_11 rfl rfl ?_
    obtain ⟨x4, hc5, hs⟩ := bnd hs
    refine go_callV (bc := 0) (bs := 0) (mc := 0) (ms := 0) (d := d + 2) (pc := 12) (a := 0) (ci := 6) [vI a1, vI a3] [] dX6_walks_12 kX6_isKnot mlX6_81 ivX6_isKnot rfl rfl rfl rfl (Nat.le_of_ble_eq_true rfl) rfl (c_X6_isKnot (d := d + 0) (res0 := x4) hc5) (fun r w' hq => ?_)
    obtain ⟨rfl, rfl⟩ := hq
    show Go mX6_walks (d + 3) false 0 0 15 [some (vR 0), some (vI a1), some (vI a2), some (vI a3), some (vI a4)] [vI x4] (wM kn ne fi se ma on ot ta po ti nu mo wa nx oT cF bg ed sF qu qd tr) _
    refine go_if_eq (pc := 15) 29 dX6_walks_15 (by decide) (fun h6 => ?_) (fun h6 => ?_)
    · have hs := it_t h6 hs
      refine go_ldc2 (pc := 29) (-2 : Int64) dX6_walks_29 kcX6_145 ?_
      cases hs
      exact go_lreturn (st := []) (pc := 32) dX6_walks_32 rfl (fun h => by cases h) ⟨rfl, rfl⟩
    · have hs := it_f h6 hs
      refine go_iload (pc := 18) dX6_walks_18 rfl ?_
      refine go_iconst (pc := 20) (0 : Int32) dX6_walks_20 (by decide) ?_
      refine go_bipush (pc := 21) (12 : Int32) dX6_walks_21 (by decide) ?_
      obtain ⟨x7, hc8, hs⟩ := bnd hs
      refine go_callS (bc := 0) (bs := 0) (mc := 0) (ms := 0) (d := d + 2) (pc := 23) [vI a4, vI (0 : Int32), vI (12 : Int32)] [] dX6_walks_23 kX6_in mlX6_65 isX6_in rfl (Nat.le_of_ble_eq_true rfl) rfl (c_X6_in (d := d + 2) (res0 := x7) hc8) (fun r w' hq => ?_)
      obtain ⟨rfl, rfl⟩ := hq
      show Go mX6_walks (d + 3) false 0 0 26 [some (vR 0), some (vI a1), some (vI a2), some (vI a3), some (vI a4)] [vI x7] (wM kn ne fi se ma on ot ta po ti nu mo wa nx oT cF bg ed sF qu qd tr) _
      refine go_if_ne (pc := 26) 33 dX6_walks_26 (by decide) (fun h9 => ?_) (fun h9 => ?_)
      · have hs := it_f h9 hs
        refine go_aload_n (pc := 33) 0 dX6_walks_33 rfl rfl ?_
        refine go_iload_n (pc := 34) 1 dX6_walks_34 rfl rfl ?_
        refine go_iload_n (pc := 35) 2 dX6_walks_35 rfl rfl ?_
        refine go_iload (pc := 36) dX6_walks_36 rfl ?_
        obtain ⟨x10, hc11, hs⟩ := bnd hs
        refine go_callV (bc := 0) (bs := 0) (mc := 0) (ms := 0) (d := d + 2) (pc := 38) (a := 0) (ci := 6) [vI a1, vI a2, vI a4] [] dX6_walks_38 kX6_layWalks mlX6_147 ivX6_layWalks rfl rfl rfl rfl (Nat.le_of_ble_eq_true rfl) rfl (c_X6_layWalks (d := d + 1) (res0 := x10.1) (res1 := x10.2) hc11) (fun r w' hq => ?_)
        obtain ⟨rfl, rfl⟩ := hq
        show Go mX6_walks (d + 3) false 0 0 41 [some (vR 0), some (vI a1), some (vI a2), some (vI a3), some (vI a4)] [] (wM kn ne fi se ma on ot ta po ti nu mo x10.1 x10.2 oT cF bg ed sF qu qd tr) _
        refine go_aload_n (pc := 41) 0 dX6_walks_41 rfl rfl ?_
        refine go_getfield (pc := 42) (v := vR 12) 0 6 12 dX6_walks_42 flX6_44 rfl rfl ?_
        refine go_iload_n (pc := 45) 3 dX6_walks_45 rfl rfl ?_
        obtain ⟨hi12, hs⟩ := chk_t hs
        refine go_laload (pc := 46) 12 dX6_walks_46 rfl hi12 ?_
        cases hs
        exact go_lreturn (st := []) (pc := 47) dX6_walks_47 rfl (fun h => by cases h) ⟨rfl, rfl⟩
      · have hs := it_t h9 hs
        refine go_ldc2 (pc := 29) (-2 : Int64) dX6_walks_29 kcX6_145 ?_
        cases hs
        exact go_lreturn (st := []) (pc := 32) dX6_walks_32 rfl (fun h => by cases h) ⟨rfl, rfl⟩
noncomputable def b_X6_uneven_53 (y3 : Int32) (y4 : Int32) (x : Int64 × Int32) : Option ((Int64 × Int32) ⊕ (Int64)) := if y3 ≤ x.2 then (some (Sum.inr x.1)) else (some (Sum.inl (x.1 * y4.toInt64, x.2 + (1 : Int32))))
noncomputable def b_X6_uneven_79 (kn : (Nat → Int32)) (wa : (Nat → Int64)) (y1 : Int32) (y5 : Int64) (x : Int64 × Int32) : Option ((Int64 × Int32) ⊕ (Int64)) := chk y1 4 (if (kn y1.toNatClampNeg) ≤ x.2 then (some (Sum.inr x.1)) else (chk y1 4 (chk x.2 10 (lt' ((((kn y1.toNatClampNeg).toInt64) * (wa x.2.toNatClampNeg)) - y5) (fun z20 => if 0 ≤ (lg_cmp z20 (0 : Int64)) then (some (Sum.inl (x.1 + z20, x.2 + (1 : Int32)))) else (some (Sum.inl (x.1 + (-z20), x.2 + (1 : Int32)))))))))
noncomputable def s_X6_uneven (kn : (Nat → Int32)) (ne : (Nat → Int32)) (wa : (Nat → Int64)) (nx : (Nat → Int64)) (a1 : Int32) (a2 : Int32) (a3 : Int32) : Option (Int64 × (Nat → Int64) × (Nat → Int64)) := (s_X6_isKnot kn a1 a2).bind (fun x1 => if x1 = 0 then (some ((-2 : Int64), wa, nx)) else ((s_X6_in a3 (0 : Int32) (12 : Int32)).bind (fun x4 => if x4 = 0 then (some ((-2 : Int64), wa, nx)) else ((s_X6_degreeOf kn ne a1).bind (fun x7 => if x7 = (-1 : Int32) then (some ((-3 : Int64), wa, nx)) else ((s_X6_layWalks kn ne wa nx a1 a2 a3).bind (fun x10 => (loop (b_X6_uneven_53 a3 x7) ((1 : Int64), (0 : Int32))).bind (fun e13 => (loop (b_X6_uneven_79 kn x10.1 a1 e13) ((0 : Int64), (0 : Int32))).bind (fun e22 => some (e22, x10.1, x10.2))))))))))
set_option maxRecDepth 20000 in
theorem g_X6_uneven_53 {d : Nat} {Q : Option AV → List AC → Prop} {y1 : Int32} {y3 : Int32} {y4 : Int32} (x0_ : Int64) (x1_ : Int32) (r : Int64) (hl : loop (b_X6_uneven_53 y3 y4) (x0_, x1_) = some r) (hk : Go mX6_uneven (d + 3) false 0 0 73 [some (vR 0), some (vI y1), none, none, none, some (vL r), none, none, none, none, none, none] [] (wM kn ne fi se ma on ot ta po ti nu mo wa nx oT cF bg ed sF qu qd tr) Q) : Go mX6_uneven (d + 3) false 0 0 53 [some (vR 0), some (vI y1), none, some (vI y3), some (vI y4), some (vL x0_), none, some (vI x1_), none, none, none, none] [] (wM kn ne fi se ma on ot ta po ti nu mo wa nx oT cF bg ed sF qu qd tr) Q := by
  refine loop_go (P := fun x : Int64 × Int32 => ∀ (x0_ : Int64) (x1_ : Int32), x = (x0_, x1_) → Go mX6_uneven (d + 3) false 0 0 53 [some (vR 0), some (vI y1), none, some (vI y3), some (vI y4), some (vL x0_), none, some (vI x1_), none, none, none, none] [] (wM kn ne fi se ma on ot ta po ti nu mo wa nx oT cF bg ed sF qu qd tr) Q) (K := fun r : Int64 => Go mX6_uneven (d + 3) false 0 0 73 [some (vR 0), some (vI y1), none, none, none, some (vL r), none, none, none, none, none, none] [] (wM kn ne fi se ma on ot ta po ti nu mo wa nx oT cF bg ed sF qu qd tr) Q) ?_ (x0_, x1_) r hl hk x0_ x1_ rfl
  · intro x y hs hI hE x0_ x1_ hx
    subst hx
    unfold b_X6_uneven_53 at hs
    try dsimp only at hs
    refine go_iload (pc := 53) dX6_uneven_53 rfl ?_
    refine go_iload_n (pc := 55) 3 dX6_uneven_55 rfl rfl ?_
    refine go_icmp_ge (pc := 56) 73 dX6_uneven_56 (by decide) (fun h12 => ?_) (fun h12 => ?_)
    · have hs := it_t h12 hs
      obtain rfl := Option.some.inj hs
      refine go_sub (lv' := [some (vR 0), some (vI y1), none, none, none, some (vL x0_), none, none, none, none, none, none]) ⟨rfl, ⟨rfl, ⟨rfl, trivial⟩⟩⟩ ?_
      exact hE x0_ rfl
    · have hs := it_f h12 hs
      refine go_lload (pc := 59) dX6_uneven_59 rfl ?_
      refine go_iload (pc := 61) dX6_uneven_61 rfl ?_
      refine go_i2l (pc := 63) dX6_uneven_63 ?_
      refine go_lmul (pc := 64) dX6_uneven_64 ?_
      refine go_lstore (pc := 65) [some (vR 0), some (vI y1), none, some (vI y3), some (vI y4), some (vL (x0_ * y4.toInt64)), none, some (vI x1_), none, none, none, none] dX6_uneven_65 (by decide) rfl ?_
      refine go_iinc (pc := 67) (x1_ + (1 : Int32)) [some (vR 0), some (vI y1), none, some (vI y3), some (vI y4), some (vL (x0_ * y4.toInt64)), none, some (vI (x1_ + (1 : Int32))), none, none, none, none] dX6_uneven_67 rfl (iinc_1 _) (by decide) rfl ?_
      refine go_goto (pc := 70) 53 dX6_uneven_70 (by decide) ?_
      obtain rfl := Option.some.inj hs
      exact hI (x0_ * y4.toInt64, x1_ + (1 : Int32)) rfl (x0_ * y4.toInt64) (x1_ + (1 : Int32)) rfl
set_option maxRecDepth 20000 in
theorem g_X6_uneven_79 {d : Nat} {Q : Option AV → List AC → Prop} {y1 : Int32} {y5 : Int64} (x0_ : Int64) (x1_ : Int32) (r : Int64) (hl : loop (b_X6_uneven_79 kn wa y1 y5) (x0_, x1_) = some r) (hk : Go mX6_uneven (d + 3) false 0 0 136 [none, none, none, none, none, none, none, some (vL r), none, none, none, none] [] (wM kn ne fi se ma on ot ta po ti nu mo wa nx oT cF bg ed sF qu qd tr) Q) : Go mX6_uneven (d + 3) false 0 0 79 [some (vR 0), some (vI y1), none, none, none, some (vL y5), none, some (vL x0_), none, some (vI x1_), none, none] [] (wM kn ne fi se ma on ot ta po ti nu mo wa nx oT cF bg ed sF qu qd tr) Q := by
  refine loop_go (P := fun x : Int64 × Int32 => ∀ (x0_ : Int64) (x1_ : Int32), x = (x0_, x1_) → Go mX6_uneven (d + 3) false 0 0 79 [some (vR 0), some (vI y1), none, none, none, some (vL y5), none, some (vL x0_), none, some (vI x1_), none, none] [] (wM kn ne fi se ma on ot ta po ti nu mo wa nx oT cF bg ed sF qu qd tr) Q) (K := fun r : Int64 => Go mX6_uneven (d + 3) false 0 0 136 [none, none, none, none, none, none, none, some (vL r), none, none, none, none] [] (wM kn ne fi se ma on ot ta po ti nu mo wa nx oT cF bg ed sF qu qd tr) Q) ?_ (x0_, x1_) r hl hk x0_ x1_ rfl
  · intro x y hs hI hE x0_ x1_ hx
    subst hx
    unfold b_X6_uneven_79 at hs
    try dsimp only at hs
    refine go_iload (pc := 79) dX6_uneven_79 rfl ?_
    refine go_aload_n (pc := 81) 0 dX6_uneven_81 rfl rfl ?_
    refine go_getfield (pc := 82) (v := vR 1) 0 6 0 dX6_uneven_82 flX6_7 rfl rfl ?_
    refine go_iload_n (pc := 85) 1 dX6_uneven_85 rfl rfl ?_
    obtain ⟨hi16, hs⟩ := chk_t hs
    refine go_iaload (pc := 86) 1 dX6_uneven_86 rfl hi16 ?_
    refine go_icmp_ge (pc := 87) 136 dX6_uneven_87 (by decide) (fun h17 => ?_) (fun h17 => ?_)
    · have hs := it_t h17 hs
      obtain rfl := Option.some.inj hs
      refine go_sub (lv' := [none, none, none, none, none, none, none, some (vL x0_), none, none, none, none]) ⟨rfl, trivial⟩ ?_
      exact hE x0_ rfl
    · have hs := it_f h17 hs
      refine go_aload_n (pc := 90) 0 dX6_uneven_90 rfl rfl ?_
      refine go_getfield (pc := 91) (v := vR 1) 0 6 0 dX6_uneven_91 flX6_7 rfl rfl ?_
      refine go_iload_n (pc := 94) 1 dX6_uneven_94 rfl rfl ?_
      obtain ⟨hi18, hs⟩ := chk_t hs
      refine go_iaload (pc := 95) 1 dX6_uneven_95 rfl hi18 ?_
      refine go_i2l (pc := 96) dX6_uneven_96 ?_
      refine go_aload_n (pc := 97) 0 dX6_uneven_97 rfl rfl ?_
      refine go_getfield (pc := 98) (v := vR 12) 0 6 12 dX6_uneven_98 flX6_44 rfl rfl ?_
      refine go_iload (pc := 101) dX6_uneven_101 rfl ?_
      obtain ⟨hi19, hs⟩ := chk_t hs
      refine go_laload (pc := 103) 12 dX6_uneven_103 rfl hi19 ?_
      refine go_lmul (pc := 104) dX6_uneven_104 ?_
      refine go_lload (pc := 105) dX6_uneven_105 rfl ?_
      refine go_lsub (pc := 107) dX6_uneven_107 ?_
      refine go_topl (fun z20 ez20 => ?_)
      have hs := lt_t ez20 hs
      refine go_lstore (pc := 108) [some (vR 0), some (vI y1), none, none, none, some (vL y5), none, some (vL x0_), none, some (vI x1_), some (vL z20), none] dX6_uneven_108 (by decide) rfl ?_
      refine go_lload (pc := 110) dX6_uneven_110 rfl ?_
      refine go_lload (pc := 112) dX6_uneven_112 rfl ?_
      refine go_lconst (pc := 114) (0 : Int64) dX6_uneven_114 (by decide) ?_
      refine go_lcmp (pc := 115) dX6_uneven_115 ?_
      refine go_if_ge (pc := 116) 125 dX6_uneven_116 (by decide) (fun h21 => ?_) (fun h21 => ?_)
      · have hs := it_t h21 hs
        refine go_lload (pc := 125) dX6_uneven_125 rfl ?_
        refine go_ladd (pc := 127) dX6_uneven_127 ?_
        refine go_lstore (pc := 128) [some (vR 0), some (vI y1), none, none, none, some (vL y5), none, some (vL (x0_ + z20)), none, some (vI x1_), some (vL z20), none] dX6_uneven_128 (by decide) rfl ?_
        refine go_iinc (pc := 130) (x1_ + (1 : Int32)) [some (vR 0), some (vI y1), none, none, none, some (vL y5), none, some (vL (x0_ + z20)), none, some (vI (x1_ + (1 : Int32))), some (vL z20), none] dX6_uneven_130 rfl (iinc_1 _) (by decide) rfl ?_
        refine go_goto (pc := 133) 79 dX6_uneven_133 (by decide) ?_
        obtain rfl := Option.some.inj hs
        refine go_sub (lv' := [some (vR 0), some (vI y1), none, none, none, some (vL y5), none, some (vL (x0_ + z20)), none, some (vI (x1_ + (1 : Int32))), none, none]) ⟨rfl, ⟨rfl, ⟨rfl, ⟨rfl, ⟨rfl, trivial⟩⟩⟩⟩⟩ ?_
        exact hI (x0_ + z20, x1_ + (1 : Int32)) rfl (x0_ + z20) (x1_ + (1 : Int32)) rfl
      · have hs := it_f h21 hs
        refine go_lload (pc := 119) dX6_uneven_119 rfl ?_
        refine go_lneg (pc := 121) dX6_uneven_121 ?_
        refine go_goto (pc := 122) 127 dX6_uneven_122 (by decide) ?_
        refine go_ladd (pc := 127) dX6_uneven_127 ?_
        refine go_lstore (pc := 128) [some (vR 0), some (vI y1), none, none, none, some (vL y5), none, some (vL (x0_ + (-z20))), none, some (vI x1_), some (vL z20), none] dX6_uneven_128 (by decide) rfl ?_
        refine go_iinc (pc := 130) (x1_ + (1 : Int32)) [some (vR 0), some (vI y1), none, none, none, some (vL y5), none, some (vL (x0_ + (-z20))), none, some (vI (x1_ + (1 : Int32))), some (vL z20), none] dX6_uneven_130 rfl (iinc_1 _) (by decide) rfl ?_
        refine go_goto (pc := 133) 79 dX6_uneven_133 (by decide) ?_
        obtain rfl := Option.some.inj hs
        refine go_sub (lv' := [some (vR 0), some (vI y1), none, none, none, some (vL y5), none, some (vL (x0_ + (-z20))), none, some (vI (x1_ + (1 : Int32))), none, none]) ⟨rfl, ⟨rfl, ⟨rfl, ⟨rfl, ⟨rfl, trivial⟩⟩⟩⟩⟩ ?_
        exact hI (x0_ + (-z20), x1_ + (1 : Int32)) rfl (x0_ + (-z20)) (x1_ + (1 : Int32)) rfl
set_option maxRecDepth 20000 in
theorem c_X6_uneven {d : Nat}  {a1 : Int32} {a2 : Int32} {a3 : Int32} {res0 : Int64} {res1 : (Nat → Int64)} {res2 : (Nat → Int64)} (hs : s_X6_uneven kn ne wa nx a1 a2 a3 = some (res0, res1, res2)) : Calls mX6_uneven (d + 3) false 0 0 [vR 0, vI a1, vI a2, vI a3] (wM kn ne fi se ma on ot ta po ti nu mo wa nx oT cF bg ed sF qu qd tr) (fun r w' => r = some (vL res0) ∧ w' = (wM kn ne fi se ma on ot ta po ti nu mo res1 res2 oT cF bg ed sF qu qd tr)) := by
  unfold s_X6_uneven at hs
  refine Calls.of kX6_uneven 8 [some (vR 0), some (vI a1), some (vI a2), some (vI a3), none, none, none, none, none, none, none, none] rfl (Nat.le_of_ble_eq_true rfl) ?_
  refine go_aload_n (pc := 0) 0 dX6_uneven_0 rfl rfl ?_
  refine go_iload_n (pc := 1) 1 dX6_uneven_1 rfl rfl ?_
  refine go_iload_n (pc := 2) 2 dX6_uneven_2 rfl rfl ?_
  obtain ⟨x1, hc2, hs⟩ := bnd hs
  refine go_callV (bc := 0) (bs := 0) (mc := 0) (ms := 0) (d := d + 2) (pc := 3) (a := 0) (ci := 6) [vI a1, vI a2] [] dX6_uneven_3 kX6_isKnot mlX6_81 ivX6_isKnot rfl rfl rfl rfl (Nat.le_of_ble_eq_true rfl) rfl (c_X6_isKnot (d := d + 0) (res0 := x1) hc2) (fun r w' hq => ?_)
  obtain ⟨rfl, rfl⟩ := hq
  show Go mX6_uneven (d + 3) false 0 0 6 [some (vR 0), some (vI a1), some (vI a2), some (vI a3), none, none, none, none, none, none, none, none] [vI x1] (wM kn ne fi se ma on ot ta po ti nu mo wa nx oT cF bg ed sF qu qd tr) _
  refine go_if_eq (pc := 6) 19 dX6_uneven_6 (by decide) (fun h3 => ?_) (fun h3 => ?_)
  · have hs := it_t h3 hs
    refine go_ldc2 (pc := 19) (-2 : Int64) dX6_uneven_19 kcX6_145 ?_
    cases hs
    exact go_lreturn (st := []) (pc := 22) dX6_uneven_22 rfl (fun h => by cases h) ⟨rfl, rfl⟩
  · have hs := it_f h3 hs
    refine go_iload_n (pc := 9) 3 dX6_uneven_9 rfl rfl ?_
    refine go_iconst (pc := 10) (0 : Int32) dX6_uneven_10 (by decide) ?_
    refine go_bipush (pc := 11) (12 : Int32) dX6_uneven_11 (by decide) ?_
    obtain ⟨x4, hc5, hs⟩ := bnd hs
    refine go_callS (bc := 0) (bs := 0) (mc := 0) (ms := 0) (d := d + 2) (pc := 13) [vI a3, vI (0 : Int32), vI (12 : Int32)] [] dX6_uneven_13 kX6_in mlX6_65 isX6_in rfl (Nat.le_of_ble_eq_true rfl) rfl (c_X6_in (d := d + 2) (res0 := x4) hc5) (fun r w' hq => ?_)
    obtain ⟨rfl, rfl⟩ := hq
    show Go mX6_uneven (d + 3) false 0 0 16 [some (vR 0), some (vI a1), some (vI a2), some (vI a3), none, none, none, none, none, none, none, none] [vI x4] (wM kn ne fi se ma on ot ta po ti nu mo wa nx oT cF bg ed sF qu qd tr) _
    refine go_if_ne (pc := 16) 23 dX6_uneven_16 (by decide) (fun h6 => ?_) (fun h6 => ?_)
    · have hs := it_f h6 hs
      refine go_aload_n (pc := 23) 0 dX6_uneven_23 rfl rfl ?_
      refine go_iload_n (pc := 24) 1 dX6_uneven_24 rfl rfl ?_
      obtain ⟨x7, hc8, hs⟩ := bnd hs
      refine go_callV (bc := 0) (bs := 0) (mc := 0) (ms := 0) (d := d + 2) (pc := 25) (a := 0) (ci := 6) [vI a1] [] dX6_uneven_25 kX6_degreeOf mlX6_99 ivX6_degreeOf rfl rfl rfl rfl (Nat.le_of_ble_eq_true rfl) rfl (c_X6_degreeOf (d := d + 1) (res0 := x7) hc8) (fun r w' hq => ?_)
      obtain ⟨rfl, rfl⟩ := hq
      show Go mX6_uneven (d + 3) false 0 0 28 [some (vR 0), some (vI a1), some (vI a2), some (vI a3), none, none, none, none, none, none, none, none] [vI x7] (wM kn ne fi se ma on ot ta po ti nu mo wa nx oT cF bg ed sF qu qd tr) _
      refine go_istore (pc := 28) [some (vR 0), some (vI a1), some (vI a2), some (vI a3), some (vI x7), none, none, none, none, none, none, none] dX6_uneven_28 (by decide) rfl ?_
      refine go_iload (pc := 30) dX6_uneven_30 rfl ?_
      refine go_iconst (pc := 32) (-1 : Int32) dX6_uneven_32 (by decide) ?_
      refine go_icmp_ne (pc := 33) 40 dX6_uneven_33 (by decide) (fun h9 => ?_) (fun h9 => ?_)
      · have hs := it_f h9 hs
        refine go_aload_n (pc := 40) 0 dX6_uneven_40 rfl rfl ?_
        refine go_iload_n (pc := 41) 1 dX6_uneven_41 rfl rfl ?_
        refine go_iload_n (pc := 42) 2 dX6_uneven_42 rfl rfl ?_
        refine go_iload_n (pc := 43) 3 dX6_uneven_43 rfl rfl ?_
        obtain ⟨x10, hc11, hs⟩ := bnd hs
        refine go_callV (bc := 0) (bs := 0) (mc := 0) (ms := 0) (d := d + 2) (pc := 44) (a := 0) (ci := 6) [vI a1, vI a2, vI a3] [] dX6_uneven_44 kX6_layWalks mlX6_147 ivX6_layWalks rfl rfl rfl rfl (Nat.le_of_ble_eq_true rfl) rfl (c_X6_layWalks (d := d + 1) (res0 := x10.1) (res1 := x10.2) hc11) (fun r w' hq => ?_)
        obtain ⟨rfl, rfl⟩ := hq
        show Go mX6_uneven (d + 3) false 0 0 47 [some (vR 0), some (vI a1), some (vI a2), some (vI a3), some (vI x7), none, none, none, none, none, none, none] [] (wM kn ne fi se ma on ot ta po ti nu mo x10.1 x10.2 oT cF bg ed sF qu qd tr) _
        refine go_lconst (pc := 47) (1 : Int64) dX6_uneven_47 (by decide) ?_
        refine go_lstore (pc := 48) [some (vR 0), some (vI a1), some (vI a2), some (vI a3), some (vI x7), some (vL (1 : Int64)), none, none, none, none, none, none] dX6_uneven_48 (by decide) rfl ?_
        refine go_iconst (pc := 50) (0 : Int32) dX6_uneven_50 (by decide) ?_
        refine go_istore (pc := 51) [some (vR 0), some (vI a1), some (vI a2), some (vI a3), some (vI x7), some (vL (1 : Int64)), none, some (vI (0 : Int32)), none, none, none, none] dX6_uneven_51 (by decide) rfl ?_
        refine go_sub (lv' := [some (vR 0), some (vI a1), none, some (vI a3), some (vI x7), some (vL (1 : Int64)), none, some (vI (0 : Int32)), none, none, none, none]) ⟨rfl, ⟨rfl, ⟨rfl, ⟨rfl, ⟨rfl, ⟨rfl, trivial⟩⟩⟩⟩⟩⟩ ?_
        obtain ⟨e13, hl14, hs⟩ := bnd hs
        refine g_X6_uneven_53 (d := d) (1 : Int64) (0 : Int32) e13 hl14 ?_
        refine go_lconst (pc := 73) (0 : Int64) dX6_uneven_73 (by decide) ?_
        refine go_lstore (pc := 74) [some (vR 0), some (vI a1), none, none, none, some (vL e13), none, some (vL (0 : Int64)), none, none, none, none] dX6_uneven_74 (by decide) rfl ?_
        refine go_iconst (pc := 76) (0 : Int32) dX6_uneven_76 (by decide) ?_
        refine go_istore (pc := 77) [some (vR 0), some (vI a1), none, none, none, some (vL e13), none, some (vL (0 : Int64)), none, some (vI (0 : Int32)), none, none] dX6_uneven_77 (by decide) rfl ?_
        obtain ⟨e22, hl23, hs⟩ := bnd hs
        refine g_X6_uneven_79 (d := d) (0 : Int64) (0 : Int32) e22 hl23 ?_
        refine go_lload (pc := 136) dX6_uneven_136 rfl ?_
        cases hs
        exact go_lreturn (st := []) (pc := 138) dX6_uneven_138 rfl (fun h => by cases h) ⟨rfl, rfl⟩
      · have hs := it_t h9 hs
        refine go_ldc2 (pc := 36) (-3 : Int64) dX6_uneven_36 kcX6_150 ?_
        cases hs
        exact go_lreturn (st := []) (pc := 39) dX6_uneven_39 rfl (fun h => by cases h) ⟨rfl, rfl⟩
    · have hs := it_t h6 hs
      refine go_ldc2 (pc := 19) (-2 : Int64) dX6_uneven_19 kcX6_145 ?_
      cases hs
      exact go_lreturn (st := []) (pc := 22) dX6_uneven_22 rfl (fun h => by cases h) ⟨rfl, rfl⟩
end
