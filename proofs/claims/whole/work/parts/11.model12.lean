section
variable {kn : (Nat → Int32)} {ne : (Nat → Int32)} {fi : (Nat → Int32)} {se : (Nat → Int32)} {ma : Int32} {on : (Nat → Int32)} {ot : (Nat → Int32)} {ta : (Nat → Int64)} {po : (Nat → Int64)} {ti : (Nat → Int64)} {nu : (Nat → Int64)} {mo : (Nat → Int64)} {wa : (Nat → Int64)} {nx : (Nat → Int64)} {oT : (Nat → Int32)} {cF : (Nat → Int32)} {bg : Int32} {ed : Int32} {sF : (Nat → Int32)} {qu : (Nat → Int32)} {qd : Int32} {tr : (Nat → Int32)}
noncomputable def b_X6_apart_49  (x : Int32 × (Nat → Int32) × (Nat → Int32)) : Option ((Int32 × (Nat → Int32) × (Nat → Int32)) ⊕ ((Nat → Int32) × (Nat → Int32))) := if (10 : Int32) ≤ x.1 then (some (Sum.inr (x.2.1, x.2.2))) else (chk x.1 10 (chk x.1 10 (some (Sum.inl (x.1 + (1 : Int32), upd x.2.1 x.1.toNatClampNeg (-1 : Int32), upd x.2.2 x.1.toNatClampNeg (-1 : Int32))))))
noncomputable def b_X6_apart_91 (kn : (Nat → Int32)) (ne : (Nat → Int32)) (y1 : Int32) (y2 : Int32) (y3 : Int32) (x : Int32 × (Nat → Int32) × (Nat → Int32) × Int32 × Int32 × (Nat → Int32) × (Nat → Int32) × Int32 × (Nat → Int32)) : Option ((Int32 × (Nat → Int32) × (Nat → Int32) × Int32 × Int32 × (Nat → Int32) × (Nat → Int32) × Int32 × (Nat → Int32)) ⊕ (Int32 × (Nat → Int32) × (Nat → Int32) × Int32 × Int32 × (Nat → Int32) × (Nat → Int32) × Int32 × (Nat → Int32))) := (s_X6_oneMore kn ne x.2.1 x.2.2.1 x.2.2.2.1 x.2.2.2.2.1 x.2.2.2.2.2.1 x.2.2.2.2.2.2.1 x.2.2.2.2.2.2.2.1 x.2.2.2.2.2.2.2.2 y1 y2 y3).bind (fun x20 => if x20.1 = 0 then (some (Sum.inr (x.1, x20.2.1, x20.2.2.1, x20.2.2.2.1, x20.2.2.2.2.1, x20.2.2.2.2.2.1, x20.2.2.2.2.2.2.1, x20.2.2.2.2.2.2.2.1, x20.2.2.2.2.2.2.2.2))) else (some (Sum.inl (x.1 + (1 : Int32), x20.2.1, x20.2.2.1, x20.2.2.2.1, x20.2.2.2.2.1, x20.2.2.2.2.2.1, x20.2.2.2.2.2.2.1, x20.2.2.2.2.2.2.2.1, x20.2.2.2.2.2.2.2.2))))
noncomputable def s_X6_apart (kn : (Nat → Int32)) (ne : (Nat → Int32)) (oT : (Nat → Int32)) (cF : (Nat → Int32)) (bg : Int32) (ed : Int32) (sF : (Nat → Int32)) (qu : (Nat → Int32)) (qd : Int32) (tr : (Nat → Int32)) (a1 : Int32) (a2 : Int32) (a3 : Int32) : Option (Int32 × (Nat → Int32) × (Nat → Int32) × Int32 × Int32 × (Nat → Int32) × (Nat → Int32) × Int32 × (Nat → Int32)) := (s_X6_isNet a1).bind (fun x1 => if x1 = 0 then (some ((-2 : Int32), oT, cF, bg, ed, sF, qu, qd, tr)) else (chk a1 4 ((s_X6_in a2 (0 : Int32) (((1 : Int32) <<< ((kn a1.toNatClampNeg) &&& 31)) - (1 : Int32))).bind (fun x5 => if x5 = 0 then (some ((-2 : Int32), oT, cF, bg, ed, sF, qu, qd, tr)) else (chk a1 4 ((s_X6_in a3 (0 : Int32) (((1 : Int32) <<< ((kn a1.toNatClampNeg) &&& 31)) - (1 : Int32))).bind (fun x9 => if x9 = 0 then (some ((-2 : Int32), oT, cF, bg, ed, sF, qu, qd, tr)) else ((loop (b_X6_apart_49) ((0 : Int32), oT, cF)).bind (fun e15 => (loop (b_X6_apart_91 kn ne a1 a2 a3) ((0 : Int32), e15.1, e15.2, (0 : Int32), (0 : Int32), sF, qu, qd, tr)).bind (fun e23 => some (e23.1, e23.2.1, e23.2.2.1, e23.2.2.2.1, e23.2.2.2.2.1, e23.2.2.2.2.2.1, e23.2.2.2.2.2.2.1, e23.2.2.2.2.2.2.2.1, e23.2.2.2.2.2.2.2.2)))))))))))
set_option maxRecDepth 20000 in
theorem g_X6_apart_49 {d : Nat} {Q : Option AV → List AC → Prop} {y1 : Int32} {y2 : Int32} {y3 : Int32} (x0_ : Int32) (x1_ : (Nat → Int32)) (x2_ : (Nat → Int32)) (r : (Nat → Int32) × (Nat → Int32)) (hl : loop (b_X6_apart_49 ) (x0_, x1_, x2_) = some r) (hk : ∀ (r0_ : (Nat → Int32)) (r1_ : (Nat → Int32)), r = (r0_, r1_) → Go mX6_apart (d + 2) false 0 0 78 [some (vR 0), some (vI y1), some (vI y2), some (vI y3), none] [] (wM kn ne fi se ma on ot ta po ti nu mo wa nx r0_ r1_ bg ed sF qu qd tr) Q) : Go mX6_apart (d + 2) false 0 0 49 [some (vR 0), some (vI y1), some (vI y2), some (vI y3), some (vI x0_)] [] (wM kn ne fi se ma on ot ta po ti nu mo wa nx x1_ x2_ bg ed sF qu qd tr) Q := by
  refine loop_go (P := fun x : Int32 × (Nat → Int32) × (Nat → Int32) => ∀ (x0_ : Int32) (x1_ : (Nat → Int32)) (x2_ : (Nat → Int32)), x = (x0_, x1_, x2_) → Go mX6_apart (d + 2) false 0 0 49 [some (vR 0), some (vI y1), some (vI y2), some (vI y3), some (vI x0_)] [] (wM kn ne fi se ma on ot ta po ti nu mo wa nx x1_ x2_ bg ed sF qu qd tr) Q) (K := fun r : (Nat → Int32) × (Nat → Int32) => ∀ (r0_ : (Nat → Int32)) (r1_ : (Nat → Int32)), r = (r0_, r1_) → Go mX6_apart (d + 2) false 0 0 78 [some (vR 0), some (vI y1), some (vI y2), some (vI y3), none] [] (wM kn ne fi se ma on ot ta po ti nu mo wa nx r0_ r1_ bg ed sF qu qd tr) Q) ?_ (x0_, x1_, x2_) r hl hk x0_ x1_ x2_ rfl
  · intro x y hs hI hE x0_ x1_ x2_ hx
    subst hx
    unfold b_X6_apart_49 at hs
    try dsimp only at hs
    refine go_iload (pc := 49) dX6_apart_49 rfl ?_
    refine go_bipush (pc := 51) (10 : Int32) dX6_apart_51 (by decide) ?_
    refine go_icmp_ge (pc := 53) 78 dX6_apart_53 (by decide) (fun h12 => ?_) (fun h12 => ?_)
    · have hs := it_t h12 hs
      obtain rfl := Option.some.inj hs
      refine go_sub (lv' := [some (vR 0), some (vI y1), some (vI y2), some (vI y3), none]) ⟨rfl, ⟨rfl, ⟨rfl, ⟨rfl, trivial⟩⟩⟩⟩ ?_
      exact (hE (x1_, x2_) rfl) x1_ x2_ rfl
    · have hs := it_f h12 hs
      refine go_aload_n (pc := 56) 0 dX6_apart_56 rfl rfl ?_
      refine go_getfield (pc := 57) (v := vR 14) 0 6 14 dX6_apart_57 flX6_50 rfl rfl ?_
      refine go_iload (pc := 60) dX6_apart_60 rfl ?_
      refine go_iconst (pc := 62) (-1 : Int32) dX6_apart_62 (by decide) ?_
      obtain ⟨hi13, hs⟩ := chk_t hs
      refine go_iastore (pc := 63) 14 dX6_apart_63 rfl hi13 (show Go mX6_apart (d + 2) false 0 0 64 [some (vR 0), some (vI y1), some (vI y2), some (vI y3), some (vI x0_)] [] (wM kn ne fi se ma on ot ta po ti nu mo wa nx (upd x1_ x0_.toNatClampNeg (-1 : Int32)) x2_ bg ed sF qu qd tr) Q from ?_)
      refine go_aload_n (pc := 64) 0 dX6_apart_64 rfl rfl ?_
      refine go_getfield (pc := 65) (v := vR 15) 0 6 15 dX6_apart_65 flX6_53 rfl rfl ?_
      refine go_iload (pc := 68) dX6_apart_68 rfl ?_
      refine go_iconst (pc := 70) (-1 : Int32) dX6_apart_70 (by decide) ?_
      obtain ⟨hi14, hs⟩ := chk_t hs
      refine go_iastore (pc := 71) 15 dX6_apart_71 rfl hi14 (show Go mX6_apart (d + 2) false 0 0 72 [some (vR 0), some (vI y1), some (vI y2), some (vI y3), some (vI x0_)] [] (wM kn ne fi se ma on ot ta po ti nu mo wa nx (upd x1_ x0_.toNatClampNeg (-1 : Int32)) (upd x2_ x0_.toNatClampNeg (-1 : Int32)) bg ed sF qu qd tr) Q from ?_)
      refine go_iinc (pc := 72) (x0_ + (1 : Int32)) [some (vR 0), some (vI y1), some (vI y2), some (vI y3), some (vI (x0_ + (1 : Int32)))] dX6_apart_72 rfl (iinc_1 _) (by decide) rfl ?_
      refine go_goto (pc := 75) 49 dX6_apart_75 (by decide) ?_
      obtain rfl := Option.some.inj hs
      exact hI (x0_ + (1 : Int32), upd x1_ x0_.toNatClampNeg (-1 : Int32), upd x2_ x0_.toNatClampNeg (-1 : Int32)) rfl (x0_ + (1 : Int32)) (upd x1_ x0_.toNatClampNeg (-1 : Int32)) (upd x2_ x0_.toNatClampNeg (-1 : Int32)) rfl
set_option maxRecDepth 20000 in
theorem g_X6_apart_91 {d : Nat} {Q : Option AV → List AC → Prop} {y1 : Int32} {y2 : Int32} {y3 : Int32} (x0_ : Int32) (x1_ : (Nat → Int32)) (x2_ : (Nat → Int32)) (x3_ : Int32) (x4_ : Int32) (x5_ : (Nat → Int32)) (x6_ : (Nat → Int32)) (x7_ : Int32) (x8_ : (Nat → Int32)) (r : Int32 × (Nat → Int32) × (Nat → Int32) × Int32 × Int32 × (Nat → Int32) × (Nat → Int32) × Int32 × (Nat → Int32)) (hl : loop (b_X6_apart_91 kn ne y1 y2 y3) (x0_, x1_, x2_, x3_, x4_, x5_, x6_, x7_, x8_) = some r) (hk : ∀ (r0_ : Int32) (r1_ : (Nat → Int32)) (r2_ : (Nat → Int32)) (r3_ : Int32) (r4_ : Int32) (r5_ : (Nat → Int32)) (r6_ : (Nat → Int32)) (r7_ : Int32) (r8_ : (Nat → Int32)), r = (r0_, r1_, r2_, r3_, r4_, r5_, r6_, r7_, r8_) → Go mX6_apart (d + 2) false 0 0 107 [none, none, none, none, some (vI r0_)] [] (wM kn ne fi se ma on ot ta po ti nu mo wa nx r1_ r2_ r3_ r4_ r5_ r6_ r7_ r8_) Q) : Go mX6_apart (d + 2) false 0 0 91 [some (vR 0), some (vI y1), some (vI y2), some (vI y3), some (vI x0_)] [] (wM kn ne fi se ma on ot ta po ti nu mo wa nx x1_ x2_ x3_ x4_ x5_ x6_ x7_ x8_) Q := by
  refine loop_go (P := fun x : Int32 × (Nat → Int32) × (Nat → Int32) × Int32 × Int32 × (Nat → Int32) × (Nat → Int32) × Int32 × (Nat → Int32) => ∀ (x0_ : Int32) (x1_ : (Nat → Int32)) (x2_ : (Nat → Int32)) (x3_ : Int32) (x4_ : Int32) (x5_ : (Nat → Int32)) (x6_ : (Nat → Int32)) (x7_ : Int32) (x8_ : (Nat → Int32)), x = (x0_, x1_, x2_, x3_, x4_, x5_, x6_, x7_, x8_) → Go mX6_apart (d + 2) false 0 0 91 [some (vR 0), some (vI y1), some (vI y2), some (vI y3), some (vI x0_)] [] (wM kn ne fi se ma on ot ta po ti nu mo wa nx x1_ x2_ x3_ x4_ x5_ x6_ x7_ x8_) Q) (K := fun r : Int32 × (Nat → Int32) × (Nat → Int32) × Int32 × Int32 × (Nat → Int32) × (Nat → Int32) × Int32 × (Nat → Int32) => ∀ (r0_ : Int32) (r1_ : (Nat → Int32)) (r2_ : (Nat → Int32)) (r3_ : Int32) (r4_ : Int32) (r5_ : (Nat → Int32)) (r6_ : (Nat → Int32)) (r7_ : Int32) (r8_ : (Nat → Int32)), r = (r0_, r1_, r2_, r3_, r4_, r5_, r6_, r7_, r8_) → Go mX6_apart (d + 2) false 0 0 107 [none, none, none, none, some (vI r0_)] [] (wM kn ne fi se ma on ot ta po ti nu mo wa nx r1_ r2_ r3_ r4_ r5_ r6_ r7_ r8_) Q) ?_ (x0_, x1_, x2_, x3_, x4_, x5_, x6_, x7_, x8_) r hl hk x0_ x1_ x2_ x3_ x4_ x5_ x6_ x7_ x8_ rfl
  · intro x y hs hI hE x0_ x1_ x2_ x3_ x4_ x5_ x6_ x7_ x8_ hx
    subst hx
    unfold b_X6_apart_91 at hs
    try dsimp only at hs
    refine go_aload_n (pc := 91) 0 dX6_apart_91 rfl rfl ?_
    refine go_iload_n (pc := 92) 1 dX6_apart_92 rfl rfl ?_
    refine go_iload_n (pc := 93) 2 dX6_apart_93 rfl rfl ?_
    refine go_iload_n (pc := 94) 3 dX6_apart_94 rfl rfl ?_
    obtain ⟨x20, hc21, hs⟩ := bnd hs
    refine go_callV (bc := 0) (bs := 0) (mc := 0) (ms := 0) (d := d + 1) (pc := 95) (a := 0) (ci := 6) [vI y1, vI y2, vI y3] [] dX6_apart_95 kX6_oneMore mlX6_170 ivX6_oneMore rfl rfl rfl rfl (Nat.le_of_ble_eq_true rfl) rfl (c_X6_oneMore (d := d + 0) (res0 := x20.1) (res1 := x20.2.1) (res2 := x20.2.2.1) (res3 := x20.2.2.2.1) (res4 := x20.2.2.2.2.1) (res5 := x20.2.2.2.2.2.1) (res6 := x20.2.2.2.2.2.2.1) (res7 := x20.2.2.2.2.2.2.2.1) (res8 := x20.2.2.2.2.2.2.2.2) hc21) (fun r w' hq => ?_)
    obtain ⟨rfl, rfl⟩ := hq
    show Go mX6_apart (d + 2) false 0 0 98 [some (vR 0), some (vI y1), some (vI y2), some (vI y3), some (vI x0_)] [vI x20.1] (wM kn ne fi se ma on ot ta po ti nu mo wa nx x20.2.1 x20.2.2.1 x20.2.2.2.1 x20.2.2.2.2.1 x20.2.2.2.2.2.1 x20.2.2.2.2.2.2.1 x20.2.2.2.2.2.2.2.1 x20.2.2.2.2.2.2.2.2) Q
    refine go_if_eq (pc := 98) 107 dX6_apart_98 (by decide) (fun h22 => ?_) (fun h22 => ?_)
    · have hs := it_t h22 hs
      obtain rfl := Option.some.inj hs
      refine go_sub (lv' := [none, none, none, none, some (vI x0_)]) ⟨rfl, trivial⟩ ?_
      exact (hE (x0_, x20.2.1, x20.2.2.1, x20.2.2.2.1, x20.2.2.2.2.1, x20.2.2.2.2.2.1, x20.2.2.2.2.2.2.1, x20.2.2.2.2.2.2.2.1, x20.2.2.2.2.2.2.2.2) rfl) x0_ x20.2.1 x20.2.2.1 x20.2.2.2.1 x20.2.2.2.2.1 x20.2.2.2.2.2.1 x20.2.2.2.2.2.2.1 x20.2.2.2.2.2.2.2.1 x20.2.2.2.2.2.2.2.2 rfl
    · have hs := it_f h22 hs
      refine go_iinc (pc := 101) (x0_ + (1 : Int32)) [some (vR 0), some (vI y1), some (vI y2), some (vI y3), some (vI (x0_ + (1 : Int32)))] dX6_apart_101 rfl (iinc_1 _) (by decide) rfl ?_
      refine go_goto (pc := 104) 91 dX6_apart_104 (by decide) ?_
      obtain rfl := Option.some.inj hs
      exact hI (x0_ + (1 : Int32), x20.2.1, x20.2.2.1, x20.2.2.2.1, x20.2.2.2.2.1, x20.2.2.2.2.2.1, x20.2.2.2.2.2.2.1, x20.2.2.2.2.2.2.2.1, x20.2.2.2.2.2.2.2.2) rfl (x0_ + (1 : Int32)) x20.2.1 x20.2.2.1 x20.2.2.2.1 x20.2.2.2.2.1 x20.2.2.2.2.2.1 x20.2.2.2.2.2.2.1 x20.2.2.2.2.2.2.2.1 x20.2.2.2.2.2.2.2.2 rfl
set_option maxRecDepth 20000 in
theorem c_X6_apart {d : Nat}  {a1 : Int32} {a2 : Int32} {a3 : Int32} {res0 : Int32} {res1 : (Nat → Int32)} {res2 : (Nat → Int32)} {res3 : Int32} {res4 : Int32} {res5 : (Nat → Int32)} {res6 : (Nat → Int32)} {res7 : Int32} {res8 : (Nat → Int32)} (hs : s_X6_apart kn ne oT cF bg ed sF qu qd tr a1 a2 a3 = some (res0, res1, res2, res3, res4, res5, res6, res7, res8)) : Calls mX6_apart (d + 2) false 0 0 [vR 0, vI a1, vI a2, vI a3] (wM kn ne fi se ma on ot ta po ti nu mo wa nx oT cF bg ed sF qu qd tr) (fun r w' => r = some (vI res0) ∧ w' = (wM kn ne fi se ma on ot ta po ti nu mo wa nx res1 res2 res3 res4 res5 res6 res7 res8)) := by
  unfold s_X6_apart at hs
  refine Calls.of kX6_apart 1 [some (vR 0), some (vI a1), some (vI a2), some (vI a3), none] rfl (Nat.le_of_ble_eq_true rfl) ?_
  refine go_iload_n (pc := 0) 1 dX6_apart_0 rfl rfl ?_
  obtain ⟨x1, hc2, hs⟩ := bnd hs
  refine go_callS (bc := 0) (bs := 0) (mc := 0) (ms := 0) (d := d + 1) (pc := 1) [vI a1] [] dX6_apart_1 kX6_isNet mlX6_69 isX6_isNet rfl (Nat.le_of_ble_eq_true rfl) rfl (c_X6_isNet (d := d + 0) (res0 := x1) hc2) (fun r w' hq => ?_)
  obtain ⟨rfl, rfl⟩ := hq
  show Go mX6_apart (d + 2) false 0 0 4 [some (vR 0), some (vI a1), some (vI a2), some (vI a3), none] [vI x1] (wM kn ne fi se ma on ot ta po ti nu mo wa nx oT cF bg ed sF qu qd tr) _
  refine go_if_eq (pc := 4) 43 dX6_apart_4 (by decide) (fun h3 => ?_) (fun h3 => ?_)
  · have hs := it_t h3 hs
    refine go_bipush (pc := 43) (-2 : Int32) dX6_apart_43 (by decide) ?_
    cases hs
    exact go_ireturn (st := []) (pc := 45) dX6_apart_45 rfl (vp_nar_int _) (fun h => by cases h) ⟨rfl, rfl⟩
  · have hs := it_f h3 hs
    refine go_iload_n (pc := 7) 2 dX6_apart_7 rfl rfl ?_
    refine go_iconst (pc := 8) (0 : Int32) dX6_apart_8 (by decide) ?_
    refine go_iconst (pc := 9) (1 : Int32) dX6_apart_9 (by decide) ?_
    refine go_aload_n (pc := 10) 0 dX6_apart_10 rfl rfl ?_
    refine go_getfield (pc := 11) (v := vR 1) 0 6 0 dX6_apart_11 flX6_7 rfl rfl ?_
    refine go_iload_n (pc := 14) 1 dX6_apart_14 rfl rfl ?_
    obtain ⟨hi4, hs⟩ := chk_t hs
    refine go_iaload (pc := 15) 1 dX6_apart_15 rfl hi4 ?_
    refine go_ishl (pc := 16) dX6_apart_16 ?_
    refine go_iconst (pc := 17) (1 : Int32) dX6_apart_17 (by decide) ?_
    refine go_isub (pc := 18) dX6_apart_18 ?_
    obtain ⟨x5, hc6, hs⟩ := bnd hs
    refine go_callS (bc := 0) (bs := 0) (mc := 0) (ms := 0) (d := d + 1) (pc := 19) [vI a2, vI (0 : Int32), vI (((1 : Int32) <<< ((kn a1.toNatClampNeg) &&& 31)) - (1 : Int32))] [] dX6_apart_19 kX6_in mlX6_65 isX6_in rfl (Nat.le_of_ble_eq_true rfl) rfl (c_X6_in (d := d + 1) (res0 := x5) hc6) (fun r w' hq => ?_)
    obtain ⟨rfl, rfl⟩ := hq
    show Go mX6_apart (d + 2) false 0 0 22 [some (vR 0), some (vI a1), some (vI a2), some (vI a3), none] [vI x5] (wM kn ne fi se ma on ot ta po ti nu mo wa nx oT cF bg ed sF qu qd tr) _
    refine go_if_eq (pc := 22) 43 dX6_apart_22 (by decide) (fun h7 => ?_) (fun h7 => ?_)
    · have hs := it_t h7 hs
      refine go_bipush (pc := 43) (-2 : Int32) dX6_apart_43 (by decide) ?_
      cases hs
      exact go_ireturn (st := []) (pc := 45) dX6_apart_45 rfl (vp_nar_int _) (fun h => by cases h) ⟨rfl, rfl⟩
    · have hs := it_f h7 hs
      refine go_iload_n (pc := 25) 3 dX6_apart_25 rfl rfl ?_
      refine go_iconst (pc := 26) (0 : Int32) dX6_apart_26 (by decide) ?_
      refine go_iconst (pc := 27) (1 : Int32) dX6_apart_27 (by decide) ?_
      refine go_aload_n (pc := 28) 0 dX6_apart_28 rfl rfl ?_
      refine go_getfield (pc := 29) (v := vR 1) 0 6 0 dX6_apart_29 flX6_7 rfl rfl ?_
      refine go_iload_n (pc := 32) 1 dX6_apart_32 rfl rfl ?_
      obtain ⟨hi8, hs⟩ := chk_t hs
      refine go_iaload (pc := 33) 1 dX6_apart_33 rfl hi8 ?_
      refine go_ishl (pc := 34) dX6_apart_34 ?_
      refine go_iconst (pc := 35) (1 : Int32) dX6_apart_35 (by decide) ?_
      refine go_isub (pc := 36) dX6_apart_36 ?_
      obtain ⟨x9, hc10, hs⟩ := bnd hs
      refine go_callS (bc := 0) (bs := 0) (mc := 0) (ms := 0) (d := d + 1) (pc := 37) [vI a3, vI (0 : Int32), vI (((1 : Int32) <<< ((kn a1.toNatClampNeg) &&& 31)) - (1 : Int32))] [] dX6_apart_37 kX6_in mlX6_65 isX6_in rfl (Nat.le_of_ble_eq_true rfl) rfl (c_X6_in (d := d + 1) (res0 := x9) hc10) (fun r w' hq => ?_)
      obtain ⟨rfl, rfl⟩ := hq
      show Go mX6_apart (d + 2) false 0 0 40 [some (vR 0), some (vI a1), some (vI a2), some (vI a3), none] [vI x9] (wM kn ne fi se ma on ot ta po ti nu mo wa nx oT cF bg ed sF qu qd tr) _
      refine go_if_ne (pc := 40) 46 dX6_apart_40 (by decide) (fun h11 => ?_) (fun h11 => ?_)
      · have hs := it_f h11 hs
        refine go_iconst (pc := 46) (0 : Int32) dX6_apart_46 (by decide) ?_
        refine go_istore (pc := 47) [some (vR 0), some (vI a1), some (vI a2), some (vI a3), some (vI (0 : Int32))] dX6_apart_47 (by decide) rfl ?_
        obtain ⟨e15, hl16, hs⟩ := bnd hs
        refine g_X6_apart_49 (d := d) (0 : Int32) oT cF e15 hl16 ?_
        intro v17 v18 hv19
        subst hv19
        try dsimp only at hs
        refine go_aload_n (pc := 78) 0 dX6_apart_78 rfl rfl ?_
        refine go_iconst (pc := 79) (0 : Int32) dX6_apart_79 (by decide) ?_
        refine go_putI (pc := 80) 0 6 16 dX6_apart_80 fpX6_155 rfl (Nat.le_of_ble_eq_true rfl) (show Go mX6_apart (d + 2) false 0 0 83 [some (vR 0), some (vI a1), some (vI a2), some (vI a3), none] [] (wM kn ne fi se ma on ot ta po ti nu mo wa nx v17 v18 ((0 : Int32)) ed sF qu qd tr) _ from ?_)
        refine go_aload_n (pc := 83) 0 dX6_apart_83 rfl rfl ?_
        refine go_iconst (pc := 84) (0 : Int32) dX6_apart_84 (by decide) ?_
        refine go_putI (pc := 85) 0 6 17 dX6_apart_85 fpX6_164 rfl (Nat.le_of_ble_eq_true rfl) (show Go mX6_apart (d + 2) false 0 0 88 [some (vR 0), some (vI a1), some (vI a2), some (vI a3), none] [] (wM kn ne fi se ma on ot ta po ti nu mo wa nx v17 v18 ((0 : Int32)) ((0 : Int32)) sF qu qd tr) _ from ?_)
        refine go_iconst (pc := 88) (0 : Int32) dX6_apart_88 (by decide) ?_
        refine go_istore (pc := 89) [some (vR 0), some (vI a1), some (vI a2), some (vI a3), some (vI (0 : Int32))] dX6_apart_89 (by decide) rfl ?_
        obtain ⟨e23, hl24, hs⟩ := bnd hs
        refine g_X6_apart_91 (d := d) (0 : Int32) v17 v18 (0 : Int32) (0 : Int32) sF qu qd tr e23 hl24 ?_
        intro v25 v26 v27 v28 v29 v30 v31 v32 v33 hv34
        subst hv34
        try dsimp only at hs
        refine go_iload (pc := 107) dX6_apart_107 rfl ?_
        cases hs
        exact go_ireturn (st := []) (pc := 109) dX6_apart_109 rfl (vp_nar_int _) (fun h => by cases h) ⟨rfl, rfl⟩
      · have hs := it_t h11 hs
        refine go_bipush (pc := 43) (-2 : Int32) dX6_apart_43 (by decide) ?_
        cases hs
        exact go_ireturn (st := []) (pc := 45) dX6_apart_45 rfl (vp_nar_int _) (fun h => by cases h) ⟨rfl, rfl⟩
noncomputable def b_X6_distanceOf_39 (ma : Int32) (on : (Nat → Int32)) (ot : (Nat → Int32)) (y4 : Int32) (y5 : Int32) (x : Int32 × Int32) : Option ((Int32 × Int32) ⊕ (Int32)) := if ma ≤ x.2 then (some (Sum.inr x.1)) else (if x.2 = y4 then (some (Sum.inl (x.1, x.2 + (1 : Int32)))) else (chk x.2 45 (if ((y5 >>> ((on x.2.toNatClampNeg) &&& 31)) &&& (1 : Int32)) = (1 : Int32) then (chk x.2 45 (chk x.2 45 (if ((y5 >>> ((ot x.2.toNatClampNeg) &&& 31)) &&& (1 : Int32)) = (1 : Int32) then (chk x.2 45 (lt' ((x.1 ||| ((1 : Int32) <<< ((ot x.2.toNatClampNeg) &&& 31))) ||| ((1 : Int32) <<< ((on x.2.toNatClampNeg) &&& 31))) (fun z17 => some (Sum.inl (z17, x.2 + (1 : Int32)))))) else (lt' ((x.1 ||| ((1 : Int32) <<< ((ot x.2.toNatClampNeg) &&& 31))) ||| (0 : Int32)) (fun z15 => some (Sum.inl (z15, x.2 + (1 : Int32)))))))) else (chk x.2 45 (if ((y5 >>> ((ot x.2.toNatClampNeg) &&& 31)) &&& (1 : Int32)) = (1 : Int32) then (chk x.2 45 (lt' ((x.1 ||| (0 : Int32)) ||| ((1 : Int32) <<< ((on x.2.toNatClampNeg) &&& 31))) (fun z11 => some (Sum.inl (z11, x.2 + (1 : Int32)))))) else (some (Sum.inl ((x.1 ||| (0 : Int32)) ||| (0 : Int32), x.2 + (1 : Int32)))))))))
noncomputable def b_X6_distanceOf_8 (kn : (Nat → Int32)) (ma : Int32) (on : (Nat → Int32)) (ot : (Nat → Int32)) (y1 : Int32) (y3 : Int32) (y4 : Int32) (x : Int32 × Int32) : Option ((Int32 × Int32) ⊕ ((Int32) ⊕ (Unit))) := chk y1 4 (if (kn y1.toNatClampNeg) < x.2 then (some (Sum.inr (Sum.inr ()))) else (if ((x.1 >>> (y3 &&& 31)) &&& (1 : Int32)) = (1 : Int32) then (some (Sum.inr (Sum.inl x.2))) else ((loop (b_X6_distanceOf_39 ma on ot y4 x.1) (x.1, (0 : Int32))).bind (fun e18 => some (Sum.inl (e18, x.2 + (1 : Int32)))))))
noncomputable def s_X6_distanceOf (kn : (Nat → Int32)) (ma : Int32) (on : (Nat → Int32)) (ot : (Nat → Int32)) (a1 : Int32) (a2 : Int32) (a3 : Int32) (a4 : Int32) : Option (Int32) := (loop (b_X6_distanceOf_8 kn ma on ot a1 a3 a4) ((1 : Int32) <<< (a2 &&& 31), (0 : Int32))).bind (fun e21 => Sum.elim (fun v24 => some v24) (fun e25 => some (-1 : Int32)) e21)
set_option maxRecDepth 20000 in
theorem g_X6_distanceOf_39 {d : Nat} {Q : Option AV → List AC → Prop} {y1 : Int32} {y3 : Int32} {y4 : Int32} {y5 : Int32} {y6 : Int32} (x0_ : Int32) (x1_ : Int32) (r : Int32) (hl : loop (b_X6_distanceOf_39 ma on ot y4 y5) (x0_, x1_) = some r) (hk : Go mX6_distanceOf (d + 0) false 0 0 129 [some (vR 0), some (vI y1), none, some (vI y3), some (vI y4), none, some (vI y6), some (vI r), none] [] (wM kn ne fi se ma on ot ta po ti nu mo wa nx oT cF bg ed sF qu qd tr) Q) : Go mX6_distanceOf (d + 0) false 0 0 39 [some (vR 0), some (vI y1), none, some (vI y3), some (vI y4), some (vI y5), some (vI y6), some (vI x0_), some (vI x1_)] [] (wM kn ne fi se ma on ot ta po ti nu mo wa nx oT cF bg ed sF qu qd tr) Q := by
  refine loop_go (P := fun x : Int32 × Int32 => ∀ (x0_ : Int32) (x1_ : Int32), x = (x0_, x1_) → Go mX6_distanceOf (d + 0) false 0 0 39 [some (vR 0), some (vI y1), none, some (vI y3), some (vI y4), some (vI y5), some (vI y6), some (vI x0_), some (vI x1_)] [] (wM kn ne fi se ma on ot ta po ti nu mo wa nx oT cF bg ed sF qu qd tr) Q) (K := fun r : Int32 => Go mX6_distanceOf (d + 0) false 0 0 129 [some (vR 0), some (vI y1), none, some (vI y3), some (vI y4), none, some (vI y6), some (vI r), none] [] (wM kn ne fi se ma on ot ta po ti nu mo wa nx oT cF bg ed sF qu qd tr) Q) ?_ (x0_, x1_) r hl hk x0_ x1_ rfl
  · intro x y hs hI hE x0_ x1_ hx
    subst hx
    unfold b_X6_distanceOf_39 at hs
    try dsimp only at hs
    refine go_iload (pc := 39) dX6_distanceOf_39 rfl ?_
    refine go_aload_n (pc := 41) 0 dX6_distanceOf_41 rfl rfl ?_
    refine go_getfield (pc := 42) (v := vI ma) 0 6 4 dX6_distanceOf_42 flX6_105 rfl rfl ?_
    refine go_icmp_ge (pc := 45) 129 dX6_distanceOf_45 (by decide) (fun h4 => ?_) (fun h4 => ?_)
    · have hs := it_t h4 hs
      obtain rfl := Option.some.inj hs
      refine go_sub (lv' := [some (vR 0), some (vI y1), none, some (vI y3), some (vI y4), none, some (vI y6), some (vI x0_), none]) ⟨rfl, ⟨rfl, ⟨rfl, ⟨rfl, ⟨rfl, ⟨rfl, trivial⟩⟩⟩⟩⟩⟩ ?_
      exact hE x0_ rfl
    · have hs := it_f h4 hs
      refine go_iload (pc := 48) dX6_distanceOf_48 rfl ?_
      refine go_iload (pc := 50) dX6_distanceOf_50 rfl ?_
      refine go_icmp_eq (pc := 52) 123 dX6_distanceOf_52 (by decide) (fun h5 => ?_) (fun h5 => ?_)
      · have hs := it_t h5 hs
        refine go_iinc (pc := 123) (x1_ + (1 : Int32)) [some (vR 0), some (vI y1), none, some (vI y3), some (vI y4), some (vI y5), some (vI y6), some (vI x0_), some (vI (x1_ + (1 : Int32)))] dX6_distanceOf_123 rfl (iinc_1 _) (by decide) rfl ?_
        refine go_goto (pc := 126) 39 dX6_distanceOf_126 (by decide) ?_
        obtain rfl := Option.some.inj hs
        exact hI (x0_, x1_ + (1 : Int32)) rfl x0_ (x1_ + (1 : Int32)) rfl
      · have hs := it_f h5 hs
        refine go_iload (pc := 55) dX6_distanceOf_55 rfl ?_
        refine go_iload (pc := 57) dX6_distanceOf_57 rfl ?_
        refine go_aload_n (pc := 59) 0 dX6_distanceOf_59 rfl rfl ?_
        refine go_getfield (pc := 60) (v := vR 5) 0 6 5 dX6_distanceOf_60 flX6_22 rfl rfl ?_
        refine go_iload (pc := 63) dX6_distanceOf_63 rfl ?_
        obtain ⟨hi6, hs⟩ := chk_t hs
        refine go_iaload (pc := 65) 5 dX6_distanceOf_65 rfl hi6 ?_
        refine go_ishr (pc := 66) dX6_distanceOf_66 ?_
        refine go_iconst (pc := 67) (1 : Int32) dX6_distanceOf_67 (by decide) ?_
        refine go_iand (pc := 68) dX6_distanceOf_68 ?_
        refine go_iconst (pc := 69) (1 : Int32) dX6_distanceOf_69 (by decide) ?_
        refine go_icmp_ne (pc := 70) 85 dX6_distanceOf_70 (by decide) (fun h7 => ?_) (fun h7 => ?_)
        · have hs := it_f h7 hs
          refine go_iconst (pc := 85) (0 : Int32) dX6_distanceOf_85 (by decide) ?_
          refine go_ior (pc := 86) dX6_distanceOf_86 ?_
          refine go_istore (pc := 87) [some (vR 0), some (vI y1), none, some (vI y3), some (vI y4), some (vI y5), some (vI y6), some (vI (x0_ ||| (0 : Int32))), some (vI x1_)] dX6_distanceOf_87 (by decide) rfl ?_
          refine go_iload (pc := 89) dX6_distanceOf_89 rfl ?_
          refine go_iload (pc := 91) dX6_distanceOf_91 rfl ?_
          refine go_aload_n (pc := 93) 0 dX6_distanceOf_93 rfl rfl ?_
          refine go_getfield (pc := 94) (v := vR 6) 0 6 6 dX6_distanceOf_94 flX6_25 rfl rfl ?_
          refine go_iload (pc := 97) dX6_distanceOf_97 rfl ?_
          obtain ⟨hi8, hs⟩ := chk_t hs
          refine go_iaload (pc := 99) 6 dX6_distanceOf_99 rfl hi8 ?_
          refine go_ishr (pc := 100) dX6_distanceOf_100 ?_
          refine go_iconst (pc := 101) (1 : Int32) dX6_distanceOf_101 (by decide) ?_
          refine go_iand (pc := 102) dX6_distanceOf_102 ?_
          refine go_iconst (pc := 103) (1 : Int32) dX6_distanceOf_103 (by decide) ?_
          refine go_icmp_ne (pc := 104) 119 dX6_distanceOf_104 (by decide) (fun h9 => ?_) (fun h9 => ?_)
          · have hs := it_f h9 hs
            refine go_iconst (pc := 119) (0 : Int32) dX6_distanceOf_119 (by decide) ?_
            refine go_ior (pc := 120) dX6_distanceOf_120 ?_
            refine go_istore (pc := 121) [some (vR 0), some (vI y1), none, some (vI y3), some (vI y4), some (vI y5), some (vI y6), some (vI ((x0_ ||| (0 : Int32)) ||| (0 : Int32))), some (vI x1_)] dX6_distanceOf_121 (by decide) rfl ?_
            refine go_iinc (pc := 123) (x1_ + (1 : Int32)) [some (vR 0), some (vI y1), none, some (vI y3), some (vI y4), some (vI y5), some (vI y6), some (vI ((x0_ ||| (0 : Int32)) ||| (0 : Int32))), some (vI (x1_ + (1 : Int32)))] dX6_distanceOf_123 rfl (iinc_1 _) (by decide) rfl ?_
            refine go_goto (pc := 126) 39 dX6_distanceOf_126 (by decide) ?_
            obtain rfl := Option.some.inj hs
            exact hI ((x0_ ||| (0 : Int32)) ||| (0 : Int32), x1_ + (1 : Int32)) rfl ((x0_ ||| (0 : Int32)) ||| (0 : Int32)) (x1_ + (1 : Int32)) rfl
          · have hs := it_t h9 hs
            refine go_iconst (pc := 107) (1 : Int32) dX6_distanceOf_107 (by decide) ?_
            refine go_aload_n (pc := 108) 0 dX6_distanceOf_108 rfl rfl ?_
            refine go_getfield (pc := 109) (v := vR 5) 0 6 5 dX6_distanceOf_109 flX6_22 rfl rfl ?_
            refine go_iload (pc := 112) dX6_distanceOf_112 rfl ?_
            obtain ⟨hi10, hs⟩ := chk_t hs
            refine go_iaload (pc := 114) 5 dX6_distanceOf_114 rfl hi10 ?_
            refine go_ishl (pc := 115) dX6_distanceOf_115 ?_
            refine go_goto (pc := 116) 120 dX6_distanceOf_116 (by decide) ?_
            refine go_ior (pc := 120) dX6_distanceOf_120 ?_
            refine go_topi (fun z11 ez11 => ?_)
            have hs := lt_t ez11 hs
            refine go_istore (pc := 121) [some (vR 0), some (vI y1), none, some (vI y3), some (vI y4), some (vI y5), some (vI y6), some (vI z11), some (vI x1_)] dX6_distanceOf_121 (by decide) rfl ?_
            refine go_iinc (pc := 123) (x1_ + (1 : Int32)) [some (vR 0), some (vI y1), none, some (vI y3), some (vI y4), some (vI y5), some (vI y6), some (vI z11), some (vI (x1_ + (1 : Int32)))] dX6_distanceOf_123 rfl (iinc_1 _) (by decide) rfl ?_
            refine go_goto (pc := 126) 39 dX6_distanceOf_126 (by decide) ?_
            obtain rfl := Option.some.inj hs
            exact hI (z11, x1_ + (1 : Int32)) rfl z11 (x1_ + (1 : Int32)) rfl
        · have hs := it_t h7 hs
          refine go_iconst (pc := 73) (1 : Int32) dX6_distanceOf_73 (by decide) ?_
          refine go_aload_n (pc := 74) 0 dX6_distanceOf_74 rfl rfl ?_
          refine go_getfield (pc := 75) (v := vR 6) 0 6 6 dX6_distanceOf_75 flX6_25 rfl rfl ?_
          refine go_iload (pc := 78) dX6_distanceOf_78 rfl ?_
          obtain ⟨hi12, hs⟩ := chk_t hs
          refine go_iaload (pc := 80) 6 dX6_distanceOf_80 rfl hi12 ?_
          refine go_ishl (pc := 81) dX6_distanceOf_81 ?_
          refine go_goto (pc := 82) 86 dX6_distanceOf_82 (by decide) ?_
          refine go_ior (pc := 86) dX6_distanceOf_86 ?_
          refine go_istore (pc := 87) [some (vR 0), some (vI y1), none, some (vI y3), some (vI y4), some (vI y5), some (vI y6), some (vI (x0_ ||| ((1 : Int32) <<< ((ot x1_.toNatClampNeg) &&& 31)))), some (vI x1_)] dX6_distanceOf_87 (by decide) rfl ?_
          refine go_iload (pc := 89) dX6_distanceOf_89 rfl ?_
          refine go_iload (pc := 91) dX6_distanceOf_91 rfl ?_
          refine go_aload_n (pc := 93) 0 dX6_distanceOf_93 rfl rfl ?_
          refine go_getfield (pc := 94) (v := vR 6) 0 6 6 dX6_distanceOf_94 flX6_25 rfl rfl ?_
          refine go_iload (pc := 97) dX6_distanceOf_97 rfl ?_
          obtain ⟨hi13, hs⟩ := chk_t hs
          refine go_iaload (pc := 99) 6 dX6_distanceOf_99 rfl hi13 ?_
          refine go_ishr (pc := 100) dX6_distanceOf_100 ?_
          refine go_iconst (pc := 101) (1 : Int32) dX6_distanceOf_101 (by decide) ?_
          refine go_iand (pc := 102) dX6_distanceOf_102 ?_
          refine go_iconst (pc := 103) (1 : Int32) dX6_distanceOf_103 (by decide) ?_
          refine go_icmp_ne (pc := 104) 119 dX6_distanceOf_104 (by decide) (fun h14 => ?_) (fun h14 => ?_)
          · have hs := it_f h14 hs
            refine go_iconst (pc := 119) (0 : Int32) dX6_distanceOf_119 (by decide) ?_
            refine go_ior (pc := 120) dX6_distanceOf_120 ?_
            refine go_topi (fun z15 ez15 => ?_)
            have hs := lt_t ez15 hs
            refine go_istore (pc := 121) [some (vR 0), some (vI y1), none, some (vI y3), some (vI y4), some (vI y5), some (vI y6), some (vI z15), some (vI x1_)] dX6_distanceOf_121 (by decide) rfl ?_
            refine go_iinc (pc := 123) (x1_ + (1 : Int32)) [some (vR 0), some (vI y1), none, some (vI y3), some (vI y4), some (vI y5), some (vI y6), some (vI z15), some (vI (x1_ + (1 : Int32)))] dX6_distanceOf_123 rfl (iinc_1 _) (by decide) rfl ?_
            refine go_goto (pc := 126) 39 dX6_distanceOf_126 (by decide) ?_
            obtain rfl := Option.some.inj hs
            exact hI (z15, x1_ + (1 : Int32)) rfl z15 (x1_ + (1 : Int32)) rfl
          · have hs := it_t h14 hs
            refine go_iconst (pc := 107) (1 : Int32) dX6_distanceOf_107 (by decide) ?_
            refine go_aload_n (pc := 108) 0 dX6_distanceOf_108 rfl rfl ?_
            refine go_getfield (pc := 109) (v := vR 5) 0 6 5 dX6_distanceOf_109 flX6_22 rfl rfl ?_
            refine go_iload (pc := 112) dX6_distanceOf_112 rfl ?_
            obtain ⟨hi16, hs⟩ := chk_t hs
            refine go_iaload (pc := 114) 5 dX6_distanceOf_114 rfl hi16 ?_
            refine go_ishl (pc := 115) dX6_distanceOf_115 ?_
            refine go_goto (pc := 116) 120 dX6_distanceOf_116 (by decide) ?_
            refine go_ior (pc := 120) dX6_distanceOf_120 ?_
            refine go_topi (fun z17 ez17 => ?_)
            have hs := lt_t ez17 hs
            refine go_istore (pc := 121) [some (vR 0), some (vI y1), none, some (vI y3), some (vI y4), some (vI y5), some (vI y6), some (vI z17), some (vI x1_)] dX6_distanceOf_121 (by decide) rfl ?_
            refine go_iinc (pc := 123) (x1_ + (1 : Int32)) [some (vR 0), some (vI y1), none, some (vI y3), some (vI y4), some (vI y5), some (vI y6), some (vI z17), some (vI (x1_ + (1 : Int32)))] dX6_distanceOf_123 rfl (iinc_1 _) (by decide) rfl ?_
            refine go_goto (pc := 126) 39 dX6_distanceOf_126 (by decide) ?_
            obtain rfl := Option.some.inj hs
            exact hI (z17, x1_ + (1 : Int32)) rfl z17 (x1_ + (1 : Int32)) rfl
set_option maxRecDepth 20000 in
theorem g_X6_distanceOf_8 {d : Nat} {Q : Option AV → List AC → Prop} {y1 : Int32} {y3 : Int32} {y4 : Int32} (x0_ : Int32) (x1_ : Int32) (r : (Int32) ⊕ (Unit)) (hl : loop (b_X6_distanceOf_8 kn ma on ot y1 y3 y4) (x0_, x1_) = some r) (hk : (∀ (r0_ : Int32), r = Sum.inl r0_ → Go mX6_distanceOf (d + 0) false 0 0 29 [none, none, none, none, none, none, some (vI r0_), none, none] [] (wM kn ne fi se ma on ot ta po ti nu mo wa nx oT cF bg ed sF qu qd tr) Q) ∧ (r = Sum.inr () → Go mX6_distanceOf (d + 0) false 0 0 139 [none, none, none, none, none, none, none, none, none] [] (wM kn ne fi se ma on ot ta po ti nu mo wa nx oT cF bg ed sF qu qd tr) Q)) : Go mX6_distanceOf (d + 0) false 0 0 8 [some (vR 0), some (vI y1), none, some (vI y3), some (vI y4), some (vI x0_), some (vI x1_), none, none] [] (wM kn ne fi se ma on ot ta po ti nu mo wa nx oT cF bg ed sF qu qd tr) Q := by
  refine loop_go (P := fun x : Int32 × Int32 => ∀ (x0_ : Int32) (x1_ : Int32), x = (x0_, x1_) → Go mX6_distanceOf (d + 0) false 0 0 8 [some (vR 0), some (vI y1), none, some (vI y3), some (vI y4), some (vI x0_), some (vI x1_), none, none] [] (wM kn ne fi se ma on ot ta po ti nu mo wa nx oT cF bg ed sF qu qd tr) Q) (K := fun r : (Int32) ⊕ (Unit) => (∀ (r0_ : Int32), r = Sum.inl r0_ → Go mX6_distanceOf (d + 0) false 0 0 29 [none, none, none, none, none, none, some (vI r0_), none, none] [] (wM kn ne fi se ma on ot ta po ti nu mo wa nx oT cF bg ed sF qu qd tr) Q) ∧ (r = Sum.inr () → Go mX6_distanceOf (d + 0) false 0 0 139 [none, none, none, none, none, none, none, none, none] [] (wM kn ne fi se ma on ot ta po ti nu mo wa nx oT cF bg ed sF qu qd tr) Q)) ?_ (x0_, x1_) r hl hk x0_ x1_ rfl
  · intro x y hs hI hE x0_ x1_ hx
    subst hx
    unfold b_X6_distanceOf_8 at hs
    try dsimp only at hs
    refine go_iload (pc := 8) dX6_distanceOf_8 rfl ?_
    refine go_aload_n (pc := 10) 0 dX6_distanceOf_10 rfl rfl ?_
    refine go_getfield (pc := 11) (v := vR 1) 0 6 0 dX6_distanceOf_11 flX6_7 rfl rfl ?_
    refine go_iload_n (pc := 14) 1 dX6_distanceOf_14 rfl rfl ?_
    obtain ⟨hi1, hs⟩ := chk_t hs
    refine go_iaload (pc := 15) 1 dX6_distanceOf_15 rfl hi1 ?_
    refine go_icmp_gt (pc := 16) 139 dX6_distanceOf_16 (by decide) (fun h2 => ?_) (fun h2 => ?_)
    · have hs := it_t h2 hs
      obtain rfl := Option.some.inj hs
      refine go_sub (lv' := [none, none, none, none, none, none, none, none, none]) trivial ?_
      exact (hE (Sum.inr ()) rfl).2  rfl
    · have hs := it_f h2 hs
      refine go_iload (pc := 19) dX6_distanceOf_19 rfl ?_
      refine go_iload_n (pc := 21) 3 dX6_distanceOf_21 rfl rfl ?_
      refine go_ishr (pc := 22) dX6_distanceOf_22 ?_
      refine go_iconst (pc := 23) (1 : Int32) dX6_distanceOf_23 (by decide) ?_
      refine go_iand (pc := 24) dX6_distanceOf_24 ?_
      refine go_iconst (pc := 25) (1 : Int32) dX6_distanceOf_25 (by decide) ?_
      refine go_icmp_ne (pc := 26) 32 dX6_distanceOf_26 (by decide) (fun h3 => ?_) (fun h3 => ?_)
      · have hs := it_f h3 hs
        refine go_iload (pc := 32) dX6_distanceOf_32 rfl ?_
        refine go_istore (pc := 34) [some (vR 0), some (vI y1), none, some (vI y3), some (vI y4), some (vI x0_), some (vI x1_), some (vI x0_), none] dX6_distanceOf_34 (by decide) rfl ?_
        refine go_iconst (pc := 36) (0 : Int32) dX6_distanceOf_36 (by decide) ?_
        refine go_istore (pc := 37) [some (vR 0), some (vI y1), none, some (vI y3), some (vI y4), some (vI x0_), some (vI x1_), some (vI x0_), some (vI (0 : Int32))] dX6_distanceOf_37 (by decide) rfl ?_
        obtain ⟨e18, hl19, hs⟩ := bnd hs
        refine g_X6_distanceOf_39 (d := d) x0_ (0 : Int32) e18 hl19 ?_
        refine go_iload (pc := 129) dX6_distanceOf_129 rfl ?_
        refine go_istore (pc := 131) [some (vR 0), some (vI y1), none, some (vI y3), some (vI y4), some (vI e18), some (vI x1_), some (vI e18), none] dX6_distanceOf_131 (by decide) rfl ?_
        refine go_iinc (pc := 133) (x1_ + (1 : Int32)) [some (vR 0), some (vI y1), none, some (vI y3), some (vI y4), some (vI e18), some (vI (x1_ + (1 : Int32))), some (vI e18), none] dX6_distanceOf_133 rfl (iinc_1 _) (by decide) rfl ?_
        refine go_goto (pc := 136) 8 dX6_distanceOf_136 (by decide) ?_
        obtain rfl := Option.some.inj hs
        refine go_sub (lv' := [some (vR 0), some (vI y1), none, some (vI y3), some (vI y4), some (vI e18), some (vI (x1_ + (1 : Int32))), none, none]) ⟨rfl, ⟨rfl, ⟨rfl, ⟨rfl, ⟨rfl, ⟨rfl, trivial⟩⟩⟩⟩⟩⟩ ?_
        exact hI (e18, x1_ + (1 : Int32)) rfl e18 (x1_ + (1 : Int32)) rfl
      · have hs := it_t h3 hs
        obtain rfl := Option.some.inj hs
        refine go_sub (lv' := [none, none, none, none, none, none, some (vI x1_), none, none]) ⟨rfl, trivial⟩ ?_
        exact (hE (Sum.inl x1_) rfl).1 x1_ rfl
set_option maxRecDepth 20000 in
theorem c_X6_distanceOf {d : Nat}  {a1 : Int32} {a2 : Int32} {a3 : Int32} {a4 : Int32} {res0 : Int32} (hs : s_X6_distanceOf kn ma on ot a1 a2 a3 a4 = some res0) : Calls mX6_distanceOf (d + 0) false 0 0 [vR 0, vI a1, vI a2, vI a3, vI a4] (wM kn ne fi se ma on ot ta po ti nu mo wa nx oT cF bg ed sF qu qd tr) (fun r w' => r = some (vI res0) ∧ w' = (wM kn ne fi se ma on ot ta po ti nu mo wa nx oT cF bg ed sF qu qd tr)) := by
  unfold s_X6_distanceOf at hs
  refine Calls.of kX6_distanceOf 4 [some (vR 0), some (vI a1), some (vI a2), some (vI a3), some (vI a4), none, none, none, none] rfl (Nat.le_of_ble_eq_true rfl) ?_
  refine go_iconst (pc := 0) (1 : Int32) dX6_distanceOf_0 (by decide) ?_
  refine go_iload_n (pc := 1) 2 dX6_distanceOf_1 rfl rfl ?_
  refine go_ishl (pc := 2) dX6_distanceOf_2 ?_
  refine go_istore (pc := 3) [some (vR 0), some (vI a1), some (vI a2), some (vI a3), some (vI a4), some (vI ((1 : Int32) <<< (a2 &&& 31))), none, none, none] dX6_distanceOf_3 (by decide) rfl ?_
  refine go_iconst (pc := 5) (0 : Int32) dX6_distanceOf_5 (by decide) ?_
  refine go_istore (pc := 6) [some (vR 0), some (vI a1), some (vI a2), some (vI a3), some (vI a4), some (vI ((1 : Int32) <<< (a2 &&& 31))), some (vI (0 : Int32)), none, none] dX6_distanceOf_6 (by decide) rfl ?_
  refine go_sub (lv' := [some (vR 0), some (vI a1), none, some (vI a3), some (vI a4), some (vI ((1 : Int32) <<< (a2 &&& 31))), some (vI (0 : Int32)), none, none]) ⟨rfl, ⟨rfl, ⟨rfl, ⟨rfl, ⟨rfl, ⟨rfl, trivial⟩⟩⟩⟩⟩⟩ ?_
  obtain ⟨e21, hl22, hs⟩ := bnd hs
  refine g_X6_distanceOf_8 (d := d) ((1 : Int32) <<< (a2 &&& 31)) (0 : Int32) e21 hl22 ?_
  constructor
  · intro v24 hv26
    subst hv26
    simp only [Sum.elim_inl] at hs
    refine go_iload (pc := 29) dX6_distanceOf_29 rfl ?_
    cases hs
    exact go_ireturn (st := []) (pc := 31) dX6_distanceOf_31 rfl (vp_nar_int _) (fun h => by cases h) ⟨rfl, rfl⟩
  · intro  hv27
    subst hv27
    simp only [Sum.elim_inr] at hs
    refine go_iconst (pc := 139) (-1 : Int32) dX6_distanceOf_139 (by decide) ?_
    cases hs
    exact go_ireturn (st := []) (pc := 140) dX6_distanceOf_140 rfl (vp_nar_int _) (fun h => by cases h) ⟨rfl, rfl⟩
noncomputable def s_X6_distance (kn : (Nat → Int32)) (ne : (Nat → Int32)) (ma : Int32) (on : (Nat → Int32)) (ot : (Nat → Int32)) (a1 : Int32) (a2 : Int32) (a3 : Int32) : Option (Int32 × Int32 × (Nat → Int32) × (Nat → Int32)) := (s_X6_isKnot kn a1 a2).bind (fun x1 => if x1 = 0 then (some ((-2 : Int32), ma, on, ot)) else ((s_X6_isKnot kn a1 a3).bind (fun x4 => if x4 = 0 then (some ((-2 : Int32), ma, on, ot)) else ((s_X6_layLines kn ne ma on ot a1).bind (fun x7 => (s_X6_distanceOf kn x7.1 x7.2.1 x7.2.2 a1 a2 a3 (-1 : Int32)).bind (fun x9 => some (x9, x7.1, x7.2.1, x7.2.2)))))))
set_option maxRecDepth 20000 in
theorem c_X6_distance {d : Nat}  {a1 : Int32} {a2 : Int32} {a3 : Int32} {res0 : Int32} {res1 : Int32} {res2 : (Nat → Int32)} {res3 : (Nat → Int32)} (hs : s_X6_distance kn ne ma on ot a1 a2 a3 = some (res0, res1, res2, res3)) : Calls mX6_distance (d + 3) false 0 0 [vR 0, vI a1, vI a2, vI a3] (wM kn ne fi se ma on ot ta po ti nu mo wa nx oT cF bg ed sF qu qd tr) (fun r w' => r = some (vI res0) ∧ w' = (wM kn ne fi se res1 res2 res3 ta po ti nu mo wa nx oT cF bg ed sF qu qd tr)) := by
  unfold s_X6_distance at hs
  refine Calls.of kX6_distance 0 [some (vR 0), some (vI a1), some (vI a2), some (vI a3)] rfl (Nat.le_of_ble_eq_true rfl) ?_
  refine go_aload_n (pc := 0) 0 dX6_distance_0 rfl rfl ?_
  refine go_iload_n (pc := 1) 1 dX6_distance_1 rfl rfl ?_
  refine go_iload_n (pc := 2) 2 dX6_distance_2 rfl rfl ?_
  obtain ⟨x1, hc2, hs⟩ := bnd hs
  refine go_callV (bc := 0) (bs := 0) (mc := 0) (ms := 0) (d := d + 2) (pc := 3) (a := 0) (ci := 6) [vI a1, vI a2] [] dX6_distance_3 kX6_isKnot mlX6_81 ivX6_isKnot rfl rfl rfl rfl (Nat.le_of_ble_eq_true rfl) rfl (c_X6_isKnot (d := d + 0) (res0 := x1) hc2) (fun r w' hq => ?_)
  obtain ⟨rfl, rfl⟩ := hq
  show Go mX6_distance (d + 3) false 0 0 6 [some (vR 0), some (vI a1), some (vI a2), some (vI a3)] [vI x1] (wM kn ne fi se ma on ot ta po ti nu mo wa nx oT cF bg ed sF qu qd tr) _
  refine go_if_eq (pc := 6) 18 dX6_distance_6 (by decide) (fun h3 => ?_) (fun h3 => ?_)
  · have hs := it_t h3 hs
    refine go_bipush (pc := 18) (-2 : Int32) dX6_distance_18 (by decide) ?_
    cases hs
    exact go_ireturn (st := []) (pc := 20) dX6_distance_20 rfl (vp_nar_int _) (fun h => by cases h) ⟨rfl, rfl⟩
  · have hs := it_f h3 hs
    refine go_aload_n (pc := 9) 0 dX6_distance_9 rfl rfl ?_
    refine go_iload_n (pc := 10) 1 dX6_distance_10 rfl rfl ?_
    refine go_iload_n (pc := 11) 3 dX6_distance_11 rfl rfl ?_
    obtain ⟨x4, hc5, hs⟩ := bnd hs
    refine go_callV (bc := 0) (bs := 0) (mc := 0) (ms := 0) (d := d + 2) (pc := 12) (a := 0) (ci := 6) [vI a1, vI a3] [] dX6_distance_12 kX6_isKnot mlX6_81 ivX6_isKnot rfl rfl rfl rfl (Nat.le_of_ble_eq_true rfl) rfl (c_X6_isKnot (d := d + 0) (res0 := x4) hc5) (fun r w' hq => ?_)
    obtain ⟨rfl, rfl⟩ := hq
    show Go mX6_distance (d + 3) false 0 0 15 [some (vR 0), some (vI a1), some (vI a2), some (vI a3)] [vI x4] (wM kn ne fi se ma on ot ta po ti nu mo wa nx oT cF bg ed sF qu qd tr) _
    refine go_if_ne (pc := 15) 21 dX6_distance_15 (by decide) (fun h6 => ?_) (fun h6 => ?_)
    · have hs := it_f h6 hs
      refine go_aload_n (pc := 21) 0 dX6_distance_21 rfl rfl ?_
      refine go_iload_n (pc := 22) 1 dX6_distance_22 rfl rfl ?_
      obtain ⟨x7, hc8, hs⟩ := bnd hs
      refine go_callV (bc := 0) (bs := 0) (mc := 0) (ms := 0) (d := d + 2) (pc := 23) (a := 0) (ci := 6) [vI a1] [] dX6_distance_23 kX6_layLines mlX6_109 ivX6_layLines rfl rfl rfl rfl (Nat.le_of_ble_eq_true rfl) rfl (c_X6_layLines (d := d + 1) (res0 := x7.1) (res1 := x7.2.1) (res2 := x7.2.2) hc8) (fun r w' hq => ?_)
      obtain ⟨rfl, rfl⟩ := hq
      show Go mX6_distance (d + 3) false 0 0 26 [some (vR 0), some (vI a1), some (vI a2), some (vI a3)] [] (wM kn ne fi se x7.1 x7.2.1 x7.2.2 ta po ti nu mo wa nx oT cF bg ed sF qu qd tr) _
      refine go_aload_n (pc := 26) 0 dX6_distance_26 rfl rfl ?_
      refine go_iload_n (pc := 27) 1 dX6_distance_27 rfl rfl ?_
      refine go_iload_n (pc := 28) 2 dX6_distance_28 rfl rfl ?_
      refine go_iload_n (pc := 29) 3 dX6_distance_29 rfl rfl ?_
      refine go_iconst (pc := 30) (-1 : Int32) dX6_distance_30 (by decide) ?_
      obtain ⟨x9, hc10, hs⟩ := bnd hs
      refine go_callV (bc := 0) (bs := 0) (mc := 0) (ms := 0) (d := d + 2) (pc := 31) (a := 0) (ci := 6) [vI a1, vI a2, vI a3, vI (-1 : Int32)] [] dX6_distance_31 kX6_distanceOf mlX6_173 ivX6_distanceOf rfl rfl rfl rfl (Nat.le_of_ble_eq_true rfl) rfl (c_X6_distanceOf (d := d + 2) (res0 := x9) hc10) (fun r w' hq => ?_)
      obtain ⟨rfl, rfl⟩ := hq
      show Go mX6_distance (d + 3) false 0 0 34 [some (vR 0), some (vI a1), some (vI a2), some (vI a3)] [vI x9] (wM kn ne fi se x7.1 x7.2.1 x7.2.2 ta po ti nu mo wa nx oT cF bg ed sF qu qd tr) _
      cases hs
      exact go_ireturn (st := []) (pc := 34) dX6_distance_34 rfl (vp_nar_int _) (fun h => by cases h) ⟨rfl, rfl⟩
    · have hs := it_t h6 hs
      refine go_bipush (pc := 18) (-2 : Int32) dX6_distance_18 (by decide) ?_
      cases hs
      exact go_ireturn (st := []) (pc := 20) dX6_distance_20 rfl (vp_nar_int _) (fun h => by cases h) ⟨rfl, rfl⟩
noncomputable def b_X6_round_19 (kn : (Nat → Int32)) (ma : Int32) (on : (Nat → Int32)) (ot : (Nat → Int32)) (y1 : Int32) (x : Int32 × Int32) : Option ((Int32 × Int32) ⊕ (Int32)) := if ma ≤ x.2 then (some (Sum.inr x.1)) else (chk x.2 45 (chk x.2 45 ((s_X6_distanceOf kn ma on ot y1 (on x.2.toNatClampNeg) (ot x.2.toNatClampNeg) x.2).bind (fun x9 => if x9 < 0 then (some (Sum.inl (x.1, x.2 + (1 : Int32)))) else (if x.1 < 0 then (some (Sum.inl (x9 + (1 : Int32), x.2 + (1 : Int32)))) else (if x.1 ≤ (x9 + (1 : Int32)) then (some (Sum.inl (x.1, x.2 + (1 : Int32)))) else (some (Sum.inl (x9 + (1 : Int32), x.2 + (1 : Int32))))))))))
noncomputable def s_X6_round (kn : (Nat → Int32)) (ne : (Nat → Int32)) (ma : Int32) (on : (Nat → Int32)) (ot : (Nat → Int32)) (a1 : Int32) : Option (Int32 × Int32 × (Nat → Int32) × (Nat → Int32)) := (s_X6_isNet a1).bind (fun x1 => if x1 = 0 then (some ((-2 : Int32), ma, on, ot)) else ((s_X6_layLines kn ne ma on ot a1).bind (fun x4 => (loop (b_X6_round_19 kn x4.1 x4.2.1 x4.2.2 a1) ((-1 : Int32), (0 : Int32))).bind (fun e14 => some (e14, x4.1, x4.2.1, x4.2.2)))))
set_option maxRecDepth 20000 in
theorem g_X6_round_19 {d : Nat} {Q : Option AV → List AC → Prop} {y1 : Int32} (x0_ : Int32) (x1_ : Int32) (r : Int32) (hl : loop (b_X6_round_19 kn ma on ot y1) (x0_, x1_) = some r) (hk : Go mX6_round (d + 2) false 0 0 79 [none, none, some (vI r), none, none] [] (wM kn ne fi se ma on ot ta po ti nu mo wa nx oT cF bg ed sF qu qd tr) Q) : Go mX6_round (d + 2) false 0 0 19 [some (vR 0), some (vI y1), some (vI x0_), some (vI x1_), none] [] (wM kn ne fi se ma on ot ta po ti nu mo wa nx oT cF bg ed sF qu qd tr) Q := by
  refine loop_go (P := fun x : Int32 × Int32 => ∀ (x0_ : Int32) (x1_ : Int32), x = (x0_, x1_) → Go mX6_round (d + 2) false 0 0 19 [some (vR 0), some (vI y1), some (vI x0_), some (vI x1_), none] [] (wM kn ne fi se ma on ot ta po ti nu mo wa nx oT cF bg ed sF qu qd tr) Q) (K := fun r : Int32 => Go mX6_round (d + 2) false 0 0 79 [none, none, some (vI r), none, none] [] (wM kn ne fi se ma on ot ta po ti nu mo wa nx oT cF bg ed sF qu qd tr) Q) ?_ (x0_, x1_) r hl hk x0_ x1_ rfl
  · intro x y hs hI hE x0_ x1_ hx
    subst hx
    unfold b_X6_round_19 at hs
    try dsimp only at hs
    refine go_iload_n (pc := 19) 3 dX6_round_19 rfl rfl ?_
    refine go_aload_n (pc := 20) 0 dX6_round_20 rfl rfl ?_
    refine go_getfield (pc := 21) (v := vI ma) 0 6 4 dX6_round_21 flX6_105 rfl rfl ?_
    refine go_icmp_ge (pc := 24) 79 dX6_round_24 (by decide) (fun h6 => ?_) (fun h6 => ?_)
    · have hs := it_t h6 hs
      obtain rfl := Option.some.inj hs
      refine go_sub (lv' := [none, none, some (vI x0_), none, none]) ⟨rfl, trivial⟩ ?_
      exact hE x0_ rfl
    · have hs := it_f h6 hs
      refine go_aload_n (pc := 27) 0 dX6_round_27 rfl rfl ?_
      refine go_iload_n (pc := 28) 1 dX6_round_28 rfl rfl ?_
      refine go_aload_n (pc := 29) 0 dX6_round_29 rfl rfl ?_
      refine go_getfield (pc := 30) (v := vR 5) 0 6 5 dX6_round_30 flX6_22 rfl rfl ?_
      refine go_iload_n (pc := 33) 3 dX6_round_33 rfl rfl ?_
      obtain ⟨hi7, hs⟩ := chk_t hs
      refine go_iaload (pc := 34) 5 dX6_round_34 rfl hi7 ?_
      refine go_aload_n (pc := 35) 0 dX6_round_35 rfl rfl ?_
      refine go_getfield (pc := 36) (v := vR 6) 0 6 6 dX6_round_36 flX6_25 rfl rfl ?_
      refine go_iload_n (pc := 39) 3 dX6_round_39 rfl rfl ?_
      obtain ⟨hi8, hs⟩ := chk_t hs
      refine go_iaload (pc := 40) 6 dX6_round_40 rfl hi8 ?_
      refine go_iload_n (pc := 41) 3 dX6_round_41 rfl rfl ?_
      obtain ⟨x9, hc10, hs⟩ := bnd hs
      refine go_callV (bc := 0) (bs := 0) (mc := 0) (ms := 0) (d := d + 1) (pc := 42) (a := 0) (ci := 6) [vI y1, vI (on x1_.toNatClampNeg), vI (ot x1_.toNatClampNeg), vI x1_] [] dX6_round_42 kX6_distanceOf mlX6_173 ivX6_distanceOf rfl rfl rfl rfl (Nat.le_of_ble_eq_true rfl) rfl (c_X6_distanceOf (d := d + 1) (res0 := x9) hc10) (fun r w' hq => ?_)
      obtain ⟨rfl, rfl⟩ := hq
      show Go mX6_round (d + 2) false 0 0 45 [some (vR 0), some (vI y1), some (vI x0_), some (vI x1_), none] [vI x9] (wM kn ne fi se ma on ot ta po ti nu mo wa nx oT cF bg ed sF qu qd tr) Q
      refine go_istore (pc := 45) [some (vR 0), some (vI y1), some (vI x0_), some (vI x1_), some (vI x9)] dX6_round_45 (by decide) rfl ?_
      refine go_iload (pc := 47) dX6_round_47 rfl ?_
      refine go_if_lt (pc := 49) 71 dX6_round_49 (by decide) (fun h11 => ?_) (fun h11 => ?_)
      · have hs := it_t h11 hs
        refine go_iload_n (pc := 71) 2 dX6_round_71 rfl rfl ?_
        refine go_istore_n (pc := 72) 2 [some (vR 0), some (vI y1), some (vI x0_), some (vI x1_), some (vI x9)] dX6_round_72 rfl (by decide) rfl ?_
        refine go_iinc (pc := 73) (x1_ + (1 : Int32)) [some (vR 0), some (vI y1), some (vI x0_), some (vI (x1_ + (1 : Int32))), some (vI x9)] dX6_round_73 rfl (iinc_1 _) (by decide) rfl ?_
        refine go_goto (pc := 76) 19 dX6_round_76 (by decide) ?_
        obtain rfl := Option.some.inj hs
        refine go_sub (lv' := [some (vR 0), some (vI y1), some (vI x0_), some (vI (x1_ + (1 : Int32))), none]) ⟨rfl, ⟨rfl, ⟨rfl, ⟨rfl, trivial⟩⟩⟩⟩ ?_
        exact hI (x0_, x1_ + (1 : Int32)) rfl x0_ (x1_ + (1 : Int32)) rfl
      · have hs := it_f h11 hs
        refine go_iload_n (pc := 52) 2 dX6_round_52 rfl rfl ?_
        refine go_if_lt (pc := 53) 64 dX6_round_53 (by decide) (fun h12 => ?_) (fun h12 => ?_)
        · have hs := it_t h12 hs
          refine go_iload (pc := 64) dX6_round_64 rfl ?_
          refine go_iconst (pc := 66) (1 : Int32) dX6_round_66 (by decide) ?_
          refine go_iadd (pc := 67) dX6_round_67 ?_
          refine go_goto (pc := 68) 72 dX6_round_68 (by decide) ?_
          refine go_istore_n (pc := 72) 2 [some (vR 0), some (vI y1), some (vI (x9 + (1 : Int32))), some (vI x1_), some (vI x9)] dX6_round_72 rfl (by decide) rfl ?_
          refine go_iinc (pc := 73) (x1_ + (1 : Int32)) [some (vR 0), some (vI y1), some (vI (x9 + (1 : Int32))), some (vI (x1_ + (1 : Int32))), some (vI x9)] dX6_round_73 rfl (iinc_1 _) (by decide) rfl ?_
          refine go_goto (pc := 76) 19 dX6_round_76 (by decide) ?_
          obtain rfl := Option.some.inj hs
          refine go_sub (lv' := [some (vR 0), some (vI y1), some (vI (x9 + (1 : Int32))), some (vI (x1_ + (1 : Int32))), none]) ⟨rfl, ⟨rfl, ⟨rfl, ⟨rfl, trivial⟩⟩⟩⟩ ?_
          exact hI (x9 + (1 : Int32), x1_ + (1 : Int32)) rfl (x9 + (1 : Int32)) (x1_ + (1 : Int32)) rfl
        · have hs := it_f h12 hs
          refine go_iload (pc := 56) dX6_round_56 rfl ?_
          refine go_iconst (pc := 58) (1 : Int32) dX6_round_58 (by decide) ?_
          refine go_iadd (pc := 59) dX6_round_59 ?_
          refine go_iload_n (pc := 60) 2 dX6_round_60 rfl rfl ?_
          refine go_icmp_ge (pc := 61) 71 dX6_round_61 (by decide) (fun h13 => ?_) (fun h13 => ?_)
          · have hs := it_t h13 hs
            refine go_iload_n (pc := 71) 2 dX6_round_71 rfl rfl ?_
            refine go_istore_n (pc := 72) 2 [some (vR 0), some (vI y1), some (vI x0_), some (vI x1_), some (vI x9)] dX6_round_72 rfl (by decide) rfl ?_
            refine go_iinc (pc := 73) (x1_ + (1 : Int32)) [some (vR 0), some (vI y1), some (vI x0_), some (vI (x1_ + (1 : Int32))), some (vI x9)] dX6_round_73 rfl (iinc_1 _) (by decide) rfl ?_
            refine go_goto (pc := 76) 19 dX6_round_76 (by decide) ?_
            obtain rfl := Option.some.inj hs
            refine go_sub (lv' := [some (vR 0), some (vI y1), some (vI x0_), some (vI (x1_ + (1 : Int32))), none]) ⟨rfl, ⟨rfl, ⟨rfl, ⟨rfl, trivial⟩⟩⟩⟩ ?_
            exact hI (x0_, x1_ + (1 : Int32)) rfl x0_ (x1_ + (1 : Int32)) rfl
          · have hs := it_f h13 hs
            refine go_iload (pc := 64) dX6_round_64 rfl ?_
            refine go_iconst (pc := 66) (1 : Int32) dX6_round_66 (by decide) ?_
            refine go_iadd (pc := 67) dX6_round_67 ?_
            refine go_goto (pc := 68) 72 dX6_round_68 (by decide) ?_
            refine go_istore_n (pc := 72) 2 [some (vR 0), some (vI y1), some (vI (x9 + (1 : Int32))), some (vI x1_), some (vI x9)] dX6_round_72 rfl (by decide) rfl ?_
            refine go_iinc (pc := 73) (x1_ + (1 : Int32)) [some (vR 0), some (vI y1), some (vI (x9 + (1 : Int32))), some (vI (x1_ + (1 : Int32))), some (vI x9)] dX6_round_73 rfl (iinc_1 _) (by decide) rfl ?_
            refine go_goto (pc := 76) 19 dX6_round_76 (by decide) ?_
            obtain rfl := Option.some.inj hs
            refine go_sub (lv' := [some (vR 0), some (vI y1), some (vI (x9 + (1 : Int32))), some (vI (x1_ + (1 : Int32))), none]) ⟨rfl, ⟨rfl, ⟨rfl, ⟨rfl, trivial⟩⟩⟩⟩ ?_
            exact hI (x9 + (1 : Int32), x1_ + (1 : Int32)) rfl (x9 + (1 : Int32)) (x1_ + (1 : Int32)) rfl
set_option maxRecDepth 20000 in
theorem c_X6_round {d : Nat}  {a1 : Int32} {res0 : Int32} {res1 : Int32} {res2 : (Nat → Int32)} {res3 : (Nat → Int32)} (hs : s_X6_round kn ne ma on ot a1 = some (res0, res1, res2, res3)) : Calls mX6_round (d + 2) false 0 0 [vR 0, vI a1] (wM kn ne fi se ma on ot ta po ti nu mo wa nx oT cF bg ed sF qu qd tr) (fun r w' => r = some (vI res0) ∧ w' = (wM kn ne fi se res1 res2 res3 ta po ti nu mo wa nx oT cF bg ed sF qu qd tr)) := by
  unfold s_X6_round at hs
  refine Calls.of kX6_round 3 [some (vR 0), some (vI a1), none, none, none] rfl (Nat.le_of_ble_eq_true rfl) ?_
  refine go_iload_n (pc := 0) 1 dX6_round_0 rfl rfl ?_
  obtain ⟨x1, hc2, hs⟩ := bnd hs
  refine go_callS (bc := 0) (bs := 0) (mc := 0) (ms := 0) (d := d + 1) (pc := 1) [vI a1] [] dX6_round_1 kX6_isNet mlX6_69 isX6_isNet rfl (Nat.le_of_ble_eq_true rfl) rfl (c_X6_isNet (d := d + 0) (res0 := x1) hc2) (fun r w' hq => ?_)
  obtain ⟨rfl, rfl⟩ := hq
  show Go mX6_round (d + 2) false 0 0 4 [some (vR 0), some (vI a1), none, none, none] [vI x1] (wM kn ne fi se ma on ot ta po ti nu mo wa nx oT cF bg ed sF qu qd tr) _
  refine go_if_ne (pc := 4) 10 dX6_round_4 (by decide) (fun h3 => ?_) (fun h3 => ?_)
  · have hs := it_f h3 hs
    refine go_aload_n (pc := 10) 0 dX6_round_10 rfl rfl ?_
    refine go_iload_n (pc := 11) 1 dX6_round_11 rfl rfl ?_
    obtain ⟨x4, hc5, hs⟩ := bnd hs
    refine go_callV (bc := 0) (bs := 0) (mc := 0) (ms := 0) (d := d + 1) (pc := 12) (a := 0) (ci := 6) [vI a1] [] dX6_round_12 kX6_layLines mlX6_109 ivX6_layLines rfl rfl rfl rfl (Nat.le_of_ble_eq_true rfl) rfl (c_X6_layLines (d := d + 0) (res0 := x4.1) (res1 := x4.2.1) (res2 := x4.2.2) hc5) (fun r w' hq => ?_)
    obtain ⟨rfl, rfl⟩ := hq
    show Go mX6_round (d + 2) false 0 0 15 [some (vR 0), some (vI a1), none, none, none] [] (wM kn ne fi se x4.1 x4.2.1 x4.2.2 ta po ti nu mo wa nx oT cF bg ed sF qu qd tr) _
    refine go_iconst (pc := 15) (-1 : Int32) dX6_round_15 (by decide) ?_
    refine go_istore_n (pc := 16) 2 [some (vR 0), some (vI a1), some (vI (-1 : Int32)), none, none] dX6_round_16 rfl (by decide) rfl ?_
    refine go_iconst (pc := 17) (0 : Int32) dX6_round_17 (by decide) ?_
    refine go_istore_n (pc := 18) 3 [some (vR 0), some (vI a1), some (vI (-1 : Int32)), some (vI (0 : Int32)), none] dX6_round_18 rfl (by decide) rfl ?_
    obtain ⟨e14, hl15, hs⟩ := bnd hs
    refine g_X6_round_19 (d := d) (-1 : Int32) (0 : Int32) e14 hl15 ?_
    refine go_iload_n (pc := 79) 2 dX6_round_79 rfl rfl ?_
    cases hs
    exact go_ireturn (st := []) (pc := 80) dX6_round_80 rfl (vp_nar_int _) (fun h => by cases h) ⟨rfl, rfl⟩
  · have hs := it_t h3 hs
    refine go_bipush (pc := 7) (-2 : Int32) dX6_round_7 (by decide) ?_
    cases hs
    exact go_ireturn (st := []) (pc := 9) dX6_round_9 rfl (vp_nar_int _) (fun h => by cases h) ⟨rfl, rfl⟩
end
