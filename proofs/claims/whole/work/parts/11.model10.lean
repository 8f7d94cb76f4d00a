section
variable {kn : (Nat → Int32)} {ne : (Nat → Int32)} {fi : (Nat → Int32)} {se : (Nat → Int32)} {ma : Int32} {on : (Nat → Int32)} {ot : (Nat → Int32)} {ta : (Nat → Int64)} {po : (Nat → Int64)} {ti : (Nat → Int64)} {nu : (Nat → Int64)} {mo : (Nat → Int64)} {wa : (Nat → Int64)} {nx : (Nat → Int64)} {oT : (Nat → Int32)} {cF : (Nat → Int32)} {bg : Int32} {ed : Int32} {sF : (Nat → Int32)} {qu : (Nat → Int32)} {qd : Int32} {tr : (Nat → Int32)}
noncomputable def s_X6_see (sF : (Nat → Int32)) (qu : (Nat → Int32)) (qd : Int32) (a1 : Int32) (a2 : Int32) : Option ((Nat → Int32) × (Nat → Int32) × Int32) := chk a1 20 (if (sF a1.toNatClampNeg) = (-2 : Int32) then (chk a1 20 (chk qd 20 (some (upd sF a1.toNatClampNeg a2, upd qu qd.toNatClampNeg a1, qd + (1 : Int32))))) else (some (sF, qu, qd)))
set_option maxRecDepth 20000 in
theorem c_X6_see {d : Nat}  {a1 : Int32} {a2 : Int32} {res0 : (Nat → Int32)} {res1 : (Nat → Int32)} {res2 : Int32} (hs : s_X6_see sF qu qd a1 a2 = some (res0, res1, res2)) : Calls mX6_see (d + 0) false 0 0 [vR 0, vI a1, vI a2] (wM kn ne fi se ma on ot ta po ti nu mo wa nx oT cF bg ed sF qu qd tr) (fun r w' => r = none ∧ w' = (wM kn ne fi se ma on ot ta po ti nu mo wa nx oT cF bg ed res0 res1 res2 tr)) := by
  unfold s_X6_see at hs
  refine Calls.of kX6_see 0 [some (vR 0), some (vI a1), some (vI a2)] rfl (Nat.le_of_ble_eq_true rfl) ?_
  refine go_aload_n (pc := 0) 0 dX6_see_0 rfl rfl ?_
  refine go_getfield (pc := 1) (v := vR 16) 0 6 18 dX6_see_1 flX6_56 rfl rfl ?_
  refine go_iload_n (pc := 4) 1 dX6_see_4 rfl rfl ?_
  obtain ⟨hi1, hs⟩ := chk_t hs
  refine go_iaload (pc := 5) 16 dX6_see_5 rfl hi1 ?_
  refine go_bipush (pc := 6) (-2 : Int32) dX6_see_6 (by decide) ?_
  refine go_icmp_ne (pc := 8) 38 dX6_see_8 (by decide) (fun h2 => ?_) (fun h2 => ?_)
  · have hs := it_f h2 hs
    cases hs
    exact go_return (st := []) (pc := 38) dX6_see_38 rfl (fun h => by cases h) ⟨rfl, rfl⟩
  · have hs := it_t h2 hs
    refine go_aload_n (pc := 11) 0 dX6_see_11 rfl rfl ?_
    refine go_getfield (pc := 12) (v := vR 16) 0 6 18 dX6_see_12 flX6_56 rfl rfl ?_
    refine go_iload_n (pc := 15) 1 dX6_see_15 rfl rfl ?_
    refine go_iload_n (pc := 16) 2 dX6_see_16 rfl rfl ?_
    obtain ⟨hi3, hs⟩ := chk_t hs
    refine go_iastore (pc := 17) 16 dX6_see_17 rfl hi3 (show Go mX6_see (d + 0) false 0 0 18 [some (vR 0), some (vI a1), some (vI a2)] [] (wM kn ne fi se ma on ot ta po ti nu mo wa nx oT cF bg ed (upd sF a1.toNatClampNeg a2) qu qd tr) _ from ?_)
    refine go_aload_n (pc := 18) 0 dX6_see_18 rfl rfl ?_
    refine go_getfield (pc := 19) (v := vR 17) 0 6 19 dX6_see_19 flX6_59 rfl rfl ?_
    refine go_aload_n (pc := 22) 0 dX6_see_22 rfl rfl ?_
    refine go_getfield (pc := 23) (v := vI qd) 0 6 20 dX6_see_23 flX6_152 rfl rfl ?_
    refine go_iload_n (pc := 26) 1 dX6_see_26 rfl rfl ?_
    obtain ⟨hi4, hs⟩ := chk_t hs
    refine go_iastore (pc := 27) 17 dX6_see_27 rfl hi4 (show Go mX6_see (d + 0) false 0 0 28 [some (vR 0), some (vI a1), some (vI a2)] [] (wM kn ne fi se ma on ot ta po ti nu mo wa nx oT cF bg ed (upd sF a1.toNatClampNeg a2) (upd qu qd.toNatClampNeg a1) qd tr) _ from ?_)
    refine go_aload_n (pc := 28) 0 dX6_see_28 rfl rfl ?_
    refine go_dup (pc := 29) dX6_see_29 rfl ?_
    refine go_getfield (pc := 30) (v := vI qd) 0 6 20 dX6_see_30 flX6_152 rfl rfl ?_
    refine go_iconst (pc := 33) (1 : Int32) dX6_see_33 (by decide) ?_
    refine go_iadd (pc := 34) dX6_see_34 ?_
    refine go_putI (pc := 35) 0 6 20 dX6_see_35 fpX6_152 rfl (Nat.le_of_ble_eq_true rfl) (show Go mX6_see (d + 0) false 0 0 38 [some (vR 0), some (vI a1), some (vI a2)] [] (wM kn ne fi se ma on ot ta po ti nu mo wa nx oT cF bg ed (upd sF a1.toNatClampNeg a2) (upd qu qd.toNatClampNeg a1) (qd + (1 : Int32)) tr) _ from ?_)
    cases hs
    exact go_return (st := []) (pc := 38) dX6_see_38 rfl (fun h => by cases h) ⟨rfl, rfl⟩
noncomputable def s_X6_isUsed (cF : (Nat → Int32)) (bg : Int32) (a1 : Int32) : Option (Int32) := if ((bg >>> (a1 &&& 31)) &&& (1 : Int32)) = (1 : Int32) then (some (1 : Int32)) else (chk a1 10 (if (cF a1.toNatClampNeg) < 0 then (some (0 : Int32)) else (some (1 : Int32))))
set_option maxRecDepth 20000 in
theorem c_X6_isUsed {d : Nat}  {a1 : Int32} {res0 : Int32} (hs : s_X6_isUsed cF bg a1 = some res0) : Calls mX6_isUsed (d + 0) false 0 0 [vR 0, vI a1] (wM kn ne fi se ma on ot ta po ti nu mo wa nx oT cF bg ed sF qu qd tr) (fun r w' => r = some (vI res0) ∧ w' = (wM kn ne fi se ma on ot ta po ti nu mo wa nx oT cF bg ed sF qu qd tr)) := by
  unfold s_X6_isUsed at hs
  refine Calls.of kX6_isUsed 0 [some (vR 0), some (vI a1)] rfl (Nat.le_of_ble_eq_true rfl) ?_
  refine go_aload_n (pc := 0) 0 dX6_isUsed_0 rfl rfl ?_
  refine go_getfield (pc := 1) (v := vI bg) 0 6 16 dX6_isUsed_1 flX6_155 rfl rfl ?_
  refine go_iload_n (pc := 4) 1 dX6_isUsed_4 rfl rfl ?_
  refine go_ishr (pc := 5) dX6_isUsed_5 ?_
  refine go_iconst (pc := 6) (1 : Int32) dX6_isUsed_6 (by decide) ?_
  refine go_iand (pc := 7) dX6_isUsed_7 ?_
  refine go_iconst (pc := 8) (1 : Int32) dX6_isUsed_8 (by decide) ?_
  refine go_icmp_eq (pc := 9) 21 dX6_isUsed_9 (by decide) (fun h1 => ?_) (fun h1 => ?_)
  · have hs := it_t h1 hs
    refine go_iconst (pc := 21) (1 : Int32) dX6_isUsed_21 (by decide) ?_
    refine go_goto (pc := 22) 26 dX6_isUsed_22 (by decide) ?_
    cases hs
    exact go_ireturn (st := []) (pc := 26) dX6_isUsed_26 rfl rfl (fun h => by cases h) ⟨rfl, rfl⟩
  · have hs := it_f h1 hs
    refine go_aload_n (pc := 12) 0 dX6_isUsed_12 rfl rfl ?_
    refine go_getfield (pc := 13) (v := vR 15) 0 6 15 dX6_isUsed_13 flX6_53 rfl rfl ?_
    refine go_iload_n (pc := 16) 1 dX6_isUsed_16 rfl rfl ?_
    obtain ⟨hi2, hs⟩ := chk_t hs
    refine go_iaload (pc := 17) 15 dX6_isUsed_17 rfl hi2 ?_
    refine go_if_lt (pc := 18) 25 dX6_isUsed_18 (by decide) (fun h3 => ?_) (fun h3 => ?_)
    · have hs := it_t h3 hs
      refine go_iconst (pc := 25) (0 : Int32) dX6_isUsed_25 (by decide) ?_
      cases hs
      exact go_ireturn (st := []) (pc := 26) dX6_isUsed_26 rfl rfl (fun h => by cases h) ⟨rfl, rfl⟩
    · have hs := it_f h3 hs
      refine go_iconst (pc := 21) (1 : Int32) dX6_isUsed_21 (by decide) ?_
      refine go_goto (pc := 22) 26 dX6_isUsed_22 (by decide) ?_
      cases hs
      exact go_ireturn (st := []) (pc := 26) dX6_isUsed_26 rfl rfl (fun h => by cases h) ⟨rfl, rfl⟩
noncomputable def b_X6_lay_4 (sF : (Nat → Int32)) (x : Int32 × Int32 × (Nat → Int32)) : Option ((Int32 × Int32 × (Nat → Int32)) ⊕ (Int32 × (Nat → Int32))) := if x.2.1 < 0 then (some (Sum.inr (x.1, x.2.2))) else (chk x.1 20 (chk x.2.1 20 (some (Sum.inl (x.1 + (1 : Int32), sF x.2.1.toNatClampNeg, upd x.2.2 x.1.toNatClampNeg x.2.1)))))
noncomputable def b_X6_lay_67 (tr : (Nat → Int32)) (x : Int32 × (Nat → Int32) × (Nat → Int32)) : Option ((Int32 × (Nat → Int32) × (Nat → Int32)) ⊕ ((Nat → Int32) × (Nat → Int32))) := if x.1 ≤ 0 then (some (Sum.inr (x.2.1, x.2.2))) else (chk x.1 20 (chk (x.1 - (1 : Int32)) 20 (if ((tr x.1.toNatClampNeg) / (2 : Int32)) = ((tr (x.1 - (1 : Int32)).toNatClampNeg) / (2 : Int32)) then (some (Sum.inl (x.1 + (-1 : Int32), x.2.1, x.2.2))) else (if ((tr x.1.toNatClampNeg) - (tr x.1.toNatClampNeg) / (2 : Int32) * (2 : Int32)) = 0 then (chk ((tr (x.1 - (1 : Int32)).toNatClampNeg) / (2 : Int32)) 10 (chk ((tr x.1.toNatClampNeg) / (2 : Int32)) 10 (some (Sum.inl (x.1 + (-1 : Int32), upd x.2.1 ((tr (x.1 - (1 : Int32)).toNatClampNeg) / (2 : Int32)).toNatClampNeg (-1 : Int32), upd x.2.2 ((tr x.1.toNatClampNeg) / (2 : Int32)).toNatClampNeg (-1 : Int32)))))) else (some (Sum.inl (x.1 + (-1 : Int32), x.2.1, x.2.2)))))))
noncomputable def b_X6_lay_137 (tr : (Nat → Int32)) (x : Int32 × (Nat → Int32) × (Nat → Int32)) : Option ((Int32 × (Nat → Int32) × (Nat → Int32)) ⊕ ((Nat → Int32) × (Nat → Int32))) := if x.1 ≤ 0 then (some (Sum.inr (x.2.1, x.2.2))) else (chk x.1 20 (chk (x.1 - (1 : Int32)) 20 (if ((tr x.1.toNatClampNeg) / (2 : Int32)) = ((tr (x.1 - (1 : Int32)).toNatClampNeg) / (2 : Int32)) then (some (Sum.inl (x.1 + (-1 : Int32), x.2.1, x.2.2))) else (if ((tr x.1.toNatClampNeg) - (tr x.1.toNatClampNeg) / (2 : Int32) * (2 : Int32)) = (1 : Int32) then (chk ((tr x.1.toNatClampNeg) / (2 : Int32)) 10 (chk ((tr (x.1 - (1 : Int32)).toNatClampNeg) / (2 : Int32)) 10 (some (Sum.inl (x.1 + (-1 : Int32), upd x.2.1 ((tr x.1.toNatClampNeg) / (2 : Int32)).toNatClampNeg ((tr (x.1 - (1 : Int32)).toNatClampNeg) / (2 : Int32)), upd x.2.2 ((tr (x.1 - (1 : Int32)).toNatClampNeg) / (2 : Int32)).toNatClampNeg ((tr x.1.toNatClampNeg) / (2 : Int32))))))) else (some (Sum.inl (x.1 + (-1 : Int32), x.2.1, x.2.2)))))))
noncomputable def s_X6_lay (oT : (Nat → Int32)) (cF : (Nat → Int32)) (bg : Int32) (ed : Int32) (sF : (Nat → Int32)) (tr : (Nat → Int32)) (a1 : Int32) : Option ((Nat → Int32) × (Nat → Int32) × Int32 × Int32 × (Nat → Int32)) := (loop (b_X6_lay_4 sF) ((0 : Int32), a1, tr)).bind (fun e4 => chk (e4.1 - (1 : Int32)) 20 ((loop (b_X6_lay_67 e4.2) (e4.1 - (1 : Int32), oT, cF)).bind (fun e17 => (loop (b_X6_lay_137 e4.2) (e4.1 - (1 : Int32), e17.1, e17.2)).bind (fun e29 => some (e29.1, e29.2, bg ||| ((1 : Int32) <<< (((e4.2 (e4.1 - (1 : Int32)).toNatClampNeg) / (2 : Int32)) &&& 31)), ed ||| ((1 : Int32) <<< ((a1 / (2 : Int32)) &&& 31)), e4.2)))))
set_option maxRecDepth 20000 in
theorem g_X6_lay_4 {d : Nat} {Q : Option AV → List AC → Prop} {y1 : Int32} (x0_ : Int32) (x1_ : Int32) (x2_ : (Nat → Int32)) (r : Int32 × (Nat → Int32)) (hl : loop (b_X6_lay_4 sF) (x0_, x1_, x2_) = some r) (hk : ∀ (r0_ : Int32) (r1_ : (Nat → Int32)), r = (r0_, r1_) → Go mX6_lay (d + 0) false 0 0 28 [some (vR 0), some (vI y1), some (vI r0_), none, none, none] [] (wM kn ne fi se ma on ot ta po ti nu mo wa nx oT cF bg ed sF qu qd r1_) Q) : Go mX6_lay (d + 0) false 0 0 4 [some (vR 0), some (vI y1), some (vI x0_), some (vI x1_), none, none] [] (wM kn ne fi se ma on ot ta po ti nu mo wa nx oT cF bg ed sF qu qd x2_) Q := by
  refine loop_go (P := fun x : Int32 × Int32 × (Nat → Int32) => ∀ (x0_ : Int32) (x1_ : Int32) (x2_ : (Nat → Int32)), x = (x0_, x1_, x2_) → Go mX6_lay (d + 0) false 0 0 4 [some (vR 0), some (vI y1), some (vI x0_), some (vI x1_), none, none] [] (wM kn ne fi se ma on ot ta po ti nu mo wa nx oT cF bg ed sF qu qd x2_) Q) (K := fun r : Int32 × (Nat → Int32) => ∀ (r0_ : Int32) (r1_ : (Nat → Int32)), r = (r0_, r1_) → Go mX6_lay (d + 0) false 0 0 28 [some (vR 0), some (vI y1), some (vI r0_), none, none, none] [] (wM kn ne fi se ma on ot ta po ti nu mo wa nx oT cF bg ed sF qu qd r1_) Q) ?_ (x0_, x1_, x2_) r hl hk x0_ x1_ x2_ rfl
  · intro x y hs hI hE x0_ x1_ x2_ hx
    subst hx
    unfold b_X6_lay_4 at hs
    try dsimp only at hs
    refine go_iload_n (pc := 4) 3 dX6_lay_4 rfl rfl ?_
    refine go_if_lt (pc := 5) 28 dX6_lay_5 (by decide) (fun h1 => ?_) (fun h1 => ?_)
    · have hs := it_t h1 hs
      obtain rfl := Option.some.inj hs
      refine go_sub (lv' := [some (vR 0), some (vI y1), some (vI x0_), none, none, none]) ⟨rfl, ⟨rfl, ⟨rfl, trivial⟩⟩⟩ ?_
      exact (hE (x0_, x2_) rfl) x0_ x2_ rfl
    · have hs := it_f h1 hs
      refine go_aload_n (pc := 8) 0 dX6_lay_8 rfl rfl ?_
      refine go_getfield (pc := 9) (v := vR 18) 0 6 21 dX6_lay_9 flX6_62 rfl rfl ?_
      refine go_iload_n (pc := 12) 2 dX6_lay_12 rfl rfl ?_
      refine go_iload_n (pc := 13) 3 dX6_lay_13 rfl rfl ?_
      obtain ⟨hi2, hs⟩ := chk_t hs
      refine go_iastore (pc := 14) 18 dX6_lay_14 rfl hi2 (show Go mX6_lay (d + 0) false 0 0 15 [some (vR 0), some (vI y1), some (vI x0_), some (vI x1_), none, none] [] (wM kn ne fi se ma on ot ta po ti nu mo wa nx oT cF bg ed sF qu qd (upd x2_ x0_.toNatClampNeg x1_)) Q from ?_)
      refine go_iinc (pc := 15) (x0_ + (1 : Int32)) [some (vR 0), some (vI y1), some (vI (x0_ + (1 : Int32))), some (vI x1_), none, none] dX6_lay_15 rfl (iinc_1 _) (by decide) rfl ?_
      refine go_aload_n (pc := 18) 0 dX6_lay_18 rfl rfl ?_
      refine go_getfield (pc := 19) (v := vR 16) 0 6 18 dX6_lay_19 flX6_56 rfl rfl ?_
      refine go_iload_n (pc := 22) 3 dX6_lay_22 rfl rfl ?_
      obtain ⟨hi3, hs⟩ := chk_t hs
      refine go_iaload (pc := 23) 16 dX6_lay_23 rfl hi3 ?_
      refine go_istore_n (pc := 24) 3 [some (vR 0), some (vI y1), some (vI (x0_ + (1 : Int32))), some (vI (sF x1_.toNatClampNeg)), none, none] dX6_lay_24 rfl (by decide) rfl ?_
      refine go_goto (pc := 25) 4 dX6_lay_25 (by decide) ?_
      obtain rfl := Option.some.inj hs
      exact hI (x0_ + (1 : Int32), sF x1_.toNatClampNeg, upd x2_ x0_.toNatClampNeg x1_) rfl (x0_ + (1 : Int32)) (sF x1_.toNatClampNeg) (upd x2_ x0_.toNatClampNeg x1_) rfl
set_option maxRecDepth 20000 in
theorem g_X6_lay_67 {d : Nat} {Q : Option AV → List AC → Prop} {y2 : Int32} (x0_ : Int32) (x1_ : (Nat → Int32)) (x2_ : (Nat → Int32)) (r : (Nat → Int32) × (Nat → Int32)) (hl : loop (b_X6_lay_67 tr) (x0_, x1_, x2_) = some r) (hk : ∀ (r0_ : (Nat → Int32)) (r1_ : (Nat → Int32)), r = (r0_, r1_) → Go mX6_lay (d + 0) false 0 0 133 [some (vR 0), none, some (vI y2), none, none, none] [] (wM kn ne fi se ma on ot ta po ti nu mo wa nx r0_ r1_ bg ed sF qu qd tr) Q) : Go mX6_lay (d + 0) false 0 0 67 [some (vR 0), none, some (vI y2), some (vI x0_), none, none] [] (wM kn ne fi se ma on ot ta po ti nu mo wa nx x1_ x2_ bg ed sF qu qd tr) Q := by
  refine loop_go (P := fun x : Int32 × (Nat → Int32) × (Nat → Int32) => ∀ (x0_ : Int32) (x1_ : (Nat → Int32)) (x2_ : (Nat → Int32)), x = (x0_, x1_, x2_) → Go mX6_lay (d + 0) false 0 0 67 [some (vR 0), none, some (vI y2), some (vI x0_), none, none] [] (wM kn ne fi se ma on ot ta po ti nu mo wa nx x1_ x2_ bg ed sF qu qd tr) Q) (K := fun r : (Nat → Int32) × (Nat → Int32) => ∀ (r0_ : (Nat → Int32)) (r1_ : (Nat → Int32)), r = (r0_, r1_) → Go mX6_lay (d + 0) false 0 0 133 [some (vR 0), none, some (vI y2), none, none, none] [] (wM kn ne fi se ma on ot ta po ti nu mo wa nx r0_ r1_ bg ed sF qu qd tr) Q) ?_ (x0_, x1_, x2_) r hl hk x0_ x1_ x2_ rfl
  · intro x y hs hI hE x0_ x1_ x2_ hx
    subst hx
    unfold b_X6_lay_67 at hs
    try dsimp only at hs
    refine go_iload_n (pc := 67) 3 dX6_lay_67 rfl rfl ?_
    refine go_if_le (pc := 68) 133 dX6_lay_68 (by decide) (fun h10 => ?_) (fun h10 => ?_)
    · have hs := it_t h10 hs
      obtain rfl := Option.some.inj hs
      refine go_sub (lv' := [some (vR 0), none, some (vI y2), none, none, none]) ⟨rfl, ⟨rfl, trivial⟩⟩ ?_
      exact (hE (x1_, x2_) rfl) x1_ x2_ rfl
    · have hs := it_f h10 hs
      refine go_aload_n (pc := 71) 0 dX6_lay_71 rfl rfl ?_
      refine go_getfield (pc := 72) (v := vR 18) 0 6 21 dX6_lay_72 flX6_62 rfl rfl ?_
      refine go_iload_n (pc := 75) 3 dX6_lay_75 rfl rfl ?_
      obtain ⟨hi11, hs⟩ := chk_t hs
      refine go_iaload (pc := 76) 18 dX6_lay_76 rfl hi11 ?_
      refine go_istore (pc := 77) [some (vR 0), none, some (vI y2), some (vI x0_), some (vI (tr x0_.toNatClampNeg)), none] dX6_lay_77 (by decide) rfl ?_
      refine go_aload_n (pc := 79) 0 dX6_lay_79 rfl rfl ?_
      refine go_getfield (pc := 80) (v := vR 18) 0 6 21 dX6_lay_80 flX6_62 rfl rfl ?_
      refine go_iload_n (pc := 83) 3 dX6_lay_83 rfl rfl ?_
      refine go_iconst (pc := 84) (1 : Int32) dX6_lay_84 (by decide) ?_
      refine go_isub (pc := 85) dX6_lay_85 ?_
      obtain ⟨hi12, hs⟩ := chk_t hs
      refine go_iaload (pc := 86) 18 dX6_lay_86 rfl hi12 ?_
      refine go_istore (pc := 87) [some (vR 0), none, some (vI y2), some (vI x0_), some (vI (tr x0_.toNatClampNeg)), some (vI (tr (x0_ - (1 : Int32)).toNatClampNeg))] dX6_lay_87 (by decide) rfl ?_
      refine go_iload (pc := 89) dX6_lay_89 rfl ?_
      refine go_iconst (pc := 91) (2 : Int32) dX6_lay_91 (by decide) ?_
      refine go_idiv (pc := 92) dX6_lay_92 (by decide) ?_
      refine go_iload (pc := 93) dX6_lay_93 rfl ?_
      refine go_iconst (pc := 95) (2 : Int32) dX6_lay_95 (by decide) ?_
      refine go_idiv (pc := 96) dX6_lay_96 (by decide) ?_
      refine go_icmp_eq (pc := 97) 127 dX6_lay_97 (by decide) (fun h13 => ?_) (fun h13 => ?_)
      · have hs := it_t h13 hs
        refine go_iinc (pc := 127) (x0_ + (-1 : Int32)) [some (vR 0), none, some (vI y2), some (vI (x0_ + (-1 : Int32))), some (vI (tr x0_.toNatClampNeg)), some (vI (tr (x0_ - (1 : Int32)).toNatClampNeg))] dX6_lay_127 rfl (iinc_m1 _) (by decide) rfl ?_
        refine go_goto (pc := 130) 67 dX6_lay_130 (by decide) ?_
        obtain rfl := Option.some.inj hs
        refine go_sub (lv' := [some (vR 0), none, some (vI y2), some (vI (x0_ + (-1 : Int32))), none, none]) ⟨rfl, ⟨rfl, ⟨rfl, trivial⟩⟩⟩ ?_
        exact hI (x0_ + (-1 : Int32), x1_, x2_) rfl (x0_ + (-1 : Int32)) x1_ x2_ rfl
      · have hs := it_f h13 hs
        refine go_iload (pc := 100) dX6_lay_100 rfl ?_
        refine go_iconst (pc := 102) (2 : Int32) dX6_lay_102 (by decide) ?_
        refine go_irem (pc := 103) dX6_lay_103 (by decide) ?_
        refine go_if_ne (pc := 104) 127 dX6_lay_104 (by decide) (fun h14 => ?_) (fun h14 => ?_)
        · have hs := it_f h14 hs
          refine go_iinc (pc := 127) (x0_ + (-1 : Int32)) [some (vR 0), none, some (vI y2), some (vI (x0_ + (-1 : Int32))), some (vI (tr x0_.toNatClampNeg)), some (vI (tr (x0_ - (1 : Int32)).toNatClampNeg))] dX6_lay_127 rfl (iinc_m1 _) (by decide) rfl ?_
          refine go_goto (pc := 130) 67 dX6_lay_130 (by decide) ?_
          obtain rfl := Option.some.inj hs
          refine go_sub (lv' := [some (vR 0), none, some (vI y2), some (vI (x0_ + (-1 : Int32))), none, none]) ⟨rfl, ⟨rfl, ⟨rfl, trivial⟩⟩⟩ ?_
          exact hI (x0_ + (-1 : Int32), x1_, x2_) rfl (x0_ + (-1 : Int32)) x1_ x2_ rfl
        · have hs := it_t h14 hs
          refine go_aload_n (pc := 107) 0 dX6_lay_107 rfl rfl ?_
          refine go_getfield (pc := 108) (v := vR 14) 0 6 14 dX6_lay_108 flX6_50 rfl rfl ?_
          refine go_iload (pc := 111) dX6_lay_111 rfl ?_
          refine go_iconst (pc := 113) (2 : Int32) dX6_lay_113 (by decide) ?_
          refine go_idiv (pc := 114) dX6_lay_114 (by decide) ?_
          refine go_iconst (pc := 115) (-1 : Int32) dX6_lay_115 (by decide) ?_
          obtain ⟨hi15, hs⟩ := chk_t hs
          refine go_iastore (pc := 116) 14 dX6_lay_116 rfl hi15 (show Go mX6_lay (d + 0) false 0 0 117 [some (vR 0), none, some (vI y2), some (vI x0_), some (vI (tr x0_.toNatClampNeg)), some (vI (tr (x0_ - (1 : Int32)).toNatClampNeg))] [] (wM kn ne fi se ma on ot ta po ti nu mo wa nx (upd x1_ ((tr (x0_ - (1 : Int32)).toNatClampNeg) / (2 : Int32)).toNatClampNeg (-1 : Int32)) x2_ bg ed sF qu qd tr) Q from ?_)
          refine go_aload_n (pc := 117) 0 dX6_lay_117 rfl rfl ?_
          refine go_getfield (pc := 118) (v := vR 15) 0 6 15 dX6_lay_118 flX6_53 rfl rfl ?_
          refine go_iload (pc := 121) dX6_lay_121 rfl ?_
          refine go_iconst (pc := 123) (2 : Int32) dX6_lay_123 (by decide) ?_
          refine go_idiv (pc := 124) dX6_lay_124 (by decide) ?_
          refine go_iconst (pc := 125) (-1 : Int32) dX6_lay_125 (by decide) ?_
          obtain ⟨hi16, hs⟩ := chk_t hs
          refine go_iastore (pc := 126) 15 dX6_lay_126 rfl hi16 (show Go mX6_lay (d + 0) false 0 0 127 [some (vR 0), none, some (vI y2), some (vI x0_), some (vI (tr x0_.toNatClampNeg)), some (vI (tr (x0_ - (1 : Int32)).toNatClampNeg))] [] (wM kn ne fi se ma on ot ta po ti nu mo wa nx (upd x1_ ((tr (x0_ - (1 : Int32)).toNatClampNeg) / (2 : Int32)).toNatClampNeg (-1 : Int32)) (upd x2_ ((tr x0_.toNatClampNeg) / (2 : Int32)).toNatClampNeg (-1 : Int32)) bg ed sF qu qd tr) Q from ?_)
          refine go_iinc (pc := 127) (x0_ + (-1 : Int32)) [some (vR 0), none, some (vI y2), some (vI (x0_ + (-1 : Int32))), some (vI (tr x0_.toNatClampNeg)), some (vI (tr (x0_ - (1 : Int32)).toNatClampNeg))] dX6_lay_127 rfl (iinc_m1 _) (by decide) rfl ?_
          refine go_goto (pc := 130) 67 dX6_lay_130 (by decide) ?_
          obtain rfl := Option.some.inj hs
          refine go_sub (lv' := [some (vR 0), none, some (vI y2), some (vI (x0_ + (-1 : Int32))), none, none]) ⟨rfl, ⟨rfl, ⟨rfl, trivial⟩⟩⟩ ?_
          exact hI (x0_ + (-1 : Int32), upd x1_ ((tr (x0_ - (1 : Int32)).toNatClampNeg) / (2 : Int32)).toNatClampNeg (-1 : Int32), upd x2_ ((tr x0_.toNatClampNeg) / (2 : Int32)).toNatClampNeg (-1 : Int32)) rfl (x0_ + (-1 : Int32)) (upd x1_ ((tr (x0_ - (1 : Int32)).toNatClampNeg) / (2 : Int32)).toNatClampNeg (-1 : Int32)) (upd x2_ ((tr x0_.toNatClampNeg) / (2 : Int32)).toNatClampNeg (-1 : Int32)) rfl
set_option maxRecDepth 20000 in
theorem g_X6_lay_137 {d : Nat} {Q : Option AV → List AC → Prop}  (x0_ : Int32) (x1_ : (Nat → Int32)) (x2_ : (Nat → Int32)) (r : (Nat → Int32) × (Nat → Int32)) (hl : loop (b_X6_lay_137 tr) (x0_, x1_, x2_) = some r) (hk : ∀ (r0_ : (Nat → Int32)) (r1_ : (Nat → Int32)), r = (r0_, r1_) → Go mX6_lay (d + 0) false 0 0 210 [none, none, none, none, none, none] [] (wM kn ne fi se ma on ot ta po ti nu mo wa nx r0_ r1_ bg ed sF qu qd tr) Q) : Go mX6_lay (d + 0) false 0 0 137 [some (vR 0), none, none, some (vI x0_), none, none] [] (wM kn ne fi se ma on ot ta po ti nu mo wa nx x1_ x2_ bg ed sF qu qd tr) Q := by
  refine loop_go (P := fun x : Int32 × (Nat → Int32) × (Nat → Int32) => ∀ (x0_ : Int32) (x1_ : (Nat → Int32)) (x2_ : (Nat → Int32)), x = (x0_, x1_, x2_) → Go mX6_lay (d + 0) false 0 0 137 [some (vR 0), none, none, some (vI x0_), none, none] [] (wM kn ne fi se ma on ot ta po ti nu mo wa nx x1_ x2_ bg ed sF qu qd tr) Q) (K := fun r : (Nat → Int32) × (Nat → Int32) => ∀ (r0_ : (Nat → Int32)) (r1_ : (Nat → Int32)), r = (r0_, r1_) → Go mX6_lay (d + 0) false 0 0 210 [none, none, none, none, none, none] [] (wM kn ne fi se ma on ot ta po ti nu mo wa nx r0_ r1_ bg ed sF qu qd tr) Q) ?_ (x0_, x1_, x2_) r hl hk x0_ x1_ x2_ rfl
  · intro x y hs hI hE x0_ x1_ x2_ hx
    subst hx
    unfold b_X6_lay_137 at hs
    try dsimp only at hs
    refine go_iload_n (pc := 137) 3 dX6_lay_137 rfl rfl ?_
    refine go_if_le (pc := 138) 210 dX6_lay_138 (by decide) (fun h22 => ?_) (fun h22 => ?_)
    · have hs := it_t h22 hs
      obtain rfl := Option.some.inj hs
      refine go_sub (lv' := [none, none, none, none, none, none]) trivial ?_
      exact (hE (x1_, x2_) rfl) x1_ x2_ rfl
    · have hs := it_f h22 hs
      refine go_aload_n (pc := 141) 0 dX6_lay_141 rfl rfl ?_
      refine go_getfield (pc := 142) (v := vR 18) 0 6 21 dX6_lay_142 flX6_62 rfl rfl ?_
      refine go_iload_n (pc := 145) 3 dX6_lay_145 rfl rfl ?_
      obtain ⟨hi23, hs⟩ := chk_t hs
      refine go_iaload (pc := 146) 18 dX6_lay_146 rfl hi23 ?_
      refine go_istore (pc := 147) [some (vR 0), none, none, some (vI x0_), some (vI (tr x0_.toNatClampNeg)), none] dX6_lay_147 (by decide) rfl ?_
      refine go_aload_n (pc := 149) 0 dX6_lay_149 rfl rfl ?_
      refine go_getfield (pc := 150) (v := vR 18) 0 6 21 dX6_lay_150 flX6_62 rfl rfl ?_
      refine go_iload_n (pc := 153) 3 dX6_lay_153 rfl rfl ?_
      refine go_iconst (pc := 154) (1 : Int32) dX6_lay_154 (by decide) ?_
      refine go_isub (pc := 155) dX6_lay_155 ?_
      obtain ⟨hi24, hs⟩ := chk_t hs
      refine go_iaload (pc := 156) 18 dX6_lay_156 rfl hi24 ?_
      refine go_istore (pc := 157) [some (vR 0), none, none, some (vI x0_), some (vI (tr x0_.toNatClampNeg)), some (vI (tr (x0_ - (1 : Int32)).toNatClampNeg))] dX6_lay_157 (by decide) rfl ?_
      refine go_iload (pc := 159) dX6_lay_159 rfl ?_
      refine go_iconst (pc := 161) (2 : Int32) dX6_lay_161 (by decide) ?_
      refine go_idiv (pc := 162) dX6_lay_162 (by decide) ?_
      refine go_iload (pc := 163) dX6_lay_163 rfl ?_
      refine go_iconst (pc := 165) (2 : Int32) dX6_lay_165 (by decide) ?_
      refine go_idiv (pc := 166) dX6_lay_166 (by decide) ?_
      refine go_icmp_eq (pc := 167) 204 dX6_lay_167 (by decide) (fun h25 => ?_) (fun h25 => ?_)
      · have hs := it_t h25 hs
        refine go_iinc (pc := 204) (x0_ + (-1 : Int32)) [some (vR 0), none, none, some (vI (x0_ + (-1 : Int32))), some (vI (tr x0_.toNatClampNeg)), some (vI (tr (x0_ - (1 : Int32)).toNatClampNeg))] dX6_lay_204 rfl (iinc_m1 _) (by decide) rfl ?_
        refine go_goto (pc := 207) 137 dX6_lay_207 (by decide) ?_
        obtain rfl := Option.some.inj hs
        refine go_sub (lv' := [some (vR 0), none, none, some (vI (x0_ + (-1 : Int32))), none, none]) ⟨rfl, ⟨rfl, trivial⟩⟩ ?_
        exact hI (x0_ + (-1 : Int32), x1_, x2_) rfl (x0_ + (-1 : Int32)) x1_ x2_ rfl
      · have hs := it_f h25 hs
        refine go_iload (pc := 170) dX6_lay_170 rfl ?_
        refine go_iconst (pc := 172) (2 : Int32) dX6_lay_172 (by decide) ?_
        refine go_irem (pc := 173) dX6_lay_173 (by decide) ?_
        refine go_iconst (pc := 174) (1 : Int32) dX6_lay_174 (by decide) ?_
        refine go_icmp_ne (pc := 175) 204 dX6_lay_175 (by decide) (fun h26 => ?_) (fun h26 => ?_)
        · have hs := it_f h26 hs
          refine go_iinc (pc := 204) (x0_ + (-1 : Int32)) [some (vR 0), none, none, some (vI (x0_ + (-1 : Int32))), some (vI (tr x0_.toNatClampNeg)), some (vI (tr (x0_ - (1 : Int32)).toNatClampNeg))] dX6_lay_204 rfl (iinc_m1 _) (by decide) rfl ?_
          refine go_goto (pc := 207) 137 dX6_lay_207 (by decide) ?_
          obtain rfl := Option.some.inj hs
          refine go_sub (lv' := [some (vR 0), none, none, some (vI (x0_ + (-1 : Int32))), none, none]) ⟨rfl, ⟨rfl, trivial⟩⟩ ?_
          exact hI (x0_ + (-1 : Int32), x1_, x2_) rfl (x0_ + (-1 : Int32)) x1_ x2_ rfl
        · have hs := it_t h26 hs
          refine go_aload_n (pc := 178) 0 dX6_lay_178 rfl rfl ?_
          refine go_getfield (pc := 179) (v := vR 14) 0 6 14 dX6_lay_179 flX6_50 rfl rfl ?_
          refine go_iload (pc := 182) dX6_lay_182 rfl ?_
          refine go_iconst (pc := 184) (2 : Int32) dX6_lay_184 (by decide) ?_
          refine go_idiv (pc := 185) dX6_lay_185 (by decide) ?_
          refine go_iload (pc := 186) dX6_lay_186 rfl ?_
          refine go_iconst (pc := 188) (2 : Int32) dX6_lay_188 (by decide) ?_
          refine go_idiv (pc := 189) dX6_lay_189 (by decide) ?_
          obtain ⟨hi27, hs⟩ := chk_t hs
          refine go_iastore (pc := 190) 14 dX6_lay_190 rfl hi27 (show Go mX6_lay (d + 0) false 0 0 191 [some (vR 0), none, none, some (vI x0_), some (vI (tr x0_.toNatClampNeg)), some (vI (tr (x0_ - (1 : Int32)).toNatClampNeg))] [] (wM kn ne fi se ma on ot ta po ti nu mo wa nx (upd x1_ ((tr x0_.toNatClampNeg) / (2 : Int32)).toNatClampNeg ((tr (x0_ - (1 : Int32)).toNatClampNeg) / (2 : Int32))) x2_ bg ed sF qu qd tr) Q from ?_)
          refine go_aload_n (pc := 191) 0 dX6_lay_191 rfl rfl ?_
          refine go_getfield (pc := 192) (v := vR 15) 0 6 15 dX6_lay_192 flX6_53 rfl rfl ?_
          refine go_iload (pc := 195) dX6_lay_195 rfl ?_
          refine go_iconst (pc := 197) (2 : Int32) dX6_lay_197 (by decide) ?_
          refine go_idiv (pc := 198) dX6_lay_198 (by decide) ?_
          refine go_iload (pc := 199) dX6_lay_199 rfl ?_
          refine go_iconst (pc := 201) (2 : Int32) dX6_lay_201 (by decide) ?_
          refine go_idiv (pc := 202) dX6_lay_202 (by decide) ?_
          obtain ⟨hi28, hs⟩ := chk_t hs
          refine go_iastore (pc := 203) 15 dX6_lay_203 rfl hi28 (show Go mX6_lay (d + 0) false 0 0 204 [some (vR 0), none, none, some (vI x0_), some (vI (tr x0_.toNatClampNeg)), some (vI (tr (x0_ - (1 : Int32)).toNatClampNeg))] [] (wM kn ne fi se ma on ot ta po ti nu mo wa nx (upd x1_ ((tr x0_.toNatClampNeg) / (2 : Int32)).toNatClampNeg ((tr (x0_ - (1 : Int32)).toNatClampNeg) / (2 : Int32))) (upd x2_ ((tr (x0_ - (1 : Int32)).toNatClampNeg) / (2 : Int32)).toNatClampNeg ((tr x0_.toNatClampNeg) / (2 : Int32))) bg ed sF qu qd tr) Q from ?_)
          refine go_iinc (pc := 204) (x0_ + (-1 : Int32)) [some (vR 0), none, none, some (vI (x0_ + (-1 : Int32))), some (vI (tr x0_.toNatClampNeg)), some (vI (tr (x0_ - (1 : Int32)).toNatClampNeg))] dX6_lay_204 rfl (iinc_m1 _) (by decide) rfl ?_
          refine go_goto (pc := 207) 137 dX6_lay_207 (by decide) ?_
          obtain rfl := Option.some.inj hs
          refine go_sub (lv' := [some (vR 0), none, none, some (vI (x0_ + (-1 : Int32))), none, none]) ⟨rfl, ⟨rfl, trivial⟩⟩ ?_
          exact hI (x0_ + (-1 : Int32), upd x1_ ((tr x0_.toNatClampNeg) / (2 : Int32)).toNatClampNeg ((tr (x0_ - (1 : Int32)).toNatClampNeg) / (2 : Int32)), upd x2_ ((tr (x0_ - (1 : Int32)).toNatClampNeg) / (2 : Int32)).toNatClampNeg ((tr x0_.toNatClampNeg) / (2 : Int32))) rfl (x0_ + (-1 : Int32)) (upd x1_ ((tr x0_.toNatClampNeg) / (2 : Int32)).toNatClampNeg ((tr (x0_ - (1 : Int32)).toNatClampNeg) / (2 : Int32))) (upd x2_ ((tr (x0_ - (1 : Int32)).toNatClampNeg) / (2 : Int32)).toNatClampNeg ((tr x0_.toNatClampNeg) / (2 : Int32))) rfl
set_option maxRecDepth 20000 in
theorem c_X6_lay {d : Nat}  {a1 : Int32} {res0 : (Nat → Int32)} {res1 : (Nat → Int32)} {res2 : Int32} {res3 : Int32} {res4 : (Nat → Int32)} (hs : s_X6_lay oT cF bg ed sF tr a1 = some (res0, res1, res2, res3, res4)) : Calls mX6_lay (d + 0) false 0 0 [vR 0, vI a1] (wM kn ne fi se ma on ot ta po ti nu mo wa nx oT cF bg ed sF qu qd tr) (fun r w' => r = none ∧ w' = (wM kn ne fi se ma on ot ta po ti nu mo wa nx res0 res1 res2 res3 sF qu qd res4)) := by
  unfold s_X6_lay at hs
  refine Calls.of kX6_lay 4 [some (vR 0), some (vI a1), none, none, none, none] rfl (Nat.le_of_ble_eq_true rfl) ?_
  refine go_iconst (pc := 0) (0 : Int32) dX6_lay_0 (by decide) ?_
  refine go_istore_n (pc := 1) 2 [some (vR 0), some (vI a1), some (vI (0 : Int32)), none, none, none] dX6_lay_1 rfl (by decide) rfl ?_
  refine go_iload_n (pc := 2) 1 dX6_lay_2 rfl rfl ?_
  refine go_istore_n (pc := 3) 3 [some (vR 0), some (vI a1), some (vI (0 : Int32)), some (vI a1), none, none] dX6_lay_3 rfl (by decide) rfl ?_
  obtain ⟨e4, hl5, hs⟩ := bnd hs
  refine g_X6_lay_4 (d := d) (0 : Int32) a1 tr e4 hl5 ?_
  intro v6 v7 hv8
  subst hv8
  try dsimp only at hs
  refine go_aload_n (pc := 28) 0 dX6_lay_28 rfl rfl ?_
  refine go_dup (pc := 29) dX6_lay_29 rfl ?_
  refine go_getfield (pc := 30) (v := vI ed) 0 6 17 dX6_lay_30 flX6_164 rfl rfl ?_
  refine go_iconst (pc := 33) (1 : Int32) dX6_lay_33 (by decide) ?_
  refine go_iload_n (pc := 34) 1 dX6_lay_34 rfl rfl ?_
  refine go_iconst (pc := 35) (2 : Int32) dX6_lay_35 (by decide) ?_
  refine go_idiv (pc := 36) dX6_lay_36 (by decide) ?_
  refine go_ishl (pc := 37) dX6_lay_37 ?_
  refine go_ior (pc := 38) dX6_lay_38 ?_
  refine go_putI (pc := 39) 0 6 17 dX6_lay_39 fpX6_164 rfl (Nat.le_of_ble_eq_true rfl) (show Go mX6_lay (d + 0) false 0 0 42 [some (vR 0), some (vI a1), some (vI v6), none, none, none] [] (wM kn ne fi se ma on ot ta po ti nu mo wa nx oT cF bg (ed ||| ((1 : Int32) <<< ((a1 / (2 : Int32)) &&& 31))) sF qu qd v7) _ from ?_)
  refine go_aload_n (pc := 42) 0 dX6_lay_42 rfl rfl ?_
  refine go_dup (pc := 43) dX6_lay_43 rfl ?_
  refine go_getfield (pc := 44) (v := vI bg) 0 6 16 dX6_lay_44 flX6_155 rfl rfl ?_
  refine go_iconst (pc := 47) (1 : Int32) dX6_lay_47 (by decide) ?_
  refine go_aload_n (pc := 48) 0 dX6_lay_48 rfl rfl ?_
  refine go_getfield (pc := 49) (v := vR 18) 0 6 21 dX6_lay_49 flX6_62 rfl rfl ?_
  refine go_iload_n (pc := 52) 2 dX6_lay_52 rfl rfl ?_
  refine go_iconst (pc := 53) (1 : Int32) dX6_lay_53 (by decide) ?_
  refine go_isub (pc := 54) dX6_lay_54 ?_
  obtain ⟨hi9, hs⟩ := chk_t hs
  refine go_iaload (pc := 55) 18 dX6_lay_55 rfl hi9 ?_
  refine go_iconst (pc := 56) (2 : Int32) dX6_lay_56 (by decide) ?_
  refine go_idiv (pc := 57) dX6_lay_57 (by decide) ?_
  refine go_ishl (pc := 58) dX6_lay_58 ?_
  refine go_ior (pc := 59) dX6_lay_59 ?_
  refine go_putI (pc := 60) 0 6 16 dX6_lay_60 fpX6_155 rfl (Nat.le_of_ble_eq_true rfl) (show Go mX6_lay (d + 0) false 0 0 63 [some (vR 0), some (vI a1), some (vI v6), none, none, none] [] (wM kn ne fi se ma on ot ta po ti nu mo wa nx oT cF (bg ||| ((1 : Int32) <<< (((v7 (v6 - (1 : Int32)).toNatClampNeg) / (2 : Int32)) &&& 31))) (ed ||| ((1 : Int32) <<< ((a1 / (2 : Int32)) &&& 31))) sF qu qd v7) _ from ?_)
  refine go_iload_n (pc := 63) 2 dX6_lay_63 rfl rfl ?_
  refine go_iconst (pc := 64) (1 : Int32) dX6_lay_64 (by decide) ?_
  refine go_isub (pc := 65) dX6_lay_65 ?_
  refine go_istore_n (pc := 66) 3 [some (vR 0), some (vI a1), some (vI v6), some (vI (v6 - (1 : Int32))), none, none] dX6_lay_66 rfl (by decide) rfl ?_
  refine go_sub (lv' := [some (vR 0), none, some (vI v6), some (vI (v6 - (1 : Int32))), none, none]) ⟨rfl, ⟨rfl, ⟨rfl, trivial⟩⟩⟩ ?_
  obtain ⟨e17, hl18, hs⟩ := bnd hs
  refine g_X6_lay_67 (d := d) (v6 - (1 : Int32)) oT cF e17 hl18 ?_
  intro v19 v20 hv21
  subst hv21
  try dsimp only at hs
  refine go_iload_n (pc := 133) 2 dX6_lay_133 rfl rfl ?_
  refine go_iconst (pc := 134) (1 : Int32) dX6_lay_134 (by decide) ?_
  refine go_isub (pc := 135) dX6_lay_135 ?_
  refine go_istore_n (pc := 136) 3 [some (vR 0), none, some (vI v6), some (vI (v6 - (1 : Int32))), none, none] dX6_lay_136 rfl (by decide) rfl ?_
  refine go_sub (lv' := [some (vR 0), none, none, some (vI (v6 - (1 : Int32))), none, none]) ⟨rfl, ⟨rfl, trivial⟩⟩ ?_
  obtain ⟨e29, hl30, hs⟩ := bnd hs
  refine g_X6_lay_137 (d := d) (v6 - (1 : Int32)) v19 v20 e29 hl30 ?_
  intro v31 v32 hv33
  subst hv33
  try dsimp only at hs
  cases hs
  exact go_return (st := []) (pc := 210) dX6_lay_210 rfl (fun h => by cases h) ⟨rfl, rfl⟩
end
