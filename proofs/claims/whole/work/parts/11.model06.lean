section
variable {kn : (Nat → Int32)} {ne : (Nat → Int32)} {fi : (Nat → Int32)} {se : (Nat → Int32)} {ma : Int32} {on : (Nat → Int32)} {ot : (Nat → Int32)} {ta : (Nat → Int64)} {po : (Nat → Int64)} {ti : (Nat → Int64)} {nu : (Nat → Int64)} {mo : (Nat → Int64)} {wa : (Nat → Int64)} {nx : (Nat → Int64)} {oT : (Nat → Int32)} {cF : (Nat → Int32)} {bg : Int32} {ed : Int32} {sF : (Nat → Int32)} {qu : (Nat → Int32)} {qd : Int32} {tr : (Nat → Int32)}
noncomputable def b_X6_move_2 (y1 : Int32) (x : Int32 × (Nat → Int64)) : Option ((Int32 × (Nat → Int64)) ⊕ ((Nat → Int64))) := if y1 < x.1 then (some (Sum.inr x.2)) else (chk x.1 11 (some (Sum.inl (x.1 + (1 : Int32), vp_updL x.2 x.1.toNatClampNeg (0 : Int64)))))
noncomputable def b_X6_move_33 (y2 : Int32) (x : Int32 × (Nat → Int64)) : Option ((Int32 × (Nat → Int64)) ⊕ ((Nat → Int64))) := if x.1 < 0 then (some (Sum.inr x.2)) else (chk x.1 11 (if x.1 ≤ 0 then (chk x.1 11 (some (Sum.inl (x.1 + (-1 : Int32), vp_updL x.2 x.1.toNatClampNeg (((x.2 x.1.toNatClampNeg) * y2.toInt64) + (0 : Int64)))))) else (chk (x.1 - (1 : Int32)) 11 (chk x.1 11 (some (Sum.inl (x.1 + (-1 : Int32), vp_updL x.2 x.1.toNatClampNeg (((x.2 x.1.toNatClampNeg) * y2.toInt64) + (x.2 (x.1 - (1 : Int32)).toNatClampNeg)))))))))
noncomputable def b_X6_move_25 (nu : (Nat → Int64)) (y1 : Int32) (y2 : Int32) (x : Int64 × Int32 × (Nat → Int64)) : Option ((Int64 × Int32 × (Nat → Int64)) ⊕ ((Nat → Int64))) := if x.2.1 < 0 then (some (Sum.inr x.2.2)) else ((loop (b_X6_move_33 y2) (y1, x.2.2)).bind (fun e13 => chk (0 : Int32) 11 (chk x.2.1 11 (chk (0 : Int32) 11 (some (Sum.inl (x.1 * (2 : Int64), x.2.1 + (-1 : Int32), vp_updL e13 (0 : Int32).toNatClampNeg ((e13 (0 : Int32).toNatClampNeg) + ((nu x.2.1.toNatClampNeg) * x.1)))))))))
noncomputable def s_X6_move (nu : (Nat → Int64)) (mo : (Nat → Int64)) (a1 : Int32) (a2 : Int32) : Option ((Nat → Int64)) := (loop (b_X6_move_2 a1) ((0 : Int32), mo)).bind (fun e3 => (loop (b_X6_move_25 nu a1 a2) ((1 : Int64), a1, e3)).bind (fun e19 => some e19))
set_option maxRecDepth 20000 in
theorem g_X6_move_2 {d : Nat} {Q : Option AV → List AC → Prop} {y1 : Int32} {y2 : Int32} (x0_ : Int32) (x1_ : (Nat → Int64)) (r : (Nat → Int64)) (hl : loop (b_X6_move_2 y1) (x0_, x1_) = some r) (hk : Go mX6_move (d + 0) false 0 0 20 [some (vR 0), some (vI y1), some (vI y2), none, none, none, none] [] (wM kn ne fi se ma on ot ta po ti nu r wa nx oT cF bg ed sF qu qd tr) Q) : Go mX6_move (d + 0) false 0 0 2 [some (vR 0), some (vI y1), some (vI y2), some (vI x0_), none, none, none] [] (wM kn ne fi se ma on ot ta po ti nu x1_ wa nx oT cF bg ed sF qu qd tr) Q := by
  refine loop_go (P := fun x : Int32 × (Nat → Int64) => ∀ (x0_ : Int32) (x1_ : (Nat → Int64)), x = (x0_, x1_) → Go mX6_move (d + 0) false 0 0 2 [some (vR 0), some (vI y1), some (vI y2), some (vI x0_), none, none, none] [] (wM kn ne fi se ma on ot ta po ti nu x1_ wa nx oT cF bg ed sF qu qd tr) Q) (K := fun r : (Nat → Int64) => Go mX6_move (d + 0) false 0 0 20 [some (vR 0), some (vI y1), some (vI y2), none, none, none, none] [] (wM kn ne fi se ma on ot ta po ti nu r wa nx oT cF bg ed sF qu qd tr) Q) ?_ (x0_, x1_) r hl hk x0_ x1_ rfl
  · intro x y hs hI hE x0_ x1_ hx
    subst hx
    unfold b_X6_move_2 at hs
    try dsimp only at hs
    refine go_iload_n (pc := 2) 3 dX6_move_2 rfl rfl ?_
    refine go_iload_n (pc := 3) 1 dX6_move_3 rfl rfl ?_
    refine go_icmp_gt (pc := 4) 20 dX6_move_4 (by decide) (fun h1 => ?_) (fun h1 => ?_)
    · have hs := it_t h1 hs
      obtain rfl := Option.some.inj hs
      refine go_sub (lv' := [some (vR 0), some (vI y1), some (vI y2), none, none, none, none]) ⟨rfl, ⟨rfl, ⟨rfl, trivial⟩⟩⟩ ?_
      exact hE x1_ rfl
    · have hs := it_f h1 hs
      refine go_aload_n (pc := 7) 0 dX6_move_7 rfl rfl ?_
      refine go_getfield (pc := 8) (v := vR 11) 0 6 11 dX6_move_8 flX6_41 rfl rfl ?_
      refine go_iload_n (pc := 11) 3 dX6_move_11 rfl rfl ?_
      refine go_lconst (pc := 12) (0 : Int64) dX6_move_12 (by decide) ?_
      obtain ⟨hi2, hs⟩ := chk_t hs
      refine go_lastore (pc := 13) 11 dX6_move_13 rfl hi2 (show Go mX6_move (d + 0) false 0 0 14 [some (vR 0), some (vI y1), some (vI y2), some (vI x0_), none, none, none] [] (wM kn ne fi se ma on ot ta po ti nu (vp_updL x1_ x0_.toNatClampNeg (0 : Int64)) wa nx oT cF bg ed sF qu qd tr) Q from ?_)
      refine go_iinc (pc := 14) (x0_ + (1 : Int32)) [some (vR 0), some (vI y1), some (vI y2), some (vI (x0_ + (1 : Int32))), none, none, none] dX6_move_14 rfl (iinc_1 _) (by decide) rfl ?_
      refine go_goto (pc := 17) 2 dX6_move_17 (by decide) ?_
      obtain rfl := Option.some.inj hs
      exact hI (x0_ + (1 : Int32), vp_updL x1_ x0_.toNatClampNeg (0 : Int64)) rfl (x0_ + (1 : Int32)) (vp_updL x1_ x0_.toNatClampNeg (0 : Int64)) rfl
set_option maxRecDepth 20000 in
theorem g_X6_move_33 {d : Nat} {Q : Option AV → List AC → Prop} {y1 : Int32} {y2 : Int32} {y3 : Int64} {y5 : Int32} (x0_ : Int32) (x1_ : (Nat → Int64)) (r : (Nat → Int64)) (hl : loop (b_X6_move_33 y2) (x0_, x1_) = some r) (hk : Go mX6_move (d + 0) false 0 0 80 [some (vR 0), some (vI y1), some (vI y2), some (vL y3), none, some (vI y5), none] [] (wM kn ne fi se ma on ot ta po ti nu r wa nx oT cF bg ed sF qu qd tr) Q) : Go mX6_move (d + 0) false 0 0 33 [some (vR 0), some (vI y1), some (vI y2), some (vL y3), none, some (vI y5), some (vI x0_)] [] (wM kn ne fi se ma on ot ta po ti nu x1_ wa nx oT cF bg ed sF qu qd tr) Q := by
  refine loop_go (P := fun x : Int32 × (Nat → Int64) => ∀ (x0_ : Int32) (x1_ : (Nat → Int64)), x = (x0_, x1_) → Go mX6_move (d + 0) false 0 0 33 [some (vR 0), some (vI y1), some (vI y2), some (vL y3), none, some (vI y5), some (vI x0_)] [] (wM kn ne fi se ma on ot ta po ti nu x1_ wa nx oT cF bg ed sF qu qd tr) Q) (K := fun r : (Nat → Int64) => Go mX6_move (d + 0) false 0 0 80 [some (vR 0), some (vI y1), some (vI y2), some (vL y3), none, some (vI y5), none] [] (wM kn ne fi se ma on ot ta po ti nu r wa nx oT cF bg ed sF qu qd tr) Q) ?_ (x0_, x1_) r hl hk x0_ x1_ rfl
  · intro x y hs hI hE x0_ x1_ hx
    subst hx
    unfold b_X6_move_33 at hs
    try dsimp only at hs
    refine go_iload (pc := 33) dX6_move_33 rfl ?_
    refine go_if_lt (pc := 35) 80 dX6_move_35 (by decide) (fun h7 => ?_) (fun h7 => ?_)
    · have hs := it_t h7 hs
      obtain rfl := Option.some.inj hs
      refine go_sub (lv' := [some (vR 0), some (vI y1), some (vI y2), some (vL y3), none, some (vI y5), none]) ⟨rfl, ⟨rfl, ⟨rfl, ⟨rfl, ⟨rfl, trivial⟩⟩⟩⟩⟩ ?_
      exact hE x1_ rfl
    · have hs := it_f h7 hs
      refine go_aload_n (pc := 38) 0 dX6_move_38 rfl rfl ?_
      refine go_getfield (pc := 39) (v := vR 11) 0 6 11 dX6_move_39 flX6_41 rfl rfl ?_
      refine go_iload (pc := 42) dX6_move_42 rfl ?_
      refine go_aload_n (pc := 44) 0 dX6_move_44 rfl rfl ?_
      refine go_getfield (pc := 45) (v := vR 11) 0 6 11 dX6_move_45 flX6_41 rfl rfl ?_
      refine go_iload (pc := 48) dX6_move_48 rfl ?_
      obtain ⟨hi8, hs⟩ := chk_t hs
      refine go_laload (pc := 50) 11 dX6_move_50 rfl hi8 ?_
      refine go_iload_n (pc := 51) 2 dX6_move_51 rfl rfl ?_
      refine go_i2l (pc := 52) dX6_move_52 ?_
      refine go_lmul (pc := 53) dX6_move_53 ?_
      refine go_iload (pc := 54) dX6_move_54 rfl ?_
      refine go_if_le (pc := 56) 71 dX6_move_56 (by decide) (fun h9 => ?_) (fun h9 => ?_)
      · have hs := it_t h9 hs
        refine go_lconst (pc := 71) (0 : Int64) dX6_move_71 (by decide) ?_
        refine go_ladd (pc := 72) dX6_move_72 ?_
        obtain ⟨hi10, hs⟩ := chk_t hs
        refine go_lastore (pc := 73) 11 dX6_move_73 rfl hi10 (show Go mX6_move (d + 0) false 0 0 74 [some (vR 0), some (vI y1), some (vI y2), some (vL y3), none, some (vI y5), some (vI x0_)] [] (wM kn ne fi se ma on ot ta po ti nu (vp_updL x1_ x0_.toNatClampNeg (((x1_ x0_.toNatClampNeg) * y2.toInt64) + (0 : Int64))) wa nx oT cF bg ed sF qu qd tr) Q from ?_)
        refine go_iinc (pc := 74) (x0_ + (-1 : Int32)) [some (vR 0), some (vI y1), some (vI y2), some (vL y3), none, some (vI y5), some (vI (x0_ + (-1 : Int32)))] dX6_move_74 rfl (iinc_m1 _) (by decide) rfl ?_
        refine go_goto (pc := 77) 33 dX6_move_77 (by decide) ?_
        obtain rfl := Option.some.inj hs
        exact hI (x0_ + (-1 : Int32), vp_updL x1_ x0_.toNatClampNeg (((x1_ x0_.toNatClampNeg) * y2.toInt64) + (0 : Int64))) rfl (x0_ + (-1 : Int32)) (vp_updL x1_ x0_.toNatClampNeg (((x1_ x0_.toNatClampNeg) * y2.toInt64) + (0 : Int64))) rfl
      · have hs := it_f h9 hs
        refine go_aload_n (pc := 59) 0 dX6_move_59 rfl rfl ?_
        refine go_getfield (pc := 60) (v := vR 11) 0 6 11 dX6_move_60 flX6_41 rfl rfl ?_
        refine go_iload (pc := 63) dX6_move_63 rfl ?_
        refine go_iconst (pc := 65) (1 : Int32) dX6_move_65 (by decide) ?_
        refine go_isub (pc := 66) dX6_move_66 ?_
        obtain ⟨hi11, hs⟩ := chk_t hs
        refine go_laload (pc := 67) 11 dX6_move_67 rfl hi11 ?_
        refine go_goto (pc := 68) 72 dX6_move_68 (by decide) ?_
        refine go_ladd (pc := 72) dX6_move_72 ?_
        obtain ⟨hi12, hs⟩ := chk_t hs
        refine go_lastore (pc := 73) 11 dX6_move_73 rfl hi12 (show Go mX6_move (d + 0) false 0 0 74 [some (vR 0), some (vI y1), some (vI y2), some (vL y3), none, some (vI y5), some (vI x0_)] [] (wM kn ne fi se ma on ot ta po ti nu (vp_updL x1_ x0_.toNatClampNeg (((x1_ x0_.toNatClampNeg) * y2.toInt64) + (x1_ (x0_ - (1 : Int32)).toNatClampNeg))) wa nx oT cF bg ed sF qu qd tr) Q from ?_)
        refine go_iinc (pc := 74) (x0_ + (-1 : Int32)) [some (vR 0), some (vI y1), some (vI y2), some (vL y3), none, some (vI y5), some (vI (x0_ + (-1 : Int32)))] dX6_move_74 rfl (iinc_m1 _) (by decide) rfl ?_
        refine go_goto (pc := 77) 33 dX6_move_77 (by decide) ?_
        obtain rfl := Option.some.inj hs
        exact hI (x0_ + (-1 : Int32), vp_updL x1_ x0_.toNatClampNeg (((x1_ x0_.toNatClampNeg) * y2.toInt64) + (x1_ (x0_ - (1 : Int32)).toNatClampNeg))) rfl (x0_ + (-1 : Int32)) (vp_updL x1_ x0_.toNatClampNeg (((x1_ x0_.toNatClampNeg) * y2.toInt64) + (x1_ (x0_ - (1 : Int32)).toNatClampNeg))) rfl
set_option maxRecDepth 20000 in
theorem g_X6_move_25 {d : Nat} {Q : Option AV → List AC → Prop} {y1 : Int32} {y2 : Int32} (x0_ : Int64) (x1_ : Int32) (x2_ : (Nat → Int64)) (r : (Nat → Int64)) (hl : loop (b_X6_move_25 nu y1 y2) (x0_, x1_, x2_) = some r) (hk : Go mX6_move (d + 0) false 0 0 110 [none, none, none, none, none, none, none] [] (wM kn ne fi se ma on ot ta po ti nu r wa nx oT cF bg ed sF qu qd tr) Q) : Go mX6_move (d + 0) false 0 0 25 [some (vR 0), some (vI y1), some (vI y2), some (vL x0_), none, some (vI x1_), none] [] (wM kn ne fi se ma on ot ta po ti nu x2_ wa nx oT cF bg ed sF qu qd tr) Q := by
  refine loop_go (P := fun x : Int64 × Int32 × (Nat → Int64) => ∀ (x0_ : Int64) (x1_ : Int32) (x2_ : (Nat → Int64)), x = (x0_, x1_, x2_) → Go mX6_move (d + 0) false 0 0 25 [some (vR 0), some (vI y1), some (vI y2), some (vL x0_), none, some (vI x1_), none] [] (wM kn ne fi se ma on ot ta po ti nu x2_ wa nx oT cF bg ed sF qu qd tr) Q) (K := fun r : (Nat → Int64) => Go mX6_move (d + 0) false 0 0 110 [none, none, none, none, none, none, none] [] (wM kn ne fi se ma on ot ta po ti nu r wa nx oT cF bg ed sF qu qd tr) Q) ?_ (x0_, x1_, x2_) r hl hk x0_ x1_ x2_ rfl
  · intro x y hs hI hE x0_ x1_ x2_ hx
    subst hx
    unfold b_X6_move_25 at hs
    try dsimp only at hs
    refine go_iload (pc := 25) dX6_move_25 rfl ?_
    refine go_if_lt (pc := 27) 110 dX6_move_27 (by decide) (fun h6 => ?_) (fun h6 => ?_)
    · have hs := it_t h6 hs
      obtain rfl := Option.some.inj hs
      refine go_sub (lv' := [none, none, none, none, none, none, none]) trivial ?_
      exact hE x2_ rfl
    · have hs := it_f h6 hs
      refine go_iload_n (pc := 30) 1 dX6_move_30 rfl rfl ?_
      refine go_istore (pc := 31) [some (vR 0), some (vI y1), some (vI y2), some (vL x0_), none, some (vI x1_), some (vI y1)] dX6_move_31 (by decide) rfl ?_
      obtain ⟨e13, hl14, hs⟩ := bnd hs
      refine g_X6_move_33 (d := d) y1 x2_ e13 hl14 ?_
      refine go_aload_n (pc := 80) 0 dX6_move_80 rfl rfl ?_
      refine go_getfield (pc := 81) (v := vR 11) 0 6 11 dX6_move_81 flX6_41 rfl rfl ?_
      refine go_iconst (pc := 84) (0 : Int32) dX6_move_84 (by decide) ?_
      refine go_dup2 (pc := 85) dX6_move_85 rfl rfl ?_
      obtain ⟨hi16, hs⟩ := chk_t hs
      refine go_laload (pc := 86) 11 dX6_move_86 rfl hi16 ?_
      refine go_aload_n (pc := 87) 0 dX6_move_87 rfl rfl ?_
      refine go_getfield (pc := 88) (v := vR 10) 0 6 10 dX6_move_88 flX6_38 rfl rfl ?_
      refine go_iload (pc := 91) dX6_move_91 rfl ?_
      obtain ⟨hi17, hs⟩ := chk_t hs
      refine go_laload (pc := 93) 10 dX6_move_93 rfl hi17 ?_
      refine go_lload_n (pc := 94) 3 dX6_move_94 rfl rfl ?_
      refine go_lmul (pc := 95) dX6_move_95 ?_
      refine go_ladd (pc := 96) dX6_move_96 ?_
      obtain ⟨hi18, hs⟩ := chk_t hs
      refine go_lastore (pc := 97) 11 dX6_move_97 rfl hi18 (show Go mX6_move (d + 0) false 0 0 98 [some (vR 0), some (vI y1), some (vI y2), some (vL x0_), none, some (vI x1_), none] [] (wM kn ne fi se ma on ot ta po ti nu (vp_updL e13 (0 : Int32).toNatClampNeg ((e13 (0 : Int32).toNatClampNeg) + ((nu x1_.toNatClampNeg) * x0_))) wa nx oT cF bg ed sF qu qd tr) Q from ?_)
      refine go_lload_n (pc := 98) 3 dX6_move_98 rfl rfl ?_
      refine go_ldc2 (pc := 99) (2 : Int64) dX6_move_99 kcX6_119 ?_
      refine go_lmul (pc := 102) dX6_move_102 ?_
      refine go_lstore_n (pc := 103) 3 [some (vR 0), some (vI y1), some (vI y2), some (vL (x0_ * (2 : Int64))), none, some (vI x1_), none] dX6_move_103 rfl (by decide) rfl ?_
      refine go_iinc (pc := 104) (x1_ + (-1 : Int32)) [some (vR 0), some (vI y1), some (vI y2), some (vL (x0_ * (2 : Int64))), none, some (vI (x1_ + (-1 : Int32))), none] dX6_move_104 rfl (iinc_m1 _) (by decide) rfl ?_
      refine go_goto (pc := 107) 25 dX6_move_107 (by decide) ?_
      obtain rfl := Option.some.inj hs
      exact hI (x0_ * (2 : Int64), x1_ + (-1 : Int32), vp_updL e13 (0 : Int32).toNatClampNeg ((e13 (0 : Int32).toNatClampNeg) + ((nu x1_.toNatClampNeg) * x0_))) rfl (x0_ * (2 : Int64)) (x1_ + (-1 : Int32)) (vp_updL e13 (0 : Int32).toNatClampNeg ((e13 (0 : Int32).toNatClampNeg) + ((nu x1_.toNatClampNeg) * x0_))) rfl
set_option maxRecDepth 20000 in
theorem c_X6_move {d : Nat}  {a1 : Int32} {a2 : Int32} {res0 : (Nat → Int64)} (hs : s_X6_move nu mo a1 a2 = some res0) : Calls mX6_move (d + 0) false 0 0 [vR 0, vI a1, vI a2] (wM kn ne fi se ma on ot ta po ti nu mo wa nx oT cF bg ed sF qu qd tr) (fun r w' => r = none ∧ w' = (wM kn ne fi se ma on ot ta po ti nu res0 wa nx oT cF bg ed sF qu qd tr)) := by
  unfold s_X6_move at hs
  refine Calls.of kX6_move 4 [some (vR 0), some (vI a1), some (vI a2), none, none, none, none] rfl (Nat.le_of_ble_eq_true rfl) ?_
  refine go_iconst (pc := 0) (0 : Int32) dX6_move_0 (by decide) ?_
  refine go_istore_n (pc := 1) 3 [some (vR 0), some (vI a1), some (vI a2), some (vI (0 : Int32)), none, none, none] dX6_move_1 rfl (by decide) rfl ?_
  obtain ⟨e3, hl4, hs⟩ := bnd hs
  refine g_X6_move_2 (d := d) (0 : Int32) mo e3 hl4 ?_
  refine go_lconst (pc := 20) (1 : Int64) dX6_move_20 (by decide) ?_
  refine go_lstore_n (pc := 21) 3 [some (vR 0), some (vI a1), some (vI a2), some (vL (1 : Int64)), none, none, none] dX6_move_21 rfl (by decide) rfl ?_
  refine go_iload_n (pc := 22) 1 dX6_move_22 rfl rfl ?_
  refine go_istore (pc := 23) [some (vR 0), some (vI a1), some (vI a2), some (vL (1 : Int64)), none, some (vI a1), none] dX6_move_23 (by decide) rfl ?_
  obtain ⟨e19, hl20, hs⟩ := bnd hs
  refine g_X6_move_25 (d := d) (1 : Int64) a1 e3 e19 hl20 ?_
  cases hs
  exact go_return (st := []) (pc := 110) dX6_move_110 rfl (fun h => by cases h) ⟨rfl, rfl⟩
end
