section
variable {kn : (Nat → Int32)} {ne : (Nat → Int32)} {fi : (Nat → Int32)} {se : (Nat → Int32)} {ma : Int32} {on : (Nat → Int32)} {ot : (Nat → Int32)} {ta : (Nat → Int64)} {po : (Nat → Int64)} {ti : (Nat → Int64)} {nu : (Nat → Int64)} {mo : (Nat → Int64)} {wa : (Nat → Int64)} {nx : (Nat → Int64)} {oT : (Nat → Int32)} {cF : (Nat → Int32)} {bg : Int32} {ed : Int32} {sF : (Nat → Int32)} {qu : (Nat → Int32)} {qd : Int32} {tr : (Nat → Int32)}
noncomputable def b_X6_aboveOf_14 (mo : (Nat → Int64)) (x : Int32 × Int64 × Int32) : Option ((Int32 × Int64 × Int32) ⊕ (Int32)) := if x.2.2 < 0 then (some (Sum.inr x.1)) else (chk x.2.2 11 (if (lg_cmp (mo x.2.2.toNatClampNeg) (0 : Int64)) = 0 then (some (Sum.inl (x.1, x.2.1, x.2.2 + (-1 : Int32)))) else (if (lg_cmp x.2.1 (0 : Int64)) = 0 then (chk x.2.2 11 (some (Sum.inl (x.1 + (0 : Int32), mo x.2.2.toNatClampNeg, x.2.2 + (-1 : Int32))))) else (if 0 ≤ (lg_cmp x.2.1 (0 : Int64)) then (chk x.2.2 11 (if 0 ≤ (lg_cmp (mo x.2.2.toNatClampNeg) (0 : Int64)) then (if (0 : Int32) = (0 : Int32) then (chk x.2.2 11 (some (Sum.inl (x.1 + (0 : Int32), mo x.2.2.toNatClampNeg, x.2.2 + (-1 : Int32))))) else (chk x.2.2 11 (some (Sum.inl (x.1 + (1 : Int32), mo x.2.2.toNatClampNeg, x.2.2 + (-1 : Int32)))))) else (if (0 : Int32) = (1 : Int32) then (chk x.2.2 11 (some (Sum.inl (x.1 + (0 : Int32), mo x.2.2.toNatClampNeg, x.2.2 + (-1 : Int32))))) else (chk x.2.2 11 (some (Sum.inl (x.1 + (1 : Int32), mo x.2.2.toNatClampNeg, x.2.2 + (-1 : Int32)))))))) else (chk x.2.2 11 (if 0 ≤ (lg_cmp (mo x.2.2.toNatClampNeg) (0 : Int64)) then (if (1 : Int32) = (0 : Int32) then (chk x.2.2 11 (some (Sum.inl (x.1 + (0 : Int32), mo x.2.2.toNatClampNeg, x.2.2 + (-1 : Int32))))) else (chk x.2.2 11 (some (Sum.inl (x.1 + (1 : Int32), mo x.2.2.toNatClampNeg, x.2.2 + (-1 : Int32)))))) else (if (1 : Int32) = (1 : Int32) then (chk x.2.2 11 (some (Sum.inl (x.1 + (0 : Int32), mo x.2.2.toNatClampNeg, x.2.2 + (-1 : Int32))))) else (chk x.2.2 11 (some (Sum.inl (x.1 + (1 : Int32), mo x.2.2.toNatClampNeg, x.2.2 + (-1 : Int32))))))))))))
noncomputable def s_X6_aboveOf (nu : (Nat → Int64)) (mo : (Nat → Int64)) (a1 : Int32) (a2 : Int32) : Option (Int32 × (Nat → Int64)) := (s_X6_move nu mo a1 a2).bind (fun x1 => (loop (b_X6_aboveOf_14 x1) ((0 : Int32), (0 : Int64), a1)).bind (fun e25 => some (e25, x1)))
set_option maxRecDepth 20000 in
theorem g_X6_aboveOf_14 {d : Nat} {Q : Option AV → List AC → Prop}  (x0_ : Int32) (x1_ : Int64) (x2_ : Int32) (r : Int32) (hl : loop (b_X6_aboveOf_14 mo) (x0_, x1_, x2_) = some r) (hk : Go mX6_aboveOf (d + 1) false 0 0 93 [none, none, none, some (vI r), none, none, none] [] (wM kn ne fi se ma on ot ta po ti nu mo wa nx oT cF bg ed sF qu qd tr) Q) : Go mX6_aboveOf (d + 1) false 0 0 14 [some (vR 0), none, none, some (vI x0_), some (vL x1_), none, some (vI x2_)] [] (wM kn ne fi se ma on ot ta po ti nu mo wa nx oT cF bg ed sF qu qd tr) Q := by
  refine loop_go (P := fun x : Int32 × Int64 × Int32 => ∀ (x0_ : Int32) (x1_ : Int64) (x2_ : Int32), x = (x0_, x1_, x2_) → Go mX6_aboveOf (d + 1) false 0 0 14 [some (vR 0), none, none, some (vI x0_), some (vL x1_), none, some (vI x2_)] [] (wM kn ne fi se ma on ot ta po ti nu mo wa nx oT cF bg ed sF qu qd tr) Q) (K := fun r : Int32 => Go mX6_aboveOf (d + 1) false 0 0 93 [none, none, none, some (vI r), none, none, none] [] (wM kn ne fi se ma on ot ta po ti nu mo wa nx oT cF bg ed sF qu qd tr) Q) ?_ (x0_, x1_, x2_) r hl hk x0_ x1_ x2_ rfl
  · intro x y hs hI hE x0_ x1_ x2_ hx
    subst hx
    unfold b_X6_aboveOf_14 at hs
    try dsimp only at hs
    refine go_iload (pc := 14) dX6_aboveOf_14 rfl ?_
    refine go_if_lt (pc := 16) 93 dX6_aboveOf_16 (by decide) (fun h3 => ?_) (fun h3 => ?_)
    · have hs := it_t h3 hs
      obtain rfl := Option.some.inj hs
      refine go_sub (lv' := [none, none, none, some (vI x0_), none, none, none]) ⟨rfl, trivial⟩ ?_
      exact hE x0_ rfl
    · have hs := it_f h3 hs
      refine go_aload_n (pc := 19) 0 dX6_aboveOf_19 rfl rfl ?_
      refine go_getfield (pc := 20) (v := vR 11) 0 6 11 dX6_aboveOf_20 flX6_41 rfl rfl ?_
      refine go_iload (pc := 23) dX6_aboveOf_23 rfl ?_
      obtain ⟨hi4, hs⟩ := chk_t hs
      refine go_laload (pc := 25) 11 dX6_aboveOf_25 rfl hi4 ?_
      refine go_lconst (pc := 26) (0 : Int64) dX6_aboveOf_26 (by decide) ?_
      refine go_lcmp (pc := 27) dX6_aboveOf_27 ?_
      refine go_if_eq (pc := 28) 87 dX6_aboveOf_28 (by decide) (fun h5 => ?_) (fun h5 => ?_)
      · have hs := it_t h5 hs
        refine go_iinc (pc := 87) (x2_ + (-1 : Int32)) [some (vR 0), none, none, some (vI x0_), some (vL x1_), none, some (vI (x2_ + (-1 : Int32)))] dX6_aboveOf_87 rfl (iinc_m1 _) (by decide) rfl ?_
        refine go_goto (pc := 90) 14 dX6_aboveOf_90 (by decide) ?_
        obtain rfl := Option.some.inj hs
        exact hI (x0_, x1_, x2_ + (-1 : Int32)) rfl x0_ x1_ (x2_ + (-1 : Int32)) rfl
      · have hs := it_f h5 hs
        refine go_iload_n (pc := 31) 3 dX6_aboveOf_31 rfl rfl ?_
        refine go_lload (pc := 32) dX6_aboveOf_32 rfl ?_
        refine go_lconst (pc := 34) (0 : Int64) dX6_aboveOf_34 (by decide) ?_
        refine go_lcmp (pc := 35) dX6_aboveOf_35 ?_
        refine go_if_eq (pc := 36) 75 dX6_aboveOf_36 (by decide) (fun h6 => ?_) (fun h6 => ?_)
        · have hs := it_t h6 hs
          refine go_iconst (pc := 75) (0 : Int32) dX6_aboveOf_75 (by decide) ?_
          refine go_iadd (pc := 76) dX6_aboveOf_76 ?_
          refine go_istore_n (pc := 77) 3 [some (vR 0), none, none, some (vI (x0_ + (0 : Int32))), some (vL x1_), none, some (vI x2_)] dX6_aboveOf_77 rfl (by decide) rfl ?_
          refine go_aload_n (pc := 78) 0 dX6_aboveOf_78 rfl rfl ?_
          refine go_getfield (pc := 79) (v := vR 11) 0 6 11 dX6_aboveOf_79 flX6_41 rfl rfl ?_
          refine go_iload (pc := 82) dX6_aboveOf_82 rfl ?_
          obtain ⟨hi7, hs⟩ := chk_t hs
          refine go_laload (pc := 84) 11 dX6_aboveOf_84 rfl hi7 ?_
          refine go_lstore (pc := 85) [some (vR 0), none, none, some (vI (x0_ + (0 : Int32))), some (vL (mo x2_.toNatClampNeg)), none, some (vI x2_)] dX6_aboveOf_85 (by decide) rfl ?_
          refine go_iinc (pc := 87) (x2_ + (-1 : Int32)) [some (vR 0), none, none, some (vI (x0_ + (0 : Int32))), some (vL (mo x2_.toNatClampNeg)), none, some (vI (x2_ + (-1 : Int32)))] dX6_aboveOf_87 rfl (iinc_m1 _) (by decide) rfl ?_
          refine go_goto (pc := 90) 14 dX6_aboveOf_90 (by decide) ?_
          obtain rfl := Option.some.inj hs
          exact hI (x0_ + (0 : Int32), mo x2_.toNatClampNeg, x2_ + (-1 : Int32)) rfl (x0_ + (0 : Int32)) (mo x2_.toNatClampNeg) (x2_ + (-1 : Int32)) rfl
        · have hs := it_f h6 hs
          refine go_lload (pc := 39) dX6_aboveOf_39 rfl ?_
          refine go_lconst (pc := 41) (0 : Int64) dX6_aboveOf_41 (by decide) ?_
          refine go_lcmp (pc := 42) dX6_aboveOf_42 ?_
          refine go_if_ge (pc := 43) 50 dX6_aboveOf_43 (by decide) (fun h8 => ?_) (fun h8 => ?_)
          · have hs := it_t h8 hs
            refine go_iconst (pc := 50) (0 : Int32) dX6_aboveOf_50 (by decide) ?_
            refine go_aload_n (pc := 51) 0 dX6_aboveOf_51 rfl rfl ?_
            refine go_getfield (pc := 52) (v := vR 11) 0 6 11 dX6_aboveOf_52 flX6_41 rfl rfl ?_
            refine go_iload (pc := 55) dX6_aboveOf_55 rfl ?_
            obtain ⟨hi9, hs⟩ := chk_t hs
            refine go_laload (pc := 57) 11 dX6_aboveOf_57 rfl hi9 ?_
            refine go_lconst (pc := 58) (0 : Int64) dX6_aboveOf_58 (by decide) ?_
            refine go_lcmp (pc := 59) dX6_aboveOf_59 ?_
            refine go_if_ge (pc := 60) 67 dX6_aboveOf_60 (by decide) (fun h10 => ?_) (fun h10 => ?_)
            · have hs := it_t h10 hs
              refine go_iconst (pc := 67) (0 : Int32) dX6_aboveOf_67 (by decide) ?_
              refine go_icmp_eq (pc := 68) 75 dX6_aboveOf_68 (by decide) (fun h11 => ?_) (fun h11 => ?_)
              · have hs := it_t h11 hs
                refine go_iconst (pc := 75) (0 : Int32) dX6_aboveOf_75 (by decide) ?_
                refine go_iadd (pc := 76) dX6_aboveOf_76 ?_
                refine go_istore_n (pc := 77) 3 [some (vR 0), none, none, some (vI (x0_ + (0 : Int32))), some (vL x1_), none, some (vI x2_)] dX6_aboveOf_77 rfl (by decide) rfl ?_
                refine go_aload_n (pc := 78) 0 dX6_aboveOf_78 rfl rfl ?_
                refine go_getfield (pc := 79) (v := vR 11) 0 6 11 dX6_aboveOf_79 flX6_41 rfl rfl ?_
                refine go_iload (pc := 82) dX6_aboveOf_82 rfl ?_
                obtain ⟨hi12, hs⟩ := chk_t hs
                refine go_laload (pc := 84) 11 dX6_aboveOf_84 rfl hi12 ?_
                refine go_lstore (pc := 85) [some (vR 0), none, none, some (vI (x0_ + (0 : Int32))), some (vL (mo x2_.toNatClampNeg)), none, some (vI x2_)] dX6_aboveOf_85 (by decide) rfl ?_
                refine go_iinc (pc := 87) (x2_ + (-1 : Int32)) [some (vR 0), none, none, some (vI (x0_ + (0 : Int32))), some (vL (mo x2_.toNatClampNeg)), none, some (vI (x2_ + (-1 : Int32)))] dX6_aboveOf_87 rfl (iinc_m1 _) (by decide) rfl ?_
                refine go_goto (pc := 90) 14 dX6_aboveOf_90 (by decide) ?_
                obtain rfl := Option.some.inj hs
                exact hI (x0_ + (0 : Int32), mo x2_.toNatClampNeg, x2_ + (-1 : Int32)) rfl (x0_ + (0 : Int32)) (mo x2_.toNatClampNeg) (x2_ + (-1 : Int32)) rfl
              · have hs := it_f h11 hs
                refine go_iconst (pc := 71) (1 : Int32) dX6_aboveOf_71 (by decide) ?_
                refine go_goto (pc := 72) 76 dX6_aboveOf_72 (by decide) ?_
                refine go_iadd (pc := 76) dX6_aboveOf_76 ?_
                refine go_istore_n (pc := 77) 3 [some (vR 0), none, none, some (vI (x0_ + (1 : Int32))), some (vL x1_), none, some (vI x2_)] dX6_aboveOf_77 rfl (by decide) rfl ?_
                refine go_aload_n (pc := 78) 0 dX6_aboveOf_78 rfl rfl ?_
                refine go_getfield (pc := 79) (v := vR 11) 0 6 11 dX6_aboveOf_79 flX6_41 rfl rfl ?_
                refine go_iload (pc := 82) dX6_aboveOf_82 rfl ?_
                obtain ⟨hi13, hs⟩ := chk_t hs
                refine go_laload (pc := 84) 11 dX6_aboveOf_84 rfl hi13 ?_
                refine go_lstore (pc := 85) [some (vR 0), none, none, some (vI (x0_ + (1 : Int32))), some (vL (mo x2_.toNatClampNeg)), none, some (vI x2_)] dX6_aboveOf_85 (by decide) rfl ?_
                refine go_iinc (pc := 87) (x2_ + (-1 : Int32)) [some (vR 0), none, none, some (vI (x0_ + (1 : Int32))), some (vL (mo x2_.toNatClampNeg)), none, some (vI (x2_ + (-1 : Int32)))] dX6_aboveOf_87 rfl (iinc_m1 _) (by decide) rfl ?_
                refine go_goto (pc := 90) 14 dX6_aboveOf_90 (by decide) ?_
                obtain rfl := Option.some.inj hs
                exact hI (x0_ + (1 : Int32), mo x2_.toNatClampNeg, x2_ + (-1 : Int32)) rfl (x0_ + (1 : Int32)) (mo x2_.toNatClampNeg) (x2_ + (-1 : Int32)) rfl
            · have hs := it_f h10 hs
              refine go_iconst (pc := 63) (1 : Int32) dX6_aboveOf_63 (by decide) ?_
              refine go_goto (pc := 64) 68 dX6_aboveOf_64 (by decide) ?_
              refine go_icmp_eq (pc := 68) 75 dX6_aboveOf_68 (by decide) (fun h14 => ?_) (fun h14 => ?_)
              · have hs := it_t h14 hs
                refine go_iconst (pc := 75) (0 : Int32) dX6_aboveOf_75 (by decide) ?_
                refine go_iadd (pc := 76) dX6_aboveOf_76 ?_
                refine go_istore_n (pc := 77) 3 [some (vR 0), none, none, some (vI (x0_ + (0 : Int32))), some (vL x1_), none, some (vI x2_)] dX6_aboveOf_77 rfl (by decide) rfl ?_
                refine go_aload_n (pc := 78) 0 dX6_aboveOf_78 rfl rfl ?_
                refine go_getfield (pc := 79) (v := vR 11) 0 6 11 dX6_aboveOf_79 flX6_41 rfl rfl ?_
                refine go_iload (pc := 82) dX6_aboveOf_82 rfl ?_
                obtain ⟨hi15, hs⟩ := chk_t hs
                refine go_laload (pc := 84) 11 dX6_aboveOf_84 rfl hi15 ?_
                refine go_lstore (pc := 85) [some (vR 0), none, none, some (vI (x0_ + (0 : Int32))), some (vL (mo x2_.toNatClampNeg)), none, some (vI x2_)] dX6_aboveOf_85 (by decide) rfl ?_
                refine go_iinc (pc := 87) (x2_ + (-1 : Int32)) [some (vR 0), none, none, some (vI (x0_ + (0 : Int32))), some (vL (mo x2_.toNatClampNeg)), none, some (vI (x2_ + (-1 : Int32)))] dX6_aboveOf_87 rfl (iinc_m1 _) (by decide) rfl ?_
                refine go_goto (pc := 90) 14 dX6_aboveOf_90 (by decide) ?_
                obtain rfl := Option.some.inj hs
                exact hI (x0_ + (0 : Int32), mo x2_.toNatClampNeg, x2_ + (-1 : Int32)) rfl (x0_ + (0 : Int32)) (mo x2_.toNatClampNeg) (x2_ + (-1 : Int32)) rfl
              · have hs := it_f h14 hs
                refine go_iconst (pc := 71) (1 : Int32) dX6_aboveOf_71 (by decide) ?_
                refine go_goto (pc := 72) 76 dX6_aboveOf_72 (by decide) ?_
                refine go_iadd (pc := 76) dX6_aboveOf_76 ?_
                refine go_istore_n (pc := 77) 3 [some (vR 0), none, none, some (vI (x0_ + (1 : Int32))), some (vL x1_), none, some (vI x2_)] dX6_aboveOf_77 rfl (by decide) rfl ?_
                refine go_aload_n (pc := 78) 0 dX6_aboveOf_78 rfl rfl ?_
                refine go_getfield (pc := 79) (v := vR 11) 0 6 11 dX6_aboveOf_79 flX6_41 rfl rfl ?_
                refine go_iload (pc := 82) dX6_aboveOf_82 rfl ?_
                obtain ⟨hi16, hs⟩ := chk_t hs
                refine go_laload (pc := 84) 11 dX6_aboveOf_84 rfl hi16 ?_
                refine go_lstore (pc := 85) [some (vR 0), none, none, some (vI (x0_ + (1 : Int32))), some (vL (mo x2_.toNatClampNeg)), none, some (vI x2_)] dX6_aboveOf_85 (by decide) rfl ?_
                refine go_iinc (pc := 87) (x2_ + (-1 : Int32)) [some (vR 0), none, none, some (vI (x0_ + (1 : Int32))), some (vL (mo x2_.toNatClampNeg)), none, some (vI (x2_ + (-1 : Int32)))] dX6_aboveOf_87 rfl (iinc_m1 _) (by decide) rfl ?_
                refine go_goto (pc := 90) 14 dX6_aboveOf_90 (by decide) ?_
                obtain rfl := Option.some.inj hs
                exact hI (x0_ + (1 : Int32), mo x2_.toNatClampNeg, x2_ + (-1 : Int32)) rfl (x0_ + (1 : Int32)) (mo x2_.toNatClampNeg) (x2_ + (-1 : Int32)) rfl
          · have hs := it_f h8 hs
            refine go_iconst (pc := 46) (1 : Int32) dX6_aboveOf_46 (by decide) ?_
            refine go_goto (pc := 47) 51 dX6_aboveOf_47 (by decide) ?_
            refine go_aload_n (pc := 51) 0 dX6_aboveOf_51 rfl rfl ?_
            refine go_getfield (pc := 52) (v := vR 11) 0 6 11 dX6_aboveOf_52 flX6_41 rfl rfl ?_
            refine go_iload (pc := 55) dX6_aboveOf_55 rfl ?_
            obtain ⟨hi17, hs⟩ := chk_t hs
            refine go_laload (pc := 57) 11 dX6_aboveOf_57 rfl hi17 ?_
            refine go_lconst (pc := 58) (0 : Int64) dX6_aboveOf_58 (by decide) ?_
            refine go_lcmp (pc := 59) dX6_aboveOf_59 ?_
            refine go_if_ge (pc := 60) 67 dX6_aboveOf_60 (by decide) (fun h18 => ?_) (fun h18 => ?_)
            · have hs := it_t h18 hs
              refine go_iconst (pc := 67) (0 : Int32) dX6_aboveOf_67 (by decide) ?_
              refine go_icmp_eq (pc := 68) 75 dX6_aboveOf_68 (by decide) (fun h19 => ?_) (fun h19 => ?_)
              · have hs := it_t h19 hs
                refine go_iconst (pc := 75) (0 : Int32) dX6_aboveOf_75 (by decide) ?_
                refine go_iadd (pc := 76) dX6_aboveOf_76 ?_
                refine go_istore_n (pc := 77) 3 [some (vR 0), none, none, some (vI (x0_ + (0 : Int32))), some (vL x1_), none, some (vI x2_)] dX6_aboveOf_77 rfl (by decide) rfl ?_
                refine go_aload_n (pc := 78) 0 dX6_aboveOf_78 rfl rfl ?_
                refine go_getfield (pc := 79) (v := vR 11) 0 6 11 dX6_aboveOf_79 flX6_41 rfl rfl ?_
                refine go_iload (pc := 82) dX6_aboveOf_82 rfl ?_
                obtain ⟨hi20, hs⟩ := chk_t hs
                refine go_laload (pc := 84) 11 dX6_aboveOf_84 rfl hi20 ?_
                refine go_lstore (pc := 85) [some (vR 0), none, none, some (vI (x0_ + (0 : Int32))), some (vL (mo x2_.toNatClampNeg)), none, some (vI x2_)] dX6_aboveOf_85 (by decide) rfl ?_
                refine go_iinc (pc := 87) (x2_ + (-1 : Int32)) [some (vR 0), none, none, some (vI (x0_ + (0 : Int32))), some (vL (mo x2_.toNatClampNeg)), none, some (vI (x2_ + (-1 : Int32)))] dX6_aboveOf_87 rfl (iinc_m1 _) (by decide) rfl ?_
                refine go_goto (pc := 90) 14 dX6_aboveOf_90 (by decide) ?_
                obtain rfl := Option.some.inj hs
                exact hI (x0_ + (0 : Int32), mo x2_.toNatClampNeg, x2_ + (-1 : Int32)) rfl (x0_ + (0 : Int32)) (mo x2_.toNatClampNeg) (x2_ + (-1 : Int32)) rfl
              · have hs := it_f h19 hs
                refine go_iconst (pc := 71) (1 : Int32) dX6_aboveOf_71 (by decide) ?_
                refine go_goto (pc := 72) 76 dX6_aboveOf_72 (by decide) ?_
                refine go_iadd (pc := 76) dX6_aboveOf_76 ?_
                refine go_istore_n (pc := 77) 3 [some (vR 0), none, none, some (vI (x0_ + (1 : Int32))), some (vL x1_), none, some (vI x2_)] dX6_aboveOf_77 rfl (by decide) rfl ?_
                refine go_aload_n (pc := 78) 0 dX6_aboveOf_78 rfl rfl ?_
                refine go_getfield (pc := 79) (v := vR 11) 0 6 11 dX6_aboveOf_79 flX6_41 rfl rfl ?_
                refine go_iload (pc := 82) dX6_aboveOf_82 rfl ?_
                obtain ⟨hi21, hs⟩ := chk_t hs
                refine go_laload (pc := 84) 11 dX6_aboveOf_84 rfl hi21 ?_
                refine go_lstore (pc := 85) [some (vR 0), none, none, some (vI (x0_ + (1 : Int32))), some (vL (mo x2_.toNatClampNeg)), none, some (vI x2_)] dX6_aboveOf_85 (by decide) rfl ?_
                refine go_iinc (pc := 87) (x2_ + (-1 : Int32)) [some (vR 0), none, none, some (vI (x0_ + (1 : Int32))), some (vL (mo x2_.toNatClampNeg)), none, some (vI (x2_ + (-1 : Int32)))] dX6_aboveOf_87 rfl (iinc_m1 _) (by decide) rfl ?_
                refine go_goto (pc := 90) 14 dX6_aboveOf_90 (by decide) ?_
                obtain rfl := Option.some.inj hs
                exact hI (x0_ + (1 : Int32), mo x2_.toNatClampNeg, x2_ + (-1 : Int32)) rfl (x0_ + (1 : Int32)) (mo x2_.toNatClampNeg) (x2_ + (-1 : Int32)) rfl
            · have hs := it_f h18 hs
              refine go_iconst (pc := 63) (1 : Int32) dX6_aboveOf_63 (by decide) ?_
              refine go_goto (pc := 64) 68 dX6_aboveOf_64 (by decide) ?_
              refine go_icmp_eq (pc := 68) 75 dX6_aboveOf_68 (by decide) (fun h22 => ?_) (fun h22 => ?_)
              · have hs := it_t h22 hs
                refine go_iconst (pc := 75) (0 : Int32) dX6_aboveOf_75 (by decide) ?_
                refine go_iadd (pc := 76) dX6_aboveOf_76 ?_
                refine go_istore_n (pc := 77) 3 [some (vR 0), none, none, some (vI (x0_ + (0 : Int32))), some (vL x1_), none, some (vI x2_)] dX6_aboveOf_77 rfl (by decide) rfl ?_
                refine go_aload_n (pc := 78) 0 dX6_aboveOf_78 rfl rfl ?_
                refine go_getfield (pc := 79) (v := vR 11) 0 6 11 dX6_aboveOf_79 flX6_41 rfl rfl ?_
                refine go_iload (pc := 82) dX6_aboveOf_82 rfl ?_
                obtain ⟨hi23, hs⟩ := chk_t hs
                refine go_laload (pc := 84) 11 dX6_aboveOf_84 rfl hi23 ?_
                refine go_lstore (pc := 85) [some (vR 0), none, none, some (vI (x0_ + (0 : Int32))), some (vL (mo x2_.toNatClampNeg)), none, some (vI x2_)] dX6_aboveOf_85 (by decide) rfl ?_
                refine go_iinc (pc := 87) (x2_ + (-1 : Int32)) [some (vR 0), none, none, some (vI (x0_ + (0 : Int32))), some (vL (mo x2_.toNatClampNeg)), none, some (vI (x2_ + (-1 : Int32)))] dX6_aboveOf_87 rfl (iinc_m1 _) (by decide) rfl ?_
                refine go_goto (pc := 90) 14 dX6_aboveOf_90 (by decide) ?_
                obtain rfl := Option.some.inj hs
                exact hI (x0_ + (0 : Int32), mo x2_.toNatClampNeg, x2_ + (-1 : Int32)) rfl (x0_ + (0 : Int32)) (mo x2_.toNatClampNeg) (x2_ + (-1 : Int32)) rfl
              · have hs := it_f h22 hs
                refine go_iconst (pc := 71) (1 : Int32) dX6_aboveOf_71 (by decide) ?_
                refine go_goto (pc := 72) 76 dX6_aboveOf_72 (by decide) ?_
                refine go_iadd (pc := 76) dX6_aboveOf_76 ?_
                refine go_istore_n (pc := 77) 3 [some (vR 0), none, none, some (vI (x0_ + (1 : Int32))), some (vL x1_), none, some (vI x2_)] dX6_aboveOf_77 rfl (by decide) rfl ?_
                refine go_aload_n (pc := 78) 0 dX6_aboveOf_78 rfl rfl ?_
                refine go_getfield (pc := 79) (v := vR 11) 0 6 11 dX6_aboveOf_79 flX6_41 rfl rfl ?_
                refine go_iload (pc := 82) dX6_aboveOf_82 rfl ?_
                obtain ⟨hi24, hs⟩ := chk_t hs
                refine go_laload (pc := 84) 11 dX6_aboveOf_84 rfl hi24 ?_
                refine go_lstore (pc := 85) [some (vR 0), none, none, some (vI (x0_ + (1 : Int32))), some (vL (mo x2_.toNatClampNeg)), none, some (vI x2_)] dX6_aboveOf_85 (by decide) rfl ?_
                refine go_iinc (pc := 87) (x2_ + (-1 : Int32)) [some (vR 0), none, none, some (vI (x0_ + (1 : Int32))), some (vL (mo x2_.toNatClampNeg)), none, some (vI (x2_ + (-1 : Int32)))] dX6_aboveOf_87 rfl (iinc_m1 _) (by decide) rfl ?_
                refine go_goto (pc := 90) 14 dX6_aboveOf_90 (by decide) ?_
                obtain rfl := Option.some.inj hs
                exact hI (x0_ + (1 : Int32), mo x2_.toNatClampNeg, x2_ + (-1 : Int32)) rfl (x0_ + (1 : Int32)) (mo x2_.toNatClampNeg) (x2_ + (-1 : Int32)) rfl
set_option maxRecDepth 20000 in
theorem c_X6_aboveOf {d : Nat}  {a1 : Int32} {a2 : Int32} {res0 : Int32} {res1 : (Nat → Int64)} (hs : s_X6_aboveOf nu mo a1 a2 = some (res0, res1)) : Calls mX6_aboveOf (d + 1) false 0 0 [vR 0, vI a1, vI a2] (wM kn ne fi se ma on ot ta po ti nu mo wa nx oT cF bg ed sF qu qd tr) (fun r w' => r = some (vI res0) ∧ w' = (wM kn ne fi se ma on ot ta po ti nu res1 wa nx oT cF bg ed sF qu qd tr)) := by
  unfold s_X6_aboveOf at hs
  refine Calls.of kX6_aboveOf 4 [some (vR 0), some (vI a1), some (vI a2), none, none, none, none] rfl (Nat.le_of_ble_eq_true rfl) ?_
  refine go_aload_n (pc := 0) 0 dX6_aboveOf_0 rfl rfl ?_
  refine go_iload_n (pc := 1) 1 dX6_aboveOf_1 rfl rfl ?_
  refine go_iload_n (pc := 2) 2 dX6_aboveOf_2 rfl rfl ?_
  obtain ⟨x1, hc2, hs⟩ := bnd hs
  refine go_callV (bc := 0) (bs := 0) (mc := 0) (ms := 0) (d := d + 0) (pc := 3) (a := 0) (ci := 6) [vI a1, vI a2] [] dX6_aboveOf_3 kX6_move mlX6_121 ivX6_move rfl rfl rfl rfl (Nat.le_of_ble_eq_true rfl) rfl (c_X6_move (d := d + 0) (res0 := x1) hc2) (fun r w' hq => ?_)
  obtain ⟨rfl, rfl⟩ := hq
  show Go mX6_aboveOf (d + 1) false 0 0 6 [some (vR 0), some (vI a1), some (vI a2), none, none, none, none] [] (wM kn ne fi se ma on ot ta po ti nu x1 wa nx oT cF bg ed sF qu qd tr) _
  refine go_iconst (pc := 6) (0 : Int32) dX6_aboveOf_6 (by decide) ?_
  refine go_istore_n (pc := 7) 3 [some (vR 0), some (vI a1), some (vI a2), some (vI (0 : Int32)), none, none, none] dX6_aboveOf_7 rfl (by decide) rfl ?_
  refine go_lconst (pc := 8) (0 : Int64) dX6_aboveOf_8 (by decide) ?_
  refine go_lstore (pc := 9) [some (vR 0), some (vI a1), some (vI a2), some (vI (0 : Int32)), some (vL (0 : Int64)), none, none] dX6_aboveOf_9 (by decide) rfl ?_
  refine go_iload_n (pc := 11) 1 dX6_aboveOf_11 rfl rfl ?_
  refine go_istore (pc := 12) [some (vR 0), some (vI a1), some (vI a2), some (vI (0 : Int32)), some (vL (0 : Int64)), none, some (vI a1)] dX6_aboveOf_12 (by decide) rfl ?_
  refine go_sub (lv' := [some (vR 0), none, none, some (vI (0 : Int32)), some (vL (0 : Int64)), none, some (vI a1)]) ⟨rfl, ⟨rfl, ⟨rfl, ⟨rfl, trivial⟩⟩⟩⟩ ?_
  obtain ⟨e25, hl26, hs⟩ := bnd hs
  refine g_X6_aboveOf_14 (d := d) (0 : Int32) (0 : Int64) a1 e25 hl26 ?_
  refine go_iload_n (pc := 93) 3 dX6_aboveOf_93 rfl rfl ?_
  cases hs
  exact go_ireturn (st := []) (pc := 94) dX6_aboveOf_94 rfl (vp_nar_int _) (fun h => by cases h) ⟨rfl, rfl⟩
end
