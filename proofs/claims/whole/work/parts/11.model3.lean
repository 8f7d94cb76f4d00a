section
variable {kn : (Nat → Int32)} {ne : (Nat → Int32)} {fi : (Nat → Int32)} {se : (Nat → Int32)} {ma : Int32} {on : (Nat → Int32)} {ot : (Nat → Int32)} {ta : (Nat → Int64)} {po : (Nat → Int64)} {ti : (Nat → Int64)} {nu : (Nat → Int64)} {mo : (Nat → Int64)} {wa : (Nat → Int64)} {nx : (Nat → Int64)} {oT : (Nat → Int32)} {cF : (Nat → Int32)} {bg : Int32} {ed : Int32} {sF : (Nat → Int32)} {qu : (Nat → Int32)} {qd : Int32} {tr : (Nat → Int32)}
noncomputable def b_X6_layTable_7  (x : Int32 × (Nat → Int64)) : Option ((Int32 × (Nat → Int64)) ⊕ ((Nat → Int64))) := if (100 : Int32) ≤ x.1 then (some (Sum.inr x.2)) else (chk x.1 100 (some (Sum.inl (x.1 + (1 : Int32), vp_updL x.2 x.1.toNatClampNeg (0 : Int64)))))
noncomputable def b_X6_layTable_28 (ma : Int32) (on : (Nat → Int32)) (ot : (Nat → Int32)) (y2 : Int32) (x : Int32 × (Nat → Int64)) : Option ((Int32 × (Nat → Int64)) ⊕ ((Nat → Int64))) := if ma ≤ x.1 then (some (Sum.inr x.2)) else (if (31 : Int32) ≤ x.1 then (chk x.1 45 (chk x.1 45 (chk (((10 : Int32) * (on x.1.toNatClampNeg)) + (ot x.1.toNatClampNeg)) 100 (chk x.1 45 (chk x.1 45 (chk (((10 : Int32) * (ot x.1.toNatClampNeg)) + (on x.1.toNatClampNeg)) 100 (some (Sum.inl (x.1 + (1 : Int32), vp_updL (vp_updL x.2 (((10 : Int32) * (on x.1.toNatClampNeg)) + (ot x.1.toNatClampNeg)).toNatClampNeg (1 : Int64)) (((10 : Int32) * (ot x.1.toNatClampNeg)) + (on x.1.toNatClampNeg)).toNatClampNeg (1 : Int64)))))))))) else (if ((y2 >>> (x.1 &&& 31)) &&& (1 : Int32)) = (1 : Int32) then (chk x.1 45 (chk x.1 45 (chk (((10 : Int32) * (on x.1.toNatClampNeg)) + (ot x.1.toNatClampNeg)) 100 (chk x.1 45 (chk x.1 45 (chk (((10 : Int32) * (ot x.1.toNatClampNeg)) + (on x.1.toNatClampNeg)) 100 (some (Sum.inl (x.1 + (1 : Int32), vp_updL (vp_updL x.2 (((10 : Int32) * (on x.1.toNatClampNeg)) + (ot x.1.toNatClampNeg)).toNatClampNeg (-1 : Int64)) (((10 : Int32) * (ot x.1.toNatClampNeg)) + (on x.1.toNatClampNeg)).toNatClampNeg (-1 : Int64)))))))))) else (chk x.1 45 (chk x.1 45 (chk (((10 : Int32) * (on x.1.toNatClampNeg)) + (ot x.1.toNatClampNeg)) 100 (chk x.1 45 (chk x.1 45 (chk (((10 : Int32) * (ot x.1.toNatClampNeg)) + (on x.1.toNatClampNeg)) 100 (some (Sum.inl (x.1 + (1 : Int32), vp_updL (vp_updL x.2 (((10 : Int32) * (on x.1.toNatClampNeg)) + (ot x.1.toNatClampNeg)).toNatClampNeg (1 : Int64)) (((10 : Int32) * (ot x.1.toNatClampNeg)) + (on x.1.toNatClampNeg)).toNatClampNeg (1 : Int64))))))))))))
noncomputable def s_X6_layTable (kn : (Nat → Int32)) (ne : (Nat → Int32)) (ma : Int32) (on : (Nat → Int32)) (ot : (Nat → Int32)) (ta : (Nat → Int64)) (a1 : Int32) (a2 : Int32) : Option (Int32 × (Nat → Int32) × (Nat → Int32) × (Nat → Int64)) := (s_X6_layLines kn ne ma on ot a1).bind (fun x1 => (loop (b_X6_layTable_7) ((0 : Int32), ta)).bind (fun e5 => (loop (b_X6_layTable_28 x1.1 x1.2.1 x1.2.2 a2) ((0 : Int32), e5)).bind (fun e28 => some (x1.1, x1.2.1, x1.2.2, e28))))
set_option maxRecDepth 20000 in
theorem g_X6_layTable_7 {d : Nat} {Q : Option AV → List AC → Prop} {y2 : Int32} (x : Int32 × (Nat → Int64)) (r : (Nat → Int64)) (hl : loop (b_X6_layTable_7 ) x = some r) (hk : (fun r : (Nat → Int64) => Go mX6_layTable (d + 2) false 0 0 26 [some (vR 0), none, some (vI y2), none, none, none] [] (wM kn ne fi se ma on ot r po ti nu mo wa nx oT cF bg ed sF qu qd tr) Q) r) : (fun x : Int32 × (Nat → Int64) => Go mX6_layTable (d + 2) false 0 0 7 [some (vR 0), none, some (vI y2), some (vI x.1), none, none] [] (wM kn ne fi se ma on ot x.2 po ti nu mo wa nx oT cF bg ed sF qu qd tr) Q) x := by
  refine loop_go (P := fun x : Int32 × (Nat → Int64) => Go mX6_layTable (d + 2) false 0 0 7 [some (vR 0), none, some (vI y2), some (vI x.1), none, none] [] (wM kn ne fi se ma on ot x.2 po ti nu mo wa nx oT cF bg ed sF qu qd tr) Q) (K := fun r : (Nat → Int64) => Go mX6_layTable (d + 2) false 0 0 26 [some (vR 0), none, some (vI y2), none, none, none] [] (wM kn ne fi se ma on ot r po ti nu mo wa nx oT cF bg ed sF qu qd tr) Q) ?_ x r hl hk
  · intro x y hs hI hE
    unfold b_X6_layTable_7 at hs
    show Go mX6_layTable (d + 2) false 0 0 7 [some (vR 0), none, some (vI y2), some (vI x.1), none, none] [] (wM kn ne fi se ma on ot x.2 po ti nu mo wa nx oT cF bg ed sF qu qd tr) Q
    refine go_iload_n (pc := 7) 3 dX6_layTable_7 rfl rfl ?_
    refine go_bipush (pc := 8) (100 : Int32) dX6_layTable_8 (by decide) ?_
    refine go_icmp_ge (pc := 10) 26 dX6_layTable_10 (by decide) (fun h3 => ?_) (fun h3 => ?_)
    · have hs := it_t h3 hs
      obtain rfl := Option.some.inj hs
      refine go_sub (lv' := [some (vR 0), none, some (vI y2), none, none, none]) ⟨rfl, ⟨rfl, trivial⟩⟩ ?_
      exact hE _ rfl
    · have hs := it_f h3 hs
      refine go_aload_n (pc := 13) 0 dX6_layTable_13 rfl rfl ?_
      refine go_getfield (pc := 14) (v := vR 7) 0 6 7 dX6_layTable_14 flX6_28 rfl rfl ?_
      refine go_iload_n (pc := 17) 3 dX6_layTable_17 rfl rfl ?_
      refine go_lconst (pc := 18) (0 : Int64) dX6_layTable_18 (by decide) ?_
      obtain ⟨hi4, hs⟩ := chk_t hs
      refine go_lastore (pc := 19) 7 dX6_layTable_19 rfl hi4 (show Go mX6_layTable (d + 2) false 0 0 20 [some (vR 0), none, some (vI y2), some (vI x.1), none, none] [] (wM kn ne fi se ma on ot (vp_updL x.2 x.1.toNatClampNeg (0 : Int64)) po ti nu mo wa nx oT cF bg ed sF qu qd tr) Q from ?_)
      refine go_iinc (pc := 20) (x.1 + (1 : Int32)) [some (vR 0), none, some (vI y2), some (vI (x.1 + (1 : Int32))), none, none] dX6_layTable_20 rfl rfl (by decide) rfl ?_
      refine go_goto (pc := 23) 7 dX6_layTable_23 (by decide) ?_
      obtain rfl := Option.some.inj hs
      exact hI _ rfl
set_option maxRecDepth 20000 in
theorem g_X6_layTable_28 {d : Nat} {Q : Option AV → List AC → Prop} {y2 : Int32} (x : Int32 × (Nat → Int64)) (r : (Nat → Int64)) (hl : loop (b_X6_layTable_28 ma on ot y2) x = some r) (hk : (fun r : (Nat → Int64) => Go mX6_layTable (d + 2) false 0 0 112 [none, none, none, none, none, none] [] (wM kn ne fi se ma on ot r po ti nu mo wa nx oT cF bg ed sF qu qd tr) Q) r) : (fun x : Int32 × (Nat → Int64) => Go mX6_layTable (d + 2) false 0 0 28 [some (vR 0), none, some (vI y2), some (vI x.1), none, none] [] (wM kn ne fi se ma on ot x.2 po ti nu mo wa nx oT cF bg ed sF qu qd tr) Q) x := by
  refine loop_go (P := fun x : Int32 × (Nat → Int64) => Go mX6_layTable (d + 2) false 0 0 28 [some (vR 0), none, some (vI y2), some (vI x.1), none, none] [] (wM kn ne fi se ma on ot x.2 po ti nu mo wa nx oT cF bg ed sF qu qd tr) Q) (K := fun r : (Nat → Int64) => Go mX6_layTable (d + 2) false 0 0 112 [none, none, none, none, none, none] [] (wM kn ne fi se ma on ot r po ti nu mo wa nx oT cF bg ed sF qu qd tr) Q) ?_ x r hl hk
  · intro x y hs hI hE
    unfold b_X6_layTable_28 at hs
    show Go mX6_layTable (d + 2) false 0 0 28 [some (vR 0), none, some (vI y2), some (vI x.1), none, none] [] (wM kn ne fi se ma on ot x.2 po ti nu mo wa nx oT cF bg ed sF qu qd tr) Q
    refine go_iload_n (pc := 28) 3 dX6_layTable_28 rfl rfl ?_
    refine go_aload_n (pc := 29) 0 dX6_layTable_29 rfl rfl ?_
    refine go_getfield (pc := 30) (v := vI ma) 0 6 4 dX6_layTable_30 flX6_105 rfl rfl ?_
    refine go_icmp_ge (pc := 33) 112 dX6_layTable_33 (by decide) (fun h7 => ?_) (fun h7 => ?_)
    · have hs := it_t h7 hs
      obtain rfl := Option.some.inj hs
      refine go_sub (lv' := [none, none, none, none, none, none]) trivial ?_
      exact hE _ rfl
    · have hs := it_f h7 hs
      refine go_iload_n (pc := 36) 3 dX6_layTable_36 rfl rfl ?_
      refine go_bipush (pc := 37) (31 : Int32) dX6_layTable_37 (by decide) ?_
      refine go_icmp_ge (pc := 39) 57 dX6_layTable_39 (by decide) (fun h8 => ?_) (fun h8 => ?_)
      · have hs := it_t h8 hs
        refine go_lconst (pc := 57) (1 : Int64) dX6_layTable_57 (by decide) ?_
        refine go_lstore (pc := 58) [some (vR 0), none, some (vI y2), some (vI x.1), some (vL (1 : Int64)), none] dX6_layTable_58 (by decide) rfl ?_
        refine go_aload_n (pc := 60) 0 dX6_layTable_60 rfl rfl ?_
        refine go_getfield (pc := 61) (v := vR 7) 0 6 7 dX6_layTable_61 flX6_28 rfl rfl ?_
        refine go_bipush (pc := 64) (10 : Int32) dX6_layTable_64 (by decide) ?_
        refine go_aload_n (pc := 66) 0 dX6_layTable_66 rfl rfl ?_
        refine go_getfield (pc := 67) (v := vR 5) 0 6 5 dX6_layTable_67 flX6_22 rfl rfl ?_
        refine go_iload_n (pc := 70) 3 dX6_layTable_70 rfl rfl ?_
        obtain ⟨hi9, hs⟩ := chk_t hs
        refine go_iaload (pc := 71) 5 dX6_layTable_71 rfl hi9 ?_
        refine go_imul (pc := 72) dX6_layTable_72 ?_
        refine go_aload_n (pc := 73) 0 dX6_layTable_73 rfl rfl ?_
        refine go_getfield (pc := 74) (v := vR 6) 0 6 6 dX6_layTable_74 flX6_25 rfl rfl ?_
        refine go_iload_n (pc := 77) 3 dX6_layTable_77 rfl rfl ?_
        obtain ⟨hi10, hs⟩ := chk_t hs
        refine go_iaload (pc := 78) 6 dX6_layTable_78 rfl hi10 ?_
        refine go_iadd (pc := 79) dX6_layTable_79 ?_
        refine go_lload (pc := 80) dX6_layTable_80 rfl ?_
        obtain ⟨hi11, hs⟩ := chk_t hs
        refine go_lastore (pc := 82) 7 dX6_layTable_82 rfl hi11 (show Go mX6_layTable (d + 2) false 0 0 83 [some (vR 0), none, some (vI y2), some (vI x.1), some (vL (1 : Int64)), none] [] (wM kn ne fi se ma on ot (vp_updL x.2 (((10 : Int32) * (on x.1.toNatClampNeg)) + (ot x.1.toNatClampNeg)).toNatClampNeg (1 : Int64)) po ti nu mo wa nx oT cF bg ed sF qu qd tr) Q from ?_)
        refine go_aload_n (pc := 83) 0 dX6_layTable_83 rfl rfl ?_
        refine go_getfield (pc := 84) (v := vR 7) 0 6 7 dX6_layTable_84 flX6_28 rfl rfl ?_
        refine go_bipush (pc := 87) (10 : Int32) dX6_layTable_87 (by decide) ?_
        refine go_aload_n (pc := 89) 0 dX6_layTable_89 rfl rfl ?_
        refine go_getfield (pc := 90) (v := vR 6) 0 6 6 dX6_layTable_90 flX6_25 rfl rfl ?_
        refine go_iload_n (pc := 93) 3 dX6_layTable_93 rfl rfl ?_
        obtain ⟨hi12, hs⟩ := chk_t hs
        refine go_iaload (pc := 94) 6 dX6_layTable_94 rfl hi12 ?_
        refine go_imul (pc := 95) dX6_layTable_95 ?_
        refine go_aload_n (pc := 96) 0 dX6_layTable_96 rfl rfl ?_
        refine go_getfield (pc := 97) (v := vR 5) 0 6 5 dX6_layTable_97 flX6_22 rfl rfl ?_
        refine go_iload_n (pc := 100) 3 dX6_layTable_100 rfl rfl ?_
        obtain ⟨hi13, hs⟩ := chk_t hs
        refine go_iaload (pc := 101) 5 dX6_layTable_101 rfl hi13 ?_
        refine go_iadd (pc := 102) dX6_layTable_102 ?_
        refine go_lload (pc := 103) dX6_layTable_103 rfl ?_
        obtain ⟨hi14, hs⟩ := chk_t hs
        refine go_lastore (pc := 105) 7 dX6_layTable_105 rfl hi14 (show Go mX6_layTable (d + 2) false 0 0 106 [some (vR 0), none, some (vI y2), some (vI x.1), some (vL (1 : Int64)), none] [] (wM kn ne fi se ma on ot (vp_updL (vp_updL x.2 (((10 : Int32) * (on x.1.toNatClampNeg)) + (ot x.1.toNatClampNeg)).toNatClampNeg (1 : Int64)) (((10 : Int32) * (ot x.1.toNatClampNeg)) + (on x.1.toNatClampNeg)).toNatClampNeg (1 : Int64)) po ti nu mo wa nx oT cF bg ed sF qu qd tr) Q from ?_)
        refine go_iinc (pc := 106) (x.1 + (1 : Int32)) [some (vR 0), none, some (vI y2), some (vI (x.1 + (1 : Int32))), some (vL (1 : Int64)), none] dX6_layTable_106 rfl rfl (by decide) rfl ?_
        refine go_goto (pc := 109) 28 dX6_layTable_109 (by decide) ?_
        obtain rfl := Option.some.inj hs
        refine go_sub (lv' := [some (vR 0), none, some (vI y2), some (vI (x.1 + (1 : Int32))), none, none]) ⟨rfl, ⟨rfl, ⟨rfl, trivial⟩⟩⟩ ?_
        exact hI _ rfl
      · have hs := it_f h8 hs
        refine go_iload_n (pc := 42) 2 dX6_layTable_42 rfl rfl ?_
        refine go_iload_n (pc := 43) 3 dX6_layTable_43 rfl rfl ?_
        refine go_ishr (pc := 44) dX6_layTable_44 ?_
        refine go_iconst (pc := 45) (1 : Int32) dX6_layTable_45 (by decide) ?_
        refine go_iand (pc := 46) dX6_layTable_46 ?_
        refine go_iconst (pc := 47) (1 : Int32) dX6_layTable_47 (by decide) ?_
        refine go_icmp_ne (pc := 48) 57 dX6_layTable_48 (by decide) (fun h15 => ?_) (fun h15 => ?_)
        · have hs := it_f h15 hs
          refine go_lconst (pc := 57) (1 : Int64) dX6_layTable_57 (by decide) ?_
          refine go_lstore (pc := 58) [some (vR 0), none, some (vI y2), some (vI x.1), some (vL (1 : Int64)), none] dX6_layTable_58 (by decide) rfl ?_
          refine go_aload_n (pc := 60) 0 dX6_layTable_60 rfl rfl ?_
          refine go_getfield (pc := 61) (v := vR 7) 0 6 7 dX6_layTable_61 flX6_28 rfl rfl ?_
          refine go_bipush (pc := 64) (10 : Int32) dX6_layTable_64 (by decide) ?_
          refine go_aload_n (pc := 66) 0 dX6_layTable_66 rfl rfl ?_
          refine go_getfield (pc := 67) (v := vR 5) 0 6 5 dX6_layTable_67 flX6_22 rfl rfl ?_
          refine go_iload_n (pc := 70) 3 dX6_layTable_70 rfl rfl ?_
          obtain ⟨hi16, hs⟩ := chk_t hs
          refine go_iaload (pc := 71) 5 dX6_layTable_71 rfl hi16 ?_
          refine go_imul (pc := 72) dX6_layTable_72 ?_
          refine go_aload_n (pc := 73) 0 dX6_layTable_73 rfl rfl ?_
          refine go_getfield (pc := 74) (v := vR 6) 0 6 6 dX6_layTable_74 flX6_25 rfl rfl ?_
          refine go_iload_n (pc := 77) 3 dX6_layTable_77 rfl rfl ?_
          obtain ⟨hi17, hs⟩ := chk_t hs
          refine go_iaload (pc := 78) 6 dX6_layTable_78 rfl hi17 ?_
          refine go_iadd (pc := 79) dX6_layTable_79 ?_
          refine go_lload (pc := 80) dX6_layTable_80 rfl ?_
          obtain ⟨hi18, hs⟩ := chk_t hs
          refine go_lastore (pc := 82) 7 dX6_layTable_82 rfl hi18 (show Go mX6_layTable (d + 2) false 0 0 83 [some (vR 0), none, some (vI y2), some (vI x.1), some (vL (1 : Int64)), none] [] (wM kn ne fi se ma on ot (vp_updL x.2 (((10 : Int32) * (on x.1.toNatClampNeg)) + (ot x.1.toNatClampNeg)).toNatClampNeg (1 : Int64)) po ti nu mo wa nx oT cF bg ed sF qu qd tr) Q from ?_)
          refine go_aload_n (pc := 83) 0 dX6_layTable_83 rfl rfl ?_
          refine go_getfield (pc := 84) (v := vR 7) 0 6 7 dX6_layTable_84 flX6_28 rfl rfl ?_
          refine go_bipush (pc := 87) (10 : Int32) dX6_layTable_87 (by decide) ?_
          refine go_aload_n (pc := 89) 0 dX6_layTable_89 rfl rfl ?_
          refine go_getfield (pc := 90) (v := vR 6) 0 6 6 dX6_layTable_90 flX6_25 rfl rfl ?_
          refine go_iload_n (pc := 93) 3 dX6_layTable_93 rfl rfl ?_
          obtain ⟨hi19, hs⟩ := chk_t hs
          refine go_iaload (pc := 94) 6 dX6_layTable_94 rfl hi19 ?_
          refine go_imul (pc := 95) dX6_layTable_95 ?_
          refine go_aload_n (pc := 96) 0 dX6_layTable_96 rfl rfl ?_
          refine go_getfield (pc := 97) (v := vR 5) 0 6 5 dX6_layTable_97 flX6_22 rfl rfl ?_
          refine go_iload_n (pc := 100) 3 dX6_layTable_100 rfl rfl ?_
          obtain ⟨hi20, hs⟩ := chk_t hs
          refine go_iaload (pc := 101) 5 dX6_layTable_101 rfl hi20 ?_
          refine go_iadd (pc := 102) dX6_layTable_102 ?_
          refine go_lload (pc := 103) dX6_layTable_103 rfl ?_
          obtain ⟨hi21, hs⟩ := chk_t hs
          refine go_lastore (pc := 105) 7 dX6_layTable_105 rfl hi21 (show Go mX6_layTable (d + 2) false 0 0 106 [some (vR 0), none, some (vI y2), some (vI x.1), some (vL (1 : Int64)), none] [] (wM kn ne fi se ma on ot (vp_updL (vp_updL x.2 (((10 : Int32) * (on x.1.toNatClampNeg)) + (ot x.1.toNatClampNeg)).toNatClampNeg (1 : Int64)) (((10 : Int32) * (ot x.1.toNatClampNeg)) + (on x.1.toNatClampNeg)).toNatClampNeg (1 : Int64)) po ti nu mo wa nx oT cF bg ed sF qu qd tr) Q from ?_)
          refine go_iinc (pc := 106) (x.1 + (1 : Int32)) [some (vR 0), none, some (vI y2), some (vI (x.1 + (1 : Int32))), some (vL (1 : Int64)), none] dX6_layTable_106 rfl rfl (by decide) rfl ?_
          refine go_goto (pc := 109) 28 dX6_layTable_109 (by decide) ?_
          obtain rfl := Option.some.inj hs
          refine go_sub (lv' := [some (vR 0), none, some (vI y2), some (vI (x.1 + (1 : Int32))), none, none]) ⟨rfl, ⟨rfl, ⟨rfl, trivial⟩⟩⟩ ?_
          exact hI _ rfl
        · have hs := it_t h15 hs
          refine go_ldc2 (pc := 51) (-1 : Int64) dX6_layTable_51 kcX6_117 ?_
          refine go_goto (pc := 54) 58 dX6_layTable_54 (by decide) ?_
          refine go_lstore (pc := 58) [some (vR 0), none, some (vI y2), some (vI x.1), some (vL (-1 : Int64)), none] dX6_layTable_58 (by decide) rfl ?_
          refine go_aload_n (pc := 60) 0 dX6_layTable_60 rfl rfl ?_
          refine go_getfield (pc := 61) (v := vR 7) 0 6 7 dX6_layTable_61 flX6_28 rfl rfl ?_
          refine go_bipush (pc := 64) (10 : Int32) dX6_layTable_64 (by decide) ?_
          refine go_aload_n (pc := 66) 0 dX6_layTable_66 rfl rfl ?_
          refine go_getfield (pc := 67) (v := vR 5) 0 6 5 dX6_layTable_67 flX6_22 rfl rfl ?_
          refine go_iload_n (pc := 70) 3 dX6_layTable_70 rfl rfl ?_
          obtain ⟨hi22, hs⟩ := chk_t hs
          refine go_iaload (pc := 71) 5 dX6_layTable_71 rfl hi22 ?_
          refine go_imul (pc := 72) dX6_layTable_72 ?_
          refine go_aload_n (pc := 73) 0 dX6_layTable_73 rfl rfl ?_
          refine go_getfield (pc := 74) (v := vR 6) 0 6 6 dX6_layTable_74 flX6_25 rfl rfl ?_
          refine go_iload_n (pc := 77) 3 dX6_layTable_77 rfl rfl ?_
          obtain ⟨hi23, hs⟩ := chk_t hs
          refine go_iaload (pc := 78) 6 dX6_layTable_78 rfl hi23 ?_
          refine go_iadd (pc := 79) dX6_layTable_79 ?_
          refine go_lload (pc := 80) dX6_layTable_80 rfl ?_
          obtain ⟨hi24, hs⟩ := chk_t hs
          refine go_lastore (pc := 82) 7 dX6_layTable_82 rfl hi24 (show Go mX6_layTable (d + 2) false 0 0 83 [some (vR 0), none, some (vI y2), some (vI x.1), some (vL (-1 : Int64)), none] [] (wM kn ne fi se ma on ot (vp_updL x.2 (((10 : Int32) * (on x.1.toNatClampNeg)) + (ot x.1.toNatClampNeg)).toNatClampNeg (-1 : Int64)) po ti nu mo wa nx oT cF bg ed sF qu qd tr) Q from ?_)
          refine go_aload_n (pc := 83) 0 dX6_layTable_83 rfl rfl ?_
          refine go_getfield (pc := 84) (v := vR 7) 0 6 7 dX6_layTable_84 flX6_28 rfl rfl ?_
          refine go_bipush (pc := 87) (10 : Int32) dX6_layTable_87 (by decide) ?_
          refine go_aload_n (pc := 89) 0 dX6_layTable_89 rfl rfl ?_
          refine go_getfield (pc := 90) (v := vR 6) 0 6 6 dX6_layTable_90 flX6_25 rfl rfl ?_
          refine go_iload_n (pc := 93) 3 dX6_layTable_93 rfl rfl ?_
          obtain ⟨hi25, hs⟩ := chk_t hs
          refine go_iaload (pc := 94) 6 dX6_layTable_94 rfl hi25 ?_
          refine go_imul (pc := 95) dX6_layTable_95 ?_
          refine go_aload_n (pc := 96) 0 dX6_layTable_96 rfl rfl ?_
          refine go_getfield (pc := 97) (v := vR 5) 0 6 5 dX6_layTable_97 flX6_22 rfl rfl ?_
          refine go_iload_n (pc := 100) 3 dX6_layTable_100 rfl rfl ?_
          obtain ⟨hi26, hs⟩ := chk_t hs
          refine go_iaload (pc := 101) 5 dX6_layTable_101 rfl hi26 ?_
          refine go_iadd (pc := 102) dX6_layTable_102 ?_
          refine go_lload (pc := 103) dX6_layTable_103 rfl ?_
          obtain ⟨hi27, hs⟩ := chk_t hs
          refine go_lastore (pc := 105) 7 dX6_layTable_105 rfl hi27 (show Go mX6_layTable (d + 2) false 0 0 106 [some (vR 0), none, some (vI y2), some (vI x.1), some (vL (-1 : Int64)), none] [] (wM kn ne fi se ma on ot (vp_updL (vp_updL x.2 (((10 : Int32) * (on x.1.toNatClampNeg)) + (ot x.1.toNatClampNeg)).toNatClampNeg (-1 : Int64)) (((10 : Int32) * (ot x.1.toNatClampNeg)) + (on x.1.toNatClampNeg)).toNatClampNeg (-1 : Int64)) po ti nu mo wa nx oT cF bg ed sF qu qd tr) Q from ?_)
          refine go_iinc (pc := 106) (x.1 + (1 : Int32)) [some (vR 0), none, some (vI y2), some (vI (x.1 + (1 : Int32))), some (vL (-1 : Int64)), none] dX6_layTable_106 rfl rfl (by decide) rfl ?_
          refine go_goto (pc := 109) 28 dX6_layTable_109 (by decide) ?_
          obtain rfl := Option.some.inj hs
          refine go_sub (lv' := [some (vR 0), none, some (vI y2), some (vI (x.1 + (1 : Int32))), none, none]) ⟨rfl, ⟨rfl, ⟨rfl, trivial⟩⟩⟩ ?_
          exact hI _ rfl
set_option maxRecDepth 20000 in
theorem c_X6_layTable {d : Nat}  {a1 : Int32} {a2 : Int32} {res : Int32 × (Nat → Int32) × (Nat → Int32) × (Nat → Int64)} (hs : s_X6_layTable kn ne ma on ot ta a1 a2 = some res) : Calls mX6_layTable (d + 2) false 0 0 [vR 0, vI a1, vI a2] (wM kn ne fi se ma on ot ta po ti nu mo wa nx oT cF bg ed sF qu qd tr) (fun r w' => r = none ∧ w' = (wM kn ne fi se res.1 res.2.1 res.2.2.1 res.2.2.2 po ti nu mo wa nx oT cF bg ed sF qu qd tr)) := by
  unfold s_X6_layTable at hs
  refine Calls.of kX6_layTable 3 [some (vR 0), some (vI a1), some (vI a2), none, none, none] rfl (Nat.le_of_ble_eq_true rfl) ?_
  refine go_aload_n (pc := 0) 0 dX6_layTable_0 rfl rfl ?_
  refine go_iload_n (pc := 1) 1 dX6_layTable_1 rfl rfl ?_
  obtain ⟨x1, hc2, hs⟩ := bnd hs
  refine go_callV (bc := 0) (bs := 0) (mc := 0) (ms := 0) (d := d + 1) (pc := 2) (a := 0) (ci := 6) [vI a1] [] dX6_layTable_2 kX6_layLines mlX6_109 ivX6_layLines rfl rfl rfl rfl (Nat.le_of_ble_eq_true rfl) rfl (c_X6_layLines (d := d + 0) hc2) (fun r w' hq => ?_)
  obtain ⟨rfl, rfl⟩ := hq
  show Go mX6_layTable (d + 2) false 0 0 5 [some (vR 0), some (vI a1), some (vI a2), none, none, none] [] (wM kn ne fi se x1.1 x1.2.1 x1.2.2 ta po ti nu mo wa nx oT cF bg ed sF qu qd tr) _
  refine go_iconst (pc := 5) (0 : Int32) dX6_layTable_5 (by decide) ?_
  refine go_istore_n (pc := 6) 3 [some (vR 0), some (vI a1), some (vI a2), some (vI (0 : Int32)), none, none] dX6_layTable_6 rfl (by decide) rfl ?_
  refine go_sub (lv' := [some (vR 0), none, some (vI a2), some (vI (0 : Int32)), none, none]) ⟨rfl, ⟨rfl, ⟨rfl, trivial⟩⟩⟩ ?_
  obtain ⟨e5, hl6, hs⟩ := bnd hs
  refine g_X6_layTable_7 (d := d) _ e5 hl6 ?_
  refine go_iconst (pc := 26) (0 : Int32) dX6_layTable_26 (by decide) ?_
  refine go_istore_n (pc := 27) 3 [some (vR 0), none, some (vI a2), some (vI (0 : Int32)), none, none] dX6_layTable_27 rfl (by decide) rfl ?_
  obtain ⟨e28, hl29, hs⟩ := bnd hs
  refine g_X6_layTable_28 (d := d) _ e28 hl29 ?_
  obtain rfl := Option.some.inj hs
  exact go_return (st := []) (pc := 112) dX6_layTable_112 rfl (fun h => by cases h) ⟨rfl, rfl⟩
noncomputable def b_X6_layPolynomial_2  (x : Int32 × (Nat → Int64)) : Option ((Int32 × (Nat → Int64)) ⊕ ((Nat → Int64))) := if (100 : Int32) ≤ x.1 then (some (Sum.inr x.2)) else (if (x.1 / (10 : Int32)) = (x.1 - x.1 / (10 : Int32) * (10 : Int32)) then (chk x.1 100 (some (Sum.inl (x.1 + (1 : Int32), vp_updL x.2 x.1.toNatClampNeg (1 : Int64))))) else (chk x.1 100 (some (Sum.inl (x.1 + (1 : Int32), vp_updL x.2 x.1.toNatClampNeg (0 : Int64))))))
noncomputable def b_X6_layPolynomial_72 (ta : (Nat → Int64)) (po : (Nat → Int64)) (y1 : Int32) (y3 : Int32) (y4 : Int32) (x : Int64 × Int32) : Option ((Int64 × Int32) ⊕ (Int64)) := if y1 ≤ x.2 then (some (Sum.inr x.1)) else (chk (((10 : Int32) * y3) + x.2) 100 (chk (((10 : Int32) * x.2) + y4) 100 (lt' (x.1 + ((ta (((10 : Int32) * y3) + x.2).toNatClampNeg) * (po (((10 : Int32) * x.2) + y4).toNatClampNeg))) (fun z14 => some (Sum.inl (z14, x.2 + (1 : Int32)))))))
noncomputable def b_X6_layPolynomial_60 (ta : (Nat → Int64)) (po : (Nat → Int64)) (y1 : Int32) (y3 : Int32) (x : Int32 × (Nat → Int64)) : Option ((Int32 × (Nat → Int64)) ⊕ ((Nat → Int64))) := if y1 ≤ x.1 then (some (Sum.inr x.2)) else ((loop (b_X6_layPolynomial_72 ta po y1 y3 x.1) ((0 : Int64), (0 : Int32))).bind (fun e15 => chk (((10 : Int32) * y3) + x.1) 100 (some (Sum.inl (x.1 + (1 : Int32), vp_updL x.2 (((10 : Int32) * y3) + x.1).toNatClampNeg e15)))))
noncomputable def b_X6_layPolynomial_52 (ta : (Nat → Int64)) (po : (Nat → Int64)) (y1 : Int32) (x : Int32 × (Nat → Int64)) : Option ((Int32 × (Nat → Int64)) ⊕ ((Nat → Int64))) := if y1 ≤ x.1 then (some (Sum.inr x.2)) else ((loop (b_X6_layPolynomial_60 ta po y1 x.1) ((0 : Int32), x.2)).bind (fun e18 => some (Sum.inl (x.1 + (1 : Int32), e18))))
noncomputable def b_X6_layPolynomial_146 (ti : (Nat → Int64)) (y1 : Int32) (x : Int64 × Int32) : Option ((Int64 × Int32) ⊕ (Int64)) := if y1 ≤ x.2 then (some (Sum.inr x.1)) else (chk (((10 : Int32) * x.2) + x.2) 100 (some (Sum.inl (x.1 + (ti (((10 : Int32) * x.2) + x.2).toNatClampNeg), x.2 + (1 : Int32)))))
noncomputable def b_X6_layPolynomial_199 (ti : (Nat → Int64)) (nu : (Nat → Int64)) (y1 : Int32) (y2 : Int32) (y5 : Int32) (x : Int32 × (Nat → Int64)) : Option ((Int32 × (Nat → Int64)) ⊕ ((Nat → Int64))) := if y1 ≤ x.1 then (some (Sum.inr x.2)) else (chk (((10 : Int32) * y5) + x.1) 100 (if y5 = x.1 then (chk (y1 - y2) 11 (chk (((10 : Int32) * y5) + x.1) 100 (some (Sum.inl (x.1 + (1 : Int32), vp_updL x.2 (((10 : Int32) * y5) + x.1).toNatClampNeg ((ti (((10 : Int32) * y5) + x.1).toNatClampNeg) + (nu (y1 - y2).toNatClampNeg))))))) else (chk (((10 : Int32) * y5) + x.1) 100 (some (Sum.inl (x.1 + (1 : Int32), vp_updL x.2 (((10 : Int32) * y5) + x.1).toNatClampNeg ((ti (((10 : Int32) * y5) + x.1).toNatClampNeg) + (0 : Int64))))))))
noncomputable def b_X6_layPolynomial_190 (ti : (Nat → Int64)) (nu : (Nat → Int64)) (y1 : Int32) (y2 : Int32) (x : Int32 × (Nat → Int64)) : Option ((Int32 × (Nat → Int64)) ⊕ ((Nat → Int64))) := if y1 ≤ x.1 then (some (Sum.inr x.2)) else ((loop (b_X6_layPolynomial_199 ti nu y1 y2 x.1) ((0 : Int32), x.2)).bind (fun e35 => some (Sum.inl (x.1 + (1 : Int32), e35))))
noncomputable def b_X6_layPolynomial_45 (ta : (Nat → Int64)) (y1 : Int32) (x : Int32 × (Nat → Int64) × (Nat → Int64) × (Nat → Int64)) : Option ((Int32 × (Nat → Int64) × (Nat → Int64) × (Nat → Int64)) ⊕ ((Nat → Int64) × (Nat → Int64) × (Nat → Int64))) := if y1 < x.1 then (some (Sum.inr (x.2.1, x.2.2.1, x.2.2.2))) else ((loop (b_X6_layPolynomial_52 ta x.2.1 y1) ((0 : Int32), x.2.2.1)).bind (fun e20 => (loop (b_X6_layPolynomial_146 e20 y1) ((0 : Int64), (0 : Int32))).bind (fun e24 => nezL x.1.toInt64 (chk (y1 - x.1) 11 ((loop (b_X6_layPolynomial_190 e20 (vp_updL x.2.2.2 (y1 - x.1).toNatClampNeg ((-e24) / x.1.toInt64)) y1 x.1) ((0 : Int32), x.2.1)).bind (fun e37 => some (Sum.inl (x.1 + (1 : Int32), e37, e20, vp_updL x.2.2.2 (y1 - x.1).toNatClampNeg ((-e24) / x.1.toInt64)))))))))
noncomputable def s_X6_layPolynomial (ta : (Nat → Int64)) (po : (Nat → Int64)) (ti : (Nat → Int64)) (nu : (Nat → Int64)) (a1 : Int32) : Option ((Nat → Int64) × (Nat → Int64) × (Nat → Int64)) := (loop (b_X6_layPolynomial_2) ((0 : Int32), po)).bind (fun e5 => chk a1 11 ((loop (b_X6_layPolynomial_45 ta a1) ((1 : Int32), e5, ti, vp_updL nu a1.toNatClampNeg (1 : Int64))).bind (fun e39 => some (e39.1, e39.2.1, e39.2.2))))
set_option maxRecDepth 20000 in
theorem g_X6_layPolynomial_2 {d : Nat} {Q : Option AV → List AC → Prop} {y1 : Int32} (x : Int32 × (Nat → Int64)) (r : (Nat → Int64)) (hl : loop (b_X6_layPolynomial_2 ) x = some r) (hk : (fun r : (Nat → Int64) => Go mX6_layPolynomial (d + 0) false 0 0 36 [some (vR 0), some (vI y1), none, none, none, none, none, none] [] (wM kn ne fi se ma on ot ta r ti nu mo wa nx oT cF bg ed sF qu qd tr) Q) r) : (fun x : Int32 × (Nat → Int64) => Go mX6_layPolynomial (d + 0) false 0 0 2 [some (vR 0), some (vI y1), some (vI x.1), none, none, none, none, none] [] (wM kn ne fi se ma on ot ta x.2 ti nu mo wa nx oT cF bg ed sF qu qd tr) Q) x := by
  refine loop_go (P := fun x : Int32 × (Nat → Int64) => Go mX6_layPolynomial (d + 0) false 0 0 2 [some (vR 0), some (vI y1), some (vI x.1), none, none, none, none, none] [] (wM kn ne fi se ma on ot ta x.2 ti nu mo wa nx oT cF bg ed sF qu qd tr) Q) (K := fun r : (Nat → Int64) => Go mX6_layPolynomial (d + 0) false 0 0 36 [some (vR 0), some (vI y1), none, none, none, none, none, none] [] (wM kn ne fi se ma on ot ta r ti nu mo wa nx oT cF bg ed sF qu qd tr) Q) ?_ x r hl hk
  · intro x y hs hI hE
    unfold b_X6_layPolynomial_2 at hs
    show Go mX6_layPolynomial (d + 0) false 0 0 2 [some (vR 0), some (vI y1), some (vI x.1), none, none, none, none, none] [] (wM kn ne fi se ma on ot ta x.2 ti nu mo wa nx oT cF bg ed sF qu qd tr) Q
    refine go_iload_n (pc := 2) 2 dX6_layPolynomial_2 rfl rfl ?_
    refine go_bipush (pc := 3) (100 : Int32) dX6_layPolynomial_3 (by decide) ?_
    refine go_icmp_ge (pc := 5) 36 dX6_layPolynomial_5 (by decide) (fun h1 => ?_) (fun h1 => ?_)
    · have hs := it_t h1 hs
      obtain rfl := Option.some.inj hs
      refine go_sub (lv' := [some (vR 0), some (vI y1), none, none, none, none, none, none]) ⟨rfl, ⟨rfl, trivial⟩⟩ ?_
      exact hE _ rfl
    · have hs := it_f h1 hs
      refine go_aload_n (pc := 8) 0 dX6_layPolynomial_8 rfl rfl ?_
      refine go_getfield (pc := 9) (v := vR 8) 0 6 8 dX6_layPolynomial_9 flX6_32 rfl rfl ?_
      refine go_iload_n (pc := 12) 2 dX6_layPolynomial_12 rfl rfl ?_
      refine go_iload_n (pc := 13) 2 dX6_layPolynomial_13 rfl rfl ?_
      refine go_bipush (pc := 14) (10 : Int32) dX6_layPolynomial_14 (by decide) ?_
      refine go_idiv (pc := 16) dX6_layPolynomial_16 (by decide) ?_
      refine go_iload_n (pc := 17) 2 dX6_layPolynomial_17 rfl rfl ?_
      refine go_bipush (pc := 18) (10 : Int32) dX6_layPolynomial_18 (by decide) ?_
      refine go_irem (pc := 20) dX6_layPolynomial_20 (by decide) ?_
      refine go_icmp_ne (pc := 21) 28 dX6_layPolynomial_21 (by decide) (fun h2 => ?_) (fun h2 => ?_)
      · have hs := it_f h2 hs
        refine go_lconst (pc := 28) (0 : Int64) dX6_layPolynomial_28 (by decide) ?_
        obtain ⟨hi3, hs⟩ := chk_t hs
        refine go_lastore (pc := 29) 8 dX6_layPolynomial_29 rfl hi3 (show Go mX6_layPolynomial (d + 0) false 0 0 30 [some (vR 0), some (vI y1), some (vI x.1), none, none, none, none, none] [] (wM kn ne fi se ma on ot ta (vp_updL x.2 x.1.toNatClampNeg (0 : Int64)) ti nu mo wa nx oT cF bg ed sF qu qd tr) Q from ?_)
        refine go_iinc (pc := 30) (x.1 + (1 : Int32)) [some (vR 0), some (vI y1), some (vI (x.1 + (1 : Int32))), none, none, none, none, none] dX6_layPolynomial_30 rfl rfl (by decide) rfl ?_
        refine go_goto (pc := 33) 2 dX6_layPolynomial_33 (by decide) ?_
        obtain rfl := Option.some.inj hs
        exact hI _ rfl
      · have hs := it_t h2 hs
        refine go_lconst (pc := 24) (1 : Int64) dX6_layPolynomial_24 (by decide) ?_
        refine go_goto (pc := 25) 29 dX6_layPolynomial_25 (by decide) ?_
        obtain ⟨hi4, hs⟩ := chk_t hs
        refine go_lastore (pc := 29) 8 dX6_layPolynomial_29 rfl hi4 (show Go mX6_layPolynomial (d + 0) false 0 0 30 [some (vR 0), some (vI y1), some (vI x.1), none, none, none, none, none] [] (wM kn ne fi se ma on ot ta (vp_updL x.2 x.1.toNatClampNeg (1 : Int64)) ti nu mo wa nx oT cF bg ed sF qu qd tr) Q from ?_)
        refine go_iinc (pc := 30) (x.1 + (1 : Int32)) [some (vR 0), some (vI y1), some (vI (x.1 + (1 : Int32))), none, none, none, none, none] dX6_layPolynomial_30 rfl rfl (by decide) rfl ?_
        refine go_goto (pc := 33) 2 dX6_layPolynomial_33 (by decide) ?_
        obtain rfl := Option.some.inj hs
        exact hI _ rfl
set_option maxRecDepth 20000 in
theorem g_X6_layPolynomial_72 {d : Nat} {Q : Option AV → List AC → Prop} {y1 : Int32} {y2 : Int32} {y3 : Int32} {y4 : Int32} (x : Int64 × Int32) (r : Int64) (hl : loop (b_X6_layPolynomial_72 ta po y1 y3 y4) x = some r) (hk : (fun r : Int64 => Go mX6_layPolynomial (d + 0) false 0 0 115 [some (vR 0), some (vI y1), some (vI y2), some (vI y3), some (vI y4), some (vL r), none, none] [] (wM kn ne fi se ma on ot ta po ti nu mo wa nx oT cF bg ed sF qu qd tr) Q) r) : (fun x : Int64 × Int32 => Go mX6_layPolynomial (d + 0) false 0 0 72 [some (vR 0), some (vI y1), some (vI y2), some (vI y3), some (vI y4), some (vL x.1), none, some (vI x.2)] [] (wM kn ne fi se ma on ot ta po ti nu mo wa nx oT cF bg ed sF qu qd tr) Q) x := by
  refine loop_go (P := fun x : Int64 × Int32 => Go mX6_layPolynomial (d + 0) false 0 0 72 [some (vR 0), some (vI y1), some (vI y2), some (vI y3), some (vI y4), some (vL x.1), none, some (vI x.2)] [] (wM kn ne fi se ma on ot ta po ti nu mo wa nx oT cF bg ed sF qu qd tr) Q) (K := fun r : Int64 => Go mX6_layPolynomial (d + 0) false 0 0 115 [some (vR 0), some (vI y1), some (vI y2), some (vI y3), some (vI y4), some (vL r), none, none] [] (wM kn ne fi se ma on ot ta po ti nu mo wa nx oT cF bg ed sF qu qd tr) Q) ?_ x r hl hk
  · intro x y hs hI hE
    unfold b_X6_layPolynomial_72 at hs
    show Go mX6_layPolynomial (d + 0) false 0 0 72 [some (vR 0), some (vI y1), some (vI y2), some (vI y3), some (vI y4), some (vL x.1), none, some (vI x.2)] [] (wM kn ne fi se ma on ot ta po ti nu mo wa nx oT cF bg ed sF qu qd tr) Q
    refine go_iload (pc := 72) dX6_layPolynomial_72 rfl ?_
    refine go_iload_n (pc := 74) 1 dX6_layPolynomial_74 rfl rfl ?_
    refine go_icmp_ge (pc := 75) 115 dX6_layPolynomial_75 (by decide) (fun h11 => ?_) (fun h11 => ?_)
    · have hs := it_t h11 hs
      obtain rfl := Option.some.inj hs
      refine go_sub (lv' := [some (vR 0), some (vI y1), some (vI y2), some (vI y3), some (vI y4), some (vL x.1), none, none]) ⟨rfl, ⟨rfl, ⟨rfl, ⟨rfl, ⟨rfl, ⟨rfl, trivial⟩⟩⟩⟩⟩⟩ ?_
      exact hE _ rfl
    · have hs := it_f h11 hs
      refine go_lload (pc := 78) dX6_layPolynomial_78 rfl ?_
      refine go_aload_n (pc := 80) 0 dX6_layPolynomial_80 rfl rfl ?_
      refine go_getfield (pc := 81) (v := vR 7) 0 6 7 dX6_layPolynomial_81 flX6_28 rfl rfl ?_
      refine go_bipush (pc := 84) (10 : Int32) dX6_layPolynomial_84 (by decide) ?_
      refine go_iload_n (pc := 86) 3 dX6_layPolynomial_86 rfl rfl ?_
      refine go_imul (pc := 87) dX6_layPolynomial_87 ?_
      refine go_iload (pc := 88) dX6_layPolynomial_88 rfl ?_
      refine go_iadd (pc := 90) dX6_layPolynomial_90 ?_
      obtain ⟨hi12, hs⟩ := chk_t hs
      refine go_laload (pc := 91) 7 dX6_layPolynomial_91 rfl hi12 ?_
      refine go_aload_n (pc := 92) 0 dX6_layPolynomial_92 rfl rfl ?_
      refine go_getfield (pc := 93) (v := vR 8) 0 6 8 dX6_layPolynomial_93 flX6_32 rfl rfl ?_
      refine go_bipush (pc := 96) (10 : Int32) dX6_layPolynomial_96 (by decide) ?_
      refine go_iload (pc := 98) dX6_layPolynomial_98 rfl ?_
      refine go_imul (pc := 100) dX6_layPolynomial_100 ?_
      refine go_iload (pc := 101) dX6_layPolynomial_101 rfl ?_
      refine go_iadd (pc := 103) dX6_layPolynomial_103 ?_
      obtain ⟨hi13, hs⟩ := chk_t hs
      refine go_laload (pc := 104) 8 dX6_layPolynomial_104 rfl hi13 ?_
      refine go_lmul (pc := 105) dX6_layPolynomial_105 ?_
      refine go_ladd (pc := 106) dX6_layPolynomial_106 ?_
      refine go_topl (fun z14 ez14 => ?_)
      have hs := lt_t ez14 hs
      refine go_lstore (pc := 107) [some (vR 0), some (vI y1), some (vI y2), some (vI y3), some (vI y4), some (vL z14), none, some (vI x.2)] dX6_layPolynomial_107 (by decide) rfl ?_
      refine go_iinc (pc := 109) (x.2 + (1 : Int32)) [some (vR 0), some (vI y1), some (vI y2), some (vI y3), some (vI y4), some (vL z14), none, some (vI (x.2 + (1 : Int32)))] dX6_layPolynomial_109 rfl rfl (by decide) rfl ?_
      refine go_goto (pc := 112) 72 dX6_layPolynomial_112 (by decide) ?_
      obtain rfl := Option.some.inj hs
      exact hI _ rfl
set_option maxRecDepth 20000 in
theorem g_X6_layPolynomial_60 {d : Nat} {Q : Option AV → List AC → Prop} {y1 : Int32} {y2 : Int32} {y3 : Int32} (x : Int32 × (Nat → Int64)) (r : (Nat → Int64)) (hl : loop (b_X6_layPolynomial_60 ta po y1 y3) x = some r) (hk : (fun r : (Nat → Int64) => Go mX6_layPolynomial (d + 0) false 0 0 135 [some (vR 0), some (vI y1), some (vI y2), some (vI y3), none, none, none, none] [] (wM kn ne fi se ma on ot ta po r nu mo wa nx oT cF bg ed sF qu qd tr) Q) r) : (fun x : Int32 × (Nat → Int64) => Go mX6_layPolynomial (d + 0) false 0 0 60 [some (vR 0), some (vI y1), some (vI y2), some (vI y3), some (vI x.1), none, none, none] [] (wM kn ne fi se ma on ot ta po x.2 nu mo wa nx oT cF bg ed sF qu qd tr) Q) x := by
  refine loop_go (P := fun x : Int32 × (Nat → Int64) => Go mX6_layPolynomial (d + 0) false 0 0 60 [some (vR 0), some (vI y1), some (vI y2), some (vI y3), some (vI x.1), none, none, none] [] (wM kn ne fi se ma on ot ta po x.2 nu mo wa nx oT cF bg ed sF qu qd tr) Q) (K := fun r : (Nat → Int64) => Go mX6_layPolynomial (d + 0) false 0 0 135 [some (vR 0), some (vI y1), some (vI y2), some (vI y3), none, none, none, none] [] (wM kn ne fi se ma on ot ta po r nu mo wa nx oT cF bg ed sF qu qd tr) Q) ?_ x r hl hk
  · intro x y hs hI hE
    unfold b_X6_layPolynomial_60 at hs
    show Go mX6_layPolynomial (d + 0) false 0 0 60 [some (vR 0), some (vI y1), some (vI y2), some (vI y3), some (vI x.1), none, none, none] [] (wM kn ne fi se ma on ot ta po x.2 nu mo wa nx oT cF bg ed sF qu qd tr) Q
    refine go_iload (pc := 60) dX6_layPolynomial_60 rfl ?_
    refine go_iload_n (pc := 62) 1 dX6_layPolynomial_62 rfl rfl ?_
    refine go_icmp_ge (pc := 63) 135 dX6_layPolynomial_63 (by decide) (fun h10 => ?_) (fun h10 => ?_)
    · have hs := it_t h10 hs
      obtain rfl := Option.some.inj hs
      refine go_sub (lv' := [some (vR 0), some (vI y1), some (vI y2), some (vI y3), none, none, none, none]) ⟨rfl, ⟨rfl, ⟨rfl, ⟨rfl, trivial⟩⟩⟩⟩ ?_
      exact hE _ rfl
    · have hs := it_f h10 hs
      refine go_lconst (pc := 66) (0 : Int64) dX6_layPolynomial_66 (by decide) ?_
      refine go_lstore (pc := 67) [some (vR 0), some (vI y1), some (vI y2), some (vI y3), some (vI x.1), some (vL (0 : Int64)), none, none] dX6_layPolynomial_67 (by decide) rfl ?_
      refine go_iconst (pc := 69) (0 : Int32) dX6_layPolynomial_69 (by decide) ?_
      refine go_istore (pc := 70) [some (vR 0), some (vI y1), some (vI y2), some (vI y3), some (vI x.1), some (vL (0 : Int64)), none, some (vI (0 : Int32))] dX6_layPolynomial_70 (by decide) rfl ?_
      obtain ⟨e15, hl16, hs⟩ := bnd hs
      refine g_X6_layPolynomial_72 (d := d) _ e15 hl16 ?_
      refine go_aload_n (pc := 115) 0 dX6_layPolynomial_115 rfl rfl ?_
      refine go_getfield (pc := 116) (v := vR 9) 0 6 9 dX6_layPolynomial_116 flX6_35 rfl rfl ?_
      refine go_bipush (pc := 119) (10 : Int32) dX6_layPolynomial_119 (by decide) ?_
      refine go_iload_n (pc := 121) 3 dX6_layPolynomial_121 rfl rfl ?_
      refine go_imul (pc := 122) dX6_layPolynomial_122 ?_
      refine go_iload (pc := 123) dX6_layPolynomial_123 rfl ?_
      refine go_iadd (pc := 125) dX6_layPolynomial_125 ?_
      refine go_lload (pc := 126) dX6_layPolynomial_126 rfl ?_
      obtain ⟨hi17, hs⟩ := chk_t hs
      refine go_lastore (pc := 128) 9 dX6_layPolynomial_128 rfl hi17 (show Go mX6_layPolynomial (d + 0) false 0 0 129 [some (vR 0), some (vI y1), some (vI y2), some (vI y3), some (vI x.1), some (vL e15), none, none] [] (wM kn ne fi se ma on ot ta po (vp_updL x.2 (((10 : Int32) * y3) + x.1).toNatClampNeg e15) nu mo wa nx oT cF bg ed sF qu qd tr) Q from ?_)
      refine go_iinc (pc := 129) (x.1 + (1 : Int32)) [some (vR 0), some (vI y1), some (vI y2), some (vI y3), some (vI (x.1 + (1 : Int32))), some (vL e15), none, none] dX6_layPolynomial_129 rfl rfl (by decide) rfl ?_
      refine go_goto (pc := 132) 60 dX6_layPolynomial_132 (by decide) ?_
      obtain rfl := Option.some.inj hs
      refine go_sub (lv' := [some (vR 0), some (vI y1), some (vI y2), some (vI y3), some (vI (x.1 + (1 : Int32))), none, none, none]) ⟨rfl, ⟨rfl, ⟨rfl, ⟨rfl, ⟨rfl, trivial⟩⟩⟩⟩⟩ ?_
      exact hI _ rfl
set_option maxRecDepth 20000 in
theorem g_X6_layPolynomial_52 {d : Nat} {Q : Option AV → List AC → Prop} {y1 : Int32} {y2 : Int32} (x : Int32 × (Nat → Int64)) (r : (Nat → Int64)) (hl : loop (b_X6_layPolynomial_52 ta po y1) x = some r) (hk : (fun r : (Nat → Int64) => Go mX6_layPolynomial (d + 0) false 0 0 141 [some (vR 0), some (vI y1), some (vI y2), none, none, none, none, none] [] (wM kn ne fi se ma on ot ta po r nu mo wa nx oT cF bg ed sF qu qd tr) Q) r) : (fun x : Int32 × (Nat → Int64) => Go mX6_layPolynomial (d + 0) false 0 0 52 [some (vR 0), some (vI y1), some (vI y2), some (vI x.1), none, none, none, none] [] (wM kn ne fi se ma on ot ta po x.2 nu mo wa nx oT cF bg ed sF qu qd tr) Q) x := by
  refine loop_go (P := fun x : Int32 × (Nat → Int64) => Go mX6_layPolynomial (d + 0) false 0 0 52 [some (vR 0), some (vI y1), some (vI y2), some (vI x.1), none, none, none, none] [] (wM kn ne fi se ma on ot ta po x.2 nu mo wa nx oT cF bg ed sF qu qd tr) Q) (K := fun r : (Nat → Int64) => Go mX6_layPolynomial (d + 0) false 0 0 141 [some (vR 0), some (vI y1), some (vI y2), none, none, none, none, none] [] (wM kn ne fi se ma on ot ta po r nu mo wa nx oT cF bg ed sF qu qd tr) Q) ?_ x r hl hk
  · intro x y hs hI hE
    unfold b_X6_layPolynomial_52 at hs
    show Go mX6_layPolynomial (d + 0) false 0 0 52 [some (vR 0), some (vI y1), some (vI y2), some (vI x.1), none, none, none, none] [] (wM kn ne fi se ma on ot ta po x.2 nu mo wa nx oT cF bg ed sF qu qd tr) Q
    refine go_iload_n (pc := 52) 3 dX6_layPolynomial_52 rfl rfl ?_
    refine go_iload_n (pc := 53) 1 dX6_layPolynomial_53 rfl rfl ?_
    refine go_icmp_ge (pc := 54) 141 dX6_layPolynomial_54 (by decide) (fun h9 => ?_) (fun h9 => ?_)
    · have hs := it_t h9 hs
      obtain rfl := Option.some.inj hs
      refine go_sub (lv' := [some (vR 0), some (vI y1), some (vI y2), none, none, none, none, none]) ⟨rfl, ⟨rfl, ⟨rfl, trivial⟩⟩⟩ ?_
      exact hE _ rfl
    · have hs := it_f h9 hs
      refine go_iconst (pc := 57) (0 : Int32) dX6_layPolynomial_57 (by decide) ?_
      refine go_istore (pc := 58) [some (vR 0), some (vI y1), some (vI y2), some (vI x.1), some (vI (0 : Int32)), none, none, none] dX6_layPolynomial_58 (by decide) rfl ?_
      obtain ⟨e18, hl19, hs⟩ := bnd hs
      refine g_X6_layPolynomial_60 (d := d) _ e18 hl19 ?_
      refine go_iinc (pc := 135) (x.1 + (1 : Int32)) [some (vR 0), some (vI y1), some (vI y2), some (vI (x.1 + (1 : Int32))), none, none, none, none] dX6_layPolynomial_135 rfl rfl (by decide) rfl ?_
      refine go_goto (pc := 138) 52 dX6_layPolynomial_138 (by decide) ?_
      obtain rfl := Option.some.inj hs
      exact hI _ rfl
set_option maxRecDepth 20000 in
theorem g_X6_layPolynomial_146 {d : Nat} {Q : Option AV → List AC → Prop} {y1 : Int32} {y2 : Int32} (x : Int64 × Int32) (r : Int64) (hl : loop (b_X6_layPolynomial_146 ti y1) x = some r) (hk : (fun r : Int64 => Go mX6_layPolynomial (d + 0) false 0 0 174 [some (vR 0), some (vI y1), some (vI y2), some (vL r), none, none, none, none] [] (wM kn ne fi se ma on ot ta po ti nu mo wa nx oT cF bg ed sF qu qd tr) Q) r) : (fun x : Int64 × Int32 => Go mX6_layPolynomial (d + 0) false 0 0 146 [some (vR 0), some (vI y1), some (vI y2), some (vL x.1), none, some (vI x.2), none, none] [] (wM kn ne fi se ma on ot ta po ti nu mo wa nx oT cF bg ed sF qu qd tr) Q) x := by
  refine loop_go (P := fun x : Int64 × Int32 => Go mX6_layPolynomial (d + 0) false 0 0 146 [some (vR 0), some (vI y1), some (vI y2), some (vL x.1), none, some (vI x.2), none, none] [] (wM kn ne fi se ma on ot ta po ti nu mo wa nx oT cF bg ed sF qu qd tr) Q) (K := fun r : Int64 => Go mX6_layPolynomial (d + 0) false 0 0 174 [some (vR 0), some (vI y1), some (vI y2), some (vL r), none, none, none, none] [] (wM kn ne fi se ma on ot ta po ti nu mo wa nx oT cF bg ed sF qu qd tr) Q) ?_ x r hl hk
  · intro x y hs hI hE
    unfold b_X6_layPolynomial_146 at hs
    show Go mX6_layPolynomial (d + 0) false 0 0 146 [some (vR 0), some (vI y1), some (vI y2), some (vL x.1), none, some (vI x.2), none, none] [] (wM kn ne fi se ma on ot ta po ti nu mo wa nx oT cF bg ed sF qu qd tr) Q
    refine go_iload (pc := 146) dX6_layPolynomial_146 rfl ?_
    refine go_iload_n (pc := 148) 1 dX6_layPolynomial_148 rfl rfl ?_
    refine go_icmp_ge (pc := 149) 174 dX6_layPolynomial_149 (by decide) (fun h22 => ?_) (fun h22 => ?_)
    · have hs := it_t h22 hs
      obtain rfl := Option.some.inj hs
      refine go_sub (lv' := [some (vR 0), some (vI y1), some (vI y2), some (vL x.1), none, none, none, none]) ⟨rfl, ⟨rfl, ⟨rfl, ⟨rfl, trivial⟩⟩⟩⟩ ?_
      exact hE _ rfl
    · have hs := it_f h22 hs
      refine go_lload_n (pc := 152) 3 dX6_layPolynomial_152 rfl rfl ?_
      refine go_aload_n (pc := 153) 0 dX6_layPolynomial_153 rfl rfl ?_
      refine go_getfield (pc := 154) (v := vR 9) 0 6 9 dX6_layPolynomial_154 flX6_35 rfl rfl ?_
      refine go_bipush (pc := 157) (10 : Int32) dX6_layPolynomial_157 (by decide) ?_
      refine go_iload (pc := 159) dX6_layPolynomial_159 rfl ?_
      refine go_imul (pc := 161) dX6_layPolynomial_161 ?_
      refine go_iload (pc := 162) dX6_layPolynomial_162 rfl ?_
      refine go_iadd (pc := 164) dX6_layPolynomial_164 ?_
      obtain ⟨hi23, hs⟩ := chk_t hs
      refine go_laload (pc := 165) 9 dX6_layPolynomial_165 rfl hi23 ?_
      refine go_ladd (pc := 166) dX6_layPolynomial_166 ?_
      refine go_lstore_n (pc := 167) 3 [some (vR 0), some (vI y1), some (vI y2), some (vL (x.1 + (ti (((10 : Int32) * x.2) + x.2).toNatClampNeg))), none, some (vI x.2), none, none] dX6_layPolynomial_167 rfl (by decide) rfl ?_
      refine go_iinc (pc := 168) (x.2 + (1 : Int32)) [some (vR 0), some (vI y1), some (vI y2), some (vL (x.1 + (ti (((10 : Int32) * x.2) + x.2).toNatClampNeg))), none, some (vI (x.2 + (1 : Int32))), none, none] dX6_layPolynomial_168 rfl rfl (by decide) rfl ?_
      refine go_goto (pc := 171) 146 dX6_layPolynomial_171 (by decide) ?_
      obtain rfl := Option.some.inj hs
      exact hI _ rfl
set_option maxRecDepth 20000 in
theorem g_X6_layPolynomial_199 {d : Nat} {Q : Option AV → List AC → Prop} {y1 : Int32} {y2 : Int32} {y5 : Int32} (x : Int32 × (Nat → Int64)) (r : (Nat → Int64)) (hl : loop (b_X6_layPolynomial_199 ti nu y1 y2 y5) x = some r) (hk : (fun r : (Nat → Int64) => Go mX6_layPolynomial (d + 0) false 0 0 257 [some (vR 0), some (vI y1), some (vI y2), none, none, some (vI y5), none, none] [] (wM kn ne fi se ma on ot ta r ti nu mo wa nx oT cF bg ed sF qu qd tr) Q) r) : (fun x : Int32 × (Nat → Int64) => Go mX6_layPolynomial (d + 0) false 0 0 199 [some (vR 0), some (vI y1), some (vI y2), none, none, some (vI y5), some (vI x.1), none] [] (wM kn ne fi se ma on ot ta x.2 ti nu mo wa nx oT cF bg ed sF qu qd tr) Q) x := by
  refine loop_go (P := fun x : Int32 × (Nat → Int64) => Go mX6_layPolynomial (d + 0) false 0 0 199 [some (vR 0), some (vI y1), some (vI y2), none, none, some (vI y5), some (vI x.1), none] [] (wM kn ne fi se ma on ot ta x.2 ti nu mo wa nx oT cF bg ed sF qu qd tr) Q) (K := fun r : (Nat → Int64) => Go mX6_layPolynomial (d + 0) false 0 0 257 [some (vR 0), some (vI y1), some (vI y2), none, none, some (vI y5), none, none] [] (wM kn ne fi se ma on ot ta r ti nu mo wa nx oT cF bg ed sF qu qd tr) Q) ?_ x r hl hk
  · intro x y hs hI hE
    unfold b_X6_layPolynomial_199 at hs
    show Go mX6_layPolynomial (d + 0) false 0 0 199 [some (vR 0), some (vI y1), some (vI y2), none, none, some (vI y5), some (vI x.1), none] [] (wM kn ne fi se ma on ot ta x.2 ti nu mo wa nx oT cF bg ed sF qu qd tr) Q
    refine go_iload (pc := 199) dX6_layPolynomial_199 rfl ?_
    refine go_iload_n (pc := 201) 1 dX6_layPolynomial_201 rfl rfl ?_
    refine go_icmp_ge (pc := 202) 257 dX6_layPolynomial_202 (by decide) (fun h29 => ?_) (fun h29 => ?_)
    · have hs := it_t h29 hs
      obtain rfl := Option.some.inj hs
      refine go_sub (lv' := [some (vR 0), some (vI y1), some (vI y2), none, none, some (vI y5), none, none]) ⟨rfl, ⟨rfl, ⟨rfl, ⟨rfl, trivial⟩⟩⟩⟩ ?_
      exact hE _ rfl
    · have hs := it_f h29 hs
      refine go_aload_n (pc := 205) 0 dX6_layPolynomial_205 rfl rfl ?_
      refine go_getfield (pc := 206) (v := vR 8) 0 6 8 dX6_layPolynomial_206 flX6_32 rfl rfl ?_
      refine go_bipush (pc := 209) (10 : Int32) dX6_layPolynomial_209 (by decide) ?_
      refine go_iload (pc := 211) dX6_layPolynomial_211 rfl ?_
      refine go_imul (pc := 213) dX6_layPolynomial_213 ?_
      refine go_iload (pc := 214) dX6_layPolynomial_214 rfl ?_
      refine go_iadd (pc := 216) dX6_layPolynomial_216 ?_
      refine go_aload_n (pc := 217) 0 dX6_layPolynomial_217 rfl rfl ?_
      refine go_getfield (pc := 218) (v := vR 9) 0 6 9 dX6_layPolynomial_218 flX6_35 rfl rfl ?_
      refine go_bipush (pc := 221) (10 : Int32) dX6_layPolynomial_221 (by decide) ?_
      refine go_iload (pc := 223) dX6_layPolynomial_223 rfl ?_
      refine go_imul (pc := 225) dX6_layPolynomial_225 ?_
      refine go_iload (pc := 226) dX6_layPolynomial_226 rfl ?_
      refine go_iadd (pc := 228) dX6_layPolynomial_228 ?_
      obtain ⟨hi30, hs⟩ := chk_t hs
      refine go_laload (pc := 229) 9 dX6_layPolynomial_229 rfl hi30 ?_
      refine go_iload (pc := 230) dX6_layPolynomial_230 rfl ?_
      refine go_iload (pc := 232) dX6_layPolynomial_232 rfl ?_
      refine go_icmp_ne (pc := 234) 248 dX6_layPolynomial_234 (by decide) (fun h31 => ?_) (fun h31 => ?_)
      · have hs := it_f h31 hs
        refine go_lconst (pc := 248) (0 : Int64) dX6_layPolynomial_248 (by decide) ?_
        refine go_ladd (pc := 249) dX6_layPolynomial_249 ?_
        obtain ⟨hi32, hs⟩ := chk_t hs
        refine go_lastore (pc := 250) 8 dX6_layPolynomial_250 rfl hi32 (show Go mX6_layPolynomial (d + 0) false 0 0 251 [some (vR 0), some (vI y1), some (vI y2), none, none, some (vI y5), some (vI x.1), none] [] (wM kn ne fi se ma on ot ta (vp_updL x.2 (((10 : Int32) * y5) + x.1).toNatClampNeg ((ti (((10 : Int32) * y5) + x.1).toNatClampNeg) + (0 : Int64))) ti nu mo wa nx oT cF bg ed sF qu qd tr) Q from ?_)
        refine go_iinc (pc := 251) (x.1 + (1 : Int32)) [some (vR 0), some (vI y1), some (vI y2), none, none, some (vI y5), some (vI (x.1 + (1 : Int32))), none] dX6_layPolynomial_251 rfl rfl (by decide) rfl ?_
        refine go_goto (pc := 254) 199 dX6_layPolynomial_254 (by decide) ?_
        obtain rfl := Option.some.inj hs
        exact hI _ rfl
      · have hs := it_t h31 hs
        refine go_aload_n (pc := 237) 0 dX6_layPolynomial_237 rfl rfl ?_
        refine go_getfield (pc := 238) (v := vR 10) 0 6 10 dX6_layPolynomial_238 flX6_38 rfl rfl ?_
        refine go_iload_n (pc := 241) 1 dX6_layPolynomial_241 rfl rfl ?_
        refine go_iload_n (pc := 242) 2 dX6_layPolynomial_242 rfl rfl ?_
        refine go_isub (pc := 243) dX6_layPolynomial_243 ?_
        obtain ⟨hi33, hs⟩ := chk_t hs
        refine go_laload (pc := 244) 10 dX6_layPolynomial_244 rfl hi33 ?_
        refine go_goto (pc := 245) 249 dX6_layPolynomial_245 (by decide) ?_
        refine go_ladd (pc := 249) dX6_layPolynomial_249 ?_
        obtain ⟨hi34, hs⟩ := chk_t hs
        refine go_lastore (pc := 250) 8 dX6_layPolynomial_250 rfl hi34 (show Go mX6_layPolynomial (d + 0) false 0 0 251 [some (vR 0), some (vI y1), some (vI y2), none, none, some (vI y5), some (vI x.1), none] [] (wM kn ne fi se ma on ot ta (vp_updL x.2 (((10 : Int32) * y5) + x.1).toNatClampNeg ((ti (((10 : Int32) * y5) + x.1).toNatClampNeg) + (nu (y1 - y2).toNatClampNeg))) ti nu mo wa nx oT cF bg ed sF qu qd tr) Q from ?_)
        refine go_iinc (pc := 251) (x.1 + (1 : Int32)) [some (vR 0), some (vI y1), some (vI y2), none, none, some (vI y5), some (vI (x.1 + (1 : Int32))), none] dX6_layPolynomial_251 rfl rfl (by decide) rfl ?_
        refine go_goto (pc := 254) 199 dX6_layPolynomial_254 (by decide) ?_
        obtain rfl := Option.some.inj hs
        exact hI _ rfl
set_option maxRecDepth 20000 in
theorem g_X6_layPolynomial_190 {d : Nat} {Q : Option AV → List AC → Prop} {y1 : Int32} {y2 : Int32} (x : Int32 × (Nat → Int64)) (r : (Nat → Int64)) (hl : loop (b_X6_layPolynomial_190 ti nu y1 y2) x = some r) (hk : (fun r : (Nat → Int64) => Go mX6_layPolynomial (d + 0) false 0 0 263 [some (vR 0), some (vI y1), some (vI y2), none, none, none, none, none] [] (wM kn ne fi se ma on ot ta r ti nu mo wa nx oT cF bg ed sF qu qd tr) Q) r) : (fun x : Int32 × (Nat → Int64) => Go mX6_layPolynomial (d + 0) false 0 0 190 [some (vR 0), some (vI y1), some (vI y2), none, none, some (vI x.1), none, none] [] (wM kn ne fi se ma on ot ta x.2 ti nu mo wa nx oT cF bg ed sF qu qd tr) Q) x := by
  refine loop_go (P := fun x : Int32 × (Nat → Int64) => Go mX6_layPolynomial (d + 0) false 0 0 190 [some (vR 0), some (vI y1), some (vI y2), none, none, some (vI x.1), none, none] [] (wM kn ne fi se ma on ot ta x.2 ti nu mo wa nx oT cF bg ed sF qu qd tr) Q) (K := fun r : (Nat → Int64) => Go mX6_layPolynomial (d + 0) false 0 0 263 [some (vR 0), some (vI y1), some (vI y2), none, none, none, none, none] [] (wM kn ne fi se ma on ot ta r ti nu mo wa nx oT cF bg ed sF qu qd tr) Q) ?_ x r hl hk
  · intro x y hs hI hE
    unfold b_X6_layPolynomial_190 at hs
    show Go mX6_layPolynomial (d + 0) false 0 0 190 [some (vR 0), some (vI y1), some (vI y2), none, none, some (vI x.1), none, none] [] (wM kn ne fi se ma on ot ta x.2 ti nu mo wa nx oT cF bg ed sF qu qd tr) Q
    refine go_iload (pc := 190) dX6_layPolynomial_190 rfl ?_
    refine go_iload_n (pc := 192) 1 dX6_layPolynomial_192 rfl rfl ?_
    refine go_icmp_ge (pc := 193) 263 dX6_layPolynomial_193 (by decide) (fun h28 => ?_) (fun h28 => ?_)
    · have hs := it_t h28 hs
      obtain rfl := Option.some.inj hs
      refine go_sub (lv' := [some (vR 0), some (vI y1), some (vI y2), none, none, none, none, none]) ⟨rfl, ⟨rfl, ⟨rfl, trivial⟩⟩⟩ ?_
      exact hE _ rfl
    · have hs := it_f h28 hs
      refine go_iconst (pc := 196) (0 : Int32) dX6_layPolynomial_196 (by decide) ?_
      refine go_istore (pc := 197) [some (vR 0), some (vI y1), some (vI y2), none, none, some (vI x.1), some (vI (0 : Int32)), none] dX6_layPolynomial_197 (by decide) rfl ?_
      obtain ⟨e35, hl36, hs⟩ := bnd hs
      refine g_X6_layPolynomial_199 (d := d) _ e35 hl36 ?_
      refine go_iinc (pc := 257) (x.1 + (1 : Int32)) [some (vR 0), some (vI y1), some (vI y2), none, none, some (vI (x.1 + (1 : Int32))), none, none] dX6_layPolynomial_257 rfl rfl (by decide) rfl ?_
      refine go_goto (pc := 260) 190 dX6_layPolynomial_260 (by decide) ?_
      obtain rfl := Option.some.inj hs
      exact hI _ rfl
set_option maxRecDepth 20000 in
theorem g_X6_layPolynomial_45 {d : Nat} {Q : Option AV → List AC → Prop} {y1 : Int32} (x : Int32 × (Nat → Int64) × (Nat → Int64) × (Nat → Int64)) (r : (Nat → Int64) × (Nat → Int64) × (Nat → Int64)) (hl : loop (b_X6_layPolynomial_45 ta y1) x = some r) (hk : (fun r : (Nat → Int64) × (Nat → Int64) × (Nat → Int64) => Go mX6_layPolynomial (d + 0) false 0 0 269 [none, none, none, none, none, none, none, none] [] (wM kn ne fi se ma on ot ta r.1 r.2.1 r.2.2 mo wa nx oT cF bg ed sF qu qd tr) Q) r) : (fun x : Int32 × (Nat → Int64) × (Nat → Int64) × (Nat → Int64) => Go mX6_layPolynomial (d + 0) false 0 0 45 [some (vR 0), some (vI y1), some (vI x.1), none, none, none, none, none] [] (wM kn ne fi se ma on ot ta x.2.1 x.2.2.1 x.2.2.2 mo wa nx oT cF bg ed sF qu qd tr) Q) x := by
  refine loop_go (P := fun x : Int32 × (Nat → Int64) × (Nat → Int64) × (Nat → Int64) => Go mX6_layPolynomial (d + 0) false 0 0 45 [some (vR 0), some (vI y1), some (vI x.1), none, none, none, none, none] [] (wM kn ne fi se ma on ot ta x.2.1 x.2.2.1 x.2.2.2 mo wa nx oT cF bg ed sF qu qd tr) Q) (K := fun r : (Nat → Int64) × (Nat → Int64) × (Nat → Int64) => Go mX6_layPolynomial (d + 0) false 0 0 269 [none, none, none, none, none, none, none, none] [] (wM kn ne fi se ma on ot ta r.1 r.2.1 r.2.2 mo wa nx oT cF bg ed sF qu qd tr) Q) ?_ x r hl hk
  · intro x y hs hI hE
    unfold b_X6_layPolynomial_45 at hs
    show Go mX6_layPolynomial (d + 0) false 0 0 45 [some (vR 0), some (vI y1), some (vI x.1), none, none, none, none, none] [] (wM kn ne fi se ma on ot ta x.2.1 x.2.2.1 x.2.2.2 mo wa nx oT cF bg ed sF qu qd tr) Q
    refine go_iload_n (pc := 45) 2 dX6_layPolynomial_45 rfl rfl ?_
    refine go_iload_n (pc := 46) 1 dX6_layPolynomial_46 rfl rfl ?_
    refine go_icmp_gt (pc := 47) 269 dX6_layPolynomial_47 (by decide) (fun h8 => ?_) (fun h8 => ?_)
    · have hs := it_t h8 hs
      obtain rfl := Option.some.inj hs
      refine go_sub (lv' := [none, none, none, none, none, none, none, none]) trivial ?_
      exact hE _ rfl
    · have hs := it_f h8 hs
      refine go_iconst (pc := 50) (0 : Int32) dX6_layPolynomial_50 (by decide) ?_
      refine go_istore_n (pc := 51) 3 [some (vR 0), some (vI y1), some (vI x.1), some (vI (0 : Int32)), none, none, none, none] dX6_layPolynomial_51 rfl (by decide) rfl ?_
      obtain ⟨e20, hl21, hs⟩ := bnd hs
      refine g_X6_layPolynomial_52 (d := d) _ e20 hl21 ?_
      refine go_lconst (pc := 141) (0 : Int64) dX6_layPolynomial_141 (by decide) ?_
      refine go_lstore_n (pc := 142) 3 [some (vR 0), some (vI y1), some (vI x.1), some (vL (0 : Int64)), none, none, none, none] dX6_layPolynomial_142 rfl (by decide) rfl ?_
      refine go_iconst (pc := 143) (0 : Int32) dX6_layPolynomial_143 (by decide) ?_
      refine go_istore (pc := 144) [some (vR 0), some (vI y1), some (vI x.1), some (vL (0 : Int64)), none, some (vI (0 : Int32)), none, none] dX6_layPolynomial_144 (by decide) rfl ?_
      obtain ⟨e24, hl25, hs⟩ := bnd hs
      refine g_X6_layPolynomial_146 (d := d) _ e24 hl25 ?_
      refine go_aload_n (pc := 174) 0 dX6_layPolynomial_174 rfl rfl ?_
      refine go_getfield (pc := 175) (v := vR 10) 0 6 10 dX6_layPolynomial_175 flX6_38 rfl rfl ?_
      refine go_iload_n (pc := 178) 1 dX6_layPolynomial_178 rfl rfl ?_
      refine go_iload_n (pc := 179) 2 dX6_layPolynomial_179 rfl rfl ?_
      refine go_isub (pc := 180) dX6_layPolynomial_180 ?_
      refine go_lload_n (pc := 181) 3 dX6_layPolynomial_181 rfl rfl ?_
      refine go_lneg (pc := 182) dX6_layPolynomial_182 ?_
      refine go_iload_n (pc := 183) 2 dX6_layPolynomial_183 rfl rfl ?_
      refine go_i2l (pc := 184) dX6_layPolynomial_184 ?_
      obtain ⟨hn26, hs⟩ := nezL_t hs
      refine go_ldiv (pc := 185) dX6_layPolynomial_185 hn26 ?_
      obtain ⟨hi27, hs⟩ := chk_t hs
      refine go_lastore (pc := 186) 10 dX6_layPolynomial_186 rfl hi27 (show Go mX6_layPolynomial (d + 0) false 0 0 187 [some (vR 0), some (vI y1), some (vI x.1), some (vL e24), none, none, none, none] [] (wM kn ne fi se ma on ot ta x.2.1 e20 (vp_updL x.2.2.2 (y1 - x.1).toNatClampNeg ((-e24) / x.1.toInt64)) mo wa nx oT cF bg ed sF qu qd tr) Q from ?_)
      refine go_iconst (pc := 187) (0 : Int32) dX6_layPolynomial_187 (by decide) ?_
      refine go_istore (pc := 188) [some (vR 0), some (vI y1), some (vI x.1), some (vL e24), none, some (vI (0 : Int32)), none, none] dX6_layPolynomial_188 (by decide) rfl ?_
      refine go_sub (lv' := [some (vR 0), some (vI y1), some (vI x.1), none, none, some (vI (0 : Int32)), none, none]) ⟨rfl, ⟨rfl, ⟨rfl, ⟨rfl, trivial⟩⟩⟩⟩ ?_
      obtain ⟨e37, hl38, hs⟩ := bnd hs
      refine g_X6_layPolynomial_190 (d := d) _ e37 hl38 ?_
      refine go_iinc (pc := 263) (x.1 + (1 : Int32)) [some (vR 0), some (vI y1), some (vI (x.1 + (1 : Int32))), none, none, none, none, none] dX6_layPolynomial_263 rfl rfl (by decide) rfl ?_
      refine go_goto (pc := 266) 45 dX6_layPolynomial_266 (by decide) ?_
      obtain rfl := Option.some.inj hs
      exact hI _ rfl
set_option maxRecDepth 20000 in
theorem c_X6_layPolynomial {d : Nat}  {a1 : Int32} {res : (Nat → Int64) × (Nat → Int64) × (Nat → Int64)} (hs : s_X6_layPolynomial ta po ti nu a1 = some res) : Calls mX6_layPolynomial (d + 0) false 0 0 [vR 0, vI a1] (wM kn ne fi se ma on ot ta po ti nu mo wa nx oT cF bg ed sF qu qd tr) (fun r w' => r = none ∧ w' = (wM kn ne fi se ma on ot ta res.1 res.2.1 res.2.2 mo wa nx oT cF bg ed sF qu qd tr)) := by
  unfold s_X6_layPolynomial at hs
  refine Calls.of kX6_layPolynomial 6 [some (vR 0), some (vI a1), none, none, none, none, none, none] rfl (Nat.le_of_ble_eq_true rfl) ?_
  refine go_iconst (pc := 0) (0 : Int32) dX6_layPolynomial_0 (by decide) ?_
  refine go_istore_n (pc := 1) 2 [some (vR 0), some (vI a1), some (vI (0 : Int32)), none, none, none, none, none] dX6_layPolynomial_1 rfl (by decide) rfl ?_
  obtain ⟨e5, hl6, hs⟩ := bnd hs
  refine g_X6_layPolynomial_2 (d := d) _ e5 hl6 ?_
  refine go_aload_n (pc := 36) 0 dX6_layPolynomial_36 rfl rfl ?_
  refine go_getfield (pc := 37) (v := vR 10) 0 6 10 dX6_layPolynomial_37 flX6_38 rfl rfl ?_
  refine go_iload_n (pc := 40) 1 dX6_layPolynomial_40 rfl rfl ?_
  refine go_lconst (pc := 41) (1 : Int64) dX6_layPolynomial_41 (by decide) ?_
  obtain ⟨hi7, hs⟩ := chk_t hs
  refine go_lastore (pc := 42) 10 dX6_layPolynomial_42 rfl hi7 (show Go mX6_layPolynomial (d + 0) false 0 0 43 [some (vR 0), some (vI a1), none, none, none, none, none, none] [] (wM kn ne fi se ma on ot ta e5 ti (vp_updL nu a1.toNatClampNeg (1 : Int64)) mo wa nx oT cF bg ed sF qu qd tr) _ from ?_)
  refine go_iconst (pc := 43) (1 : Int32) dX6_layPolynomial_43 (by decide) ?_
  refine go_istore_n (pc := 44) 2 [some (vR 0), some (vI a1), some (vI (1 : Int32)), none, none, none, none, none] dX6_layPolynomial_44 rfl (by decide) rfl ?_
  obtain ⟨e39, hl40, hs⟩ := bnd hs
  refine g_X6_layPolynomial_45 (d := d) _ e39 hl40 ?_
  obtain rfl := Option.some.inj hs
  exact go_return (st := []) (pc := 269) dX6_layPolynomial_269 rfl (fun h => by cases h) ⟨rfl, rfl⟩
noncomputable def b_X6_move_2 (y1 : Int32) (x : Int32 × (Nat → Int64)) : Option ((Int32 × (Nat → Int64)) ⊕ ((Nat → Int64))) := if y1 < x.1 then (some (Sum.inr x.2)) else (chk x.1 11 (some (Sum.inl (x.1 + (1 : Int32), vp_updL x.2 x.1.toNatClampNeg (0 : Int64)))))
noncomputable def b_X6_move_33 (y2 : Int32) (x : Int32 × (Nat → Int64)) : Option ((Int32 × (Nat → Int64)) ⊕ ((Nat → Int64))) := if x.1 < 0 then (some (Sum.inr x.2)) else (chk x.1 11 (if x.1 ≤ 0 then (chk x.1 11 (some (Sum.inl (x.1 + (-1 : Int32), vp_updL x.2 x.1.toNatClampNeg (((x.2 x.1.toNatClampNeg) * y2.toInt64) + (0 : Int64)))))) else (chk (x.1 - (1 : Int32)) 11 (chk x.1 11 (some (Sum.inl (x.1 + (-1 : Int32), vp_updL x.2 x.1.toNatClampNeg (((x.2 x.1.toNatClampNeg) * y2.toInt64) + (x.2 (x.1 - (1 : Int32)).toNatClampNeg)))))))))
noncomputable def b_X6_move_25 (nu : (Nat → Int64)) (y1 : Int32) (y2 : Int32) (x : Int64 × Int32 × (Nat → Int64)) : Option ((Int64 × Int32 × (Nat → Int64)) ⊕ ((Nat → Int64))) := if x.2.1 < 0 then (some (Sum.inr x.2.2)) else ((loop (b_X6_move_33 y2) (y1, x.2.2)).bind (fun e12 => chk (0 : Int32) 11 (chk x.2.1 11 (chk (0 : Int32) 11 (some (Sum.inl (x.1 * (2 : Int64), x.2.1 + (-1 : Int32), vp_updL e12 (0 : Int32).toNatClampNeg ((e12 (0 : Int32).toNatClampNeg) + ((nu x.2.1.toNatClampNeg) * x.1)))))))))
noncomputable def s_X6_move (nu : (Nat → Int64)) (mo : (Nat → Int64)) (a1 : Int32) (a2 : Int32) : Option ((Nat → Int64)) := (loop (b_X6_move_2 a1) ((0 : Int32), mo)).bind (fun e3 => (loop (b_X6_move_25 nu a1 a2) ((1 : Int64), a1, e3)).bind (fun e17 => some e17))
set_option maxRecDepth 20000 in
theorem g_X6_move_2 {d : Nat} {Q : Option AV → List AC → Prop} {y1 : Int32} {y2 : Int32} (x : Int32 × (Nat → Int64)) (r : (Nat → Int64)) (hl : loop (b_X6_move_2 y1) x = some r) (hk : (fun r : (Nat → Int64) => Go mX6_move (d + 0) false 0 0 20 [some (vR 0), some (vI y1), some (vI y2), none, none, none, none] [] (wM kn ne fi se ma on ot ta po ti nu r wa nx oT cF bg ed sF qu qd tr) Q) r) : (fun x : Int32 × (Nat → Int64) => Go mX6_move (d + 0) false 0 0 2 [some (vR 0), some (vI y1), some (vI y2), some (vI x.1), none, none, none] [] (wM kn ne fi se ma on ot ta po ti nu x.2 wa nx oT cF bg ed sF qu qd tr) Q) x := by
  refine loop_go (P := fun x : Int32 × (Nat → Int64) => Go mX6_move (d + 0) false 0 0 2 [some (vR 0), some (vI y1), some (vI y2), some (vI x.1), none, none, none] [] (wM kn ne fi se ma on ot ta po ti nu x.2 wa nx oT cF bg ed sF qu qd tr) Q) (K := fun r : (Nat → Int64) => Go mX6_move (d + 0) false 0 0 20 [some (vR 0), some (vI y1), some (vI y2), none, none, none, none] [] (wM kn ne fi se ma on ot ta po ti nu r wa nx oT cF bg ed sF qu qd tr) Q) ?_ x r hl hk
  · intro x y hs hI hE
    unfold b_X6_move_2 at hs
    show Go mX6_move (d + 0) false 0 0 2 [some (vR 0), some (vI y1), some (vI y2), some (vI x.1), none, none, none] [] (wM kn ne fi se ma on ot ta po ti nu x.2 wa nx oT cF bg ed sF qu qd tr) Q
    refine go_iload_n (pc := 2) 3 dX6_move_2 rfl rfl ?_
    refine go_iload_n (pc := 3) 1 dX6_move_3 rfl rfl ?_
    refine go_icmp_gt (pc := 4) 20 dX6_move_4 (by decide) (fun h1 => ?_) (fun h1 => ?_)
    · have hs := it_t h1 hs
      obtain rfl := Option.some.inj hs
      refine go_sub (lv' := [some (vR 0), some (vI y1), some (vI y2), none, none, none, none]) ⟨rfl, ⟨rfl, ⟨rfl, trivial⟩⟩⟩ ?_
      exact hE _ rfl
    · have hs := it_f h1 hs
      refine go_aload_n (pc := 7) 0 dX6_move_7 rfl rfl ?_
      refine go_getfield (pc := 8) (v := vR 11) 0 6 11 dX6_move_8 flX6_41 rfl rfl ?_
      refine go_iload_n (pc := 11) 3 dX6_move_11 rfl rfl ?_
      refine go_lconst (pc := 12) (0 : Int64) dX6_move_12 (by decide) ?_
      obtain ⟨hi2, hs⟩ := chk_t hs
      refine go_lastore (pc := 13) 11 dX6_move_13 rfl hi2 (show Go mX6_move (d + 0) false 0 0 14 [some (vR 0), some (vI y1), some (vI y2), some (vI x.1), none, none, none] [] (wM kn ne fi se ma on ot ta po ti nu (vp_updL x.2 x.1.toNatClampNeg (0 : Int64)) wa nx oT cF bg ed sF qu qd tr) Q from ?_)
      refine go_iinc (pc := 14) (x.1 + (1 : Int32)) [some (vR 0), some (vI y1), some (vI y2), some (vI (x.1 + (1 : Int32))), none, none, none] dX6_move_14 rfl rfl (by decide) rfl ?_
      refine go_goto (pc := 17) 2 dX6_move_17 (by decide) ?_
      obtain rfl := Option.some.inj hs
      exact hI _ rfl
set_option maxRecDepth 20000 in
theorem g_X6_move_33 {d : Nat} {Q : Option AV → List AC → Prop} {y1 : Int32} {y2 : Int32} {y3 : Int64} {y5 : Int32} (x : Int32 × (Nat → Int64)) (r : (Nat → Int64)) (hl : loop (b_X6_move_33 y2) x = some r) (hk : (fun r : (Nat → Int64) => Go mX6_move (d + 0) false 0 0 80 [some (vR 0), some (vI y1), some (vI y2), some (vL y3), none, some (vI y5), none] [] (wM kn ne fi se ma on ot ta po ti nu r wa nx oT cF bg ed sF qu qd tr) Q) r) : (fun x : Int32 × (Nat → Int64) => Go mX6_move (d + 0) false 0 0 33 [some (vR 0), some (vI y1), some (vI y2), some (vL y3), none, some (vI y5), some (vI x.1)] [] (wM kn ne fi se ma on ot ta po ti nu x.2 wa nx oT cF bg ed sF qu qd tr) Q) x := by
  refine loop_go (P := fun x : Int32 × (Nat → Int64) => Go mX6_move (d + 0) false 0 0 33 [some (vR 0), some (vI y1), some (vI y2), some (vL y3), none, some (vI y5), some (vI x.1)] [] (wM kn ne fi se ma on ot ta po ti nu x.2 wa nx oT cF bg ed sF qu qd tr) Q) (K := fun r : (Nat → Int64) => Go mX6_move (d + 0) false 0 0 80 [some (vR 0), some (vI y1), some (vI y2), some (vL y3), none, some (vI y5), none] [] (wM kn ne fi se ma on ot ta po ti nu r wa nx oT cF bg ed sF qu qd tr) Q) ?_ x r hl hk
  · intro x y hs hI hE
    unfold b_X6_move_33 at hs
    show Go mX6_move (d + 0) false 0 0 33 [some (vR 0), some (vI y1), some (vI y2), some (vL y3), none, some (vI y5), some (vI x.1)] [] (wM kn ne fi se ma on ot ta po ti nu x.2 wa nx oT cF bg ed sF qu qd tr) Q
    refine go_iload (pc := 33) dX6_move_33 rfl ?_
    refine go_if_lt (pc := 35) 80 dX6_move_35 (by decide) (fun h6 => ?_) (fun h6 => ?_)
    · have hs := it_t h6 hs
      obtain rfl := Option.some.inj hs
      refine go_sub (lv' := [some (vR 0), some (vI y1), some (vI y2), some (vL y3), none, some (vI y5), none]) ⟨rfl, ⟨rfl, ⟨rfl, ⟨rfl, ⟨rfl, trivial⟩⟩⟩⟩⟩ ?_
      exact hE _ rfl
    · have hs := it_f h6 hs
      refine go_aload_n (pc := 38) 0 dX6_move_38 rfl rfl ?_
      refine go_getfield (pc := 39) (v := vR 11) 0 6 11 dX6_move_39 flX6_41 rfl rfl ?_
      refine go_iload (pc := 42) dX6_move_42 rfl ?_
      refine go_aload_n (pc := 44) 0 dX6_move_44 rfl rfl ?_
      refine go_getfield (pc := 45) (v := vR 11) 0 6 11 dX6_move_45 flX6_41 rfl rfl ?_
      refine go_iload (pc := 48) dX6_move_48 rfl ?_
      obtain ⟨hi7, hs⟩ := chk_t hs
      refine go_laload (pc := 50) 11 dX6_move_50 rfl hi7 ?_
      refine go_iload_n (pc := 51) 2 dX6_move_51 rfl rfl ?_
      refine go_i2l (pc := 52) dX6_move_52 ?_
      refine go_lmul (pc := 53) dX6_move_53 ?_
      refine go_iload (pc := 54) dX6_move_54 rfl ?_
      refine go_if_le (pc := 56) 71 dX6_move_56 (by decide) (fun h8 => ?_) (fun h8 => ?_)
      · have hs := it_t h8 hs
        refine go_lconst (pc := 71) (0 : Int64) dX6_move_71 (by decide) ?_
        refine go_ladd (pc := 72) dX6_move_72 ?_
        obtain ⟨hi9, hs⟩ := chk_t hs
        refine go_lastore (pc := 73) 11 dX6_move_73 rfl hi9 (show Go mX6_move (d + 0) false 0 0 74 [some (vR 0), some (vI y1), some (vI y2), some (vL y3), none, some (vI y5), some (vI x.1)] [] (wM kn ne fi se ma on ot ta po ti nu (vp_updL x.2 x.1.toNatClampNeg (((x.2 x.1.toNatClampNeg) * y2.toInt64) + (0 : Int64))) wa nx oT cF bg ed sF qu qd tr) Q from ?_)
        refine go_iinc (pc := 74) (x.1 + (-1 : Int32)) [some (vR 0), some (vI y1), some (vI y2), some (vL y3), none, some (vI y5), some (vI (x.1 + (-1 : Int32)))] dX6_move_74 rfl rfl (by decide) rfl ?_
        refine go_goto (pc := 77) 33 dX6_move_77 (by decide) ?_
        obtain rfl := Option.some.inj hs
        exact hI _ rfl
      · have hs := it_f h8 hs
        refine go_aload_n (pc := 59) 0 dX6_move_59 rfl rfl ?_
        refine go_getfield (pc := 60) (v := vR 11) 0 6 11 dX6_move_60 flX6_41 rfl rfl ?_
        refine go_iload (pc := 63) dX6_move_63 rfl ?_
        refine go_iconst (pc := 65) (1 : Int32) dX6_move_65 (by decide) ?_
        refine go_isub (pc := 66) dX6_move_66 ?_
        obtain ⟨hi10, hs⟩ := chk_t hs
        refine go_laload (pc := 67) 11 dX6_move_67 rfl hi10 ?_
        refine go_goto (pc := 68) 72 dX6_move_68 (by decide) ?_
        refine go_ladd (pc := 72) dX6_move_72 ?_
        obtain ⟨hi11, hs⟩ := chk_t hs
        refine go_lastore (pc := 73) 11 dX6_move_73 rfl hi11 (show Go mX6_move (d + 0) false 0 0 74 [some (vR 0), some (vI y1), some (vI y2), some (vL y3), none, some (vI y5), some (vI x.1)] [] (wM kn ne fi se ma on ot ta po ti nu (vp_updL x.2 x.1.toNatClampNeg (((x.2 x.1.toNatClampNeg) * y2.toInt64) + (x.2 (x.1 - (1 : Int32)).toNatClampNeg))) wa nx oT cF bg ed sF qu qd tr) Q from ?_)
        refine go_iinc (pc := 74) (x.1 + (-1 : Int32)) [some (vR 0), some (vI y1), some (vI y2), some (vL y3), none, some (vI y5), some (vI (x.1 + (-1 : Int32)))] dX6_move_74 rfl rfl (by decide) rfl ?_
        refine go_goto (pc := 77) 33 dX6_move_77 (by decide) ?_
        obtain rfl := Option.some.inj hs
        exact hI _ rfl
set_option maxRecDepth 20000 in
theorem g_X6_move_25 {d : Nat} {Q : Option AV → List AC → Prop} {y1 : Int32} {y2 : Int32} (x : Int64 × Int32 × (Nat → Int64)) (r : (Nat → Int64)) (hl : loop (b_X6_move_25 nu y1 y2) x = some r) (hk : (fun r : (Nat → Int64) => Go mX6_move (d + 0) false 0 0 110 [none, none, none, none, none, none, none] [] (wM kn ne fi se ma on ot ta po ti nu r wa nx oT cF bg ed sF qu qd tr) Q) r) : (fun x : Int64 × Int32 × (Nat → Int64) => Go mX6_move (d + 0) false 0 0 25 [some (vR 0), some (vI y1), some (vI y2), some (vL x.1), none, some (vI x.2.1), none] [] (wM kn ne fi se ma on ot ta po ti nu x.2.2 wa nx oT cF bg ed sF qu qd tr) Q) x := by
  refine loop_go (P := fun x : Int64 × Int32 × (Nat → Int64) => Go mX6_move (d + 0) false 0 0 25 [some (vR 0), some (vI y1), some (vI y2), some (vL x.1), none, some (vI x.2.1), none] [] (wM kn ne fi se ma on ot ta po ti nu x.2.2 wa nx oT cF bg ed sF qu qd tr) Q) (K := fun r : (Nat → Int64) => Go mX6_move (d + 0) false 0 0 110 [none, none, none, none, none, none, none] [] (wM kn ne fi se ma on ot ta po ti nu r wa nx oT cF bg ed sF qu qd tr) Q) ?_ x r hl hk
  · intro x y hs hI hE
    unfold b_X6_move_25 at hs
    show Go mX6_move (d + 0) false 0 0 25 [some (vR 0), some (vI y1), some (vI y2), some (vL x.1), none, some (vI x.2.1), none] [] (wM kn ne fi se ma on ot ta po ti nu x.2.2 wa nx oT cF bg ed sF qu qd tr) Q
    refine go_iload (pc := 25) dX6_move_25 rfl ?_
    refine go_if_lt (pc := 27) 110 dX6_move_27 (by decide) (fun h5 => ?_) (fun h5 => ?_)
    · have hs := it_t h5 hs
      obtain rfl := Option.some.inj hs
      refine go_sub (lv' := [none, none, none, none, none, none, none]) trivial ?_
      exact hE _ rfl
    · have hs := it_f h5 hs
      refine go_iload_n (pc := 30) 1 dX6_move_30 rfl rfl ?_
      refine go_istore (pc := 31) [some (vR 0), some (vI y1), some (vI y2), some (vL x.1), none, some (vI x.2.1), some (vI y1)] dX6_move_31 (by decide) rfl ?_
      obtain ⟨e12, hl13, hs⟩ := bnd hs
      refine g_X6_move_33 (d := d) _ e12 hl13 ?_
      refine go_aload_n (pc := 80) 0 dX6_move_80 rfl rfl ?_
      refine go_getfield (pc := 81) (v := vR 11) 0 6 11 dX6_move_81 flX6_41 rfl rfl ?_
      refine go_iconst (pc := 84) (0 : Int32) dX6_move_84 (by decide) ?_
      refine go_dup2 (pc := 85) dX6_move_85 rfl rfl ?_
      obtain ⟨hi14, hs⟩ := chk_t hs
      refine go_laload (pc := 86) 11 dX6_move_86 rfl hi14 ?_
      refine go_aload_n (pc := 87) 0 dX6_move_87 rfl rfl ?_
      refine go_getfield (pc := 88) (v := vR 10) 0 6 10 dX6_move_88 flX6_38 rfl rfl ?_
      refine go_iload (pc := 91) dX6_move_91 rfl ?_
      obtain ⟨hi15, hs⟩ := chk_t hs
      refine go_laload (pc := 93) 10 dX6_move_93 rfl hi15 ?_
      refine go_lload_n (pc := 94) 3 dX6_move_94 rfl rfl ?_
      refine go_lmul (pc := 95) dX6_move_95 ?_
      refine go_ladd (pc := 96) dX6_move_96 ?_
      obtain ⟨hi16, hs⟩ := chk_t hs
      refine go_lastore (pc := 97) 11 dX6_move_97 rfl hi16 (show Go mX6_move (d + 0) false 0 0 98 [some (vR 0), some (vI y1), some (vI y2), some (vL x.1), none, some (vI x.2.1), none] [] (wM kn ne fi se ma on ot ta po ti nu (vp_updL e12 (0 : Int32).toNatClampNeg ((e12 (0 : Int32).toNatClampNeg) + ((nu x.2.1.toNatClampNeg) * x.1))) wa nx oT cF bg ed sF qu qd tr) Q from ?_)
      refine go_lload_n (pc := 98) 3 dX6_move_98 rfl rfl ?_
      refine go_ldc2 (pc := 99) (2 : Int64) dX6_move_99 kcX6_119 ?_
      refine go_lmul (pc := 102) dX6_move_102 ?_
      refine go_lstore_n (pc := 103) 3 [some (vR 0), some (vI y1), some (vI y2), some (vL (x.1 * (2 : Int64))), none, some (vI x.2.1), none] dX6_move_103 rfl (by decide) rfl ?_
      refine go_iinc (pc := 104) (x.2.1 + (-1 : Int32)) [some (vR 0), some (vI y1), some (vI y2), some (vL (x.1 * (2 : Int64))), none, some (vI (x.2.1 + (-1 : Int32))), none] dX6_move_104 rfl rfl (by decide) rfl ?_
      refine go_goto (pc := 107) 25 dX6_move_107 (by decide) ?_
      obtain rfl := Option.some.inj hs
      exact hI _ rfl
set_option maxRecDepth 20000 in
theorem c_X6_move {d : Nat}  {a1 : Int32} {a2 : Int32} {res : (Nat → Int64)} (hs : s_X6_move nu mo a1 a2 = some res) : Calls mX6_move (d + 0) false 0 0 [vR 0, vI a1, vI a2] (wM kn ne fi se ma on ot ta po ti nu mo wa nx oT cF bg ed sF qu qd tr) (fun r w' => r = none ∧ w' = (wM kn ne fi se ma on ot ta po ti nu res wa nx oT cF bg ed sF qu qd tr)) := by
  unfold s_X6_move at hs
  refine Calls.of kX6_move 4 [some (vR 0), some (vI a1), some (vI a2), none, none, none, none] rfl (Nat.le_of_ble_eq_true rfl) ?_
  refine go_iconst (pc := 0) (0 : Int32) dX6_move_0 (by decide) ?_
  refine go_istore_n (pc := 1) 3 [some (vR 0), some (vI a1), some (vI a2), some (vI (0 : Int32)), none, none, none] dX6_move_1 rfl (by decide) rfl ?_
  obtain ⟨e3, hl4, hs⟩ := bnd hs
  refine g_X6_move_2 (d := d) _ e3 hl4 ?_
  refine go_lconst (pc := 20) (1 : Int64) dX6_move_20 (by decide) ?_
  refine go_lstore_n (pc := 21) 3 [some (vR 0), some (vI a1), some (vI a2), some (vL (1 : Int64)), none, none, none] dX6_move_21 rfl (by decide) rfl ?_
  refine go_iload_n (pc := 22) 1 dX6_move_22 rfl rfl ?_
  refine go_istore (pc := 23) [some (vR 0), some (vI a1), some (vI a2), some (vL (1 : Int64)), none, some (vI a1), none] dX6_move_23 (by decide) rfl ?_
  obtain ⟨e17, hl18, hs⟩ := bnd hs
  refine g_X6_move_25 (d := d) _ e17 hl18 ?_
  obtain rfl := Option.some.inj hs
  exact go_return (st := []) (pc := 110) dX6_move_110 rfl (fun h => by cases h) ⟨rfl, rfl⟩
noncomputable def b_X6_aboveOf_14 (mo : (Nat → Int64)) (x : Int32 × Int64 × Int32) : Option ((Int32 × Int64 × Int32) ⊕ (Int32)) := if x.2.2 < 0 then (some (Sum.inr x.1)) else (chk x.2.2 11 (if (lg_cmp (mo x.2.2.toNatClampNeg) (0 : Int64)) = 0 then (some (Sum.inl (x.1, x.2.1, x.2.2 + (-1 : Int32)))) else (if (lg_cmp x.2.1 (0 : Int64)) = 0 then (chk x.2.2 11 (some (Sum.inl (x.1 + (0 : Int32), mo x.2.2.toNatClampNeg, x.2.2 + (-1 : Int32))))) else (if 0 ≤ (lg_cmp x.2.1 (0 : Int64)) then (chk x.2.2 11 (if 0 ≤ (lg_cmp (mo x.2.2.toNatClampNeg) (0 : Int64)) then (if (0 : Int32) = (0 : Int32) then (chk x.2.2 11 (some (Sum.inl (x.1 + (0 : Int32), mo x.2.2.toNatClampNeg, x.2.2 + (-1 : Int32))))) else (chk x.2.2 11 (some (Sum.inl (x.1 + (1 : Int32), mo x.2.2.toNatClampNeg, x.2.2 + (-1 : Int32)))))) else (if (0 : Int32) = (1 : Int32) then (chk x.2.2 11 (some (Sum.inl (x.1 + (0 : Int32), mo x.2.2.toNatClampNeg, x.2.2 + (-1 : Int32))))) else (chk x.2.2 11 (some (Sum.inl (x.1 + (1 : Int32), mo x.2.2.toNatClampNeg, x.2.2 + (-1 : Int32)))))))) else (chk x.2.2 11 (if 0 ≤ (lg_cmp (mo x.2.2.toNatClampNeg) (0 : Int64)) then (if (1 : Int32) = (0 : Int32) then (chk x.2.2 11 (some (Sum.inl (x.1 + (0 : Int32), mo x.2.2.toNatClampNeg, x.2.2 + (-1 : Int32))))) else (chk x.2.2 11 (some (Sum.inl (x.1 + (1 : Int32), mo x.2.2.toNatClampNeg, x.2.2 + (-1 : Int32)))))) else (if (1 : Int32) = (1 : Int32) then (chk x.2.2 11 (some (Sum.inl (x.1 + (0 : Int32), mo x.2.2.toNatClampNeg, x.2.2 + (-1 : Int32))))) else (chk x.2.2 11 (some (Sum.inl (x.1 + (1 : Int32), mo x.2.2.toNatClampNeg, x.2.2 + (-1 : Int32))))))))))))
noncomputable def s_X6_aboveOf (nu : (Nat → Int64)) (mo : (Nat → Int64)) (a1 : Int32) (a2 : Int32) : Option (Int32 × (Nat → Int64)) := (s_X6_move nu mo a1 a2).bind (fun x1 => (loop (b_X6_aboveOf_14 x1) ((0 : Int32), (0 : Int64), a1)).bind (fun e25 => some (e25, x1)))
set_option maxRecDepth 20000 in
theorem g_X6_aboveOf_14 {d : Nat} {Q : Option AV → List AC → Prop}  (x : Int32 × Int64 × Int32) (r : Int32) (hl : loop (b_X6_aboveOf_14 mo) x = some r) (hk : (fun r : Int32 => Go mX6_aboveOf (d + 1) false 0 0 93 [none, none, none, some (vI r), none, none, none] [] (wM kn ne fi se ma on ot ta po ti nu mo wa nx oT cF bg ed sF qu qd tr) Q) r) : (fun x : Int32 × Int64 × Int32 => Go mX6_aboveOf (d + 1) false 0 0 14 [some (vR 0), none, none, some (vI x.1), some (vL x.2.1), none, some (vI x.2.2)] [] (wM kn ne fi se ma on ot ta po ti nu mo wa nx oT cF bg ed sF qu qd tr) Q) x := by
  refine loop_go (P := fun x : Int32 × Int64 × Int32 => Go mX6_aboveOf (d + 1) false 0 0 14 [some (vR 0), none, none, some (vI x.1), some (vL x.2.1), none, some (vI x.2.2)] [] (wM kn ne fi se ma on ot ta po ti nu mo wa nx oT cF bg ed sF qu qd tr) Q) (K := fun r : Int32 => Go mX6_aboveOf (d + 1) false 0 0 93 [none, none, none, some (vI r), none, none, none] [] (wM kn ne fi se ma on ot ta po ti nu mo wa nx oT cF bg ed sF qu qd tr) Q) ?_ x r hl hk
  · intro x y hs hI hE
    unfold b_X6_aboveOf_14 at hs
    show Go mX6_aboveOf (d + 1) false 0 0 14 [some (vR 0), none, none, some (vI x.1), some (vL x.2.1), none, some (vI x.2.2)] [] (wM kn ne fi se ma on ot ta po ti nu mo wa nx oT cF bg ed sF qu qd tr) Q
    refine go_iload (pc := 14) dX6_aboveOf_14 rfl ?_
    refine go_if_lt (pc := 16) 93 dX6_aboveOf_16 (by decide) (fun h3 => ?_) (fun h3 => ?_)
    · have hs := it_t h3 hs
      obtain rfl := Option.some.inj hs
      refine go_sub (lv' := [none, none, none, some (vI x.1), none, none, none]) ⟨rfl, trivial⟩ ?_
      exact hE _ rfl
    · have hs := it_f h3 hs
      refine go_aload_n (pc := 19) 0 dX6_aboveOf_19 rfl rfl ?_
      refine go_getfield (pc := 20) (v := vR 11) 0 6 11 dX6_aboveOf_20 flX6_41 rfl rfl ?_
      refine go_iload (pc := 23) dX6_aboveOf_23 rfl ?_
      obtain ⟨hi4, hs⟩ := chk_t hs
      refine go_laload (pc := 25) 11 dX6_aboveOf_25 rfl hi4 ?_
      refine go_lconst (pc := 26) (0 : Int64) dX6_aboveOf_26 (by decide) ?_
      refine go_lcmp (pc := 27) dX6_aboveOf_27 ?_
      refine go_if_eq (pc := 28) 87 dX6_aboveOf_28 (by decide) (fun h5 => ?_) (fun h5 => ?_)
      · have hs := it_t h5 hs
        refine go_iinc (pc := 87) (x.2.2 + (-1 : Int32)) [some (vR 0), none, none, some (vI x.1), some (vL x.2.1), none, some (vI (x.2.2 + (-1 : Int32)))] dX6_aboveOf_87 rfl rfl (by decide) rfl ?_
        refine go_goto (pc := 90) 14 dX6_aboveOf_90 (by decide) ?_
        obtain rfl := Option.some.inj hs
        exact hI _ rfl
      · have hs := it_f h5 hs
        refine go_iload_n (pc := 31) 3 dX6_aboveOf_31 rfl rfl ?_
        refine go_lload (pc := 32) dX6_aboveOf_32 rfl ?_
        refine go_lconst (pc := 34) (0 : Int64) dX6_aboveOf_34 (by decide) ?_
        refine go_lcmp (pc := 35) dX6_aboveOf_35 ?_
        refine go_if_eq (pc := 36) 75 dX6_aboveOf_36 (by decide) (fun h6 => ?_) (fun h6 => ?_)
        · have hs := it_t h6 hs
          refine go_iconst (pc := 75) (0 : Int32) dX6_aboveOf_75 (by decide) ?_
          refine go_iadd (pc := 76) dX6_aboveOf_76 ?_
          refine go_istore_n (pc := 77) 3 [some (vR 0), none, none, some (vI (x.1 + (0 : Int32))), some (vL x.2.1), none, some (vI x.2.2)] dX6_aboveOf_77 rfl (by decide) rfl ?_
          refine go_aload_n (pc := 78) 0 dX6_aboveOf_78 rfl rfl ?_
          refine go_getfield (pc := 79) (v := vR 11) 0 6 11 dX6_aboveOf_79 flX6_41 rfl rfl ?_
          refine go_iload (pc := 82) dX6_aboveOf_82 rfl ?_
          obtain ⟨hi7, hs⟩ := chk_t hs
          refine go_laload (pc := 84) 11 dX6_aboveOf_84 rfl hi7 ?_
          refine go_lstore (pc := 85) [some (vR 0), none, none, some (vI (x.1 + (0 : Int32))), some (vL (mo x.2.2.toNatClampNeg)), none, some (vI x.2.2)] dX6_aboveOf_85 (by decide) rfl ?_
          refine go_iinc (pc := 87) (x.2.2 + (-1 : Int32)) [some (vR 0), none, none, some (vI (x.1 + (0 : Int32))), some (vL (mo x.2.2.toNatClampNeg)), none, some (vI (x.2.2 + (-1 : Int32)))] dX6_aboveOf_87 rfl rfl (by decide) rfl ?_
          refine go_goto (pc := 90) 14 dX6_aboveOf_90 (by decide) ?_
          obtain rfl := Option.some.inj hs
          exact hI _ rfl
        · have hs := it_f h6 hs
          refine go_lload (pc := 39) dX6_aboveOf_39 rfl ?_
          refine go_lconst (pc := 41) (0 : Int64) dX6_aboveOf_41 (by decide) ?_
          refine go_lcmp (pc := 42) dX6_aboveOf_42 ?_
          refine go_if_ge (pc := 43) 50 dX6_aboveOf_43 (by decide) (fun h8 => ?_) (fun h8 => ?_)
          · have hs := it_t h8 hs
            refine go_iconst (pc := 50) (0 : Int32) dX6_aboveOf_50 (by decide) ?_
            refine go_aload_n (pc := 51) 0 dX6_aboveOf_51 rfl rfl ?_
            refine go_getfield (pc := 52) (v := vR 11) 0 6 11 dX6_aboveOf_52 flX6_41 rfl rfl ?_
            refine go_iload (pc := 55) dX6_aboveOf_55 rfl ?_
            obtain ⟨hi9, hs⟩ := chk_t hs
            refine go_laload (pc := 57) 11 dX6_aboveOf_57 rfl hi9 ?_
            refine go_lconst (pc := 58) (0 : Int64) dX6_aboveOf_58 (by decide) ?_
            refine go_lcmp (pc := 59) dX6_aboveOf_59 ?_
            refine go_if_ge (pc := 60) 67 dX6_aboveOf_60 (by decide) (fun h10 => ?_) (fun h10 => ?_)
            · have hs := it_t h10 hs
              refine go_iconst (pc := 67) (0 : Int32) dX6_aboveOf_67 (by decide) ?_
              refine go_icmp_eq (pc := 68) 75 dX6_aboveOf_68 (by decide) (fun h11 => ?_) (fun h11 => ?_)
              · have hs := it_t h11 hs
                refine go_iconst (pc := 75) (0 : Int32) dX6_aboveOf_75 (by decide) ?_
                refine go_iadd (pc := 76) dX6_aboveOf_76 ?_
                refine go_istore_n (pc := 77) 3 [some (vR 0), none, none, some (vI (x.1 + (0 : Int32))), some (vL x.2.1), none, some (vI x.2.2)] dX6_aboveOf_77 rfl (by decide) rfl ?_
                refine go_aload_n (pc := 78) 0 dX6_aboveOf_78 rfl rfl ?_
                refine go_getfield (pc := 79) (v := vR 11) 0 6 11 dX6_aboveOf_79 flX6_41 rfl rfl ?_
                refine go_iload (pc := 82) dX6_aboveOf_82 rfl ?_
                obtain ⟨hi12, hs⟩ := chk_t hs
                refine go_laload (pc := 84) 11 dX6_aboveOf_84 rfl hi12 ?_
                refine go_lstore (pc := 85) [some (vR 0), none, none, some (vI (x.1 + (0 : Int32))), some (vL (mo x.2.2.toNatClampNeg)), none, some (vI x.2.2)] dX6_aboveOf_85 (by decide) rfl ?_
                refine go_iinc (pc := 87) (x.2.2 + (-1 : Int32)) [some (vR 0), none, none, some (vI (x.1 + (0 : Int32))), some (vL (mo x.2.2.toNatClampNeg)), none, some (vI (x.2.2 + (-1 : Int32)))] dX6_aboveOf_87 rfl rfl (by decide) rfl ?_
                refine go_goto (pc := 90) 14 dX6_aboveOf_90 (by decide) ?_
                obtain rfl := Option.some.inj hs
                exact hI _ rfl
              · have hs := it_f h11 hs
                refine go_iconst (pc := 71) (1 : Int32) dX6_aboveOf_71 (by decide) ?_
                refine go_goto (pc := 72) 76 dX6_aboveOf_72 (by decide) ?_
                refine go_iadd (pc := 76) dX6_aboveOf_76 ?_
                refine go_istore_n (pc := 77) 3 [some (vR 0), none, none, some (vI (x.1 + (1 : Int32))), some (vL x.2.1), none, some (vI x.2.2)] dX6_aboveOf_77 rfl (by decide) rfl ?_
                refine go_aload_n (pc := 78) 0 dX6_aboveOf_78 rfl rfl ?_
                refine go_getfield (pc := 79) (v := vR 11) 0 6 11 dX6_aboveOf_79 flX6_41 rfl rfl ?_
                refine go_iload (pc := 82) dX6_aboveOf_82 rfl ?_
                obtain ⟨hi13, hs⟩ := chk_t hs
                refine go_laload (pc := 84) 11 dX6_aboveOf_84 rfl hi13 ?_
                refine go_lstore (pc := 85) [some (vR 0), none, none, some (vI (x.1 + (1 : Int32))), some (vL (mo x.2.2.toNatClampNeg)), none, some (vI x.2.2)] dX6_aboveOf_85 (by decide) rfl ?_
                refine go_iinc (pc := 87) (x.2.2 + (-1 : Int32)) [some (vR 0), none, none, some (vI (x.1 + (1 : Int32))), some (vL (mo x.2.2.toNatClampNeg)), none, some (vI (x.2.2 + (-1 : Int32)))] dX6_aboveOf_87 rfl rfl (by decide) rfl ?_
                refine go_goto (pc := 90) 14 dX6_aboveOf_90 (by decide) ?_
                obtain rfl := Option.some.inj hs
                exact hI _ rfl
            · have hs := it_f h10 hs
              refine go_iconst (pc := 63) (1 : Int32) dX6_aboveOf_63 (by decide) ?_
              refine go_goto (pc := 64) 68 dX6_aboveOf_64 (by decide) ?_
              refine go_icmp_eq (pc := 68) 75 dX6_aboveOf_68 (by decide) (fun h14 => ?_) (fun h14 => ?_)
              · have hs := it_t h14 hs
                refine go_iconst (pc := 75) (0 : Int32) dX6_aboveOf_75 (by decide) ?_
                refine go_iadd (pc := 76) dX6_aboveOf_76 ?_
                refine go_istore_n (pc := 77) 3 [some (vR 0), none, none, some (vI (x.1 + (0 : Int32))), some (vL x.2.1), none, some (vI x.2.2)] dX6_aboveOf_77 rfl (by decide) rfl ?_
                refine go_aload_n (pc := 78) 0 dX6_aboveOf_78 rfl rfl ?_
                refine go_getfield (pc := 79) (v := vR 11) 0 6 11 dX6_aboveOf_79 flX6_41 rfl rfl ?_
                refine go_iload (pc := 82) dX6_aboveOf_82 rfl ?_
                obtain ⟨hi15, hs⟩ := chk_t hs
                refine go_laload (pc := 84) 11 dX6_aboveOf_84 rfl hi15 ?_
                refine go_lstore (pc := 85) [some (vR 0), none, none, some (vI (x.1 + (0 : Int32))), some (vL (mo x.2.2.toNatClampNeg)), none, some (vI x.2.2)] dX6_aboveOf_85 (by decide) rfl ?_
                refine go_iinc (pc := 87) (x.2.2 + (-1 : Int32)) [some (vR 0), none, none, some (vI (x.1 + (0 : Int32))), some (vL (mo x.2.2.toNatClampNeg)), none, some (vI (x.2.2 + (-1 : Int32)))] dX6_aboveOf_87 rfl rfl (by decide) rfl ?_
                refine go_goto (pc := 90) 14 dX6_aboveOf_90 (by decide) ?_
                obtain rfl := Option.some.inj hs
                exact hI _ rfl
              · have hs := it_f h14 hs
                refine go_iconst (pc := 71) (1 : Int32) dX6_aboveOf_71 (by decide) ?_
                refine go_goto (pc := 72) 76 dX6_aboveOf_72 (by decide) ?_
                refine go_iadd (pc := 76) dX6_aboveOf_76 ?_
                refine go_istore_n (pc := 77) 3 [some (vR 0), none, none, some (vI (x.1 + (1 : Int32))), some (vL x.2.1), none, some (vI x.2.2)] dX6_aboveOf_77 rfl (by decide) rfl ?_
                refine go_aload_n (pc := 78) 0 dX6_aboveOf_78 rfl rfl ?_
                refine go_getfield (pc := 79) (v := vR 11) 0 6 11 dX6_aboveOf_79 flX6_41 rfl rfl ?_
                refine go_iload (pc := 82) dX6_aboveOf_82 rfl ?_
                obtain ⟨hi16, hs⟩ := chk_t hs
                refine go_laload (pc := 84) 11 dX6_aboveOf_84 rfl hi16 ?_
                refine go_lstore (pc := 85) [some (vR 0), none, none, some (vI (x.1 + (1 : Int32))), some (vL (mo x.2.2.toNatClampNeg)), none, some (vI x.2.2)] dX6_aboveOf_85 (by decide) rfl ?_
                refine go_iinc (pc := 87) (x.2.2 + (-1 : Int32)) [some (vR 0), none, none, some (vI (x.1 + (1 : Int32))), some (vL (mo x.2.2.toNatClampNeg)), none, some (vI (x.2.2 + (-1 : Int32)))] dX6_aboveOf_87 rfl rfl (by decide) rfl ?_
                refine go_goto (pc := 90) 14 dX6_aboveOf_90 (by decide) ?_
                obtain rfl := Option.some.inj hs
                exact hI _ rfl
          · have hs := it_f h8 hs
            refine go_iconst (pc := 46) (1 : Int32) dX6_aboveOf_46 (by decide) ?_
            refine go_goto (pc := 47) 51 dX6_aboveOf_47 (by decide) ?_
            refine go_aload_n (pc := 51) 0 dX6_aboveOf_51 rfl rfl ?_
            refine go_getfield (pc := 52) (v := vR 11) 0 6 11 dX6_aboveOf_52 flX6_41 rfl rfl ?_
            refine go_iload (pc := 55) dX6_aboveOf_55 rfl ?_
            obtain ⟨hi17, hs⟩ := chk_t hs
            refine go_laload (pc := 57) 11 dX6_aboveOf_57 rfl hi17 ?_
            refine go_lconst (pc := 58) (0 : Int64) dX6_aboveOf_58 (by decide) ?_
            refine go_lcmp (pc := 59) dX6_aboveOf_59 ?_
            refine go_if_ge (pc := 60) 67 dX6_aboveOf_60 (by decide) (fun h18 => ?_) (fun h18 => ?_)
            · have hs := it_t h18 hs
              refine go_iconst (pc := 67) (0 : Int32) dX6_aboveOf_67 (by decide) ?_
              refine go_icmp_eq (pc := 68) 75 dX6_aboveOf_68 (by decide) (fun h19 => ?_) (fun h19 => ?_)
              · have hs := it_t h19 hs
                refine go_iconst (pc := 75) (0 : Int32) dX6_aboveOf_75 (by decide) ?_
                refine go_iadd (pc := 76) dX6_aboveOf_76 ?_
                refine go_istore_n (pc := 77) 3 [some (vR 0), none, none, some (vI (x.1 + (0 : Int32))), some (vL x.2.1), none, some (vI x.2.2)] dX6_aboveOf_77 rfl (by decide) rfl ?_
                refine go_aload_n (pc := 78) 0 dX6_aboveOf_78 rfl rfl ?_
                refine go_getfield (pc := 79) (v := vR 11) 0 6 11 dX6_aboveOf_79 flX6_41 rfl rfl ?_
                refine go_iload (pc := 82) dX6_aboveOf_82 rfl ?_
                obtain ⟨hi20, hs⟩ := chk_t hs
                refine go_laload (pc := 84) 11 dX6_aboveOf_84 rfl hi20 ?_
                refine go_lstore (pc := 85) [some (vR 0), none, none, some (vI (x.1 + (0 : Int32))), some (vL (mo x.2.2.toNatClampNeg)), none, some (vI x.2.2)] dX6_aboveOf_85 (by decide) rfl ?_
                refine go_iinc (pc := 87) (x.2.2 + (-1 : Int32)) [some (vR 0), none, none, some (vI (x.1 + (0 : Int32))), some (vL (mo x.2.2.toNatClampNeg)), none, some (vI (x.2.2 + (-1 : Int32)))] dX6_aboveOf_87 rfl rfl (by decide) rfl ?_
                refine go_goto (pc := 90) 14 dX6_aboveOf_90 (by decide) ?_
                obtain rfl := Option.some.inj hs
                exact hI _ rfl
              · have hs := it_f h19 hs
                refine go_iconst (pc := 71) (1 : Int32) dX6_aboveOf_71 (by decide) ?_
                refine go_goto (pc := 72) 76 dX6_aboveOf_72 (by decide) ?_
                refine go_iadd (pc := 76) dX6_aboveOf_76 ?_
                refine go_istore_n (pc := 77) 3 [some (vR 0), none, none, some (vI (x.1 + (1 : Int32))), some (vL x.2.1), none, some (vI x.2.2)] dX6_aboveOf_77 rfl (by decide) rfl ?_
                refine go_aload_n (pc := 78) 0 dX6_aboveOf_78 rfl rfl ?_
                refine go_getfield (pc := 79) (v := vR 11) 0 6 11 dX6_aboveOf_79 flX6_41 rfl rfl ?_
                refine go_iload (pc := 82) dX6_aboveOf_82 rfl ?_
                obtain ⟨hi21, hs⟩ := chk_t hs
                refine go_laload (pc := 84) 11 dX6_aboveOf_84 rfl hi21 ?_
                refine go_lstore (pc := 85) [some (vR 0), none, none, some (vI (x.1 + (1 : Int32))), some (vL (mo x.2.2.toNatClampNeg)), none, some (vI x.2.2)] dX6_aboveOf_85 (by decide) rfl ?_
                refine go_iinc (pc := 87) (x.2.2 + (-1 : Int32)) [some (vR 0), none, none, some (vI (x.1 + (1 : Int32))), some (vL (mo x.2.2.toNatClampNeg)), none, some (vI (x.2.2 + (-1 : Int32)))] dX6_aboveOf_87 rfl rfl (by decide) rfl ?_
                refine go_goto (pc := 90) 14 dX6_aboveOf_90 (by decide) ?_
                obtain rfl := Option.some.inj hs
                exact hI _ rfl
            · have hs := it_f h18 hs
              refine go_iconst (pc := 63) (1 : Int32) dX6_aboveOf_63 (by decide) ?_
              refine go_goto (pc := 64) 68 dX6_aboveOf_64 (by decide) ?_
              refine go_icmp_eq (pc := 68) 75 dX6_aboveOf_68 (by decide) (fun h22 => ?_) (fun h22 => ?_)
              · have hs := it_t h22 hs
                refine go_iconst (pc := 75) (0 : Int32) dX6_aboveOf_75 (by decide) ?_
                refine go_iadd (pc := 76) dX6_aboveOf_76 ?_
                refine go_istore_n (pc := 77) 3 [some (vR 0), none, none, some (vI (x.1 + (0 : Int32))), some (vL x.2.1), none, some (vI x.2.2)] dX6_aboveOf_77 rfl (by decide) rfl ?_
                refine go_aload_n (pc := 78) 0 dX6_aboveOf_78 rfl rfl ?_
                refine go_getfield (pc := 79) (v := vR 11) 0 6 11 dX6_aboveOf_79 flX6_41 rfl rfl ?_
                refine go_iload (pc := 82) dX6_aboveOf_82 rfl ?_
                obtain ⟨hi23, hs⟩ := chk_t hs
                refine go_laload (pc := 84) 11 dX6_aboveOf_84 rfl hi23 ?_
                refine go_lstore (pc := 85) [some (vR 0), none, none, some (vI (x.1 + (0 : Int32))), some (vL (mo x.2.2.toNatClampNeg)), none, some (vI x.2.2)] dX6_aboveOf_85 (by decide) rfl ?_
                refine go_iinc (pc := 87) (x.2.2 + (-1 : Int32)) [some (vR 0), none, none, some (vI (x.1 + (0 : Int32))), some (vL (mo x.2.2.toNatClampNeg)), none, some (vI (x.2.2 + (-1 : Int32)))] dX6_aboveOf_87 rfl rfl (by decide) rfl ?_
                refine go_goto (pc := 90) 14 dX6_aboveOf_90 (by decide) ?_
                obtain rfl := Option.some.inj hs
                exact hI _ rfl
              · have hs := it_f h22 hs
                refine go_iconst (pc := 71) (1 : Int32) dX6_aboveOf_71 (by decide) ?_
                refine go_goto (pc := 72) 76 dX6_aboveOf_72 (by decide) ?_
                refine go_iadd (pc := 76) dX6_aboveOf_76 ?_
                refine go_istore_n (pc := 77) 3 [some (vR 0), none, none, some (vI (x.1 + (1 : Int32))), some (vL x.2.1), none, some (vI x.2.2)] dX6_aboveOf_77 rfl (by decide) rfl ?_
                refine go_aload_n (pc := 78) 0 dX6_aboveOf_78 rfl rfl ?_
                refine go_getfield (pc := 79) (v := vR 11) 0 6 11 dX6_aboveOf_79 flX6_41 rfl rfl ?_
                refine go_iload (pc := 82) dX6_aboveOf_82 rfl ?_
                obtain ⟨hi24, hs⟩ := chk_t hs
                refine go_laload (pc := 84) 11 dX6_aboveOf_84 rfl hi24 ?_
                refine go_lstore (pc := 85) [some (vR 0), none, none, some (vI (x.1 + (1 : Int32))), some (vL (mo x.2.2.toNatClampNeg)), none, some (vI x.2.2)] dX6_aboveOf_85 (by decide) rfl ?_
                refine go_iinc (pc := 87) (x.2.2 + (-1 : Int32)) [some (vR 0), none, none, some (vI (x.1 + (1 : Int32))), some (vL (mo x.2.2.toNatClampNeg)), none, some (vI (x.2.2 + (-1 : Int32)))] dX6_aboveOf_87 rfl rfl (by decide) rfl ?_
                refine go_goto (pc := 90) 14 dX6_aboveOf_90 (by decide) ?_
                obtain rfl := Option.some.inj hs
                exact hI _ rfl
set_option maxRecDepth 20000 in
theorem c_X6_aboveOf {d : Nat}  {a1 : Int32} {a2 : Int32} {res : Int32 × (Nat → Int64)} (hs : s_X6_aboveOf nu mo a1 a2 = some res) : Calls mX6_aboveOf (d + 1) false 0 0 [vR 0, vI a1, vI a2] (wM kn ne fi se ma on ot ta po ti nu mo wa nx oT cF bg ed sF qu qd tr) (fun r w' => r = some (vI res.1) ∧ w' = (wM kn ne fi se ma on ot ta po ti nu res.2 wa nx oT cF bg ed sF qu qd tr)) := by
  unfold s_X6_aboveOf at hs
  refine Calls.of kX6_aboveOf 4 [some (vR 0), some (vI a1), some (vI a2), none, none, none, none] rfl (Nat.le_of_ble_eq_true rfl) ?_
  refine go_aload_n (pc := 0) 0 dX6_aboveOf_0 rfl rfl ?_
  refine go_iload_n (pc := 1) 1 dX6_aboveOf_1 rfl rfl ?_
  refine go_iload_n (pc := 2) 2 dX6_aboveOf_2 rfl rfl ?_
  obtain ⟨x1, hc2, hs⟩ := bnd hs
  refine go_callV (bc := 0) (bs := 0) (mc := 0) (ms := 0) (d := d + 0) (pc := 3) (a := 0) (ci := 6) [vI a1, vI a2] [] dX6_aboveOf_3 kX6_move mlX6_121 ivX6_move rfl rfl rfl rfl (Nat.le_of_ble_eq_true rfl) rfl (c_X6_move (d := d + 0) hc2) (fun r w' hq => ?_)
  obtain ⟨rfl, rfl⟩ := hq
  show Go mX6_aboveOf (d + 1) false 0 0 6 [some (vR 0), some (vI a1), some (vI a2), none, none, none, none] [] (wM kn ne fi se ma on ot ta po ti nu x1 wa nx oT cF bg ed sF qu qd tr) _
  refine go_iconst (pc := 6) (0 : Int32) dX6_aboveOf_6 (by decide) ?_
  refine go_istore_n (pc := 7) 3 [some (vR 0), some (vI a1), some (vI a2), some (vI (0 : Int32)), none, none, none] dX6_aboveOf_7 rfl (by decide) rfl ?_
  refine go_lconst (pc := 8) (0 : Int64) dX6_aboveOf_8 (by decide) ?_
  refine go_lstore (pc := 9) [some (vR 0), some (vI a1), some (vI a2), some (vI (0 : Int32)), some (vL (0 : Int64)), none, none] dX6_aboveOf_9 (by decide) rfl ?_
  refine go_iload_n (pc := 11) 1 dX6_aboveOf_11 rfl rfl ?_
  refine go_istore (pc := 12) [some (vR 0), some (vI a1), some (vI a2), some (vI (0 : Int32)), some (vL (0 : Int64)), none, some (vI a1)] dX6_aboveOf_12 (by decide) rfl ?_
  refine go_sub (lv' := [some (vR 0), none, none, some (vI (0 : Int32)), some (vL (0 : Int64)), none, some (vI a1)]) ⟨rfl, ⟨rfl, ⟨rfl, ⟨rfl, trivial⟩⟩⟩⟩ ?_
  obtain ⟨e25, hl26, hs⟩ := bnd hs
  refine g_X6_aboveOf_14 (d := d) _ e25 hl26 ?_
  refine go_iload_n (pc := 93) 3 dX6_aboveOf_93 rfl rfl ?_
  obtain rfl := Option.some.inj hs
  exact go_ireturn (st := []) (pc := 94) dX6_aboveOf_94 rfl (vp_nar_int _) (fun h => by cases h) ⟨rfl, rfl⟩
noncomputable def b_X6_justOf_8 (mo : (Nat → Int64)) (x : Int32) : Option ((Int32) ⊕ (Int32)) := chk x 11 (if (lg_cmp (mo x.toNatClampNeg) (0 : Int64)) = 0 then (some (Sum.inl (x + (1 : Int32)))) else (some (Sum.inr x)))
noncomputable def s_X6_justOf (nu : (Nat → Int64)) (mo : (Nat → Int64)) (a1 : Int32) (a2 : Int32) : Option (Int32 × (Nat → Int64)) := (s_X6_move nu mo a1 a2).bind (fun x1 => (loop (b_X6_justOf_8 x1) (0 : Int32)).bind (fun e5 => some (e5, x1)))
set_option maxRecDepth 20000 in
theorem g_X6_justOf_8 {d : Nat} {Q : Option AV → List AC → Prop}  (x : Int32) (r : Int32) (hl : loop (b_X6_justOf_8 mo) x = some r) (hk : (fun r : Int32 => Go mX6_justOf (d + 1) false 0 0 25 [none, none, none, some (vI r)] [] (wM kn ne fi se ma on ot ta po ti nu mo wa nx oT cF bg ed sF qu qd tr) Q) r) : (fun x : Int32 => Go mX6_justOf (d + 1) false 0 0 8 [some (vR 0), none, none, some (vI x)] [] (wM kn ne fi se ma on ot ta po ti nu mo wa nx oT cF bg ed sF qu qd tr) Q) x := by
  refine loop_go (P := fun x : Int32 => Go mX6_justOf (d + 1) false 0 0 8 [some (vR 0), none, none, some (vI x)] [] (wM kn ne fi se ma on ot ta po ti nu mo wa nx oT cF bg ed sF qu qd tr) Q) (K := fun r : Int32 => Go mX6_justOf (d + 1) false 0 0 25 [none, none, none, some (vI r)] [] (wM kn ne fi se ma on ot ta po ti nu mo wa nx oT cF bg ed sF qu qd tr) Q) ?_ x r hl hk
  · intro x y hs hI hE
    unfold b_X6_justOf_8 at hs
    show Go mX6_justOf (d + 1) false 0 0 8 [some (vR 0), none, none, some (vI x)] [] (wM kn ne fi se ma on ot ta po ti nu mo wa nx oT cF bg ed sF qu qd tr) Q
    refine go_aload_n (pc := 8) 0 dX6_justOf_8 rfl rfl ?_
    refine go_getfield (pc := 9) (v := vR 11) 0 6 11 dX6_justOf_9 flX6_41 rfl rfl ?_
    refine go_iload_n (pc := 12) 3 dX6_justOf_12 rfl rfl ?_
    obtain ⟨hi3, hs⟩ := chk_t hs
    refine go_laload (pc := 13) 11 dX6_justOf_13 rfl hi3 ?_
    refine go_lconst (pc := 14) (0 : Int64) dX6_justOf_14 (by decide) ?_
    refine go_lcmp (pc := 15) dX6_justOf_15 ?_
    refine go_if_ne (pc := 16) 25 dX6_justOf_16 (by decide) (fun h4 => ?_) (fun h4 => ?_)
    · have hs := it_f h4 hs
      obtain rfl := Option.some.inj hs
      refine go_sub (lv' := [none, none, none, some (vI x)]) ⟨rfl, trivial⟩ ?_
      exact hE _ rfl
    · have hs := it_t h4 hs
      refine go_iinc (pc := 19) (x + (1 : Int32)) [some (vR 0), none, none, some (vI (x + (1 : Int32)))] dX6_justOf_19 rfl rfl (by decide) rfl ?_
      refine go_goto (pc := 22) 8 dX6_justOf_22 (by decide) ?_
      obtain rfl := Option.some.inj hs
      exact hI _ rfl
set_option maxRecDepth 20000 in
theorem c_X6_justOf {d : Nat}  {a1 : Int32} {a2 : Int32} {res : Int32 × (Nat → Int64)} (hs : s_X6_justOf nu mo a1 a2 = some res) : Calls mX6_justOf (d + 1) false 0 0 [vR 0, vI a1, vI a2] (wM kn ne fi se ma on ot ta po ti nu mo wa nx oT cF bg ed sF qu qd tr) (fun r w' => r = some (vI res.1) ∧ w' = (wM kn ne fi se ma on ot ta po ti nu res.2 wa nx oT cF bg ed sF qu qd tr)) := by
  unfold s_X6_justOf at hs
  refine Calls.of kX6_justOf 1 [some (vR 0), some (vI a1), some (vI a2), none] rfl (Nat.le_of_ble_eq_true rfl) ?_
  refine go_aload_n (pc := 0) 0 dX6_justOf_0 rfl rfl ?_
  refine go_iload_n (pc := 1) 1 dX6_justOf_1 rfl rfl ?_
  refine go_iload_n (pc := 2) 2 dX6_justOf_2 rfl rfl ?_
  obtain ⟨x1, hc2, hs⟩ := bnd hs
  refine go_callV (bc := 0) (bs := 0) (mc := 0) (ms := 0) (d := d + 0) (pc := 3) (a := 0) (ci := 6) [vI a1, vI a2] [] dX6_justOf_3 kX6_move mlX6_121 ivX6_move rfl rfl rfl rfl (Nat.le_of_ble_eq_true rfl) rfl (c_X6_move (d := d + 0) hc2) (fun r w' hq => ?_)
  obtain ⟨rfl, rfl⟩ := hq
  show Go mX6_justOf (d + 1) false 0 0 6 [some (vR 0), some (vI a1), some (vI a2), none] [] (wM kn ne fi se ma on ot ta po ti nu x1 wa nx oT cF bg ed sF qu qd tr) _
  refine go_iconst (pc := 6) (0 : Int32) dX6_justOf_6 (by decide) ?_
  refine go_istore_n (pc := 7) 3 [some (vR 0), some (vI a1), some (vI a2), some (vI (0 : Int32))] dX6_justOf_7 rfl (by decide) rfl ?_
  refine go_sub (lv' := [some (vR 0), none, none, some (vI (0 : Int32))]) ⟨rfl, ⟨rfl, trivial⟩⟩ ?_
  obtain ⟨e5, hl6, hs⟩ := bnd hs
  refine g_X6_justOf_8 (d := d) _ e5 hl6 ?_
  refine go_iload_n (pc := 25) 3 dX6_justOf_25 rfl rfl ?_
  obtain rfl := Option.some.inj hs
  exact go_ireturn (st := []) (pc := 26) dX6_justOf_26 rfl (vp_nar_int _) (fun h => by cases h) ⟨rfl, rfl⟩
noncomputable def s_X6_isAsked (a1 : Int32) (a2 : Int32) (a3 : Int32) : Option (Int32) := (s_X6_isNet a1).bind (fun x1 => if x1 = 0 then (some (0 : Int32)) else (if a2 < 0 then (some (0 : Int32)) else ((s_X6_in a3 (-40 : Int32) (40 : Int32)).bind (fun x5 => if x5 = 0 then (some (0 : Int32)) else (some (1 : Int32))))))
set_option maxRecDepth 20000 in
theorem c_X6_isAsked {d : Nat}  {a1 : Int32} {a2 : Int32} {a3 : Int32} {res : Int32} (hs : s_X6_isAsked a1 a2 a3 = some res) : Calls mX6_isAsked (d + 2) false 0 0 [vR 0, vI a1, vI a2, vI a3] (wM kn ne fi se ma on ot ta po ti nu mo wa nx oT cF bg ed sF qu qd tr) (fun r w' => r = some (vI res) ∧ w' = (wM kn ne fi se ma on ot ta po ti nu mo wa nx oT cF bg ed sF qu qd tr)) := by
  unfold s_X6_isAsked at hs
  refine Calls.of kX6_isAsked 0 [some (vR 0), some (vI a1), some (vI a2), some (vI a3)] rfl (Nat.le_of_ble_eq_true rfl) ?_
  refine go_iload_n (pc := 0) 1 dX6_isAsked_0 rfl rfl ?_
  obtain ⟨x1, hc2, hs⟩ := bnd hs
  refine go_callS (bc := 0) (bs := 0) (mc := 0) (ms := 0) (d := d + 1) (pc := 1) [vI a1] [] dX6_isAsked_1 kX6_isNet mlX6_69 isX6_isNet rfl (Nat.le_of_ble_eq_true rfl) rfl (c_X6_isNet (d := d + 0) hc2) (fun r w' hq => ?_)
  obtain ⟨rfl, rfl⟩ := hq
  show Go mX6_isAsked (d + 2) false 0 0 4 [some (vR 0), some (vI a1), some (vI a2), some (vI a3)] [vI x1] (wM kn ne fi se ma on ot ta po ti nu mo wa nx oT cF bg ed sF qu qd tr) _
  refine go_if_eq (pc := 4) 26 dX6_isAsked_4 (by decide) (fun h3 => ?_) (fun h3 => ?_)
  · have hs := it_t h3 hs
    refine go_iconst (pc := 26) (0 : Int32) dX6_isAsked_26 (by decide) ?_
    obtain rfl := Option.some.inj hs
    exact go_ireturn (st := []) (pc := 27) dX6_isAsked_27 rfl rfl (fun h => by cases h) ⟨rfl, rfl⟩
  · have hs := it_f h3 hs
    refine go_iload_n (pc := 7) 2 dX6_isAsked_7 rfl rfl ?_
    refine go_if_lt (pc := 8) 26 dX6_isAsked_8 (by decide) (fun h4 => ?_) (fun h4 => ?_)
    · have hs := it_t h4 hs
      refine go_iconst (pc := 26) (0 : Int32) dX6_isAsked_26 (by decide) ?_
      obtain rfl := Option.some.inj hs
      exact go_ireturn (st := []) (pc := 27) dX6_isAsked_27 rfl rfl (fun h => by cases h) ⟨rfl, rfl⟩
    · have hs := it_f h4 hs
      refine go_iload_n (pc := 11) 3 dX6_isAsked_11 rfl rfl ?_
      refine go_bipush (pc := 12) (-40 : Int32) dX6_isAsked_12 (by decide) ?_
      refine go_bipush (pc := 14) (40 : Int32) dX6_isAsked_14 (by decide) ?_
      obtain ⟨x5, hc6, hs⟩ := bnd hs
      refine go_callS (bc := 0) (bs := 0) (mc := 0) (ms := 0) (d := d + 1) (pc := 16) [vI a3, vI (-40 : Int32), vI (40 : Int32)] [] dX6_isAsked_16 kX6_in mlX6_65 isX6_in rfl (Nat.le_of_ble_eq_true rfl) rfl (c_X6_in (d := d + 1) hc6) (fun r w' hq => ?_)
      obtain ⟨rfl, rfl⟩ := hq
      show Go mX6_isAsked (d + 2) false 0 0 19 [some (vR 0), some (vI a1), some (vI a2), some (vI a3)] [vI x5] (wM kn ne fi se ma on ot ta po ti nu mo wa nx oT cF bg ed sF qu qd tr) _
      refine go_if_eq (pc := 19) 26 dX6_isAsked_19 (by decide) (fun h7 => ?_) (fun h7 => ?_)
      · have hs := it_t h7 hs
        refine go_iconst (pc := 26) (0 : Int32) dX6_isAsked_26 (by decide) ?_
        obtain rfl := Option.some.inj hs
        exact go_ireturn (st := []) (pc := 27) dX6_isAsked_27 rfl rfl (fun h => by cases h) ⟨rfl, rfl⟩
      · have hs := it_f h7 hs
        refine go_iconst (pc := 22) (1 : Int32) dX6_isAsked_22 (by decide) ?_
        refine go_goto (pc := 23) 27 dX6_isAsked_23 (by decide) ?_
        obtain rfl := Option.some.inj hs
        exact go_ireturn (st := []) (pc := 27) dX6_isAsked_27 rfl rfl (fun h => by cases h) ⟨rfl, rfl⟩
noncomputable def s_X6_layOwn (kn : (Nat → Int32)) (ne : (Nat → Int32)) (ma : Int32) (on : (Nat → Int32)) (ot : (Nat → Int32)) (ta : (Nat → Int64)) (po : (Nat → Int64)) (ti : (Nat → Int64)) (nu : (Nat → Int64)) (a1 : Int32) (a2 : Int32) : Option (Int32 × (Nat → Int32) × (Nat → Int32) × (Nat → Int64) × (Nat → Int64) × (Nat → Int64) × (Nat → Int64)) := (s_X6_layTable kn ne ma on ot ta a1 a2).bind (fun x1 => chk a1 4 ((s_X6_layPolynomial x1.2.2.2 po ti nu (kn a1.toNatClampNeg)).bind (fun x4 => some (x1.1, x1.2.1, x1.2.2.1, x1.2.2.2, x4.1, x4.2.1, x4.2.2))))
set_option maxRecDepth 20000 in
theorem c_X6_layOwn {d : Nat}  {a1 : Int32} {a2 : Int32} {res : Int32 × (Nat → Int32) × (Nat → Int32) × (Nat → Int64) × (Nat → Int64) × (Nat → Int64) × (Nat → Int64)} (hs : s_X6_layOwn kn ne ma on ot ta po ti nu a1 a2 = some res) : Calls mX6_layOwn (d + 3) false 0 0 [vR 0, vI a1, vI a2] (wM kn ne fi se ma on ot ta po ti nu mo wa nx oT cF bg ed sF qu qd tr) (fun r w' => r = none ∧ w' = (wM kn ne fi se res.1 res.2.1 res.2.2.1 res.2.2.2.1 res.2.2.2.2.1 res.2.2.2.2.2.1 res.2.2.2.2.2.2 mo wa nx oT cF bg ed sF qu qd tr)) := by
  unfold s_X6_layOwn at hs
  refine Calls.of kX6_layOwn 0 [some (vR 0), some (vI a1), some (vI a2)] rfl (Nat.le_of_ble_eq_true rfl) ?_
  refine go_aload_n (pc := 0) 0 dX6_layOwn_0 rfl rfl ?_
  refine go_iload_n (pc := 1) 1 dX6_layOwn_1 rfl rfl ?_
  refine go_iload_n (pc := 2) 2 dX6_layOwn_2 rfl rfl ?_
  obtain ⟨x1, hc2, hs⟩ := bnd hs
  refine go_callV (bc := 0) (bs := 0) (mc := 0) (ms := 0) (d := d + 2) (pc := 3) (a := 0) (ci := 6) [vI a1, vI a2] [] dX6_layOwn_3 kX6_layTable mlX6_124 ivX6_layTable rfl rfl rfl rfl (Nat.le_of_ble_eq_true rfl) rfl (c_X6_layTable (d := d + 0) hc2) (fun r w' hq => ?_)
  obtain ⟨rfl, rfl⟩ := hq
  show Go mX6_layOwn (d + 3) false 0 0 6 [some (vR 0), some (vI a1), some (vI a2)] [] (wM kn ne fi se x1.1 x1.2.1 x1.2.2.1 x1.2.2.2 po ti nu mo wa nx oT cF bg ed sF qu qd tr) _
  refine go_aload_n (pc := 6) 0 dX6_layOwn_6 rfl rfl ?_
  refine go_aload_n (pc := 7) 0 dX6_layOwn_7 rfl rfl ?_
  refine go_getfield (pc := 8) (v := vR 1) 0 6 0 dX6_layOwn_8 flX6_7 rfl rfl ?_
  refine go_iload_n (pc := 11) 1 dX6_layOwn_11 rfl rfl ?_
  obtain ⟨hi3, hs⟩ := chk_t hs
  refine go_iaload (pc := 12) 1 dX6_layOwn_12 rfl hi3 ?_
  obtain ⟨x4, hc5, hs⟩ := bnd hs
  refine go_callV (bc := 0) (bs := 0) (mc := 0) (ms := 0) (d := d + 2) (pc := 13) (a := 0) (ci := 6) [vI (kn a1.toNatClampNeg)] [] dX6_layOwn_13 kX6_layPolynomial mlX6_127 ivX6_layPolynomial rfl rfl rfl rfl (Nat.le_of_ble_eq_true rfl) rfl (c_X6_layPolynomial (d := d + 2) hc5) (fun r w' hq => ?_)
  obtain ⟨rfl, rfl⟩ := hq
  show Go mX6_layOwn (d + 3) false 0 0 16 [some (vR 0), some (vI a1), some (vI a2)] [] (wM kn ne fi se x1.1 x1.2.1 x1.2.2.1 x1.2.2.2 x4.1 x4.2.1 x4.2.2 mo wa nx oT cF bg ed sF qu qd tr) _
  obtain rfl := Option.some.inj hs
  exact go_return (st := []) (pc := 16) dX6_layOwn_16 rfl (fun h => by cases h) ⟨rfl, rfl⟩
noncomputable def s_X6_more (kn : (Nat → Int32)) (ne : (Nat → Int32)) (ma : Int32) (on : (Nat → Int32)) (ot : (Nat → Int32)) (ta : (Nat → Int64)) (po : (Nat → Int64)) (ti : (Nat → Int64)) (nu : (Nat → Int64)) (mo : (Nat → Int64)) (a1 : Int32) (a2 : Int32) (a3 : Int32) : Option (Int32 × Int32 × (Nat → Int32) × (Nat → Int32) × (Nat → Int64) × (Nat → Int64) × (Nat → Int64) × (Nat → Int64) × (Nat → Int64)) := (s_X6_isAsked a1 a2 a3).bind (fun x1 => if x1 = 0 then (some ((-2 : Int32), ma, on, ot, ta, po, ti, nu, mo)) else ((s_X6_layOwn kn ne ma on ot ta po ti nu a1 a2).bind (fun x4 => chk a1 4 ((s_X6_aboveOf x4.2.2.2.2.2.2 mo (kn a1.toNatClampNeg) a3).bind (fun x7 => some (x7.1, x4.1, x4.2.1, x4.2.2.1, x4.2.2.2.1, x4.2.2.2.2.1, x4.2.2.2.2.2.1, x4.2.2.2.2.2.2, x7.2))))))
set_option maxRecDepth 20000 in
theorem c_X6_more {d : Nat}  {a1 : Int32} {a2 : Int32} {a3 : Int32} {res : Int32 × Int32 × (Nat → Int32) × (Nat → Int32) × (Nat → Int64) × (Nat → Int64) × (Nat → Int64) × (Nat → Int64) × (Nat → Int64)} (hs : s_X6_more kn ne ma on ot ta po ti nu mo a1 a2 a3 = some res) : Calls mX6_more (d + 4) false 0 0 [vR 0, vI a1, vI a2, vI a3] (wM kn ne fi se ma on ot ta po ti nu mo wa nx oT cF bg ed sF qu qd tr) (fun r w' => r = some (vI res.1) ∧ w' = (wM kn ne fi se res.2.1 res.2.2.1 res.2.2.2.1 res.2.2.2.2.1 res.2.2.2.2.2.1 res.2.2.2.2.2.2.1 res.2.2.2.2.2.2.2.1 res.2.2.2.2.2.2.2.2 wa nx oT cF bg ed sF qu qd tr)) := by
  unfold s_X6_more at hs
  refine Calls.of kX6_more 0 [some (vR 0), some (vI a1), some (vI a2), some (vI a3)] rfl (Nat.le_of_ble_eq_true rfl) ?_
  refine go_aload_n (pc := 0) 0 dX6_more_0 rfl rfl ?_
  refine go_iload_n (pc := 1) 1 dX6_more_1 rfl rfl ?_
  refine go_iload_n (pc := 2) 2 dX6_more_2 rfl rfl ?_
  refine go_iload_n (pc := 3) 3 dX6_more_3 rfl rfl ?_
  obtain ⟨x1, hc2, hs⟩ := bnd hs
  refine go_callV (bc := 0) (bs := 0) (mc := 0) (ms := 0) (d := d + 3) (pc := 4) (a := 0) (ci := 6) [vI a1, vI a2, vI a3] [] dX6_more_4 kX6_isAsked mlX6_130 ivX6_isAsked rfl rfl rfl rfl (Nat.le_of_ble_eq_true rfl) rfl (c_X6_isAsked (d := d + 1) hc2) (fun r w' hq => ?_)
  obtain ⟨rfl, rfl⟩ := hq
  show Go mX6_more (d + 4) false 0 0 7 [some (vR 0), some (vI a1), some (vI a2), some (vI a3)] [vI x1] (wM kn ne fi se ma on ot ta po ti nu mo wa nx oT cF bg ed sF qu qd tr) _
  refine go_if_ne (pc := 7) 13 dX6_more_7 (by decide) (fun h3 => ?_) (fun h3 => ?_)
  · have hs := it_f h3 hs
    refine go_aload_n (pc := 13) 0 dX6_more_13 rfl rfl ?_
    refine go_iload_n (pc := 14) 1 dX6_more_14 rfl rfl ?_
    refine go_iload_n (pc := 15) 2 dX6_more_15 rfl rfl ?_
    obtain ⟨x4, hc5, hs⟩ := bnd hs
    refine go_callV (bc := 0) (bs := 0) (mc := 0) (ms := 0) (d := d + 3) (pc := 16) (a := 0) (ci := 6) [vI a1, vI a2] [] dX6_more_16 kX6_layOwn mlX6_133 ivX6_layOwn rfl rfl rfl rfl (Nat.le_of_ble_eq_true rfl) rfl (c_X6_layOwn (d := d + 0) hc5) (fun r w' hq => ?_)
    obtain ⟨rfl, rfl⟩ := hq
    show Go mX6_more (d + 4) false 0 0 19 [some (vR 0), some (vI a1), some (vI a2), some (vI a3)] [] (wM kn ne fi se x4.1 x4.2.1 x4.2.2.1 x4.2.2.2.1 x4.2.2.2.2.1 x4.2.2.2.2.2.1 x4.2.2.2.2.2.2 mo wa nx oT cF bg ed sF qu qd tr) _
    refine go_aload_n (pc := 19) 0 dX6_more_19 rfl rfl ?_
    refine go_aload_n (pc := 20) 0 dX6_more_20 rfl rfl ?_
    refine go_getfield (pc := 21) (v := vR 1) 0 6 0 dX6_more_21 flX6_7 rfl rfl ?_
    refine go_iload_n (pc := 24) 1 dX6_more_24 rfl rfl ?_
    obtain ⟨hi6, hs⟩ := chk_t hs
    refine go_iaload (pc := 25) 1 dX6_more_25 rfl hi6 ?_
    refine go_iload_n (pc := 26) 3 dX6_more_26 rfl rfl ?_
    obtain ⟨x7, hc8, hs⟩ := bnd hs
    refine go_callV (bc := 0) (bs := 0) (mc := 0) (ms := 0) (d := d + 3) (pc := 27) (a := 0) (ci := 6) [vI (kn a1.toNatClampNeg), vI a3] [] dX6_more_27 kX6_aboveOf mlX6_136 ivX6_aboveOf rfl rfl rfl rfl (Nat.le_of_ble_eq_true rfl) rfl (c_X6_aboveOf (d := d + 2) hc8) (fun r w' hq => ?_)
    obtain ⟨rfl, rfl⟩ := hq
    show Go mX6_more (d + 4) false 0 0 30 [some (vR 0), some (vI a1), some (vI a2), some (vI a3)] [vI x7.1] (wM kn ne fi se x4.1 x4.2.1 x4.2.2.1 x4.2.2.2.1 x4.2.2.2.2.1 x4.2.2.2.2.2.1 x4.2.2.2.2.2.2 x7.2 wa nx oT cF bg ed sF qu qd tr) _
    obtain rfl := Option.some.inj hs
    exact go_ireturn (st := []) (pc := 30) dX6_more_30 rfl (vp_nar_int _) (fun h => by cases h) ⟨rfl, rfl⟩
  · have hs := it_t h3 hs
    refine go_bipush (pc := 10) (-2 : Int32) dX6_more_10 (by decide) ?_
    obtain rfl := Option.some.inj hs
    exact go_ireturn (st := []) (pc := 12) dX6_more_12 rfl (vp_nar_int _) (fun h => by cases h) ⟨rfl, rfl⟩
noncomputable def s_X6_just (kn : (Nat → Int32)) (ne : (Nat → Int32)) (ma : Int32) (on : (Nat → Int32)) (ot : (Nat → Int32)) (ta : (Nat → Int64)) (po : (Nat → Int64)) (ti : (Nat → Int64)) (nu : (Nat → Int64)) (mo : (Nat → Int64)) (a1 : Int32) (a2 : Int32) (a3 : Int32) : Option (Int32 × Int32 × (Nat → Int32) × (Nat → Int32) × (Nat → Int64) × (Nat → Int64) × (Nat → Int64) × (Nat → Int64) × (Nat → Int64)) := (s_X6_isAsked a1 a2 a3).bind (fun x1 => if x1 = 0 then (some ((-2 : Int32), ma, on, ot, ta, po, ti, nu, mo)) else ((s_X6_layOwn kn ne ma on ot ta po ti nu a1 a2).bind (fun x4 => chk a1 4 ((s_X6_justOf x4.2.2.2.2.2.2 mo (kn a1.toNatClampNeg) a3).bind (fun x7 => some (x7.1, x4.1, x4.2.1, x4.2.2.1, x4.2.2.2.1, x4.2.2.2.2.1, x4.2.2.2.2.2.1, x4.2.2.2.2.2.2, x7.2))))))
set_option maxRecDepth 20000 in
theorem c_X6_just {d : Nat}  {a1 : Int32} {a2 : Int32} {a3 : Int32} {res : Int32 × Int32 × (Nat → Int32) × (Nat → Int32) × (Nat → Int64) × (Nat → Int64) × (Nat → Int64) × (Nat → Int64) × (Nat → Int64)} (hs : s_X6_just kn ne ma on ot ta po ti nu mo a1 a2 a3 = some res) : Calls mX6_just (d + 4) false 0 0 [vR 0, vI a1, vI a2, vI a3] (wM kn ne fi se ma on ot ta po ti nu mo wa nx oT cF bg ed sF qu qd tr) (fun r w' => r = some (vI res.1) ∧ w' = (wM kn ne fi se res.2.1 res.2.2.1 res.2.2.2.1 res.2.2.2.2.1 res.2.2.2.2.2.1 res.2.2.2.2.2.2.1 res.2.2.2.2.2.2.2.1 res.2.2.2.2.2.2.2.2 wa nx oT cF bg ed sF qu qd tr)) := by
  unfold s_X6_just at hs
  refine Calls.of kX6_just 0 [some (vR 0), some (vI a1), some (vI a2), some (vI a3)] rfl (Nat.le_of_ble_eq_true rfl) ?_
  refine go_aload_n (pc := 0) 0 dX6_just_0 rfl rfl ?_
  refine go_iload_n (pc := 1) 1 dX6_just_1 rfl rfl ?_
  refine go_iload_n (pc := 2) 2 dX6_just_2 rfl rfl ?_
  refine go_iload_n (pc := 3) 3 dX6_just_3 rfl rfl ?_
  obtain ⟨x1, hc2, hs⟩ := bnd hs
  refine go_callV (bc := 0) (bs := 0) (mc := 0) (ms := 0) (d := d + 3) (pc := 4) (a := 0) (ci := 6) [vI a1, vI a2, vI a3] [] dX6_just_4 kX6_isAsked mlX6_130 ivX6_isAsked rfl rfl rfl rfl (Nat.le_of_ble_eq_true rfl) rfl (c_X6_isAsked (d := d + 1) hc2) (fun r w' hq => ?_)
  obtain ⟨rfl, rfl⟩ := hq
  show Go mX6_just (d + 4) false 0 0 7 [some (vR 0), some (vI a1), some (vI a2), some (vI a3)] [vI x1] (wM kn ne fi se ma on ot ta po ti nu mo wa nx oT cF bg ed sF qu qd tr) _
  refine go_if_ne (pc := 7) 13 dX6_just_7 (by decide) (fun h3 => ?_) (fun h3 => ?_)
  · have hs := it_f h3 hs
    refine go_aload_n (pc := 13) 0 dX6_just_13 rfl rfl ?_
    refine go_iload_n (pc := 14) 1 dX6_just_14 rfl rfl ?_
    refine go_iload_n (pc := 15) 2 dX6_just_15 rfl rfl ?_
    obtain ⟨x4, hc5, hs⟩ := bnd hs
    refine go_callV (bc := 0) (bs := 0) (mc := 0) (ms := 0) (d := d + 3) (pc := 16) (a := 0) (ci := 6) [vI a1, vI a2] [] dX6_just_16 kX6_layOwn mlX6_133 ivX6_layOwn rfl rfl rfl rfl (Nat.le_of_ble_eq_true rfl) rfl (c_X6_layOwn (d := d + 0) hc5) (fun r w' hq => ?_)
    obtain ⟨rfl, rfl⟩ := hq
    show Go mX6_just (d + 4) false 0 0 19 [some (vR 0), some (vI a1), some (vI a2), some (vI a3)] [] (wM kn ne fi se x4.1 x4.2.1 x4.2.2.1 x4.2.2.2.1 x4.2.2.2.2.1 x4.2.2.2.2.2.1 x4.2.2.2.2.2.2 mo wa nx oT cF bg ed sF qu qd tr) _
    refine go_aload_n (pc := 19) 0 dX6_just_19 rfl rfl ?_
    refine go_aload_n (pc := 20) 0 dX6_just_20 rfl rfl ?_
    refine go_getfield (pc := 21) (v := vR 1) 0 6 0 dX6_just_21 flX6_7 rfl rfl ?_
    refine go_iload_n (pc := 24) 1 dX6_just_24 rfl rfl ?_
    obtain ⟨hi6, hs⟩ := chk_t hs
    refine go_iaload (pc := 25) 1 dX6_just_25 rfl hi6 ?_
    refine go_iload_n (pc := 26) 3 dX6_just_26 rfl rfl ?_
    obtain ⟨x7, hc8, hs⟩ := bnd hs
    refine go_callV (bc := 0) (bs := 0) (mc := 0) (ms := 0) (d := d + 3) (pc := 27) (a := 0) (ci := 6) [vI (kn a1.toNatClampNeg), vI a3] [] dX6_just_27 kX6_justOf mlX6_139 ivX6_justOf rfl rfl rfl rfl (Nat.le_of_ble_eq_true rfl) rfl (c_X6_justOf (d := d + 2) hc8) (fun r w' hq => ?_)
    obtain ⟨rfl, rfl⟩ := hq
    show Go mX6_just (d + 4) false 0 0 30 [some (vR 0), some (vI a1), some (vI a2), some (vI a3)] [vI x7.1] (wM kn ne fi se x4.1 x4.2.1 x4.2.2.1 x4.2.2.2.1 x4.2.2.2.2.1 x4.2.2.2.2.2.1 x4.2.2.2.2.2.2 x7.2 wa nx oT cF bg ed sF qu qd tr) _
    obtain rfl := Option.some.inj hs
    exact go_ireturn (st := []) (pc := 30) dX6_just_30 rfl (vp_nar_int _) (fun h => by cases h) ⟨rfl, rfl⟩
  · have hs := it_t h3 hs
    refine go_bipush (pc := 10) (-2 : Int32) dX6_just_10 (by decide) ?_
    obtain rfl := Option.some.inj hs
    exact go_ireturn (st := []) (pc := 12) dX6_just_12 rfl (vp_nar_int _) (fun h => by cases h) ⟨rfl, rfl⟩
end
