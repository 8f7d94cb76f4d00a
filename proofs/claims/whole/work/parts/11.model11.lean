section
variable {kn : (Nat → Int32)} {ne : (Nat → Int32)} {fi : (Nat → Int32)} {se : (Nat → Int32)} {ma : Int32} {on : (Nat → Int32)} {ot : (Nat → Int32)} {ta : (Nat → Int64)} {po : (Nat → Int64)} {ti : (Nat → Int64)} {nu : (Nat → Int64)} {mo : (Nat → Int64)} {wa : (Nat → Int64)} {nx : (Nat → Int64)} {oT : (Nat → Int32)} {cF : (Nat → Int32)} {bg : Int32} {ed : Int32} {sF : (Nat → Int32)} {qu : (Nat → Int32)} {qd : Int32} {tr : (Nat → Int32)}
noncomputable def b_X6_oneMore_11  (x : Int32 × (Nat → Int32)) : Option ((Int32 × (Nat → Int32)) ⊕ ((Nat → Int32))) := if (20 : Int32) ≤ x.1 then (some (Sum.inr x.2)) else (chk x.1 20 (some (Sum.inl (x.1 + (1 : Int32), upd x.2 x.1.toNatClampNeg (-2 : Int32)))))
noncomputable def b_X6_oneMore_41 (bg : Int32) (y2 : Int32) (y4 : Int32) (x : Int32 × (Nat → Int32) × (Nat → Int32) × Int32) : Option ((Int32 × (Nat → Int32) × (Nat → Int32) × Int32) ⊕ ((Nat → Int32) × (Nat → Int32) × Int32)) := if y4 ≤ x.1 then (some (Sum.inr (x.2.1, x.2.2.1, x.2.2.2))) else (if ((y2 >>> (x.1 &&& 31)) &&& (1 : Int32)) = (1 : Int32) then (if ((bg >>> (x.1 &&& 31)) &&& (1 : Int32)) = 0 then ((s_X6_see x.2.1 x.2.2.1 x.2.2.2 ((2 : Int32) * x.1) (-1 : Int32)).bind (fun x10 => some (Sum.inl (x.1 + (1 : Int32), x10.1, x10.2.1, x10.2.2)))) else (some (Sum.inl (x.1 + (1 : Int32), x.2.1, x.2.2.1, x.2.2.2)))) else (some (Sum.inl (x.1 + (1 : Int32), x.2.1, x.2.2.1, x.2.2.2))))
noncomputable def b_X6_oneMore_238 (ne : (Nat → Int32)) (oT : (Nat → Int32)) (y1 : Int32) (y4 : Int32) (y6 : Int32) (x : Int32 × (Nat → Int32) × (Nat → Int32) × Int32) : Option ((Int32 × (Nat → Int32) × (Nat → Int32) × Int32) ⊕ ((Nat → Int32) × (Nat → Int32) × Int32)) := if y4 ≤ x.1 then (some (Sum.inr (x.2.1, x.2.2.1, x.2.2.2))) else ((s_X6_has ne y1 y6 x.1).bind (fun x27 => if x27 = 0 then (some (Sum.inl (x.1 + (1 : Int32), x.2.1, x.2.2.1, x.2.2.2))) else (chk y6 10 (if (oT y6.toNatClampNeg) = x.1 then (some (Sum.inl (x.1 + (1 : Int32), x.2.1, x.2.2.1, x.2.2.2))) else ((s_X6_see x.2.1 x.2.2.1 x.2.2.2 ((2 : Int32) * x.1) (((2 : Int32) * y6) + (1 : Int32))).bind (fun x32 => some (Sum.inl (x.1 + (1 : Int32), x32.1, x32.2.1, x32.2.2))))))))
noncomputable def b_X6_oneMore_88 (ne : (Nat → Int32)) (oT : (Nat → Int32)) (cF : (Nat → Int32)) (bg : Int32) (ed : Int32) (y1 : Int32) (y3 : Int32) (y4 : Int32) (x : Int32 × (Nat → Int32) × (Nat → Int32) × Int32) : Option ((Int32 × (Nat → Int32) × (Nat → Int32) × Int32) ⊕ ((Int32 × (Nat → Int32) × (Nat → Int32) × Int32) ⊕ ((Nat → Int32) × (Nat → Int32) × Int32))) := if x.2.2.2 ≤ x.1 then (some (Sum.inr (Sum.inr (x.2.1, x.2.2.1, x.2.2.2)))) else (chk x.1 20 (chk x.1 20 (if ((x.2.2.1 x.1.toNatClampNeg) - (x.2.2.1 x.1.toNatClampNeg) / (2 : Int32) * (2 : Int32)) = 0 then ((s_X6_isUsed cF bg ((x.2.2.1 x.1.toNatClampNeg) / (2 : Int32))).bind (fun x66 => if x66 = 0 then ((s_X6_see x.2.1 x.2.2.1 x.2.2.2 (((2 : Int32) * ((x.2.2.1 x.1.toNatClampNeg) / (2 : Int32))) + (1 : Int32)) ((2 : Int32) * ((x.2.2.1 x.1.toNatClampNeg) / (2 : Int32)))).bind (fun x74 => some (Sum.inl (x.1 + (1 : Int32), x74.1, x74.2.1, x74.2.2)))) else (chk ((x.2.2.1 x.1.toNatClampNeg) / (2 : Int32)) 10 (if (cF ((x.2.2.1 x.1.toNatClampNeg) / (2 : Int32)).toNatClampNeg) < 0 then (some (Sum.inl (x.1 + (1 : Int32), x.2.1, x.2.2.1, x.2.2.2))) else (chk ((x.2.2.1 x.1.toNatClampNeg) / (2 : Int32)) 10 ((s_X6_see x.2.1 x.2.2.1 x.2.2.2 (((2 : Int32) * (cF ((x.2.2.1 x.1.toNatClampNeg) / (2 : Int32)).toNatClampNeg)) + (1 : Int32)) ((2 : Int32) * ((x.2.2.1 x.1.toNatClampNeg) / (2 : Int32)))).bind (fun x72 => some (Sum.inl (x.1 + (1 : Int32), x72.1, x72.2.1, x72.2.2))))))))) else (if ((y3 >>> (((x.2.2.1 x.1.toNatClampNeg) / (2 : Int32)) &&& 31)) &&& (1 : Int32)) = (1 : Int32) then (if ((ed >>> (((x.2.2.1 x.1.toNatClampNeg) / (2 : Int32)) &&& 31)) &&& (1 : Int32)) = 0 then (some (Sum.inr (Sum.inl ((x.2.2.1 x.1.toNatClampNeg) / (2 : Int32), x.2.1, x.2.2.1, x.2.2.2)))) else ((s_X6_isUsed cF bg ((x.2.2.1 x.1.toNatClampNeg) / (2 : Int32))).bind (fun x49 => if x49 = 0 then ((loop (b_X6_oneMore_238 ne oT y1 y4 ((x.2.2.1 x.1.toNatClampNeg) / (2 : Int32))) ((0 : Int32), x.2.1, x.2.2.1, x.2.2.2)).bind (fun e52 => some (Sum.inl (x.1 + (1 : Int32), e52.1, e52.2.1, e52.2.2)))) else ((s_X6_see x.2.1 x.2.2.1 x.2.2.2 ((2 : Int32) * ((x.2.2.1 x.1.toNatClampNeg) / (2 : Int32))) (((2 : Int32) * ((x.2.2.1 x.1.toNatClampNeg) / (2 : Int32))) + (1 : Int32))).bind (fun x58 => (loop (b_X6_oneMore_238 ne oT y1 y4 ((x.2.2.1 x.1.toNatClampNeg) / (2 : Int32))) ((0 : Int32), x58.1, x58.2.1, x58.2.2)).bind (fun e60 => some (Sum.inl (x.1 + (1 : Int32), e60.1, e60.2.1, e60.2.2)))))))) else ((s_X6_isUsed cF bg ((x.2.2.1 x.1.toNatClampNeg) / (2 : Int32))).bind (fun x23 => if x23 = 0 then ((loop (b_X6_oneMore_238 ne oT y1 y4 ((x.2.2.1 x.1.toNatClampNeg) / (2 : Int32))) ((0 : Int32), x.2.1, x.2.2.1, x.2.2.2)).bind (fun e34 => some (Sum.inl (x.1 + (1 : Int32), e34.1, e34.2.1, e34.2.2)))) else ((s_X6_see x.2.1 x.2.2.1 x.2.2.2 ((2 : Int32) * ((x.2.2.1 x.1.toNatClampNeg) / (2 : Int32))) (((2 : Int32) * ((x.2.2.1 x.1.toNatClampNeg) / (2 : Int32))) + (1 : Int32))).bind (fun x40 => (loop (b_X6_oneMore_238 ne oT y1 y4 ((x.2.2.1 x.1.toNatClampNeg) / (2 : Int32))) ((0 : Int32), x40.1, x40.2.1, x40.2.2)).bind (fun e42 => some (Sum.inl (x.1 + (1 : Int32), e42.1, e42.2.1, e42.2.2)))))))))))
noncomputable def s_X6_oneMore (kn : (Nat → Int32)) (ne : (Nat → Int32)) (oT : (Nat → Int32)) (cF : (Nat → Int32)) (bg : Int32) (ed : Int32) (sF : (Nat → Int32)) (qu : (Nat → Int32)) (qd : Int32) (tr : (Nat → Int32)) (a1 : Int32) (a2 : Int32) (a3 : Int32) : Option (Int32 × (Nat → Int32) × (Nat → Int32) × Int32 × Int32 × (Nat → Int32) × (Nat → Int32) × Int32 × (Nat → Int32)) := chk a1 4 ((loop (b_X6_oneMore_11) ((0 : Int32), sF)).bind (fun e4 => (loop (b_X6_oneMore_41 bg a2 (kn a1.toNatClampNeg)) ((0 : Int32), e4, qu, (0 : Int32))).bind (fun e12 => (loop (b_X6_oneMore_88 ne oT cF bg ed a1 a3 (kn a1.toNatClampNeg)) ((0 : Int32), e12.1, e12.2.1, e12.2.2)).bind (fun e76 => Sum.elim (fun e78 => (s_X6_lay oT cF bg ed e78.2.1 tr (((2 : Int32) * e78.1) + (1 : Int32))).bind (fun x87 => some ((1 : Int32), x87.1, x87.2.1, x87.2.2.1, x87.2.2.2.1, e78.2.1, e78.2.2.1, e78.2.2.2, x87.2.2.2.2))) (fun e83 => some ((0 : Int32), oT, cF, bg, ed, e83.1, e83.2.1, e83.2.2, tr)) e76))))
set_option maxRecDepth 20000 in
theorem g_X6_oneMore_11 {d : Nat} {Q : Option AV → List AC → Prop} {y1 : Int32} {y2 : Int32} {y3 : Int32} {y4 : Int32} (x0_ : Int32) (x1_ : (Nat → Int32)) (r : (Nat → Int32)) (hl : loop (b_X6_oneMore_11 ) (x0_, x1_) = some r) (hk : Go mX6_oneMore (d + 1) false 0 0 33 [some (vR 0), some (vI y1), some (vI y2), some (vI y3), some (vI y4), none, none, none] [] (wM kn ne fi se ma on ot ta po ti nu mo wa nx oT cF bg ed r qu qd tr) Q) : Go mX6_oneMore (d + 1) false 0 0 11 [some (vR 0), some (vI y1), some (vI y2), some (vI y3), some (vI y4), some (vI x0_), none, none] [] (wM kn ne fi se ma on ot ta po ti nu mo wa nx oT cF bg ed x1_ qu qd tr) Q := by
  refine loop_go (P := fun x : Int32 × (Nat → Int32) => ∀ (x0_ : Int32) (x1_ : (Nat → Int32)), x = (x0_, x1_) → Go mX6_oneMore (d + 1) false 0 0 11 [some (vR 0), some (vI y1), some (vI y2), some (vI y3), some (vI y4), some (vI x0_), none, none] [] (wM kn ne fi se ma on ot ta po ti nu mo wa nx oT cF bg ed x1_ qu qd tr) Q) (K := fun r : (Nat → Int32) => Go mX6_oneMore (d + 1) false 0 0 33 [some (vR 0), some (vI y1), some (vI y2), some (vI y3), some (vI y4), none, none, none] [] (wM kn ne fi se ma on ot ta po ti nu mo wa nx oT cF bg ed r qu qd tr) Q) ?_ (x0_, x1_) r hl hk x0_ x1_ rfl
  · intro x y hs hI hE x0_ x1_ hx
    subst hx
    unfold b_X6_oneMore_11 at hs
    try dsimp only at hs
    refine go_iload (pc := 11) dX6_oneMore_11 rfl ?_
    refine go_bipush (pc := 13) (20 : Int32) dX6_oneMore_13 (by decide) ?_
    refine go_icmp_ge (pc := 15) 33 dX6_oneMore_15 (by decide) (fun h2 => ?_) (fun h2 => ?_)
    · have hs := it_t h2 hs
      obtain rfl := Option.some.inj hs
      refine go_sub (lv' := [some (vR 0), some (vI y1), some (vI y2), some (vI y3), some (vI y4), none, none, none]) ⟨rfl, ⟨rfl, ⟨rfl, ⟨rfl, ⟨rfl, trivial⟩⟩⟩⟩⟩ ?_
      exact hE x1_ rfl
    · have hs := it_f h2 hs
      refine go_aload_n (pc := 18) 0 dX6_oneMore_18 rfl rfl ?_
      refine go_getfield (pc := 19) (v := vR 16) 0 6 18 dX6_oneMore_19 flX6_56 rfl rfl ?_
      refine go_iload (pc := 22) dX6_oneMore_22 rfl ?_
      refine go_bipush (pc := 24) (-2 : Int32) dX6_oneMore_24 (by decide) ?_
      obtain ⟨hi3, hs⟩ := chk_t hs
      refine go_iastore (pc := 26) 16 dX6_oneMore_26 rfl hi3 (show Go mX6_oneMore (d + 1) false 0 0 27 [some (vR 0), some (vI y1), some (vI y2), some (vI y3), some (vI y4), some (vI x0_), none, none] [] (wM kn ne fi se ma on ot ta po ti nu mo wa nx oT cF bg ed (upd x1_ x0_.toNatClampNeg (-2 : Int32)) qu qd tr) Q from ?_)
      refine go_iinc (pc := 27) (x0_ + (1 : Int32)) [some (vR 0), some (vI y1), some (vI y2), some (vI y3), some (vI y4), some (vI (x0_ + (1 : Int32))), none, none] dX6_oneMore_27 rfl (iinc_1 _) (by decide) rfl ?_
      refine go_goto (pc := 30) 11 dX6_oneMore_30 (by decide) ?_
      obtain rfl := Option.some.inj hs
      exact hI (x0_ + (1 : Int32), upd x1_ x0_.toNatClampNeg (-2 : Int32)) rfl (x0_ + (1 : Int32)) (upd x1_ x0_.toNatClampNeg (-2 : Int32)) rfl
set_option maxRecDepth 20000 in
theorem g_X6_oneMore_41 {d : Nat} {Q : Option AV → List AC → Prop} {y1 : Int32} {y2 : Int32} {y3 : Int32} {y4 : Int32} (x0_ : Int32) (x1_ : (Nat → Int32)) (x2_ : (Nat → Int32)) (x3_ : Int32) (r : (Nat → Int32) × (Nat → Int32) × Int32) (hl : loop (b_X6_oneMore_41 bg y2 y4) (x0_, x1_, x2_, x3_) = some r) (hk : ∀ (r0_ : (Nat → Int32)) (r1_ : (Nat → Int32)) (r2_ : Int32), r = (r0_, r1_, r2_) → Go mX6_oneMore (d + 1) false 0 0 85 [some (vR 0), some (vI y1), none, some (vI y3), some (vI y4), none, none, none] [] (wM kn ne fi se ma on ot ta po ti nu mo wa nx oT cF bg ed r0_ r1_ r2_ tr) Q) : Go mX6_oneMore (d + 1) false 0 0 41 [some (vR 0), some (vI y1), some (vI y2), some (vI y3), some (vI y4), some (vI x0_), none, none] [] (wM kn ne fi se ma on ot ta po ti nu mo wa nx oT cF bg ed x1_ x2_ x3_ tr) Q := by
  refine loop_go (P := fun x : Int32 × (Nat → Int32) × (Nat → Int32) × Int32 => ∀ (x0_ : Int32) (x1_ : (Nat → Int32)) (x2_ : (Nat → Int32)) (x3_ : Int32), x = (x0_, x1_, x2_, x3_) → Go mX6_oneMore (d + 1) false 0 0 41 [some (vR 0), some (vI y1), some (vI y2), some (vI y3), some (vI y4), some (vI x0_), none, none] [] (wM kn ne fi se ma on ot ta po ti nu mo wa nx oT cF bg ed x1_ x2_ x3_ tr) Q) (K := fun r : (Nat → Int32) × (Nat → Int32) × Int32 => ∀ (r0_ : (Nat → Int32)) (r1_ : (Nat → Int32)) (r2_ : Int32), r = (r0_, r1_, r2_) → Go mX6_oneMore (d + 1) false 0 0 85 [some (vR 0), some (vI y1), none, some (vI y3), some (vI y4), none, none, none] [] (wM kn ne fi se ma on ot ta po ti nu mo wa nx oT cF bg ed r0_ r1_ r2_ tr) Q) ?_ (x0_, x1_, x2_, x3_) r hl hk x0_ x1_ x2_ x3_ rfl
  · intro x y hs hI hE x0_ x1_ x2_ x3_ hx
    subst hx
    unfold b_X6_oneMore_41 at hs
    try dsimp only at hs
    refine go_iload (pc := 41) dX6_oneMore_41 rfl ?_
    refine go_iload (pc := 43) dX6_oneMore_43 rfl ?_
    refine go_icmp_ge (pc := 45) 85 dX6_oneMore_45 (by decide) (fun h7 => ?_) (fun h7 => ?_)
    · have hs := it_t h7 hs
      obtain rfl := Option.some.inj hs
      refine go_sub (lv' := [some (vR 0), some (vI y1), none, some (vI y3), some (vI y4), none, none, none]) ⟨rfl, ⟨rfl, ⟨rfl, ⟨rfl, trivial⟩⟩⟩⟩ ?_
      exact (hE (x1_, x2_, x3_) rfl) x1_ x2_ x3_ rfl
    · have hs := it_f h7 hs
      refine go_iload_n (pc := 48) 2 dX6_oneMore_48 rfl rfl ?_
      refine go_iload (pc := 49) dX6_oneMore_49 rfl ?_
      refine go_ishr (pc := 51) dX6_oneMore_51 ?_
      refine go_iconst (pc := 52) (1 : Int32) dX6_oneMore_52 (by decide) ?_
      refine go_iand (pc := 53) dX6_oneMore_53 ?_
      refine go_iconst (pc := 54) (1 : Int32) dX6_oneMore_54 (by decide) ?_
      refine go_icmp_ne (pc := 55) 79 dX6_oneMore_55 (by decide) (fun h8 => ?_) (fun h8 => ?_)
      · have hs := it_f h8 hs
        refine go_iinc (pc := 79) (x0_ + (1 : Int32)) [some (vR 0), some (vI y1), some (vI y2), some (vI y3), some (vI y4), some (vI (x0_ + (1 : Int32))), none, none] dX6_oneMore_79 rfl (iinc_1 _) (by decide) rfl ?_
        refine go_goto (pc := 82) 41 dX6_oneMore_82 (by decide) ?_
        obtain rfl := Option.some.inj hs
        exact hI (x0_ + (1 : Int32), x1_, x2_, x3_) rfl (x0_ + (1 : Int32)) x1_ x2_ x3_ rfl
      · have hs := it_t h8 hs
        refine go_aload_n (pc := 58) 0 dX6_oneMore_58 rfl rfl ?_
        refine go_getfield (pc := 59) (v := vI bg) 0 6 16 dX6_oneMore_59 flX6_155 rfl rfl ?_
        refine go_iload (pc := 62) dX6_oneMore_62 rfl ?_
        refine go_ishr (pc := 64) dX6_oneMore_64 ?_
        refine go_iconst (pc := 65) (1 : Int32) dX6_oneMore_65 (by decide) ?_
        refine go_iand (pc := 66) dX6_oneMore_66 ?_
        refine go_if_ne (pc := 67) 79 dX6_oneMore_67 (by decide) (fun h9 => ?_) (fun h9 => ?_)
        · have hs := it_f h9 hs
          refine go_iinc (pc := 79) (x0_ + (1 : Int32)) [some (vR 0), some (vI y1), some (vI y2), some (vI y3), some (vI y4), some (vI (x0_ + (1 : Int32))), none, none] dX6_oneMore_79 rfl (iinc_1 _) (by decide) rfl ?_
          refine go_goto (pc := 82) 41 dX6_oneMore_82 (by decide) ?_
          obtain rfl := Option.some.inj hs
          exact hI (x0_ + (1 : Int32), x1_, x2_, x3_) rfl (x0_ + (1 : Int32)) x1_ x2_ x3_ rfl
        · have hs := it_t h9 hs
          refine go_aload_n (pc := 70) 0 dX6_oneMore_70 rfl rfl ?_
          refine go_iconst (pc := 71) (2 : Int32) dX6_oneMore_71 (by decide) ?_
          refine go_iload (pc := 72) dX6_oneMore_72 rfl ?_
          refine go_imul (pc := 74) dX6_oneMore_74 ?_
          refine go_iconst (pc := 75) (-1 : Int32) dX6_oneMore_75 (by decide) ?_
          obtain ⟨x10, hc11, hs⟩ := bnd hs
          refine go_callV (bc := 0) (bs := 0) (mc := 0) (ms := 0) (d := d + 0) (pc := 76) (a := 0) (ci := 6) [vI ((2 : Int32) * x0_), vI (-1 : Int32)] [] dX6_oneMore_76 kX6_see mlX6_158 ivX6_see rfl rfl rfl rfl (Nat.le_of_ble_eq_true rfl) rfl (c_X6_see (d := d + 0) (res0 := x10.1) (res1 := x10.2.1) (res2 := x10.2.2) hc11) (fun r w' hq => ?_)
          obtain ⟨rfl, rfl⟩ := hq
          show Go mX6_oneMore (d + 1) false 0 0 79 [some (vR 0), some (vI y1), some (vI y2), some (vI y3), some (vI y4), some (vI x0_), none, none] [] (wM kn ne fi se ma on ot ta po ti nu mo wa nx oT cF bg ed x10.1 x10.2.1 x10.2.2 tr) Q
          refine go_iinc (pc := 79) (x0_ + (1 : Int32)) [some (vR 0), some (vI y1), some (vI y2), some (vI y3), some (vI y4), some (vI (x0_ + (1 : Int32))), none, none] dX6_oneMore_79 rfl (iinc_1 _) (by decide) rfl ?_
          refine go_goto (pc := 82) 41 dX6_oneMore_82 (by decide) ?_
          obtain rfl := Option.some.inj hs
          exact hI (x0_ + (1 : Int32), x10.1, x10.2.1, x10.2.2) rfl (x0_ + (1 : Int32)) x10.1 x10.2.1 x10.2.2 rfl
set_option maxRecDepth 20000 in
theorem g_X6_oneMore_238 {d : Nat} {Q : Option AV → List AC → Prop} {y1 : Int32} {y3 : Int32} {y4 : Int32} {y5 : Int32} {y6 : Int32} (x0_ : Int32) (x1_ : (Nat → Int32)) (x2_ : (Nat → Int32)) (x3_ : Int32) (r : (Nat → Int32) × (Nat → Int32) × Int32) (hl : loop (b_X6_oneMore_238 ne oT y1 y4 y6) (x0_, x1_, x2_, x3_) = some r) (hk : ∀ (r0_ : (Nat → Int32)) (r1_ : (Nat → Int32)) (r2_ : Int32), r = (r0_, r1_, r2_) → Go mX6_oneMore (d + 1) false 0 0 289 [some (vR 0), some (vI y1), none, some (vI y3), some (vI y4), some (vI y5), none, none] [] (wM kn ne fi se ma on ot ta po ti nu mo wa nx oT cF bg ed r0_ r1_ r2_ tr) Q) : Go mX6_oneMore (d + 1) false 0 0 238 [some (vR 0), some (vI y1), none, some (vI y3), some (vI y4), some (vI y5), some (vI y6), some (vI x0_)] [] (wM kn ne fi se ma on ot ta po ti nu mo wa nx oT cF bg ed x1_ x2_ x3_ tr) Q := by
  refine loop_go (P := fun x : Int32 × (Nat → Int32) × (Nat → Int32) × Int32 => ∀ (x0_ : Int32) (x1_ : (Nat → Int32)) (x2_ : (Nat → Int32)) (x3_ : Int32), x = (x0_, x1_, x2_, x3_) → Go mX6_oneMore (d + 1) false 0 0 238 [some (vR 0), some (vI y1), none, some (vI y3), some (vI y4), some (vI y5), some (vI y6), some (vI x0_)] [] (wM kn ne fi se ma on ot ta po ti nu mo wa nx oT cF bg ed x1_ x2_ x3_ tr) Q) (K := fun r : (Nat → Int32) × (Nat → Int32) × Int32 => ∀ (r0_ : (Nat → Int32)) (r1_ : (Nat → Int32)) (r2_ : Int32), r = (r0_, r1_, r2_) → Go mX6_oneMore (d + 1) false 0 0 289 [some (vR 0), some (vI y1), none, some (vI y3), some (vI y4), some (vI y5), none, none] [] (wM kn ne fi se ma on ot ta po ti nu mo wa nx oT cF bg ed r0_ r1_ r2_ tr) Q) ?_ (x0_, x1_, x2_, x3_) r hl hk x0_ x1_ x2_ x3_ rfl
  · intro x y hs hI hE x0_ x1_ x2_ x3_ hx
    subst hx
    unfold b_X6_oneMore_238 at hs
    try dsimp only at hs
    refine go_iload (pc := 238) dX6_oneMore_238 rfl ?_
    refine go_iload (pc := 240) dX6_oneMore_240 rfl ?_
    refine go_icmp_ge (pc := 242) 289 dX6_oneMore_242 (by decide) (fun h26 => ?_) (fun h26 => ?_)
    · have hs := it_t h26 hs
      obtain rfl := Option.some.inj hs
      refine go_sub (lv' := [some (vR 0), some (vI y1), none, some (vI y3), some (vI y4), some (vI y5), none, none]) ⟨rfl, ⟨rfl, ⟨rfl, ⟨rfl, ⟨rfl, trivial⟩⟩⟩⟩⟩ ?_
      exact (hE (x1_, x2_, x3_) rfl) x1_ x2_ x3_ rfl
    · have hs := it_f h26 hs
      refine go_aload_n (pc := 245) 0 dX6_oneMore_245 rfl rfl ?_
      refine go_iload_n (pc := 246) 1 dX6_oneMore_246 rfl rfl ?_
      refine go_iload (pc := 247) dX6_oneMore_247 rfl ?_
      refine go_iload (pc := 249) dX6_oneMore_249 rfl ?_
      obtain ⟨x27, hc28, hs⟩ := bnd hs
      refine go_callV (bc := 0) (bs := 0) (mc := 0) (ms := 0) (d := d + 0) (pc := 251) (a := 0) (ci := 6) [vI y1, vI y6, vI x0_] [] dX6_oneMore_251 kX6_has mlX6_85 ivX6_has rfl rfl rfl rfl (Nat.le_of_ble_eq_true rfl) rfl (c_X6_has (d := d + 0) (res0 := x27) hc28) (fun r w' hq => ?_)
      obtain ⟨rfl, rfl⟩ := hq
      show Go mX6_oneMore (d + 1) false 0 0 254 [some (vR 0), some (vI y1), none, some (vI y3), some (vI y4), some (vI y5), some (vI y6), some (vI x0_)] [vI x27] (wM kn ne fi se ma on ot ta po ti nu mo wa nx oT cF bg ed x1_ x2_ x3_ tr) Q
      refine go_if_eq (pc := 254) 283 dX6_oneMore_254 (by decide) (fun h29 => ?_) (fun h29 => ?_)
      · have hs := it_t h29 hs
        refine go_iinc (pc := 283) (x0_ + (1 : Int32)) [some (vR 0), some (vI y1), none, some (vI y3), some (vI y4), some (vI y5), some (vI y6), some (vI (x0_ + (1 : Int32)))] dX6_oneMore_283 rfl (iinc_1 _) (by decide) rfl ?_
        refine go_goto (pc := 286) 238 dX6_oneMore_286 (by decide) ?_
        obtain rfl := Option.some.inj hs
        exact hI (x0_ + (1 : Int32), x1_, x2_, x3_) rfl (x0_ + (1 : Int32)) x1_ x2_ x3_ rfl
      · have hs := it_f h29 hs
        refine go_aload_n (pc := 257) 0 dX6_oneMore_257 rfl rfl ?_
        refine go_getfield (pc := 258) (v := vR 14) 0 6 14 dX6_oneMore_258 flX6_50 rfl rfl ?_
        refine go_iload (pc := 261) dX6_oneMore_261 rfl ?_
        obtain ⟨hi30, hs⟩ := chk_t hs
        refine go_iaload (pc := 263) 14 dX6_oneMore_263 rfl hi30 ?_
        refine go_iload (pc := 264) dX6_oneMore_264 rfl ?_
        refine go_icmp_eq (pc := 266) 283 dX6_oneMore_266 (by decide) (fun h31 => ?_) (fun h31 => ?_)
        · have hs := it_t h31 hs
          refine go_iinc (pc := 283) (x0_ + (1 : Int32)) [some (vR 0), some (vI y1), none, some (vI y3), some (vI y4), some (vI y5), some (vI y6), some (vI (x0_ + (1 : Int32)))] dX6_oneMore_283 rfl (iinc_1 _) (by decide) rfl ?_
          refine go_goto (pc := 286) 238 dX6_oneMore_286 (by decide) ?_
          obtain rfl := Option.some.inj hs
          exact hI (x0_ + (1 : Int32), x1_, x2_, x3_) rfl (x0_ + (1 : Int32)) x1_ x2_ x3_ rfl
        · have hs := it_f h31 hs
          refine go_aload_n (pc := 269) 0 dX6_oneMore_269 rfl rfl ?_
          refine go_iconst (pc := 270) (2 : Int32) dX6_oneMore_270 (by decide) ?_
          refine go_iload (pc := 271) dX6_oneMore_271 rfl ?_
          refine go_imul (pc := 273) dX6_oneMore_273 ?_
          refine go_iconst (pc := 274) (2 : Int32) dX6_oneMore_274 (by decide) ?_
          refine go_iload (pc := 275) dX6_oneMore_275 rfl ?_
          refine go_imul (pc := 277) dX6_oneMore_277 ?_
          refine go_iconst (pc := 278) (1 : Int32) dX6_oneMore_278 (by decide) ?_
          refine go_iadd (pc := 279) dX6_oneMore_279 ?_
          obtain ⟨x32, hc33, hs⟩ := bnd hs
          refine go_callV (bc := 0) (bs := 0) (mc := 0) (ms := 0) (d := d + 0) (pc := 280) (a := 0) (ci := 6) [vI ((2 : Int32) * x0_), vI (((2 : Int32) * y6) + (1 : Int32))] [] dX6_oneMore_280 kX6_see mlX6_158 ivX6_see rfl rfl rfl rfl (Nat.le_of_ble_eq_true rfl) rfl (c_X6_see (d := d + 0) (res0 := x32.1) (res1 := x32.2.1) (res2 := x32.2.2) hc33) (fun r w' hq => ?_)
          obtain ⟨rfl, rfl⟩ := hq
          show Go mX6_oneMore (d + 1) false 0 0 283 [some (vR 0), some (vI y1), none, some (vI y3), some (vI y4), some (vI y5), some (vI y6), some (vI x0_)] [] (wM kn ne fi se ma on ot ta po ti nu mo wa nx oT cF bg ed x32.1 x32.2.1 x32.2.2 tr) Q
          refine go_iinc (pc := 283) (x0_ + (1 : Int32)) [some (vR 0), some (vI y1), none, some (vI y3), some (vI y4), some (vI y5), some (vI y6), some (vI (x0_ + (1 : Int32)))] dX6_oneMore_283 rfl (iinc_1 _) (by decide) rfl ?_
          refine go_goto (pc := 286) 238 dX6_oneMore_286 (by decide) ?_
          obtain rfl := Option.some.inj hs
          exact hI (x0_ + (1 : Int32), x32.1, x32.2.1, x32.2.2) rfl (x0_ + (1 : Int32)) x32.1 x32.2.1 x32.2.2 rfl
set_option maxRecDepth 20000 in
theorem g_X6_oneMore_88 {d : Nat} {Q : Option AV → List AC → Prop} {y1 : Int32} {y3 : Int32} {y4 : Int32} (x0_ : Int32) (x1_ : (Nat → Int32)) (x2_ : (Nat → Int32)) (x3_ : Int32) (r : (Int32 × (Nat → Int32) × (Nat → Int32) × Int32) ⊕ ((Nat → Int32) × (Nat → Int32) × Int32)) (hl : loop (b_X6_oneMore_88 ne oT cF bg ed y1 y3 y4) (x0_, x1_, x2_, x3_) = some r) (hk : (∀ (r0_ : Int32) (r1_ : (Nat → Int32)) (r2_ : (Nat → Int32)) (r3_ : Int32), r = Sum.inl (r0_, r1_, r2_, r3_) → Go mX6_oneMore (d + 1) false 0 0 200 [some (vR 0), none, none, none, none, none, some (vI r0_), none] [] (wM kn ne fi se ma on ot ta po ti nu mo wa nx oT cF bg ed r1_ r2_ r3_ tr) Q) ∧ (∀ (r0_ : (Nat → Int32)) (r1_ : (Nat → Int32)) (r2_ : Int32), r = Sum.inr (r0_, r1_, r2_) → Go mX6_oneMore (d + 1) false 0 0 295 [none, none, none, none, none, none, none, none] [] (wM kn ne fi se ma on ot ta po ti nu mo wa nx oT cF bg ed r0_ r1_ r2_ tr) Q)) : Go mX6_oneMore (d + 1) false 0 0 88 [some (vR 0), some (vI y1), none, some (vI y3), some (vI y4), some (vI x0_), none, none] [] (wM kn ne fi se ma on ot ta po ti nu mo wa nx oT cF bg ed x1_ x2_ x3_ tr) Q := by
  refine loop_go (P := fun x : Int32 × (Nat → Int32) × (Nat → Int32) × Int32 => ∀ (x0_ : Int32) (x1_ : (Nat → Int32)) (x2_ : (Nat → Int32)) (x3_ : Int32), x = (x0_, x1_, x2_, x3_) → Go mX6_oneMore (d + 1) false 0 0 88 [some (vR 0), some (vI y1), none, some (vI y3), some (vI y4), some (vI x0_), none, none] [] (wM kn ne fi se ma on ot ta po ti nu mo wa nx oT cF bg ed x1_ x2_ x3_ tr) Q) (K := fun r : (Int32 × (Nat → Int32) × (Nat → Int32) × Int32) ⊕ ((Nat → Int32) × (Nat → Int32) × Int32) => (∀ (r0_ : Int32) (r1_ : (Nat → Int32)) (r2_ : (Nat → Int32)) (r3_ : Int32), r = Sum.inl (r0_, r1_, r2_, r3_) → Go mX6_oneMore (d + 1) false 0 0 200 [some (vR 0), none, none, none, none, none, some (vI r0_), none] [] (wM kn ne fi se ma on ot ta po ti nu mo wa nx oT cF bg ed r1_ r2_ r3_ tr) Q) ∧ (∀ (r0_ : (Nat → Int32)) (r1_ : (Nat → Int32)) (r2_ : Int32), r = Sum.inr (r0_, r1_, r2_) → Go mX6_oneMore (d + 1) false 0 0 295 [none, none, none, none, none, none, none, none] [] (wM kn ne fi se ma on ot ta po ti nu mo wa nx oT cF bg ed r0_ r1_ r2_ tr) Q)) ?_ (x0_, x1_, x2_, x3_) r hl hk x0_ x1_ x2_ x3_ rfl
  · intro x y hs hI hE x0_ x1_ x2_ x3_ hx
    subst hx
    unfold b_X6_oneMore_88 at hs
    try dsimp only at hs
    refine go_iload (pc := 88) dX6_oneMore_88 rfl ?_
    refine go_aload_n (pc := 90) 0 dX6_oneMore_90 rfl rfl ?_
    refine go_getfield (pc := 91) (v := vI x3_) 0 6 20 dX6_oneMore_91 flX6_152 rfl rfl ?_
    refine go_icmp_ge (pc := 94) 295 dX6_oneMore_94 (by decide) (fun h18 => ?_) (fun h18 => ?_)
    · have hs := it_t h18 hs
      obtain rfl := Option.some.inj hs
      refine go_sub (lv' := [none, none, none, none, none, none, none, none]) trivial ?_
      exact (hE (Sum.inr (x1_, x2_, x3_)) rfl).2 x1_ x2_ x3_ rfl
    · have hs := it_f h18 hs
      refine go_aload_n (pc := 97) 0 dX6_oneMore_97 rfl rfl ?_
      refine go_getfield (pc := 98) (v := vR 17) 0 6 19 dX6_oneMore_98 flX6_59 rfl rfl ?_
      refine go_iload (pc := 101) dX6_oneMore_101 rfl ?_
      obtain ⟨hi19, hs⟩ := chk_t hs
      refine go_iaload (pc := 103) 17 dX6_oneMore_103 rfl hi19 ?_
      refine go_iconst (pc := 104) (2 : Int32) dX6_oneMore_104 (by decide) ?_
      refine go_idiv (pc := 105) dX6_oneMore_105 (by decide) ?_
      refine go_istore (pc := 106) [some (vR 0), some (vI y1), none, some (vI y3), some (vI y4), some (vI x0_), some (vI ((x2_ x0_.toNatClampNeg) / (2 : Int32))), none] dX6_oneMore_106 (by decide) rfl ?_
      refine go_aload_n (pc := 108) 0 dX6_oneMore_108 rfl rfl ?_
      refine go_getfield (pc := 109) (v := vR 17) 0 6 19 dX6_oneMore_109 flX6_59 rfl rfl ?_
      refine go_iload (pc := 112) dX6_oneMore_112 rfl ?_
      obtain ⟨hi20, hs⟩ := chk_t hs
      refine go_iaload (pc := 114) 17 dX6_oneMore_114 rfl hi20 ?_
      refine go_iconst (pc := 115) (2 : Int32) dX6_oneMore_115 (by decide) ?_
      refine go_irem (pc := 116) dX6_oneMore_116 (by decide) ?_
      refine go_if_ne (pc := 117) 178 dX6_oneMore_117 (by decide) (fun h21 => ?_) (fun h21 => ?_)
      · have hs := it_f h21 hs
        refine go_iload_n (pc := 178) 3 dX6_oneMore_178 rfl rfl ?_
        refine go_iload (pc := 179) dX6_oneMore_179 rfl ?_
        refine go_ishr (pc := 181) dX6_oneMore_181 ?_
        refine go_iconst (pc := 182) (1 : Int32) dX6_oneMore_182 (by decide) ?_
        refine go_iand (pc := 183) dX6_oneMore_183 ?_
        refine go_iconst (pc := 184) (1 : Int32) dX6_oneMore_184 (by decide) ?_
        refine go_icmp_ne (pc := 185) 212 dX6_oneMore_185 (by decide) (fun h22 => ?_) (fun h22 => ?_)
        · have hs := it_f h22 hs
          refine go_aload_n (pc := 212) 0 dX6_oneMore_212 rfl rfl ?_
          refine go_iload (pc := 213) dX6_oneMore_213 rfl ?_
          obtain ⟨x23, hc24, hs⟩ := bnd hs
          refine go_callV (bc := 0) (bs := 0) (mc := 0) (ms := 0) (d := d + 0) (pc := 215) (a := 0) (ci := 6) [vI ((x2_ x0_.toNatClampNeg) / (2 : Int32))] [] dX6_oneMore_215 kX6_isUsed mlX6_161 ivX6_isUsed rfl rfl rfl rfl (Nat.le_of_ble_eq_true rfl) rfl (c_X6_isUsed (d := d + 0) (res0 := x23) hc24) (fun r w' hq => ?_)
          obtain ⟨rfl, rfl⟩ := hq
          show Go mX6_oneMore (d + 1) false 0 0 218 [some (vR 0), some (vI y1), none, some (vI y3), some (vI y4), some (vI x0_), some (vI ((x2_ x0_.toNatClampNeg) / (2 : Int32))), none] [vI x23] (wM kn ne fi se ma on ot ta po ti nu mo wa nx oT cF bg ed x1_ x2_ x3_ tr) Q
          refine go_if_eq (pc := 218) 235 dX6_oneMore_218 (by decide) (fun h25 => ?_) (fun h25 => ?_)
          · have hs := it_t h25 hs
            refine go_iconst (pc := 235) (0 : Int32) dX6_oneMore_235 (by decide) ?_
            refine go_istore (pc := 236) [some (vR 0), some (vI y1), none, some (vI y3), some (vI y4), some (vI x0_), some (vI ((x2_ x0_.toNatClampNeg) / (2 : Int32))), some (vI (0 : Int32))] dX6_oneMore_236 (by decide) rfl ?_
            obtain ⟨e34, hl35, hs⟩ := bnd hs
            refine g_X6_oneMore_238 (d := d) (0 : Int32) x1_ x2_ x3_ e34 hl35 ?_
            intro v36 v37 v38 hv39
            subst hv39
            try dsimp only at hs
            refine go_iinc (pc := 289) (x0_ + (1 : Int32)) [some (vR 0), some (vI y1), none, some (vI y3), some (vI y4), some (vI (x0_ + (1 : Int32))), none, none] dX6_oneMore_289 rfl (iinc_1 _) (by decide) rfl ?_
            refine go_goto (pc := 292) 88 dX6_oneMore_292 (by decide) ?_
            obtain rfl := Option.some.inj hs
            exact hI (x0_ + (1 : Int32), v36, v37, v38) rfl (x0_ + (1 : Int32)) v36 v37 v38 rfl
          · have hs := it_f h25 hs
            refine go_aload_n (pc := 221) 0 dX6_oneMore_221 rfl rfl ?_
            refine go_iconst (pc := 222) (2 : Int32) dX6_oneMore_222 (by decide) ?_
            refine go_iload (pc := 223) dX6_oneMore_223 rfl ?_
            refine go_imul (pc := 225) dX6_oneMore_225 ?_
            refine go_iconst (pc := 226) (2 : Int32) dX6_oneMore_226 (by decide) ?_
            refine go_iload (pc := 227) dX6_oneMore_227 rfl ?_
            refine go_imul (pc := 229) dX6_oneMore_229 ?_
            refine go_iconst (pc := 230) (1 : Int32) dX6_oneMore_230 (by decide) ?_
            refine go_iadd (pc := 231) dX6_oneMore_231 ?_
            obtain ⟨x40, hc41, hs⟩ := bnd hs
            refine go_callV (bc := 0) (bs := 0) (mc := 0) (ms := 0) (d := d + 0) (pc := 232) (a := 0) (ci := 6) [vI ((2 : Int32) * ((x2_ x0_.toNatClampNeg) / (2 : Int32))), vI (((2 : Int32) * ((x2_ x0_.toNatClampNeg) / (2 : Int32))) + (1 : Int32))] [] dX6_oneMore_232 kX6_see mlX6_158 ivX6_see rfl rfl rfl rfl (Nat.le_of_ble_eq_true rfl) rfl (c_X6_see (d := d + 0) (res0 := x40.1) (res1 := x40.2.1) (res2 := x40.2.2) hc41) (fun r w' hq => ?_)
            obtain ⟨rfl, rfl⟩ := hq
            show Go mX6_oneMore (d + 1) false 0 0 235 [some (vR 0), some (vI y1), none, some (vI y3), some (vI y4), some (vI x0_), some (vI ((x2_ x0_.toNatClampNeg) / (2 : Int32))), none] [] (wM kn ne fi se ma on ot ta po ti nu mo wa nx oT cF bg ed x40.1 x40.2.1 x40.2.2 tr) Q
            refine go_iconst (pc := 235) (0 : Int32) dX6_oneMore_235 (by decide) ?_
            refine go_istore (pc := 236) [some (vR 0), some (vI y1), none, some (vI y3), some (vI y4), some (vI x0_), some (vI ((x2_ x0_.toNatClampNeg) / (2 : Int32))), some (vI (0 : Int32))] dX6_oneMore_236 (by decide) rfl ?_
            obtain ⟨e42, hl43, hs⟩ := bnd hs
            refine g_X6_oneMore_238 (d := d) (0 : Int32) x40.1 x40.2.1 x40.2.2 e42 hl43 ?_
            intro v44 v45 v46 hv47
            subst hv47
            try dsimp only at hs
            refine go_iinc (pc := 289) (x0_ + (1 : Int32)) [some (vR 0), some (vI y1), none, some (vI y3), some (vI y4), some (vI (x0_ + (1 : Int32))), none, none] dX6_oneMore_289 rfl (iinc_1 _) (by decide) rfl ?_
            refine go_goto (pc := 292) 88 dX6_oneMore_292 (by decide) ?_
            obtain rfl := Option.some.inj hs
            exact hI (x0_ + (1 : Int32), v44, v45, v46) rfl (x0_ + (1 : Int32)) v44 v45 v46 rfl
        · have hs := it_t h22 hs
          refine go_aload_n (pc := 188) 0 dX6_oneMore_188 rfl rfl ?_
          refine go_getfield (pc := 189) (v := vI ed) 0 6 17 dX6_oneMore_189 flX6_164 rfl rfl ?_
          refine go_iload (pc := 192) dX6_oneMore_192 rfl ?_
          refine go_ishr (pc := 194) dX6_oneMore_194 ?_
          refine go_iconst (pc := 195) (1 : Int32) dX6_oneMore_195 (by decide) ?_
          refine go_iand (pc := 196) dX6_oneMore_196 ?_
          refine go_if_ne (pc := 197) 212 dX6_oneMore_197 (by decide) (fun h48 => ?_) (fun h48 => ?_)
          · have hs := it_f h48 hs
            refine go_aload_n (pc := 212) 0 dX6_oneMore_212 rfl rfl ?_
            refine go_iload (pc := 213) dX6_oneMore_213 rfl ?_
            obtain ⟨x49, hc50, hs⟩ := bnd hs
            refine go_callV (bc := 0) (bs := 0) (mc := 0) (ms := 0) (d := d + 0) (pc := 215) (a := 0) (ci := 6) [vI ((x2_ x0_.toNatClampNeg) / (2 : Int32))] [] dX6_oneMore_215 kX6_isUsed mlX6_161 ivX6_isUsed rfl rfl rfl rfl (Nat.le_of_ble_eq_true rfl) rfl (c_X6_isUsed (d := d + 0) (res0 := x49) hc50) (fun r w' hq => ?_)
            obtain ⟨rfl, rfl⟩ := hq
            show Go mX6_oneMore (d + 1) false 0 0 218 [some (vR 0), some (vI y1), none, some (vI y3), some (vI y4), some (vI x0_), some (vI ((x2_ x0_.toNatClampNeg) / (2 : Int32))), none] [vI x49] (wM kn ne fi se ma on ot ta po ti nu mo wa nx oT cF bg ed x1_ x2_ x3_ tr) Q
            refine go_if_eq (pc := 218) 235 dX6_oneMore_218 (by decide) (fun h51 => ?_) (fun h51 => ?_)
            · have hs := it_t h51 hs
              refine go_iconst (pc := 235) (0 : Int32) dX6_oneMore_235 (by decide) ?_
              refine go_istore (pc := 236) [some (vR 0), some (vI y1), none, some (vI y3), some (vI y4), some (vI x0_), some (vI ((x2_ x0_.toNatClampNeg) / (2 : Int32))), some (vI (0 : Int32))] dX6_oneMore_236 (by decide) rfl ?_
              obtain ⟨e52, hl53, hs⟩ := bnd hs
              refine g_X6_oneMore_238 (d := d) (0 : Int32) x1_ x2_ x3_ e52 hl53 ?_
              intro v54 v55 v56 hv57
              subst hv57
              try dsimp only at hs
              refine go_iinc (pc := 289) (x0_ + (1 : Int32)) [some (vR 0), some (vI y1), none, some (vI y3), some (vI y4), some (vI (x0_ + (1 : Int32))), none, none] dX6_oneMore_289 rfl (iinc_1 _) (by decide) rfl ?_
              refine go_goto (pc := 292) 88 dX6_oneMore_292 (by decide) ?_
              obtain rfl := Option.some.inj hs
              exact hI (x0_ + (1 : Int32), v54, v55, v56) rfl (x0_ + (1 : Int32)) v54 v55 v56 rfl
            · have hs := it_f h51 hs
              refine go_aload_n (pc := 221) 0 dX6_oneMore_221 rfl rfl ?_
              refine go_iconst (pc := 222) (2 : Int32) dX6_oneMore_222 (by decide) ?_
              refine go_iload (pc := 223) dX6_oneMore_223 rfl ?_
              refine go_imul (pc := 225) dX6_oneMore_225 ?_
              refine go_iconst (pc := 226) (2 : Int32) dX6_oneMore_226 (by decide) ?_
              refine go_iload (pc := 227) dX6_oneMore_227 rfl ?_
              refine go_imul (pc := 229) dX6_oneMore_229 ?_
              refine go_iconst (pc := 230) (1 : Int32) dX6_oneMore_230 (by decide) ?_
              refine go_iadd (pc := 231) dX6_oneMore_231 ?_
              obtain ⟨x58, hc59, hs⟩ := bnd hs
              refine go_callV (bc := 0) (bs := 0) (mc := 0) (ms := 0) (d := d + 0) (pc := 232) (a := 0) (ci := 6) [vI ((2 : Int32) * ((x2_ x0_.toNatClampNeg) / (2 : Int32))), vI (((2 : Int32) * ((x2_ x0_.toNatClampNeg) / (2 : Int32))) + (1 : Int32))] [] dX6_oneMore_232 kX6_see mlX6_158 ivX6_see rfl rfl rfl rfl (Nat.le_of_ble_eq_true rfl) rfl (c_X6_see (d := d + 0) (res0 := x58.1) (res1 := x58.2.1) (res2 := x58.2.2) hc59) (fun r w' hq => ?_)
              obtain ⟨rfl, rfl⟩ := hq
              show Go mX6_oneMore (d + 1) false 0 0 235 [some (vR 0), some (vI y1), none, some (vI y3), some (vI y4), some (vI x0_), some (vI ((x2_ x0_.toNatClampNeg) / (2 : Int32))), none] [] (wM kn ne fi se ma on ot ta po ti nu mo wa nx oT cF bg ed x58.1 x58.2.1 x58.2.2 tr) Q
              refine go_iconst (pc := 235) (0 : Int32) dX6_oneMore_235 (by decide) ?_
              refine go_istore (pc := 236) [some (vR 0), some (vI y1), none, some (vI y3), some (vI y4), some (vI x0_), some (vI ((x2_ x0_.toNatClampNeg) / (2 : Int32))), some (vI (0 : Int32))] dX6_oneMore_236 (by decide) rfl ?_
              obtain ⟨e60, hl61, hs⟩ := bnd hs
              refine g_X6_oneMore_238 (d := d) (0 : Int32) x58.1 x58.2.1 x58.2.2 e60 hl61 ?_
              intro v62 v63 v64 hv65
              subst hv65
              try dsimp only at hs
              refine go_iinc (pc := 289) (x0_ + (1 : Int32)) [some (vR 0), some (vI y1), none, some (vI y3), some (vI y4), some (vI (x0_ + (1 : Int32))), none, none] dX6_oneMore_289 rfl (iinc_1 _) (by decide) rfl ?_
              refine go_goto (pc := 292) 88 dX6_oneMore_292 (by decide) ?_
              obtain rfl := Option.some.inj hs
              exact hI (x0_ + (1 : Int32), v62, v63, v64) rfl (x0_ + (1 : Int32)) v62 v63 v64 rfl
          · have hs := it_t h48 hs
            obtain rfl := Option.some.inj hs
            refine go_sub (lv' := [some (vR 0), none, none, none, none, none, some (vI ((x2_ x0_.toNatClampNeg) / (2 : Int32))), none]) ⟨rfl, ⟨rfl, trivial⟩⟩ ?_
            exact (hE (Sum.inl ((x2_ x0_.toNatClampNeg) / (2 : Int32), x1_, x2_, x3_)) rfl).1 ((x2_ x0_.toNatClampNeg) / (2 : Int32)) x1_ x2_ x3_ rfl
      · have hs := it_t h21 hs
        refine go_aload_n (pc := 120) 0 dX6_oneMore_120 rfl rfl ?_
        refine go_iload (pc := 121) dX6_oneMore_121 rfl ?_
        obtain ⟨x66, hc67, hs⟩ := bnd hs
        refine go_callV (bc := 0) (bs := 0) (mc := 0) (ms := 0) (d := d + 0) (pc := 123) (a := 0) (ci := 6) [vI ((x2_ x0_.toNatClampNeg) / (2 : Int32))] [] dX6_oneMore_123 kX6_isUsed mlX6_161 ivX6_isUsed rfl rfl rfl rfl (Nat.le_of_ble_eq_true rfl) rfl (c_X6_isUsed (d := d + 0) (res0 := x66) hc67) (fun r w' hq => ?_)
        obtain ⟨rfl, rfl⟩ := hq
        show Go mX6_oneMore (d + 1) false 0 0 126 [some (vR 0), some (vI y1), none, some (vI y3), some (vI y4), some (vI x0_), some (vI ((x2_ x0_.toNatClampNeg) / (2 : Int32))), none] [vI x66] (wM kn ne fi se ma on ot ta po ti nu mo wa nx oT cF bg ed x1_ x2_ x3_ tr) Q
        refine go_if_ne (pc := 126) 146 dX6_oneMore_126 (by decide) (fun h68 => ?_) (fun h68 => ?_)
        · have hs := it_f h68 hs
          refine go_aload_n (pc := 146) 0 dX6_oneMore_146 rfl rfl ?_
          refine go_getfield (pc := 147) (v := vR 15) 0 6 15 dX6_oneMore_147 flX6_53 rfl rfl ?_
          refine go_iload (pc := 150) dX6_oneMore_150 rfl ?_
          obtain ⟨hi69, hs⟩ := chk_t hs
          refine go_iaload (pc := 152) 15 dX6_oneMore_152 rfl hi69 ?_
          refine go_if_lt (pc := 153) 289 dX6_oneMore_153 (by decide) (fun h70 => ?_) (fun h70 => ?_)
          · have hs := it_t h70 hs
            refine go_iinc (pc := 289) (x0_ + (1 : Int32)) [some (vR 0), some (vI y1), none, some (vI y3), some (vI y4), some (vI (x0_ + (1 : Int32))), some (vI ((x2_ x0_.toNatClampNeg) / (2 : Int32))), none] dX6_oneMore_289 rfl (iinc_1 _) (by decide) rfl ?_
            refine go_goto (pc := 292) 88 dX6_oneMore_292 (by decide) ?_
            obtain rfl := Option.some.inj hs
            refine go_sub (lv' := [some (vR 0), some (vI y1), none, some (vI y3), some (vI y4), some (vI (x0_ + (1 : Int32))), none, none]) ⟨rfl, ⟨rfl, ⟨rfl, ⟨rfl, ⟨rfl, trivial⟩⟩⟩⟩⟩ ?_
            exact hI (x0_ + (1 : Int32), x1_, x2_, x3_) rfl (x0_ + (1 : Int32)) x1_ x2_ x3_ rfl
          · have hs := it_f h70 hs
            refine go_aload_n (pc := 156) 0 dX6_oneMore_156 rfl rfl ?_
            refine go_iconst (pc := 157) (2 : Int32) dX6_oneMore_157 (by decide) ?_
            refine go_aload_n (pc := 158) 0 dX6_oneMore_158 rfl rfl ?_
            refine go_getfield (pc := 159) (v := vR 15) 0 6 15 dX6_oneMore_159 flX6_53 rfl rfl ?_
            refine go_iload (pc := 162) dX6_oneMore_162 rfl ?_
            obtain ⟨hi71, hs⟩ := chk_t hs
            refine go_iaload (pc := 164) 15 dX6_oneMore_164 rfl hi71 ?_
            refine go_imul (pc := 165) dX6_oneMore_165 ?_
            refine go_iconst (pc := 166) (1 : Int32) dX6_oneMore_166 (by decide) ?_
            refine go_iadd (pc := 167) dX6_oneMore_167 ?_
            refine go_iconst (pc := 168) (2 : Int32) dX6_oneMore_168 (by decide) ?_
            refine go_iload (pc := 169) dX6_oneMore_169 rfl ?_
            refine go_imul (pc := 171) dX6_oneMore_171 ?_
            obtain ⟨x72, hc73, hs⟩ := bnd hs
            refine go_callV (bc := 0) (bs := 0) (mc := 0) (ms := 0) (d := d + 0) (pc := 172) (a := 0) (ci := 6) [vI (((2 : Int32) * (cF ((x2_ x0_.toNatClampNeg) / (2 : Int32)).toNatClampNeg)) + (1 : Int32)), vI ((2 : Int32) * ((x2_ x0_.toNatClampNeg) / (2 : Int32)))] [] dX6_oneMore_172 kX6_see mlX6_158 ivX6_see rfl rfl rfl rfl (Nat.le_of_ble_eq_true rfl) rfl (c_X6_see (d := d + 0) (res0 := x72.1) (res1 := x72.2.1) (res2 := x72.2.2) hc73) (fun r w' hq => ?_)
            obtain ⟨rfl, rfl⟩ := hq
            show Go mX6_oneMore (d + 1) false 0 0 175 [some (vR 0), some (vI y1), none, some (vI y3), some (vI y4), some (vI x0_), some (vI ((x2_ x0_.toNatClampNeg) / (2 : Int32))), none] [] (wM kn ne fi se ma on ot ta po ti nu mo wa nx oT cF bg ed x72.1 x72.2.1 x72.2.2 tr) Q
            refine go_goto (pc := 175) 289 dX6_oneMore_175 (by decide) ?_
            refine go_iinc (pc := 289) (x0_ + (1 : Int32)) [some (vR 0), some (vI y1), none, some (vI y3), some (vI y4), some (vI (x0_ + (1 : Int32))), some (vI ((x2_ x0_.toNatClampNeg) / (2 : Int32))), none] dX6_oneMore_289 rfl (iinc_1 _) (by decide) rfl ?_
            refine go_goto (pc := 292) 88 dX6_oneMore_292 (by decide) ?_
            obtain rfl := Option.some.inj hs
            refine go_sub (lv' := [some (vR 0), some (vI y1), none, some (vI y3), some (vI y4), some (vI (x0_ + (1 : Int32))), none, none]) ⟨rfl, ⟨rfl, ⟨rfl, ⟨rfl, ⟨rfl, trivial⟩⟩⟩⟩⟩ ?_
            exact hI (x0_ + (1 : Int32), x72.1, x72.2.1, x72.2.2) rfl (x0_ + (1 : Int32)) x72.1 x72.2.1 x72.2.2 rfl
        · have hs := it_t h68 hs
          refine go_aload_n (pc := 129) 0 dX6_oneMore_129 rfl rfl ?_
          refine go_iconst (pc := 130) (2 : Int32) dX6_oneMore_130 (by decide) ?_
          refine go_iload (pc := 131) dX6_oneMore_131 rfl ?_
          refine go_imul (pc := 133) dX6_oneMore_133 ?_
          refine go_iconst (pc := 134) (1 : Int32) dX6_oneMore_134 (by decide) ?_
          refine go_iadd (pc := 135) dX6_oneMore_135 ?_
          refine go_iconst (pc := 136) (2 : Int32) dX6_oneMore_136 (by decide) ?_
          refine go_iload (pc := 137) dX6_oneMore_137 rfl ?_
          refine go_imul (pc := 139) dX6_oneMore_139 ?_
          obtain ⟨x74, hc75, hs⟩ := bnd hs
          refine go_callV (bc := 0) (bs := 0) (mc := 0) (ms := 0) (d := d + 0) (pc := 140) (a := 0) (ci := 6) [vI (((2 : Int32) * ((x2_ x0_.toNatClampNeg) / (2 : Int32))) + (1 : Int32)), vI ((2 : Int32) * ((x2_ x0_.toNatClampNeg) / (2 : Int32)))] [] dX6_oneMore_140 kX6_see mlX6_158 ivX6_see rfl rfl rfl rfl (Nat.le_of_ble_eq_true rfl) rfl (c_X6_see (d := d + 0) (res0 := x74.1) (res1 := x74.2.1) (res2 := x74.2.2) hc75) (fun r w' hq => ?_)
          obtain ⟨rfl, rfl⟩ := hq
          show Go mX6_oneMore (d + 1) false 0 0 143 [some (vR 0), some (vI y1), none, some (vI y3), some (vI y4), some (vI x0_), some (vI ((x2_ x0_.toNatClampNeg) / (2 : Int32))), none] [] (wM kn ne fi se ma on ot ta po ti nu mo wa nx oT cF bg ed x74.1 x74.2.1 x74.2.2 tr) Q
          refine go_goto (pc := 143) 289 dX6_oneMore_143 (by decide) ?_
          refine go_iinc (pc := 289) (x0_ + (1 : Int32)) [some (vR 0), some (vI y1), none, some (vI y3), some (vI y4), some (vI (x0_ + (1 : Int32))), some (vI ((x2_ x0_.toNatClampNeg) / (2 : Int32))), none] dX6_oneMore_289 rfl (iinc_1 _) (by decide) rfl ?_
          refine go_goto (pc := 292) 88 dX6_oneMore_292 (by decide) ?_
          obtain rfl := Option.some.inj hs
          refine go_sub (lv' := [some (vR 0), some (vI y1), none, some (vI y3), some (vI y4), some (vI (x0_ + (1 : Int32))), none, none]) ⟨rfl, ⟨rfl, ⟨rfl, ⟨rfl, ⟨rfl, trivial⟩⟩⟩⟩⟩ ?_
          exact hI (x0_ + (1 : Int32), x74.1, x74.2.1, x74.2.2) rfl (x0_ + (1 : Int32)) x74.1 x74.2.1 x74.2.2 rfl
set_option maxRecDepth 20000 in
theorem c_X6_oneMore {d : Nat}  {a1 : Int32} {a2 : Int32} {a3 : Int32} {res0 : Int32} {res1 : (Nat → Int32)} {res2 : (Nat → Int32)} {res3 : Int32} {res4 : Int32} {res5 : (Nat → Int32)} {res6 : (Nat → Int32)} {res7 : Int32} {res8 : (Nat → Int32)} (hs : s_X6_oneMore kn ne oT cF bg ed sF qu qd tr a1 a2 a3 = some (res0, res1, res2, res3, res4, res5, res6, res7, res8)) : Calls mX6_oneMore (d + 1) false 0 0 [vR 0, vI a1, vI a2, vI a3] (wM kn ne fi se ma on ot ta po ti nu mo wa nx oT cF bg ed sF qu qd tr) (fun r w' => r = some (vI res0) ∧ w' = (wM kn ne fi se ma on ot ta po ti nu mo wa nx res1 res2 res3 res4 res5 res6 res7 res8)) := by
  unfold s_X6_oneMore at hs
  refine Calls.of kX6_oneMore 4 [some (vR 0), some (vI a1), some (vI a2), some (vI a3), none, none, none, none] rfl (Nat.le_of_ble_eq_true rfl) ?_
  refine go_aload_n (pc := 0) 0 dX6_oneMore_0 rfl rfl ?_
  refine go_getfield (pc := 1) (v := vR 1) 0 6 0 dX6_oneMore_1 flX6_7 rfl rfl ?_
  refine go_iload_n (pc := 4) 1 dX6_oneMore_4 rfl rfl ?_
  obtain ⟨hi1, hs⟩ := chk_t hs
  refine go_iaload (pc := 5) 1 dX6_oneMore_5 rfl hi1 ?_
  refine go_istore (pc := 6) [some (vR 0), some (vI a1), some (vI a2), some (vI a3), some (vI (kn a1.toNatClampNeg)), none, none, none] dX6_oneMore_6 (by decide) rfl ?_
  refine go_iconst (pc := 8) (0 : Int32) dX6_oneMore_8 (by decide) ?_
  refine go_istore (pc := 9) [some (vR 0), some (vI a1), some (vI a2), some (vI a3), some (vI (kn a1.toNatClampNeg)), some (vI (0 : Int32)), none, none] dX6_oneMore_9 (by decide) rfl ?_
  obtain ⟨e4, hl5, hs⟩ := bnd hs
  refine g_X6_oneMore_11 (d := d) (0 : Int32) sF e4 hl5 ?_
  refine go_aload_n (pc := 33) 0 dX6_oneMore_33 rfl rfl ?_
  refine go_iconst (pc := 34) (0 : Int32) dX6_oneMore_34 (by decide) ?_
  refine go_putI (pc := 35) 0 6 20 dX6_oneMore_35 fpX6_152 rfl (Nat.le_of_ble_eq_true rfl) (show Go mX6_oneMore (d + 1) false 0 0 38 [some (vR 0), some (vI a1), some (vI a2), some (vI a3), some (vI (kn a1.toNatClampNeg)), none, none, none] [] (wM kn ne fi se ma on ot ta po ti nu mo wa nx oT cF bg ed e4 qu ((0 : Int32)) tr) _ from ?_)
  refine go_iconst (pc := 38) (0 : Int32) dX6_oneMore_38 (by decide) ?_
  refine go_istore (pc := 39) [some (vR 0), some (vI a1), some (vI a2), some (vI a3), some (vI (kn a1.toNatClampNeg)), some (vI (0 : Int32)), none, none] dX6_oneMore_39 (by decide) rfl ?_
  obtain ⟨e12, hl13, hs⟩ := bnd hs
  refine g_X6_oneMore_41 (d := d) (0 : Int32) e4 qu (0 : Int32) e12 hl13 ?_
  intro v14 v15 v16 hv17
  subst hv17
  try dsimp only at hs
  refine go_iconst (pc := 85) (0 : Int32) dX6_oneMore_85 (by decide) ?_
  refine go_istore (pc := 86) [some (vR 0), some (vI a1), none, some (vI a3), some (vI (kn a1.toNatClampNeg)), some (vI (0 : Int32)), none, none] dX6_oneMore_86 (by decide) rfl ?_
  obtain ⟨e76, hl77, hs⟩ := bnd hs
  refine g_X6_oneMore_88 (d := d) (0 : Int32) v14 v15 v16 e76 hl77 ?_
  constructor
  · intro v79 v80 v81 v82 hv89
    subst hv89
    simp only [Sum.elim_inl] at hs
    refine go_aload_n (pc := 200) 0 dX6_oneMore_200 rfl rfl ?_
    refine go_iconst (pc := 201) (2 : Int32) dX6_oneMore_201 (by decide) ?_
    refine go_iload (pc := 202) dX6_oneMore_202 rfl ?_
    refine go_imul (pc := 204) dX6_oneMore_204 ?_
    refine go_iconst (pc := 205) (1 : Int32) dX6_oneMore_205 (by decide) ?_
    refine go_iadd (pc := 206) dX6_oneMore_206 ?_
    obtain ⟨x87, hc88, hs⟩ := bnd hs
    refine go_callV (bc := 0) (bs := 0) (mc := 0) (ms := 0) (d := d + 0) (pc := 207) (a := 0) (ci := 6) [vI (((2 : Int32) * v79) + (1 : Int32))] [] dX6_oneMore_207 kX6_lay mlX6_167 ivX6_lay rfl rfl rfl rfl (Nat.le_of_ble_eq_true rfl) rfl (c_X6_lay (d := d + 0) (res0 := x87.1) (res1 := x87.2.1) (res2 := x87.2.2.1) (res3 := x87.2.2.2.1) (res4 := x87.2.2.2.2) hc88) (fun r w' hq => ?_)
    obtain ⟨rfl, rfl⟩ := hq
    show Go mX6_oneMore (d + 1) false 0 0 210 [some (vR 0), none, none, none, none, none, some (vI v79), none] [] (wM kn ne fi se ma on ot ta po ti nu mo wa nx x87.1 x87.2.1 x87.2.2.1 x87.2.2.2.1 v80 v81 v82 x87.2.2.2.2) _
    refine go_iconst (pc := 210) (1 : Int32) dX6_oneMore_210 (by decide) ?_
    cases hs
    exact go_ireturn (st := []) (pc := 211) dX6_oneMore_211 rfl rfl (fun h => by cases h) ⟨rfl, rfl⟩
  · intro v84 v85 v86 hv90
    subst hv90
    simp only [Sum.elim_inr] at hs
    refine go_iconst (pc := 295) (0 : Int32) dX6_oneMore_295 (by decide) ?_
    cases hs
    exact go_ireturn (st := []) (pc := 296) dX6_oneMore_296 rfl rfl (fun h => by cases h) ⟨rfl, rfl⟩
end
