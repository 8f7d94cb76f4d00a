section
variable {cK : (Nat → Int32)} {cF : (Nat → Nat → Int32)} {ga : Int32} {gi : Int32} {gs : Int32} {oK : Int32} {cT : (Nat → Nat → Int32)} {ra : (Fin 2)} {rb : (Fin 2)} {cR : (Nat → Nat → Nat → Int64)} {cP : (Nat → Int64)} {cM : (Nat → Int64)} {ea : (Fin 2)} {eb : (Fin 2)} {cW : (Nat → Nat → Int64)} {aO : (Nat → Int32)} {aC : (Nat → Int32)} {aQ : (Nat → Int32)}
noncomputable def b_X0_openArcs_19 (cK : (Nat → Int32)) (cF : (Nat → Nat → Int32)) (p1 : (Fin 5)) (y3 : Int32) (x : Int32 × (Nat → Int32)) : Option ((Int32 × (Nat → Int32)) ⊕ ((Nat → Int32))) := if (cK p1.1) ≤ x.1 then (some (Sum.inr x.2)) else (chk x.1 22 (chk x.1 10 (chk ((10 : Int32) + x.1) 22 (some (Sum.inl (x.1 + (1 : Int32), upd ((upd x.2 x.1.toNatClampNeg ((1 : Int32) <<< (((10 : Int32) + x.1) &&& 31)))) ((10 : Int32) + x.1).toNatClampNeg ((cF p1.1 x.1.toNatClampNeg) ||| (((y3 >>> (x.1 &&& 31)) &&& (1 : Int32)) <<< ((21 : Int32) &&& 31)))))))))
noncomputable def s_X0_openArcs (cK : (Nat → Int32)) (cF : (Nat → Nat → Int32)) (aO : (Nat → Int32)) (p1 : (Fin 5)) (a2 : Int32) (a3 : Int32) : Option ((Nat → Int32)) := chk (20 : Int32) 22 ((loop (b_X0_openArcs_19 cK cF p1 a3) ((0 : Int32), upd ((fillI 22 aO (0 : Int32))) (20 : Int32).toNatClampNeg a2)).bind (fun e6 => some e6))
set_option maxRecDepth 20000 in
theorem g_X0_openArcs_19 {d : Nat} {p1 : (Fin 5)} {Q : Option AV → List AC → Prop} {y3 : Int32}  (x0_ : Int32) (x1_ : (Nat → Int32)) (r : (Nat → Int32)) (hl : loop (b_X0_openArcs_19 cK cF p1 y3) (x0_, x1_) = some r) (hk : Go mX0_openArcs (d + 1) false 0 0 75 [none, none, none, none, none] [] (wC cK cF ga gi gs oK cT ra rb cR cP cM ea eb cW r aC aQ) Q) : Go mX0_openArcs (d + 1) false 0 0 19 [some (vR 44), some (vR (pN p1.1)), none, some (vI y3), some (vI x0_)] [] (wC cK cF ga gi gs oK cT ra rb cR cP cM ea eb cW x1_ aC aQ) Q := by
  refine loop_go (P := fun x : Int32 × (Nat → Int32) => ∀ (x0_ : Int32) (x1_ : (Nat → Int32)), x = (x0_, x1_) → Go mX0_openArcs (d + 1) false 0 0 19 [some (vR 44), some (vR (pN p1.1)), none, some (vI y3), some (vI x0_)] [] (wC cK cF ga gi gs oK cT ra rb cR cP cM ea eb cW x1_ aC aQ) Q) (K := fun r : (Nat → Int32) => Go mX0_openArcs (d + 1) false 0 0 75 [none, none, none, none, none] [] (wC cK cF ga gi gs oK cT ra rb cR cP cM ea eb cW r aC aQ) Q) ?_ (x0_, x1_) r hl hk x0_ x1_ rfl
  · intro x y hs hI hE x0_ x1_ hx
    subst hx
    unfold b_X0_openArcs_19 at hs
    try dsimp only at hs
    refine go_iload (pc := 19) dX0_openArcs_19 rfl ?_
    refine go_aload_n (pc := 21) 1 dX0_openArcs_21 rfl rfl ?_
    refine go_getfield (pc := 22) (v := vI (cK p1.1)) (pN p1.1) 2 0 dX0_openArcs_22 flX0_25 (wC_net p1) rfl ?_
    refine go_icmp_ge (pc := 25) 75 dX0_openArcs_25 (by decide) (fun h2 => ?_) (fun h2 => ?_)
    · have hs := it_t h2 hs
      obtain rfl := Option.some.inj hs
      refine go_sub (lv' := [none, none, none, none, none]) trivial ?_
      exact hE x1_ rfl
    · have hs := it_f h2 hs
      refine go_aload_n (pc := 28) 0 dX0_openArcs_28 rfl rfl ?_
      refine go_getfield (pc := 29) (v := vR 45) 44 0 0 dX0_openArcs_29 flX0_11 rfl rfl ?_
      refine go_iload (pc := 32) dX0_openArcs_32 rfl ?_
      refine go_iconst (pc := 34) (1 : Int32) dX0_openArcs_34 (by decide) ?_
      refine go_bipush (pc := 35) (10 : Int32) dX0_openArcs_35 (by decide) ?_
      refine go_iload (pc := 37) dX0_openArcs_37 rfl ?_
      refine go_iadd (pc := 39) dX0_openArcs_39 ?_
      refine go_ishl (pc := 40) dX0_openArcs_40 ?_
      obtain ⟨hi3, hs⟩ := chk_t hs
      refine go_iastore (pc := 41) 45 dX0_openArcs_41 rfl hi3 ((show Go mX0_openArcs (d + 1) false 0 0 42 [some (vR 44), some (vR (pN p1.1)), none, some (vI y3), some (vI x0_)] [] (wC cK cF ga gi gs oK cT ra rb cR cP cM ea eb cW (upd x1_ x0_.toNatClampNeg ((1 : Int32) <<< (((10 : Int32) + x0_) &&& 31))) aC aQ) Q from ?_))
      refine go_aload_n (pc := 42) 0 dX0_openArcs_42 rfl rfl ?_
      refine go_getfield (pc := 43) (v := vR 45) 44 0 0 dX0_openArcs_43 flX0_11 rfl rfl ?_
      refine go_bipush (pc := 46) (10 : Int32) dX0_openArcs_46 (by decide) ?_
      refine go_iload (pc := 48) dX0_openArcs_48 rfl ?_
      refine go_iadd (pc := 50) dX0_openArcs_50 ?_
      refine go_aload_n (pc := 51) 1 dX0_openArcs_51 rfl rfl ?_
      refine go_getfield (pc := 52) (v := vR (pN p1.1 + 1)) (pN p1.1) 2 1 dX0_openArcs_52 flX0_44 (wC_net p1) rfl ?_
      refine go_iload (pc := 55) dX0_openArcs_55 rfl ?_
      obtain ⟨hi4, hs⟩ := chk_t hs
      refine go_iaload (pc := 57) (pN p1.1 + 1) dX0_openArcs_57 (wC_bes p1) hi4 ?_
      refine go_iload_n (pc := 58) 3 dX0_openArcs_58 rfl rfl ?_
      refine go_iload (pc := 59) dX0_openArcs_59 rfl ?_
      refine go_ishr (pc := 61) dX0_openArcs_61 ?_
      refine go_iconst (pc := 62) (1 : Int32) dX0_openArcs_62 (by decide) ?_
      refine go_iand (pc := 63) dX0_openArcs_63 ?_
      refine go_bipush (pc := 64) (21 : Int32) dX0_openArcs_64 (by decide) ?_
      refine go_ishl (pc := 66) dX0_openArcs_66 ?_
      refine go_ior (pc := 67) dX0_openArcs_67 ?_
      obtain ⟨hi5, hs⟩ := chk_t hs
      refine go_iastore (pc := 68) 45 dX0_openArcs_68 rfl hi5 ((show Go mX0_openArcs (d + 1) false 0 0 69 [some (vR 44), some (vR (pN p1.1)), none, some (vI y3), some (vI x0_)] [] (wC cK cF ga gi gs oK cT ra rb cR cP cM ea eb cW (upd ((upd x1_ x0_.toNatClampNeg ((1 : Int32) <<< (((10 : Int32) + x0_) &&& 31)))) ((10 : Int32) + x0_).toNatClampNeg ((cF p1.1 x0_.toNatClampNeg) ||| (((y3 >>> (x0_ &&& 31)) &&& (1 : Int32)) <<< ((21 : Int32) &&& 31)))) aC aQ) Q from ?_))
      refine go_iinc (pc := 69) (x0_ + (1 : Int32)) [some (vR 44), some (vR (pN p1.1)), none, some (vI y3), some (vI (x0_ + (1 : Int32)))] dX0_openArcs_69 rfl (iinc_1 _) (by decide) rfl ?_
      refine go_goto (pc := 72) 19 dX0_openArcs_72 (by decide) ?_
      obtain rfl := Option.some.inj hs
      exact hI (x0_ + (1 : Int32), upd ((upd x1_ x0_.toNatClampNeg ((1 : Int32) <<< (((10 : Int32) + x0_) &&& 31)))) ((10 : Int32) + x0_).toNatClampNeg ((cF p1.1 x0_.toNatClampNeg) ||| (((y3 >>> (x0_ &&& 31)) &&& (1 : Int32)) <<< ((21 : Int32) &&& 31)))) rfl (x0_ + (1 : Int32)) (upd ((upd x1_ x0_.toNatClampNeg ((1 : Int32) <<< (((10 : Int32) + x0_) &&& 31)))) ((10 : Int32) + x0_).toNatClampNeg ((cF p1.1 x0_.toNatClampNeg) ||| (((y3 >>> (x0_ &&& 31)) &&& (1 : Int32)) <<< ((21 : Int32) &&& 31)))) rfl
set_option maxRecDepth 20000 in
theorem c_X0_openArcs {d : Nat}  {p1 : (Fin 5)} {a2 : Int32} {a3 : Int32} {res0 : (Nat → Int32)} (hs : s_X0_openArcs cK cF aO p1 a2 a3 = some res0) : Calls mX0_openArcs (d + 1) false 0 0 [vR 44, vR (pN p1.1), vI a2, vI a3] (wC cK cF ga gi gs oK cT ra rb cR cP cM ea eb cW aO aC aQ) (fun r w' => r = none ∧ w' = (wC cK cF ga gi gs oK cT ra rb cR cP cM ea eb cW res0 aC aQ)) := by
  unfold s_X0_openArcs at hs
  refine Calls.of kX0_openArcs 1 [some (vR 44), some (vR (pN p1.1)), some (vI a2), some (vI a3), none] rfl (Nat.le_of_ble_eq_true rfl) ?_
  refine go_aload_n (pc := 0) 0 dX0_openArcs_0 rfl rfl ?_
  refine go_getfield (pc := 1) (v := vR 45) 44 0 0 dX0_openArcs_1 flX0_11 rfl rfl ?_
  refine go_iconst (pc := 4) (0 : Int32) dX0_openArcs_4 (by decide) ?_
  refine go_callS (bc := 0) (bs := 0) (mc := 0) (ms := 0) (d := d + 0) (pc := 5) [vR 45, vI (0 : Int32)] [] dX0_openArcs_5 kJ7_fill_53178 mlX0_38 isJ7_fill_53178 rfl (Nat.le_of_ble_eq_true rfl) rfl (c_fillI (d := d + 0) rfl (by decide)) (fun r w' hq => ?_)
  obtain ⟨rfl, rfl⟩ := hq
  show Go mX0_openArcs (d + 1) false 0 0 8 [some (vR 44), some (vR (pN p1.1)), some (vI a2), some (vI a3), none] [] (wC cK cF ga gi gs oK cT ra rb cR cP cM ea eb cW (fillI 22 aO (0 : Int32)) aC aQ) _
  refine go_aload_n (pc := 8) 0 dX0_openArcs_8 rfl rfl ?_
  refine go_getfield (pc := 9) (v := vR 45) 44 0 0 dX0_openArcs_9 flX0_11 rfl rfl ?_
  refine go_bipush (pc := 12) (20 : Int32) dX0_openArcs_12 (by decide) ?_
  refine go_iload_n (pc := 14) 2 dX0_openArcs_14 rfl rfl ?_
  obtain ⟨hi1, hs⟩ := chk_t hs
  refine go_iastore (pc := 15) 45 dX0_openArcs_15 rfl hi1 ((show Go mX0_openArcs (d + 1) false 0 0 16 [some (vR 44), some (vR (pN p1.1)), some (vI a2), some (vI a3), none] [] (wC cK cF ga gi gs oK cT ra rb cR cP cM ea eb cW (upd ((fillI 22 aO (0 : Int32))) (20 : Int32).toNatClampNeg a2) aC aQ) _ from ?_))
  refine go_iconst (pc := 16) (0 : Int32) dX0_openArcs_16 (by decide) ?_
  refine go_istore (pc := 17) [some (vR 44), some (vR (pN p1.1)), some (vI a2), some (vI a3), some (vI (0 : Int32))] dX0_openArcs_17 (by decide) rfl ?_
  refine go_sub (lv' := [some (vR 44), some (vR (pN p1.1)), none, some (vI a3), some (vI (0 : Int32))]) ⟨rfl, ⟨rfl, ⟨rfl, ⟨rfl, trivial⟩⟩⟩⟩ ?_
  obtain ⟨e6, hl7, hs⟩ := bnd hs
  refine g_X0_openArcs_19 (d := d) (0 : Int32) (upd ((fillI 22 aO (0 : Int32))) (20 : Int32).toNatClampNeg a2) e6 hl7 ?_
  cases hs
  exact go_return (st := []) (pc := 75) dX0_openArcs_75 rfl (fun h => by cases h) ⟨rfl, rfl⟩
noncomputable def b_X0_findWay_55 (y4 : Int32) (y5 : Int32) (x : Int32 × Int32 × (Nat → Int32) × (Nat → Int32)) : Option ((Int32 × Int32 × (Nat → Int32) × (Nat → Int32)) ⊕ (Int32 × (Nat → Int32) × (Nat → Int32))) := if (22 : Int32) ≤ x.2.1 then (some (Sum.inr (x.1, x.2.2.1, x.2.2.2))) else (if ((y5 >>> (x.2.1 &&& 31)) &&& (1 : Int32)) = (1 : Int32) then (if (22 : Int32) ≤ x.1 then (some (Sum.inl (x.1, x.2.1 + (1 : Int32), x.2.2.1, x.2.2.2))) else (chk x.2.1 22 (chk x.1 22 (some (Sum.inl (x.1 + (1 : Int32), x.2.1 + (1 : Int32), upd x.2.2.1 x.2.1.toNatClampNeg y4, upd x.2.2.2 x.1.toNatClampNeg x.2.1)))))) else (some (Sum.inl (x.1, x.2.1 + (1 : Int32), x.2.2.1, x.2.2.2))))
noncomputable def b_X0_findWay_15 (aO : (Nat → Int32)) (x : Int32 × Int32 × Int32 × (Nat → Int32) × (Nat → Int32)) : Option ((Int32 × Int32 × Int32 × (Nat → Int32) × (Nat → Int32)) ⊕ (Int32 × (Nat → Int32) × (Nat → Int32))) := if x.2.1 ≤ x.2.2.1 then (some (Sum.inr (x.1, x.2.2.2.1, x.2.2.2.2))) else (if (22 : Int32) ≤ x.2.2.1 then (some (Sum.inr (x.1, x.2.2.2.1, x.2.2.2.2))) else (chk x.2.2.1 22 (chk (x.2.2.2.2 x.2.2.1.toNatClampNeg) 22 (lt' ((aO (x.2.2.2.2 x.2.2.1.toNatClampNeg).toNatClampNeg) &&& (x.1 ^^^ (-1 : Int32))) (fun z6 => (loop (b_X0_findWay_55 (x.2.2.2.2 x.2.2.1.toNatClampNeg) z6) (x.2.1, (0 : Int32), x.2.2.2.1, x.2.2.2.2)).bind (fun e12 => some (Sum.inl (x.1 ||| z6, e12.1, x.2.2.1 + (1 : Int32), e12.2.1, e12.2.2))))))))
noncomputable def s_X0_findWay (aO : (Nat → Int32)) (aC : (Nat → Int32)) (aQ : (Nat → Int32)) : Option (Int32 × (Nat → Int32) × (Nat → Int32)) := chk (0 : Int32) 22 ((loop (b_X0_findWay_15 aO) ((1048576 : Int32), (1 : Int32), (0 : Int32), aC, upd aQ (0 : Int32).toNatClampNeg (20 : Int32))).bind (fun e18 => if ((e18.1 >>> ((21 : Int32) &&& 31)) &&& (1 : Int32)) = (1 : Int32) then (some ((1 : Int32), e18.2.1, e18.2.2)) else (some ((0 : Int32), e18.2.1, e18.2.2))))
set_option maxRecDepth 20000 in
theorem g_X0_findWay_55 {d : Nat}  {Q : Option AV → List AC → Prop} {y1 : Int32} {y3 : Int32} {y4 : Int32} {y5 : Int32}  (x0_ : Int32) (x1_ : Int32) (x2_ : (Nat → Int32)) (x3_ : (Nat → Int32)) (r : Int32 × (Nat → Int32) × (Nat → Int32)) (hl : loop (b_X0_findWay_55 y4 y5) (x0_, x1_, x2_, x3_) = some r) (hk : ∀ (r0_ : Int32) (r1_ : (Nat → Int32)) (r2_ : (Nat → Int32)), r = (r0_, r1_, r2_) → Go mX0_findWay (d + 0) false 0 0 105 [some (vR 44), some (vI y1), some (vI r0_), some (vI y3), none, none, none] [] (wC cK cF ga gi gs oK cT ra rb cR cP cM ea eb cW aO r1_ r2_) Q) : Go mX0_findWay (d + 0) false 0 0 55 [some (vR 44), some (vI y1), some (vI x0_), some (vI y3), some (vI y4), some (vI y5), some (vI x1_)] [] (wC cK cF ga gi gs oK cT ra rb cR cP cM ea eb cW aO x2_ x3_) Q := by
  refine loop_go (P := fun x : Int32 × Int32 × (Nat → Int32) × (Nat → Int32) => ∀ (x0_ : Int32) (x1_ : Int32) (x2_ : (Nat → Int32)) (x3_ : (Nat → Int32)), x = (x0_, x1_, x2_, x3_) → Go mX0_findWay (d + 0) false 0 0 55 [some (vR 44), some (vI y1), some (vI x0_), some (vI y3), some (vI y4), some (vI y5), some (vI x1_)] [] (wC cK cF ga gi gs oK cT ra rb cR cP cM ea eb cW aO x2_ x3_) Q) (K := fun r : Int32 × (Nat → Int32) × (Nat → Int32) => ∀ (r0_ : Int32) (r1_ : (Nat → Int32)) (r2_ : (Nat → Int32)), r = (r0_, r1_, r2_) → Go mX0_findWay (d + 0) false 0 0 105 [some (vR 44), some (vI y1), some (vI r0_), some (vI y3), none, none, none] [] (wC cK cF ga gi gs oK cT ra rb cR cP cM ea eb cW aO r1_ r2_) Q) ?_ (x0_, x1_, x2_, x3_) r hl hk x0_ x1_ x2_ x3_ rfl
  · intro x y hs hI hE x0_ x1_ x2_ x3_ hx
    subst hx
    unfold b_X0_findWay_55 at hs
    try dsimp only at hs
    refine go_iload (pc := 55) dX0_findWay_55 rfl ?_
    refine go_bipush (pc := 57) (22 : Int32) dX0_findWay_57 (by decide) ?_
    refine go_icmp_ge (pc := 59) 105 dX0_findWay_59 (by decide) (fun h7 => ?_) (fun h7 => ?_)
    · have hs := it_t h7 hs
      obtain rfl := Option.some.inj hs
      refine go_sub (lv' := [some (vR 44), some (vI y1), some (vI x0_), some (vI y3), none, none, none]) ⟨rfl, ⟨rfl, ⟨rfl, ⟨rfl, trivial⟩⟩⟩⟩ ?_
      exact (hE (x0_, x2_, x3_) rfl) x0_ x2_ x3_ rfl
    · have hs := it_f h7 hs
      refine go_iload (pc := 62) dX0_findWay_62 rfl ?_
      refine go_iload (pc := 64) dX0_findWay_64 rfl ?_
      refine go_ishr (pc := 66) dX0_findWay_66 ?_
      refine go_iconst (pc := 67) (1 : Int32) dX0_findWay_67 (by decide) ?_
      refine go_iand (pc := 68) dX0_findWay_68 ?_
      refine go_iconst (pc := 69) (1 : Int32) dX0_findWay_69 (by decide) ?_
      refine go_icmp_ne (pc := 70) 99 dX0_findWay_70 (by decide) (fun h8 => ?_) (fun h8 => ?_)
      · have hs := it_f h8 hs
        refine go_iinc (pc := 99) (x1_ + (1 : Int32)) [some (vR 44), some (vI y1), some (vI x0_), some (vI y3), some (vI y4), some (vI y5), some (vI (x1_ + (1 : Int32)))] dX0_findWay_99 rfl (iinc_1 _) (by decide) rfl ?_
        refine go_goto (pc := 102) 55 dX0_findWay_102 (by decide) ?_
        obtain rfl := Option.some.inj hs
        exact hI (x0_, x1_ + (1 : Int32), x2_, x3_) rfl x0_ (x1_ + (1 : Int32)) x2_ x3_ rfl
      · have hs := it_t h8 hs
        refine go_iload_n (pc := 73) 2 dX0_findWay_73 rfl rfl ?_
        refine go_bipush (pc := 74) (22 : Int32) dX0_findWay_74 (by decide) ?_
        refine go_icmp_ge (pc := 76) 99 dX0_findWay_76 (by decide) (fun h9 => ?_) (fun h9 => ?_)
        · have hs := it_t h9 hs
          refine go_iinc (pc := 99) (x1_ + (1 : Int32)) [some (vR 44), some (vI y1), some (vI x0_), some (vI y3), some (vI y4), some (vI y5), some (vI (x1_ + (1 : Int32)))] dX0_findWay_99 rfl (iinc_1 _) (by decide) rfl ?_
          refine go_goto (pc := 102) 55 dX0_findWay_102 (by decide) ?_
          obtain rfl := Option.some.inj hs
          exact hI (x0_, x1_ + (1 : Int32), x2_, x3_) rfl x0_ (x1_ + (1 : Int32)) x2_ x3_ rfl
        · have hs := it_f h9 hs
          refine go_aload_n (pc := 79) 0 dX0_findWay_79 rfl rfl ?_
          refine go_getfield (pc := 80) (v := vR 46) 44 0 1 dX0_findWay_80 flX0_15 rfl rfl ?_
          refine go_iload (pc := 83) dX0_findWay_83 rfl ?_
          refine go_iload (pc := 85) dX0_findWay_85 rfl ?_
          obtain ⟨hi10, hs⟩ := chk_t hs
          refine go_iastore (pc := 87) 46 dX0_findWay_87 rfl hi10 ((show Go mX0_findWay (d + 0) false 0 0 88 [some (vR 44), some (vI y1), some (vI x0_), some (vI y3), some (vI y4), some (vI y5), some (vI x1_)] [] (wC cK cF ga gi gs oK cT ra rb cR cP cM ea eb cW aO (upd x2_ x1_.toNatClampNeg y4) x3_) Q from ?_))
          refine go_aload_n (pc := 88) 0 dX0_findWay_88 rfl rfl ?_
          refine go_getfield (pc := 89) (v := vR 47) 44 0 2 dX0_findWay_89 flX0_18 rfl rfl ?_
          refine go_iload_n (pc := 92) 2 dX0_findWay_92 rfl rfl ?_
          refine go_iload (pc := 93) dX0_findWay_93 rfl ?_
          obtain ⟨hi11, hs⟩ := chk_t hs
          refine go_iastore (pc := 95) 47 dX0_findWay_95 rfl hi11 ((show Go mX0_findWay (d + 0) false 0 0 96 [some (vR 44), some (vI y1), some (vI x0_), some (vI y3), some (vI y4), some (vI y5), some (vI x1_)] [] (wC cK cF ga gi gs oK cT ra rb cR cP cM ea eb cW aO (upd x2_ x1_.toNatClampNeg y4) (upd x3_ x0_.toNatClampNeg x1_)) Q from ?_))
          refine go_iinc (pc := 96) (x0_ + (1 : Int32)) [some (vR 44), some (vI y1), some (vI (x0_ + (1 : Int32))), some (vI y3), some (vI y4), some (vI y5), some (vI x1_)] dX0_findWay_96 rfl (iinc_1 _) (by decide) rfl ?_
          refine go_iinc (pc := 99) (x1_ + (1 : Int32)) [some (vR 44), some (vI y1), some (vI (x0_ + (1 : Int32))), some (vI y3), some (vI y4), some (vI y5), some (vI (x1_ + (1 : Int32)))] dX0_findWay_99 rfl (iinc_1 _) (by decide) rfl ?_
          refine go_goto (pc := 102) 55 dX0_findWay_102 (by decide) ?_
          obtain rfl := Option.some.inj hs
          exact hI (x0_ + (1 : Int32), x1_ + (1 : Int32), upd x2_ x1_.toNatClampNeg y4, upd x3_ x0_.toNatClampNeg x1_) rfl (x0_ + (1 : Int32)) (x1_ + (1 : Int32)) (upd x2_ x1_.toNatClampNeg y4) (upd x3_ x0_.toNatClampNeg x1_) rfl
set_option maxRecDepth 20000 in
theorem g_X0_findWay_15 {d : Nat}  {Q : Option AV → List AC → Prop}   (x0_ : Int32) (x1_ : Int32) (x2_ : Int32) (x3_ : (Nat → Int32)) (x4_ : (Nat → Int32)) (r : Int32 × (Nat → Int32) × (Nat → Int32)) (hl : loop (b_X0_findWay_15 aO) (x0_, x1_, x2_, x3_, x4_) = some r) (hk : ∀ (r0_ : Int32) (r1_ : (Nat → Int32)) (r2_ : (Nat → Int32)), r = (r0_, r1_, r2_) → Go mX0_findWay (d + 0) false 0 0 111 [none, some (vI r0_), none, none, none, none, none] [] (wC cK cF ga gi gs oK cT ra rb cR cP cM ea eb cW aO r1_ r2_) Q) : Go mX0_findWay (d + 0) false 0 0 15 [some (vR 44), some (vI x0_), some (vI x1_), some (vI x2_), none, none, none] [] (wC cK cF ga gi gs oK cT ra rb cR cP cM ea eb cW aO x3_ x4_) Q := by
  refine loop_go (P := fun x : Int32 × Int32 × Int32 × (Nat → Int32) × (Nat → Int32) => ∀ (x0_ : Int32) (x1_ : Int32) (x2_ : Int32) (x3_ : (Nat → Int32)) (x4_ : (Nat → Int32)), x = (x0_, x1_, x2_, x3_, x4_) → Go mX0_findWay (d + 0) false 0 0 15 [some (vR 44), some (vI x0_), some (vI x1_), some (vI x2_), none, none, none] [] (wC cK cF ga gi gs oK cT ra rb cR cP cM ea eb cW aO x3_ x4_) Q) (K := fun r : Int32 × (Nat → Int32) × (Nat → Int32) => ∀ (r0_ : Int32) (r1_ : (Nat → Int32)) (r2_ : (Nat → Int32)), r = (r0_, r1_, r2_) → Go mX0_findWay (d + 0) false 0 0 111 [none, some (vI r0_), none, none, none, none, none] [] (wC cK cF ga gi gs oK cT ra rb cR cP cM ea eb cW aO r1_ r2_) Q) ?_ (x0_, x1_, x2_, x3_, x4_) r hl hk x0_ x1_ x2_ x3_ x4_ rfl
  · intro x y hs hI hE x0_ x1_ x2_ x3_ x4_ hx
    subst hx
    unfold b_X0_findWay_15 at hs
    try dsimp only at hs
    refine go_iload_n (pc := 15) 3 dX0_findWay_15 rfl rfl ?_
    refine go_iload_n (pc := 16) 2 dX0_findWay_16 rfl rfl ?_
    refine go_icmp_ge (pc := 17) 111 dX0_findWay_17 (by decide) (fun h2 => ?_) (fun h2 => ?_)
    · have hs := it_t h2 hs
      obtain rfl := Option.some.inj hs
      refine go_sub (lv' := [none, some (vI x0_), none, none, none, none, none]) ⟨rfl, trivial⟩ ?_
      exact (hE (x0_, x3_, x4_) rfl) x0_ x3_ x4_ rfl
    · have hs := it_f h2 hs
      refine go_iload_n (pc := 20) 3 dX0_findWay_20 rfl rfl ?_
      refine go_bipush (pc := 21) (22 : Int32) dX0_findWay_21 (by decide) ?_
      refine go_icmp_ge (pc := 23) 111 dX0_findWay_23 (by decide) (fun h3 => ?_) (fun h3 => ?_)
      · have hs := it_t h3 hs
        obtain rfl := Option.some.inj hs
        refine go_sub (lv' := [none, some (vI x0_), none, none, none, none, none]) ⟨rfl, trivial⟩ ?_
        exact (hE (x0_, x3_, x4_) rfl) x0_ x3_ x4_ rfl
      · have hs := it_f h3 hs
        refine go_aload_n (pc := 26) 0 dX0_findWay_26 rfl rfl ?_
        refine go_getfield (pc := 27) (v := vR 47) 44 0 2 dX0_findWay_27 flX0_18 rfl rfl ?_
        refine go_iload_n (pc := 30) 3 dX0_findWay_30 rfl rfl ?_
        obtain ⟨hi4, hs⟩ := chk_t hs
        refine go_iaload (pc := 31) 47 dX0_findWay_31 rfl hi4 ?_
        refine go_istore (pc := 32) [some (vR 44), some (vI x0_), some (vI x1_), some (vI x2_), some (vI (x4_ x2_.toNatClampNeg)), none, none] dX0_findWay_32 (by decide) rfl ?_
        refine go_aload_n (pc := 34) 0 dX0_findWay_34 rfl rfl ?_
        refine go_getfield (pc := 35) (v := vR 45) 44 0 0 dX0_findWay_35 flX0_11 rfl rfl ?_
        refine go_iload (pc := 38) dX0_findWay_38 rfl ?_
        obtain ⟨hi5, hs⟩ := chk_t hs
        refine go_iaload (pc := 40) 45 dX0_findWay_40 rfl hi5 ?_
        refine go_iload_n (pc := 41) 1 dX0_findWay_41 rfl rfl ?_
        refine go_iconst (pc := 42) (-1 : Int32) dX0_findWay_42 (by decide) ?_
        refine go_ixor (pc := 43) dX0_findWay_43 ?_
        refine go_iand (pc := 44) dX0_findWay_44 ?_
        refine go_topi (fun z6 ez6 => ?_)
        have hs := lt_t ez6 hs
        refine go_istore (pc := 45) [some (vR 44), some (vI x0_), some (vI x1_), some (vI x2_), some (vI (x4_ x2_.toNatClampNeg)), some (vI z6), none] dX0_findWay_45 (by decide) rfl ?_
        refine go_iload_n (pc := 47) 1 dX0_findWay_47 rfl rfl ?_
        refine go_iload (pc := 48) dX0_findWay_48 rfl ?_
        refine go_ior (pc := 50) dX0_findWay_50 ?_
        refine go_istore_n (pc := 51) 1 [some (vR 44), some (vI (x0_ ||| z6)), some (vI x1_), some (vI x2_), some (vI (x4_ x2_.toNatClampNeg)), some (vI z6), none] dX0_findWay_51 rfl (by decide) rfl ?_
        refine go_iconst (pc := 52) (0 : Int32) dX0_findWay_52 (by decide) ?_
        refine go_istore (pc := 53) [some (vR 44), some (vI (x0_ ||| z6)), some (vI x1_), some (vI x2_), some (vI (x4_ x2_.toNatClampNeg)), some (vI z6), some (vI (0 : Int32))] dX0_findWay_53 (by decide) rfl ?_
        obtain ⟨e12, hl13, hs⟩ := bnd hs
        refine g_X0_findWay_55 (d := d) x1_ (0 : Int32) x3_ x4_ e12 hl13 ?_
        intro v14 v15 v16 hv17
        subst hv17
        try dsimp only at hs
        refine go_iinc (pc := 105) (x2_ + (1 : Int32)) [some (vR 44), some (vI (x0_ ||| z6)), some (vI v14), some (vI (x2_ + (1 : Int32))), none, none, none] dX0_findWay_105 rfl (iinc_1 _) (by decide) rfl ?_
        refine go_goto (pc := 108) 15 dX0_findWay_108 (by decide) ?_
        obtain rfl := Option.some.inj hs
        exact hI (x0_ ||| z6, v14, x2_ + (1 : Int32), v15, v16) rfl (x0_ ||| z6) v14 (x2_ + (1 : Int32)) v15 v16 rfl
set_option maxRecDepth 20000 in
theorem c_X0_findWay {d : Nat}   {res0 : Int32} {res1 : (Nat → Int32)} {res2 : (Nat → Int32)} (hs : s_X0_findWay aO aC aQ = some (res0, res1, res2)) : Calls mX0_findWay (d + 0) false 0 0 [vR 44] (wC cK cF ga gi gs oK cT ra rb cR cP cM ea eb cW aO aC aQ) (fun r w' => r = some (vI res0) ∧ w' = (wC cK cF ga gi gs oK cT ra rb cR cP cM ea eb cW aO res1 res2)) := by
  unfold s_X0_findWay at hs
  refine Calls.of kX0_findWay 6 [some (vR 44), none, none, none, none, none, none] rfl (Nat.le_of_ble_eq_true rfl) ?_
  refine go_ldc (pc := 0) (1048576 : Int32) dX0_findWay_0 kcX0_47 ?_
  refine go_istore_n (pc := 2) 1 [some (vR 44), some (vI (1048576 : Int32)), none, none, none, none, none] dX0_findWay_2 rfl (by decide) rfl ?_
  refine go_aload_n (pc := 3) 0 dX0_findWay_3 rfl rfl ?_
  refine go_getfield (pc := 4) (v := vR 47) 44 0 2 dX0_findWay_4 flX0_18 rfl rfl ?_
  refine go_iconst (pc := 7) (0 : Int32) dX0_findWay_7 (by decide) ?_
  refine go_bipush (pc := 8) (20 : Int32) dX0_findWay_8 (by decide) ?_
  obtain ⟨hi1, hs⟩ := chk_t hs
  refine go_iastore (pc := 10) 47 dX0_findWay_10 rfl hi1 ((show Go mX0_findWay (d + 0) false 0 0 11 [some (vR 44), some (vI (1048576 : Int32)), none, none, none, none, none] [] (wC cK cF ga gi gs oK cT ra rb cR cP cM ea eb cW aO aC (upd aQ (0 : Int32).toNatClampNeg (20 : Int32))) _ from ?_))
  refine go_iconst (pc := 11) (1 : Int32) dX0_findWay_11 (by decide) ?_
  refine go_istore_n (pc := 12) 2 [some (vR 44), some (vI (1048576 : Int32)), some (vI (1 : Int32)), none, none, none, none] dX0_findWay_12 rfl (by decide) rfl ?_
  refine go_iconst (pc := 13) (0 : Int32) dX0_findWay_13 (by decide) ?_
  refine go_istore_n (pc := 14) 3 [some (vR 44), some (vI (1048576 : Int32)), some (vI (1 : Int32)), some (vI (0 : Int32)), none, none, none] dX0_findWay_14 rfl (by decide) rfl ?_
  obtain ⟨e18, hl19, hs⟩ := bnd hs
  refine g_X0_findWay_15 (d := d) (1048576 : Int32) (1 : Int32) (0 : Int32) aC (upd aQ (0 : Int32).toNatClampNeg (20 : Int32)) e18 hl19 ?_
  intro v20 v21 v22 hv23
  subst hv23
  try dsimp only at hs
  refine go_iload_n (pc := 111) 1 dX0_findWay_111 rfl rfl ?_
  refine go_bipush (pc := 112) (21 : Int32) dX0_findWay_112 (by decide) ?_
  refine go_ishr (pc := 114) dX0_findWay_114 ?_
  refine go_iconst (pc := 115) (1 : Int32) dX0_findWay_115 (by decide) ?_
  refine go_iand (pc := 116) dX0_findWay_116 ?_
  refine go_iconst (pc := 117) (1 : Int32) dX0_findWay_117 (by decide) ?_
  refine go_icmp_ne (pc := 118) 125 dX0_findWay_118 (by decide) (fun h24 => ?_) (fun h24 => ?_)
  · have hs := it_f h24 hs
    refine go_iconst (pc := 125) (0 : Int32) dX0_findWay_125 (by decide) ?_
    cases hs
    exact go_ireturn (st := []) (pc := 126) dX0_findWay_126 rfl rfl (fun h => by cases h) ⟨rfl, rfl⟩
  · have hs := it_t h24 hs
    refine go_iconst (pc := 121) (1 : Int32) dX0_findWay_121 (by decide) ?_
    refine go_goto (pc := 122) 126 dX0_findWay_122 (by decide) ?_
    cases hs
    exact go_ireturn (st := []) (pc := 126) dX0_findWay_126 rfl rfl (fun h => by cases h) ⟨rfl, rfl⟩
noncomputable def b_X0_takeWay_5 (aC : (Nat → Int32)) (x : Int32 × Int32 × (Nat → Int32)) : Option ((Int32 × Int32 × (Nat → Int32)) ⊕ ((Nat → Int32))) := if (22 : Int32) ≤ x.2.1 then (some (Sum.inr x.2.2)) else (if x.1 = (20 : Int32) then (some (Sum.inr x.2.2)) else (chk x.1 22 (chk (aC x.1.toNatClampNeg) 22 (chk (aC x.1.toNatClampNeg) 22 (chk x.1 22 (chk x.1 22 (some (Sum.inl (aC x.1.toNatClampNeg, x.2.1 + (1 : Int32), upd ((upd x.2.2 (aC x.1.toNatClampNeg).toNatClampNeg ((x.2.2 (aC x.1.toNatClampNeg).toNatClampNeg) &&& (((1 : Int32) <<< (x.1 &&& 31)) ^^^ (-1 : Int32))))) x.1.toNatClampNeg ((((upd x.2.2 (aC x.1.toNatClampNeg).toNatClampNeg ((x.2.2 (aC x.1.toNatClampNeg).toNatClampNeg) &&& (((1 : Int32) <<< (x.1 &&& 31)) ^^^ (-1 : Int32))))) x.1.toNatClampNeg) ||| ((1 : Int32) <<< ((aC x.1.toNatClampNeg) &&& 31))))))))))))
noncomputable def s_X0_takeWay (aO : (Nat → Int32)) (aC : (Nat → Int32)) : Option ((Nat → Int32)) := (loop (b_X0_takeWay_5 aC) ((21 : Int32), (0 : Int32), aO)).bind (fun e8 => some e8)
set_option maxRecDepth 20000 in
theorem g_X0_takeWay_5 {d : Nat}  {Q : Option AV → List AC → Prop}   (x0_ : Int32) (x1_ : Int32) (x2_ : (Nat → Int32)) (r : (Nat → Int32)) (hl : loop (b_X0_takeWay_5 aC) (x0_, x1_, x2_) = some r) (hk : Go mX0_takeWay (d + 0) false 0 0 58 [none, none, none, none] [] (wC cK cF ga gi gs oK cT ra rb cR cP cM ea eb cW r aC aQ) Q) : Go mX0_takeWay (d + 0) false 0 0 5 [some (vR 44), some (vI x0_), some (vI x1_), none] [] (wC cK cF ga gi gs oK cT ra rb cR cP cM ea eb cW x2_ aC aQ) Q := by
  refine loop_go (P := fun x : Int32 × Int32 × (Nat → Int32) => ∀ (x0_ : Int32) (x1_ : Int32) (x2_ : (Nat → Int32)), x = (x0_, x1_, x2_) → Go mX0_takeWay (d + 0) false 0 0 5 [some (vR 44), some (vI x0_), some (vI x1_), none] [] (wC cK cF ga gi gs oK cT ra rb cR cP cM ea eb cW x2_ aC aQ) Q) (K := fun r : (Nat → Int32) => Go mX0_takeWay (d + 0) false 0 0 58 [none, none, none, none] [] (wC cK cF ga gi gs oK cT ra rb cR cP cM ea eb cW r aC aQ) Q) ?_ (x0_, x1_, x2_) r hl hk x0_ x1_ x2_ rfl
  · intro x y hs hI hE x0_ x1_ x2_ hx
    subst hx
    unfold b_X0_takeWay_5 at hs
    try dsimp only at hs
    refine go_iload_n (pc := 5) 2 dX0_takeWay_5 rfl rfl ?_
    refine go_bipush (pc := 6) (22 : Int32) dX0_takeWay_6 (by decide) ?_
    refine go_icmp_ge (pc := 8) 58 dX0_takeWay_8 (by decide) (fun h1 => ?_) (fun h1 => ?_)
    · have hs := it_t h1 hs
      obtain rfl := Option.some.inj hs
      refine go_sub (lv' := [none, none, none, none]) trivial ?_
      exact hE x2_ rfl
    · have hs := it_f h1 hs
      refine go_iload_n (pc := 11) 1 dX0_takeWay_11 rfl rfl ?_
      refine go_bipush (pc := 12) (20 : Int32) dX0_takeWay_12 (by decide) ?_
      refine go_icmp_eq (pc := 14) 58 dX0_takeWay_14 (by decide) (fun h2 => ?_) (fun h2 => ?_)
      · have hs := it_t h2 hs
        obtain rfl := Option.some.inj hs
        refine go_sub (lv' := [none, none, none, none]) trivial ?_
        exact hE x2_ rfl
      · have hs := it_f h2 hs
        refine go_aload_n (pc := 17) 0 dX0_takeWay_17 rfl rfl ?_
        refine go_getfield (pc := 18) (v := vR 46) 44 0 1 dX0_takeWay_18 flX0_15 rfl rfl ?_
        refine go_iload_n (pc := 21) 1 dX0_takeWay_21 rfl rfl ?_
        obtain ⟨hi3, hs⟩ := chk_t hs
        refine go_iaload (pc := 22) 46 dX0_takeWay_22 rfl hi3 ?_
        refine go_istore_n (pc := 23) 3 [some (vR 44), some (vI x0_), some (vI x1_), some (vI (aC x0_.toNatClampNeg))] dX0_takeWay_23 rfl (by decide) rfl ?_
        refine go_aload_n (pc := 24) 0 dX0_takeWay_24 rfl rfl ?_
        refine go_getfield (pc := 25) (v := vR 45) 44 0 0 dX0_takeWay_25 flX0_11 rfl rfl ?_
        refine go_iload_n (pc := 28) 3 dX0_takeWay_28 rfl rfl ?_
        refine go_dup2 (pc := 29) dX0_takeWay_29 rfl rfl ?_
        obtain ⟨hi4, hs⟩ := chk_t hs
        refine go_iaload (pc := 30) 45 dX0_takeWay_30 rfl hi4 ?_
        refine go_iconst (pc := 31) (1 : Int32) dX0_takeWay_31 (by decide) ?_
        refine go_iload_n (pc := 32) 1 dX0_takeWay_32 rfl rfl ?_
        refine go_ishl (pc := 33) dX0_takeWay_33 ?_
        refine go_iconst (pc := 34) (-1 : Int32) dX0_takeWay_34 (by decide) ?_
        refine go_ixor (pc := 35) dX0_takeWay_35 ?_
        refine go_iand (pc := 36) dX0_takeWay_36 ?_
        obtain ⟨hi5, hs⟩ := chk_t hs
        refine go_iastore (pc := 37) 45 dX0_takeWay_37 rfl hi5 ((show Go mX0_takeWay (d + 0) false 0 0 38 [some (vR 44), some (vI x0_), some (vI x1_), some (vI (aC x0_.toNatClampNeg))] [] (wC cK cF ga gi gs oK cT ra rb cR cP cM ea eb cW (upd x2_ (aC x0_.toNatClampNeg).toNatClampNeg ((x2_ (aC x0_.toNatClampNeg).toNatClampNeg) &&& (((1 : Int32) <<< (x0_ &&& 31)) ^^^ (-1 : Int32)))) aC aQ) Q from ?_))
        refine go_aload_n (pc := 38) 0 dX0_takeWay_38 rfl rfl ?_
        refine go_getfield (pc := 39) (v := vR 45) 44 0 0 dX0_takeWay_39 flX0_11 rfl rfl ?_
        refine go_iload_n (pc := 42) 1 dX0_takeWay_42 rfl rfl ?_
        refine go_dup2 (pc := 43) dX0_takeWay_43 rfl rfl ?_
        obtain ⟨hi6, hs⟩ := chk_t hs
        refine go_iaload (pc := 44) 45 dX0_takeWay_44 rfl hi6 ?_
        refine go_iconst (pc := 45) (1 : Int32) dX0_takeWay_45 (by decide) ?_
        refine go_iload_n (pc := 46) 3 dX0_takeWay_46 rfl rfl ?_
        refine go_ishl (pc := 47) dX0_takeWay_47 ?_
        refine go_ior (pc := 48) dX0_takeWay_48 ?_
        obtain ⟨hi7, hs⟩ := chk_t hs
        refine go_iastore (pc := 49) 45 dX0_takeWay_49 rfl hi7 ((show Go mX0_takeWay (d + 0) false 0 0 50 [some (vR 44), some (vI x0_), some (vI x1_), some (vI (aC x0_.toNatClampNeg))] [] (wC cK cF ga gi gs oK cT ra rb cR cP cM ea eb cW (upd ((upd x2_ (aC x0_.toNatClampNeg).toNatClampNeg ((x2_ (aC x0_.toNatClampNeg).toNatClampNeg) &&& (((1 : Int32) <<< (x0_ &&& 31)) ^^^ (-1 : Int32))))) x0_.toNatClampNeg ((((upd x2_ (aC x0_.toNatClampNeg).toNatClampNeg ((x2_ (aC x0_.toNatClampNeg).toNatClampNeg) &&& (((1 : Int32) <<< (x0_ &&& 31)) ^^^ (-1 : Int32))))) x0_.toNatClampNeg) ||| ((1 : Int32) <<< ((aC x0_.toNatClampNeg) &&& 31)))) aC aQ) Q from ?_))
        refine go_iload_n (pc := 50) 3 dX0_takeWay_50 rfl rfl ?_
        refine go_istore_n (pc := 51) 1 [some (vR 44), some (vI (aC x0_.toNatClampNeg)), some (vI x1_), some (vI (aC x0_.toNatClampNeg))] dX0_takeWay_51 rfl (by decide) rfl ?_
        refine go_iinc (pc := 52) (x1_ + (1 : Int32)) [some (vR 44), some (vI (aC x0_.toNatClampNeg)), some (vI (x1_ + (1 : Int32))), some (vI (aC x0_.toNatClampNeg))] dX0_takeWay_52 rfl (iinc_1 _) (by decide) rfl ?_
        refine go_goto (pc := 55) 5 dX0_takeWay_55 (by decide) ?_
        obtain rfl := Option.some.inj hs
        refine go_sub (lv' := [some (vR 44), some (vI (aC x0_.toNatClampNeg)), some (vI (x1_ + (1 : Int32))), none]) ⟨rfl, ⟨rfl, ⟨rfl, trivial⟩⟩⟩ ?_
        exact hI (aC x0_.toNatClampNeg, x1_ + (1 : Int32), upd ((upd x2_ (aC x0_.toNatClampNeg).toNatClampNeg ((x2_ (aC x0_.toNatClampNeg).toNatClampNeg) &&& (((1 : Int32) <<< (x0_ &&& 31)) ^^^ (-1 : Int32))))) x0_.toNatClampNeg ((((upd x2_ (aC x0_.toNatClampNeg).toNatClampNeg ((x2_ (aC x0_.toNatClampNeg).toNatClampNeg) &&& (((1 : Int32) <<< (x0_ &&& 31)) ^^^ (-1 : Int32))))) x0_.toNatClampNeg) ||| ((1 : Int32) <<< ((aC x0_.toNatClampNeg) &&& 31)))) rfl (aC x0_.toNatClampNeg) (x1_ + (1 : Int32)) (upd ((upd x2_ (aC x0_.toNatClampNeg).toNatClampNeg ((x2_ (aC x0_.toNatClampNeg).toNatClampNeg) &&& (((1 : Int32) <<< (x0_ &&& 31)) ^^^ (-1 : Int32))))) x0_.toNatClampNeg ((((upd x2_ (aC x0_.toNatClampNeg).toNatClampNeg ((x2_ (aC x0_.toNatClampNeg).toNatClampNeg) &&& (((1 : Int32) <<< (x0_ &&& 31)) ^^^ (-1 : Int32))))) x0_.toNatClampNeg) ||| ((1 : Int32) <<< ((aC x0_.toNatClampNeg) &&& 31)))) rfl
set_option maxRecDepth 20000 in
theorem c_X0_takeWay {d : Nat}   {res0 : (Nat → Int32)} (hs : s_X0_takeWay aO aC = some res0) : Calls mX0_takeWay (d + 0) false 0 0 [vR 44] (wC cK cF ga gi gs oK cT ra rb cR cP cM ea eb cW aO aC aQ) (fun r w' => r = none ∧ w' = (wC cK cF ga gi gs oK cT ra rb cR cP cM ea eb cW res0 aC aQ)) := by
  unfold s_X0_takeWay at hs
  refine Calls.of kX0_takeWay 3 [some (vR 44), none, none, none] rfl (Nat.le_of_ble_eq_true rfl) ?_
  refine go_bipush (pc := 0) (21 : Int32) dX0_takeWay_0 (by decide) ?_
  refine go_istore_n (pc := 2) 1 [some (vR 44), some (vI (21 : Int32)), none, none] dX0_takeWay_2 rfl (by decide) rfl ?_
  refine go_iconst (pc := 3) (0 : Int32) dX0_takeWay_3 (by decide) ?_
  refine go_istore_n (pc := 4) 2 [some (vR 44), some (vI (21 : Int32)), some (vI (0 : Int32)), none] dX0_takeWay_4 rfl (by decide) rfl ?_
  obtain ⟨e8, hl9, hs⟩ := bnd hs
  refine g_X0_takeWay_5 (d := d) (21 : Int32) (0 : Int32) aO e8 hl9 ?_
  cases hs
  exact go_return (st := []) (pc := 58) dX0_takeWay_58 rfl (fun h => by cases h) ⟨rfl, rfl⟩
noncomputable def b_X0_most_10 (cK : (Nat → Int32)) (p1 : (Fin 5)) (x : Int32 × (Nat → Int32) × (Nat → Int32) × (Nat → Int32)) : Option ((Int32 × (Nat → Int32) × (Nat → Int32) × (Nat → Int32)) ⊕ (Int32 × (Nat → Int32) × (Nat → Int32) × (Nat → Int32))) := if (cK p1.1) ≤ x.1 then (some (Sum.inr (x.1, x.2.1, x.2.2.1, x.2.2.2))) else ((s_X0_findWay x.2.1 x.2.2.1 x.2.2.2).bind (fun x4 => if x4.1 = 0 then (some (Sum.inr (x.1, x.2.1, x4.2.1, x4.2.2))) else ((s_X0_takeWay x.2.1 x4.2.1).bind (fun x7 => some (Sum.inl (x.1 + (1 : Int32), x7, x4.2.1, x4.2.2))))))
noncomputable def s_X0_most (cK : (Nat → Int32)) (cF : (Nat → Nat → Int32)) (aO : (Nat → Int32)) (aC : (Nat → Int32)) (aQ : (Nat → Int32)) (p1 : (Fin 5)) (a2 : Int32) (a3 : Int32) : Option (Int32 × (Nat → Int32) × (Nat → Int32) × (Nat → Int32)) := (s_X0_openArcs cK cF aO p1 a2 a3).bind (fun x1 => (loop (b_X0_most_10 cK p1) ((0 : Int32), x1, aC, aQ)).bind (fun e9 => some (e9.1, e9.2.1, e9.2.2.1, e9.2.2.2)))
set_option maxRecDepth 20000 in
theorem g_X0_most_10 {d : Nat} {p1 : (Fin 5)} {Q : Option AV → List AC → Prop}   (x0_ : Int32) (x1_ : (Nat → Int32)) (x2_ : (Nat → Int32)) (x3_ : (Nat → Int32)) (r : Int32 × (Nat → Int32) × (Nat → Int32) × (Nat → Int32)) (hl : loop (b_X0_most_10 cK p1) (x0_, x1_, x2_, x3_) = some r) (hk : ∀ (r0_ : Int32) (r1_ : (Nat → Int32)) (r2_ : (Nat → Int32)) (r3_ : (Nat → Int32)), r = (r0_, r1_, r2_, r3_) → Go mX0_most (d + 2) false 0 0 36 [none, none, none, none, some (vI r0_)] [] (wC cK cF ga gi gs oK cT ra rb cR cP cM ea eb cW r1_ r2_ r3_) Q) : Go mX0_most (d + 2) false 0 0 10 [some (vR 44), some (vR (pN p1.1)), none, none, some (vI x0_)] [] (wC cK cF ga gi gs oK cT ra rb cR cP cM ea eb cW x1_ x2_ x3_) Q := by
  refine loop_go (P := fun x : Int32 × (Nat → Int32) × (Nat → Int32) × (Nat → Int32) => ∀ (x0_ : Int32) (x1_ : (Nat → Int32)) (x2_ : (Nat → Int32)) (x3_ : (Nat → Int32)), x = (x0_, x1_, x2_, x3_) → Go mX0_most (d + 2) false 0 0 10 [some (vR 44), some (vR (pN p1.1)), none, none, some (vI x0_)] [] (wC cK cF ga gi gs oK cT ra rb cR cP cM ea eb cW x1_ x2_ x3_) Q) (K := fun r : Int32 × (Nat → Int32) × (Nat → Int32) × (Nat → Int32) => ∀ (r0_ : Int32) (r1_ : (Nat → Int32)) (r2_ : (Nat → Int32)) (r3_ : (Nat → Int32)), r = (r0_, r1_, r2_, r3_) → Go mX0_most (d + 2) false 0 0 36 [none, none, none, none, some (vI r0_)] [] (wC cK cF ga gi gs oK cT ra rb cR cP cM ea eb cW r1_ r2_ r3_) Q) ?_ (x0_, x1_, x2_, x3_) r hl hk x0_ x1_ x2_ x3_ rfl
  · intro x y hs hI hE x0_ x1_ x2_ x3_ hx
    subst hx
    unfold b_X0_most_10 at hs
    try dsimp only at hs
    refine go_iload (pc := 10) dX0_most_10 rfl ?_
    refine go_aload_n (pc := 12) 1 dX0_most_12 rfl rfl ?_
    refine go_getfield (pc := 13) (v := vI (cK p1.1)) (pN p1.1) 2 0 dX0_most_13 flX0_25 (wC_net p1) rfl ?_
    refine go_icmp_ge (pc := 16) 36 dX0_most_16 (by decide) (fun h3 => ?_) (fun h3 => ?_)
    · have hs := it_t h3 hs
      obtain rfl := Option.some.inj hs
      refine go_sub (lv' := [none, none, none, none, some (vI x0_)]) ⟨rfl, trivial⟩ ?_
      exact (hE (x0_, x1_, x2_, x3_) rfl) x0_ x1_ x2_ x3_ rfl
    · have hs := it_f h3 hs
      refine go_aload_n (pc := 19) 0 dX0_most_19 rfl rfl ?_
      obtain ⟨x4, hc5, hs⟩ := bnd hs
      refine go_callV (bc := 0) (bs := 0) (mc := 0) (ms := 0) (d := d + 1) (pc := 20) (a := 44) (ci := 0) [] [] dX0_most_20 kX0_findWay mlX0_31 ivX0_findWay rfl rfl rfl rfl (Nat.le_of_ble_eq_true rfl) rfl (c_X0_findWay (d := d + 1) (res0 := x4.1) (res1 := x4.2.1) (res2 := x4.2.2) hc5) (fun r w' hq => ?_)
      obtain ⟨rfl, rfl⟩ := hq
      show Go mX0_most (d + 2) false 0 0 23 [some (vR 44), some (vR (pN p1.1)), none, none, some (vI x0_)] [vI x4.1] (wC cK cF ga gi gs oK cT ra rb cR cP cM ea eb cW x1_ x4.2.1 x4.2.2) Q
      refine go_if_eq (pc := 23) 36 dX0_most_23 (by decide) (fun h6 => ?_) (fun h6 => ?_)
      · have hs := it_t h6 hs
        obtain rfl := Option.some.inj hs
        refine go_sub (lv' := [none, none, none, none, some (vI x0_)]) ⟨rfl, trivial⟩ ?_
        exact (hE (x0_, x1_, x4.2.1, x4.2.2) rfl) x0_ x1_ x4.2.1 x4.2.2 rfl
      · have hs := it_f h6 hs
        refine go_aload_n (pc := 26) 0 dX0_most_26 rfl rfl ?_
        obtain ⟨x7, hc8, hs⟩ := bnd hs
        refine go_callV (bc := 0) (bs := 0) (mc := 0) (ms := 0) (d := d + 1) (pc := 27) (a := 44) (ci := 0) [] [] dX0_most_27 kX0_takeWay mlX0_35 ivX0_takeWay rfl rfl rfl rfl (Nat.le_of_ble_eq_true rfl) rfl (c_X0_takeWay (d := d + 1) (res0 := x7) hc8) (fun r w' hq => ?_)
        obtain ⟨rfl, rfl⟩ := hq
        show Go mX0_most (d + 2) false 0 0 30 [some (vR 44), some (vR (pN p1.1)), none, none, some (vI x0_)] [] (wC cK cF ga gi gs oK cT ra rb cR cP cM ea eb cW x7 x4.2.1 x4.2.2) Q
        refine go_iinc (pc := 30) (x0_ + (1 : Int32)) [some (vR 44), some (vR (pN p1.1)), none, none, some (vI (x0_ + (1 : Int32)))] dX0_most_30 rfl (iinc_1 _) (by decide) rfl ?_
        refine go_goto (pc := 33) 10 dX0_most_33 (by decide) ?_
        obtain rfl := Option.some.inj hs
        exact hI (x0_ + (1 : Int32), x7, x4.2.1, x4.2.2) rfl (x0_ + (1 : Int32)) x7 x4.2.1 x4.2.2 rfl
set_option maxRecDepth 20000 in
theorem c_X0_most {d : Nat}  {p1 : (Fin 5)} {a2 : Int32} {a3 : Int32} {res0 : Int32} {res1 : (Nat → Int32)} {res2 : (Nat → Int32)} {res3 : (Nat → Int32)} (hs : s_X0_most cK cF aO aC aQ p1 a2 a3 = some (res0, res1, res2, res3)) : Calls mX0_most (d + 2) false 0 0 [vR 44, vR (pN p1.1), vI a2, vI a3] (wC cK cF ga gi gs oK cT ra rb cR cP cM ea eb cW aO aC aQ) (fun r w' => r = some (vI res0) ∧ w' = (wC cK cF ga gi gs oK cT ra rb cR cP cM ea eb cW res1 res2 res3)) := by
  unfold s_X0_most at hs
  refine Calls.of kX0_most 1 [some (vR 44), some (vR (pN p1.1)), some (vI a2), some (vI a3), none] rfl (Nat.le_of_ble_eq_true rfl) ?_
  refine go_aload_n (pc := 0) 0 dX0_most_0 rfl rfl ?_
  refine go_aload_n (pc := 1) 1 dX0_most_1 rfl rfl ?_
  refine go_iload_n (pc := 2) 2 dX0_most_2 rfl rfl ?_
  refine go_iload_n (pc := 3) 3 dX0_most_3 rfl rfl ?_
  obtain ⟨x1, hc2, hs⟩ := bnd hs
  refine go_callV (bc := 0) (bs := 0) (mc := 0) (ms := 0) (d := d + 1) (pc := 4) (a := 44) (ci := 0) [vR (pN p1.1), vI a2, vI a3] [] dX0_most_4 kX0_openArcs mlX0_21 ivX0_openArcs rfl rfl rfl rfl (Nat.le_of_ble_eq_true rfl) rfl (c_X0_openArcs (d := d + 0) (res0 := x1) hc2) (fun r w' hq => ?_)
  obtain ⟨rfl, rfl⟩ := hq
  show Go mX0_most (d + 2) false 0 0 7 [some (vR 44), some (vR (pN p1.1)), some (vI a2), some (vI a3), none] [] (wC cK cF ga gi gs oK cT ra rb cR cP cM ea eb cW x1 aC aQ) _
  refine go_iconst (pc := 7) (0 : Int32) dX0_most_7 (by decide) ?_
  refine go_istore (pc := 8) [some (vR 44), some (vR (pN p1.1)), some (vI a2), some (vI a3), some (vI (0 : Int32))] dX0_most_8 (by decide) rfl ?_
  refine go_sub (lv' := [some (vR 44), some (vR (pN p1.1)), none, none, some (vI (0 : Int32))]) ⟨rfl, ⟨rfl, ⟨rfl, trivial⟩⟩⟩ ?_
  obtain ⟨e9, hl10, hs⟩ := bnd hs
  refine g_X0_most_10 (d := d) (0 : Int32) x1 aC aQ e9 hl10 ?_
  intro v11 v12 v13 v14 hv15
  subst hv15
  try dsimp only at hs
  refine go_iload (pc := 36) dX0_most_36 rfl ?_
  cases hs
  exact go_ireturn (st := []) (pc := 38) dX0_most_38 rfl (vp_nar_int _) (fun h => by cases h) ⟨rfl, rfl⟩
end
