section
variable {cK : (Nat → Int32)} {cF : (Nat → Nat → Int32)} {ga : Int32} {gi : Int32} {gs : Int32} {oK : Int32} {cT : (Nat → Nat → Int32)} {ra : (Fin 2)} {rb : (Fin 2)} {cR : (Nat → Nat → Nat → Int64)} {cP : (Nat → Int64)} {cM : (Nat → Int64)} {ea : (Fin 2)} {eb : (Fin 2)} {cW : (Nat → Nat → Int64)} {aO : (Nat → Int32)} {aC : (Nat → Int32)} {aQ : (Nat → Int32)}
noncomputable def s_X3_read (cK : (Nat → Int32)) (cF : (Nat → Nat → Int32)) (oK : Int32) (cT : (Nat → Nat → Int32)) (ra : (Fin 2)) (rb : (Fin 2)) (cR : (Nat → Nat → Nat → Int64)) (cP : (Nat → Int64)) (p1 : (Fin 5)) (a2 : Int32) : Option (Int32 × (Nat → Nat → Int32) × (Fin 2) × (Fin 2) × (Nat → Nat → Nat → Int64) × (Nat → Int64)) := (s_X3_fillTable cF (cK p1.1) cT p1 a2).bind (fun x1 => (s_X3_findPolynomial (cK p1.1) x1 ra rb cR cP).bind (fun x3 => some (cK p1.1, x1, x3.1, x3.2.1, x3.2.2.1, x3.2.2.2)))
set_option maxRecDepth 20000 in
theorem c_X3_read {d : Nat}  {p1 : (Fin 5)} {a2 : Int32} {res0 : Int32} {res1 : (Nat → Nat → Int32)} {res2 : (Fin 2)} {res3 : (Fin 2)} {res4 : (Nat → Nat → Nat → Int64)} {res5 : (Nat → Int64)} (hs : s_X3_read cK cF oK cT ra rb cR cP p1 a2 = some (res0, res1, res2, res3, res4, res5)) : Calls mX3_read (d + 3) false 0 0 [vR 5, vR (pN p1.1), vI a2] (wC cK cF ga gi gs oK cT ra rb cR cP cM ea eb cW aO aC aQ) (fun r w' => r = none ∧ w' = (wC cK cF ga gi gs res0 res1 res2 res3 res4 res5 cM ea eb cW aO aC aQ)) := by
  unfold s_X3_read at hs
  refine Calls.of kX3_read 0 [some (vR 5), some (vR (pN p1.1)), some (vI a2)] rfl (Nat.le_of_ble_eq_true rfl) ?_
  refine go_aload_n (pc := 0) 0 dX3_read_0 rfl rfl ?_
  refine go_aload_n (pc := 1) 1 dX3_read_1 rfl rfl ?_
  refine go_getfield (pc := 2) (v := vI (cK p1.1)) (pN p1.1) 2 0 dX3_read_2 flX3_31 (wC_net p1) rfl ?_
  refine go_putI (pc := 5) 5 3 0 dX3_read_5 fpX3_37 rfl (Nat.le_of_ble_eq_true rfl) ((show Go mX3_read (d + 3) false 0 0 8 [some (vR 5), some (vR (pN p1.1)), some (vI a2)] [] (wC cK cF ga gi gs (cK p1.1) cT ra rb cR cP cM ea eb cW aO aC aQ) _ from ?_))
  refine go_aload_n (pc := 8) 0 dX3_read_8 rfl rfl ?_
  refine go_aload_n (pc := 9) 1 dX3_read_9 rfl rfl ?_
  refine go_iload_n (pc := 10) 2 dX3_read_10 rfl rfl ?_
  obtain ⟨x1, hc2, hs⟩ := bnd hs
  refine go_callV (bc := 0) (bs := 0) (mc := 0) (ms := 0) (d := d + 2) (pc := 11) (a := 5) (ci := 3) [vR (pN p1.1), vI a2] [] dX3_read_11 kX3_fillTable mlX3_38 ivX3_fillTable rfl rfl rfl rfl (Nat.le_of_ble_eq_true rfl) rfl (c_X3_fillTable (d := d + 1) (res0 := x1) hc2) (fun r w' hq => ?_)
  obtain ⟨rfl, rfl⟩ := hq
  show Go mX3_read (d + 3) false 0 0 14 [some (vR 5), some (vR (pN p1.1)), some (vI a2)] [] (wC cK cF ga gi gs (cK p1.1) x1 ra rb cR cP cM ea eb cW aO aC aQ) _
  refine go_aload_n (pc := 14) 0 dX3_read_14 rfl rfl ?_
  obtain ⟨x3, hc4, hs⟩ := bnd hs
  refine go_callV (bc := 0) (bs := 0) (mc := 0) (ms := 0) (d := d + 2) (pc := 15) (a := 5) (ci := 3) [] [] dX3_read_15 kX3_findPolynomial mlX3_42 ivX3_findPolynomial rfl rfl rfl rfl (Nat.le_of_ble_eq_true rfl) rfl (c_X3_findPolynomial (d := d + 0) (res0 := x3.1) (res1 := x3.2.1) (res2 := x3.2.2.1) (res3 := x3.2.2.2) hc4) (fun r w' hq => ?_)
  obtain ⟨rfl, rfl⟩ := hq
  show Go mX3_read (d + 3) false 0 0 18 [some (vR 5), some (vR (pN p1.1)), some (vI a2)] [] (wC cK cF ga gi gs (cK p1.1) x1 x3.1 x3.2.1 x3.2.2.1 x3.2.2.2 cM ea eb cW aO aC aQ) _
  cases hs
  exact go_return (st := []) (pc := 18) dX3_read_18 rfl (fun h => by cases h) ⟨rfl, rfl⟩
noncomputable def b_X3_moveBy_36 (y1 : Int32) (y2 : Int32) (x : Int32 × (Nat → Int64)) : Option ((Int32 × (Nat → Int64)) ⊕ ((Nat → Int64))) := if x.1 < y2 then (some (Sum.inr x.2)) else (chk x.1 11 (chk (x.1 + (1 : Int32)) 11 (chk x.1 11 (some (Sum.inl (x.1 + (-1 : Int32), vp_updL x.2 x.1.toNatClampNeg ((x.2 x.1.toNatClampNeg) + (y1.toInt64 * (x.2 (x.1 + (1 : Int32)).toNatClampNeg)))))))))
noncomputable def b_X3_moveBy_21 (oK : Int32) (y1 : Int32) (x : Int32 × (Nat → Int64)) : Option ((Int32 × (Nat → Int64)) ⊕ ((Nat → Int64))) := if oK ≤ x.1 then (some (Sum.inr x.2)) else ((loop (b_X3_moveBy_36 y1 x.1) (oK - (1 : Int32), x.2)).bind (fun e7 => some (Sum.inl (x.1 + (1 : Int32), e7))))
noncomputable def s_X3_moveBy (oK : Int32) (cP : (Nat → Int64)) (cM : (Nat → Int64)) (a1 : Int32) : Option ((Nat → Int64)) := cpk (0 : Int32) (0 : Int32) (oK + (1 : Int32)) 11 11 ((loop (b_X3_moveBy_21 oK a1) ((0 : Int32), va_cpy cP cM (0 : Int32).toNatClampNeg (0 : Int32).toNatClampNeg (oK + (1 : Int32)).toNatClampNeg)).bind (fun e10 => some e10))
set_option maxRecDepth 20000 in
theorem g_X3_moveBy_36 {d : Nat}  {Q : Option AV → List AC → Prop} {y1 : Int32} {y2 : Int32}  (x0_ : Int32) (x1_ : (Nat → Int64)) (r : (Nat → Int64)) (hl : loop (b_X3_moveBy_36 y1 y2) (x0_, x1_) = some r) (hk : Go mX3_moveBy (d + 1) false 0 0 67 [some (vR 5), some (vI y1), some (vI y2), none] [] (wC cK cF ga gi gs oK cT ra rb cR cP r ea eb cW aO aC aQ) Q) : Go mX3_moveBy (d + 1) false 0 0 36 [some (vR 5), some (vI y1), some (vI y2), some (vI x0_)] [] (wC cK cF ga gi gs oK cT ra rb cR cP x1_ ea eb cW aO aC aQ) Q := by
  refine loop_go (P := fun x : Int32 × (Nat → Int64) => ∀ (x0_ : Int32) (x1_ : (Nat → Int64)), x = (x0_, x1_) → Go mX3_moveBy (d + 1) false 0 0 36 [some (vR 5), some (vI y1), some (vI y2), some (vI x0_)] [] (wC cK cF ga gi gs oK cT ra rb cR cP x1_ ea eb cW aO aC aQ) Q) (K := fun r : (Nat → Int64) => Go mX3_moveBy (d + 1) false 0 0 67 [some (vR 5), some (vI y1), some (vI y2), none] [] (wC cK cF ga gi gs oK cT ra rb cR cP r ea eb cW aO aC aQ) Q) ?_ (x0_, x1_) r hl hk x0_ x1_ rfl
  · intro x y hs hI hE x0_ x1_ hx
    subst hx
    unfold b_X3_moveBy_36 at hs
    try dsimp only at hs
    refine go_iload_n (pc := 36) 3 dX3_moveBy_36 rfl rfl ?_
    refine go_iload_n (pc := 37) 2 dX3_moveBy_37 rfl rfl ?_
    refine go_icmp_lt (pc := 38) 67 dX3_moveBy_38 (by decide) (fun h3 => ?_) (fun h3 => ?_)
    · have hs := it_t h3 hs
      obtain rfl := Option.some.inj hs
      refine go_sub (lv' := [some (vR 5), some (vI y1), some (vI y2), none]) ⟨rfl, ⟨rfl, ⟨rfl, trivial⟩⟩⟩ ?_
      exact hE x1_ rfl
    · have hs := it_f h3 hs
      refine go_aload_n (pc := 41) 0 dX3_moveBy_41 rfl rfl ?_
      refine go_getfield (pc := 42) (v := vR 40) 5 3 5 dX3_moveBy_42 flX3_28 rfl rfl ?_
      refine go_iload_n (pc := 45) 3 dX3_moveBy_45 rfl rfl ?_
      refine go_dup2 (pc := 46) dX3_moveBy_46 rfl rfl ?_
      obtain ⟨hi4, hs⟩ := chk_t hs
      refine go_laload (pc := 47) 40 dX3_moveBy_47 rfl hi4 ?_
      refine go_iload_n (pc := 48) 1 dX3_moveBy_48 rfl rfl ?_
      refine go_i2l (pc := 49) dX3_moveBy_49 ?_
      refine go_aload_n (pc := 50) 0 dX3_moveBy_50 rfl rfl ?_
      refine go_getfield (pc := 51) (v := vR 40) 5 3 5 dX3_moveBy_51 flX3_28 rfl rfl ?_
      refine go_iload_n (pc := 54) 3 dX3_moveBy_54 rfl rfl ?_
      refine go_iconst (pc := 55) (1 : Int32) dX3_moveBy_55 (by decide) ?_
      refine go_iadd (pc := 56) dX3_moveBy_56 ?_
      obtain ⟨hi5, hs⟩ := chk_t hs
      refine go_laload (pc := 57) 40 dX3_moveBy_57 rfl hi5 ?_
      refine go_lmul (pc := 58) dX3_moveBy_58 ?_
      refine go_ladd (pc := 59) dX3_moveBy_59 ?_
      obtain ⟨hi6, hs⟩ := chk_t hs
      refine go_lastore (pc := 60) 40 dX3_moveBy_60 rfl hi6 ((show Go mX3_moveBy (d + 1) false 0 0 61 [some (vR 5), some (vI y1), some (vI y2), some (vI x0_)] [] (wC cK cF ga gi gs oK cT ra rb cR cP (vp_updL x1_ x0_.toNatClampNeg ((x1_ x0_.toNatClampNeg) + (y1.toInt64 * (x1_ (x0_ + (1 : Int32)).toNatClampNeg)))) ea eb cW aO aC aQ) Q from ?_))
      refine go_iinc (pc := 61) (x0_ + (-1 : Int32)) [some (vR 5), some (vI y1), some (vI y2), some (vI (x0_ + (-1 : Int32)))] dX3_moveBy_61 rfl (iinc_m1 _) (by decide) rfl ?_
      refine go_goto (pc := 64) 36 dX3_moveBy_64 (by decide) ?_
      obtain rfl := Option.some.inj hs
      exact hI (x0_ + (-1 : Int32), vp_updL x1_ x0_.toNatClampNeg ((x1_ x0_.toNatClampNeg) + (y1.toInt64 * (x1_ (x0_ + (1 : Int32)).toNatClampNeg)))) rfl (x0_ + (-1 : Int32)) (vp_updL x1_ x0_.toNatClampNeg ((x1_ x0_.toNatClampNeg) + (y1.toInt64 * (x1_ (x0_ + (1 : Int32)).toNatClampNeg)))) rfl
set_option maxRecDepth 20000 in
theorem g_X3_moveBy_21 {d : Nat}  {Q : Option AV → List AC → Prop} {y1 : Int32}  (x0_ : Int32) (x1_ : (Nat → Int64)) (r : (Nat → Int64)) (hl : loop (b_X3_moveBy_21 oK y1) (x0_, x1_) = some r) (hk : Go mX3_moveBy (d + 1) false 0 0 73 [none, none, none, none] [] (wC cK cF ga gi gs oK cT ra rb cR cP r ea eb cW aO aC aQ) Q) : Go mX3_moveBy (d + 1) false 0 0 21 [some (vR 5), some (vI y1), some (vI x0_), none] [] (wC cK cF ga gi gs oK cT ra rb cR cP x1_ ea eb cW aO aC aQ) Q := by
  refine loop_go (P := fun x : Int32 × (Nat → Int64) => ∀ (x0_ : Int32) (x1_ : (Nat → Int64)), x = (x0_, x1_) → Go mX3_moveBy (d + 1) false 0 0 21 [some (vR 5), some (vI y1), some (vI x0_), none] [] (wC cK cF ga gi gs oK cT ra rb cR cP x1_ ea eb cW aO aC aQ) Q) (K := fun r : (Nat → Int64) => Go mX3_moveBy (d + 1) false 0 0 73 [none, none, none, none] [] (wC cK cF ga gi gs oK cT ra rb cR cP r ea eb cW aO aC aQ) Q) ?_ (x0_, x1_) r hl hk x0_ x1_ rfl
  · intro x y hs hI hE x0_ x1_ hx
    subst hx
    unfold b_X3_moveBy_21 at hs
    try dsimp only at hs
    refine go_iload_n (pc := 21) 2 dX3_moveBy_21 rfl rfl ?_
    refine go_aload_n (pc := 22) 0 dX3_moveBy_22 rfl rfl ?_
    refine go_getfield (pc := 23) (v := vI oK) 5 3 0 dX3_moveBy_23 flX3_37 rfl rfl ?_
    refine go_icmp_ge (pc := 26) 73 dX3_moveBy_26 (by decide) (fun h2 => ?_) (fun h2 => ?_)
    · have hs := it_t h2 hs
      obtain rfl := Option.some.inj hs
      refine go_sub (lv' := [none, none, none, none]) trivial ?_
      exact hE x1_ rfl
    · have hs := it_f h2 hs
      refine go_aload_n (pc := 29) 0 dX3_moveBy_29 rfl rfl ?_
      refine go_getfield (pc := 30) (v := vI oK) 5 3 0 dX3_moveBy_30 flX3_37 rfl rfl ?_
      refine go_iconst (pc := 33) (1 : Int32) dX3_moveBy_33 (by decide) ?_
      refine go_isub (pc := 34) dX3_moveBy_34 ?_
      refine go_istore_n (pc := 35) 3 [some (vR 5), some (vI y1), some (vI x0_), some (vI (oK - (1 : Int32)))] dX3_moveBy_35 rfl (by decide) rfl ?_
      obtain ⟨e7, hl8, hs⟩ := bnd hs
      refine g_X3_moveBy_36 (d := d) (oK - (1 : Int32)) x1_ e7 hl8 ?_
      refine go_iinc (pc := 67) (x0_ + (1 : Int32)) [some (vR 5), some (vI y1), some (vI (x0_ + (1 : Int32))), none] dX3_moveBy_67 rfl (iinc_1 _) (by decide) rfl ?_
      refine go_goto (pc := 70) 21 dX3_moveBy_70 (by decide) ?_
      obtain rfl := Option.some.inj hs
      exact hI (x0_ + (1 : Int32), e7) rfl (x0_ + (1 : Int32)) e7 rfl
set_option maxRecDepth 20000 in
theorem c_X3_moveBy {d : Nat}  {a1 : Int32} {res0 : (Nat → Int64)} (hs : s_X3_moveBy oK cP cM a1 = some res0) : Calls mX3_moveBy (d + 1) false 0 0 [vR 5, vI a1] (wC cK cF ga gi gs oK cT ra rb cR cP cM ea eb cW aO aC aQ) (fun r w' => r = none ∧ w' = (wC cK cF ga gi gs oK cT ra rb cR cP res0 ea eb cW aO aC aQ)) := by
  unfold s_X3_moveBy at hs
  refine Calls.of kX3_moveBy 2 [some (vR 5), some (vI a1), none, none] rfl (Nat.le_of_ble_eq_true rfl) ?_
  refine go_aload_n (pc := 0) 0 dX3_moveBy_0 rfl rfl ?_
  refine go_getfield (pc := 1) (v := vR 39) 5 3 4 dX3_moveBy_1 flX3_24 rfl rfl ?_
  refine go_iconst (pc := 4) (0 : Int32) dX3_moveBy_4 (by decide) ?_
  refine go_aload_n (pc := 5) 0 dX3_moveBy_5 rfl rfl ?_
  refine go_getfield (pc := 6) (v := vR 40) 5 3 5 dX3_moveBy_6 flX3_28 rfl rfl ?_
  refine go_iconst (pc := 9) (0 : Int32) dX3_moveBy_9 (by decide) ?_
  refine go_aload_n (pc := 10) 0 dX3_moveBy_10 rfl rfl ?_
  refine go_getfield (pc := 11) (v := vI oK) 5 3 0 dX3_moveBy_11 flX3_37 rfl rfl ?_
  refine go_iconst (pc := 14) (1 : Int32) dX3_moveBy_14 (by decide) ?_
  refine go_iadd (pc := 15) dX3_moveBy_15 ?_
  obtain ⟨hk1, hs⟩ := cpk_t hs
  refine go_copyl (d := d + 0) (pc := 16) 39 40 dX3_moveBy_16 mlX3_83 rfl rfl hk1.1 hk1.2.1 hk1.2.2.1 hk1.2.2.2.1 hk1.2.2.2.2 (Nat.le_of_ble_eq_true rfl) ((show Go mX3_moveBy (d + 1) false 0 0 19 [some (vR 5), some (vI a1), none, none] [] (wC cK cF ga gi gs oK cT ra rb cR cP (va_cpy cP cM (0 : Int32).toNatClampNeg (0 : Int32).toNatClampNeg (oK + (1 : Int32)).toNatClampNeg) ea eb cW aO aC aQ) _ from ?_))
  refine go_iconst (pc := 19) (0 : Int32) dX3_moveBy_19 (by decide) ?_
  refine go_istore_n (pc := 20) 2 [some (vR 5), some (vI a1), some (vI (0 : Int32)), none] dX3_moveBy_20 rfl (by decide) rfl ?_
  obtain ⟨e10, hl11, hs⟩ := bnd hs
  refine g_X3_moveBy_21 (d := d) (0 : Int32) (va_cpy cP cM (0 : Int32).toNatClampNeg (0 : Int32).toNatClampNeg (oK + (1 : Int32)).toNatClampNeg) e10 hl11 ?_
  cases hs
  exact go_return (st := []) (pc := 73) dX3_moveBy_73 rfl (fun h => by cases h) ⟨rfl, rfl⟩
noncomputable def b_X3_countAbove_15 (cM : (Nat → Int64)) (x : Int32 × Int32 × Int32) : Option ((Int32 × Int32 × Int32) ⊕ (Int32)) := if x.2.2 < 0 then (some (Sum.inr x.1)) else (chk x.2.2 11 ((s_J13_signum_95d88 (cM x.2.2.toNatClampNeg)).bind (fun x5 => if x5 = 0 then (if x5 = 0 then (some (Sum.inl (x.1, x.2.1, x.2.2 + (-1 : Int32)))) else (some (Sum.inl (x.1, x5, x.2.2 + (-1 : Int32))))) else (if x5 = (-x.2.1) then (if x5 = 0 then (some (Sum.inl (x.1 + (1 : Int32), x.2.1, x.2.2 + (-1 : Int32)))) else (some (Sum.inl (x.1 + (1 : Int32), x5, x.2.2 + (-1 : Int32))))) else (if x5 = 0 then (some (Sum.inl (x.1, x.2.1, x.2.2 + (-1 : Int32)))) else (some (Sum.inl (x.1, x5, x.2.2 + (-1 : Int32)))))))))
noncomputable def s_X3_countAbove (oK : Int32) (cP : (Nat → Int64)) (cM : (Nat → Int64)) (a1 : Int32) : Option (Int32 × (Nat → Int64)) := (s_X3_moveBy oK cP cM a1).bind (fun x1 => (loop (b_X3_countAbove_15 x1) ((0 : Int32), (0 : Int32), oK)).bind (fun e12 => some (e12, x1)))
set_option maxRecDepth 20000 in
theorem g_X3_countAbove_15 {d : Nat}  {Q : Option AV → List AC → Prop}   (x0_ : Int32) (x1_ : Int32) (x2_ : Int32) (r : Int32) (hl : loop (b_X3_countAbove_15 cM) (x0_, x1_, x2_) = some r) (hk : Go mX3_countAbove (d + 2) false 0 0 65 [none, none, some (vI r), none, none, none] [] (wC cK cF ga gi gs oK cT ra rb cR cP cM ea eb cW aO aC aQ) Q) : Go mX3_countAbove (d + 2) false 0 0 15 [some (vR 5), none, some (vI x0_), some (vI x1_), some (vI x2_), none] [] (wC cK cF ga gi gs oK cT ra rb cR cP cM ea eb cW aO aC aQ) Q := by
  refine loop_go (P := fun x : Int32 × Int32 × Int32 => ∀ (x0_ : Int32) (x1_ : Int32) (x2_ : Int32), x = (x0_, x1_, x2_) → Go mX3_countAbove (d + 2) false 0 0 15 [some (vR 5), none, some (vI x0_), some (vI x1_), some (vI x2_), none] [] (wC cK cF ga gi gs oK cT ra rb cR cP cM ea eb cW aO aC aQ) Q) (K := fun r : Int32 => Go mX3_countAbove (d + 2) false 0 0 65 [none, none, some (vI r), none, none, none] [] (wC cK cF ga gi gs oK cT ra rb cR cP cM ea eb cW aO aC aQ) Q) ?_ (x0_, x1_, x2_) r hl hk x0_ x1_ x2_ rfl
  · intro x y hs hI hE x0_ x1_ x2_ hx
    subst hx
    unfold b_X3_countAbove_15 at hs
    try dsimp only at hs
    refine go_iload (pc := 15) dX3_countAbove_15 rfl ?_
    refine go_if_lt (pc := 17) 65 dX3_countAbove_17 (by decide) (fun h3 => ?_) (fun h3 => ?_)
    · have hs := it_t h3 hs
      obtain rfl := Option.some.inj hs
      refine go_sub (lv' := [none, none, some (vI x0_), none, none, none]) ⟨rfl, trivial⟩ ?_
      exact hE x0_ rfl
    · have hs := it_f h3 hs
      refine go_aload_n (pc := 20) 0 dX3_countAbove_20 rfl rfl ?_
      refine go_getfield (pc := 21) (v := vR 40) 5 3 5 dX3_countAbove_21 flX3_28 rfl rfl ?_
      refine go_iload (pc := 24) dX3_countAbove_24 rfl ?_
      obtain ⟨hi4, hs⟩ := chk_t hs
      refine go_laload (pc := 26) 40 dX3_countAbove_26 rfl hi4 ?_
      obtain ⟨x5, hc6, hs⟩ := bnd hs
      refine go_callS (bc := 0) (bs := 0) (mc := 0) (ms := 0) (d := d + 1) (pc := 27) [vL (cM x2_.toNatClampNeg)] [] dX3_countAbove_27 kJ13_signum_95d88 mlX3_49 isJ13_signum_95d88 rfl (Nat.le_of_ble_eq_true rfl) rfl (c_J13_signum_95d88 (d := d + 1) (res0 := x5) hc6) (fun r w' hq => ?_)
      obtain ⟨rfl, rfl⟩ := hq
      show Go mX3_countAbove (d + 2) false 0 0 30 [some (vR 5), none, some (vI x0_), some (vI x1_), some (vI x2_), none] [vI x5] (wC cK cF ga gi gs oK cT ra rb cR cP cM ea eb cW aO aC aQ) Q
      refine go_istore (pc := 30) [some (vR 5), none, some (vI x0_), some (vI x1_), some (vI x2_), some (vI x5)] dX3_countAbove_30 (by decide) rfl ?_
      refine go_iload (pc := 32) dX3_countAbove_32 rfl ?_
      refine go_if_eq (pc := 34) 47 dX3_countAbove_34 (by decide) (fun h7 => ?_) (fun h7 => ?_)
      · have hs := it_t h7 hs
        refine go_iload (pc := 47) dX3_countAbove_47 rfl ?_
        refine go_if_eq (pc := 49) 57 dX3_countAbove_49 (by decide) (fun h8 => ?_) (fun h8 => ?_)
        · have hs := it_t h8 hs
          refine go_iload_n (pc := 57) 3 dX3_countAbove_57 rfl rfl ?_
          refine go_istore_n (pc := 58) 3 [some (vR 5), none, some (vI x0_), some (vI x1_), some (vI x2_), some (vI x5)] dX3_countAbove_58 rfl (by decide) rfl ?_
          refine go_iinc (pc := 59) (x2_ + (-1 : Int32)) [some (vR 5), none, some (vI x0_), some (vI x1_), some (vI (x2_ + (-1 : Int32))), some (vI x5)] dX3_countAbove_59 rfl (iinc_m1 _) (by decide) rfl ?_
          refine go_goto (pc := 62) 15 dX3_countAbove_62 (by decide) ?_
          obtain rfl := Option.some.inj hs
          refine go_sub (lv' := [some (vR 5), none, some (vI x0_), some (vI x1_), some (vI (x2_ + (-1 : Int32))), none]) ⟨rfl, ⟨rfl, ⟨rfl, ⟨rfl, trivial⟩⟩⟩⟩ ?_
          exact hI (x0_, x1_, x2_ + (-1 : Int32)) rfl x0_ x1_ (x2_ + (-1 : Int32)) rfl
        · have hs := it_f h8 hs
          refine go_iload (pc := 52) dX3_countAbove_52 rfl ?_
          refine go_goto (pc := 54) 58 dX3_countAbove_54 (by decide) ?_
          refine go_istore_n (pc := 58) 3 [some (vR 5), none, some (vI x0_), some (vI x5), some (vI x2_), some (vI x5)] dX3_countAbove_58 rfl (by decide) rfl ?_
          refine go_iinc (pc := 59) (x2_ + (-1 : Int32)) [some (vR 5), none, some (vI x0_), some (vI x5), some (vI (x2_ + (-1 : Int32))), some (vI x5)] dX3_countAbove_59 rfl (iinc_m1 _) (by decide) rfl ?_
          refine go_goto (pc := 62) 15 dX3_countAbove_62 (by decide) ?_
          obtain rfl := Option.some.inj hs
          refine go_sub (lv' := [some (vR 5), none, some (vI x0_), some (vI x5), some (vI (x2_ + (-1 : Int32))), none]) ⟨rfl, ⟨rfl, ⟨rfl, ⟨rfl, trivial⟩⟩⟩⟩ ?_
          exact hI (x0_, x5, x2_ + (-1 : Int32)) rfl x0_ x5 (x2_ + (-1 : Int32)) rfl
      · have hs := it_f h7 hs
        refine go_iload (pc := 37) dX3_countAbove_37 rfl ?_
        refine go_iload_n (pc := 39) 3 dX3_countAbove_39 rfl rfl ?_
        refine go_ineg (pc := 40) dX3_countAbove_40 ?_
        refine go_icmp_ne (pc := 41) 47 dX3_countAbove_41 (by decide) (fun h9 => ?_) (fun h9 => ?_)
        · have hs := it_f h9 hs
          refine go_iload (pc := 47) dX3_countAbove_47 rfl ?_
          refine go_if_eq (pc := 49) 57 dX3_countAbove_49 (by decide) (fun h10 => ?_) (fun h10 => ?_)
          · have hs := it_t h10 hs
            refine go_iload_n (pc := 57) 3 dX3_countAbove_57 rfl rfl ?_
            refine go_istore_n (pc := 58) 3 [some (vR 5), none, some (vI x0_), some (vI x1_), some (vI x2_), some (vI x5)] dX3_countAbove_58 rfl (by decide) rfl ?_
            refine go_iinc (pc := 59) (x2_ + (-1 : Int32)) [some (vR 5), none, some (vI x0_), some (vI x1_), some (vI (x2_ + (-1 : Int32))), some (vI x5)] dX3_countAbove_59 rfl (iinc_m1 _) (by decide) rfl ?_
            refine go_goto (pc := 62) 15 dX3_countAbove_62 (by decide) ?_
            obtain rfl := Option.some.inj hs
            refine go_sub (lv' := [some (vR 5), none, some (vI x0_), some (vI x1_), some (vI (x2_ + (-1 : Int32))), none]) ⟨rfl, ⟨rfl, ⟨rfl, ⟨rfl, trivial⟩⟩⟩⟩ ?_
            exact hI (x0_, x1_, x2_ + (-1 : Int32)) rfl x0_ x1_ (x2_ + (-1 : Int32)) rfl
          · have hs := it_f h10 hs
            refine go_iload (pc := 52) dX3_countAbove_52 rfl ?_
            refine go_goto (pc := 54) 58 dX3_countAbove_54 (by decide) ?_
            refine go_istore_n (pc := 58) 3 [some (vR 5), none, some (vI x0_), some (vI x5), some (vI x2_), some (vI x5)] dX3_countAbove_58 rfl (by decide) rfl ?_
            refine go_iinc (pc := 59) (x2_ + (-1 : Int32)) [some (vR 5), none, some (vI x0_), some (vI x5), some (vI (x2_ + (-1 : Int32))), some (vI x5)] dX3_countAbove_59 rfl (iinc_m1 _) (by decide) rfl ?_
            refine go_goto (pc := 62) 15 dX3_countAbove_62 (by decide) ?_
            obtain rfl := Option.some.inj hs
            refine go_sub (lv' := [some (vR 5), none, some (vI x0_), some (vI x5), some (vI (x2_ + (-1 : Int32))), none]) ⟨rfl, ⟨rfl, ⟨rfl, ⟨rfl, trivial⟩⟩⟩⟩ ?_
            exact hI (x0_, x5, x2_ + (-1 : Int32)) rfl x0_ x5 (x2_ + (-1 : Int32)) rfl
        · have hs := it_t h9 hs
          refine go_iinc (pc := 44) (x0_ + (1 : Int32)) [some (vR 5), none, some (vI (x0_ + (1 : Int32))), some (vI x1_), some (vI x2_), some (vI x5)] dX3_countAbove_44 rfl (iinc_1 _) (by decide) rfl ?_
          refine go_iload (pc := 47) dX3_countAbove_47 rfl ?_
          refine go_if_eq (pc := 49) 57 dX3_countAbove_49 (by decide) (fun h11 => ?_) (fun h11 => ?_)
          · have hs := it_t h11 hs
            refine go_iload_n (pc := 57) 3 dX3_countAbove_57 rfl rfl ?_
            refine go_istore_n (pc := 58) 3 [some (vR 5), none, some (vI (x0_ + (1 : Int32))), some (vI x1_), some (vI x2_), some (vI x5)] dX3_countAbove_58 rfl (by decide) rfl ?_
            refine go_iinc (pc := 59) (x2_ + (-1 : Int32)) [some (vR 5), none, some (vI (x0_ + (1 : Int32))), some (vI x1_), some (vI (x2_ + (-1 : Int32))), some (vI x5)] dX3_countAbove_59 rfl (iinc_m1 _) (by decide) rfl ?_
            refine go_goto (pc := 62) 15 dX3_countAbove_62 (by decide) ?_
            obtain rfl := Option.some.inj hs
            refine go_sub (lv' := [some (vR 5), none, some (vI (x0_ + (1 : Int32))), some (vI x1_), some (vI (x2_ + (-1 : Int32))), none]) ⟨rfl, ⟨rfl, ⟨rfl, ⟨rfl, trivial⟩⟩⟩⟩ ?_
            exact hI (x0_ + (1 : Int32), x1_, x2_ + (-1 : Int32)) rfl (x0_ + (1 : Int32)) x1_ (x2_ + (-1 : Int32)) rfl
          · have hs := it_f h11 hs
            refine go_iload (pc := 52) dX3_countAbove_52 rfl ?_
            refine go_goto (pc := 54) 58 dX3_countAbove_54 (by decide) ?_
            refine go_istore_n (pc := 58) 3 [some (vR 5), none, some (vI (x0_ + (1 : Int32))), some (vI x5), some (vI x2_), some (vI x5)] dX3_countAbove_58 rfl (by decide) rfl ?_
            refine go_iinc (pc := 59) (x2_ + (-1 : Int32)) [some (vR 5), none, some (vI (x0_ + (1 : Int32))), some (vI x5), some (vI (x2_ + (-1 : Int32))), some (vI x5)] dX3_countAbove_59 rfl (iinc_m1 _) (by decide) rfl ?_
            refine go_goto (pc := 62) 15 dX3_countAbove_62 (by decide) ?_
            obtain rfl := Option.some.inj hs
            refine go_sub (lv' := [some (vR 5), none, some (vI (x0_ + (1 : Int32))), some (vI x5), some (vI (x2_ + (-1 : Int32))), none]) ⟨rfl, ⟨rfl, ⟨rfl, ⟨rfl, trivial⟩⟩⟩⟩ ?_
            exact hI (x0_ + (1 : Int32), x5, x2_ + (-1 : Int32)) rfl (x0_ + (1 : Int32)) x5 (x2_ + (-1 : Int32)) rfl
set_option maxRecDepth 20000 in
theorem c_X3_countAbove {d : Nat}  {a1 : Int32} {res0 : Int32} {res1 : (Nat → Int64)} (hs : s_X3_countAbove oK cP cM a1 = some (res0, res1)) : Calls mX3_countAbove (d + 2) false 0 0 [vR 5, vI a1] (wC cK cF ga gi gs oK cT ra rb cR cP cM ea eb cW aO aC aQ) (fun r w' => r = some (vI res0) ∧ w' = (wC cK cF ga gi gs oK cT ra rb cR cP res1 ea eb cW aO aC aQ)) := by
  unfold s_X3_countAbove at hs
  refine Calls.of kX3_countAbove 4 [some (vR 5), some (vI a1), none, none, none, none] rfl (Nat.le_of_ble_eq_true rfl) ?_
  refine go_aload_n (pc := 0) 0 dX3_countAbove_0 rfl rfl ?_
  refine go_iload_n (pc := 1) 1 dX3_countAbove_1 rfl rfl ?_
  obtain ⟨x1, hc2, hs⟩ := bnd hs
  refine go_callV (bc := 0) (bs := 0) (mc := 0) (ms := 0) (d := d + 1) (pc := 2) (a := 5) (ci := 3) [vI a1] [] dX3_countAbove_2 kX3_moveBy mlX3_45 ivX3_moveBy rfl rfl rfl rfl (Nat.le_of_ble_eq_true rfl) rfl (c_X3_moveBy (d := d + 0) (res0 := x1) hc2) (fun r w' hq => ?_)
  obtain ⟨rfl, rfl⟩ := hq
  show Go mX3_countAbove (d + 2) false 0 0 5 [some (vR 5), some (vI a1), none, none, none, none] [] (wC cK cF ga gi gs oK cT ra rb cR cP x1 ea eb cW aO aC aQ) _
  refine go_iconst (pc := 5) (0 : Int32) dX3_countAbove_5 (by decide) ?_
  refine go_istore_n (pc := 6) 2 [some (vR 5), some (vI a1), some (vI (0 : Int32)), none, none, none] dX3_countAbove_6 rfl (by decide) rfl ?_
  refine go_iconst (pc := 7) (0 : Int32) dX3_countAbove_7 (by decide) ?_
  refine go_istore_n (pc := 8) 3 [some (vR 5), some (vI a1), some (vI (0 : Int32)), some (vI (0 : Int32)), none, none] dX3_countAbove_8 rfl (by decide) rfl ?_
  refine go_aload_n (pc := 9) 0 dX3_countAbove_9 rfl rfl ?_
  refine go_getfield (pc := 10) (v := vI oK) 5 3 0 dX3_countAbove_10 flX3_37 rfl rfl ?_
  refine go_istore (pc := 13) [some (vR 5), some (vI a1), some (vI (0 : Int32)), some (vI (0 : Int32)), some (vI oK), none] dX3_countAbove_13 (by decide) rfl ?_
  refine go_sub (lv' := [some (vR 5), none, some (vI (0 : Int32)), some (vI (0 : Int32)), some (vI oK), none]) ⟨rfl, ⟨rfl, ⟨rfl, ⟨rfl, trivial⟩⟩⟩⟩ ?_
  obtain ⟨e12, hl13, hs⟩ := bnd hs
  refine g_X3_countAbove_15 (d := d) (0 : Int32) (0 : Int32) oK e12 hl13 ?_
  refine go_iload_n (pc := 65) 2 dX3_countAbove_65 rfl rfl ?_
  cases hs
  exact go_ireturn (st := []) (pc := 66) dX3_countAbove_66 rfl (vp_nar_int _) (fun h => by cases h) ⟨rfl, rfl⟩
noncomputable def b_X3_countAt_7 (oK : Int32) (cM : (Nat → Int64)) (x : Int32) : Option ((Int32) ⊕ (Int32)) := if oK ≤ x then (some (Sum.inr x)) else (chk x 11 (if (lg_cmp (cM x.toNatClampNeg) (0 : Int64)) = 0 then (some (Sum.inl (x + (1 : Int32)))) else (some (Sum.inr x))))
noncomputable def s_X3_countAt (oK : Int32) (cP : (Nat → Int64)) (cM : (Nat → Int64)) (a1 : Int32) : Option (Int32 × (Nat → Int64)) := (s_X3_moveBy oK cP cM a1).bind (fun x1 => (loop (b_X3_countAt_7 oK x1) (0 : Int32)).bind (fun e6 => some (e6, x1)))
set_option maxRecDepth 20000 in
theorem g_X3_countAt_7 {d : Nat}  {Q : Option AV → List AC → Prop}   (x0_ : Int32) (r : Int32) (hl : loop (b_X3_countAt_7 oK cM) x0_ = some r) (hk : Go mX3_countAt (d + 2) false 0 0 32 [none, none, some (vI r)] [] (wC cK cF ga gi gs oK cT ra rb cR cP cM ea eb cW aO aC aQ) Q) : Go mX3_countAt (d + 2) false 0 0 7 [some (vR 5), none, some (vI x0_)] [] (wC cK cF ga gi gs oK cT ra rb cR cP cM ea eb cW aO aC aQ) Q := by
  refine loop_go (P := fun x0_ : Int32 => Go mX3_countAt (d + 2) false 0 0 7 [some (vR 5), none, some (vI x0_)] [] (wC cK cF ga gi gs oK cT ra rb cR cP cM ea eb cW aO aC aQ) Q) (K := fun r : Int32 => Go mX3_countAt (d + 2) false 0 0 32 [none, none, some (vI r)] [] (wC cK cF ga gi gs oK cT ra rb cR cP cM ea eb cW aO aC aQ) Q) ?_ x0_ r hl hk 
  · intro x0_ y hs hI hE
    unfold b_X3_countAt_7 at hs
    refine go_iload_n (pc := 7) 2 dX3_countAt_7 rfl rfl ?_
    refine go_aload_n (pc := 8) 0 dX3_countAt_8 rfl rfl ?_
    refine go_getfield (pc := 9) (v := vI oK) 5 3 0 dX3_countAt_9 flX3_37 rfl rfl ?_
    refine go_icmp_ge (pc := 12) 32 dX3_countAt_12 (by decide) (fun h3 => ?_) (fun h3 => ?_)
    · have hs := it_t h3 hs
      obtain rfl := Option.some.inj hs
      refine go_sub (lv' := [none, none, some (vI x0_)]) ⟨rfl, trivial⟩ ?_
      exact hE x0_ rfl
    · have hs := it_f h3 hs
      refine go_aload_n (pc := 15) 0 dX3_countAt_15 rfl rfl ?_
      refine go_getfield (pc := 16) (v := vR 40) 5 3 5 dX3_countAt_16 flX3_28 rfl rfl ?_
      refine go_iload_n (pc := 19) 2 dX3_countAt_19 rfl rfl ?_
      obtain ⟨hi4, hs⟩ := chk_t hs
      refine go_laload (pc := 20) 40 dX3_countAt_20 rfl hi4 ?_
      refine go_lconst (pc := 21) (0 : Int64) dX3_countAt_21 (by decide) ?_
      refine go_lcmp (pc := 22) dX3_countAt_22 ?_
      refine go_if_ne (pc := 23) 32 dX3_countAt_23 (by decide) (fun h5 => ?_) (fun h5 => ?_)
      · have hs := it_f h5 hs
        obtain rfl := Option.some.inj hs
        refine go_sub (lv' := [none, none, some (vI x0_)]) ⟨rfl, trivial⟩ ?_
        exact hE x0_ rfl
      · have hs := it_t h5 hs
        refine go_iinc (pc := 26) (x0_ + (1 : Int32)) [some (vR 5), none, some (vI (x0_ + (1 : Int32)))] dX3_countAt_26 rfl (iinc_1 _) (by decide) rfl ?_
        refine go_goto (pc := 29) 7 dX3_countAt_29 (by decide) ?_
        obtain rfl := Option.some.inj hs
        exact hI (x0_ + (1 : Int32)) rfl
set_option maxRecDepth 20000 in
theorem c_X3_countAt {d : Nat}  {a1 : Int32} {res0 : Int32} {res1 : (Nat → Int64)} (hs : s_X3_countAt oK cP cM a1 = some (res0, res1)) : Calls mX3_countAt (d + 2) false 0 0 [vR 5, vI a1] (wC cK cF ga gi gs oK cT ra rb cR cP cM ea eb cW aO aC aQ) (fun r w' => r = some (vI res0) ∧ w' = (wC cK cF ga gi gs oK cT ra rb cR cP res1 ea eb cW aO aC aQ)) := by
  unfold s_X3_countAt at hs
  refine Calls.of kX3_countAt 1 [some (vR 5), some (vI a1), none] rfl (Nat.le_of_ble_eq_true rfl) ?_
  refine go_aload_n (pc := 0) 0 dX3_countAt_0 rfl rfl ?_
  refine go_iload_n (pc := 1) 1 dX3_countAt_1 rfl rfl ?_
  obtain ⟨x1, hc2, hs⟩ := bnd hs
  refine go_callV (bc := 0) (bs := 0) (mc := 0) (ms := 0) (d := d + 1) (pc := 2) (a := 5) (ci := 3) [vI a1] [] dX3_countAt_2 kX3_moveBy mlX3_45 ivX3_moveBy rfl rfl rfl rfl (Nat.le_of_ble_eq_true rfl) rfl (c_X3_moveBy (d := d + 0) (res0 := x1) hc2) (fun r w' hq => ?_)
  obtain ⟨rfl, rfl⟩ := hq
  show Go mX3_countAt (d + 2) false 0 0 5 [some (vR 5), some (vI a1), none] [] (wC cK cF ga gi gs oK cT ra rb cR cP x1 ea eb cW aO aC aQ) _
  refine go_iconst (pc := 5) (0 : Int32) dX3_countAt_5 (by decide) ?_
  refine go_istore_n (pc := 6) 2 [some (vR 5), some (vI a1), some (vI (0 : Int32))] dX3_countAt_6 rfl (by decide) rfl ?_
  refine go_sub (lv' := [some (vR 5), none, some (vI (0 : Int32))]) ⟨rfl, ⟨rfl, trivial⟩⟩ ?_
  obtain ⟨e6, hl7, hs⟩ := bnd hs
  refine g_X3_countAt_7 (d := d) (0 : Int32) e6 hl7 ?_
  refine go_iload_n (pc := 32) 2 dX3_countAt_32 rfl rfl ?_
  cases hs
  exact go_ireturn (st := []) (pc := 33) dX3_countAt_33 rfl (vp_nar_int _) (fun h => by cases h) ⟨rfl, rfl⟩
noncomputable def s_X3_countBelow (oK : Int32) (cP : (Nat → Int64)) (cM : (Nat → Int64)) (a1 : Int32) : Option (Int32 × (Nat → Int64)) := (s_X3_countAbove oK cP cM a1).bind (fun x1 => (s_X3_countAt oK cP x1.2 a1).bind (fun x3 => some ((oK - x1.1) - x3.1, x3.2)))
set_option maxRecDepth 20000 in
theorem c_X3_countBelow {d : Nat}  {a1 : Int32} {res0 : Int32} {res1 : (Nat → Int64)} (hs : s_X3_countBelow oK cP cM a1 = some (res0, res1)) : Calls mX3_countBelow (d + 3) false 0 0 [vR 5, vI a1] (wC cK cF ga gi gs oK cT ra rb cR cP cM ea eb cW aO aC aQ) (fun r w' => r = some (vI res0) ∧ w' = (wC cK cF ga gi gs oK cT ra rb cR cP res1 ea eb cW aO aC aQ)) := by
  unfold s_X3_countBelow at hs
  refine Calls.of kX3_countBelow 0 [some (vR 5), some (vI a1)] rfl (Nat.le_of_ble_eq_true rfl) ?_
  refine go_aload_n (pc := 0) 0 dX3_countBelow_0 rfl rfl ?_
  refine go_getfield (pc := 1) (v := vI oK) 5 3 0 dX3_countBelow_1 flX3_37 rfl rfl ?_
  refine go_aload_n (pc := 4) 0 dX3_countBelow_4 rfl rfl ?_
  refine go_iload_n (pc := 5) 1 dX3_countBelow_5 rfl rfl ?_
  obtain ⟨x1, hc2, hs⟩ := bnd hs
  refine go_callV (bc := 0) (bs := 0) (mc := 0) (ms := 0) (d := d + 2) (pc := 6) (a := 5) (ci := 3) [vI a1] [vI oK] dX3_countBelow_6 kX3_countAbove mlX3_55 ivX3_countAbove rfl rfl rfl rfl (Nat.le_of_ble_eq_true rfl) rfl (c_X3_countAbove (d := d + 0) (res0 := x1.1) (res1 := x1.2) hc2) (fun r w' hq => ?_)
  obtain ⟨rfl, rfl⟩ := hq
  show Go mX3_countBelow (d + 3) false 0 0 9 [some (vR 5), some (vI a1)] [vI x1.1, vI oK] (wC cK cF ga gi gs oK cT ra rb cR cP x1.2 ea eb cW aO aC aQ) _
  refine go_isub (pc := 9) dX3_countBelow_9 ?_
  refine go_aload_n (pc := 10) 0 dX3_countBelow_10 rfl rfl ?_
  refine go_iload_n (pc := 11) 1 dX3_countBelow_11 rfl rfl ?_
  obtain ⟨x3, hc4, hs⟩ := bnd hs
  refine go_callV (bc := 0) (bs := 0) (mc := 0) (ms := 0) (d := d + 2) (pc := 12) (a := 5) (ci := 3) [vI a1] [vI (oK - x1.1)] dX3_countBelow_12 kX3_countAt mlX3_59 ivX3_countAt rfl rfl rfl rfl (Nat.le_of_ble_eq_true rfl) rfl (c_X3_countAt (d := d + 0) (res0 := x3.1) (res1 := x3.2) hc4) (fun r w' hq => ?_)
  obtain ⟨rfl, rfl⟩ := hq
  show Go mX3_countBelow (d + 3) false 0 0 15 [some (vR 5), some (vI a1)] [vI x3.1, vI (oK - x1.1)] (wC cK cF ga gi gs oK cT ra rb cR cP x3.2 ea eb cW aO aC aQ) _
  refine go_isub (pc := 15) dX3_countBelow_15 ?_
  cases hs
  exact go_ireturn (st := []) (pc := 16) dX3_countBelow_16 rfl (vp_nar_int _) (fun h => by cases h) ⟨rfl, rfl⟩
noncomputable def b_X3_width_2 (oK : Int32) (cP : (Nat → Int64)) (x : Int32 × (Nat → Int64)) : Option ((Int32 × (Nat → Int64)) ⊕ ((Int32 × (Nat → Int64)) ⊕ ((Nat → Int64)))) := if (18 : Int32) ≤ x.1 then (some (Sum.inr (Sum.inr x.2))) else ((s_X3_countAbove oK cP x.2 x.1).bind (fun x2 => if x2.1 = 0 then ((s_X3_countBelow oK cP x2.2 (-x.1)).bind (fun x5 => if x5.1 = 0 then (some (Sum.inr (Sum.inl (x.1, x5.2)))) else (some (Sum.inl (x.1 + (1 : Int32), x5.2))))) else (some (Sum.inl (x.1 + (1 : Int32), x2.2)))))
noncomputable def s_X3_width (oK : Int32) (cP : (Nat → Int64)) (cM : (Nat → Int64)) : Option (Int32 × (Nat → Int64)) := (loop (b_X3_width_2 oK cP) ((0 : Int32), cM)).bind (fun e8 => Sum.elim (fun e10 => some (e10.1, e10.2)) (fun v14 => some ((18 : Int32), v14)) e8)
set_option maxRecDepth 20000 in
theorem g_X3_width_2 {d : Nat}  {Q : Option AV → List AC → Prop}   (x0_ : Int32) (x1_ : (Nat → Int64)) (r : (Int32 × (Nat → Int64)) ⊕ ((Nat → Int64))) (hl : loop (b_X3_width_2 oK cP) (x0_, x1_) = some r) (hk : (∀ (r0_ : Int32) (r1_ : (Nat → Int64)), r = Sum.inl (r0_, r1_) → Go mX3_width (d + 4) false 0 0 25 [none, some (vI r0_)] [] (wC cK cF ga gi gs oK cT ra rb cR cP r1_ ea eb cW aO aC aQ) Q) ∧ (∀ (r0_ : (Nat → Int64)), r = Sum.inr r0_ → Go mX3_width (d + 4) false 0 0 33 [none, none] [] (wC cK cF ga gi gs oK cT ra rb cR cP r0_ ea eb cW aO aC aQ) Q)) : Go mX3_width (d + 4) false 0 0 2 [some (vR 5), some (vI x0_)] [] (wC cK cF ga gi gs oK cT ra rb cR cP x1_ ea eb cW aO aC aQ) Q := by
  refine loop_go (P := fun x : Int32 × (Nat → Int64) => ∀ (x0_ : Int32) (x1_ : (Nat → Int64)), x = (x0_, x1_) → Go mX3_width (d + 4) false 0 0 2 [some (vR 5), some (vI x0_)] [] (wC cK cF ga gi gs oK cT ra rb cR cP x1_ ea eb cW aO aC aQ) Q) (K := fun r : (Int32 × (Nat → Int64)) ⊕ ((Nat → Int64)) => (∀ (r0_ : Int32) (r1_ : (Nat → Int64)), r = Sum.inl (r0_, r1_) → Go mX3_width (d + 4) false 0 0 25 [none, some (vI r0_)] [] (wC cK cF ga gi gs oK cT ra rb cR cP r1_ ea eb cW aO aC aQ) Q) ∧ (∀ (r0_ : (Nat → Int64)), r = Sum.inr r0_ → Go mX3_width (d + 4) false 0 0 33 [none, none] [] (wC cK cF ga gi gs oK cT ra rb cR cP r0_ ea eb cW aO aC aQ) Q)) ?_ (x0_, x1_) r hl hk x0_ x1_ rfl
  · intro x y hs hI hE x0_ x1_ hx
    subst hx
    unfold b_X3_width_2 at hs
    try dsimp only at hs
    refine go_iload_n (pc := 2) 1 dX3_width_2 rfl rfl ?_
    refine go_bipush (pc := 3) (18 : Int32) dX3_width_3 (by decide) ?_
    refine go_icmp_ge (pc := 5) 33 dX3_width_5 (by decide) (fun h1 => ?_) (fun h1 => ?_)
    · have hs := it_t h1 hs
      obtain rfl := Option.some.inj hs
      refine go_sub (lv' := [none, none]) trivial ?_
      exact (hE (Sum.inr x1_) rfl).2 x1_ rfl
    · have hs := it_f h1 hs
      refine go_aload_n (pc := 8) 0 dX3_width_8 rfl rfl ?_
      refine go_iload_n (pc := 9) 1 dX3_width_9 rfl rfl ?_
      obtain ⟨x2, hc3, hs⟩ := bnd hs
      refine go_callV (bc := 0) (bs := 0) (mc := 0) (ms := 0) (d := d + 3) (pc := 10) (a := 5) (ci := 3) [vI x0_] [] dX3_width_10 kX3_countAbove mlX3_55 ivX3_countAbove rfl rfl rfl rfl (Nat.le_of_ble_eq_true rfl) rfl (c_X3_countAbove (d := d + 1) (res0 := x2.1) (res1 := x2.2) hc3) (fun r w' hq => ?_)
      obtain ⟨rfl, rfl⟩ := hq
      show Go mX3_width (d + 4) false 0 0 13 [some (vR 5), some (vI x0_)] [vI x2.1] (wC cK cF ga gi gs oK cT ra rb cR cP x2.2 ea eb cW aO aC aQ) Q
      refine go_if_ne (pc := 13) 27 dX3_width_13 (by decide) (fun h4 => ?_) (fun h4 => ?_)
      · have hs := it_f h4 hs
        refine go_iinc (pc := 27) (x0_ + (1 : Int32)) [some (vR 5), some (vI (x0_ + (1 : Int32)))] dX3_width_27 rfl (iinc_1 _) (by decide) rfl ?_
        refine go_goto (pc := 30) 2 dX3_width_30 (by decide) ?_
        obtain rfl := Option.some.inj hs
        exact hI (x0_ + (1 : Int32), x2.2) rfl (x0_ + (1 : Int32)) x2.2 rfl
      · have hs := it_t h4 hs
        refine go_aload_n (pc := 16) 0 dX3_width_16 rfl rfl ?_
        refine go_iload_n (pc := 17) 1 dX3_width_17 rfl rfl ?_
        refine go_ineg (pc := 18) dX3_width_18 ?_
        obtain ⟨x5, hc6, hs⟩ := bnd hs
        refine go_callV (bc := 0) (bs := 0) (mc := 0) (ms := 0) (d := d + 3) (pc := 19) (a := 5) (ci := 3) [vI (-x0_)] [] dX3_width_19 kX3_countBelow mlX3_62 ivX3_countBelow rfl rfl rfl rfl (Nat.le_of_ble_eq_true rfl) rfl (c_X3_countBelow (d := d + 0) (res0 := x5.1) (res1 := x5.2) hc6) (fun r w' hq => ?_)
        obtain ⟨rfl, rfl⟩ := hq
        show Go mX3_width (d + 4) false 0 0 22 [some (vR 5), some (vI x0_)] [vI x5.1] (wC cK cF ga gi gs oK cT ra rb cR cP x5.2 ea eb cW aO aC aQ) Q
        refine go_if_ne (pc := 22) 27 dX3_width_22 (by decide) (fun h7 => ?_) (fun h7 => ?_)
        · have hs := it_f h7 hs
          refine go_iinc (pc := 27) (x0_ + (1 : Int32)) [some (vR 5), some (vI (x0_ + (1 : Int32)))] dX3_width_27 rfl (iinc_1 _) (by decide) rfl ?_
          refine go_goto (pc := 30) 2 dX3_width_30 (by decide) ?_
          obtain rfl := Option.some.inj hs
          exact hI (x0_ + (1 : Int32), x5.2) rfl (x0_ + (1 : Int32)) x5.2 rfl
        · have hs := it_t h7 hs
          obtain rfl := Option.some.inj hs
          refine go_sub (lv' := [none, some (vI x0_)]) ⟨rfl, trivial⟩ ?_
          exact (hE (Sum.inl (x0_, x5.2)) rfl).1 x0_ x5.2 rfl
set_option maxRecDepth 20000 in
theorem c_X3_width {d : Nat}   {res0 : Int32} {res1 : (Nat → Int64)} (hs : s_X3_width oK cP cM = some (res0, res1)) : Calls mX3_width (d + 4) false 0 0 [vR 5] (wC cK cF ga gi gs oK cT ra rb cR cP cM ea eb cW aO aC aQ) (fun r w' => r = some (vI res0) ∧ w' = (wC cK cF ga gi gs oK cT ra rb cR cP res1 ea eb cW aO aC aQ)) := by
  unfold s_X3_width at hs
  refine Calls.of kX3_width 1 [some (vR 5), none] rfl (Nat.le_of_ble_eq_true rfl) ?_
  refine go_iconst (pc := 0) (0 : Int32) dX3_width_0 (by decide) ?_
  refine go_istore_n (pc := 1) 1 [some (vR 5), some (vI (0 : Int32))] dX3_width_1 rfl (by decide) rfl ?_
  obtain ⟨e8, hl9, hs⟩ := bnd hs
  refine g_X3_width_2 (d := d) (0 : Int32) cM e8 hl9 ?_
  constructor
  · intro v11 v12 hv15
    subst hv15
    simp only [Sum.elim_inl] at hs
    refine go_iload_n (pc := 25) 1 dX3_width_25 rfl rfl ?_
    cases hs
    exact go_ireturn (st := []) (pc := 26) dX3_width_26 rfl (vp_nar_int _) (fun h => by cases h) ⟨rfl, rfl⟩
  · intro v14 hv16
    subst hv16
    simp only [Sum.elim_inr] at hs
    refine go_bipush (pc := 33) (18 : Int32) dX3_width_33 (by decide) ?_
    cases hs
    exact go_ireturn (st := []) (pc := 35) dX3_width_35 rfl (vp_nar_int _) (fun h => by cases h) ⟨rfl, rfl⟩
noncomputable def b_X4_step_19 (cK : (Nat → Int32)) (cF : (Nat → Nat → Int32)) (ea : (Fin 2)) (eb : (Fin 2)) (p1 : (Fin 5)) (y2 : Int32) (x : Int32 × (Nat → Nat → Int64)) : Option ((Int32 × (Nat → Nat → Int64)) ⊕ ((Nat → Nat → Int64))) := if (cK p1.1) ≤ x.1 then (some (Sum.inr x.2)) else ((s_X2_joins cF p1 x.1 y2).bind (fun x4 => if x4 = 0 then (some (Sum.inl (x.1 + (1 : Int32), x.2))) else (chk y2 10 (chk x.1 10 (chk y2 10 (some (Sum.inl (x.1 + (1 : Int32), va_up x.2 ea.1 (vp_updL (x.2 ea.1) y2.toNatClampNeg ((x.2 ea.1 y2.toNatClampNeg) + (x.2 eb.1 x.1.toNatClampNeg)))))))))))
noncomputable def b_X4_step_2 (cK : (Nat → Int32)) (cF : (Nat → Nat → Int32)) (ea : (Fin 2)) (eb : (Fin 2)) (p1 : (Fin 5)) (x : Int32 × (Nat → Nat → Int64)) : Option ((Int32 × (Nat → Nat → Int64)) ⊕ ((Nat → Nat → Int64))) := if (cK p1.1) ≤ x.1 then (some (Sum.inr x.2)) else (chk x.1 10 ((loop (b_X4_step_19 cK cF ea eb p1 x.1) ((0 : Int32), va_up x.2 ea.1 (vp_updL (x.2 ea.1) x.1.toNatClampNeg (0 : Int64)))).bind (fun e10 => some (Sum.inl (x.1 + (1 : Int32), e10)))))
noncomputable def s_X4_step (cK : (Nat → Int32)) (cF : (Nat → Nat → Int32)) (ea : (Fin 2)) (eb : (Fin 2)) (cW : (Nat → Nat → Int64)) (p1 : (Fin 5)) : Option ((Nat → Nat → Int64)) := (loop (b_X4_step_2 cK cF ea eb p1) ((0 : Int32), cW)).bind (fun e13 => some e13)
set_option maxRecDepth 20000 in
theorem g_X4_step_19 {d : Nat} {p1 : (Fin 5)} {Q : Option AV → List AC → Prop} {y2 : Int32}  (x0_ : Int32) (x1_ : (Nat → Nat → Int64)) (r : (Nat → Nat → Int64)) (hl : loop (b_X4_step_19 cK cF ea eb p1 y2) (x0_, x1_) = some r) (hk : Go mX4_step (d + 1) false 0 0 57 [some (vR 41), some (vR (pN p1.1)), some (vI y2), none] [] (wC cK cF ga gi gs oK cT ra rb cR cP cM ea eb r aO aC aQ) Q) : Go mX4_step (d + 1) false 0 0 19 [some (vR 41), some (vR (pN p1.1)), some (vI y2), some (vI x0_)] [] (wC cK cF ga gi gs oK cT ra rb cR cP cM ea eb x1_ aO aC aQ) Q := by
  refine loop_go (P := fun x : Int32 × (Nat → Nat → Int64) => ∀ (x0_ : Int32) (x1_ : (Nat → Nat → Int64)), x = (x0_, x1_) → Go mX4_step (d + 1) false 0 0 19 [some (vR 41), some (vR (pN p1.1)), some (vI y2), some (vI x0_)] [] (wC cK cF ga gi gs oK cT ra rb cR cP cM ea eb x1_ aO aC aQ) Q) (K := fun r : (Nat → Nat → Int64) => Go mX4_step (d + 1) false 0 0 57 [some (vR 41), some (vR (pN p1.1)), some (vI y2), none] [] (wC cK cF ga gi gs oK cT ra rb cR cP cM ea eb r aO aC aQ) Q) ?_ (x0_, x1_) r hl hk x0_ x1_ rfl
  · intro x y hs hI hE x0_ x1_ hx
    subst hx
    unfold b_X4_step_19 at hs
    try dsimp only at hs
    refine go_iload_n (pc := 19) 3 dX4_step_19 rfl rfl ?_
    refine go_aload_n (pc := 20) 1 dX4_step_20 rfl rfl ?_
    refine go_getfield (pc := 21) (v := vI (cK p1.1)) (pN p1.1) 2 0 dX4_step_21 flX4_34 (wC_net p1) rfl ?_
    refine go_icmp_ge (pc := 24) 57 dX4_step_24 (by decide) (fun h3 => ?_) (fun h3 => ?_)
    · have hs := it_t h3 hs
      obtain rfl := Option.some.inj hs
      refine go_sub (lv' := [some (vR 41), some (vR (pN p1.1)), some (vI y2), none]) ⟨rfl, ⟨rfl, ⟨rfl, trivial⟩⟩⟩ ?_
      exact hE x1_ rfl
    · have hs := it_f h3 hs
      refine go_aload_n (pc := 27) 1 dX4_step_27 rfl rfl ?_
      refine go_iload_n (pc := 28) 3 dX4_step_28 rfl rfl ?_
      refine go_iload_n (pc := 29) 2 dX4_step_29 rfl rfl ?_
      obtain ⟨x4, hc5, hs⟩ := bnd hs
      refine go_callV (bc := 0) (bs := 0) (mc := 0) (ms := 0) (d := d + 0) (pc := 30) (a := (pN p1.1)) (ci := 2) [vI x0_, vI y2] [] dX4_step_30 kX2_joins mlX4_40 ivX2_joins rfl rfl (wC_net p1) rfl (Nat.le_of_ble_eq_true rfl) rfl (c_X2_joins (d := d + 0) (res0 := x4) hc5) (fun r w' hq => ?_)
      obtain ⟨rfl, rfl⟩ := hq
      show Go mX4_step (d + 1) false 0 0 33 [some (vR 41), some (vR (pN p1.1)), some (vI y2), some (vI x0_)] [vI x4] (wC cK cF ga gi gs oK cT ra rb cR cP cM ea eb x1_ aO aC aQ) Q
      refine go_if_eq (pc := 33) 51 dX4_step_33 (by decide) (fun h6 => ?_) (fun h6 => ?_)
      · have hs := it_t h6 hs
        refine go_iinc (pc := 51) (x0_ + (1 : Int32)) [some (vR 41), some (vR (pN p1.1)), some (vI y2), some (vI (x0_ + (1 : Int32)))] dX4_step_51 rfl (iinc_1 _) (by decide) rfl ?_
        refine go_goto (pc := 54) 19 dX4_step_54 (by decide) ?_
        obtain rfl := Option.some.inj hs
        exact hI (x0_ + (1 : Int32), x1_) rfl (x0_ + (1 : Int32)) x1_ rfl
      · have hs := it_f h6 hs
        refine go_aload_n (pc := 36) 0 dX4_step_36 rfl rfl ?_
        refine go_getfield (pc := 37) (v := vR (42 + ea.1)) 41 4 0 dX4_step_37 flX4_9 rfl rfl ?_
        refine go_iload_n (pc := 40) 2 dX4_step_40 rfl rfl ?_
        refine go_dup2 (pc := 41) dX4_step_41 rfl rfl ?_
        obtain ⟨hi7, hs⟩ := chk_t hs
        refine go_laload (pc := 42) (42 + ea.1) dX4_step_42 (wC_wk ea) hi7 ?_
        refine go_aload_n (pc := 43) 0 dX4_step_43 rfl rfl ?_
        refine go_getfield (pc := 44) (v := vR (42 + eb.1)) 41 4 1 dX4_step_44 flX4_15 rfl rfl ?_
        refine go_iload_n (pc := 47) 3 dX4_step_47 rfl rfl ?_
        obtain ⟨hi8, hs⟩ := chk_t hs
        refine go_laload (pc := 48) (42 + eb.1) dX4_step_48 (wC_wk eb) hi8 ?_
        refine go_ladd (pc := 49) dX4_step_49 ?_
        obtain ⟨hi9, hs⟩ := chk_t hs
        refine go_lastore (pc := 50) (42 + ea.1) dX4_step_50 (wC_wk ea) hi9 (go_w (wC_swk ea) (show Go mX4_step (d + 1) false 0 0 51 [some (vR 41), some (vR (pN p1.1)), some (vI y2), some (vI x0_)] [] (wC cK cF ga gi gs oK cT ra rb cR cP cM ea eb (va_up x1_ ea.1 (vp_updL (x1_ ea.1) y2.toNatClampNeg ((x1_ ea.1 y2.toNatClampNeg) + (x1_ eb.1 x0_.toNatClampNeg)))) aO aC aQ) Q from ?_))
        refine go_iinc (pc := 51) (x0_ + (1 : Int32)) [some (vR 41), some (vR (pN p1.1)), some (vI y2), some (vI (x0_ + (1 : Int32)))] dX4_step_51 rfl (iinc_1 _) (by decide) rfl ?_
        refine go_goto (pc := 54) 19 dX4_step_54 (by decide) ?_
        obtain rfl := Option.some.inj hs
        exact hI (x0_ + (1 : Int32), va_up x1_ ea.1 (vp_updL (x1_ ea.1) y2.toNatClampNeg ((x1_ ea.1 y2.toNatClampNeg) + (x1_ eb.1 x0_.toNatClampNeg)))) rfl (x0_ + (1 : Int32)) (va_up x1_ ea.1 (vp_updL (x1_ ea.1) y2.toNatClampNeg ((x1_ ea.1 y2.toNatClampNeg) + (x1_ eb.1 x0_.toNatClampNeg)))) rfl
set_option maxRecDepth 20000 in
theorem g_X4_step_2 {d : Nat} {p1 : (Fin 5)} {Q : Option AV → List AC → Prop}   (x0_ : Int32) (x1_ : (Nat → Nat → Int64)) (r : (Nat → Nat → Int64)) (hl : loop (b_X4_step_2 cK cF ea eb p1) (x0_, x1_) = some r) (hk : Go mX4_step (d + 1) false 0 0 63 [none, none, none, none] [] (wC cK cF ga gi gs oK cT ra rb cR cP cM ea eb r aO aC aQ) Q) : Go mX4_step (d + 1) false 0 0 2 [some (vR 41), some (vR (pN p1.1)), some (vI x0_), none] [] (wC cK cF ga gi gs oK cT ra rb cR cP cM ea eb x1_ aO aC aQ) Q := by
  refine loop_go (P := fun x : Int32 × (Nat → Nat → Int64) => ∀ (x0_ : Int32) (x1_ : (Nat → Nat → Int64)), x = (x0_, x1_) → Go mX4_step (d + 1) false 0 0 2 [some (vR 41), some (vR (pN p1.1)), some (vI x0_), none] [] (wC cK cF ga gi gs oK cT ra rb cR cP cM ea eb x1_ aO aC aQ) Q) (K := fun r : (Nat → Nat → Int64) => Go mX4_step (d + 1) false 0 0 63 [none, none, none, none] [] (wC cK cF ga gi gs oK cT ra rb cR cP cM ea eb r aO aC aQ) Q) ?_ (x0_, x1_) r hl hk x0_ x1_ rfl
  · intro x y hs hI hE x0_ x1_ hx
    subst hx
    unfold b_X4_step_2 at hs
    try dsimp only at hs
    refine go_iload_n (pc := 2) 2 dX4_step_2 rfl rfl ?_
    refine go_aload_n (pc := 3) 1 dX4_step_3 rfl rfl ?_
    refine go_getfield (pc := 4) (v := vI (cK p1.1)) (pN p1.1) 2 0 dX4_step_4 flX4_34 (wC_net p1) rfl ?_
    refine go_icmp_ge (pc := 7) 63 dX4_step_7 (by decide) (fun h1 => ?_) (fun h1 => ?_)
    · have hs := it_t h1 hs
      obtain rfl := Option.some.inj hs
      refine go_sub (lv' := [none, none, none, none]) trivial ?_
      exact hE x1_ rfl
    · have hs := it_f h1 hs
      refine go_aload_n (pc := 10) 0 dX4_step_10 rfl rfl ?_
      refine go_getfield (pc := 11) (v := vR (42 + ea.1)) 41 4 0 dX4_step_11 flX4_9 rfl rfl ?_
      refine go_iload_n (pc := 14) 2 dX4_step_14 rfl rfl ?_
      refine go_lconst (pc := 15) (0 : Int64) dX4_step_15 (by decide) ?_
      obtain ⟨hi2, hs⟩ := chk_t hs
      refine go_lastore (pc := 16) (42 + ea.1) dX4_step_16 (wC_wk ea) hi2 (go_w (wC_swk ea) (show Go mX4_step (d + 1) false 0 0 17 [some (vR 41), some (vR (pN p1.1)), some (vI x0_), none] [] (wC cK cF ga gi gs oK cT ra rb cR cP cM ea eb (va_up x1_ ea.1 (vp_updL (x1_ ea.1) x0_.toNatClampNeg (0 : Int64))) aO aC aQ) Q from ?_))
      refine go_iconst (pc := 17) (0 : Int32) dX4_step_17 (by decide) ?_
      refine go_istore_n (pc := 18) 3 [some (vR 41), some (vR (pN p1.1)), some (vI x0_), some (vI (0 : Int32))] dX4_step_18 rfl (by decide) rfl ?_
      obtain ⟨e10, hl11, hs⟩ := bnd hs
      refine g_X4_step_19 (d := d) (0 : Int32) (va_up x1_ ea.1 (vp_updL (x1_ ea.1) x0_.toNatClampNeg (0 : Int64))) e10 hl11 ?_
      refine go_iinc (pc := 57) (x0_ + (1 : Int32)) [some (vR 41), some (vR (pN p1.1)), some (vI (x0_ + (1 : Int32))), none] dX4_step_57 rfl (iinc_1 _) (by decide) rfl ?_
      refine go_goto (pc := 60) 2 dX4_step_60 (by decide) ?_
      obtain rfl := Option.some.inj hs
      exact hI (x0_ + (1 : Int32), e10) rfl (x0_ + (1 : Int32)) e10 rfl
set_option maxRecDepth 20000 in
theorem c_X4_step {d : Nat}  {p1 : (Fin 5)} {res0 : (Nat → Nat → Int64)} (hs : s_X4_step cK cF ea eb cW p1 = some res0) : Calls mX4_step (d + 1) false 0 0 [vR 41, vR (pN p1.1)] (wC cK cF ga gi gs oK cT ra rb cR cP cM ea eb cW aO aC aQ) (fun r w' => r = none ∧ w' = (wC cK cF ga gi gs oK cT ra rb cR cP cM ea eb res0 aO aC aQ)) := by
  unfold s_X4_step at hs
  refine Calls.of kX4_step 2 [some (vR 41), some (vR (pN p1.1)), none, none] rfl (Nat.le_of_ble_eq_true rfl) ?_
  refine go_iconst (pc := 0) (0 : Int32) dX4_step_0 (by decide) ?_
  refine go_istore_n (pc := 1) 2 [some (vR 41), some (vR (pN p1.1)), some (vI (0 : Int32)), none] dX4_step_1 rfl (by decide) rfl ?_
  obtain ⟨e13, hl14, hs⟩ := bnd hs
  refine g_X4_step_2 (d := d) (0 : Int32) cW e13 hl14 ?_
  cases hs
  exact go_return (st := []) (pc := 63) dX4_step_63 rfl (fun h => by cases h) ⟨rfl, rfl⟩
end
