section
variable {cK : (Nat → Int32)} {cF : (Nat → Nat → Int32)} {ga : Int32} {gi : Int32} {gs : Int32} {oK : Int32} {cT : (Nat → Nat → Int32)} {ra : (Fin 2)} {rb : (Fin 2)} {cR : (Nat → Nat → Nat → Int64)} {cP : (Nat → Int64)} {cM : (Nat → Int64)} {ea : (Fin 2)} {eb : (Fin 2)} {cW : (Nat → Nat → Int64)} {aO : (Nat → Int32)} {aC : (Nat → Int32)} {aQ : (Nat → Int32)}
noncomputable def b_X1_linesOut_4 (cK : (Nat → Int32)) (cF : (Nat → Nat → Int32)) (p0 : (Fin 5)) (y1 : Int32) (x : Int32 × Int32) : Option ((Int32 × Int32) ⊕ (Int32)) := if (cK p0.1) ≤ x.2 then (some (Sum.inr x.1)) else (if ((y1 >>> (x.2 &&& 31)) &&& (1 : Int32)) = (1 : Int32) then (chk x.2 10 ((s_J6_bitCount_0f7a4 ((cF p0.1 x.2.toNatClampNeg) &&& (y1 ^^^ (-1 : Int32)))).bind (fun x4 => some (Sum.inl (x.1 + x4, x.2 + (1 : Int32)))))) else (some (Sum.inl (x.1, x.2 + (1 : Int32)))))
noncomputable def s_X1_linesOut (cK : (Nat → Int32)) (cF : (Nat → Nat → Int32)) (p0 : (Fin 5)) (a1 : Int32) : Option (Int32) := (loop (b_X1_linesOut_4 cK cF p0 a1) ((0 : Int32), (0 : Int32))).bind (fun e6 => some e6)
set_option maxRecDepth 20000 in
theorem g_X1_linesOut_4 {d : Nat} {p0 : (Fin 5)} {Q : Option AV → List AC → Prop} {y1 : Int32}  (x0_ : Int32) (x1_ : Int32) (r : Int32) (hl : loop (b_X1_linesOut_4 cK cF p0 y1) (x0_, x1_) = some r) (hk : Go mX1_linesOut (d + 1) false 0 0 43 [none, none, some (vI r), none] [] (wC cK cF ga gi gs oK cT ra rb cR cP cM ea eb cW aO aC aQ) Q) : Go mX1_linesOut (d + 1) false 0 0 4 [some (vR (pN p0.1)), some (vI y1), some (vI x0_), some (vI x1_)] [] (wC cK cF ga gi gs oK cT ra rb cR cP cM ea eb cW aO aC aQ) Q := by
  refine loop_go (P := fun x : Int32 × Int32 => ∀ (x0_ : Int32) (x1_ : Int32), x = (x0_, x1_) → Go mX1_linesOut (d + 1) false 0 0 4 [some (vR (pN p0.1)), some (vI y1), some (vI x0_), some (vI x1_)] [] (wC cK cF ga gi gs oK cT ra rb cR cP cM ea eb cW aO aC aQ) Q) (K := fun r : Int32 => Go mX1_linesOut (d + 1) false 0 0 43 [none, none, some (vI r), none] [] (wC cK cF ga gi gs oK cT ra rb cR cP cM ea eb cW aO aC aQ) Q) ?_ (x0_, x1_) r hl hk x0_ x1_ rfl
  · intro x y hs hI hE x0_ x1_ hx
    subst hx
    unfold b_X1_linesOut_4 at hs
    try dsimp only at hs
    refine go_iload_n (pc := 4) 3 dX1_linesOut_4 rfl rfl ?_
    refine go_aload_n (pc := 5) 0 dX1_linesOut_5 rfl rfl ?_
    refine go_getfield (pc := 6) (v := vI (cK p0.1)) (pN p0.1) 2 0 dX1_linesOut_6 flX1_19 (wC_net p0) rfl ?_
    refine go_icmp_ge (pc := 9) 43 dX1_linesOut_9 (by decide) (fun h1 => ?_) (fun h1 => ?_)
    · have hs := it_t h1 hs
      obtain rfl := Option.some.inj hs
      refine go_sub (lv' := [none, none, some (vI x0_), none]) ⟨rfl, trivial⟩ ?_
      exact hE x0_ rfl
    · have hs := it_f h1 hs
      refine go_iload_n (pc := 12) 1 dX1_linesOut_12 rfl rfl ?_
      refine go_iload_n (pc := 13) 3 dX1_linesOut_13 rfl rfl ?_
      refine go_ishr (pc := 14) dX1_linesOut_14 ?_
      refine go_iconst (pc := 15) (1 : Int32) dX1_linesOut_15 (by decide) ?_
      refine go_iand (pc := 16) dX1_linesOut_16 ?_
      refine go_iconst (pc := 17) (1 : Int32) dX1_linesOut_17 (by decide) ?_
      refine go_icmp_ne (pc := 18) 37 dX1_linesOut_18 (by decide) (fun h2 => ?_) (fun h2 => ?_)
      · have hs := it_f h2 hs
        refine go_iinc (pc := 37) (x1_ + (1 : Int32)) [some (vR (pN p0.1)), some (vI y1), some (vI x0_), some (vI (x1_ + (1 : Int32)))] dX1_linesOut_37 rfl (iinc_1 _) (by decide) rfl ?_
        refine go_goto (pc := 40) 4 dX1_linesOut_40 (by decide) ?_
        obtain rfl := Option.some.inj hs
        exact hI (x0_, x1_ + (1 : Int32)) rfl x0_ (x1_ + (1 : Int32)) rfl
      · have hs := it_t h2 hs
        refine go_iload_n (pc := 21) 2 dX1_linesOut_21 rfl rfl ?_
        refine go_aload_n (pc := 22) 0 dX1_linesOut_22 rfl rfl ?_
        refine go_getfield (pc := 23) (v := vR (pN p0.1 + 1)) (pN p0.1) 2 1 dX1_linesOut_23 flX1_40 (wC_net p0) rfl ?_
        refine go_iload_n (pc := 26) 3 dX1_linesOut_26 rfl rfl ?_
        obtain ⟨hi3, hs⟩ := chk_t hs
        refine go_iaload (pc := 27) (pN p0.1 + 1) dX1_linesOut_27 (wC_bes p0) hi3 ?_
        refine go_iload_n (pc := 28) 1 dX1_linesOut_28 rfl rfl ?_
        refine go_iconst (pc := 29) (-1 : Int32) dX1_linesOut_29 (by decide) ?_
        refine go_ixor (pc := 30) dX1_linesOut_30 ?_
        refine go_iand (pc := 31) dX1_linesOut_31 ?_
        obtain ⟨x4, hc5, hs⟩ := bnd hs
        refine go_callS (bc := 0) (bs := 0) (mc := 0) (ms := 0) (d := d + 0) (pc := 32) [vI ((cF p0.1 x1_.toNatClampNeg) &&& (y1 ^^^ (-1 : Int32)))] [vI x0_] dX1_linesOut_32 kJ6_bitCount_0f7a4 mlX1_24 isJ6_bitCount_0f7a4 rfl (Nat.le_of_ble_eq_true rfl) rfl (c_J6_bitCount_0f7a4 (d := d + 0) (res0 := x4) hc5) (fun r w' hq => ?_)
        obtain ⟨rfl, rfl⟩ := hq
        show Go mX1_linesOut (d + 1) false 0 0 35 [some (vR (pN p0.1)), some (vI y1), some (vI x0_), some (vI x1_)] [vI x4, vI x0_] (wC cK cF ga gi gs oK cT ra rb cR cP cM ea eb cW aO aC aQ) Q
        refine go_iadd (pc := 35) dX1_linesOut_35 ?_
        refine go_istore_n (pc := 36) 2 [some (vR (pN p0.1)), some (vI y1), some (vI (x0_ + x4)), some (vI x1_)] dX1_linesOut_36 rfl (by decide) rfl ?_
        refine go_iinc (pc := 37) (x1_ + (1 : Int32)) [some (vR (pN p0.1)), some (vI y1), some (vI (x0_ + x4)), some (vI (x1_ + (1 : Int32)))] dX1_linesOut_37 rfl (iinc_1 _) (by decide) rfl ?_
        refine go_goto (pc := 40) 4 dX1_linesOut_40 (by decide) ?_
        obtain rfl := Option.some.inj hs
        exact hI (x0_ + x4, x1_ + (1 : Int32)) rfl (x0_ + x4) (x1_ + (1 : Int32)) rfl
set_option maxRecDepth 20000 in
theorem c_X1_linesOut {d : Nat}  {p0 : (Fin 5)} {a1 : Int32} {res0 : Int32} (hs : s_X1_linesOut cK cF p0 a1 = some res0) : Calls mX1_linesOut (d + 1) false 0 0 [vR (pN p0.1), vI a1] (wC cK cF ga gi gs oK cT ra rb cR cP cM ea eb cW aO aC aQ) (fun r w' => r = some (vI res0) ∧ w' = (wC cK cF ga gi gs oK cT ra rb cR cP cM ea eb cW aO aC aQ)) := by
  unfold s_X1_linesOut at hs
  refine Calls.of kX1_linesOut 2 [some (vR (pN p0.1)), some (vI a1), none, none] rfl (Nat.le_of_ble_eq_true rfl) ?_
  refine go_iconst (pc := 0) (0 : Int32) dX1_linesOut_0 (by decide) ?_
  refine go_istore_n (pc := 1) 2 [some (vR (pN p0.1)), some (vI a1), some (vI (0 : Int32)), none] dX1_linesOut_1 rfl (by decide) rfl ?_
  refine go_iconst (pc := 2) (0 : Int32) dX1_linesOut_2 (by decide) ?_
  refine go_istore_n (pc := 3) 3 [some (vR (pN p0.1)), some (vI a1), some (vI (0 : Int32)), some (vI (0 : Int32))] dX1_linesOut_3 rfl (by decide) rfl ?_
  obtain ⟨e6, hl7, hs⟩ := bnd hs
  refine g_X1_linesOut_4 (d := d) (0 : Int32) (0 : Int32) e6 hl7 ?_
  refine go_iload_n (pc := 43) 2 dX1_linesOut_43 rfl rfl ?_
  cases hs
  exact go_ireturn (st := []) (pc := 44) dX1_linesOut_44 rfl (vp_nar_int _) (fun h => by cases h) ⟨rfl, rfl⟩
noncomputable def b_X2_besideSet_4 (cK : (Nat → Int32)) (cF : (Nat → Nat → Int32)) (p0 : (Fin 5)) (y1 : Int32) (x : Int32 × Int32) : Option ((Int32 × Int32) ⊕ (Int32)) := if (cK p0.1) ≤ x.2 then (some (Sum.inr x.1)) else (if ((y1 >>> (x.2 &&& 31)) &&& (1 : Int32)) = (1 : Int32) then (chk x.2 10 (some (Sum.inl (x.1 ||| (cF p0.1 x.2.toNatClampNeg), x.2 + (1 : Int32))))) else (some (Sum.inl (x.1, x.2 + (1 : Int32)))))
noncomputable def s_X2_besideSet (cK : (Nat → Int32)) (cF : (Nat → Nat → Int32)) (p0 : (Fin 5)) (a1 : Int32) : Option (Int32) := (loop (b_X2_besideSet_4 cK cF p0 a1) ((0 : Int32), (0 : Int32))).bind (fun e4 => some e4)
set_option maxRecDepth 20000 in
theorem g_X2_besideSet_4 {d : Nat} {p0 : (Fin 5)} {Q : Option AV → List AC → Prop} {y1 : Int32}  (x0_ : Int32) (x1_ : Int32) (r : Int32) (hl : loop (b_X2_besideSet_4 cK cF p0 y1) (x0_, x1_) = some r) (hk : Go mX2_besideSet (d + 0) false 0 0 36 [none, none, some (vI r), none] [] (wC cK cF ga gi gs oK cT ra rb cR cP cM ea eb cW aO aC aQ) Q) : Go mX2_besideSet (d + 0) false 0 0 4 [some (vR (pN p0.1)), some (vI y1), some (vI x0_), some (vI x1_)] [] (wC cK cF ga gi gs oK cT ra rb cR cP cM ea eb cW aO aC aQ) Q := by
  refine loop_go (P := fun x : Int32 × Int32 => ∀ (x0_ : Int32) (x1_ : Int32), x = (x0_, x1_) → Go mX2_besideSet (d + 0) false 0 0 4 [some (vR (pN p0.1)), some (vI y1), some (vI x0_), some (vI x1_)] [] (wC cK cF ga gi gs oK cT ra rb cR cP cM ea eb cW aO aC aQ) Q) (K := fun r : Int32 => Go mX2_besideSet (d + 0) false 0 0 36 [none, none, some (vI r), none] [] (wC cK cF ga gi gs oK cT ra rb cR cP cM ea eb cW aO aC aQ) Q) ?_ (x0_, x1_) r hl hk x0_ x1_ rfl
  · intro x y hs hI hE x0_ x1_ hx
    subst hx
    unfold b_X2_besideSet_4 at hs
    try dsimp only at hs
    refine go_iload_n (pc := 4) 3 dX2_besideSet_4 rfl rfl ?_
    refine go_aload_n (pc := 5) 0 dX2_besideSet_5 rfl rfl ?_
    refine go_getfield (pc := 6) (v := vI (cK p0.1)) (pN p0.1) 2 0 dX2_besideSet_6 flX2_9 (wC_net p0) rfl ?_
    refine go_icmp_ge (pc := 9) 36 dX2_besideSet_9 (by decide) (fun h1 => ?_) (fun h1 => ?_)
    · have hs := it_t h1 hs
      obtain rfl := Option.some.inj hs
      refine go_sub (lv' := [none, none, some (vI x0_), none]) ⟨rfl, trivial⟩ ?_
      exact hE x0_ rfl
    · have hs := it_f h1 hs
      refine go_iload_n (pc := 12) 1 dX2_besideSet_12 rfl rfl ?_
      refine go_iload_n (pc := 13) 3 dX2_besideSet_13 rfl rfl ?_
      refine go_ishr (pc := 14) dX2_besideSet_14 ?_
      refine go_iconst (pc := 15) (1 : Int32) dX2_besideSet_15 (by decide) ?_
      refine go_iand (pc := 16) dX2_besideSet_16 ?_
      refine go_iconst (pc := 17) (1 : Int32) dX2_besideSet_17 (by decide) ?_
      refine go_icmp_ne (pc := 18) 30 dX2_besideSet_18 (by decide) (fun h2 => ?_) (fun h2 => ?_)
      · have hs := it_f h2 hs
        refine go_iinc (pc := 30) (x1_ + (1 : Int32)) [some (vR (pN p0.1)), some (vI y1), some (vI x0_), some (vI (x1_ + (1 : Int32)))] dX2_besideSet_30 rfl (iinc_1 _) (by decide) rfl ?_
        refine go_goto (pc := 33) 4 dX2_besideSet_33 (by decide) ?_
        obtain rfl := Option.some.inj hs
        exact hI (x0_, x1_ + (1 : Int32)) rfl x0_ (x1_ + (1 : Int32)) rfl
      · have hs := it_t h2 hs
        refine go_iload_n (pc := 21) 2 dX2_besideSet_21 rfl rfl ?_
        refine go_aload_n (pc := 22) 0 dX2_besideSet_22 rfl rfl ?_
        refine go_getfield (pc := 23) (v := vR (pN p0.1 + 1)) (pN p0.1) 2 1 dX2_besideSet_23 flX2_15 (wC_net p0) rfl ?_
        refine go_iload_n (pc := 26) 3 dX2_besideSet_26 rfl rfl ?_
        obtain ⟨hi3, hs⟩ := chk_t hs
        refine go_iaload (pc := 27) (pN p0.1 + 1) dX2_besideSet_27 (wC_bes p0) hi3 ?_
        refine go_ior (pc := 28) dX2_besideSet_28 ?_
        refine go_istore_n (pc := 29) 2 [some (vR (pN p0.1)), some (vI y1), some (vI (x0_ ||| (cF p0.1 x1_.toNatClampNeg))), some (vI x1_)] dX2_besideSet_29 rfl (by decide) rfl ?_
        refine go_iinc (pc := 30) (x1_ + (1 : Int32)) [some (vR (pN p0.1)), some (vI y1), some (vI (x0_ ||| (cF p0.1 x1_.toNatClampNeg))), some (vI (x1_ + (1 : Int32)))] dX2_besideSet_30 rfl (iinc_1 _) (by decide) rfl ?_
        refine go_goto (pc := 33) 4 dX2_besideSet_33 (by decide) ?_
        obtain rfl := Option.some.inj hs
        exact hI (x0_ ||| (cF p0.1 x1_.toNatClampNeg), x1_ + (1 : Int32)) rfl (x0_ ||| (cF p0.1 x1_.toNatClampNeg)) (x1_ + (1 : Int32)) rfl
set_option maxRecDepth 20000 in
theorem c_X2_besideSet {d : Nat}  {p0 : (Fin 5)} {a1 : Int32} {res0 : Int32} (hs : s_X2_besideSet cK cF p0 a1 = some res0) : Calls mX2_besideSet (d + 0) false 0 0 [vR (pN p0.1), vI a1] (wC cK cF ga gi gs oK cT ra rb cR cP cM ea eb cW aO aC aQ) (fun r w' => r = some (vI res0) ∧ w' = (wC cK cF ga gi gs oK cT ra rb cR cP cM ea eb cW aO aC aQ)) := by
  unfold s_X2_besideSet at hs
  refine Calls.of kX2_besideSet 2 [some (vR (pN p0.1)), some (vI a1), none, none] rfl (Nat.le_of_ble_eq_true rfl) ?_
  refine go_iconst (pc := 0) (0 : Int32) dX2_besideSet_0 (by decide) ?_
  refine go_istore_n (pc := 1) 2 [some (vR (pN p0.1)), some (vI a1), some (vI (0 : Int32)), none] dX2_besideSet_1 rfl (by decide) rfl ?_
  refine go_iconst (pc := 2) (0 : Int32) dX2_besideSet_2 (by decide) ?_
  refine go_istore_n (pc := 3) 3 [some (vR (pN p0.1)), some (vI a1), some (vI (0 : Int32)), some (vI (0 : Int32))] dX2_besideSet_3 rfl (by decide) rfl ?_
  obtain ⟨e4, hl5, hs⟩ := bnd hs
  refine g_X2_besideSet_4 (d := d) (0 : Int32) (0 : Int32) e4 hl5 ?_
  refine go_iload_n (pc := 36) 2 dX2_besideSet_36 rfl rfl ?_
  cases hs
  exact go_ireturn (st := []) (pc := 37) dX2_besideSet_37 rfl (vp_nar_int _) (fun h => by cases h) ⟨rfl, rfl⟩
noncomputable def s_X1_knotsOut (cK : (Nat → Int32)) (cF : (Nat → Nat → Int32)) (p0 : (Fin 5)) (a1 : Int32) : Option (Int32) := (s_X2_besideSet cK cF p0 a1).bind (fun x1 => (s_J6_bitCount_0f7a4 (x1 &&& (a1 ^^^ (-1 : Int32)))).bind (fun x3 => some x3))
set_option maxRecDepth 20000 in
theorem c_X1_knotsOut {d : Nat}  {p0 : (Fin 5)} {a1 : Int32} {res0 : Int32} (hs : s_X1_knotsOut cK cF p0 a1 = some res0) : Calls mX1_knotsOut (d + 1) false 0 0 [vR (pN p0.1), vI a1] (wC cK cF ga gi gs oK cT ra rb cR cP cM ea eb cW aO aC aQ) (fun r w' => r = some (vI res0) ∧ w' = (wC cK cF ga gi gs oK cT ra rb cR cP cM ea eb cW aO aC aQ)) := by
  unfold s_X1_knotsOut at hs
  refine Calls.of kX1_knotsOut 0 [some (vR (pN p0.1)), some (vI a1)] rfl (Nat.le_of_ble_eq_true rfl) ?_
  refine go_aload_n (pc := 0) 0 dX1_knotsOut_0 rfl rfl ?_
  refine go_iload_n (pc := 1) 1 dX1_knotsOut_1 rfl rfl ?_
  obtain ⟨x1, hc2, hs⟩ := bnd hs
  refine go_callV (bc := 0) (bs := 0) (mc := 0) (ms := 0) (d := d + 0) (pc := 2) (a := (pN p0.1)) (ci := 2) [vI a1] [] dX1_knotsOut_2 kX2_besideSet mlX1_37 ivX2_besideSet rfl rfl (wC_net p0) rfl (Nat.le_of_ble_eq_true rfl) rfl (c_X2_besideSet (d := d + 0) (res0 := x1) hc2) (fun r w' hq => ?_)
  obtain ⟨rfl, rfl⟩ := hq
  show Go mX1_knotsOut (d + 1) false 0 0 5 [some (vR (pN p0.1)), some (vI a1)] [vI x1] (wC cK cF ga gi gs oK cT ra rb cR cP cM ea eb cW aO aC aQ) _
  refine go_iload_n (pc := 5) 1 dX1_knotsOut_5 rfl rfl ?_
  refine go_iconst (pc := 6) (-1 : Int32) dX1_knotsOut_6 (by decide) ?_
  refine go_ixor (pc := 7) dX1_knotsOut_7 ?_
  refine go_iand (pc := 8) dX1_knotsOut_8 ?_
  obtain ⟨x3, hc4, hs⟩ := bnd hs
  refine go_callS (bc := 0) (bs := 0) (mc := 0) (ms := 0) (d := d + 0) (pc := 9) [vI (x1 &&& (a1 ^^^ (-1 : Int32)))] [] dX1_knotsOut_9 kJ6_bitCount_0f7a4 mlX1_24 isJ6_bitCount_0f7a4 rfl (Nat.le_of_ble_eq_true rfl) rfl (c_J6_bitCount_0f7a4 (d := d + 0) (res0 := x3) hc4) (fun r w' hq => ?_)
  obtain ⟨rfl, rfl⟩ := hq
  show Go mX1_knotsOut (d + 1) false 0 0 12 [some (vR (pN p0.1)), some (vI a1)] [vI x3] (wC cK cF ga gi gs oK cT ra rb cR cP cM ea eb cW aO aC aQ) _
  cases hs
  exact go_ireturn (st := []) (pc := 12) dX1_knotsOut_12 rfl (vp_nar_int _) (fun h => by cases h) ⟨rfl, rfl⟩
noncomputable def b_X1_seek_25 (cK : (Nat → Int32)) (cF : (Nat → Nat → Int32)) (p1 : (Fin 5)) (y2 : Int32) (y3 : Int32) (x : Int32 × Int32 × Int32 × Int32) : Option ((Int32 × Int32 × Int32 × Int32) ⊕ (Int32 × Int32 × Int32)) := if y3 ≤ x.1 then (some (Sum.inr (x.2.1, x.2.2.1, x.2.2.2))) else ((s_J6_bitCount_0f7a4 x.1).bind (fun x2 => if x2 ≤ ((cK p1.1) / (2 : Int32)) then (if y2 = 0 then ((s_X1_knotsOut cK cF p1 x.1).bind (fun x6 => if (x.2.1 * x2) ≤ (x6 * x.2.2.1) then (some (Sum.inl (x.1 + (1 : Int32), x.2.1, x.2.2.1, x.2.2.2))) else (some (Sum.inl (x.1 + (1 : Int32), x6, x2, x.1))))) else ((s_X1_linesOut cK cF p1 x.1).bind (fun x9 => if (x.2.1 * x2) ≤ (x9 * x.2.2.1) then (some (Sum.inl (x.1 + (1 : Int32), x.2.1, x.2.2.1, x.2.2.2))) else (some (Sum.inl (x.1 + (1 : Int32), x9, x2, x.1)))))) else (some (Sum.inl (x.1 + (1 : Int32), x.2.1, x.2.2.1, x.2.2.2)))))
noncomputable def s_X1_seek (cK : (Nat → Int32)) (cF : (Nat → Nat → Int32)) (ga : Int32) (gi : Int32) (gs : Int32) (p1 : (Fin 5)) (a2 : Int32) : Option (Int32 × Int32 × Int32) := (loop (b_X1_seek_25 cK cF p1 a2 ((1 : Int32) <<< ((cK p1.1) &&& 31))) ((1 : Int32), (1 : Int32), (0 : Int32), (0 : Int32))).bind (fun e12 => some (e12.1, e12.2.1, e12.2.2))
set_option maxRecDepth 20000 in
theorem g_X1_seek_25 {d : Nat} {p1 : (Fin 5)} {Q : Option AV → List AC → Prop} {y2 : Int32} {y3 : Int32}  (x0_ : Int32) (x1_ : Int32) (x2_ : Int32) (x3_ : Int32) (r : Int32 × Int32 × Int32) (hl : loop (b_X1_seek_25 cK cF p1 y2 y3) (x0_, x1_, x2_, x3_) = some r) (hk : ∀ (r0_ : Int32) (r1_ : Int32) (r2_ : Int32), r = (r0_, r1_, r2_) → Go mX1_seek (d + 2) false 0 0 114 [none, none, none, none, none, none, none] [] (wC cK cF r0_ r1_ r2_ oK cT ra rb cR cP cM ea eb cW aO aC aQ) Q) : Go mX1_seek (d + 2) false 0 0 25 [some (vR 4), some (vR (pN p1.1)), some (vI y2), some (vI y3), some (vI x0_), none, none] [] (wC cK cF x1_ x2_ x3_ oK cT ra rb cR cP cM ea eb cW aO aC aQ) Q := by
  refine loop_go (P := fun x : Int32 × Int32 × Int32 × Int32 => ∀ (x0_ : Int32) (x1_ : Int32) (x2_ : Int32) (x3_ : Int32), x = (x0_, x1_, x2_, x3_) → Go mX1_seek (d + 2) false 0 0 25 [some (vR 4), some (vR (pN p1.1)), some (vI y2), some (vI y3), some (vI x0_), none, none] [] (wC cK cF x1_ x2_ x3_ oK cT ra rb cR cP cM ea eb cW aO aC aQ) Q) (K := fun r : Int32 × Int32 × Int32 => ∀ (r0_ : Int32) (r1_ : Int32) (r2_ : Int32), r = (r0_, r1_, r2_) → Go mX1_seek (d + 2) false 0 0 114 [none, none, none, none, none, none, none] [] (wC cK cF r0_ r1_ r2_ oK cT ra rb cR cP cM ea eb cW aO aC aQ) Q) ?_ (x0_, x1_, x2_, x3_) r hl hk x0_ x1_ x2_ x3_ rfl
  · intro x y hs hI hE x0_ x1_ x2_ x3_ hx
    subst hx
    unfold b_X1_seek_25 at hs
    try dsimp only at hs
    refine go_iload (pc := 25) dX1_seek_25 rfl ?_
    refine go_iload_n (pc := 27) 3 dX1_seek_27 rfl rfl ?_
    refine go_icmp_ge (pc := 28) 114 dX1_seek_28 (by decide) (fun h1 => ?_) (fun h1 => ?_)
    · have hs := it_t h1 hs
      obtain rfl := Option.some.inj hs
      refine go_sub (lv' := [none, none, none, none, none, none, none]) trivial ?_
      exact (hE (x1_, x2_, x3_) rfl) x1_ x2_ x3_ rfl
    · have hs := it_f h1 hs
      refine go_iload (pc := 31) dX1_seek_31 rfl ?_
      obtain ⟨x2, hc3, hs⟩ := bnd hs
      refine go_callS (bc := 0) (bs := 0) (mc := 0) (ms := 0) (d := d + 1) (pc := 33) [vI x0_] [] dX1_seek_33 kJ6_bitCount_0f7a4 mlX1_24 isJ6_bitCount_0f7a4 rfl (Nat.le_of_ble_eq_true rfl) rfl (c_J6_bitCount_0f7a4 (d := d + 1) (res0 := x2) hc3) (fun r w' hq => ?_)
      obtain ⟨rfl, rfl⟩ := hq
      show Go mX1_seek (d + 2) false 0 0 36 [some (vR 4), some (vR (pN p1.1)), some (vI y2), some (vI y3), some (vI x0_), none, none] [vI x2] (wC cK cF x1_ x2_ x3_ oK cT ra rb cR cP cM ea eb cW aO aC aQ) Q
      refine go_istore (pc := 36) [some (vR 4), some (vR (pN p1.1)), some (vI y2), some (vI y3), some (vI x0_), some (vI x2), none] dX1_seek_36 (by decide) rfl ?_
      refine go_iload (pc := 38) dX1_seek_38 rfl ?_
      refine go_aload_n (pc := 40) 1 dX1_seek_40 rfl rfl ?_
      refine go_getfield (pc := 41) (v := vI (cK p1.1)) (pN p1.1) 2 0 dX1_seek_41 flX1_19 (wC_net p1) rfl ?_
      refine go_iconst (pc := 44) (2 : Int32) dX1_seek_44 (by decide) ?_
      refine go_idiv (pc := 45) dX1_seek_45 (by decide) ?_
      refine go_icmp_le (pc := 46) 52 dX1_seek_46 (by decide) (fun h4 => ?_) (fun h4 => ?_)
      · have hs := it_t h4 hs
        refine go_iload_n (pc := 52) 2 dX1_seek_52 rfl rfl ?_
        refine go_if_eq (pc := 53) 65 dX1_seek_53 (by decide) (fun h5 => ?_) (fun h5 => ?_)
        · have hs := it_t h5 hs
          refine go_aload_n (pc := 65) 1 dX1_seek_65 rfl rfl ?_
          refine go_iload (pc := 66) dX1_seek_66 rfl ?_
          obtain ⟨x6, hc7, hs⟩ := bnd hs
          refine go_callS (bc := 0) (bs := 0) (mc := 0) (ms := 0) (d := d + 1) (pc := 68) [vR (pN p1.1), vI x0_] [] dX1_seek_68 kX1_knotsOut mlX1_34 isX1_knotsOut rfl (Nat.le_of_ble_eq_true rfl) rfl (c_X1_knotsOut (d := d + 0) (res0 := x6) hc7) (fun r w' hq => ?_)
          obtain ⟨rfl, rfl⟩ := hq
          show Go mX1_seek (d + 2) false 0 0 71 [some (vR 4), some (vR (pN p1.1)), some (vI y2), some (vI y3), some (vI x0_), some (vI x2), none] [vI x6] (wC cK cF x1_ x2_ x3_ oK cT ra rb cR cP cM ea eb cW aO aC aQ) Q
          refine go_istore (pc := 71) [some (vR 4), some (vR (pN p1.1)), some (vI y2), some (vI y3), some (vI x0_), some (vI x2), some (vI x6)] dX1_seek_71 (by decide) rfl ?_
          refine go_iload (pc := 73) dX1_seek_73 rfl ?_
          refine go_aload_n (pc := 75) 0 dX1_seek_75 rfl rfl ?_
          refine go_getfield (pc := 76) (v := vI x2_) 4 1 1 dX1_seek_76 flX1_13 rfl rfl ?_
          refine go_imul (pc := 79) dX1_seek_79 ?_
          refine go_aload_n (pc := 80) 0 dX1_seek_80 rfl rfl ?_
          refine go_getfield (pc := 81) (v := vI x1_) 4 1 0 dX1_seek_81 flX1_7 rfl rfl ?_
          refine go_iload (pc := 84) dX1_seek_84 rfl ?_
          refine go_imul (pc := 86) dX1_seek_86 ?_
          refine go_icmp_ge (pc := 87) 108 dX1_seek_87 (by decide) (fun h8 => ?_) (fun h8 => ?_)
          · have hs := it_t h8 hs
            refine go_iinc (pc := 108) (x0_ + (1 : Int32)) [some (vR 4), some (vR (pN p1.1)), some (vI y2), some (vI y3), some (vI (x0_ + (1 : Int32))), some (vI x2), some (vI x6)] dX1_seek_108 rfl (iinc_1 _) (by decide) rfl ?_
            refine go_goto (pc := 111) 25 dX1_seek_111 (by decide) ?_
            obtain rfl := Option.some.inj hs
            refine go_sub (lv' := [some (vR 4), some (vR (pN p1.1)), some (vI y2), some (vI y3), some (vI (x0_ + (1 : Int32))), none, none]) ⟨rfl, ⟨rfl, ⟨rfl, ⟨rfl, ⟨rfl, trivial⟩⟩⟩⟩⟩ ?_
            exact hI (x0_ + (1 : Int32), x1_, x2_, x3_) rfl (x0_ + (1 : Int32)) x1_ x2_ x3_ rfl
          · have hs := it_f h8 hs
            refine go_aload_n (pc := 90) 0 dX1_seek_90 rfl rfl ?_
            refine go_iload (pc := 91) dX1_seek_91 rfl ?_
            refine go_putI (pc := 93) 4 1 0 dX1_seek_93 fpX1_7 rfl (Nat.le_of_ble_eq_true rfl) ((show Go mX1_seek (d + 2) false 0 0 96 [some (vR 4), some (vR (pN p1.1)), some (vI y2), some (vI y3), some (vI x0_), some (vI x2), some (vI x6)] [] (wC cK cF x6 x2_ x3_ oK cT ra rb cR cP cM ea eb cW aO aC aQ) Q from ?_))
            refine go_aload_n (pc := 96) 0 dX1_seek_96 rfl rfl ?_
            refine go_iload (pc := 97) dX1_seek_97 rfl ?_
            refine go_putI (pc := 99) 4 1 1 dX1_seek_99 fpX1_13 rfl (Nat.le_of_ble_eq_true rfl) ((show Go mX1_seek (d + 2) false 0 0 102 [some (vR 4), some (vR (pN p1.1)), some (vI y2), some (vI y3), some (vI x0_), some (vI x2), some (vI x6)] [] (wC cK cF x6 x2 x3_ oK cT ra rb cR cP cM ea eb cW aO aC aQ) Q from ?_))
            refine go_aload_n (pc := 102) 0 dX1_seek_102 rfl rfl ?_
            refine go_iload (pc := 103) dX1_seek_103 rfl ?_
            refine go_putI (pc := 105) 4 1 2 dX1_seek_105 fpX1_16 rfl (Nat.le_of_ble_eq_true rfl) ((show Go mX1_seek (d + 2) false 0 0 108 [some (vR 4), some (vR (pN p1.1)), some (vI y2), some (vI y3), some (vI x0_), some (vI x2), some (vI x6)] [] (wC cK cF x6 x2 x0_ oK cT ra rb cR cP cM ea eb cW aO aC aQ) Q from ?_))
            refine go_iinc (pc := 108) (x0_ + (1 : Int32)) [some (vR 4), some (vR (pN p1.1)), some (vI y2), some (vI y3), some (vI (x0_ + (1 : Int32))), some (vI x2), some (vI x6)] dX1_seek_108 rfl (iinc_1 _) (by decide) rfl ?_
            refine go_goto (pc := 111) 25 dX1_seek_111 (by decide) ?_
            obtain rfl := Option.some.inj hs
            refine go_sub (lv' := [some (vR 4), some (vR (pN p1.1)), some (vI y2), some (vI y3), some (vI (x0_ + (1 : Int32))), none, none]) ⟨rfl, ⟨rfl, ⟨rfl, ⟨rfl, ⟨rfl, trivial⟩⟩⟩⟩⟩ ?_
            exact hI (x0_ + (1 : Int32), x6, x2, x0_) rfl (x0_ + (1 : Int32)) x6 x2 x0_ rfl
        · have hs := it_f h5 hs
          refine go_aload_n (pc := 56) 1 dX1_seek_56 rfl rfl ?_
          refine go_iload (pc := 57) dX1_seek_57 rfl ?_
          obtain ⟨x9, hc10, hs⟩ := bnd hs
          refine go_callS (bc := 0) (bs := 0) (mc := 0) (ms := 0) (d := d + 1) (pc := 59) [vR (pN p1.1), vI x0_] [] dX1_seek_59 kX1_linesOut mlX1_30 isX1_linesOut rfl (Nat.le_of_ble_eq_true rfl) rfl (c_X1_linesOut (d := d + 0) (res0 := x9) hc10) (fun r w' hq => ?_)
          obtain ⟨rfl, rfl⟩ := hq
          show Go mX1_seek (d + 2) false 0 0 62 [some (vR 4), some (vR (pN p1.1)), some (vI y2), some (vI y3), some (vI x0_), some (vI x2), none] [vI x9] (wC cK cF x1_ x2_ x3_ oK cT ra rb cR cP cM ea eb cW aO aC aQ) Q
          refine go_goto (pc := 62) 71 dX1_seek_62 (by decide) ?_
          refine go_istore (pc := 71) [some (vR 4), some (vR (pN p1.1)), some (vI y2), some (vI y3), some (vI x0_), some (vI x2), some (vI x9)] dX1_seek_71 (by decide) rfl ?_
          refine go_iload (pc := 73) dX1_seek_73 rfl ?_
          refine go_aload_n (pc := 75) 0 dX1_seek_75 rfl rfl ?_
          refine go_getfield (pc := 76) (v := vI x2_) 4 1 1 dX1_seek_76 flX1_13 rfl rfl ?_
          refine go_imul (pc := 79) dX1_seek_79 ?_
          refine go_aload_n (pc := 80) 0 dX1_seek_80 rfl rfl ?_
          refine go_getfield (pc := 81) (v := vI x1_) 4 1 0 dX1_seek_81 flX1_7 rfl rfl ?_
          refine go_iload (pc := 84) dX1_seek_84 rfl ?_
          refine go_imul (pc := 86) dX1_seek_86 ?_
          refine go_icmp_ge (pc := 87) 108 dX1_seek_87 (by decide) (fun h11 => ?_) (fun h11 => ?_)
          · have hs := it_t h11 hs
            refine go_iinc (pc := 108) (x0_ + (1 : Int32)) [some (vR 4), some (vR (pN p1.1)), some (vI y2), some (vI y3), some (vI (x0_ + (1 : Int32))), some (vI x2), some (vI x9)] dX1_seek_108 rfl (iinc_1 _) (by decide) rfl ?_
            refine go_goto (pc := 111) 25 dX1_seek_111 (by decide) ?_
            obtain rfl := Option.some.inj hs
            refine go_sub (lv' := [some (vR 4), some (vR (pN p1.1)), some (vI y2), some (vI y3), some (vI (x0_ + (1 : Int32))), none, none]) ⟨rfl, ⟨rfl, ⟨rfl, ⟨rfl, ⟨rfl, trivial⟩⟩⟩⟩⟩ ?_
            exact hI (x0_ + (1 : Int32), x1_, x2_, x3_) rfl (x0_ + (1 : Int32)) x1_ x2_ x3_ rfl
          · have hs := it_f h11 hs
            refine go_aload_n (pc := 90) 0 dX1_seek_90 rfl rfl ?_
            refine go_iload (pc := 91) dX1_seek_91 rfl ?_
            refine go_putI (pc := 93) 4 1 0 dX1_seek_93 fpX1_7 rfl (Nat.le_of_ble_eq_true rfl) ((show Go mX1_seek (d + 2) false 0 0 96 [some (vR 4), some (vR (pN p1.1)), some (vI y2), some (vI y3), some (vI x0_), some (vI x2), some (vI x9)] [] (wC cK cF x9 x2_ x3_ oK cT ra rb cR cP cM ea eb cW aO aC aQ) Q from ?_))
            refine go_aload_n (pc := 96) 0 dX1_seek_96 rfl rfl ?_
            refine go_iload (pc := 97) dX1_seek_97 rfl ?_
            refine go_putI (pc := 99) 4 1 1 dX1_seek_99 fpX1_13 rfl (Nat.le_of_ble_eq_true rfl) ((show Go mX1_seek (d + 2) false 0 0 102 [some (vR 4), some (vR (pN p1.1)), some (vI y2), some (vI y3), some (vI x0_), some (vI x2), some (vI x9)] [] (wC cK cF x9 x2 x3_ oK cT ra rb cR cP cM ea eb cW aO aC aQ) Q from ?_))
            refine go_aload_n (pc := 102) 0 dX1_seek_102 rfl rfl ?_
            refine go_iload (pc := 103) dX1_seek_103 rfl ?_
            refine go_putI (pc := 105) 4 1 2 dX1_seek_105 fpX1_16 rfl (Nat.le_of_ble_eq_true rfl) ((show Go mX1_seek (d + 2) false 0 0 108 [some (vR 4), some (vR (pN p1.1)), some (vI y2), some (vI y3), some (vI x0_), some (vI x2), some (vI x9)] [] (wC cK cF x9 x2 x0_ oK cT ra rb cR cP cM ea eb cW aO aC aQ) Q from ?_))
            refine go_iinc (pc := 108) (x0_ + (1 : Int32)) [some (vR 4), some (vR (pN p1.1)), some (vI y2), some (vI y3), some (vI (x0_ + (1 : Int32))), some (vI x2), some (vI x9)] dX1_seek_108 rfl (iinc_1 _) (by decide) rfl ?_
            refine go_goto (pc := 111) 25 dX1_seek_111 (by decide) ?_
            obtain rfl := Option.some.inj hs
            refine go_sub (lv' := [some (vR 4), some (vR (pN p1.1)), some (vI y2), some (vI y3), some (vI (x0_ + (1 : Int32))), none, none]) ⟨rfl, ⟨rfl, ⟨rfl, ⟨rfl, ⟨rfl, trivial⟩⟩⟩⟩⟩ ?_
            exact hI (x0_ + (1 : Int32), x9, x2, x0_) rfl (x0_ + (1 : Int32)) x9 x2 x0_ rfl
      · have hs := it_f h4 hs
        refine go_goto (pc := 49) 108 dX1_seek_49 (by decide) ?_
        refine go_iinc (pc := 108) (x0_ + (1 : Int32)) [some (vR 4), some (vR (pN p1.1)), some (vI y2), some (vI y3), some (vI (x0_ + (1 : Int32))), some (vI x2), none] dX1_seek_108 rfl (iinc_1 _) (by decide) rfl ?_
        refine go_goto (pc := 111) 25 dX1_seek_111 (by decide) ?_
        obtain rfl := Option.some.inj hs
        refine go_sub (lv' := [some (vR 4), some (vR (pN p1.1)), some (vI y2), some (vI y3), some (vI (x0_ + (1 : Int32))), none, none]) ⟨rfl, ⟨rfl, ⟨rfl, ⟨rfl, ⟨rfl, trivial⟩⟩⟩⟩⟩ ?_
        exact hI (x0_ + (1 : Int32), x1_, x2_, x3_) rfl (x0_ + (1 : Int32)) x1_ x2_ x3_ rfl
set_option maxRecDepth 20000 in
theorem c_X1_seek {d : Nat}  {p1 : (Fin 5)} {a2 : Int32} {res0 : Int32} {res1 : Int32} {res2 : Int32} (hs : s_X1_seek cK cF ga gi gs p1 a2 = some (res0, res1, res2)) : Calls mX1_seek (d + 2) false 0 0 [vR 4, vR (pN p1.1), vI a2] (wC cK cF ga gi gs oK cT ra rb cR cP cM ea eb cW aO aC aQ) (fun r w' => r = none ∧ w' = (wC cK cF res0 res1 res2 oK cT ra rb cR cP cM ea eb cW aO aC aQ)) := by
  unfold s_X1_seek at hs
  refine Calls.of kX1_seek 4 [some (vR 4), some (vR (pN p1.1)), some (vI a2), none, none, none, none] rfl (Nat.le_of_ble_eq_true rfl) ?_
  refine go_aload_n (pc := 0) 0 dX1_seek_0 rfl rfl ?_
  refine go_iconst (pc := 1) (1 : Int32) dX1_seek_1 (by decide) ?_
  refine go_putI (pc := 2) 4 1 0 dX1_seek_2 fpX1_7 rfl (Nat.le_of_ble_eq_true rfl) ((show Go mX1_seek (d + 2) false 0 0 5 [some (vR 4), some (vR (pN p1.1)), some (vI a2), none, none, none, none] [] (wC cK cF (1 : Int32) gi gs oK cT ra rb cR cP cM ea eb cW aO aC aQ) _ from ?_))
  refine go_aload_n (pc := 5) 0 dX1_seek_5 rfl rfl ?_
  refine go_iconst (pc := 6) (0 : Int32) dX1_seek_6 (by decide) ?_
  refine go_putI (pc := 7) 4 1 1 dX1_seek_7 fpX1_13 rfl (Nat.le_of_ble_eq_true rfl) ((show Go mX1_seek (d + 2) false 0 0 10 [some (vR 4), some (vR (pN p1.1)), some (vI a2), none, none, none, none] [] (wC cK cF (1 : Int32) (0 : Int32) gs oK cT ra rb cR cP cM ea eb cW aO aC aQ) _ from ?_))
  refine go_aload_n (pc := 10) 0 dX1_seek_10 rfl rfl ?_
  refine go_iconst (pc := 11) (0 : Int32) dX1_seek_11 (by decide) ?_
  refine go_putI (pc := 12) 4 1 2 dX1_seek_12 fpX1_16 rfl (Nat.le_of_ble_eq_true rfl) ((show Go mX1_seek (d + 2) false 0 0 15 [some (vR 4), some (vR (pN p1.1)), some (vI a2), none, none, none, none] [] (wC cK cF (1 : Int32) (0 : Int32) (0 : Int32) oK cT ra rb cR cP cM ea eb cW aO aC aQ) _ from ?_))
  refine go_iconst (pc := 15) (1 : Int32) dX1_seek_15 (by decide) ?_
  refine go_aload_n (pc := 16) 1 dX1_seek_16 rfl rfl ?_
  refine go_getfield (pc := 17) (v := vI (cK p1.1)) (pN p1.1) 2 0 dX1_seek_17 flX1_19 (wC_net p1) rfl ?_
  refine go_ishl (pc := 20) dX1_seek_20 ?_
  refine go_istore_n (pc := 21) 3 [some (vR 4), some (vR (pN p1.1)), some (vI a2), some (vI ((1 : Int32) <<< ((cK p1.1) &&& 31))), none, none, none] dX1_seek_21 rfl (by decide) rfl ?_
  refine go_iconst (pc := 22) (1 : Int32) dX1_seek_22 (by decide) ?_
  refine go_istore (pc := 23) [some (vR 4), some (vR (pN p1.1)), some (vI a2), some (vI ((1 : Int32) <<< ((cK p1.1) &&& 31))), some (vI (1 : Int32)), none, none] dX1_seek_23 (by decide) rfl ?_
  obtain ⟨e12, hl13, hs⟩ := bnd hs
  refine g_X1_seek_25 (d := d) (1 : Int32) (1 : Int32) (0 : Int32) (0 : Int32) e12 hl13 ?_
  intro v14 v15 v16 hv17
  subst hv17
  try dsimp only at hs
  cases hs
  exact go_return (st := []) (pc := 114) dX1_seek_114 rfl (fun h => by cases h) ⟨rfl, rfl⟩
noncomputable def s_X2_hasKnot (cK : (Nat → Int32)) (p0 : (Fin 5)) (a1 : Int32) : Option (Int32) := if a1 < 0 then (some (0 : Int32)) else (if (cK p0.1) ≤ a1 then (some (0 : Int32)) else (some (1 : Int32)))
set_option maxRecDepth 20000 in
theorem c_X2_hasKnot {d : Nat}  {p0 : (Fin 5)} {a1 : Int32} {res0 : Int32} (hs : s_X2_hasKnot cK p0 a1 = some res0) : Calls mX2_hasKnot (d + 0) false 0 0 [vR (pN p0.1), vI a1] (wC cK cF ga gi gs oK cT ra rb cR cP cM ea eb cW aO aC aQ) (fun r w' => r = some (vI res0) ∧ w' = (wC cK cF ga gi gs oK cT ra rb cR cP cM ea eb cW aO aC aQ)) := by
  unfold s_X2_hasKnot at hs
  refine Calls.of kX2_hasKnot 0 [some (vR (pN p0.1)), some (vI a1)] rfl (Nat.le_of_ble_eq_true rfl) ?_
  refine go_iload_n (pc := 0) 1 dX2_hasKnot_0 rfl rfl ?_
  refine go_if_lt (pc := 1) 16 dX2_hasKnot_1 (by decide) (fun h1 => ?_) (fun h1 => ?_)
  · have hs := it_t h1 hs
    refine go_iconst (pc := 16) (0 : Int32) dX2_hasKnot_16 (by decide) ?_
    cases hs
    exact go_ireturn (st := []) (pc := 17) dX2_hasKnot_17 rfl rfl (fun h => by cases h) ⟨rfl, rfl⟩
  · have hs := it_f h1 hs
    refine go_iload_n (pc := 4) 1 dX2_hasKnot_4 rfl rfl ?_
    refine go_aload_n (pc := 5) 0 dX2_hasKnot_5 rfl rfl ?_
    refine go_getfield (pc := 6) (v := vI (cK p0.1)) (pN p0.1) 2 0 dX2_hasKnot_6 flX2_9 (wC_net p0) rfl ?_
    refine go_icmp_ge (pc := 9) 16 dX2_hasKnot_9 (by decide) (fun h2 => ?_) (fun h2 => ?_)
    · have hs := it_t h2 hs
      refine go_iconst (pc := 16) (0 : Int32) dX2_hasKnot_16 (by decide) ?_
      cases hs
      exact go_ireturn (st := []) (pc := 17) dX2_hasKnot_17 rfl rfl (fun h => by cases h) ⟨rfl, rfl⟩
    · have hs := it_f h2 hs
      refine go_iconst (pc := 12) (1 : Int32) dX2_hasKnot_12 (by decide) ?_
      refine go_goto (pc := 13) 17 dX2_hasKnot_13 (by decide) ?_
      cases hs
      exact go_ireturn (st := []) (pc := 17) dX2_hasKnot_17 rfl rfl (fun h => by cases h) ⟨rfl, rfl⟩
noncomputable def s_X2_hasKnots (cK : (Nat → Int32)) (p0 : (Fin 5)) (a1 : Int32) (a2 : Int32) : Option (Int32) := (s_X2_hasKnot cK p0 a1).bind (fun x1 => if x1 = 0 then (some (0 : Int32)) else ((s_X2_hasKnot cK p0 a2).bind (fun x4 => if x4 = 0 then (some (0 : Int32)) else (some (1 : Int32)))))
set_option maxRecDepth 20000 in
theorem c_X2_hasKnots {d : Nat}  {p0 : (Fin 5)} {a1 : Int32} {a2 : Int32} {res0 : Int32} (hs : s_X2_hasKnots cK p0 a1 a2 = some res0) : Calls mX2_hasKnots (d + 1) false 0 0 [vR (pN p0.1), vI a1, vI a2] (wC cK cF ga gi gs oK cT ra rb cR cP cM ea eb cW aO aC aQ) (fun r w' => r = some (vI res0) ∧ w' = (wC cK cF ga gi gs oK cT ra rb cR cP cM ea eb cW aO aC aQ)) := by
  unfold s_X2_hasKnots at hs
  refine Calls.of kX2_hasKnots 0 [some (vR (pN p0.1)), some (vI a1), some (vI a2)] rfl (Nat.le_of_ble_eq_true rfl) ?_
  refine go_aload_n (pc := 0) 0 dX2_hasKnots_0 rfl rfl ?_
  refine go_iload_n (pc := 1) 1 dX2_hasKnots_1 rfl rfl ?_
  obtain ⟨x1, hc2, hs⟩ := bnd hs
  refine go_callV (bc := 0) (bs := 0) (mc := 0) (ms := 0) (d := d + 0) (pc := 2) (a := (pN p0.1)) (ci := 2) [vI a1] [] dX2_hasKnots_2 kX2_hasKnot mlX2_19 ivX2_hasKnot rfl rfl (wC_net p0) rfl (Nat.le_of_ble_eq_true rfl) rfl (c_X2_hasKnot (d := d + 0) (res0 := x1) hc2) (fun r w' hq => ?_)
  obtain ⟨rfl, rfl⟩ := hq
  show Go mX2_hasKnots (d + 1) false 0 0 5 [some (vR (pN p0.1)), some (vI a1), some (vI a2)] [vI x1] (wC cK cF ga gi gs oK cT ra rb cR cP cM ea eb cW aO aC aQ) _
  refine go_if_eq (pc := 5) 20 dX2_hasKnots_5 (by decide) (fun h3 => ?_) (fun h3 => ?_)
  · have hs := it_t h3 hs
    refine go_iconst (pc := 20) (0 : Int32) dX2_hasKnots_20 (by decide) ?_
    cases hs
    exact go_ireturn (st := []) (pc := 21) dX2_hasKnots_21 rfl rfl (fun h => by cases h) ⟨rfl, rfl⟩
  · have hs := it_f h3 hs
    refine go_aload_n (pc := 8) 0 dX2_hasKnots_8 rfl rfl ?_
    refine go_iload_n (pc := 9) 2 dX2_hasKnots_9 rfl rfl ?_
    obtain ⟨x4, hc5, hs⟩ := bnd hs
    refine go_callV (bc := 0) (bs := 0) (mc := 0) (ms := 0) (d := d + 0) (pc := 10) (a := (pN p0.1)) (ci := 2) [vI a2] [] dX2_hasKnots_10 kX2_hasKnot mlX2_19 ivX2_hasKnot rfl rfl (wC_net p0) rfl (Nat.le_of_ble_eq_true rfl) rfl (c_X2_hasKnot (d := d + 0) (res0 := x4) hc5) (fun r w' hq => ?_)
    obtain ⟨rfl, rfl⟩ := hq
    show Go mX2_hasKnots (d + 1) false 0 0 13 [some (vR (pN p0.1)), some (vI a1), some (vI a2)] [vI x4] (wC cK cF ga gi gs oK cT ra rb cR cP cM ea eb cW aO aC aQ) _
    refine go_if_eq (pc := 13) 20 dX2_hasKnots_13 (by decide) (fun h6 => ?_) (fun h6 => ?_)
    · have hs := it_t h6 hs
      refine go_iconst (pc := 20) (0 : Int32) dX2_hasKnots_20 (by decide) ?_
      cases hs
      exact go_ireturn (st := []) (pc := 21) dX2_hasKnots_21 rfl rfl (fun h => by cases h) ⟨rfl, rfl⟩
    · have hs := it_f h6 hs
      refine go_iconst (pc := 16) (1 : Int32) dX2_hasKnots_16 (by decide) ?_
      refine go_goto (pc := 17) 21 dX2_hasKnots_17 (by decide) ?_
      cases hs
      exact go_ireturn (st := []) (pc := 21) dX2_hasKnots_21 rfl rfl (fun h => by cases h) ⟨rfl, rfl⟩
noncomputable def s_X2_hasUnlikeKnots (cK : (Nat → Int32)) (p0 : (Fin 5)) (a1 : Int32) (a2 : Int32) : Option (Int32) := (s_X2_hasKnots cK p0 a1 a2).bind (fun x1 => if x1 = 0 then (some (0 : Int32)) else (if a1 = a2 then (some (0 : Int32)) else (some (1 : Int32))))
set_option maxRecDepth 20000 in
theorem c_X2_hasUnlikeKnots {d : Nat}  {p0 : (Fin 5)} {a1 : Int32} {a2 : Int32} {res0 : Int32} (hs : s_X2_hasUnlikeKnots cK p0 a1 a2 = some res0) : Calls mX2_hasUnlikeKnots (d + 2) false 0 0 [vR (pN p0.1), vI a1, vI a2] (wC cK cF ga gi gs oK cT ra rb cR cP cM ea eb cW aO aC aQ) (fun r w' => r = some (vI res0) ∧ w' = (wC cK cF ga gi gs oK cT ra rb cR cP cM ea eb cW aO aC aQ)) := by
  unfold s_X2_hasUnlikeKnots at hs
  refine Calls.of kX2_hasUnlikeKnots 0 [some (vR (pN p0.1)), some (vI a1), some (vI a2)] rfl (Nat.le_of_ble_eq_true rfl) ?_
  refine go_aload_n (pc := 0) 0 dX2_hasUnlikeKnots_0 rfl rfl ?_
  refine go_iload_n (pc := 1) 1 dX2_hasUnlikeKnots_1 rfl rfl ?_
  refine go_iload_n (pc := 2) 2 dX2_hasUnlikeKnots_2 rfl rfl ?_
  obtain ⟨x1, hc2, hs⟩ := bnd hs
  refine go_callV (bc := 0) (bs := 0) (mc := 0) (ms := 0) (d := d + 1) (pc := 3) (a := (pN p0.1)) (ci := 2) [vI a1, vI a2] [] dX2_hasUnlikeKnots_3 kX2_hasKnots mlX2_23 ivX2_hasKnots rfl rfl (wC_net p0) rfl (Nat.le_of_ble_eq_true rfl) rfl (c_X2_hasKnots (d := d + 0) (res0 := x1) hc2) (fun r w' hq => ?_)
  obtain ⟨rfl, rfl⟩ := hq
  show Go mX2_hasUnlikeKnots (d + 2) false 0 0 6 [some (vR (pN p0.1)), some (vI a1), some (vI a2)] [vI x1] (wC cK cF ga gi gs oK cT ra rb cR cP cM ea eb cW aO aC aQ) _
  refine go_if_eq (pc := 6) 18 dX2_hasUnlikeKnots_6 (by decide) (fun h3 => ?_) (fun h3 => ?_)
  · have hs := it_t h3 hs
    refine go_iconst (pc := 18) (0 : Int32) dX2_hasUnlikeKnots_18 (by decide) ?_
    cases hs
    exact go_ireturn (st := []) (pc := 19) dX2_hasUnlikeKnots_19 rfl rfl (fun h => by cases h) ⟨rfl, rfl⟩
  · have hs := it_f h3 hs
    refine go_iload_n (pc := 9) 1 dX2_hasUnlikeKnots_9 rfl rfl ?_
    refine go_iload_n (pc := 10) 2 dX2_hasUnlikeKnots_10 rfl rfl ?_
    refine go_icmp_eq (pc := 11) 18 dX2_hasUnlikeKnots_11 (by decide) (fun h4 => ?_) (fun h4 => ?_)
    · have hs := it_t h4 hs
      refine go_iconst (pc := 18) (0 : Int32) dX2_hasUnlikeKnots_18 (by decide) ?_
      cases hs
      exact go_ireturn (st := []) (pc := 19) dX2_hasUnlikeKnots_19 rfl rfl (fun h => by cases h) ⟨rfl, rfl⟩
    · have hs := it_f h4 hs
      refine go_iconst (pc := 14) (1 : Int32) dX2_hasUnlikeKnots_14 (by decide) ?_
      refine go_goto (pc := 15) 19 dX2_hasUnlikeKnots_15 (by decide) ?_
      cases hs
      exact go_ireturn (st := []) (pc := 19) dX2_hasUnlikeKnots_19 rfl rfl (fun h => by cases h) ⟨rfl, rfl⟩
noncomputable def s_X2_hasSet (cK : (Nat → Int32)) (p0 : (Fin 5)) (a1 : Int32) : Option (Int32) := if a1 < 0 then (some (0 : Int32)) else (if (a1 >>> ((cK p0.1) &&& 31)) = 0 then (some (1 : Int32)) else (some (0 : Int32)))
set_option maxRecDepth 20000 in
theorem c_X2_hasSet {d : Nat}  {p0 : (Fin 5)} {a1 : Int32} {res0 : Int32} (hs : s_X2_hasSet cK p0 a1 = some res0) : Calls mX2_hasSet (d + 0) false 0 0 [vR (pN p0.1), vI a1] (wC cK cF ga gi gs oK cT ra rb cR cP cM ea eb cW aO aC aQ) (fun r w' => r = some (vI res0) ∧ w' = (wC cK cF ga gi gs oK cT ra rb cR cP cM ea eb cW aO aC aQ)) := by
  unfold s_X2_hasSet at hs
  refine Calls.of kX2_hasSet 0 [some (vR (pN p0.1)), some (vI a1)] rfl (Nat.le_of_ble_eq_true rfl) ?_
  refine go_iload_n (pc := 0) 1 dX2_hasSet_0 rfl rfl ?_
  refine go_if_lt (pc := 1) 17 dX2_hasSet_1 (by decide) (fun h1 => ?_) (fun h1 => ?_)
  · have hs := it_t h1 hs
    refine go_iconst (pc := 17) (0 : Int32) dX2_hasSet_17 (by decide) ?_
    cases hs
    exact go_ireturn (st := []) (pc := 18) dX2_hasSet_18 rfl rfl (fun h => by cases h) ⟨rfl, rfl⟩
  · have hs := it_f h1 hs
    refine go_iload_n (pc := 4) 1 dX2_hasSet_4 rfl rfl ?_
    refine go_aload_n (pc := 5) 0 dX2_hasSet_5 rfl rfl ?_
    refine go_getfield (pc := 6) (v := vI (cK p0.1)) (pN p0.1) 2 0 dX2_hasSet_6 flX2_9 (wC_net p0) rfl ?_
    refine go_ishr (pc := 9) dX2_hasSet_9 ?_
    refine go_if_ne (pc := 10) 17 dX2_hasSet_10 (by decide) (fun h2 => ?_) (fun h2 => ?_)
    · have hs := it_f h2 hs
      refine go_iconst (pc := 17) (0 : Int32) dX2_hasSet_17 (by decide) ?_
      cases hs
      exact go_ireturn (st := []) (pc := 18) dX2_hasSet_18 rfl rfl (fun h => by cases h) ⟨rfl, rfl⟩
    · have hs := it_t h2 hs
      refine go_iconst (pc := 13) (1 : Int32) dX2_hasSet_13 (by decide) ?_
      refine go_goto (pc := 14) 18 dX2_hasSet_14 (by decide) ?_
      cases hs
      exact go_ireturn (st := []) (pc := 18) dX2_hasSet_18 rfl rfl (fun h => by cases h) ⟨rfl, rfl⟩
end
