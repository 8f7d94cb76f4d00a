section
variable {cK : (Nat → Int32)} {cF : (Nat → Nat → Int32)} {ga : Int32} {gi : Int32} {gs : Int32} {oK : Int32} {cT : (Nat → Nat → Int32)} {ra : (Fin 2)} {rb : (Fin 2)} {cR : (Nat → Nat → Nat → Int64)} {cP : (Nat → Int64)} {cM : (Nat → Int64)} {ea : (Fin 2)} {eb : (Fin 2)} {cW : (Nat → Nat → Int64)} {aO : (Nat → Int32)} {aC : (Nat → Int32)} {aQ : (Nat → Int32)}
noncomputable def s_X2_degree (cF : (Nat → Nat → Int32)) (p0 : (Fin 5)) (a1 : Int32) : Option (Int32) := chk a1 10 ((s_J6_bitCount_0f7a4 (cF p0.1 a1.toNatClampNeg)).bind (fun x2 => some x2))
set_option maxRecDepth 20000 in
theorem c_X2_degree {d : Nat}  {p0 : (Fin 5)} {a1 : Int32} {res0 : Int32} (hs : s_X2_degree cF p0 a1 = some res0) : Calls mX2_degree (d + 1) false 0 0 [vR (pN p0.1), vI a1] (wC cK cF ga gi gs oK cT ra rb cR cP cM ea eb cW aO aC aQ) (fun r w' => r = some (vI res0) ∧ w' = (wC cK cF ga gi gs oK cT ra rb cR cP cM ea eb cW aO aC aQ)) := by
  unfold s_X2_degree at hs
  refine Calls.of kX2_degree 0 [some (vR (pN p0.1)), some (vI a1)] rfl (Nat.le_of_ble_eq_true rfl) ?_
  refine go_aload_n (pc := 0) 0 dX2_degree_0 rfl rfl ?_
  refine go_getfield (pc := 1) (v := vR (pN p0.1 + 1)) (pN p0.1) 2 1 dX2_degree_1 flX2_15 (wC_net p0) rfl ?_
  refine go_iload_n (pc := 4) 1 dX2_degree_4 rfl rfl ?_
  obtain ⟨hi1, hs⟩ := chk_t hs
  refine go_iaload (pc := 5) (pN p0.1 + 1) dX2_degree_5 (wC_bes p0) hi1 ?_
  obtain ⟨x2, hc3, hs⟩ := bnd hs
  refine go_callS (bc := 0) (bs := 0) (mc := 0) (ms := 0) (d := d + 0) (pc := 6) [vI (cF p0.1 a1.toNatClampNeg)] [] dX2_degree_6 kJ6_bitCount_0f7a4 mlX2_54 isJ6_bitCount_0f7a4 rfl (Nat.le_of_ble_eq_true rfl) rfl (c_J6_bitCount_0f7a4 (d := d + 0) (res0 := x2) hc3) (fun r w' hq => ?_)
  obtain ⟨rfl, rfl⟩ := hq
  show Go mX2_degree (d + 1) false 0 0 9 [some (vR (pN p0.1)), some (vI a1)] [vI x2] (wC cK cF ga gi gs oK cT ra rb cR cP cM ea eb cW aO aC aQ) _
  cases hs
  exact go_ireturn (st := []) (pc := 9) dX2_degree_9 rfl (vp_nar_int _) (fun h => by cases h) ⟨rfl, rfl⟩
noncomputable def b_X2_lineCount_4 (cK : (Nat → Int32)) (cF : (Nat → Nat → Int32)) (p0 : (Fin 5)) (x : Int32 × Int32) : Option ((Int32 × Int32) ⊕ (Int32)) := if (cK p0.1) ≤ x.2 then (some (Sum.inr x.1)) else ((s_X2_degree cF p0 x.2).bind (fun x2 => some (Sum.inl (x.1 + x2, x.2 + (1 : Int32)))))
noncomputable def s_X2_lineCount (cK : (Nat → Int32)) (cF : (Nat → Nat → Int32)) (p0 : (Fin 5)) : Option (Int32) := (loop (b_X2_lineCount_4 cK cF p0) ((0 : Int32), (0 : Int32))).bind (fun e4 => some (e4 / (2 : Int32)))
set_option maxRecDepth 20000 in
theorem g_X2_lineCount_4 {d : Nat} {p0 : (Fin 5)} {Q : Option AV → List AC → Prop}   (x0_ : Int32) (x1_ : Int32) (r : Int32) (hl : loop (b_X2_lineCount_4 cK cF p0) (x0_, x1_) = some r) (hk : Go mX2_lineCount (d + 2) false 0 0 26 [none, some (vI r), none] [] (wC cK cF ga gi gs oK cT ra rb cR cP cM ea eb cW aO aC aQ) Q) : Go mX2_lineCount (d + 2) false 0 0 4 [some (vR (pN p0.1)), some (vI x0_), some (vI x1_)] [] (wC cK cF ga gi gs oK cT ra rb cR cP cM ea eb cW aO aC aQ) Q := by
  refine loop_go (P := fun x : Int32 × Int32 => ∀ (x0_ : Int32) (x1_ : Int32), x = (x0_, x1_) → Go mX2_lineCount (d + 2) false 0 0 4 [some (vR (pN p0.1)), some (vI x0_), some (vI x1_)] [] (wC cK cF ga gi gs oK cT ra rb cR cP cM ea eb cW aO aC aQ) Q) (K := fun r : Int32 => Go mX2_lineCount (d + 2) false 0 0 26 [none, some (vI r), none] [] (wC cK cF ga gi gs oK cT ra rb cR cP cM ea eb cW aO aC aQ) Q) ?_ (x0_, x1_) r hl hk x0_ x1_ rfl
  · intro x y hs hI hE x0_ x1_ hx
    subst hx
    unfold b_X2_lineCount_4 at hs
    try dsimp only at hs
    refine go_iload_n (pc := 4) 2 dX2_lineCount_4 rfl rfl ?_
    refine go_aload_n (pc := 5) 0 dX2_lineCount_5 rfl rfl ?_
    refine go_getfield (pc := 6) (v := vI (cK p0.1)) (pN p0.1) 2 0 dX2_lineCount_6 flX2_9 (wC_net p0) rfl ?_
    refine go_icmp_ge (pc := 9) 26 dX2_lineCount_9 (by decide) (fun h1 => ?_) (fun h1 => ?_)
    · have hs := it_t h1 hs
      obtain rfl := Option.some.inj hs
      refine go_sub (lv' := [none, some (vI x0_), none]) ⟨rfl, trivial⟩ ?_
      exact hE x0_ rfl
    · have hs := it_f h1 hs
      refine go_iload_n (pc := 12) 1 dX2_lineCount_12 rfl rfl ?_
      refine go_aload_n (pc := 13) 0 dX2_lineCount_13 rfl rfl ?_
      refine go_iload_n (pc := 14) 2 dX2_lineCount_14 rfl rfl ?_
      obtain ⟨x2, hc3, hs⟩ := bnd hs
      refine go_callV (bc := 0) (bs := 0) (mc := 0) (ms := 0) (d := d + 1) (pc := 15) (a := (pN p0.1)) (ci := 2) [vI x1_] [vI x0_] dX2_lineCount_15 kX2_degree mlX2_60 ivX2_degree rfl rfl (wC_net p0) rfl (Nat.le_of_ble_eq_true rfl) rfl (c_X2_degree (d := d + 0) (res0 := x2) hc3) (fun r w' hq => ?_)
      obtain ⟨rfl, rfl⟩ := hq
      show Go mX2_lineCount (d + 2) false 0 0 18 [some (vR (pN p0.1)), some (vI x0_), some (vI x1_)] [vI x2, vI x0_] (wC cK cF ga gi gs oK cT ra rb cR cP cM ea eb cW aO aC aQ) Q
      refine go_iadd (pc := 18) dX2_lineCount_18 ?_
      refine go_istore_n (pc := 19) 1 [some (vR (pN p0.1)), some (vI (x0_ + x2)), some (vI x1_)] dX2_lineCount_19 rfl (by decide) rfl ?_
      refine go_iinc (pc := 20) (x1_ + (1 : Int32)) [some (vR (pN p0.1)), some (vI (x0_ + x2)), some (vI (x1_ + (1 : Int32)))] dX2_lineCount_20 rfl (iinc_1 _) (by decide) rfl ?_
      refine go_goto (pc := 23) 4 dX2_lineCount_23 (by decide) ?_
      obtain rfl := Option.some.inj hs
      exact hI (x0_ + x2, x1_ + (1 : Int32)) rfl (x0_ + x2) (x1_ + (1 : Int32)) rfl
set_option maxRecDepth 20000 in
theorem c_X2_lineCount {d : Nat}  {p0 : (Fin 5)} {res0 : Int32} (hs : s_X2_lineCount cK cF p0 = some res0) : Calls mX2_lineCount (d + 2) false 0 0 [vR (pN p0.1)] (wC cK cF ga gi gs oK cT ra rb cR cP cM ea eb cW aO aC aQ) (fun r w' => r = some (vI res0) ∧ w' = (wC cK cF ga gi gs oK cT ra rb cR cP cM ea eb cW aO aC aQ)) := by
  unfold s_X2_lineCount at hs
  refine Calls.of kX2_lineCount 2 [some (vR (pN p0.1)), none, none] rfl (Nat.le_of_ble_eq_true rfl) ?_
  refine go_iconst (pc := 0) (0 : Int32) dX2_lineCount_0 (by decide) ?_
  refine go_istore_n (pc := 1) 1 [some (vR (pN p0.1)), some (vI (0 : Int32)), none] dX2_lineCount_1 rfl (by decide) rfl ?_
  refine go_iconst (pc := 2) (0 : Int32) dX2_lineCount_2 (by decide) ?_
  refine go_istore_n (pc := 3) 2 [some (vR (pN p0.1)), some (vI (0 : Int32)), some (vI (0 : Int32))] dX2_lineCount_3 rfl (by decide) rfl ?_
  obtain ⟨e4, hl5, hs⟩ := bnd hs
  refine g_X2_lineCount_4 (d := d) (0 : Int32) (0 : Int32) e4 hl5 ?_
  refine go_iload_n (pc := 26) 1 dX2_lineCount_26 rfl rfl ?_
  refine go_iconst (pc := 27) (2 : Int32) dX2_lineCount_27 (by decide) ?_
  refine go_idiv (pc := 28) dX2_lineCount_28 (by decide) ?_
  cases hs
  exact go_ireturn (st := []) (pc := 29) dX2_lineCount_29 rfl (vp_nar_int _) (fun h => by cases h) ⟨rfl, rfl⟩
noncomputable def s_X2_hasWord (cK : (Nat → Int32)) (cF : (Nat → Nat → Int32)) (p0 : (Fin 5)) (a1 : Int64) : Option (Int32) := (s_X2_lineCount cK cF p0).bind (fun x1 => if (lg_cmp ((a1.toUInt64 >>> (x1.toInt64.toUInt64 &&& Int64.toUInt64 63)).toInt64) (0 : Int64)) = 0 then (some (1 : Int32)) else (some (0 : Int32)))
set_option maxRecDepth 20000 in
theorem c_X2_hasWord {d : Nat}  {p0 : (Fin 5)} {a1 : Int64} {res0 : Int32} (hs : s_X2_hasWord cK cF p0 a1 = some res0) : Calls mX2_hasWord (d + 3) false 0 0 [vR (pN p0.1), vL a1] (wC cK cF ga gi gs oK cT ra rb cR cP cM ea eb cW aO aC aQ) (fun r w' => r = some (vI res0) ∧ w' = (wC cK cF ga gi gs oK cT ra rb cR cP cM ea eb cW aO aC aQ)) := by
  unfold s_X2_hasWord at hs
  refine Calls.of kX2_hasWord 0 [some (vR (pN p0.1)), some (vL a1), none] rfl (Nat.le_of_ble_eq_true rfl) ?_
  refine go_lload_n (pc := 0) 1 dX2_hasWord_0 rfl rfl ?_
  refine go_aload_n (pc := 1) 0 dX2_hasWord_1 rfl rfl ?_
  obtain ⟨x1, hc2, hs⟩ := bnd hs
  refine go_callV (bc := 0) (bs := 0) (mc := 0) (ms := 0) (d := d + 2) (pc := 2) (a := (pN p0.1)) (ci := 2) [] [vL a1] dX2_hasWord_2 kX2_lineCount mlX2_27 ivX2_lineCount rfl rfl (wC_net p0) rfl (Nat.le_of_ble_eq_true rfl) rfl (c_X2_lineCount (d := d + 0) (res0 := x1) hc2) (fun r w' hq => ?_)
  obtain ⟨rfl, rfl⟩ := hq
  show Go mX2_hasWord (d + 3) false 0 0 5 [some (vR (pN p0.1)), some (vL a1), none] [vI x1, vL a1] (wC cK cF ga gi gs oK cT ra rb cR cP cM ea eb cW aO aC aQ) _
  refine go_lushr (pc := 5) dX2_hasWord_5 ?_
  refine go_lconst (pc := 6) (0 : Int64) dX2_hasWord_6 (by decide) ?_
  refine go_lcmp (pc := 7) dX2_hasWord_7 ?_
  refine go_if_ne (pc := 8) 15 dX2_hasWord_8 (by decide) (fun h3 => ?_) (fun h3 => ?_)
  · have hs := it_f h3 hs
    refine go_iconst (pc := 15) (0 : Int32) dX2_hasWord_15 (by decide) ?_
    cases hs
    exact go_ireturn (st := []) (pc := 16) dX2_hasWord_16 rfl rfl (fun h => by cases h) ⟨rfl, rfl⟩
  · have hs := it_t h3 hs
    refine go_iconst (pc := 11) (1 : Int32) dX2_hasWord_11 (by decide) ?_
    refine go_goto (pc := 12) 16 dX2_hasWord_12 (by decide) ?_
    cases hs
    exact go_ireturn (st := []) (pc := 16) dX2_hasWord_16 rfl rfl (fun h => by cases h) ⟨rfl, rfl⟩
noncomputable def s_X2_joins (cF : (Nat → Nat → Int32)) (p0 : (Fin 5)) (a1 : Int32) (a2 : Int32) : Option (Int32) := chk a1 10 (if (((cF p0.1 a1.toNatClampNeg) >>> (a2 &&& 31)) &&& (1 : Int32)) = (1 : Int32) then (some (1 : Int32)) else (some (0 : Int32)))
set_option maxRecDepth 20000 in
theorem c_X2_joins {d : Nat}  {p0 : (Fin 5)} {a1 : Int32} {a2 : Int32} {res0 : Int32} (hs : s_X2_joins cF p0 a1 a2 = some res0) : Calls mX2_joins (d + 0) false 0 0 [vR (pN p0.1), vI a1, vI a2] (wC cK cF ga gi gs oK cT ra rb cR cP cM ea eb cW aO aC aQ) (fun r w' => r = some (vI res0) ∧ w' = (wC cK cF ga gi gs oK cT ra rb cR cP cM ea eb cW aO aC aQ)) := by
  unfold s_X2_joins at hs
  refine Calls.of kX2_joins 0 [some (vR (pN p0.1)), some (vI a1), some (vI a2)] rfl (Nat.le_of_ble_eq_true rfl) ?_
  refine go_aload_n (pc := 0) 0 dX2_joins_0 rfl rfl ?_
  refine go_getfield (pc := 1) (v := vR (pN p0.1 + 1)) (pN p0.1) 2 1 dX2_joins_1 flX2_15 (wC_net p0) rfl ?_
  refine go_iload_n (pc := 4) 1 dX2_joins_4 rfl rfl ?_
  obtain ⟨hi1, hs⟩ := chk_t hs
  refine go_iaload (pc := 5) (pN p0.1 + 1) dX2_joins_5 (wC_bes p0) hi1 ?_
  refine go_iload_n (pc := 6) 2 dX2_joins_6 rfl rfl ?_
  refine go_ishr (pc := 7) dX2_joins_7 ?_
  refine go_iconst (pc := 8) (1 : Int32) dX2_joins_8 (by decide) ?_
  refine go_iand (pc := 9) dX2_joins_9 ?_
  refine go_iconst (pc := 10) (1 : Int32) dX2_joins_10 (by decide) ?_
  refine go_icmp_ne (pc := 11) 18 dX2_joins_11 (by decide) (fun h2 => ?_) (fun h2 => ?_)
  · have hs := it_f h2 hs
    refine go_iconst (pc := 18) (0 : Int32) dX2_joins_18 (by decide) ?_
    cases hs
    exact go_ireturn (st := []) (pc := 19) dX2_joins_19 rfl rfl (fun h => by cases h) ⟨rfl, rfl⟩
  · have hs := it_t h2 hs
    refine go_iconst (pc := 14) (1 : Int32) dX2_joins_14 (by decide) ?_
    refine go_goto (pc := 15) 19 dX2_joins_15 (by decide) ?_
    cases hs
    exact go_ireturn (st := []) (pc := 19) dX2_joins_19 rfl rfl (fun h => by cases h) ⟨rfl, rfl⟩
noncomputable def s_X2_startWith (cK : (Nat → Int32)) (cF : (Nat → Nat → Int32)) (p0 : (Fin 5)) (a1 : Int32) : Option ((Nat → Int32) × (Nat → Nat → Int32)) := some (va_up cK p0.1 a1, va_up cF p0.1 (fillI 10 (cF p0.1) (0 : Int32)))
set_option maxRecDepth 20000 in
theorem c_X2_startWith {d : Nat}  {p0 : (Fin 5)} {a1 : Int32} {res0 : (Nat → Int32)} {res1 : (Nat → Nat → Int32)} (hs : s_X2_startWith cK cF p0 a1 = some (res0, res1)) : Calls mX2_startWith (d + 1) false 0 0 [vR (pN p0.1), vI a1] (wC cK cF ga gi gs oK cT ra rb cR cP cM ea eb cW aO aC aQ) (fun r w' => r = none ∧ w' = (wC res0 res1 ga gi gs oK cT ra rb cR cP cM ea eb cW aO aC aQ)) := by
  unfold s_X2_startWith at hs
  refine Calls.of kX2_startWith 0 [some (vR (pN p0.1)), some (vI a1)] rfl (Nat.le_of_ble_eq_true rfl) ?_
  refine go_aload_n (pc := 0) 0 dX2_startWith_0 rfl rfl ?_
  refine go_iload_n (pc := 1) 1 dX2_startWith_1 rfl rfl ?_
  refine go_putI (pc := 2) (pN p0.1) 2 0 dX2_startWith_2 fpX2_9 (wC_net p0) (Nat.le_of_ble_eq_true rfl) (go_w (wC_snet p0) (show Go mX2_startWith (d + 1) false 0 0 5 [some (vR (pN p0.1)), some (vI a1)] [] (wC (va_up cK p0.1 a1) cF ga gi gs oK cT ra rb cR cP cM ea eb cW aO aC aQ) _ from ?_))
  refine go_aload_n (pc := 5) 0 dX2_startWith_5 rfl rfl ?_
  refine go_getfield (pc := 6) (v := vR (pN p0.1 + 1)) (pN p0.1) 2 1 dX2_startWith_6 flX2_15 (wC_net p0) rfl ?_
  refine go_iconst (pc := 9) (0 : Int32) dX2_startWith_9 (by decide) ?_
  refine go_callS (bc := 0) (bs := 0) (mc := 0) (ms := 0) (d := d + 0) (pc := 10) [vR (pN p0.1 + 1), vI (0 : Int32)] [] dX2_startWith_10 kJ7_fill_53178 mlX2_31 isJ7_fill_53178 rfl (Nat.le_of_ble_eq_true rfl) rfl (c_fillI (d := d + 0) (wC_bes p0) (by decide)) (fun r w' hq => ?_)
  obtain ⟨rfl, rfl⟩ := hq
  refine go_w (wC_sbes p0) ?_
  show Go mX2_startWith (d + 1) false 0 0 13 [some (vR (pN p0.1)), some (vI a1)] [] (wC (va_up cK p0.1 a1) (va_up cF p0.1 (fillI 10 (cF p0.1) (0 : Int32))) ga gi gs oK cT ra rb cR cP cM ea eb cW aO aC aQ) _
  cases hs
  exact go_return (st := []) (pc := 13) dX2_startWith_13 rfl (fun h => by cases h) ⟨rfl, rfl⟩
noncomputable def s_X2_join (cF : (Nat → Nat → Int32)) (p0 : (Fin 5)) (a1 : Int32) (a2 : Int32) : Option ((Nat → Nat → Int32)) := chk a1 10 (chk a1 10 (chk a2 10 (chk a2 10 (some (va_up (va_up cF p0.1 (upd (cF p0.1) a1.toNatClampNeg ((cF p0.1 a1.toNatClampNeg) ||| ((1 : Int32) <<< (a2 &&& 31))))) p0.1 (upd ((va_up cF p0.1 (upd (cF p0.1) a1.toNatClampNeg ((cF p0.1 a1.toNatClampNeg) ||| ((1 : Int32) <<< (a2 &&& 31))))) p0.1) a2.toNatClampNeg (((va_up cF p0.1 (upd (cF p0.1) a1.toNatClampNeg ((cF p0.1 a1.toNatClampNeg) ||| ((1 : Int32) <<< (a2 &&& 31))))) p0.1 a2.toNatClampNeg) ||| ((1 : Int32) <<< (a1 &&& 31)))))))))
set_option maxRecDepth 20000 in
theorem c_X2_join {d : Nat}  {p0 : (Fin 5)} {a1 : Int32} {a2 : Int32} {res0 : (Nat → Nat → Int32)} (hs : s_X2_join cF p0 a1 a2 = some res0) : Calls mX2_join (d + 0) false 0 0 [vR (pN p0.1), vI a1, vI a2] (wC cK cF ga gi gs oK cT ra rb cR cP cM ea eb cW aO aC aQ) (fun r w' => r = none ∧ w' = (wC cK res0 ga gi gs oK cT ra rb cR cP cM ea eb cW aO aC aQ)) := by
  unfold s_X2_join at hs
  refine Calls.of kX2_join 0 [some (vR (pN p0.1)), some (vI a1), some (vI a2)] rfl (Nat.le_of_ble_eq_true rfl) ?_
  refine go_aload_n (pc := 0) 0 dX2_join_0 rfl rfl ?_
  refine go_getfield (pc := 1) (v := vR (pN p0.1 + 1)) (pN p0.1) 2 1 dX2_join_1 flX2_15 (wC_net p0) rfl ?_
  refine go_iload_n (pc := 4) 1 dX2_join_4 rfl rfl ?_
  refine go_dup2 (pc := 5) dX2_join_5 rfl rfl ?_
  obtain ⟨hi1, hs⟩ := chk_t hs
  refine go_iaload (pc := 6) (pN p0.1 + 1) dX2_join_6 (wC_bes p0) hi1 ?_
  refine go_iconst (pc := 7) (1 : Int32) dX2_join_7 (by decide) ?_
  refine go_iload_n (pc := 8) 2 dX2_join_8 rfl rfl ?_
  refine go_ishl (pc := 9) dX2_join_9 ?_
  refine go_ior (pc := 10) dX2_join_10 ?_
  obtain ⟨hi2, hs⟩ := chk_t hs
  refine go_iastore (pc := 11) (pN p0.1 + 1) dX2_join_11 (wC_bes p0) hi2 (go_w (wC_sbes p0) (show Go mX2_join (d + 0) false 0 0 12 [some (vR (pN p0.1)), some (vI a1), some (vI a2)] [] (wC cK (va_up cF p0.1 (upd (cF p0.1) a1.toNatClampNeg ((cF p0.1 a1.toNatClampNeg) ||| ((1 : Int32) <<< (a2 &&& 31))))) ga gi gs oK cT ra rb cR cP cM ea eb cW aO aC aQ) _ from ?_))
  refine go_aload_n (pc := 12) 0 dX2_join_12 rfl rfl ?_
  refine go_getfield (pc := 13) (v := vR (pN p0.1 + 1)) (pN p0.1) 2 1 dX2_join_13 flX2_15 (wC_net p0) rfl ?_
  refine go_iload_n (pc := 16) 2 dX2_join_16 rfl rfl ?_
  refine go_dup2 (pc := 17) dX2_join_17 rfl rfl ?_
  obtain ⟨hi3, hs⟩ := chk_t hs
  refine go_iaload (pc := 18) (pN p0.1 + 1) dX2_join_18 (wC_bes p0) hi3 ?_
  refine go_iconst (pc := 19) (1 : Int32) dX2_join_19 (by decide) ?_
  refine go_iload_n (pc := 20) 1 dX2_join_20 rfl rfl ?_
  refine go_ishl (pc := 21) dX2_join_21 ?_
  refine go_ior (pc := 22) dX2_join_22 ?_
  obtain ⟨hi4, hs⟩ := chk_t hs
  refine go_iastore (pc := 23) (pN p0.1 + 1) dX2_join_23 (wC_bes p0) hi4 (go_w (wC_sbes p0) (show Go mX2_join (d + 0) false 0 0 24 [some (vR (pN p0.1)), some (vI a1), some (vI a2)] [] (wC cK (va_up (va_up cF p0.1 (upd (cF p0.1) a1.toNatClampNeg ((cF p0.1 a1.toNatClampNeg) ||| ((1 : Int32) <<< (a2 &&& 31))))) p0.1 (upd ((va_up cF p0.1 (upd (cF p0.1) a1.toNatClampNeg ((cF p0.1 a1.toNatClampNeg) ||| ((1 : Int32) <<< (a2 &&& 31))))) p0.1) a2.toNatClampNeg (((va_up cF p0.1 (upd (cF p0.1) a1.toNatClampNeg ((cF p0.1 a1.toNatClampNeg) ||| ((1 : Int32) <<< (a2 &&& 31))))) p0.1 a2.toNatClampNeg) ||| ((1 : Int32) <<< (a1 &&& 31))))) ga gi gs oK cT ra rb cR cP cM ea eb cW aO aC aQ) _ from ?_))
  cases hs
  exact go_return (st := []) (pc := 24) dX2_join_24 rfl (fun h => by cases h) ⟨rfl, rfl⟩
noncomputable def s_X2_change (cF : (Nat → Nat → Int32)) (p0 : (Fin 5)) (a1 : Int32) (a2 : Int32) : Option ((Nat → Nat → Int32)) := chk a1 10 (chk a1 10 (chk a2 10 (chk a2 10 (some (va_up (va_up cF p0.1 (upd (cF p0.1) a1.toNatClampNeg ((cF p0.1 a1.toNatClampNeg) ^^^ ((1 : Int32) <<< (a2 &&& 31))))) p0.1 (upd ((va_up cF p0.1 (upd (cF p0.1) a1.toNatClampNeg ((cF p0.1 a1.toNatClampNeg) ^^^ ((1 : Int32) <<< (a2 &&& 31))))) p0.1) a2.toNatClampNeg (((va_up cF p0.1 (upd (cF p0.1) a1.toNatClampNeg ((cF p0.1 a1.toNatClampNeg) ^^^ ((1 : Int32) <<< (a2 &&& 31))))) p0.1 a2.toNatClampNeg) ^^^ ((1 : Int32) <<< (a1 &&& 31)))))))))
set_option maxRecDepth 20000 in
theorem c_X2_change {d : Nat}  {p0 : (Fin 5)} {a1 : Int32} {a2 : Int32} {res0 : (Nat → Nat → Int32)} (hs : s_X2_change cF p0 a1 a2 = some res0) : Calls mX2_change (d + 0) false 0 0 [vR (pN p0.1), vI a1, vI a2] (wC cK cF ga gi gs oK cT ra rb cR cP cM ea eb cW aO aC aQ) (fun r w' => r = none ∧ w' = (wC cK res0 ga gi gs oK cT ra rb cR cP cM ea eb cW aO aC aQ)) := by
  unfold s_X2_change at hs
  refine Calls.of kX2_change 0 [some (vR (pN p0.1)), some (vI a1), some (vI a2)] rfl (Nat.le_of_ble_eq_true rfl) ?_
  refine go_aload_n (pc := 0) 0 dX2_change_0 rfl rfl ?_
  refine go_getfield (pc := 1) (v := vR (pN p0.1 + 1)) (pN p0.1) 2 1 dX2_change_1 flX2_15 (wC_net p0) rfl ?_
  refine go_iload_n (pc := 4) 1 dX2_change_4 rfl rfl ?_
  refine go_dup2 (pc := 5) dX2_change_5 rfl rfl ?_
  obtain ⟨hi1, hs⟩ := chk_t hs
  refine go_iaload (pc := 6) (pN p0.1 + 1) dX2_change_6 (wC_bes p0) hi1 ?_
  refine go_iconst (pc := 7) (1 : Int32) dX2_change_7 (by decide) ?_
  refine go_iload_n (pc := 8) 2 dX2_change_8 rfl rfl ?_
  refine go_ishl (pc := 9) dX2_change_9 ?_
  refine go_ixor (pc := 10) dX2_change_10 ?_
  obtain ⟨hi2, hs⟩ := chk_t hs
  refine go_iastore (pc := 11) (pN p0.1 + 1) dX2_change_11 (wC_bes p0) hi2 (go_w (wC_sbes p0) (show Go mX2_change (d + 0) false 0 0 12 [some (vR (pN p0.1)), some (vI a1), some (vI a2)] [] (wC cK (va_up cF p0.1 (upd (cF p0.1) a1.toNatClampNeg ((cF p0.1 a1.toNatClampNeg) ^^^ ((1 : Int32) <<< (a2 &&& 31))))) ga gi gs oK cT ra rb cR cP cM ea eb cW aO aC aQ) _ from ?_))
  refine go_aload_n (pc := 12) 0 dX2_change_12 rfl rfl ?_
  refine go_getfield (pc := 13) (v := vR (pN p0.1 + 1)) (pN p0.1) 2 1 dX2_change_13 flX2_15 (wC_net p0) rfl ?_
  refine go_iload_n (pc := 16) 2 dX2_change_16 rfl rfl ?_
  refine go_dup2 (pc := 17) dX2_change_17 rfl rfl ?_
  obtain ⟨hi3, hs⟩ := chk_t hs
  refine go_iaload (pc := 18) (pN p0.1 + 1) dX2_change_18 (wC_bes p0) hi3 ?_
  refine go_iconst (pc := 19) (1 : Int32) dX2_change_19 (by decide) ?_
  refine go_iload_n (pc := 20) 1 dX2_change_20 rfl rfl ?_
  refine go_ishl (pc := 21) dX2_change_21 ?_
  refine go_ixor (pc := 22) dX2_change_22 ?_
  obtain ⟨hi4, hs⟩ := chk_t hs
  refine go_iastore (pc := 23) (pN p0.1 + 1) dX2_change_23 (wC_bes p0) hi4 (go_w (wC_sbes p0) (show Go mX2_change (d + 0) false 0 0 24 [some (vR (pN p0.1)), some (vI a1), some (vI a2)] [] (wC cK (va_up (va_up cF p0.1 (upd (cF p0.1) a1.toNatClampNeg ((cF p0.1 a1.toNatClampNeg) ^^^ ((1 : Int32) <<< (a2 &&& 31))))) p0.1 (upd ((va_up cF p0.1 (upd (cF p0.1) a1.toNatClampNeg ((cF p0.1 a1.toNatClampNeg) ^^^ ((1 : Int32) <<< (a2 &&& 31))))) p0.1) a2.toNatClampNeg (((va_up cF p0.1 (upd (cF p0.1) a1.toNatClampNeg ((cF p0.1 a1.toNatClampNeg) ^^^ ((1 : Int32) <<< (a2 &&& 31))))) p0.1 a2.toNatClampNeg) ^^^ ((1 : Int32) <<< (a1 &&& 31))))) ga gi gs oK cT ra rb cR cP cM ea eb cW aO aC aQ) _ from ?_))
  cases hs
  exact go_return (st := []) (pc := 24) dX2_change_24 rfl (fun h => by cases h) ⟨rfl, rfl⟩
noncomputable def s_X2_becomeCopy (cK : (Nat → Int32)) (cF : (Nat → Nat → Int32)) (p0 : (Fin 5)) (p1 : (Fin 5)) : Option ((Nat → Int32) × (Nat → Nat → Int32)) := cpk (0 : Int32) (0 : Int32) (10 : Int32) 10 10 (some (va_up cK p0.1 (cK p1.1), va_up cF p0.1 (va_cpy (cF p1.1) (cF p0.1) (0 : Int32).toNatClampNeg (0 : Int32).toNatClampNeg (10 : Int32).toNatClampNeg)))
set_option maxRecDepth 20000 in
theorem c_X2_becomeCopy {d : Nat}  {p0 : (Fin 5)} {p1 : (Fin 5)} {res0 : (Nat → Int32)} {res1 : (Nat → Nat → Int32)} (hs : s_X2_becomeCopy cK cF p0 p1 = some (res0, res1)) : Calls mX2_becomeCopy (d + 1) false 0 0 [vR (pN p0.1), vR (pN p1.1)] (wC cK cF ga gi gs oK cT ra rb cR cP cM ea eb cW aO aC aQ) (fun r w' => r = none ∧ w' = (wC res0 res1 ga gi gs oK cT ra rb cR cP cM ea eb cW aO aC aQ)) := by
  unfold s_X2_becomeCopy at hs
  refine Calls.of kX2_becomeCopy 0 [some (vR (pN p0.1)), some (vR (pN p1.1))] rfl (Nat.le_of_ble_eq_true rfl) ?_
  refine go_aload_n (pc := 0) 0 dX2_becomeCopy_0 rfl rfl ?_
  refine go_aload_n (pc := 1) 1 dX2_becomeCopy_1 rfl rfl ?_
  refine go_getfield (pc := 2) (v := vI (cK p1.1)) (pN p1.1) 2 0 dX2_becomeCopy_2 flX2_9 (wC_net p1) rfl ?_
  refine go_putI (pc := 5) (pN p0.1) 2 0 dX2_becomeCopy_5 fpX2_9 (wC_net p0) (Nat.le_of_ble_eq_true rfl) (go_w (wC_snet p0) (show Go mX2_becomeCopy (d + 1) false 0 0 8 [some (vR (pN p0.1)), some (vR (pN p1.1))] [] (wC (va_up cK p0.1 (cK p1.1)) cF ga gi gs oK cT ra rb cR cP cM ea eb cW aO aC aQ) _ from ?_))
  refine go_aload_n (pc := 8) 1 dX2_becomeCopy_8 rfl rfl ?_
  refine go_getfield (pc := 9) (v := vR (pN p1.1 + 1)) (pN p1.1) 2 1 dX2_becomeCopy_9 flX2_15 (wC_net p1) rfl ?_
  refine go_iconst (pc := 12) (0 : Int32) dX2_becomeCopy_12 (by decide) ?_
  refine go_aload_n (pc := 13) 0 dX2_becomeCopy_13 rfl rfl ?_
  refine go_getfield (pc := 14) (v := vR (pN p0.1 + 1)) (pN p0.1) 2 1 dX2_becomeCopy_14 flX2_15 (wC_net p0) rfl ?_
  refine go_iconst (pc := 17) (0 : Int32) dX2_becomeCopy_17 (by decide) ?_
  refine go_bipush (pc := 18) (10 : Int32) dX2_becomeCopy_18 (by decide) ?_
  obtain ⟨hk1, hs⟩ := cpk_t hs
  refine go_copyi (d := d + 0) (pc := 20) (pN p1.1 + 1) (pN p0.1 + 1) dX2_becomeCopy_20 mlX2_37 (wC_bes p1) (wC_bes p0) hk1.1 hk1.2.1 hk1.2.2.1 hk1.2.2.2.1 hk1.2.2.2.2 (Nat.le_of_ble_eq_true rfl) (go_w (wC_sbes p0) (show Go mX2_becomeCopy (d + 1) false 0 0 23 [some (vR (pN p0.1)), some (vR (pN p1.1))] [] (wC (va_up cK p0.1 (cK p1.1)) (va_up cF p0.1 (va_cpy (cF p1.1) (cF p0.1) (0 : Int32).toNatClampNeg (0 : Int32).toNatClampNeg (10 : Int32).toNatClampNeg)) ga gi gs oK cT ra rb cR cP cM ea eb cW aO aC aQ) _ from ?_))
  cases hs
  exact go_return (st := []) (pc := 23) dX2_becomeCopy_23 rfl (fun h => by cases h) ⟨rfl, rfl⟩
noncomputable def b_X2_becomeRing_30 (p0 : (Fin 5)) (y1 : Int32) (y3 : Int32) (x : Int32 × (Nat → Nat → Int32)) : Option ((Int32 × (Nat → Nat → Int32)) ⊕ ((Nat → Nat → Int32))) := if y1 ≤ x.1 then (some (Sum.inr x.2)) else (nez y1 ((s_X2_join x.2 p0 x.1 ((x.1 + y3) - (x.1 + y3) / y1 * y1)).bind (fun x7 => some (Sum.inl (x.1 + (1 : Int32), x7)))))
noncomputable def b_X2_becomeRing_7 (p0 : (Fin 5)) (y1 : Int32) (y2 : Int32) (x : Int32 × (Nat → Nat → Int32)) : Option ((Int32 × (Nat → Nat → Int32)) ⊕ ((Nat → Nat → Int32))) := if (y1 / (2 : Int32)) < x.1 then (some (Sum.inr x.2)) else (if ((y2 >>> ((x.1 - (1 : Int32)) &&& 31)) &&& (1 : Int32)) = 0 then (some (Sum.inl (x.1 + (1 : Int32), x.2))) else ((loop (b_X2_becomeRing_30 p0 y1 x.1) ((0 : Int32), x.2)).bind (fun e9 => some (Sum.inl (x.1 + (1 : Int32), e9)))))
noncomputable def s_X2_becomeRing (cK : (Nat → Int32)) (cF : (Nat → Nat → Int32)) (p0 : (Fin 5)) (a1 : Int32) (a2 : Int32) : Option ((Nat → Int32) × (Nat → Nat → Int32)) := (s_X2_startWith cK cF p0 a1).bind (fun x1 => (loop (b_X2_becomeRing_7 p0 a1 a2) ((1 : Int32), x1.2)).bind (fun e12 => some (x1.1, e12)))
set_option maxRecDepth 20000 in
theorem g_X2_becomeRing_30 {d : Nat} {p0 : (Fin 5)} {Q : Option AV → List AC → Prop} {y1 : Int32} {y2 : Int32} {y3 : Int32}  (x0_ : Int32) (x1_ : (Nat → Nat → Int32)) (r : (Nat → Nat → Int32)) (hl : loop (b_X2_becomeRing_30 p0 y1 y3) (x0_, x1_) = some r) (hk : Go mX2_becomeRing (d + 2) false 0 0 54 [some (vR (pN p0.1)), some (vI y1), some (vI y2), some (vI y3), none] [] (wC cK r ga gi gs oK cT ra rb cR cP cM ea eb cW aO aC aQ) Q) : Go mX2_becomeRing (d + 2) false 0 0 30 [some (vR (pN p0.1)), some (vI y1), some (vI y2), some (vI y3), some (vI x0_)] [] (wC cK x1_ ga gi gs oK cT ra rb cR cP cM ea eb cW aO aC aQ) Q := by
  refine loop_go (P := fun x : Int32 × (Nat → Nat → Int32) => ∀ (x0_ : Int32) (x1_ : (Nat → Nat → Int32)), x = (x0_, x1_) → Go mX2_becomeRing (d + 2) false 0 0 30 [some (vR (pN p0.1)), some (vI y1), some (vI y2), some (vI y3), some (vI x0_)] [] (wC cK x1_ ga gi gs oK cT ra rb cR cP cM ea eb cW aO aC aQ) Q) (K := fun r : (Nat → Nat → Int32) => Go mX2_becomeRing (d + 2) false 0 0 54 [some (vR (pN p0.1)), some (vI y1), some (vI y2), some (vI y3), none] [] (wC cK r ga gi gs oK cT ra rb cR cP cM ea eb cW aO aC aQ) Q) ?_ (x0_, x1_) r hl hk x0_ x1_ rfl
  · intro x y hs hI hE x0_ x1_ hx
    subst hx
    unfold b_X2_becomeRing_30 at hs
    try dsimp only at hs
    refine go_iload (pc := 30) dX2_becomeRing_30 rfl ?_
    refine go_iload_n (pc := 32) 1 dX2_becomeRing_32 rfl rfl ?_
    refine go_icmp_ge (pc := 33) 54 dX2_becomeRing_33 (by decide) (fun h5 => ?_) (fun h5 => ?_)
    · have hs := it_t h5 hs
      obtain rfl := Option.some.inj hs
      refine go_sub (lv' := [some (vR (pN p0.1)), some (vI y1), some (vI y2), some (vI y3), none]) ⟨rfl, ⟨rfl, ⟨rfl, ⟨rfl, trivial⟩⟩⟩⟩ ?_
      exact hE x1_ rfl
    · have hs := it_f h5 hs
      refine go_aload_n (pc := 36) 0 dX2_becomeRing_36 rfl rfl ?_
      refine go_iload (pc := 37) dX2_becomeRing_37 rfl ?_
      refine go_iload (pc := 39) dX2_becomeRing_39 rfl ?_
      refine go_iload_n (pc := 41) 3 dX2_becomeRing_41 rfl rfl ?_
      refine go_iadd (pc := 42) dX2_becomeRing_42 ?_
      refine go_iload_n (pc := 43) 1 dX2_becomeRing_43 rfl rfl ?_
      obtain ⟨hn6, hs⟩ := nez_t hs
      refine go_irem (pc := 44) dX2_becomeRing_44 hn6 ?_
      obtain ⟨x7, hc8, hs⟩ := bnd hs
      refine go_callV (bc := 0) (bs := 0) (mc := 0) (ms := 0) (d := d + 1) (pc := 45) (a := (pN p0.1)) (ci := 2) [vI x0_, vI ((x0_ + y3) - (x0_ + y3) / y1 * y1)] [] dX2_becomeRing_45 kX2_join mlX2_47 ivX2_join rfl rfl (wC_net p0) rfl (Nat.le_of_ble_eq_true rfl) rfl (c_X2_join (d := d + 1) (res0 := x7) hc8) (fun r w' hq => ?_)
      obtain ⟨rfl, rfl⟩ := hq
      show Go mX2_becomeRing (d + 2) false 0 0 48 [some (vR (pN p0.1)), some (vI y1), some (vI y2), some (vI y3), some (vI x0_)] [] (wC cK x7 ga gi gs oK cT ra rb cR cP cM ea eb cW aO aC aQ) Q
      refine go_iinc (pc := 48) (x0_ + (1 : Int32)) [some (vR (pN p0.1)), some (vI y1), some (vI y2), some (vI y3), some (vI (x0_ + (1 : Int32)))] dX2_becomeRing_48 rfl (iinc_1 _) (by decide) rfl ?_
      refine go_goto (pc := 51) 30 dX2_becomeRing_51 (by decide) ?_
      obtain rfl := Option.some.inj hs
      exact hI (x0_ + (1 : Int32), x7) rfl (x0_ + (1 : Int32)) x7 rfl
set_option maxRecDepth 20000 in
theorem g_X2_becomeRing_7 {d : Nat} {p0 : (Fin 5)} {Q : Option AV → List AC → Prop} {y1 : Int32} {y2 : Int32}  (x0_ : Int32) (x1_ : (Nat → Nat → Int32)) (r : (Nat → Nat → Int32)) (hl : loop (b_X2_becomeRing_7 p0 y1 y2) (x0_, x1_) = some r) (hk : Go mX2_becomeRing (d + 2) false 0 0 60 [none, none, none, none, none] [] (wC cK r ga gi gs oK cT ra rb cR cP cM ea eb cW aO aC aQ) Q) : Go mX2_becomeRing (d + 2) false 0 0 7 [some (vR (pN p0.1)), some (vI y1), some (vI y2), some (vI x0_), none] [] (wC cK x1_ ga gi gs oK cT ra rb cR cP cM ea eb cW aO aC aQ) Q := by
  refine loop_go (P := fun x : Int32 × (Nat → Nat → Int32) => ∀ (x0_ : Int32) (x1_ : (Nat → Nat → Int32)), x = (x0_, x1_) → Go mX2_becomeRing (d + 2) false 0 0 7 [some (vR (pN p0.1)), some (vI y1), some (vI y2), some (vI x0_), none] [] (wC cK x1_ ga gi gs oK cT ra rb cR cP cM ea eb cW aO aC aQ) Q) (K := fun r : (Nat → Nat → Int32) => Go mX2_becomeRing (d + 2) false 0 0 60 [none, none, none, none, none] [] (wC cK r ga gi gs oK cT ra rb cR cP cM ea eb cW aO aC aQ) Q) ?_ (x0_, x1_) r hl hk x0_ x1_ rfl
  · intro x y hs hI hE x0_ x1_ hx
    subst hx
    unfold b_X2_becomeRing_7 at hs
    try dsimp only at hs
    refine go_iload_n (pc := 7) 3 dX2_becomeRing_7 rfl rfl ?_
    refine go_iload_n (pc := 8) 1 dX2_becomeRing_8 rfl rfl ?_
    refine go_iconst (pc := 9) (2 : Int32) dX2_becomeRing_9 (by decide) ?_
    refine go_idiv (pc := 10) dX2_becomeRing_10 (by decide) ?_
    refine go_icmp_gt (pc := 11) 60 dX2_becomeRing_11 (by decide) (fun h3 => ?_) (fun h3 => ?_)
    · have hs := it_t h3 hs
      obtain rfl := Option.some.inj hs
      refine go_sub (lv' := [none, none, none, none, none]) trivial ?_
      exact hE x1_ rfl
    · have hs := it_f h3 hs
      refine go_iload_n (pc := 14) 2 dX2_becomeRing_14 rfl rfl ?_
      refine go_iload_n (pc := 15) 3 dX2_becomeRing_15 rfl rfl ?_
      refine go_iconst (pc := 16) (1 : Int32) dX2_becomeRing_16 (by decide) ?_
      refine go_isub (pc := 17) dX2_becomeRing_17 ?_
      refine go_ishr (pc := 18) dX2_becomeRing_18 ?_
      refine go_iconst (pc := 19) (1 : Int32) dX2_becomeRing_19 (by decide) ?_
      refine go_iand (pc := 20) dX2_becomeRing_20 ?_
      refine go_if_ne (pc := 21) 27 dX2_becomeRing_21 (by decide) (fun h4 => ?_) (fun h4 => ?_)
      · have hs := it_f h4 hs
        refine go_iconst (pc := 27) (0 : Int32) dX2_becomeRing_27 (by decide) ?_
        refine go_istore (pc := 28) [some (vR (pN p0.1)), some (vI y1), some (vI y2), some (vI x0_), some (vI (0 : Int32))] dX2_becomeRing_28 (by decide) rfl ?_
        obtain ⟨e9, hl10, hs⟩ := bnd hs
        refine g_X2_becomeRing_30 (d := d) (0 : Int32) x1_ e9 hl10 ?_
        refine go_iinc (pc := 54) (x0_ + (1 : Int32)) [some (vR (pN p0.1)), some (vI y1), some (vI y2), some (vI (x0_ + (1 : Int32))), none] dX2_becomeRing_54 rfl (iinc_1 _) (by decide) rfl ?_
        refine go_goto (pc := 57) 7 dX2_becomeRing_57 (by decide) ?_
        obtain rfl := Option.some.inj hs
        exact hI (x0_ + (1 : Int32), e9) rfl (x0_ + (1 : Int32)) e9 rfl
      · have hs := it_t h4 hs
        refine go_goto (pc := 24) 54 dX2_becomeRing_24 (by decide) ?_
        refine go_iinc (pc := 54) (x0_ + (1 : Int32)) [some (vR (pN p0.1)), some (vI y1), some (vI y2), some (vI (x0_ + (1 : Int32))), none] dX2_becomeRing_54 rfl (iinc_1 _) (by decide) rfl ?_
        refine go_goto (pc := 57) 7 dX2_becomeRing_57 (by decide) ?_
        obtain rfl := Option.some.inj hs
        exact hI (x0_ + (1 : Int32), x1_) rfl (x0_ + (1 : Int32)) x1_ rfl
set_option maxRecDepth 20000 in
theorem c_X2_becomeRing {d : Nat}  {p0 : (Fin 5)} {a1 : Int32} {a2 : Int32} {res0 : (Nat → Int32)} {res1 : (Nat → Nat → Int32)} (hs : s_X2_becomeRing cK cF p0 a1 a2 = some (res0, res1)) : Calls mX2_becomeRing (d + 2) false 0 0 [vR (pN p0.1), vI a1, vI a2] (wC cK cF ga gi gs oK cT ra rb cR cP cM ea eb cW aO aC aQ) (fun r w' => r = none ∧ w' = (wC res0 res1 ga gi gs oK cT ra rb cR cP cM ea eb cW aO aC aQ)) := by
  unfold s_X2_becomeRing at hs
  refine Calls.of kX2_becomeRing 2 [some (vR (pN p0.1)), some (vI a1), some (vI a2), none, none] rfl (Nat.le_of_ble_eq_true rfl) ?_
  refine go_aload_n (pc := 0) 0 dX2_becomeRing_0 rfl rfl ?_
  refine go_iload_n (pc := 1) 1 dX2_becomeRing_1 rfl rfl ?_
  obtain ⟨x1, hc2, hs⟩ := bnd hs
  refine go_callV (bc := 0) (bs := 0) (mc := 0) (ms := 0) (d := d + 1) (pc := 2) (a := (pN p0.1)) (ci := 2) [vI a1] [] dX2_becomeRing_2 kX2_startWith mlX2_43 ivX2_startWith rfl rfl (wC_net p0) rfl (Nat.le_of_ble_eq_true rfl) rfl (c_X2_startWith (d := d + 0) (res0 := x1.1) (res1 := x1.2) hc2) (fun r w' hq => ?_)
  obtain ⟨rfl, rfl⟩ := hq
  show Go mX2_becomeRing (d + 2) false 0 0 5 [some (vR (pN p0.1)), some (vI a1), some (vI a2), none, none] [] (wC x1.1 x1.2 ga gi gs oK cT ra rb cR cP cM ea eb cW aO aC aQ) _
  refine go_iconst (pc := 5) (1 : Int32) dX2_becomeRing_5 (by decide) ?_
  refine go_istore_n (pc := 6) 3 [some (vR (pN p0.1)), some (vI a1), some (vI a2), some (vI (1 : Int32)), none] dX2_becomeRing_6 rfl (by decide) rfl ?_
  obtain ⟨e12, hl13, hs⟩ := bnd hs
  refine g_X2_becomeRing_7 (d := d) (1 : Int32) x1.2 e12 hl13 ?_
  cases hs
  exact go_return (st := []) (pc := 60) dX2_becomeRing_60 rfl (fun h => by cases h) ⟨rfl, rfl⟩
noncomputable def b_X2_becomeProduct_67 (cK : (Nat → Int32)) (p0 : (Fin 5)) (p1 : (Fin 5)) (y3 : Int32) (y4 : Int32) (y5 : Int32) (y6 : Int32) (x : Int32 × (Nat → Nat → Int32)) : Option ((Int32 × (Nat → Nat → Int32)) ⊕ ((Nat → Nat → Int32))) := if (cK p1.1) ≤ x.1 then (some (Sum.inr x.2)) else ((s_X2_joins x.2 p1 y4 x.1).bind (fun x8 => if x8 = 0 then (some (Sum.inl (x.1 + (1 : Int32), x.2))) else (chk y6 10 (chk y6 10 (some (Sum.inl (x.1 + (1 : Int32), va_up x.2 p0.1 (upd (x.2 p0.1) y6.toNatClampNeg ((x.2 p0.1 y6.toNatClampNeg) ||| ((1 : Int32) <<< (((y3 * x.1) + y5) &&& 31)))))))))))
noncomputable def b_X2_becomeProduct_30 (cK : (Nat → Int32)) (p0 : (Fin 5)) (p1 : (Fin 5)) (p2 : (Fin 5)) (y3 : Int32) (y4 : Int32) (x : Int32 × (Nat → Nat → Int32)) : Option ((Int32 × (Nat → Nat → Int32)) ⊕ ((Nat → Nat → Int32))) := if y3 ≤ x.1 then (some (Sum.inr x.2)) else (chk x.1 10 (chk ((y3 * y4) + x.1) 10 ((loop (b_X2_becomeProduct_67 cK p0 p1 y3 y4 x.1 ((y3 * y4) + x.1)) ((0 : Int32), va_up x.2 p0.1 (upd (x.2 p0.1) ((y3 * y4) + x.1).toNatClampNeg ((x.2 p2.1 x.1.toNatClampNeg) <<< ((y3 * y4) &&& 31))))).bind (fun e13 => some (Sum.inl (x.1 + (1 : Int32), e13))))))
noncomputable def b_X2_becomeProduct_18 (cK : (Nat → Int32)) (p0 : (Fin 5)) (p1 : (Fin 5)) (p2 : (Fin 5)) (y3 : Int32) (x : Int32 × (Nat → Nat → Int32)) : Option ((Int32 × (Nat → Nat → Int32)) ⊕ ((Nat → Nat → Int32))) := if (cK p1.1) ≤ x.1 then (some (Sum.inr x.2)) else ((loop (b_X2_becomeProduct_30 cK p0 p1 p2 y3 x.1) ((0 : Int32), x.2)).bind (fun e16 => some (Sum.inl (x.1 + (1 : Int32), e16))))
noncomputable def s_X2_becomeProduct (cK : (Nat → Int32)) (cF : (Nat → Nat → Int32)) (p0 : (Fin 5)) (p1 : (Fin 5)) (p2 : (Fin 5)) : Option ((Nat → Int32) × (Nat → Nat → Int32)) := (s_X2_startWith cK cF p0 ((cK p1.1) * (cK p2.1))).bind (fun x1 => (loop (b_X2_becomeProduct_18 x1.1 p0 p1 p2 (cK p2.1)) ((0 : Int32), x1.2)).bind (fun e19 => some (x1.1, e19)))
set_option maxRecDepth 20000 in
theorem g_X2_becomeProduct_67 {d : Nat} {p0 : (Fin 5)} {p1 : (Fin 5)} {p2 : (Fin 5)} {Q : Option AV → List AC → Prop} {y3 : Int32} {y4 : Int32} {y5 : Int32} {y6 : Int32}  (x0_ : Int32) (x1_ : (Nat → Nat → Int32)) (r : (Nat → Nat → Int32)) (hl : loop (b_X2_becomeProduct_67 cK p0 p1 y3 y4 y5 y6) (x0_, x1_) = some r) (hk : Go mX2_becomeProduct (d + 2) false 0 0 112 [some (vR (pN p0.1)), some (vR (pN p1.1)), some (vR (pN p2.1)), some (vI y3), some (vI y4), some (vI y5), none, none] [] (wC cK r ga gi gs oK cT ra rb cR cP cM ea eb cW aO aC aQ) Q) : Go mX2_becomeProduct (d + 2) false 0 0 67 [some (vR (pN p0.1)), some (vR (pN p1.1)), some (vR (pN p2.1)), some (vI y3), some (vI y4), some (vI y5), some (vI y6), some (vI x0_)] [] (wC cK x1_ ga gi gs oK cT ra rb cR cP cM ea eb cW aO aC aQ) Q := by
  refine loop_go (P := fun x : Int32 × (Nat → Nat → Int32) => ∀ (x0_ : Int32) (x1_ : (Nat → Nat → Int32)), x = (x0_, x1_) → Go mX2_becomeProduct (d + 2) false 0 0 67 [some (vR (pN p0.1)), some (vR (pN p1.1)), some (vR (pN p2.1)), some (vI y3), some (vI y4), some (vI y5), some (vI y6), some (vI x0_)] [] (wC cK x1_ ga gi gs oK cT ra rb cR cP cM ea eb cW aO aC aQ) Q) (K := fun r : (Nat → Nat → Int32) => Go mX2_becomeProduct (d + 2) false 0 0 112 [some (vR (pN p0.1)), some (vR (pN p1.1)), some (vR (pN p2.1)), some (vI y3), some (vI y4), some (vI y5), none, none] [] (wC cK r ga gi gs oK cT ra rb cR cP cM ea eb cW aO aC aQ) Q) ?_ (x0_, x1_) r hl hk x0_ x1_ rfl
  · intro x y hs hI hE x0_ x1_ hx
    subst hx
    unfold b_X2_becomeProduct_67 at hs
    try dsimp only at hs
    refine go_iload (pc := 67) dX2_becomeProduct_67 rfl ?_
    refine go_aload_n (pc := 69) 1 dX2_becomeProduct_69 rfl rfl ?_
    refine go_getfield (pc := 70) (v := vI (cK p1.1)) (pN p1.1) 2 0 dX2_becomeProduct_70 flX2_9 (wC_net p1) rfl ?_
    refine go_icmp_ge (pc := 73) 112 dX2_becomeProduct_73 (by decide) (fun h7 => ?_) (fun h7 => ?_)
    · have hs := it_t h7 hs
      obtain rfl := Option.some.inj hs
      refine go_sub (lv' := [some (vR (pN p0.1)), some (vR (pN p1.1)), some (vR (pN p2.1)), some (vI y3), some (vI y4), some (vI y5), none, none]) ⟨rfl, ⟨rfl, ⟨rfl, ⟨rfl, ⟨rfl, ⟨rfl, trivial⟩⟩⟩⟩⟩⟩ ?_
      exact hE x1_ rfl
    · have hs := it_f h7 hs
      refine go_aload_n (pc := 76) 1 dX2_becomeProduct_76 rfl rfl ?_
      refine go_iload (pc := 77) dX2_becomeProduct_77 rfl ?_
      refine go_iload (pc := 79) dX2_becomeProduct_79 rfl ?_
      obtain ⟨x8, hc9, hs⟩ := bnd hs
      refine go_callV (bc := 0) (bs := 0) (mc := 0) (ms := 0) (d := d + 1) (pc := 81) (a := (pN p1.1)) (ci := 2) [vI y4, vI x0_] [] dX2_becomeProduct_81 kX2_joins mlX2_51 ivX2_joins rfl rfl (wC_net p1) rfl (Nat.le_of_ble_eq_true rfl) rfl (c_X2_joins (d := d + 1) (res0 := x8) hc9) (fun r w' hq => ?_)
      obtain ⟨rfl, rfl⟩ := hq
      show Go mX2_becomeProduct (d + 2) false 0 0 84 [some (vR (pN p0.1)), some (vR (pN p1.1)), some (vR (pN p2.1)), some (vI y3), some (vI y4), some (vI y5), some (vI y6), some (vI x0_)] [vI x8] (wC cK x1_ ga gi gs oK cT ra rb cR cP cM ea eb cW aO aC aQ) Q
      refine go_if_eq (pc := 84) 106 dX2_becomeProduct_84 (by decide) (fun h10 => ?_) (fun h10 => ?_)
      · have hs := it_t h10 hs
        refine go_iinc (pc := 106) (x0_ + (1 : Int32)) [some (vR (pN p0.1)), some (vR (pN p1.1)), some (vR (pN p2.1)), some (vI y3), some (vI y4), some (vI y5), some (vI y6), some (vI (x0_ + (1 : Int32)))] dX2_becomeProduct_106 rfl (iinc_1 _) (by decide) rfl ?_
        refine go_goto (pc := 109) 67 dX2_becomeProduct_109 (by decide) ?_
        obtain rfl := Option.some.inj hs
        exact hI (x0_ + (1 : Int32), x1_) rfl (x0_ + (1 : Int32)) x1_ rfl
      · have hs := it_f h10 hs
        refine go_aload_n (pc := 87) 0 dX2_becomeProduct_87 rfl rfl ?_
        refine go_getfield (pc := 88) (v := vR (pN p0.1 + 1)) (pN p0.1) 2 1 dX2_becomeProduct_88 flX2_15 (wC_net p0) rfl ?_
        refine go_iload (pc := 91) dX2_becomeProduct_91 rfl ?_
        refine go_dup2 (pc := 93) dX2_becomeProduct_93 rfl rfl ?_
        obtain ⟨hi11, hs⟩ := chk_t hs
        refine go_iaload (pc := 94) (pN p0.1 + 1) dX2_becomeProduct_94 (wC_bes p0) hi11 ?_
        refine go_iconst (pc := 95) (1 : Int32) dX2_becomeProduct_95 (by decide) ?_
        refine go_iload_n (pc := 96) 3 dX2_becomeProduct_96 rfl rfl ?_
        refine go_iload (pc := 97) dX2_becomeProduct_97 rfl ?_
        refine go_imul (pc := 99) dX2_becomeProduct_99 ?_
        refine go_iload (pc := 100) dX2_becomeProduct_100 rfl ?_
        refine go_iadd (pc := 102) dX2_becomeProduct_102 ?_
        refine go_ishl (pc := 103) dX2_becomeProduct_103 ?_
        refine go_ior (pc := 104) dX2_becomeProduct_104 ?_
        obtain ⟨hi12, hs⟩ := chk_t hs
        refine go_iastore (pc := 105) (pN p0.1 + 1) dX2_becomeProduct_105 (wC_bes p0) hi12 (go_w (wC_sbes p0) (show Go mX2_becomeProduct (d + 2) false 0 0 106 [some (vR (pN p0.1)), some (vR (pN p1.1)), some (vR (pN p2.1)), some (vI y3), some (vI y4), some (vI y5), some (vI y6), some (vI x0_)] [] (wC cK (va_up x1_ p0.1 (upd (x1_ p0.1) y6.toNatClampNeg ((x1_ p0.1 y6.toNatClampNeg) ||| ((1 : Int32) <<< (((y3 * x0_) + y5) &&& 31))))) ga gi gs oK cT ra rb cR cP cM ea eb cW aO aC aQ) Q from ?_))
        refine go_iinc (pc := 106) (x0_ + (1 : Int32)) [some (vR (pN p0.1)), some (vR (pN p1.1)), some (vR (pN p2.1)), some (vI y3), some (vI y4), some (vI y5), some (vI y6), some (vI (x0_ + (1 : Int32)))] dX2_becomeProduct_106 rfl (iinc_1 _) (by decide) rfl ?_
        refine go_goto (pc := 109) 67 dX2_becomeProduct_109 (by decide) ?_
        obtain rfl := Option.some.inj hs
        exact hI (x0_ + (1 : Int32), va_up x1_ p0.1 (upd (x1_ p0.1) y6.toNatClampNeg ((x1_ p0.1 y6.toNatClampNeg) ||| ((1 : Int32) <<< (((y3 * x0_) + y5) &&& 31))))) rfl (x0_ + (1 : Int32)) (va_up x1_ p0.1 (upd (x1_ p0.1) y6.toNatClampNeg ((x1_ p0.1 y6.toNatClampNeg) ||| ((1 : Int32) <<< (((y3 * x0_) + y5) &&& 31))))) rfl
set_option maxRecDepth 20000 in
theorem g_X2_becomeProduct_30 {d : Nat} {p0 : (Fin 5)} {p1 : (Fin 5)} {p2 : (Fin 5)} {Q : Option AV → List AC → Prop} {y3 : Int32} {y4 : Int32}  (x0_ : Int32) (x1_ : (Nat → Nat → Int32)) (r : (Nat → Nat → Int32)) (hl : loop (b_X2_becomeProduct_30 cK p0 p1 p2 y3 y4) (x0_, x1_) = some r) (hk : Go mX2_becomeProduct (d + 2) false 0 0 118 [some (vR (pN p0.1)), some (vR (pN p1.1)), some (vR (pN p2.1)), some (vI y3), some (vI y4), none, none, none] [] (wC cK r ga gi gs oK cT ra rb cR cP cM ea eb cW aO aC aQ) Q) : Go mX2_becomeProduct (d + 2) false 0 0 30 [some (vR (pN p0.1)), some (vR (pN p1.1)), some (vR (pN p2.1)), some (vI y3), some (vI y4), some (vI x0_), none, none] [] (wC cK x1_ ga gi gs oK cT ra rb cR cP cM ea eb cW aO aC aQ) Q := by
  refine loop_go (P := fun x : Int32 × (Nat → Nat → Int32) => ∀ (x0_ : Int32) (x1_ : (Nat → Nat → Int32)), x = (x0_, x1_) → Go mX2_becomeProduct (d + 2) false 0 0 30 [some (vR (pN p0.1)), some (vR (pN p1.1)), some (vR (pN p2.1)), some (vI y3), some (vI y4), some (vI x0_), none, none] [] (wC cK x1_ ga gi gs oK cT ra rb cR cP cM ea eb cW aO aC aQ) Q) (K := fun r : (Nat → Nat → Int32) => Go mX2_becomeProduct (d + 2) false 0 0 118 [some (vR (pN p0.1)), some (vR (pN p1.1)), some (vR (pN p2.1)), some (vI y3), some (vI y4), none, none, none] [] (wC cK r ga gi gs oK cT ra rb cR cP cM ea eb cW aO aC aQ) Q) ?_ (x0_, x1_) r hl hk x0_ x1_ rfl
  · intro x y hs hI hE x0_ x1_ hx
    subst hx
    unfold b_X2_becomeProduct_30 at hs
    try dsimp only at hs
    refine go_iload (pc := 30) dX2_becomeProduct_30 rfl ?_
    refine go_iload_n (pc := 32) 3 dX2_becomeProduct_32 rfl rfl ?_
    refine go_icmp_ge (pc := 33) 118 dX2_becomeProduct_33 (by decide) (fun h4 => ?_) (fun h4 => ?_)
    · have hs := it_t h4 hs
      obtain rfl := Option.some.inj hs
      refine go_sub (lv' := [some (vR (pN p0.1)), some (vR (pN p1.1)), some (vR (pN p2.1)), some (vI y3), some (vI y4), none, none, none]) ⟨rfl, ⟨rfl, ⟨rfl, ⟨rfl, ⟨rfl, trivial⟩⟩⟩⟩⟩ ?_
      exact hE x1_ rfl
    · have hs := it_f h4 hs
      refine go_iload_n (pc := 36) 3 dX2_becomeProduct_36 rfl rfl ?_
      refine go_iload (pc := 37) dX2_becomeProduct_37 rfl ?_
      refine go_imul (pc := 39) dX2_becomeProduct_39 ?_
      refine go_iload (pc := 40) dX2_becomeProduct_40 rfl ?_
      refine go_iadd (pc := 42) dX2_becomeProduct_42 ?_
      refine go_istore (pc := 43) [some (vR (pN p0.1)), some (vR (pN p1.1)), some (vR (pN p2.1)), some (vI y3), some (vI y4), some (vI x0_), some (vI ((y3 * y4) + x0_)), none] dX2_becomeProduct_43 (by decide) rfl ?_
      refine go_aload_n (pc := 45) 0 dX2_becomeProduct_45 rfl rfl ?_
      refine go_getfield (pc := 46) (v := vR (pN p0.1 + 1)) (pN p0.1) 2 1 dX2_becomeProduct_46 flX2_15 (wC_net p0) rfl ?_
      refine go_iload (pc := 49) dX2_becomeProduct_49 rfl ?_
      refine go_aload_n (pc := 51) 2 dX2_becomeProduct_51 rfl rfl ?_
      refine go_getfield (pc := 52) (v := vR (pN p2.1 + 1)) (pN p2.1) 2 1 dX2_becomeProduct_52 flX2_15 (wC_net p2) rfl ?_
      refine go_iload (pc := 55) dX2_becomeProduct_55 rfl ?_
      obtain ⟨hi5, hs⟩ := chk_t hs
      refine go_iaload (pc := 57) (pN p2.1 + 1) dX2_becomeProduct_57 (wC_bes p2) hi5 ?_
      refine go_iload_n (pc := 58) 3 dX2_becomeProduct_58 rfl rfl ?_
      refine go_iload (pc := 59) dX2_becomeProduct_59 rfl ?_
      refine go_imul (pc := 61) dX2_becomeProduct_61 ?_
      refine go_ishl (pc := 62) dX2_becomeProduct_62 ?_
      obtain ⟨hi6, hs⟩ := chk_t hs
      refine go_iastore (pc := 63) (pN p0.1 + 1) dX2_becomeProduct_63 (wC_bes p0) hi6 (go_w (wC_sbes p0) (show Go mX2_becomeProduct (d + 2) false 0 0 64 [some (vR (pN p0.1)), some (vR (pN p1.1)), some (vR (pN p2.1)), some (vI y3), some (vI y4), some (vI x0_), some (vI ((y3 * y4) + x0_)), none] [] (wC cK (va_up x1_ p0.1 (upd (x1_ p0.1) ((y3 * y4) + x0_).toNatClampNeg ((x1_ p2.1 x0_.toNatClampNeg) <<< ((y3 * y4) &&& 31)))) ga gi gs oK cT ra rb cR cP cM ea eb cW aO aC aQ) Q from ?_))
      refine go_iconst (pc := 64) (0 : Int32) dX2_becomeProduct_64 (by decide) ?_
      refine go_istore (pc := 65) [some (vR (pN p0.1)), some (vR (pN p1.1)), some (vR (pN p2.1)), some (vI y3), some (vI y4), some (vI x0_), some (vI ((y3 * y4) + x0_)), some (vI (0 : Int32))] dX2_becomeProduct_65 (by decide) rfl ?_
      obtain ⟨e13, hl14, hs⟩ := bnd hs
      refine g_X2_becomeProduct_67 (d := d) (0 : Int32) (va_up x1_ p0.1 (upd (x1_ p0.1) ((y3 * y4) + x0_).toNatClampNeg ((x1_ p2.1 x0_.toNatClampNeg) <<< ((y3 * y4) &&& 31)))) e13 hl14 ?_
      refine go_iinc (pc := 112) (x0_ + (1 : Int32)) [some (vR (pN p0.1)), some (vR (pN p1.1)), some (vR (pN p2.1)), some (vI y3), some (vI y4), some (vI (x0_ + (1 : Int32))), none, none] dX2_becomeProduct_112 rfl (iinc_1 _) (by decide) rfl ?_
      refine go_goto (pc := 115) 30 dX2_becomeProduct_115 (by decide) ?_
      obtain rfl := Option.some.inj hs
      exact hI (x0_ + (1 : Int32), e13) rfl (x0_ + (1 : Int32)) e13 rfl
set_option maxRecDepth 20000 in
theorem g_X2_becomeProduct_18 {d : Nat} {p0 : (Fin 5)} {p1 : (Fin 5)} {p2 : (Fin 5)} {Q : Option AV → List AC → Prop} {y3 : Int32}  (x0_ : Int32) (x1_ : (Nat → Nat → Int32)) (r : (Nat → Nat → Int32)) (hl : loop (b_X2_becomeProduct_18 cK p0 p1 p2 y3) (x0_, x1_) = some r) (hk : Go mX2_becomeProduct (d + 2) false 0 0 124 [none, none, none, none, none, none, none, none] [] (wC cK r ga gi gs oK cT ra rb cR cP cM ea eb cW aO aC aQ) Q) : Go mX2_becomeProduct (d + 2) false 0 0 18 [some (vR (pN p0.1)), some (vR (pN p1.1)), some (vR (pN p2.1)), some (vI y3), some (vI x0_), none, none, none] [] (wC cK x1_ ga gi gs oK cT ra rb cR cP cM ea eb cW aO aC aQ) Q := by
  refine loop_go (P := fun x : Int32 × (Nat → Nat → Int32) => ∀ (x0_ : Int32) (x1_ : (Nat → Nat → Int32)), x = (x0_, x1_) → Go mX2_becomeProduct (d + 2) false 0 0 18 [some (vR (pN p0.1)), some (vR (pN p1.1)), some (vR (pN p2.1)), some (vI y3), some (vI x0_), none, none, none] [] (wC cK x1_ ga gi gs oK cT ra rb cR cP cM ea eb cW aO aC aQ) Q) (K := fun r : (Nat → Nat → Int32) => Go mX2_becomeProduct (d + 2) false 0 0 124 [none, none, none, none, none, none, none, none] [] (wC cK r ga gi gs oK cT ra rb cR cP cM ea eb cW aO aC aQ) Q) ?_ (x0_, x1_) r hl hk x0_ x1_ rfl
  · intro x y hs hI hE x0_ x1_ hx
    subst hx
    unfold b_X2_becomeProduct_18 at hs
    try dsimp only at hs
    refine go_iload (pc := 18) dX2_becomeProduct_18 rfl ?_
    refine go_aload_n (pc := 20) 1 dX2_becomeProduct_20 rfl rfl ?_
    refine go_getfield (pc := 21) (v := vI (cK p1.1)) (pN p1.1) 2 0 dX2_becomeProduct_21 flX2_9 (wC_net p1) rfl ?_
    refine go_icmp_ge (pc := 24) 124 dX2_becomeProduct_24 (by decide) (fun h3 => ?_) (fun h3 => ?_)
    · have hs := it_t h3 hs
      obtain rfl := Option.some.inj hs
      refine go_sub (lv' := [none, none, none, none, none, none, none, none]) trivial ?_
      exact hE x1_ rfl
    · have hs := it_f h3 hs
      refine go_iconst (pc := 27) (0 : Int32) dX2_becomeProduct_27 (by decide) ?_
      refine go_istore (pc := 28) [some (vR (pN p0.1)), some (vR (pN p1.1)), some (vR (pN p2.1)), some (vI y3), some (vI x0_), some (vI (0 : Int32)), none, none] dX2_becomeProduct_28 (by decide) rfl ?_
      obtain ⟨e16, hl17, hs⟩ := bnd hs
      refine g_X2_becomeProduct_30 (d := d) (0 : Int32) x1_ e16 hl17 ?_
      refine go_iinc (pc := 118) (x0_ + (1 : Int32)) [some (vR (pN p0.1)), some (vR (pN p1.1)), some (vR (pN p2.1)), some (vI y3), some (vI (x0_ + (1 : Int32))), none, none, none] dX2_becomeProduct_118 rfl (iinc_1 _) (by decide) rfl ?_
      refine go_goto (pc := 121) 18 dX2_becomeProduct_121 (by decide) ?_
      obtain rfl := Option.some.inj hs
      exact hI (x0_ + (1 : Int32), e16) rfl (x0_ + (1 : Int32)) e16 rfl
set_option maxRecDepth 20000 in
theorem c_X2_becomeProduct {d : Nat}  {p0 : (Fin 5)} {p1 : (Fin 5)} {p2 : (Fin 5)} {res0 : (Nat → Int32)} {res1 : (Nat → Nat → Int32)} (hs : s_X2_becomeProduct cK cF p0 p1 p2 = some (res0, res1)) : Calls mX2_becomeProduct (d + 2) false 0 0 [vR (pN p0.1), vR (pN p1.1), vR (pN p2.1)] (wC cK cF ga gi gs oK cT ra rb cR cP cM ea eb cW aO aC aQ) (fun r w' => r = none ∧ w' = (wC res0 res1 ga gi gs oK cT ra rb cR cP cM ea eb cW aO aC aQ)) := by
  unfold s_X2_becomeProduct at hs
  refine Calls.of kX2_becomeProduct 5 [some (vR (pN p0.1)), some (vR (pN p1.1)), some (vR (pN p2.1)), none, none, none, none, none] rfl (Nat.le_of_ble_eq_true rfl) ?_
  refine go_aload_n (pc := 0) 2 dX2_becomeProduct_0 rfl rfl ?_
  refine go_getfield (pc := 1) (v := vI (cK p2.1)) (pN p2.1) 2 0 dX2_becomeProduct_1 flX2_9 (wC_net p2) rfl ?_
  refine go_istore_n (pc := 4) 3 [some (vR (pN p0.1)), some (vR (pN p1.1)), some (vR (pN p2.1)), some (vI (cK p2.1)), none, none, none, none] dX2_becomeProduct_4 rfl (by decide) rfl ?_
  refine go_aload_n (pc := 5) 0 dX2_becomeProduct_5 rfl rfl ?_
  refine go_aload_n (pc := 6) 1 dX2_becomeProduct_6 rfl rfl ?_
  refine go_getfield (pc := 7) (v := vI (cK p1.1)) (pN p1.1) 2 0 dX2_becomeProduct_7 flX2_9 (wC_net p1) rfl ?_
  refine go_iload_n (pc := 10) 3 dX2_becomeProduct_10 rfl rfl ?_
  refine go_imul (pc := 11) dX2_becomeProduct_11 ?_
  obtain ⟨x1, hc2, hs⟩ := bnd hs
  refine go_callV (bc := 0) (bs := 0) (mc := 0) (ms := 0) (d := d + 1) (pc := 12) (a := (pN p0.1)) (ci := 2) [vI ((cK p1.1) * (cK p2.1))] [] dX2_becomeProduct_12 kX2_startWith mlX2_43 ivX2_startWith rfl rfl (wC_net p0) rfl (Nat.le_of_ble_eq_true rfl) rfl (c_X2_startWith (d := d + 0) (res0 := x1.1) (res1 := x1.2) hc2) (fun r w' hq => ?_)
  obtain ⟨rfl, rfl⟩ := hq
  show Go mX2_becomeProduct (d + 2) false 0 0 15 [some (vR (pN p0.1)), some (vR (pN p1.1)), some (vR (pN p2.1)), some (vI (cK p2.1)), none, none, none, none] [] (wC x1.1 x1.2 ga gi gs oK cT ra rb cR cP cM ea eb cW aO aC aQ) _
  refine go_iconst (pc := 15) (0 : Int32) dX2_becomeProduct_15 (by decide) ?_
  refine go_istore (pc := 16) [some (vR (pN p0.1)), some (vR (pN p1.1)), some (vR (pN p2.1)), some (vI (cK p2.1)), some (vI (0 : Int32)), none, none, none] dX2_becomeProduct_16 (by decide) rfl ?_
  obtain ⟨e19, hl20, hs⟩ := bnd hs
  refine g_X2_becomeProduct_18 (d := d) (0 : Int32) x1.2 e19 hl20 ?_
  cases hs
  exact go_return (st := []) (pc := 124) dX2_becomeProduct_124 rfl (fun h => by cases h) ⟨rfl, rfl⟩
end
