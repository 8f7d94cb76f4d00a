section
variable {cK : (Nat → Int32)} {cF : (Nat → Nat → Int32)} {ga : Int32} {gi : Int32} {gs : Int32} {oK : Int32} {cT : (Nat → Nat → Int32)} {ra : (Fin 2)} {rb : (Fin 2)} {cR : (Nat → Nat → Nat → Int64)} {cP : (Nat → Int64)} {cM : (Nat → Int64)} {ea : (Fin 2)} {eb : (Fin 2)} {cW : (Nat → Nat → Int64)} {aO : (Nat → Int32)} {aC : (Nat → Int32)} {aQ : (Nat → Int32)}
noncomputable def b_X4_walk_18 (cK : (Nat → Int32)) (cF : (Nat → Nat → Int32)) (p1 : (Fin 5)) (y3 : Int32) (x : Int32 × (Fin 2) × (Fin 2) × (Nat → Nat → Int64)) : Option ((Int32 × (Fin 2) × (Fin 2) × (Nat → Nat → Int64)) ⊕ ((Fin 2) × (Fin 2) × (Nat → Nat → Int64))) := if y3 ≤ x.1 then (some (Sum.inr (x.2.1, x.2.2.1, x.2.2.2))) else ((s_X4_step cK cF x.2.2.1 x.2.1 x.2.2.2 p1).bind (fun x3 => some (Sum.inl (x.1 + (1 : Int32), x.2.2.1, x.2.1, x3))))
noncomputable def s_X4_walk (cK : (Nat → Int32)) (cF : (Nat → Nat → Int32)) (ea : (Fin 2)) (eb : (Fin 2)) (cW : (Nat → Nat → Int64)) (p1 : (Fin 5)) (a2 : Int32) (a3 : Int32) : Option ((Fin 2) × (Fin 2) × (Nat → Nat → Int64)) := chk a2 10 ((loop (b_X4_walk_18 cK cF p1 a3) ((0 : Int32), ea, eb, va_up (va_up cW ea.1 (fillJ 10 (cW ea.1) (0 : Int64))) ea.1 (vp_updL ((va_up cW ea.1 (fillJ 10 (cW ea.1) (0 : Int64))) ea.1) a2.toNatClampNeg (1 : Int64)))).bind (fun e5 => some (e5.1, e5.2.1, e5.2.2)))
set_option maxRecDepth 20000 in
theorem g_X4_walk_18 {d : Nat} {p1 : (Fin 5)} {Q : Option AV → List AC → Prop} {y3 : Int32}  (x0_ : Int32) (x1_ : (Fin 2)) (x2_ : (Fin 2)) (x3_ : (Nat → Nat → Int64)) (r : (Fin 2) × (Fin 2) × (Nat → Nat → Int64)) (hl : loop (b_X4_walk_18 cK cF p1 y3) (x0_, x1_, x2_, x3_) = some r) (hk : ∀ (r0_ : (Fin 2)) (r1_ : (Fin 2)) (r2_ : (Nat → Nat → Int64)), r = (r0_, r1_, r2_) → Go mX4_walk (d + 2) false 0 0 55 [none, none, none, none, none, none] [] (wC cK cF ga gi gs oK cT ra rb cR cP cM r0_ r1_ r2_ aO aC aQ) Q) : Go mX4_walk (d + 2) false 0 0 18 [some (vR 41), some (vR (pN p1.1)), none, some (vI y3), some (vI x0_), none] [] (wC cK cF ga gi gs oK cT ra rb cR cP cM x1_ x2_ x3_ aO aC aQ) Q := by
  refine loop_go (P := fun x : Int32 × (Fin 2) × (Fin 2) × (Nat → Nat → Int64) => ∀ (x0_ : Int32) (x1_ : (Fin 2)) (x2_ : (Fin 2)) (x3_ : (Nat → Nat → Int64)), x = (x0_, x1_, x2_, x3_) → Go mX4_walk (d + 2) false 0 0 18 [some (vR 41), some (vR (pN p1.1)), none, some (vI y3), some (vI x0_), none] [] (wC cK cF ga gi gs oK cT ra rb cR cP cM x1_ x2_ x3_ aO aC aQ) Q) (K := fun r : (Fin 2) × (Fin 2) × (Nat → Nat → Int64) => ∀ (r0_ : (Fin 2)) (r1_ : (Fin 2)) (r2_ : (Nat → Nat → Int64)), r = (r0_, r1_, r2_) → Go mX4_walk (d + 2) false 0 0 55 [none, none, none, none, none, none] [] (wC cK cF ga gi gs oK cT ra rb cR cP cM r0_ r1_ r2_ aO aC aQ) Q) ?_ (x0_, x1_, x2_, x3_) r hl hk x0_ x1_ x2_ x3_ rfl
  · intro x y hs hI hE x0_ x1_ x2_ x3_ hx
    subst hx
    unfold b_X4_walk_18 at hs
    try dsimp only at hs
    refine go_iload (pc := 18) dX4_walk_18 rfl ?_
    refine go_iload_n (pc := 20) 3 dX4_walk_20 rfl rfl ?_
    refine go_icmp_ge (pc := 21) 55 dX4_walk_21 (by decide) (fun h2 => ?_) (fun h2 => ?_)
    · have hs := it_t h2 hs
      obtain rfl := Option.some.inj hs
      refine go_sub (lv' := [none, none, none, none, none, none]) trivial ?_
      exact (hE (x1_, x2_, x3_) rfl) x1_ x2_ x3_ rfl
    · have hs := it_f h2 hs
      refine go_aload_n (pc := 24) 0 dX4_walk_24 rfl rfl ?_
      refine go_getfield (pc := 25) (v := vR (42 + x2_.1)) 41 4 1 dX4_walk_25 flX4_15 rfl rfl ?_
      refine go_astore (pc := 28) [some (vR 41), some (vR (pN p1.1)), none, some (vI y3), some (vI x0_), some (vR (42 + x2_.1))] dX4_walk_28 (by decide) rfl ?_
      refine go_aload_n (pc := 30) 0 dX4_walk_30 rfl rfl ?_
      refine go_aload_n (pc := 31) 0 dX4_walk_31 rfl rfl ?_
      refine go_getfield (pc := 32) (v := vR (42 + x1_.1)) 41 4 0 dX4_walk_32 flX4_9 rfl rfl ?_
      refine go_putRA (pc := 35) 41 4 1 dX4_walk_35 fpX4_15 rfl (Nat.le_of_ble_eq_true rfl) ((show Go mX4_walk (d + 2) false 0 0 38 [some (vR 41), some (vR (pN p1.1)), none, some (vI y3), some (vI x0_), some (vR (42 + x2_.1))] [] (wC cK cF ga gi gs oK cT ra rb cR cP cM x1_ x1_ x3_ aO aC aQ) Q from ?_))
      refine go_aload_n (pc := 38) 0 dX4_walk_38 rfl rfl ?_
      refine go_aload (pc := 39) dX4_walk_39 rfl ?_
      refine go_putRA (pc := 41) 41 4 0 dX4_walk_41 fpX4_9 rfl (Nat.le_of_ble_eq_true rfl) ((show Go mX4_walk (d + 2) false 0 0 44 [some (vR 41), some (vR (pN p1.1)), none, some (vI y3), some (vI x0_), some (vR (42 + x2_.1))] [] (wC cK cF ga gi gs oK cT ra rb cR cP cM x2_ x1_ x3_ aO aC aQ) Q from ?_))
      refine go_aload_n (pc := 44) 0 dX4_walk_44 rfl rfl ?_
      refine go_aload_n (pc := 45) 1 dX4_walk_45 rfl rfl ?_
      obtain ⟨x3, hc4, hs⟩ := bnd hs
      refine go_callV (bc := 0) (bs := 0) (mc := 0) (ms := 0) (d := d + 1) (pc := 46) (a := 41) (ci := 4) [vR (pN p1.1)] [] dX4_walk_46 kX4_step mlX4_24 ivX4_step rfl rfl rfl rfl (Nat.le_of_ble_eq_true rfl) rfl (c_X4_step (d := d + 0) (res0 := x3) hc4) (fun r w' hq => ?_)
      obtain ⟨rfl, rfl⟩ := hq
      show Go mX4_walk (d + 2) false 0 0 49 [some (vR 41), some (vR (pN p1.1)), none, some (vI y3), some (vI x0_), some (vR (42 + x2_.1))] [] (wC cK cF ga gi gs oK cT ra rb cR cP cM x2_ x1_ x3 aO aC aQ) Q
      refine go_iinc (pc := 49) (x0_ + (1 : Int32)) [some (vR 41), some (vR (pN p1.1)), none, some (vI y3), some (vI (x0_ + (1 : Int32))), some (vR (42 + x2_.1))] dX4_walk_49 rfl (iinc_1 _) (by decide) rfl ?_
      refine go_goto (pc := 52) 18 dX4_walk_52 (by decide) ?_
      obtain rfl := Option.some.inj hs
      refine go_sub (lv' := [some (vR 41), some (vR (pN p1.1)), none, some (vI y3), some (vI (x0_ + (1 : Int32))), none]) ⟨rfl, ⟨rfl, ⟨rfl, ⟨rfl, trivial⟩⟩⟩⟩ ?_
      exact hI (x0_ + (1 : Int32), x2_, x1_, x3) rfl (x0_ + (1 : Int32)) x2_ x1_ x3 rfl
set_option maxRecDepth 20000 in
theorem c_X4_walk {d : Nat}  {p1 : (Fin 5)} {a2 : Int32} {a3 : Int32} {res0 : (Fin 2)} {res1 : (Fin 2)} {res2 : (Nat → Nat → Int64)} (hs : s_X4_walk cK cF ea eb cW p1 a2 a3 = some (res0, res1, res2)) : Calls mX4_walk (d + 2) false 0 0 [vR 41, vR (pN p1.1), vI a2, vI a3] (wC cK cF ga gi gs oK cT ra rb cR cP cM ea eb cW aO aC aQ) (fun r w' => r = none ∧ w' = (wC cK cF ga gi gs oK cT ra rb cR cP cM res0 res1 res2 aO aC aQ)) := by
  unfold s_X4_walk at hs
  refine Calls.of kX4_walk 2 [some (vR 41), some (vR (pN p1.1)), some (vI a2), some (vI a3), none, none] rfl (Nat.le_of_ble_eq_true rfl) ?_
  refine go_aload_n (pc := 0) 0 dX4_walk_0 rfl rfl ?_
  refine go_getfield (pc := 1) (v := vR (42 + ea.1)) 41 4 0 dX4_walk_1 flX4_9 rfl rfl ?_
  refine go_lconst (pc := 4) (0 : Int64) dX4_walk_4 (by decide) ?_
  refine go_callS (bc := 0) (bs := 0) (mc := 0) (ms := 0) (d := d + 1) (pc := 5) [vR (42 + ea.1), vL (0 : Int64)] [] dX4_walk_5 kJ7_fill_d0a16 mlX4_18 isJ7_fill_d0a16 rfl (Nat.le_of_ble_eq_true rfl) rfl (c_fillJ (d := d + 1) (wC_wk ea) (by decide)) (fun r w' hq => ?_)
  obtain ⟨rfl, rfl⟩ := hq
  refine go_w (wC_swk ea) ?_
  show Go mX4_walk (d + 2) false 0 0 8 [some (vR 41), some (vR (pN p1.1)), some (vI a2), some (vI a3), none, none] [] (wC cK cF ga gi gs oK cT ra rb cR cP cM ea eb (va_up cW ea.1 (fillJ 10 (cW ea.1) (0 : Int64))) aO aC aQ) _
  refine go_aload_n (pc := 8) 0 dX4_walk_8 rfl rfl ?_
  refine go_getfield (pc := 9) (v := vR (42 + ea.1)) 41 4 0 dX4_walk_9 flX4_9 rfl rfl ?_
  refine go_iload_n (pc := 12) 2 dX4_walk_12 rfl rfl ?_
  refine go_lconst (pc := 13) (1 : Int64) dX4_walk_13 (by decide) ?_
  obtain ⟨hi1, hs⟩ := chk_t hs
  refine go_lastore (pc := 14) (42 + ea.1) dX4_walk_14 (wC_wk ea) hi1 (go_w (wC_swk ea) (show Go mX4_walk (d + 2) false 0 0 15 [some (vR 41), some (vR (pN p1.1)), some (vI a2), some (vI a3), none, none] [] (wC cK cF ga gi gs oK cT ra rb cR cP cM ea eb (va_up (va_up cW ea.1 (fillJ 10 (cW ea.1) (0 : Int64))) ea.1 (vp_updL ((va_up cW ea.1 (fillJ 10 (cW ea.1) (0 : Int64))) ea.1) a2.toNatClampNeg (1 : Int64))) aO aC aQ) _ from ?_))
  refine go_iconst (pc := 15) (0 : Int32) dX4_walk_15 (by decide) ?_
  refine go_istore (pc := 16) [some (vR 41), some (vR (pN p1.1)), some (vI a2), some (vI a3), some (vI (0 : Int32)), none] dX4_walk_16 (by decide) rfl ?_
  refine go_sub (lv' := [some (vR 41), some (vR (pN p1.1)), none, some (vI a3), some (vI (0 : Int32)), none]) ⟨rfl, ⟨rfl, ⟨rfl, ⟨rfl, trivial⟩⟩⟩⟩ ?_
  obtain ⟨e5, hl6, hs⟩ := bnd hs
  refine g_X4_walk_18 (d := d) (0 : Int32) ea eb (va_up (va_up cW ea.1 (fillJ 10 (cW ea.1) (0 : Int64))) ea.1 (vp_updL ((va_up cW ea.1 (fillJ 10 (cW ea.1) (0 : Int64))) ea.1) a2.toNatClampNeg (1 : Int64))) e5 hl6 ?_
  intro v7 v8 v9 hv10
  subst hv10
  try dsimp only at hs
  cases hs
  exact go_return (st := []) (pc := 55) dX4_walk_55 rfl (fun h => by cases h) ⟨rfl, rfl⟩
noncomputable def b_X4_unevenness_6 (ea : (Fin 2)) (cW : (Nat → Nat → Int64)) (y1 : Int32) (y2 : Int64) (x : Int64 × Int32) : Option ((Int64 × Int32) ⊕ (Int64)) := if y1 ≤ x.2 then (some (Sum.inr x.1)) else (chk x.2 10 (lt' (x.1 + ((if 0 < ((y1.toInt64 * (cW ea.1 x.2.toNatClampNeg)) - y2) then ((y1.toInt64 * (cW ea.1 x.2.toNatClampNeg)) - y2) else -((y1.toInt64 * (cW ea.1 x.2.toNatClampNeg)) - y2)))) (fun z3 => some (Sum.inl (z3, x.2 + (1 : Int32))))))
noncomputable def s_X4_unevenness (ea : (Fin 2)) (cW : (Nat → Nat → Int64)) (a1 : Int32) (a2 : Int64) : Option (Int64) := (loop (b_X4_unevenness_6 ea cW a1 a2) ((0 : Int64), (0 : Int32))).bind (fun e4 => some e4)
set_option maxRecDepth 20000 in
theorem g_X4_unevenness_6 {d : Nat}  {Q : Option AV → List AC → Prop} {y1 : Int32} {y2 : Int64}  (x0_ : Int64) (x1_ : Int32) (r : Int64) (hl : loop (b_X4_unevenness_6 ea cW y1 y2) (x0_, x1_) = some r) (hk : Go mX4_unevenness (d + 1) false 0 0 38 [none, none, none, none, some (vL r), none, none] [] (wC cK cF ga gi gs oK cT ra rb cR cP cM ea eb cW aO aC aQ) Q) : Go mX4_unevenness (d + 1) false 0 0 6 [some (vR 41), some (vI y1), some (vL y2), none, some (vL x0_), none, some (vI x1_)] [] (wC cK cF ga gi gs oK cT ra rb cR cP cM ea eb cW aO aC aQ) Q := by
  refine loop_go (P := fun x : Int64 × Int32 => ∀ (x0_ : Int64) (x1_ : Int32), x = (x0_, x1_) → Go mX4_unevenness (d + 1) false 0 0 6 [some (vR 41), some (vI y1), some (vL y2), none, some (vL x0_), none, some (vI x1_)] [] (wC cK cF ga gi gs oK cT ra rb cR cP cM ea eb cW aO aC aQ) Q) (K := fun r : Int64 => Go mX4_unevenness (d + 1) false 0 0 38 [none, none, none, none, some (vL r), none, none] [] (wC cK cF ga gi gs oK cT ra rb cR cP cM ea eb cW aO aC aQ) Q) ?_ (x0_, x1_) r hl hk x0_ x1_ rfl
  · intro x y hs hI hE x0_ x1_ hx
    subst hx
    unfold b_X4_unevenness_6 at hs
    try dsimp only at hs
    refine go_iload (pc := 6) dX4_unevenness_6 rfl ?_
    refine go_iload_n (pc := 8) 1 dX4_unevenness_8 rfl rfl ?_
    refine go_icmp_ge (pc := 9) 38 dX4_unevenness_9 (by decide) (fun h1 => ?_) (fun h1 => ?_)
    · have hs := it_t h1 hs
      obtain rfl := Option.some.inj hs
      refine go_sub (lv' := [none, none, none, none, some (vL x0_), none, none]) ⟨rfl, trivial⟩ ?_
      exact hE x0_ rfl
    · have hs := it_f h1 hs
      refine go_lload (pc := 12) dX4_unevenness_12 rfl ?_
      refine go_iload_n (pc := 14) 1 dX4_unevenness_14 rfl rfl ?_
      refine go_i2l (pc := 15) dX4_unevenness_15 ?_
      refine go_aload_n (pc := 16) 0 dX4_unevenness_16 rfl rfl ?_
      refine go_getfield (pc := 17) (v := vR (42 + ea.1)) 41 4 0 dX4_unevenness_17 flX4_9 rfl rfl ?_
      refine go_iload (pc := 20) dX4_unevenness_20 rfl ?_
      obtain ⟨hi2, hs⟩ := chk_t hs
      refine go_laload (pc := 22) (42 + ea.1) dX4_unevenness_22 (wC_wk ea) hi2 ?_
      refine go_lmul (pc := 23) dX4_unevenness_23 ?_
      refine go_lload_n (pc := 24) 2 dX4_unevenness_24 rfl rfl ?_
      refine go_lsub (pc := 25) dX4_unevenness_25 ?_
      refine go_mabs (d := d + 0) (pc := 26) dX4_unevenness_26 mlX4_28 (Nat.le_of_ble_eq_true rfl) ?_
      refine go_ladd (pc := 29) dX4_unevenness_29 ?_
      refine go_topl (fun z3 ez3 => ?_)
      have hs := lt_t ez3 hs
      refine go_lstore (pc := 30) [some (vR 41), some (vI y1), some (vL y2), none, some (vL z3), none, some (vI x1_)] dX4_unevenness_30 (by decide) rfl ?_
      refine go_iinc (pc := 32) (x1_ + (1 : Int32)) [some (vR 41), some (vI y1), some (vL y2), none, some (vL z3), none, some (vI (x1_ + (1 : Int32)))] dX4_unevenness_32 rfl (iinc_1 _) (by decide) rfl ?_
      refine go_goto (pc := 35) 6 dX4_unevenness_35 (by decide) ?_
      obtain rfl := Option.some.inj hs
      exact hI (z3, x1_ + (1 : Int32)) rfl z3 (x1_ + (1 : Int32)) rfl
set_option maxRecDepth 20000 in
theorem c_X4_unevenness {d : Nat}  {a1 : Int32} {a2 : Int64} {res0 : Int64} (hs : s_X4_unevenness ea cW a1 a2 = some res0) : Calls mX4_unevenness (d + 1) false 0 0 [vR 41, vI a1, vL a2] (wC cK cF ga gi gs oK cT ra rb cR cP cM ea eb cW aO aC aQ) (fun r w' => r = some (vL res0) ∧ w' = (wC cK cF ga gi gs oK cT ra rb cR cP cM ea eb cW aO aC aQ)) := by
  unfold s_X4_unevenness at hs
  refine Calls.of kX4_unevenness 3 [some (vR 41), some (vI a1), some (vL a2), none, none, none, none] rfl (Nat.le_of_ble_eq_true rfl) ?_
  refine go_lconst (pc := 0) (0 : Int64) dX4_unevenness_0 (by decide) ?_
  refine go_lstore (pc := 1) [some (vR 41), some (vI a1), some (vL a2), none, some (vL (0 : Int64)), none, none] dX4_unevenness_1 (by decide) rfl ?_
  refine go_iconst (pc := 3) (0 : Int32) dX4_unevenness_3 (by decide) ?_
  refine go_istore (pc := 4) [some (vR 41), some (vI a1), some (vL a2), none, some (vL (0 : Int64)), none, some (vI (0 : Int32))] dX4_unevenness_4 (by decide) rfl ?_
  obtain ⟨e4, hl5, hs⟩ := bnd hs
  refine g_X4_unevenness_6 (d := d) (0 : Int64) (0 : Int32) e4 hl5 ?_
  refine go_lload (pc := 38) dX4_unevenness_38 rfl ?_
  cases hs
  exact go_lreturn (st := []) (pc := 40) dX4_unevenness_40 rfl (fun h => by cases h) ⟨rfl, rfl⟩
noncomputable def s_X5_netAt (a1 : Int32) : Option ((Option (Fin 5))) := if a1 < 0 then (some (none : Option (Fin 5))) else (if (4 : Int32) ≤ a1 then (some (none : Option (Fin 5))) else (chk a1 4 (some (some (fin5 a1.toNatClampNeg) : Option (Fin 5)))))
set_option maxRecDepth 20000 in
theorem c_X5_netAt {d : Nat}  {a1 : Int32} {res0 : (Option (Fin 5))} (hs : s_X5_netAt a1 = some res0) : Calls mX5_netAt (d + 0) false 0 0 [vR 0, vI a1] (wC cK cF ga gi gs oK cT ra rb cR cP cM ea eb cW aO aC aQ) (fun r w' => r = some (vQ (res0.map (fun i => pN i.1))) ∧ w' = (wC cK cF ga gi gs oK cT ra rb cR cP cM ea eb cW aO aC aQ)) := by
  unfold s_X5_netAt at hs
  refine Calls.of kX5_netAt 0 [some (vR 0), some (vI a1)] rfl (Nat.le_of_ble_eq_true rfl) ?_
  refine go_iload_n (pc := 0) 1 dX5_netAt_0 rfl rfl ?_
  refine go_if_lt (pc := 1) 18 dX5_netAt_1 (by decide) (fun h1 => ?_) (fun h1 => ?_)
  · have hs := it_t h1 hs
    refine go_null (pc := 18) dX5_netAt_18 ?_
    cases hs
    exact go_areturn (st := []) (pc := 19) dX5_netAt_19 rfl (fun h => by cases h) ⟨rfl, rfl⟩
  · have hs := it_f h1 hs
    refine go_iload_n (pc := 4) 1 dX5_netAt_4 rfl rfl ?_
    refine go_iconst (pc := 5) (4 : Int32) dX5_netAt_5 (by decide) ?_
    refine go_icmp_ge (pc := 6) 18 dX5_netAt_6 (by decide) (fun h2 => ?_) (fun h2 => ?_)
    · have hs := it_t h2 hs
      refine go_null (pc := 18) dX5_netAt_18 ?_
      cases hs
      exact go_areturn (st := []) (pc := 19) dX5_netAt_19 rfl (fun h => by cases h) ⟨rfl, rfl⟩
    · have hs := it_f h2 hs
      refine go_aload_n (pc := 9) 0 dX5_netAt_9 rfl rfl ?_
      refine go_getfield (pc := 10) (v := vR 1) 0 5 0 dX5_netAt_10 flX5_11 rfl rfl ?_
      refine go_iload_n (pc := 13) 1 dX5_netAt_13 rfl rfl ?_
      obtain ⟨hi3, hs⟩ := chk_t hs
      refine go_aaload (pc := 14) 1 2 dX5_netAt_14 (by decide) rfl hi3 ?_
      show Go mX5_netAt (d + 0) false 0 0 15 [some (vR 0), some (vI a1)] [vR (pN (fin5 a1.toNatClampNeg).1)] (wC cK cF ga gi gs oK cT ra rb cR cP cM ea eb cW aO aC aQ) _
      refine go_goto (pc := 15) 19 dX5_netAt_15 (by decide) ?_
      cases hs
      exact go_areturn (st := []) (pc := 19) dX5_netAt_19 rfl (fun h => by cases h) ⟨rfl, rfl⟩
noncomputable def s_X5_isKnotCount (a0 : Int32) : Option (Int32) := if a0 < (1 : Int32) then (some (0 : Int32)) else (if (10 : Int32) < a0 then (some (0 : Int32)) else (some (1 : Int32)))
set_option maxRecDepth 20000 in
theorem c_X5_isKnotCount {d : Nat} {w : List AC} {a0 : Int32} {res0 : Int32} (hs : s_X5_isKnotCount a0 = some res0) : Calls mX5_isKnotCount (d + 0) false 0 0 [vI a0] w (fun r w' => r = some (vI res0) ∧ w' = w) := by
  unfold s_X5_isKnotCount at hs
  refine Calls.of kX5_isKnotCount 0 [some (vI a0)] rfl (Nat.le_of_ble_eq_true rfl) ?_
  refine go_iload_n (pc := 0) 0 dX5_isKnotCount_0 rfl rfl ?_
  refine go_iconst (pc := 1) (1 : Int32) dX5_isKnotCount_1 (by decide) ?_
  refine go_icmp_lt (pc := 2) 15 dX5_isKnotCount_2 (by decide) (fun h1 => ?_) (fun h1 => ?_)
  · have hs := it_t h1 hs
    refine go_iconst (pc := 15) (0 : Int32) dX5_isKnotCount_15 (by decide) ?_
    cases hs
    exact go_ireturn (st := []) (pc := 16) dX5_isKnotCount_16 rfl rfl (fun h => by cases h) ⟨rfl, rfl⟩
  · have hs := it_f h1 hs
    refine go_iload_n (pc := 5) 0 dX5_isKnotCount_5 rfl rfl ?_
    refine go_bipush (pc := 6) (10 : Int32) dX5_isKnotCount_6 (by decide) ?_
    refine go_icmp_gt (pc := 8) 15 dX5_isKnotCount_8 (by decide) (fun h2 => ?_) (fun h2 => ?_)
    · have hs := it_t h2 hs
      refine go_iconst (pc := 15) (0 : Int32) dX5_isKnotCount_15 (by decide) ?_
      cases hs
      exact go_ireturn (st := []) (pc := 16) dX5_isKnotCount_16 rfl rfl (fun h => by cases h) ⟨rfl, rfl⟩
    · have hs := it_f h2 hs
      refine go_iconst (pc := 11) (1 : Int32) dX5_isKnotCount_11 (by decide) ?_
      refine go_goto (pc := 12) 16 dX5_isKnotCount_12 (by decide) ?_
      cases hs
      exact go_ireturn (st := []) (pc := 16) dX5_isKnotCount_16 rfl rfl (fun h => by cases h) ⟨rfl, rfl⟩
noncomputable def s_X5_net (cK : (Nat → Int32)) (cF : (Nat → Nat → Int32)) (a1 : Int32) (a2 : Int32) : Option (Int32 × (Nat → Int32) × (Nat → Nat → Int32)) := (s_X5_netAt a1).bind (fun x1 => Option.elim x1 (some ((-2 : Int32), cK, cF)) (fun p3 => (s_X5_isKnotCount a2).bind (fun x4 => if x4 = 0 then (some ((-2 : Int32), cK, cF)) else ((s_X2_startWith cK cF p3 a2).bind (fun x7 => some ((1 : Int32), x7.1, x7.2))))))
set_option maxRecDepth 20000 in
theorem c_X5_net {d : Nat}  {a1 : Int32} {a2 : Int32} {res0 : Int32} {res1 : (Nat → Int32)} {res2 : (Nat → Nat → Int32)} (hs : s_X5_net cK cF a1 a2 = some (res0, res1, res2)) : Calls mX5_net (d + 2) false 0 0 [vR 0, vI a1, vI a2] (wC cK cF ga gi gs oK cT ra rb cR cP cM ea eb cW aO aC aQ) (fun r w' => r = some (vI res0) ∧ w' = (wC res1 res2 ga gi gs oK cT ra rb cR cP cM ea eb cW aO aC aQ)) := by
  unfold s_X5_net at hs
  refine Calls.of kX5_net 1 [some (vR 0), some (vI a1), some (vI a2), none] rfl (Nat.le_of_ble_eq_true rfl) ?_
  refine go_aload_n (pc := 0) 0 dX5_net_0 rfl rfl ?_
  refine go_iload_n (pc := 1) 1 dX5_net_1 rfl rfl ?_
  obtain ⟨x1, hc2, hs⟩ := bnd hs
  refine go_callV (bc := 0) (bs := 0) (mc := 0) (ms := 0) (d := d + 1) (pc := 2) (a := 0) (ci := 5) [vI a1] [] dX5_net_2 kX5_netAt mlX5_48 ivX5_netAt rfl rfl rfl rfl (Nat.le_of_ble_eq_true rfl) rfl (c_X5_netAt (d := d + 1) (res0 := x1) hc2) (fun r w' hq => ?_)
  obtain ⟨rfl, rfl⟩ := hq
  show Go mX5_net (d + 2) false 0 0 5 [some (vR 0), some (vI a1), some (vI a2), none] [vQ (x1.map (fun i => pN i.1))] (wC cK cF ga gi gs oK cT ra rb cR cP cM ea eb cW aO aC aQ) _
  refine go_astore_n (pc := 5) 3 [some (vR 0), some (vI a1), some (vI a2), some (vQ (x1.map (fun i => pN i.1)))] dX5_net_5 rfl (by decide) rfl ?_
  refine go_aload_n (pc := 6) 3 dX5_net_6 rfl rfl ?_
  rcases x1 with _ | p3
  · refine go_ifnull (pc := 7) 17 dX5_net_7 (by decide) (fun _ => ?_) (fun a h => by cases h)
    simp only [Option.elim_none] at hs
    refine go_bipush (pc := 17) (-2 : Int32) dX5_net_17 (by decide) ?_
    cases hs
    exact go_ireturn (st := []) (pc := 19) dX5_net_19 rfl (vp_nar_int _) (fun h => by cases h) ⟨rfl, rfl⟩
  · refine go_ifnull (pc := 7) 17 dX5_net_7 (by decide) (fun h => by cases h) (fun a _ => ?_)
    simp only [Option.elim_some] at hs
    show Go mX5_net (d + 2) false 0 0 10 [some (vR 0), some (vI a1), some (vI a2), some (vR (pN p3.1))] [] (wC cK cF ga gi gs oK cT ra rb cR cP cM ea eb cW aO aC aQ) _
    refine go_iload_n (pc := 10) 2 dX5_net_10 rfl rfl ?_
    obtain ⟨x4, hc5, hs⟩ := bnd hs
    refine go_callS (bc := 0) (bs := 0) (mc := 0) (ms := 0) (d := d + 1) (pc := 11) [vI a2] [] dX5_net_11 kX5_isKnotCount mlX5_52 isX5_isKnotCount rfl (Nat.le_of_ble_eq_true rfl) rfl (c_X5_isKnotCount (d := d + 1) (res0 := x4) hc5) (fun r w' hq => ?_)
    obtain ⟨rfl, rfl⟩ := hq
    show Go mX5_net (d + 2) false 0 0 14 [some (vR 0), some (vI a1), some (vI a2), some (vR (pN p3.1))] [vI x4] (wC cK cF ga gi gs oK cT ra rb cR cP cM ea eb cW aO aC aQ) _
    refine go_if_ne (pc := 14) 20 dX5_net_14 (by decide) (fun h6 => ?_) (fun h6 => ?_)
    · have hs := it_f h6 hs
      refine go_aload_n (pc := 20) 3 dX5_net_20 rfl rfl ?_
      refine go_iload_n (pc := 21) 2 dX5_net_21 rfl rfl ?_
      obtain ⟨x7, hc8, hs⟩ := bnd hs
      refine go_callV (bc := 0) (bs := 0) (mc := 0) (ms := 0) (d := d + 1) (pc := 22) (a := (pN p3.1)) (ci := 2) [vI a2] [] dX5_net_22 kX2_startWith mlX5_56 ivX2_startWith rfl rfl (wC_net p3) rfl (Nat.le_of_ble_eq_true rfl) rfl (c_X2_startWith (d := d + 0) (res0 := x7.1) (res1 := x7.2) hc8) (fun r w' hq => ?_)
      obtain ⟨rfl, rfl⟩ := hq
      show Go mX5_net (d + 2) false 0 0 25 [some (vR 0), some (vI a1), some (vI a2), some (vR (pN p3.1))] [] (wC x7.1 x7.2 ga gi gs oK cT ra rb cR cP cM ea eb cW aO aC aQ) _
      refine go_iconst (pc := 25) (1 : Int32) dX5_net_25 (by decide) ?_
      cases hs
      exact go_ireturn (st := []) (pc := 26) dX5_net_26 rfl (vp_nar_int _) (fun h => by cases h) ⟨rfl, rfl⟩
    · have hs := it_t h6 hs
      refine go_bipush (pc := 17) (-2 : Int32) dX5_net_17 (by decide) ?_
      cases hs
      exact go_ireturn (st := []) (pc := 19) dX5_net_19 rfl (vp_nar_int _) (fun h => by cases h) ⟨rfl, rfl⟩
noncomputable def s_X5_line (cK : (Nat → Int32)) (cF : (Nat → Nat → Int32)) (a1 : Int32) (a2 : Int32) (a3 : Int32) (a4 : Int32) : Option (Int32 × (Nat → Nat → Int32)) := (s_X5_netAt a1).bind (fun x1 => Option.elim x1 (some ((-2 : Int32), cF)) (fun p3 => (s_X2_hasUnlikeKnots cK p3 a2 a3).bind (fun x4 => if x4 = 0 then (some ((-2 : Int32), cF)) else ((s_X2_joins cF p3 a2 a3).bind (fun x7 => if x7 = a4 then (some ((-3 : Int32), cF)) else ((s_X2_change cF p3 a2 a3).bind (fun x10 => some ((1 : Int32), x10))))))))
set_option maxRecDepth 20000 in
theorem c_X5_line {d : Nat}  {a1 : Int32} {a2 : Int32} {a3 : Int32} {a4 : Int32} {res0 : Int32} {res1 : (Nat → Nat → Int32)} (hs : s_X5_line cK cF a1 a2 a3 a4 = some (res0, res1)) : Calls mX5_line (d + 3) false 0 0 [vR 0, vI a1, vI a2, vI a3, vI a4] (wC cK cF ga gi gs oK cT ra rb cR cP cM ea eb cW aO aC aQ) (fun r w' => r = some (vI res0) ∧ w' = (wC cK res1 ga gi gs oK cT ra rb cR cP cM ea eb cW aO aC aQ)) := by
  unfold s_X5_line at hs
  refine Calls.of kX5_line 1 [some (vR 0), some (vI a1), some (vI a2), some (vI a3), some (vI a4), none] rfl (Nat.le_of_ble_eq_true rfl) ?_
  refine go_aload_n (pc := 0) 0 dX5_line_0 rfl rfl ?_
  refine go_iload_n (pc := 1) 1 dX5_line_1 rfl rfl ?_
  obtain ⟨x1, hc2, hs⟩ := bnd hs
  refine go_callV (bc := 0) (bs := 0) (mc := 0) (ms := 0) (d := d + 2) (pc := 2) (a := 0) (ci := 5) [vI a1] [] dX5_line_2 kX5_netAt mlX5_48 ivX5_netAt rfl rfl rfl rfl (Nat.le_of_ble_eq_true rfl) rfl (c_X5_netAt (d := d + 2) (res0 := x1) hc2) (fun r w' hq => ?_)
  obtain ⟨rfl, rfl⟩ := hq
  show Go mX5_line (d + 3) false 0 0 5 [some (vR 0), some (vI a1), some (vI a2), some (vI a3), some (vI a4), none] [vQ (x1.map (fun i => pN i.1))] (wC cK cF ga gi gs oK cT ra rb cR cP cM ea eb cW aO aC aQ) _
  refine go_astore (pc := 5) [some (vR 0), some (vI a1), some (vI a2), some (vI a3), some (vI a4), some (vQ (x1.map (fun i => pN i.1)))] dX5_line_5 (by decide) rfl ?_
  refine go_aload (pc := 7) dX5_line_7 rfl ?_
  rcases x1 with _ | p3
  · refine go_ifnull (pc := 9) 22 dX5_line_9 (by decide) (fun _ => ?_) (fun a h => by cases h)
    simp only [Option.elim_none] at hs
    refine go_bipush (pc := 22) (-2 : Int32) dX5_line_22 (by decide) ?_
    cases hs
    exact go_ireturn (st := []) (pc := 24) dX5_line_24 rfl (vp_nar_int _) (fun h => by cases h) ⟨rfl, rfl⟩
  · refine go_ifnull (pc := 9) 22 dX5_line_9 (by decide) (fun h => by cases h) (fun a _ => ?_)
    simp only [Option.elim_some] at hs
    show Go mX5_line (d + 3) false 0 0 12 [some (vR 0), some (vI a1), some (vI a2), some (vI a3), some (vI a4), some (vR (pN p3.1))] [] (wC cK cF ga gi gs oK cT ra rb cR cP cM ea eb cW aO aC aQ) _
    refine go_aload (pc := 12) dX5_line_12 rfl ?_
    refine go_iload_n (pc := 14) 2 dX5_line_14 rfl rfl ?_
    refine go_iload_n (pc := 15) 3 dX5_line_15 rfl rfl ?_
    obtain ⟨x4, hc5, hs⟩ := bnd hs
    refine go_callV (bc := 0) (bs := 0) (mc := 0) (ms := 0) (d := d + 2) (pc := 16) (a := (pN p3.1)) (ci := 2) [vI a2, vI a3] [] dX5_line_16 kX2_hasUnlikeKnots mlX5_60 ivX2_hasUnlikeKnots rfl rfl (wC_net p3) rfl (Nat.le_of_ble_eq_true rfl) rfl (c_X2_hasUnlikeKnots (d := d + 0) (res0 := x4) hc5) (fun r w' hq => ?_)
    obtain ⟨rfl, rfl⟩ := hq
    show Go mX5_line (d + 3) false 0 0 19 [some (vR 0), some (vI a1), some (vI a2), some (vI a3), some (vI a4), some (vR (pN p3.1))] [vI x4] (wC cK cF ga gi gs oK cT ra rb cR cP cM ea eb cW aO aC aQ) _
    refine go_if_ne (pc := 19) 25 dX5_line_19 (by decide) (fun h6 => ?_) (fun h6 => ?_)
    · have hs := it_f h6 hs
      refine go_aload (pc := 25) dX5_line_25 rfl ?_
      refine go_iload_n (pc := 27) 2 dX5_line_27 rfl rfl ?_
      refine go_iload_n (pc := 28) 3 dX5_line_28 rfl rfl ?_
      obtain ⟨x7, hc8, hs⟩ := bnd hs
      refine go_callV (bc := 0) (bs := 0) (mc := 0) (ms := 0) (d := d + 2) (pc := 29) (a := (pN p3.1)) (ci := 2) [vI a2, vI a3] [] dX5_line_29 kX2_joins mlX5_64 ivX2_joins rfl rfl (wC_net p3) rfl (Nat.le_of_ble_eq_true rfl) rfl (c_X2_joins (d := d + 2) (res0 := x7) hc8) (fun r w' hq => ?_)
      obtain ⟨rfl, rfl⟩ := hq
      show Go mX5_line (d + 3) false 0 0 32 [some (vR 0), some (vI a1), some (vI a2), some (vI a3), some (vI a4), some (vR (pN p3.1))] [vI x7] (wC cK cF ga gi gs oK cT ra rb cR cP cM ea eb cW aO aC aQ) _
      refine go_iload (pc := 32) dX5_line_32 rfl ?_
      refine go_icmp_ne (pc := 34) 40 dX5_line_34 (by decide) (fun h9 => ?_) (fun h9 => ?_)
      · have hs := it_f h9 hs
        refine go_aload (pc := 40) dX5_line_40 rfl ?_
        refine go_iload_n (pc := 42) 2 dX5_line_42 rfl rfl ?_
        refine go_iload_n (pc := 43) 3 dX5_line_43 rfl rfl ?_
        obtain ⟨x10, hc11, hs⟩ := bnd hs
        refine go_callV (bc := 0) (bs := 0) (mc := 0) (ms := 0) (d := d + 2) (pc := 44) (a := (pN p3.1)) (ci := 2) [vI a2, vI a3] [] dX5_line_44 kX2_change mlX5_67 ivX2_change rfl rfl (wC_net p3) rfl (Nat.le_of_ble_eq_true rfl) rfl (c_X2_change (d := d + 2) (res0 := x10) hc11) (fun r w' hq => ?_)
        obtain ⟨rfl, rfl⟩ := hq
        show Go mX5_line (d + 3) false 0 0 47 [some (vR 0), some (vI a1), some (vI a2), some (vI a3), some (vI a4), some (vR (pN p3.1))] [] (wC cK x10 ga gi gs oK cT ra rb cR cP cM ea eb cW aO aC aQ) _
        refine go_iconst (pc := 47) (1 : Int32) dX5_line_47 (by decide) ?_
        cases hs
        exact go_ireturn (st := []) (pc := 48) dX5_line_48 rfl (vp_nar_int _) (fun h => by cases h) ⟨rfl, rfl⟩
      · have hs := it_t h9 hs
        refine go_bipush (pc := 37) (-3 : Int32) dX5_line_37 (by decide) ?_
        cases hs
        exact go_ireturn (st := []) (pc := 39) dX5_line_39 rfl (vp_nar_int _) (fun h => by cases h) ⟨rfl, rfl⟩
    · have hs := it_t h6 hs
      refine go_bipush (pc := 22) (-2 : Int32) dX5_line_22 (by decide) ?_
      cases hs
      exact go_ireturn (st := []) (pc := 24) dX5_line_24 rfl (vp_nar_int _) (fun h => by cases h) ⟨rfl, rfl⟩
noncomputable def s_X5_ring (cK : (Nat → Int32)) (cF : (Nat → Nat → Int32)) (a1 : Int32) (a2 : Int32) (a3 : Int32) : Option (Int32 × (Nat → Int32) × (Nat → Nat → Int32)) := (s_X5_netAt a1).bind (fun x1 => Option.elim x1 (some ((-2 : Int32), cK, cF)) (fun p3 => (s_X5_isKnotCount a2).bind (fun x4 => if x4 = 0 then (some ((-2 : Int32), cK, cF)) else (if a3 < 0 then (some ((-2 : Int32), cK, cF)) else (if (a3 >>> ((a2 / (2 : Int32)) &&& 31)) = 0 then ((s_X2_becomeRing cK cF p3 a2 a3).bind (fun x9 => (s_X2_lineCount x9.1 x9.2 p3).bind (fun x11 => some (x11, x9.1, x9.2)))) else (some ((-2 : Int32), cK, cF)))))))
set_option maxRecDepth 20000 in
theorem c_X5_ring {d : Nat}  {a1 : Int32} {a2 : Int32} {a3 : Int32} {res0 : Int32} {res1 : (Nat → Int32)} {res2 : (Nat → Nat → Int32)} (hs : s_X5_ring cK cF a1 a2 a3 = some (res0, res1, res2)) : Calls mX5_ring (d + 3) false 0 0 [vR 0, vI a1, vI a2, vI a3] (wC cK cF ga gi gs oK cT ra rb cR cP cM ea eb cW aO aC aQ) (fun r w' => r = some (vI res0) ∧ w' = (wC res1 res2 ga gi gs oK cT ra rb cR cP cM ea eb cW aO aC aQ)) := by
  unfold s_X5_ring at hs
  refine Calls.of kX5_ring 1 [some (vR 0), some (vI a1), some (vI a2), some (vI a3), none] rfl (Nat.le_of_ble_eq_true rfl) ?_
  refine go_aload_n (pc := 0) 0 dX5_ring_0 rfl rfl ?_
  refine go_iload_n (pc := 1) 1 dX5_ring_1 rfl rfl ?_
  obtain ⟨x1, hc2, hs⟩ := bnd hs
  refine go_callV (bc := 0) (bs := 0) (mc := 0) (ms := 0) (d := d + 2) (pc := 2) (a := 0) (ci := 5) [vI a1] [] dX5_ring_2 kX5_netAt mlX5_48 ivX5_netAt rfl rfl rfl rfl (Nat.le_of_ble_eq_true rfl) rfl (c_X5_netAt (d := d + 2) (res0 := x1) hc2) (fun r w' hq => ?_)
  obtain ⟨rfl, rfl⟩ := hq
  show Go mX5_ring (d + 3) false 0 0 5 [some (vR 0), some (vI a1), some (vI a2), some (vI a3), none] [vQ (x1.map (fun i => pN i.1))] (wC cK cF ga gi gs oK cT ra rb cR cP cM ea eb cW aO aC aQ) _
  refine go_astore (pc := 5) [some (vR 0), some (vI a1), some (vI a2), some (vI a3), some (vQ (x1.map (fun i => pN i.1)))] dX5_ring_5 (by decide) rfl ?_
  refine go_aload (pc := 7) dX5_ring_7 rfl ?_
  rcases x1 with _ | p3
  · refine go_ifnull (pc := 9) 31 dX5_ring_9 (by decide) (fun _ => ?_) (fun a h => by cases h)
    simp only [Option.elim_none] at hs
    refine go_bipush (pc := 31) (-2 : Int32) dX5_ring_31 (by decide) ?_
    cases hs
    exact go_ireturn (st := []) (pc := 33) dX5_ring_33 rfl (vp_nar_int _) (fun h => by cases h) ⟨rfl, rfl⟩
  · refine go_ifnull (pc := 9) 31 dX5_ring_9 (by decide) (fun h => by cases h) (fun a _ => ?_)
    simp only [Option.elim_some] at hs
    show Go mX5_ring (d + 3) false 0 0 12 [some (vR 0), some (vI a1), some (vI a2), some (vI a3), some (vR (pN p3.1))] [] (wC cK cF ga gi gs oK cT ra rb cR cP cM ea eb cW aO aC aQ) _
    refine go_iload_n (pc := 12) 2 dX5_ring_12 rfl rfl ?_
    obtain ⟨x4, hc5, hs⟩ := bnd hs
    refine go_callS (bc := 0) (bs := 0) (mc := 0) (ms := 0) (d := d + 2) (pc := 13) [vI a2] [] dX5_ring_13 kX5_isKnotCount mlX5_52 isX5_isKnotCount rfl (Nat.le_of_ble_eq_true rfl) rfl (c_X5_isKnotCount (d := d + 2) (res0 := x4) hc5) (fun r w' hq => ?_)
    obtain ⟨rfl, rfl⟩ := hq
    show Go mX5_ring (d + 3) false 0 0 16 [some (vR 0), some (vI a1), some (vI a2), some (vI a3), some (vR (pN p3.1))] [vI x4] (wC cK cF ga gi gs oK cT ra rb cR cP cM ea eb cW aO aC aQ) _
    refine go_if_eq (pc := 16) 31 dX5_ring_16 (by decide) (fun h6 => ?_) (fun h6 => ?_)
    · have hs := it_t h6 hs
      refine go_bipush (pc := 31) (-2 : Int32) dX5_ring_31 (by decide) ?_
      cases hs
      exact go_ireturn (st := []) (pc := 33) dX5_ring_33 rfl (vp_nar_int _) (fun h => by cases h) ⟨rfl, rfl⟩
    · have hs := it_f h6 hs
      refine go_iload_n (pc := 19) 3 dX5_ring_19 rfl rfl ?_
      refine go_if_lt (pc := 20) 31 dX5_ring_20 (by decide) (fun h7 => ?_) (fun h7 => ?_)
      · have hs := it_t h7 hs
        refine go_bipush (pc := 31) (-2 : Int32) dX5_ring_31 (by decide) ?_
        cases hs
        exact go_ireturn (st := []) (pc := 33) dX5_ring_33 rfl (vp_nar_int _) (fun h => by cases h) ⟨rfl, rfl⟩
      · have hs := it_f h7 hs
        refine go_iload_n (pc := 23) 3 dX5_ring_23 rfl rfl ?_
        refine go_iload_n (pc := 24) 2 dX5_ring_24 rfl rfl ?_
        refine go_iconst (pc := 25) (2 : Int32) dX5_ring_25 (by decide) ?_
        refine go_idiv (pc := 26) dX5_ring_26 (by decide) ?_
        refine go_ishr (pc := 27) dX5_ring_27 ?_
        refine go_if_eq (pc := 28) 34 dX5_ring_28 (by decide) (fun h8 => ?_) (fun h8 => ?_)
        · have hs := it_t h8 hs
          refine go_aload (pc := 34) dX5_ring_34 rfl ?_
          refine go_iload_n (pc := 36) 2 dX5_ring_36 rfl rfl ?_
          refine go_iload_n (pc := 37) 3 dX5_ring_37 rfl rfl ?_
          obtain ⟨x9, hc10, hs⟩ := bnd hs
          refine go_callV (bc := 0) (bs := 0) (mc := 0) (ms := 0) (d := d + 2) (pc := 38) (a := (pN p3.1)) (ci := 2) [vI a2, vI a3] [] dX5_ring_38 kX2_becomeRing mlX5_71 ivX2_becomeRing rfl rfl (wC_net p3) rfl (Nat.le_of_ble_eq_true rfl) rfl (c_X2_becomeRing (d := d + 0) (res0 := x9.1) (res1 := x9.2) hc10) (fun r w' hq => ?_)
          obtain ⟨rfl, rfl⟩ := hq
          show Go mX5_ring (d + 3) false 0 0 41 [some (vR 0), some (vI a1), some (vI a2), some (vI a3), some (vR (pN p3.1))] [] (wC x9.1 x9.2 ga gi gs oK cT ra rb cR cP cM ea eb cW aO aC aQ) _
          refine go_aload (pc := 41) dX5_ring_41 rfl ?_
          obtain ⟨x11, hc12, hs⟩ := bnd hs
          refine go_callV (bc := 0) (bs := 0) (mc := 0) (ms := 0) (d := d + 2) (pc := 43) (a := (pN p3.1)) (ci := 2) [] [] dX5_ring_43 kX2_lineCount mlX5_74 ivX2_lineCount rfl rfl (wC_net p3) rfl (Nat.le_of_ble_eq_true rfl) rfl (c_X2_lineCount (d := d + 0) (res0 := x11) hc12) (fun r w' hq => ?_)
          obtain ⟨rfl, rfl⟩ := hq
          show Go mX5_ring (d + 3) false 0 0 46 [some (vR 0), some (vI a1), some (vI a2), some (vI a3), some (vR (pN p3.1))] [vI x11] (wC x9.1 x9.2 ga gi gs oK cT ra rb cR cP cM ea eb cW aO aC aQ) _
          cases hs
          exact go_ireturn (st := []) (pc := 46) dX5_ring_46 rfl (vp_nar_int _) (fun h => by cases h) ⟨rfl, rfl⟩
        · have hs := it_f h8 hs
          refine go_bipush (pc := 31) (-2 : Int32) dX5_ring_31 (by decide) ?_
          cases hs
          exact go_ireturn (st := []) (pc := 33) dX5_ring_33 rfl (vp_nar_int _) (fun h => by cases h) ⟨rfl, rfl⟩
noncomputable def s_X5_product (cK : (Nat → Int32)) (cF : (Nat → Nat → Int32)) (a1 : Int32) (a2 : Int32) (a3 : Int32) : Option (Int32 × (Nat → Int32) × (Nat → Nat → Int32)) := (s_X5_netAt a1).bind (fun x1 => (s_X5_netAt a2).bind (fun x3 => (s_X5_netAt a3).bind (fun x5 => Option.elim x1 (some ((-2 : Int32), cK, cF)) (fun p7 => Option.elim x3 (some ((-2 : Int32), cK, cF)) (fun p8 => Option.elim x5 (some ((-2 : Int32), cK, cF)) (fun p9 => if ((cK p7.1) * (cK p8.1)) ≤ (10 : Int32) then ((s_X2_becomeProduct cK cF (4 : Fin 5) p7 p8).bind (fun x11 => (s_X2_becomeCopy x11.1 x11.2 p9 (4 : Fin 5)).bind (fun x13 => some (x13.1 p9.1, x13.1, x13.2)))) else (some ((-3 : Int32), cK, cF))))))))
set_option maxRecDepth 20000 in
theorem c_X5_product {d : Nat}  {a1 : Int32} {a2 : Int32} {a3 : Int32} {res0 : Int32} {res1 : (Nat → Int32)} {res2 : (Nat → Nat → Int32)} (hs : s_X5_product cK cF a1 a2 a3 = some (res0, res1, res2)) : Calls mX5_product (d + 3) false 0 0 [vR 0, vI a1, vI a2, vI a3] (wC cK cF ga gi gs oK cT ra rb cR cP cM ea eb cW aO aC aQ) (fun r w' => r = some (vI res0) ∧ w' = (wC res1 res2 ga gi gs oK cT ra rb cR cP cM ea eb cW aO aC aQ)) := by
  unfold s_X5_product at hs
  refine Calls.of kX5_product 3 [some (vR 0), some (vI a1), some (vI a2), some (vI a3), none, none, none] rfl (Nat.le_of_ble_eq_true rfl) ?_
  refine go_aload_n (pc := 0) 0 dX5_product_0 rfl rfl ?_
  refine go_iload_n (pc := 1) 1 dX5_product_1 rfl rfl ?_
  obtain ⟨x1, hc2, hs⟩ := bnd hs
  refine go_callV (bc := 0) (bs := 0) (mc := 0) (ms := 0) (d := d + 2) (pc := 2) (a := 0) (ci := 5) [vI a1] [] dX5_product_2 kX5_netAt mlX5_48 ivX5_netAt rfl rfl rfl rfl (Nat.le_of_ble_eq_true rfl) rfl (c_X5_netAt (d := d + 2) (res0 := x1) hc2) (fun r w' hq => ?_)
  obtain ⟨rfl, rfl⟩ := hq
  show Go mX5_product (d + 3) false 0 0 5 [some (vR 0), some (vI a1), some (vI a2), some (vI a3), none, none, none] [vQ (x1.map (fun i => pN i.1))] (wC cK cF ga gi gs oK cT ra rb cR cP cM ea eb cW aO aC aQ) _
  refine go_astore (pc := 5) [some (vR 0), some (vI a1), some (vI a2), some (vI a3), some (vQ (x1.map (fun i => pN i.1))), none, none] dX5_product_5 (by decide) rfl ?_
  refine go_aload_n (pc := 7) 0 dX5_product_7 rfl rfl ?_
  refine go_iload_n (pc := 8) 2 dX5_product_8 rfl rfl ?_
  obtain ⟨x3, hc4, hs⟩ := bnd hs
  refine go_callV (bc := 0) (bs := 0) (mc := 0) (ms := 0) (d := d + 2) (pc := 9) (a := 0) (ci := 5) [vI a2] [] dX5_product_9 kX5_netAt mlX5_48 ivX5_netAt rfl rfl rfl rfl (Nat.le_of_ble_eq_true rfl) rfl (c_X5_netAt (d := d + 2) (res0 := x3) hc4) (fun r w' hq => ?_)
  obtain ⟨rfl, rfl⟩ := hq
  show Go mX5_product (d + 3) false 0 0 12 [some (vR 0), some (vI a1), some (vI a2), some (vI a3), some (vQ (x1.map (fun i => pN i.1))), none, none] [vQ (x3.map (fun i => pN i.1))] (wC cK cF ga gi gs oK cT ra rb cR cP cM ea eb cW aO aC aQ) _
  refine go_astore (pc := 12) [some (vR 0), some (vI a1), some (vI a2), some (vI a3), some (vQ (x1.map (fun i => pN i.1))), some (vQ (x3.map (fun i => pN i.1))), none] dX5_product_12 (by decide) rfl ?_
  refine go_aload_n (pc := 14) 0 dX5_product_14 rfl rfl ?_
  refine go_iload_n (pc := 15) 3 dX5_product_15 rfl rfl ?_
  obtain ⟨x5, hc6, hs⟩ := bnd hs
  refine go_callV (bc := 0) (bs := 0) (mc := 0) (ms := 0) (d := d + 2) (pc := 16) (a := 0) (ci := 5) [vI a3] [] dX5_product_16 kX5_netAt mlX5_48 ivX5_netAt rfl rfl rfl rfl (Nat.le_of_ble_eq_true rfl) rfl (c_X5_netAt (d := d + 2) (res0 := x5) hc6) (fun r w' hq => ?_)
  obtain ⟨rfl, rfl⟩ := hq
  show Go mX5_product (d + 3) false 0 0 19 [some (vR 0), some (vI a1), some (vI a2), some (vI a3), some (vQ (x1.map (fun i => pN i.1))), some (vQ (x3.map (fun i => pN i.1))), none] [vQ (x5.map (fun i => pN i.1))] (wC cK cF ga gi gs oK cT ra rb cR cP cM ea eb cW aO aC aQ) _
  refine go_astore (pc := 19) [some (vR 0), some (vI a1), some (vI a2), some (vI a3), some (vQ (x1.map (fun i => pN i.1))), some (vQ (x3.map (fun i => pN i.1))), some (vQ (x5.map (fun i => pN i.1)))] dX5_product_19 (by decide) rfl ?_
  refine go_aload (pc := 21) dX5_product_21 rfl ?_
  rcases x1 with _ | p7
  · refine go_ifnull (pc := 23) 36 dX5_product_23 (by decide) (fun _ => ?_) (fun a h => by cases h)
    simp only [Option.elim_none] at hs
    refine go_bipush (pc := 36) (-2 : Int32) dX5_product_36 (by decide) ?_
    cases hs
    exact go_ireturn (st := []) (pc := 38) dX5_product_38 rfl (vp_nar_int _) (fun h => by cases h) ⟨rfl, rfl⟩
  · refine go_ifnull (pc := 23) 36 dX5_product_23 (by decide) (fun h => by cases h) (fun a _ => ?_)
    simp only [Option.elim_some] at hs
    show Go mX5_product (d + 3) false 0 0 26 [some (vR 0), some (vI a1), some (vI a2), some (vI a3), some (vR (pN p7.1)), some (vQ (x3.map (fun i => pN i.1))), some (vQ (x5.map (fun i => pN i.1)))] [] (wC cK cF ga gi gs oK cT ra rb cR cP cM ea eb cW aO aC aQ) _
    refine go_aload (pc := 26) dX5_product_26 rfl ?_
    rcases x3 with _ | p8
    · refine go_ifnull (pc := 28) 36 dX5_product_28 (by decide) (fun _ => ?_) (fun a h => by cases h)
      simp only [Option.elim_none] at hs
      refine go_bipush (pc := 36) (-2 : Int32) dX5_product_36 (by decide) ?_
      cases hs
      exact go_ireturn (st := []) (pc := 38) dX5_product_38 rfl (vp_nar_int _) (fun h => by cases h) ⟨rfl, rfl⟩
    · refine go_ifnull (pc := 28) 36 dX5_product_28 (by decide) (fun h => by cases h) (fun a _ => ?_)
      simp only [Option.elim_some] at hs
      show Go mX5_product (d + 3) false 0 0 31 [some (vR 0), some (vI a1), some (vI a2), some (vI a3), some (vR (pN p7.1)), some (vR (pN p8.1)), some (vQ (x5.map (fun i => pN i.1)))] [] (wC cK cF ga gi gs oK cT ra rb cR cP cM ea eb cW aO aC aQ) _
      refine go_aload (pc := 31) dX5_product_31 rfl ?_
      rcases x5 with _ | p9
      · refine go_ifnonnull (pc := 33) 39 dX5_product_33 (by decide) (fun a h => by cases h) (fun _ => ?_)
        simp only [Option.elim_none] at hs
        refine go_bipush (pc := 36) (-2 : Int32) dX5_product_36 (by decide) ?_
        cases hs
        exact go_ireturn (st := []) (pc := 38) dX5_product_38 rfl (vp_nar_int _) (fun h => by cases h) ⟨rfl, rfl⟩
      · refine go_ifnonnull (pc := 33) 39 dX5_product_33 (by decide) (fun a _ => ?_) (fun h => by cases h)
        simp only [Option.elim_some] at hs
        show Go mX5_product (d + 3) false 0 0 39 [some (vR 0), some (vI a1), some (vI a2), some (vI a3), some (vR (pN p7.1)), some (vR (pN p8.1)), some (vR (pN p9.1))] [] (wC cK cF ga gi gs oK cT ra rb cR cP cM ea eb cW aO aC aQ) _
        refine go_aload (pc := 39) dX5_product_39 rfl ?_
        refine go_getfield (pc := 41) (v := vI (cK p7.1)) (pN p7.1) 2 0 dX5_product_41 flX5_78 (wC_net p7) rfl ?_
        refine go_aload (pc := 44) dX5_product_44 rfl ?_
        refine go_getfield (pc := 46) (v := vI (cK p8.1)) (pN p8.1) 2 0 dX5_product_46 flX5_78 (wC_net p8) rfl ?_
        refine go_imul (pc := 49) dX5_product_49 ?_
        refine go_bipush (pc := 50) (10 : Int32) dX5_product_50 (by decide) ?_
        refine go_icmp_le (pc := 52) 58 dX5_product_52 (by decide) (fun h10 => ?_) (fun h10 => ?_)
        · have hs := it_t h10 hs
          refine go_aload_n (pc := 58) 0 dX5_product_58 rfl rfl ?_
          refine go_getfield (pc := 59) (v := vR (pN (4 : Fin 5).1)) 0 5 1 dX5_product_59 flX5_16 rfl rfl ?_
          refine go_aload (pc := 62) dX5_product_62 rfl ?_
          refine go_aload (pc := 64) dX5_product_64 rfl ?_
          obtain ⟨x11, hc12, hs⟩ := bnd hs
          refine go_callV (bc := 0) (bs := 0) (mc := 0) (ms := 0) (d := d + 2) (pc := 66) (a := (pN (4 : Fin 5).1)) (ci := 2) [vR (pN p7.1), vR (pN p8.1)] [] dX5_product_66 kX2_becomeProduct mlX5_82 ivX2_becomeProduct rfl rfl (wC_net (4 : Fin 5)) rfl (Nat.le_of_ble_eq_true rfl) rfl (c_X2_becomeProduct (d := d + 0) (res0 := x11.1) (res1 := x11.2) hc12) (fun r w' hq => ?_)
          obtain ⟨rfl, rfl⟩ := hq
          show Go mX5_product (d + 3) false 0 0 69 [some (vR 0), some (vI a1), some (vI a2), some (vI a3), some (vR (pN p7.1)), some (vR (pN p8.1)), some (vR (pN p9.1))] [] (wC x11.1 x11.2 ga gi gs oK cT ra rb cR cP cM ea eb cW aO aC aQ) _
          refine go_aload (pc := 69) dX5_product_69 rfl ?_
          refine go_aload_n (pc := 71) 0 dX5_product_71 rfl rfl ?_
          refine go_getfield (pc := 72) (v := vR (pN (4 : Fin 5).1)) 0 5 1 dX5_product_72 flX5_16 rfl rfl ?_
          obtain ⟨x13, hc14, hs⟩ := bnd hs
          refine go_callV (bc := 0) (bs := 0) (mc := 0) (ms := 0) (d := d + 2) (pc := 75) (a := (pN p9.1)) (ci := 2) [vR (pN (4 : Fin 5).1)] [] dX5_product_75 kX2_becomeCopy mlX5_86 ivX2_becomeCopy rfl rfl (wC_net p9) rfl (Nat.le_of_ble_eq_true rfl) rfl (c_X2_becomeCopy (d := d + 1) (res0 := x13.1) (res1 := x13.2) hc14) (fun r w' hq => ?_)
          obtain ⟨rfl, rfl⟩ := hq
          show Go mX5_product (d + 3) false 0 0 78 [some (vR 0), some (vI a1), some (vI a2), some (vI a3), some (vR (pN p7.1)), some (vR (pN p8.1)), some (vR (pN p9.1))] [] (wC x13.1 x13.2 ga gi gs oK cT ra rb cR cP cM ea eb cW aO aC aQ) _
          refine go_aload (pc := 78) dX5_product_78 rfl ?_
          refine go_getfield (pc := 80) (v := vI (x13.1 p9.1)) (pN p9.1) 2 0 dX5_product_80 flX5_78 (wC_net p9) rfl ?_
          cases hs
          exact go_ireturn (st := []) (pc := 83) dX5_product_83 rfl (vp_nar_int _) (fun h => by cases h) ⟨rfl, rfl⟩
        · have hs := it_f h10 hs
          refine go_bipush (pc := 55) (-3 : Int32) dX5_product_55 (by decide) ?_
          cases hs
          exact go_ireturn (st := []) (pc := 57) dX5_product_57 rfl (vp_nar_int _) (fun h => by cases h) ⟨rfl, rfl⟩
end
