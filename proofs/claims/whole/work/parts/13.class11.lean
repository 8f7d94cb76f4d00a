section
variable {cK : (Nat → Int32)} {cF : (Nat → Nat → Int32)} {ga : Int32} {gi : Int32} {gs : Int32} {oK : Int32} {cT : (Nat → Nat → Int32)} {ra : (Fin 2)} {rb : (Fin 2)} {cR : (Nat → Nat → Nat → Int64)} {cP : (Nat → Int64)} {cM : (Nat → Int64)} {ea : (Fin 2)} {eb : (Fin 2)} {cW : (Nat → Nat → Int64)} {aO : (Nat → Int32)} {aC : (Nat → Int32)} {aQ : (Nat → Int32)}
noncomputable def s_X5_walks (cK : (Nat → Int32)) (cF : (Nat → Nat → Int32)) (ea : (Fin 2)) (eb : (Fin 2)) (cW : (Nat → Nat → Int64)) (a1 : Int32) (a2 : Int32) (a3 : Int32) (a4 : Int32) : Option (Int64 × (Fin 2) × (Fin 2) × (Nat → Nat → Int64)) := (s_X5_netAt a1).bind (fun x1 => Option.elim x1 (some ((-2 : Int64), ea, eb, cW)) (fun p3 => (s_X2_hasKnots cK p3 a2 a3).bind (fun x4 => if x4 = 0 then (some ((-2 : Int64), ea, eb, cW)) else ((s_X5_isStepCount a4).bind (fun x7 => if x7 = 0 then (some ((-2 : Int64), ea, eb, cW)) else ((s_X4_walk cK cF ea eb cW p3 a2 a4).bind (fun x10 => chk a3 10 (some (x10.2.2 x10.1.1 a3.toNatClampNeg, x10.1, x10.2.1, x10.2.2)))))))))
set_option maxRecDepth 20000 in
theorem c_X5_walks {d : Nat}  {a1 : Int32} {a2 : Int32} {a3 : Int32} {a4 : Int32} {res0 : Int64} {res1 : (Fin 2)} {res2 : (Fin 2)} {res3 : (Nat → Nat → Int64)} (hs : s_X5_walks cK cF ea eb cW a1 a2 a3 a4 = some (res0, res1, res2, res3)) : Calls mX5_walks (d + 3) false 0 0 [vR 0, vI a1, vI a2, vI a3, vI a4] (wC cK cF ga gi gs oK cT ra rb cR cP cM ea eb cW aO aC aQ) (fun r w' => r = some (vL res0) ∧ w' = (wC cK cF ga gi gs oK cT ra rb cR cP cM res1 res2 res3 aO aC aQ)) := by
  unfold s_X5_walks at hs
  refine Calls.of kX5_walks 1 [some (vR 0), some (vI a1), some (vI a2), some (vI a3), some (vI a4), none] rfl (Nat.le_of_ble_eq_true rfl) ?_
  refine go_aload_n (pc := 0) 0 dX5_walks_0 rfl rfl ?_
  refine go_iload_n (pc := 1) 1 dX5_walks_1 rfl rfl ?_
  obtain ⟨x1, hc2, hs⟩ := bnd hs
  refine go_callV (bc := 0) (bs := 0) (mc := 0) (ms := 0) (d := d + 2) (pc := 2) (a := 0) (ci := 5) [vI a1] [] dX5_walks_2 kX5_netAt mlX5_48 ivX5_netAt rfl rfl rfl rfl (Nat.le_of_ble_eq_true rfl) rfl (c_X5_netAt (d := d + 2) (res0 := x1) hc2) (fun r w' hq => ?_)
  obtain ⟨rfl, rfl⟩ := hq
  show Go mX5_walks (d + 3) false 0 0 5 [some (vR 0), some (vI a1), some (vI a2), some (vI a3), some (vI a4), none] [vQ (x1.map (fun i => pN i.1))] (wC cK cF ga gi gs oK cT ra rb cR cP cM ea eb cW aO aC aQ) _
  refine go_astore (pc := 5) [some (vR 0), some (vI a1), some (vI a2), some (vI a3), some (vI a4), some (vQ (x1.map (fun i => pN i.1)))] dX5_walks_5 (by decide) rfl ?_
  refine go_aload (pc := 7) dX5_walks_7 rfl ?_
  rcases x1 with _ | p3
  · refine go_ifnull (pc := 9) 30 dX5_walks_9 (by decide) (fun _ => ?_) (fun a h => by cases h)
    simp only [Option.elim_none] at hs
    refine go_ldc2 (pc := 30) (-2 : Int64) dX5_walks_30 kcX5_158 ?_
    cases hs
    exact go_lreturn (st := []) (pc := 33) dX5_walks_33 rfl (fun h => by cases h) ⟨rfl, rfl⟩
  · refine go_ifnull (pc := 9) 30 dX5_walks_9 (by decide) (fun h => by cases h) (fun a _ => ?_)
    simp only [Option.elim_some] at hs
    show Go mX5_walks (d + 3) false 0 0 12 [some (vR 0), some (vI a1), some (vI a2), some (vI a3), some (vI a4), some (vR (pN p3.1))] [] (wC cK cF ga gi gs oK cT ra rb cR cP cM ea eb cW aO aC aQ) _
    refine go_aload (pc := 12) dX5_walks_12 rfl ?_
    refine go_iload_n (pc := 14) 2 dX5_walks_14 rfl rfl ?_
    refine go_iload_n (pc := 15) 3 dX5_walks_15 rfl rfl ?_
    obtain ⟨x4, hc5, hs⟩ := bnd hs
    refine go_callV (bc := 0) (bs := 0) (mc := 0) (ms := 0) (d := d + 2) (pc := 16) (a := (pN p3.1)) (ci := 2) [vI a2, vI a3] [] dX5_walks_16 kX2_hasKnots mlX5_152 ivX2_hasKnots rfl rfl (wC_net p3) rfl (Nat.le_of_ble_eq_true rfl) rfl (c_X2_hasKnots (d := d + 1) (res0 := x4) hc5) (fun r w' hq => ?_)
    obtain ⟨rfl, rfl⟩ := hq
    show Go mX5_walks (d + 3) false 0 0 19 [some (vR 0), some (vI a1), some (vI a2), some (vI a3), some (vI a4), some (vR (pN p3.1))] [vI x4] (wC cK cF ga gi gs oK cT ra rb cR cP cM ea eb cW aO aC aQ) _
    refine go_if_eq (pc := 19) 30 dX5_walks_19 (by decide) (fun h6 => ?_) (fun h6 => ?_)
    · have hs := it_t h6 hs
      refine go_ldc2 (pc := 30) (-2 : Int64) dX5_walks_30 kcX5_158 ?_
      cases hs
      exact go_lreturn (st := []) (pc := 33) dX5_walks_33 rfl (fun h => by cases h) ⟨rfl, rfl⟩
    · have hs := it_f h6 hs
      refine go_iload (pc := 22) dX5_walks_22 rfl ?_
      obtain ⟨x7, hc8, hs⟩ := bnd hs
      refine go_callS (bc := 0) (bs := 0) (mc := 0) (ms := 0) (d := d + 2) (pc := 24) [vI a4] [] dX5_walks_24 kX5_isStepCount mlX5_155 isX5_isStepCount rfl (Nat.le_of_ble_eq_true rfl) rfl (c_X5_isStepCount (d := d + 2) (res0 := x7) hc8) (fun r w' hq => ?_)
      obtain ⟨rfl, rfl⟩ := hq
      show Go mX5_walks (d + 3) false 0 0 27 [some (vR 0), some (vI a1), some (vI a2), some (vI a3), some (vI a4), some (vR (pN p3.1))] [vI x7] (wC cK cF ga gi gs oK cT ra rb cR cP cM ea eb cW aO aC aQ) _
      refine go_if_ne (pc := 27) 34 dX5_walks_27 (by decide) (fun h9 => ?_) (fun h9 => ?_)
      · have hs := it_f h9 hs
        refine go_aload_n (pc := 34) 0 dX5_walks_34 rfl rfl ?_
        refine go_getfield (pc := 35) (v := vR 41) 0 5 4 dX5_walks_35 flX5_37 rfl rfl ?_
        refine go_aload (pc := 38) dX5_walks_38 rfl ?_
        refine go_iload_n (pc := 40) 2 dX5_walks_40 rfl rfl ?_
        refine go_iload (pc := 41) dX5_walks_41 rfl ?_
        obtain ⟨x10, hc11, hs⟩ := bnd hs
        refine go_callV (bc := 0) (bs := 0) (mc := 0) (ms := 0) (d := d + 2) (pc := 43) (a := 41) (ci := 4) [vR (pN p3.1), vI a2, vI a4] [] dX5_walks_43 kX4_walk mlX5_160 ivX4_walk rfl rfl rfl rfl (Nat.le_of_ble_eq_true rfl) rfl (c_X4_walk (d := d + 0) (res0 := x10.1) (res1 := x10.2.1) (res2 := x10.2.2) hc11) (fun r w' hq => ?_)
        obtain ⟨rfl, rfl⟩ := hq
        show Go mX5_walks (d + 3) false 0 0 46 [some (vR 0), some (vI a1), some (vI a2), some (vI a3), some (vI a4), some (vR (pN p3.1))] [] (wC cK cF ga gi gs oK cT ra rb cR cP cM x10.1 x10.2.1 x10.2.2 aO aC aQ) _
        refine go_aload_n (pc := 46) 0 dX5_walks_46 rfl rfl ?_
        refine go_getfield (pc := 47) (v := vR 41) 0 5 4 dX5_walks_47 flX5_37 rfl rfl ?_
        refine go_getfield (pc := 50) (v := vR (42 + x10.1.1)) 41 4 0 dX5_walks_50 flX5_164 rfl rfl ?_
        refine go_iload_n (pc := 53) 3 dX5_walks_53 rfl rfl ?_
        obtain ⟨hi12, hs⟩ := chk_t hs
        refine go_laload (pc := 54) (42 + x10.1.1) dX5_walks_54 (wC_wk x10.1) hi12 ?_
        cases hs
        exact go_lreturn (st := []) (pc := 55) dX5_walks_55 rfl (fun h => by cases h) ⟨rfl, rfl⟩
      · have hs := it_t h9 hs
        refine go_ldc2 (pc := 30) (-2 : Int64) dX5_walks_30 kcX5_158 ?_
        cases hs
        exact go_lreturn (st := []) (pc := 33) dX5_walks_33 rfl (fun h => by cases h) ⟨rfl, rfl⟩
noncomputable def b_X5_power_5 (y0 : Int32) (y1 : Int32) (x : Int64 × Int32) : Option ((Int64 × Int32) ⊕ (Int64)) := if y1 ≤ x.2 then (some (Sum.inr x.1)) else (some (Sum.inl (x.1 * y0.toInt64, x.2 + (1 : Int32))))
noncomputable def s_X5_power (a0 : Int32) (a1 : Int32) : Option (Int64) := (loop (b_X5_power_5 a0 a1) ((1 : Int64), (0 : Int32))).bind (fun e2 => some e2)
set_option maxRecDepth 20000 in
theorem g_X5_power_5 {d : Nat} {w : List AC}  {Q : Option AV → List AC → Prop} {y0 : Int32} {y1 : Int32}  (x0_ : Int64) (x1_ : Int32) (r : Int64) (hl : loop (b_X5_power_5 y0 y1) (x0_, x1_) = some r) (hk : Go mX5_power (d + 0) false 0 0 22 [none, none, some (vL r), none, none] [] w Q) : Go mX5_power (d + 0) false 0 0 5 [some (vI y0), some (vI y1), some (vL x0_), none, some (vI x1_)] [] w Q := by
  refine loop_go (P := fun x : Int64 × Int32 => ∀ (x0_ : Int64) (x1_ : Int32), x = (x0_, x1_) → Go mX5_power (d + 0) false 0 0 5 [some (vI y0), some (vI y1), some (vL x0_), none, some (vI x1_)] [] w Q) (K := fun r : Int64 => Go mX5_power (d + 0) false 0 0 22 [none, none, some (vL r), none, none] [] w Q) ?_ (x0_, x1_) r hl hk x0_ x1_ rfl
  · intro x y hs hI hE x0_ x1_ hx
    subst hx
    unfold b_X5_power_5 at hs
    try dsimp only at hs
    refine go_iload (pc := 5) dX5_power_5 rfl ?_
    refine go_iload_n (pc := 7) 1 dX5_power_7 rfl rfl ?_
    refine go_icmp_ge (pc := 8) 22 dX5_power_8 (by decide) (fun h1 => ?_) (fun h1 => ?_)
    · have hs := it_t h1 hs
      obtain rfl := Option.some.inj hs
      refine go_sub (lv' := [none, none, some (vL x0_), none, none]) ⟨rfl, trivial⟩ ?_
      exact hE x0_ rfl
    · have hs := it_f h1 hs
      refine go_lload_n (pc := 11) 2 dX5_power_11 rfl rfl ?_
      refine go_iload_n (pc := 12) 0 dX5_power_12 rfl rfl ?_
      refine go_i2l (pc := 13) dX5_power_13 ?_
      refine go_lmul (pc := 14) dX5_power_14 ?_
      refine go_lstore_n (pc := 15) 2 [some (vI y0), some (vI y1), some (vL (x0_ * y0.toInt64)), none, some (vI x1_)] dX5_power_15 rfl (by decide) rfl ?_
      refine go_iinc (pc := 16) (x1_ + (1 : Int32)) [some (vI y0), some (vI y1), some (vL (x0_ * y0.toInt64)), none, some (vI (x1_ + (1 : Int32)))] dX5_power_16 rfl (iinc_1 _) (by decide) rfl ?_
      refine go_goto (pc := 19) 5 dX5_power_19 (by decide) ?_
      obtain rfl := Option.some.inj hs
      exact hI (x0_ * y0.toInt64, x1_ + (1 : Int32)) rfl (x0_ * y0.toInt64) (x1_ + (1 : Int32)) rfl
set_option maxRecDepth 20000 in
theorem c_X5_power {d : Nat} {w : List AC} {a0 : Int32} {a1 : Int32} {res0 : Int64} (hs : s_X5_power a0 a1 = some res0) : Calls mX5_power (d + 0) false 0 0 [vI a0, vI a1] w (fun r w' => r = some (vL res0) ∧ w' = w) := by
  unfold s_X5_power at hs
  refine Calls.of kX5_power 3 [some (vI a0), some (vI a1), none, none, none] rfl (Nat.le_of_ble_eq_true rfl) ?_
  refine go_lconst (pc := 0) (1 : Int64) dX5_power_0 (by decide) ?_
  refine go_lstore_n (pc := 1) 2 [some (vI a0), some (vI a1), some (vL (1 : Int64)), none, none] dX5_power_1 rfl (by decide) rfl ?_
  refine go_iconst (pc := 2) (0 : Int32) dX5_power_2 (by decide) ?_
  refine go_istore (pc := 3) [some (vI a0), some (vI a1), some (vL (1 : Int64)), none, some (vI (0 : Int32))] dX5_power_3 (by decide) rfl ?_
  obtain ⟨e2, hl3, hs⟩ := bnd hs
  refine g_X5_power_5 (d := d) (1 : Int64) (0 : Int32) e2 hl3 ?_
  refine go_lload_n (pc := 22) 2 dX5_power_22 rfl rfl ?_
  cases hs
  exact go_lreturn (st := []) (pc := 23) dX5_power_23 rfl (fun h => by cases h) ⟨rfl, rfl⟩
noncomputable def s_X5_uneven (cK : (Nat → Int32)) (cF : (Nat → Nat → Int32)) (ea : (Fin 2)) (eb : (Fin 2)) (cW : (Nat → Nat → Int64)) (a1 : Int32) (a2 : Int32) (a3 : Int32) : Option (Int64 × (Fin 2) × (Fin 2) × (Nat → Nat → Int64)) := (s_X5_netAt a1).bind (fun x1 => Option.elim x1 (some ((-2 : Int64), ea, eb, cW)) (fun p3 => (s_X2_hasKnot cK p3 a2).bind (fun x4 => if x4 = 0 then (some ((-2 : Int64), ea, eb, cW)) else ((s_X5_isStepCount a3).bind (fun x7 => if x7 = 0 then (some ((-2 : Int64), ea, eb, cW)) else ((s_X2_evenDegree cK cF p3).bind (fun x10 => if x10 = (-1 : Int32) then (some ((-3 : Int64), ea, eb, cW)) else ((s_X4_walk cK cF ea eb cW p3 a2 a3).bind (fun x13 => (s_X5_power x10 a3).bind (fun x15 => (s_X4_unevenness x13.1 x13.2.2 (cK p3.1) x15).bind (fun x17 => some (x17, x13.1, x13.2.1, x13.2.2))))))))))))
set_option maxRecDepth 20000 in
theorem c_X5_uneven {d : Nat}  {a1 : Int32} {a2 : Int32} {a3 : Int32} {res0 : Int64} {res1 : (Fin 2)} {res2 : (Fin 2)} {res3 : (Nat → Nat → Int64)} (hs : s_X5_uneven cK cF ea eb cW a1 a2 a3 = some (res0, res1, res2, res3)) : Calls mX5_uneven (d + 3) false 0 0 [vR 0, vI a1, vI a2, vI a3] (wC cK cF ga gi gs oK cT ra rb cR cP cM ea eb cW aO aC aQ) (fun r w' => r = some (vL res0) ∧ w' = (wC cK cF ga gi gs oK cT ra rb cR cP cM res1 res2 res3 aO aC aQ)) := by
  unfold s_X5_uneven at hs
  refine Calls.of kX5_uneven 2 [some (vR 0), some (vI a1), some (vI a2), some (vI a3), none, none] rfl (Nat.le_of_ble_eq_true rfl) ?_
  refine go_aload_n (pc := 0) 0 dX5_uneven_0 rfl rfl ?_
  refine go_iload_n (pc := 1) 1 dX5_uneven_1 rfl rfl ?_
  obtain ⟨x1, hc2, hs⟩ := bnd hs
  refine go_callV (bc := 0) (bs := 0) (mc := 0) (ms := 0) (d := d + 2) (pc := 2) (a := 0) (ci := 5) [vI a1] [] dX5_uneven_2 kX5_netAt mlX5_48 ivX5_netAt rfl rfl rfl rfl (Nat.le_of_ble_eq_true rfl) rfl (c_X5_netAt (d := d + 2) (res0 := x1) hc2) (fun r w' hq => ?_)
  obtain ⟨rfl, rfl⟩ := hq
  show Go mX5_uneven (d + 3) false 0 0 5 [some (vR 0), some (vI a1), some (vI a2), some (vI a3), none, none] [vQ (x1.map (fun i => pN i.1))] (wC cK cF ga gi gs oK cT ra rb cR cP cM ea eb cW aO aC aQ) _
  refine go_astore (pc := 5) [some (vR 0), some (vI a1), some (vI a2), some (vI a3), some (vQ (x1.map (fun i => pN i.1))), none] dX5_uneven_5 (by decide) rfl ?_
  refine go_aload (pc := 7) dX5_uneven_7 rfl ?_
  rcases x1 with _ | p3
  · refine go_ifnull (pc := 9) 28 dX5_uneven_9 (by decide) (fun _ => ?_) (fun a h => by cases h)
    simp only [Option.elim_none] at hs
    refine go_ldc2 (pc := 28) (-2 : Int64) dX5_uneven_28 kcX5_158 ?_
    cases hs
    exact go_lreturn (st := []) (pc := 31) dX5_uneven_31 rfl (fun h => by cases h) ⟨rfl, rfl⟩
  · refine go_ifnull (pc := 9) 28 dX5_uneven_9 (by decide) (fun h => by cases h) (fun a _ => ?_)
    simp only [Option.elim_some] at hs
    show Go mX5_uneven (d + 3) false 0 0 12 [some (vR 0), some (vI a1), some (vI a2), some (vI a3), some (vR (pN p3.1)), none] [] (wC cK cF ga gi gs oK cT ra rb cR cP cM ea eb cW aO aC aQ) _
    refine go_aload (pc := 12) dX5_uneven_12 rfl ?_
    refine go_iload_n (pc := 14) 2 dX5_uneven_14 rfl rfl ?_
    obtain ⟨x4, hc5, hs⟩ := bnd hs
    refine go_callV (bc := 0) (bs := 0) (mc := 0) (ms := 0) (d := d + 2) (pc := 15) (a := (pN p3.1)) (ci := 2) [vI a2] [] dX5_uneven_15 kX2_hasKnot mlX5_99 ivX2_hasKnot rfl rfl (wC_net p3) rfl (Nat.le_of_ble_eq_true rfl) rfl (c_X2_hasKnot (d := d + 2) (res0 := x4) hc5) (fun r w' hq => ?_)
    obtain ⟨rfl, rfl⟩ := hq
    show Go mX5_uneven (d + 3) false 0 0 18 [some (vR 0), some (vI a1), some (vI a2), some (vI a3), some (vR (pN p3.1)), none] [vI x4] (wC cK cF ga gi gs oK cT ra rb cR cP cM ea eb cW aO aC aQ) _
    refine go_if_eq (pc := 18) 28 dX5_uneven_18 (by decide) (fun h6 => ?_) (fun h6 => ?_)
    · have hs := it_t h6 hs
      refine go_ldc2 (pc := 28) (-2 : Int64) dX5_uneven_28 kcX5_158 ?_
      cases hs
      exact go_lreturn (st := []) (pc := 31) dX5_uneven_31 rfl (fun h => by cases h) ⟨rfl, rfl⟩
    · have hs := it_f h6 hs
      refine go_iload_n (pc := 21) 3 dX5_uneven_21 rfl rfl ?_
      obtain ⟨x7, hc8, hs⟩ := bnd hs
      refine go_callS (bc := 0) (bs := 0) (mc := 0) (ms := 0) (d := d + 2) (pc := 22) [vI a3] [] dX5_uneven_22 kX5_isStepCount mlX5_155 isX5_isStepCount rfl (Nat.le_of_ble_eq_true rfl) rfl (c_X5_isStepCount (d := d + 2) (res0 := x7) hc8) (fun r w' hq => ?_)
      obtain ⟨rfl, rfl⟩ := hq
      show Go mX5_uneven (d + 3) false 0 0 25 [some (vR 0), some (vI a1), some (vI a2), some (vI a3), some (vR (pN p3.1)), none] [vI x7] (wC cK cF ga gi gs oK cT ra rb cR cP cM ea eb cW aO aC aQ) _
      refine go_if_ne (pc := 25) 32 dX5_uneven_25 (by decide) (fun h9 => ?_) (fun h9 => ?_)
      · have hs := it_f h9 hs
        refine go_aload (pc := 32) dX5_uneven_32 rfl ?_
        obtain ⟨x10, hc11, hs⟩ := bnd hs
        refine go_callV (bc := 0) (bs := 0) (mc := 0) (ms := 0) (d := d + 2) (pc := 34) (a := (pN p3.1)) (ci := 2) [] [] dX5_uneven_34 kX2_evenDegree mlX5_93 ivX2_evenDegree rfl rfl (wC_net p3) rfl (Nat.le_of_ble_eq_true rfl) rfl (c_X2_evenDegree (d := d + 0) (res0 := x10) hc11) (fun r w' hq => ?_)
        obtain ⟨rfl, rfl⟩ := hq
        show Go mX5_uneven (d + 3) false 0 0 37 [some (vR 0), some (vI a1), some (vI a2), some (vI a3), some (vR (pN p3.1)), none] [vI x10] (wC cK cF ga gi gs oK cT ra rb cR cP cM ea eb cW aO aC aQ) _
        refine go_istore (pc := 37) [some (vR 0), some (vI a1), some (vI a2), some (vI a3), some (vR (pN p3.1)), some (vI x10)] dX5_uneven_37 (by decide) rfl ?_
        refine go_iload (pc := 39) dX5_uneven_39 rfl ?_
        refine go_iconst (pc := 41) (-1 : Int32) dX5_uneven_41 (by decide) ?_
        refine go_icmp_ne (pc := 42) 49 dX5_uneven_42 (by decide) (fun h12 => ?_) (fun h12 => ?_)
        · have hs := it_f h12 hs
          refine go_aload_n (pc := 49) 0 dX5_uneven_49 rfl rfl ?_
          refine go_getfield (pc := 50) (v := vR 41) 0 5 4 dX5_uneven_50 flX5_37 rfl rfl ?_
          refine go_aload (pc := 53) dX5_uneven_53 rfl ?_
          refine go_iload_n (pc := 55) 2 dX5_uneven_55 rfl rfl ?_
          refine go_iload_n (pc := 56) 3 dX5_uneven_56 rfl rfl ?_
          obtain ⟨x13, hc14, hs⟩ := bnd hs
          refine go_callV (bc := 0) (bs := 0) (mc := 0) (ms := 0) (d := d + 2) (pc := 57) (a := 41) (ci := 4) [vR (pN p3.1), vI a2, vI a3] [] dX5_uneven_57 kX4_walk mlX5_160 ivX4_walk rfl rfl rfl rfl (Nat.le_of_ble_eq_true rfl) rfl (c_X4_walk (d := d + 0) (res0 := x13.1) (res1 := x13.2.1) (res2 := x13.2.2) hc14) (fun r w' hq => ?_)
          obtain ⟨rfl, rfl⟩ := hq
          show Go mX5_uneven (d + 3) false 0 0 60 [some (vR 0), some (vI a1), some (vI a2), some (vI a3), some (vR (pN p3.1)), some (vI x10)] [] (wC cK cF ga gi gs oK cT ra rb cR cP cM x13.1 x13.2.1 x13.2.2 aO aC aQ) _
          refine go_aload_n (pc := 60) 0 dX5_uneven_60 rfl rfl ?_
          refine go_getfield (pc := 61) (v := vR 41) 0 5 4 dX5_uneven_61 flX5_37 rfl rfl ?_
          refine go_aload (pc := 64) dX5_uneven_64 rfl ?_
          refine go_getfield (pc := 66) (v := vI (cK p3.1)) (pN p3.1) 2 0 dX5_uneven_66 flX5_78 (wC_net p3) rfl ?_
          refine go_iload (pc := 69) dX5_uneven_69 rfl ?_
          refine go_iload_n (pc := 71) 3 dX5_uneven_71 rfl rfl ?_
          obtain ⟨x15, hc16, hs⟩ := bnd hs
          refine go_callS (bc := 0) (bs := 0) (mc := 0) (ms := 0) (d := d + 2) (pc := 72) [vI x10, vI a3] [vI (cK p3.1), vR 41] dX5_uneven_72 kX5_power mlX5_170 isX5_power rfl (Nat.le_of_ble_eq_true rfl) rfl (c_X5_power (d := d + 2) (res0 := x15) hc16) (fun r w' hq => ?_)
          obtain ⟨rfl, rfl⟩ := hq
          show Go mX5_uneven (d + 3) false 0 0 75 [some (vR 0), some (vI a1), some (vI a2), some (vI a3), some (vR (pN p3.1)), some (vI x10)] [vL x15, vI (cK p3.1), vR 41] (wC cK cF ga gi gs oK cT ra rb cR cP cM x13.1 x13.2.1 x13.2.2 aO aC aQ) _
          obtain ⟨x17, hc18, hs⟩ := bnd hs
          refine go_callV (bc := 0) (bs := 0) (mc := 0) (ms := 0) (d := d + 2) (pc := 75) (a := 41) (ci := 4) [vI (cK p3.1), vL x15] [] dX5_uneven_75 kX4_unevenness mlX5_174 ivX4_unevenness rfl rfl rfl rfl (Nat.le_of_ble_eq_true rfl) rfl (c_X4_unevenness (d := d + 1) (res0 := x17) hc18) (fun r w' hq => ?_)
          obtain ⟨rfl, rfl⟩ := hq
          show Go mX5_uneven (d + 3) false 0 0 78 [some (vR 0), some (vI a1), some (vI a2), some (vI a3), some (vR (pN p3.1)), some (vI x10)] [vL x17] (wC cK cF ga gi gs oK cT ra rb cR cP cM x13.1 x13.2.1 x13.2.2 aO aC aQ) _
          cases hs
          exact go_lreturn (st := []) (pc := 78) dX5_uneven_78 rfl (fun h => by cases h) ⟨rfl, rfl⟩
        · have hs := it_t h12 hs
          refine go_ldc2 (pc := 45) (-3 : Int64) dX5_uneven_45 kcX5_168 ?_
          cases hs
          exact go_lreturn (st := []) (pc := 48) dX5_uneven_48 rfl (fun h => by cases h) ⟨rfl, rfl⟩
      · have hs := it_t h9 hs
        refine go_ldc2 (pc := 28) (-2 : Int64) dX5_uneven_28 kcX5_158 ?_
        cases hs
        exact go_lreturn (st := []) (pc := 31) dX5_uneven_31 rfl (fun h => by cases h) ⟨rfl, rfl⟩
noncomputable def s_X5_apart (cK : (Nat → Int32)) (cF : (Nat → Nat → Int32)) (aO : (Nat → Int32)) (aC : (Nat → Int32)) (aQ : (Nat → Int32)) (a1 : Int32) (a2 : Int32) (a3 : Int32) : Option (Int32 × (Nat → Int32) × (Nat → Int32) × (Nat → Int32)) := (s_X5_netAt a1).bind (fun x1 => Option.elim x1 (some ((-2 : Int32), aO, aC, aQ)) (fun p3 => (s_X2_hasSet cK p3 a2).bind (fun x4 => if x4 = 0 then (some ((-2 : Int32), aO, aC, aQ)) else ((s_X2_hasSet cK p3 a3).bind (fun x7 => if x7 = 0 then (some ((-2 : Int32), aO, aC, aQ)) else ((s_X0_most cK cF aO aC aQ p3 a2 a3).bind (fun x10 => some (x10.1, x10.2.1, x10.2.2.1, x10.2.2.2))))))))
set_option maxRecDepth 20000 in
theorem c_X5_apart {d : Nat}  {a1 : Int32} {a2 : Int32} {a3 : Int32} {res0 : Int32} {res1 : (Nat → Int32)} {res2 : (Nat → Int32)} {res3 : (Nat → Int32)} (hs : s_X5_apart cK cF aO aC aQ a1 a2 a3 = some (res0, res1, res2, res3)) : Calls mX5_apart (d + 3) false 0 0 [vR 0, vI a1, vI a2, vI a3] (wC cK cF ga gi gs oK cT ra rb cR cP cM ea eb cW aO aC aQ) (fun r w' => r = some (vI res0) ∧ w' = (wC cK cF ga gi gs oK cT ra rb cR cP cM ea eb cW res1 res2 res3)) := by
  unfold s_X5_apart at hs
  refine Calls.of kX5_apart 1 [some (vR 0), some (vI a1), some (vI a2), some (vI a3), none] rfl (Nat.le_of_ble_eq_true rfl) ?_
  refine go_aload_n (pc := 0) 0 dX5_apart_0 rfl rfl ?_
  refine go_iload_n (pc := 1) 1 dX5_apart_1 rfl rfl ?_
  obtain ⟨x1, hc2, hs⟩ := bnd hs
  refine go_callV (bc := 0) (bs := 0) (mc := 0) (ms := 0) (d := d + 2) (pc := 2) (a := 0) (ci := 5) [vI a1] [] dX5_apart_2 kX5_netAt mlX5_48 ivX5_netAt rfl rfl rfl rfl (Nat.le_of_ble_eq_true rfl) rfl (c_X5_netAt (d := d + 2) (res0 := x1) hc2) (fun r w' hq => ?_)
  obtain ⟨rfl, rfl⟩ := hq
  show Go mX5_apart (d + 3) false 0 0 5 [some (vR 0), some (vI a1), some (vI a2), some (vI a3), none] [vQ (x1.map (fun i => pN i.1))] (wC cK cF ga gi gs oK cT ra rb cR cP cM ea eb cW aO aC aQ) _
  refine go_astore (pc := 5) [some (vR 0), some (vI a1), some (vI a2), some (vI a3), some (vQ (x1.map (fun i => pN i.1)))] dX5_apart_5 (by decide) rfl ?_
  refine go_aload (pc := 7) dX5_apart_7 rfl ?_
  rcases x1 with _ | p3
  · refine go_ifnull (pc := 9) 30 dX5_apart_9 (by decide) (fun _ => ?_) (fun a h => by cases h)
    simp only [Option.elim_none] at hs
    refine go_bipush (pc := 30) (-2 : Int32) dX5_apart_30 (by decide) ?_
    cases hs
    exact go_ireturn (st := []) (pc := 32) dX5_apart_32 rfl (vp_nar_int _) (fun h => by cases h) ⟨rfl, rfl⟩
  · refine go_ifnull (pc := 9) 30 dX5_apart_9 (by decide) (fun h => by cases h) (fun a _ => ?_)
    simp only [Option.elim_some] at hs
    show Go mX5_apart (d + 3) false 0 0 12 [some (vR 0), some (vI a1), some (vI a2), some (vI a3), some (vR (pN p3.1))] [] (wC cK cF ga gi gs oK cT ra rb cR cP cM ea eb cW aO aC aQ) _
    refine go_aload (pc := 12) dX5_apart_12 rfl ?_
    refine go_iload_n (pc := 14) 2 dX5_apart_14 rfl rfl ?_
    obtain ⟨x4, hc5, hs⟩ := bnd hs
    refine go_callV (bc := 0) (bs := 0) (mc := 0) (ms := 0) (d := d + 2) (pc := 15) (a := (pN p3.1)) (ci := 2) [vI a2] [] dX5_apart_15 kX2_hasSet mlX5_178 ivX2_hasSet rfl rfl (wC_net p3) rfl (Nat.le_of_ble_eq_true rfl) rfl (c_X2_hasSet (d := d + 2) (res0 := x4) hc5) (fun r w' hq => ?_)
    obtain ⟨rfl, rfl⟩ := hq
    show Go mX5_apart (d + 3) false 0 0 18 [some (vR 0), some (vI a1), some (vI a2), some (vI a3), some (vR (pN p3.1))] [vI x4] (wC cK cF ga gi gs oK cT ra rb cR cP cM ea eb cW aO aC aQ) _
    refine go_if_eq (pc := 18) 30 dX5_apart_18 (by decide) (fun h6 => ?_) (fun h6 => ?_)
    · have hs := it_t h6 hs
      refine go_bipush (pc := 30) (-2 : Int32) dX5_apart_30 (by decide) ?_
      cases hs
      exact go_ireturn (st := []) (pc := 32) dX5_apart_32 rfl (vp_nar_int _) (fun h => by cases h) ⟨rfl, rfl⟩
    · have hs := it_f h6 hs
      refine go_aload (pc := 21) dX5_apart_21 rfl ?_
      refine go_iload_n (pc := 23) 3 dX5_apart_23 rfl rfl ?_
      obtain ⟨x7, hc8, hs⟩ := bnd hs
      refine go_callV (bc := 0) (bs := 0) (mc := 0) (ms := 0) (d := d + 2) (pc := 24) (a := (pN p3.1)) (ci := 2) [vI a3] [] dX5_apart_24 kX2_hasSet mlX5_178 ivX2_hasSet rfl rfl (wC_net p3) rfl (Nat.le_of_ble_eq_true rfl) rfl (c_X2_hasSet (d := d + 2) (res0 := x7) hc8) (fun r w' hq => ?_)
      obtain ⟨rfl, rfl⟩ := hq
      show Go mX5_apart (d + 3) false 0 0 27 [some (vR 0), some (vI a1), some (vI a2), some (vI a3), some (vR (pN p3.1))] [vI x7] (wC cK cF ga gi gs oK cT ra rb cR cP cM ea eb cW aO aC aQ) _
      refine go_if_ne (pc := 27) 33 dX5_apart_27 (by decide) (fun h9 => ?_) (fun h9 => ?_)
      · have hs := it_f h9 hs
        refine go_aload_n (pc := 33) 0 dX5_apart_33 rfl rfl ?_
        refine go_getfield (pc := 34) (v := vR 44) 0 5 5 dX5_apart_34 flX5_44 rfl rfl ?_
        refine go_aload (pc := 37) dX5_apart_37 rfl ?_
        refine go_iload_n (pc := 39) 2 dX5_apart_39 rfl rfl ?_
        refine go_iload_n (pc := 40) 3 dX5_apart_40 rfl rfl ?_
        obtain ⟨x10, hc11, hs⟩ := bnd hs
        refine go_callV (bc := 0) (bs := 0) (mc := 0) (ms := 0) (d := d + 2) (pc := 41) (a := 44) (ci := 0) [vR (pN p3.1), vI a2, vI a3] [] dX5_apart_41 kX0_most mlX5_181 ivX0_most rfl rfl rfl rfl (Nat.le_of_ble_eq_true rfl) rfl (c_X0_most (d := d + 0) (res0 := x10.1) (res1 := x10.2.1) (res2 := x10.2.2.1) (res3 := x10.2.2.2) hc11) (fun r w' hq => ?_)
        obtain ⟨rfl, rfl⟩ := hq
        show Go mX5_apart (d + 3) false 0 0 44 [some (vR 0), some (vI a1), some (vI a2), some (vI a3), some (vR (pN p3.1))] [vI x10.1] (wC cK cF ga gi gs oK cT ra rb cR cP cM ea eb cW x10.2.1 x10.2.2.1 x10.2.2.2) _
        cases hs
        exact go_ireturn (st := []) (pc := 44) dX5_apart_44 rfl (vp_nar_int _) (fun h => by cases h) ⟨rfl, rfl⟩
      · have hs := it_t h9 hs
        refine go_bipush (pc := 30) (-2 : Int32) dX5_apart_30 (by decide) ?_
        cases hs
        exact go_ireturn (st := []) (pc := 32) dX5_apart_32 rfl (vp_nar_int _) (fun h => by cases h) ⟨rfl, rfl⟩
noncomputable def s_X5_distance (cK : (Nat → Int32)) (cF : (Nat → Nat → Int32)) (a1 : Int32) (a2 : Int32) (a3 : Int32) : Option (Int32) := (s_X5_netAt a1).bind (fun x1 => Option.elim x1 (some (-2 : Int32)) (fun p3 => (s_X2_hasKnots cK p3 a2 a3).bind (fun x4 => if x4 = 0 then (some (-2 : Int32)) else ((s_X2_fewestLines cK cF p3 a2 a3 (1 : Int32)).bind (fun x7 => some x7)))))
set_option maxRecDepth 20000 in
theorem c_X5_distance {d : Nat}  {a1 : Int32} {a2 : Int32} {a3 : Int32} {res0 : Int32} (hs : s_X5_distance cK cF a1 a2 a3 = some res0) : Calls mX5_distance (d + 2) false 0 0 [vR 0, vI a1, vI a2, vI a3] (wC cK cF ga gi gs oK cT ra rb cR cP cM ea eb cW aO aC aQ) (fun r w' => r = some (vI res0) ∧ w' = (wC cK cF ga gi gs oK cT ra rb cR cP cM ea eb cW aO aC aQ)) := by
  unfold s_X5_distance at hs
  refine Calls.of kX5_distance 1 [some (vR 0), some (vI a1), some (vI a2), some (vI a3), none] rfl (Nat.le_of_ble_eq_true rfl) ?_
  refine go_aload_n (pc := 0) 0 dX5_distance_0 rfl rfl ?_
  refine go_iload_n (pc := 1) 1 dX5_distance_1 rfl rfl ?_
  obtain ⟨x1, hc2, hs⟩ := bnd hs
  refine go_callV (bc := 0) (bs := 0) (mc := 0) (ms := 0) (d := d + 1) (pc := 2) (a := 0) (ci := 5) [vI a1] [] dX5_distance_2 kX5_netAt mlX5_48 ivX5_netAt rfl rfl rfl rfl (Nat.le_of_ble_eq_true rfl) rfl (c_X5_netAt (d := d + 1) (res0 := x1) hc2) (fun r w' hq => ?_)
  obtain ⟨rfl, rfl⟩ := hq
  show Go mX5_distance (d + 2) false 0 0 5 [some (vR 0), some (vI a1), some (vI a2), some (vI a3), none] [vQ (x1.map (fun i => pN i.1))] (wC cK cF ga gi gs oK cT ra rb cR cP cM ea eb cW aO aC aQ) _
  refine go_astore (pc := 5) [some (vR 0), some (vI a1), some (vI a2), some (vI a3), some (vQ (x1.map (fun i => pN i.1)))] dX5_distance_5 (by decide) rfl ?_
  refine go_aload (pc := 7) dX5_distance_7 rfl ?_
  rcases x1 with _ | p3
  · refine go_ifnull (pc := 9) 22 dX5_distance_9 (by decide) (fun _ => ?_) (fun a h => by cases h)
    simp only [Option.elim_none] at hs
    refine go_bipush (pc := 22) (-2 : Int32) dX5_distance_22 (by decide) ?_
    cases hs
    exact go_ireturn (st := []) (pc := 24) dX5_distance_24 rfl (vp_nar_int _) (fun h => by cases h) ⟨rfl, rfl⟩
  · refine go_ifnull (pc := 9) 22 dX5_distance_9 (by decide) (fun h => by cases h) (fun a _ => ?_)
    simp only [Option.elim_some] at hs
    show Go mX5_distance (d + 2) false 0 0 12 [some (vR 0), some (vI a1), some (vI a2), some (vI a3), some (vR (pN p3.1))] [] (wC cK cF ga gi gs oK cT ra rb cR cP cM ea eb cW aO aC aQ) _
    refine go_aload (pc := 12) dX5_distance_12 rfl ?_
    refine go_iload_n (pc := 14) 2 dX5_distance_14 rfl rfl ?_
    refine go_iload_n (pc := 15) 3 dX5_distance_15 rfl rfl ?_
    obtain ⟨x4, hc5, hs⟩ := bnd hs
    refine go_callV (bc := 0) (bs := 0) (mc := 0) (ms := 0) (d := d + 1) (pc := 16) (a := (pN p3.1)) (ci := 2) [vI a2, vI a3] [] dX5_distance_16 kX2_hasKnots mlX5_152 ivX2_hasKnots rfl rfl (wC_net p3) rfl (Nat.le_of_ble_eq_true rfl) rfl (c_X2_hasKnots (d := d + 0) (res0 := x4) hc5) (fun r w' hq => ?_)
    obtain ⟨rfl, rfl⟩ := hq
    show Go mX5_distance (d + 2) false 0 0 19 [some (vR 0), some (vI a1), some (vI a2), some (vI a3), some (vR (pN p3.1))] [vI x4] (wC cK cF ga gi gs oK cT ra rb cR cP cM ea eb cW aO aC aQ) _
    refine go_if_ne (pc := 19) 25 dX5_distance_19 (by decide) (fun h6 => ?_) (fun h6 => ?_)
    · have hs := it_f h6 hs
      refine go_aload (pc := 25) dX5_distance_25 rfl ?_
      refine go_iload_n (pc := 27) 2 dX5_distance_27 rfl rfl ?_
      refine go_iload_n (pc := 28) 3 dX5_distance_28 rfl rfl ?_
      refine go_iconst (pc := 29) (1 : Int32) dX5_distance_29 (by decide) ?_
      obtain ⟨x7, hc8, hs⟩ := bnd hs
      refine go_callV (bc := 0) (bs := 0) (mc := 0) (ms := 0) (d := d + 1) (pc := 30) (a := (pN p3.1)) (ci := 2) [vI a2, vI a3, vI (1 : Int32)] [] dX5_distance_30 kX2_fewestLines mlX5_185 ivX2_fewestLines rfl rfl (wC_net p3) rfl (Nat.le_of_ble_eq_true rfl) rfl (c_X2_fewestLines (d := d + 0) (res0 := x7) hc8) (fun r w' hq => ?_)
      obtain ⟨rfl, rfl⟩ := hq
      show Go mX5_distance (d + 2) false 0 0 33 [some (vR 0), some (vI a1), some (vI a2), some (vI a3), some (vR (pN p3.1))] [vI x7] (wC cK cF ga gi gs oK cT ra rb cR cP cM ea eb cW aO aC aQ) _
      cases hs
      exact go_ireturn (st := []) (pc := 33) dX5_distance_33 rfl (vp_nar_int _) (fun h => by cases h) ⟨rfl, rfl⟩
    · have hs := it_t h6 hs
      refine go_bipush (pc := 22) (-2 : Int32) dX5_distance_22 (by decide) ?_
      cases hs
      exact go_ireturn (st := []) (pc := 24) dX5_distance_24 rfl (vp_nar_int _) (fun h => by cases h) ⟨rfl, rfl⟩
noncomputable def s_X5_round (cK : (Nat → Int32)) (cF : (Nat → Nat → Int32)) (a1 : Int32) : Option (Int32) := (s_X5_netAt a1).bind (fun x1 => Option.elim x1 (some (-2 : Int32)) (fun p3 => (s_X2_shortestRound cK cF p3).bind (fun x4 => some x4)))
set_option maxRecDepth 20000 in
theorem c_X5_round {d : Nat}  {a1 : Int32} {res0 : Int32} (hs : s_X5_round cK cF a1 = some res0) : Calls mX5_round (d + 3) false 0 0 [vR 0, vI a1] (wC cK cF ga gi gs oK cT ra rb cR cP cM ea eb cW aO aC aQ) (fun r w' => r = some (vI res0) ∧ w' = (wC cK cF ga gi gs oK cT ra rb cR cP cM ea eb cW aO aC aQ)) := by
  unfold s_X5_round at hs
  refine Calls.of kX5_round 1 [some (vR 0), some (vI a1), none] rfl (Nat.le_of_ble_eq_true rfl) ?_
  refine go_aload_n (pc := 0) 0 dX5_round_0 rfl rfl ?_
  refine go_iload_n (pc := 1) 1 dX5_round_1 rfl rfl ?_
  obtain ⟨x1, hc2, hs⟩ := bnd hs
  refine go_callV (bc := 0) (bs := 0) (mc := 0) (ms := 0) (d := d + 2) (pc := 2) (a := 0) (ci := 5) [vI a1] [] dX5_round_2 kX5_netAt mlX5_48 ivX5_netAt rfl rfl rfl rfl (Nat.le_of_ble_eq_true rfl) rfl (c_X5_netAt (d := d + 2) (res0 := x1) hc2) (fun r w' hq => ?_)
  obtain ⟨rfl, rfl⟩ := hq
  show Go mX5_round (d + 3) false 0 0 5 [some (vR 0), some (vI a1), none] [vQ (x1.map (fun i => pN i.1))] (wC cK cF ga gi gs oK cT ra rb cR cP cM ea eb cW aO aC aQ) _
  refine go_astore_n (pc := 5) 2 [some (vR 0), some (vI a1), some (vQ (x1.map (fun i => pN i.1)))] dX5_round_5 rfl (by decide) rfl ?_
  refine go_aload_n (pc := 6) 2 dX5_round_6 rfl rfl ?_
  rcases x1 with _ | p3
  · refine go_ifnonnull (pc := 7) 13 dX5_round_7 (by decide) (fun a h => by cases h) (fun _ => ?_)
    simp only [Option.elim_none] at hs
    refine go_bipush (pc := 10) (-2 : Int32) dX5_round_10 (by decide) ?_
    cases hs
    exact go_ireturn (st := []) (pc := 12) dX5_round_12 rfl (vp_nar_int _) (fun h => by cases h) ⟨rfl, rfl⟩
  · refine go_ifnonnull (pc := 7) 13 dX5_round_7 (by decide) (fun a _ => ?_) (fun h => by cases h)
    simp only [Option.elim_some] at hs
    show Go mX5_round (d + 3) false 0 0 13 [some (vR 0), some (vI a1), some (vR (pN p3.1))] [] (wC cK cF ga gi gs oK cT ra rb cR cP cM ea eb cW aO aC aQ) _
    refine go_aload_n (pc := 13) 2 dX5_round_13 rfl rfl ?_
    obtain ⟨x4, hc5, hs⟩ := bnd hs
    refine go_callV (bc := 0) (bs := 0) (mc := 0) (ms := 0) (d := d + 2) (pc := 14) (a := (pN p3.1)) (ci := 2) [] [] dX5_round_14 kX2_shortestRound mlX5_189 ivX2_shortestRound rfl rfl (wC_net p3) rfl (Nat.le_of_ble_eq_true rfl) rfl (c_X2_shortestRound (d := d + 0) (res0 := x4) hc5) (fun r w' hq => ?_)
    obtain ⟨rfl, rfl⟩ := hq
    show Go mX5_round (d + 3) false 0 0 17 [some (vR 0), some (vI a1), some (vR (pN p3.1))] [vI x4] (wC cK cF ga gi gs oK cT ra rb cR cP cM ea eb cW aO aC aQ) _
    cases hs
    exact go_ireturn (st := []) (pc := 17) dX5_round_17 rfl (vp_nar_int _) (fun h => by cases h) ⟨rfl, rfl⟩
noncomputable def s_X5_odd (cK : (Nat → Int32)) (cF : (Nat → Nat → Int32)) (a1 : Int32) (a2 : Int64) : Option (Int32) := (s_X5_netAt a1).bind (fun x1 => Option.elim x1 (some (-2 : Int32)) (fun p3 => (s_X2_hasWord cK cF p3 a2).bind (fun x4 => if x4 = 0 then (some (-2 : Int32)) else ((s_X2_oddKnots cK cF p3 a2).bind (fun x7 => (s_J6_bitCount_0f7a4 x7).bind (fun x9 => some x9))))))
set_option maxRecDepth 20000 in
theorem c_X5_odd {d : Nat}  {a1 : Int32} {a2 : Int64} {res0 : Int32} (hs : s_X5_odd cK cF a1 a2 = some res0) : Calls mX5_odd (d + 4) false 0 0 [vR 0, vI a1, vL a2] (wC cK cF ga gi gs oK cT ra rb cR cP cM ea eb cW aO aC aQ) (fun r w' => r = some (vI res0) ∧ w' = (wC cK cF ga gi gs oK cT ra rb cR cP cM ea eb cW aO aC aQ)) := by
  unfold s_X5_odd at hs
  refine Calls.of kX5_odd 1 [some (vR 0), some (vI a1), some (vL a2), none, none] rfl (Nat.le_of_ble_eq_true rfl) ?_
  refine go_aload_n (pc := 0) 0 dX5_odd_0 rfl rfl ?_
  refine go_iload_n (pc := 1) 1 dX5_odd_1 rfl rfl ?_
  obtain ⟨x1, hc2, hs⟩ := bnd hs
  refine go_callV (bc := 0) (bs := 0) (mc := 0) (ms := 0) (d := d + 3) (pc := 2) (a := 0) (ci := 5) [vI a1] [] dX5_odd_2 kX5_netAt mlX5_48 ivX5_netAt rfl rfl rfl rfl (Nat.le_of_ble_eq_true rfl) rfl (c_X5_netAt (d := d + 3) (res0 := x1) hc2) (fun r w' hq => ?_)
  obtain ⟨rfl, rfl⟩ := hq
  show Go mX5_odd (d + 4) false 0 0 5 [some (vR 0), some (vI a1), some (vL a2), none, none] [vQ (x1.map (fun i => pN i.1))] (wC cK cF ga gi gs oK cT ra rb cR cP cM ea eb cW aO aC aQ) _
  refine go_astore (pc := 5) [some (vR 0), some (vI a1), some (vL a2), none, some (vQ (x1.map (fun i => pN i.1)))] dX5_odd_5 (by decide) rfl ?_
  refine go_aload (pc := 7) dX5_odd_7 rfl ?_
  rcases x1 with _ | p3
  · refine go_ifnull (pc := 9) 21 dX5_odd_9 (by decide) (fun _ => ?_) (fun a h => by cases h)
    simp only [Option.elim_none] at hs
    refine go_bipush (pc := 21) (-2 : Int32) dX5_odd_21 (by decide) ?_
    cases hs
    exact go_ireturn (st := []) (pc := 23) dX5_odd_23 rfl (vp_nar_int _) (fun h => by cases h) ⟨rfl, rfl⟩
  · refine go_ifnull (pc := 9) 21 dX5_odd_9 (by decide) (fun h => by cases h) (fun a _ => ?_)
    simp only [Option.elim_some] at hs
    show Go mX5_odd (d + 4) false 0 0 12 [some (vR 0), some (vI a1), some (vL a2), none, some (vR (pN p3.1))] [] (wC cK cF ga gi gs oK cT ra rb cR cP cM ea eb cW aO aC aQ) _
    refine go_aload (pc := 12) dX5_odd_12 rfl ?_
    refine go_lload_n (pc := 14) 2 dX5_odd_14 rfl rfl ?_
    obtain ⟨x4, hc5, hs⟩ := bnd hs
    refine go_callV (bc := 0) (bs := 0) (mc := 0) (ms := 0) (d := d + 3) (pc := 15) (a := (pN p3.1)) (ci := 2) [vL a2] [] dX5_odd_15 kX2_hasWord mlX5_192 ivX2_hasWord rfl rfl (wC_net p3) rfl (Nat.le_of_ble_eq_true rfl) rfl (c_X2_hasWord (d := d + 0) (res0 := x4) hc5) (fun r w' hq => ?_)
    obtain ⟨rfl, rfl⟩ := hq
    show Go mX5_odd (d + 4) false 0 0 18 [some (vR 0), some (vI a1), some (vL a2), none, some (vR (pN p3.1))] [vI x4] (wC cK cF ga gi gs oK cT ra rb cR cP cM ea eb cW aO aC aQ) _
    refine go_if_ne (pc := 18) 24 dX5_odd_18 (by decide) (fun h6 => ?_) (fun h6 => ?_)
    · have hs := it_f h6 hs
      refine go_aload (pc := 24) dX5_odd_24 rfl ?_
      refine go_lload_n (pc := 26) 2 dX5_odd_26 rfl rfl ?_
      obtain ⟨x7, hc8, hs⟩ := bnd hs
      refine go_callV (bc := 0) (bs := 0) (mc := 0) (ms := 0) (d := d + 3) (pc := 27) (a := (pN p3.1)) (ci := 2) [vL a2] [] dX5_odd_27 kX2_oddKnots mlX5_196 ivX2_oddKnots rfl rfl (wC_net p3) rfl (Nat.le_of_ble_eq_true rfl) rfl (c_X2_oddKnots (d := d + 2) (res0 := x7) hc8) (fun r w' hq => ?_)
      obtain ⟨rfl, rfl⟩ := hq
      show Go mX5_odd (d + 4) false 0 0 30 [some (vR 0), some (vI a1), some (vL a2), none, some (vR (pN p3.1))] [vI x7] (wC cK cF ga gi gs oK cT ra rb cR cP cM ea eb cW aO aC aQ) _
      obtain ⟨x9, hc10, hs⟩ := bnd hs
      refine go_callS (bc := 0) (bs := 0) (mc := 0) (ms := 0) (d := d + 3) (pc := 30) [vI x7] [] dX5_odd_30 kJ6_bitCount_0f7a4 mlX5_200 isJ6_bitCount_0f7a4 rfl (Nat.le_of_ble_eq_true rfl) rfl (c_J6_bitCount_0f7a4 (d := d + 3) (res0 := x9) hc10) (fun r w' hq => ?_)
      obtain ⟨rfl, rfl⟩ := hq
      show Go mX5_odd (d + 4) false 0 0 33 [some (vR 0), some (vI a1), some (vL a2), none, some (vR (pN p3.1))] [vI x9] (wC cK cF ga gi gs oK cT ra rb cR cP cM ea eb cW aO aC aQ) _
      cases hs
      exact go_ireturn (st := []) (pc := 33) dX5_odd_33 rfl (vp_nar_int _) (fun h => by cases h) ⟨rfl, rfl⟩
    · have hs := it_t h6 hs
      refine go_bipush (pc := 21) (-2 : Int32) dX5_odd_21 (by decide) ?_
      cases hs
      exact go_ireturn (st := []) (pc := 23) dX5_odd_23 rfl (vp_nar_int _) (fun h => by cases h) ⟨rfl, rfl⟩
noncomputable def s_X5_flipped (cK : (Nat → Int32)) (cF : (Nat → Nat → Int32)) (a1 : Int32) (a2 : Int64) : Option (Int64) := (s_X5_netAt a1).bind (fun x1 => Option.elim x1 (some (-2 : Int64)) (fun p3 => (s_X2_hasWord cK cF p3 a2).bind (fun x4 => if x4 = 0 then (some (-2 : Int64)) else ((s_X2_flipBack cK cF p3 a2).bind (fun x7 => some x7)))))
set_option maxRecDepth 20000 in
theorem c_X5_flipped {d : Nat}  {a1 : Int32} {a2 : Int64} {res0 : Int64} (hs : s_X5_flipped cK cF a1 a2 = some res0) : Calls mX5_flipped (d + 4) false 0 0 [vR 0, vI a1, vL a2] (wC cK cF ga gi gs oK cT ra rb cR cP cM ea eb cW aO aC aQ) (fun r w' => r = some (vL res0) ∧ w' = (wC cK cF ga gi gs oK cT ra rb cR cP cM ea eb cW aO aC aQ)) := by
  unfold s_X5_flipped at hs
  refine Calls.of kX5_flipped 1 [some (vR 0), some (vI a1), some (vL a2), none, none] rfl (Nat.le_of_ble_eq_true rfl) ?_
  refine go_aload_n (pc := 0) 0 dX5_flipped_0 rfl rfl ?_
  refine go_iload_n (pc := 1) 1 dX5_flipped_1 rfl rfl ?_
  obtain ⟨x1, hc2, hs⟩ := bnd hs
  refine go_callV (bc := 0) (bs := 0) (mc := 0) (ms := 0) (d := d + 3) (pc := 2) (a := 0) (ci := 5) [vI a1] [] dX5_flipped_2 kX5_netAt mlX5_48 ivX5_netAt rfl rfl rfl rfl (Nat.le_of_ble_eq_true rfl) rfl (c_X5_netAt (d := d + 3) (res0 := x1) hc2) (fun r w' hq => ?_)
  obtain ⟨rfl, rfl⟩ := hq
  show Go mX5_flipped (d + 4) false 0 0 5 [some (vR 0), some (vI a1), some (vL a2), none, none] [vQ (x1.map (fun i => pN i.1))] (wC cK cF ga gi gs oK cT ra rb cR cP cM ea eb cW aO aC aQ) _
  refine go_astore (pc := 5) [some (vR 0), some (vI a1), some (vL a2), none, some (vQ (x1.map (fun i => pN i.1)))] dX5_flipped_5 (by decide) rfl ?_
  refine go_aload (pc := 7) dX5_flipped_7 rfl ?_
  rcases x1 with _ | p3
  · refine go_ifnull (pc := 9) 21 dX5_flipped_9 (by decide) (fun _ => ?_) (fun a h => by cases h)
    simp only [Option.elim_none] at hs
    refine go_ldc2 (pc := 21) (-2 : Int64) dX5_flipped_21 kcX5_158 ?_
    cases hs
    exact go_lreturn (st := []) (pc := 24) dX5_flipped_24 rfl (fun h => by cases h) ⟨rfl, rfl⟩
  · refine go_ifnull (pc := 9) 21 dX5_flipped_9 (by decide) (fun h => by cases h) (fun a _ => ?_)
    simp only [Option.elim_some] at hs
    show Go mX5_flipped (d + 4) false 0 0 12 [some (vR 0), some (vI a1), some (vL a2), none, some (vR (pN p3.1))] [] (wC cK cF ga gi gs oK cT ra rb cR cP cM ea eb cW aO aC aQ) _
    refine go_aload (pc := 12) dX5_flipped_12 rfl ?_
    refine go_lload_n (pc := 14) 2 dX5_flipped_14 rfl rfl ?_
    obtain ⟨x4, hc5, hs⟩ := bnd hs
    refine go_callV (bc := 0) (bs := 0) (mc := 0) (ms := 0) (d := d + 3) (pc := 15) (a := (pN p3.1)) (ci := 2) [vL a2] [] dX5_flipped_15 kX2_hasWord mlX5_192 ivX2_hasWord rfl rfl (wC_net p3) rfl (Nat.le_of_ble_eq_true rfl) rfl (c_X2_hasWord (d := d + 0) (res0 := x4) hc5) (fun r w' hq => ?_)
    obtain ⟨rfl, rfl⟩ := hq
    show Go mX5_flipped (d + 4) false 0 0 18 [some (vR 0), some (vI a1), some (vL a2), none, some (vR (pN p3.1))] [vI x4] (wC cK cF ga gi gs oK cT ra rb cR cP cM ea eb cW aO aC aQ) _
    refine go_if_ne (pc := 18) 25 dX5_flipped_18 (by decide) (fun h6 => ?_) (fun h6 => ?_)
    · have hs := it_f h6 hs
      refine go_aload (pc := 25) dX5_flipped_25 rfl ?_
      refine go_lload_n (pc := 27) 2 dX5_flipped_27 rfl rfl ?_
      obtain ⟨x7, hc8, hs⟩ := bnd hs
      refine go_callV (bc := 0) (bs := 0) (mc := 0) (ms := 0) (d := d + 3) (pc := 28) (a := (pN p3.1)) (ci := 2) [vL a2] [] dX5_flipped_28 kX2_flipBack mlX5_205 ivX2_flipBack rfl rfl (wC_net p3) rfl (Nat.le_of_ble_eq_true rfl) rfl (c_X2_flipBack (d := d + 1) (res0 := x7) hc8) (fun r w' hq => ?_)
      obtain ⟨rfl, rfl⟩ := hq
      show Go mX5_flipped (d + 4) false 0 0 31 [some (vR 0), some (vI a1), some (vL a2), none, some (vR (pN p3.1))] [vL x7] (wC cK cF ga gi gs oK cT ra rb cR cP cM ea eb cW aO aC aQ) _
      cases hs
      exact go_lreturn (st := []) (pc := 31) dX5_flipped_31 rfl (fun h => by cases h) ⟨rfl, rfl⟩
    · have hs := it_t h6 hs
      refine go_ldc2 (pc := 21) (-2 : Int64) dX5_flipped_21 kcX5_158 ?_
      cases hs
      exact go_lreturn (st := []) (pc := 24) dX5_flipped_24 rfl (fun h => by cases h) ⟨rfl, rfl⟩
noncomputable def b_X5_digest_6 (cK : (Nat → Int32)) (cF : (Nat → Nat → Int32)) (x : Int64 × Int32) : Option ((Int64 × Int32) ⊕ (Int64)) := if (4 : Int32) ≤ x.2 then (some (Sum.inr x.1)) else (chk x.2 4 ((s_X2_addTo cK cF (fin5 x.2.toNatClampNeg) x.1).bind (fun x3 => some (Sum.inl (x3, x.2 + (1 : Int32))))))
noncomputable def s_X5_digest (cK : (Nat → Int32)) (cF : (Nat → Nat → Int32)) : Option (Int64) := (loop (b_X5_digest_6 cK cF) ((241 : Int64), (0 : Int32))).bind (fun e5 => some e5)
set_option maxRecDepth 20000 in
theorem g_X5_digest_6 {d : Nat}  {Q : Option AV → List AC → Prop}   (x0_ : Int64) (x1_ : Int32) (r : Int64) (hl : loop (b_X5_digest_6 cK cF) (x0_, x1_) = some r) (hk : Go mX5_digest (d + 1) false 0 0 28 [none, some (vL r), none, none] [] (wC cK cF ga gi gs oK cT ra rb cR cP cM ea eb cW aO aC aQ) Q) : Go mX5_digest (d + 1) false 0 0 6 [some (vR 0), some (vL x0_), none, some (vI x1_)] [] (wC cK cF ga gi gs oK cT ra rb cR cP cM ea eb cW aO aC aQ) Q := by
  refine loop_go (P := fun x : Int64 × Int32 => ∀ (x0_ : Int64) (x1_ : Int32), x = (x0_, x1_) → Go mX5_digest (d + 1) false 0 0 6 [some (vR 0), some (vL x0_), none, some (vI x1_)] [] (wC cK cF ga gi gs oK cT ra rb cR cP cM ea eb cW aO aC aQ) Q) (K := fun r : Int64 => Go mX5_digest (d + 1) false 0 0 28 [none, some (vL r), none, none] [] (wC cK cF ga gi gs oK cT ra rb cR cP cM ea eb cW aO aC aQ) Q) ?_ (x0_, x1_) r hl hk x0_ x1_ rfl
  · intro x y hs hI hE x0_ x1_ hx
    subst hx
    unfold b_X5_digest_6 at hs
    try dsimp only at hs
    refine go_iload_n (pc := 6) 3 dX5_digest_6 rfl rfl ?_
    refine go_iconst (pc := 7) (4 : Int32) dX5_digest_7 (by decide) ?_
    refine go_icmp_ge (pc := 8) 28 dX5_digest_8 (by decide) (fun h1 => ?_) (fun h1 => ?_)
    · have hs := it_t h1 hs
      obtain rfl := Option.some.inj hs
      refine go_sub (lv' := [none, some (vL x0_), none, none]) ⟨rfl, trivial⟩ ?_
      exact hE x0_ rfl
    · have hs := it_f h1 hs
      refine go_aload_n (pc := 11) 0 dX5_digest_11 rfl rfl ?_
      refine go_getfield (pc := 12) (v := vR 1) 0 5 0 dX5_digest_12 flX5_11 rfl rfl ?_
      refine go_iload_n (pc := 15) 3 dX5_digest_15 rfl rfl ?_
      obtain ⟨hi2, hs⟩ := chk_t hs
      refine go_aaload (pc := 16) 1 2 dX5_digest_16 (by decide) rfl hi2 ?_
      show Go mX5_digest (d + 1) false 0 0 17 [some (vR 0), some (vL x0_), none, some (vI x1_)] [vR (pN (fin5 x1_.toNatClampNeg).1)] (wC cK cF ga gi gs oK cT ra rb cR cP cM ea eb cW aO aC aQ) Q
      refine go_lload_n (pc := 17) 1 dX5_digest_17 rfl rfl ?_
      obtain ⟨x3, hc4, hs⟩ := bnd hs
      refine go_callV (bc := 0) (bs := 0) (mc := 0) (ms := 0) (d := d + 0) (pc := 18) (a := (pN (fin5 x1_.toNatClampNeg).1)) (ci := 2) [vL x0_] [] dX5_digest_18 kX2_addTo mlX5_211 ivX2_addTo rfl rfl (wC_net (fin5 x1_.toNatClampNeg)) rfl (Nat.le_of_ble_eq_true rfl) rfl (c_X2_addTo (d := d + 0) (res0 := x3) hc4) (fun r w' hq => ?_)
      obtain ⟨rfl, rfl⟩ := hq
      show Go mX5_digest (d + 1) false 0 0 21 [some (vR 0), some (vL x0_), none, some (vI x1_)] [vL x3] (wC cK cF ga gi gs oK cT ra rb cR cP cM ea eb cW aO aC aQ) Q
      refine go_lstore_n (pc := 21) 1 [some (vR 0), some (vL x3), none, some (vI x1_)] dX5_digest_21 rfl (by decide) rfl ?_
      refine go_iinc (pc := 22) (x1_ + (1 : Int32)) [some (vR 0), some (vL x3), none, some (vI (x1_ + (1 : Int32)))] dX5_digest_22 rfl (iinc_1 _) (by decide) rfl ?_
      refine go_goto (pc := 25) 6 dX5_digest_25 (by decide) ?_
      obtain rfl := Option.some.inj hs
      exact hI (x3, x1_ + (1 : Int32)) rfl x3 (x1_ + (1 : Int32)) rfl
set_option maxRecDepth 20000 in
theorem c_X5_digest {d : Nat}   {res0 : Int64} (hs : s_X5_digest cK cF = some res0) : Calls mX5_digest (d + 1) false 0 0 [vR 0] (wC cK cF ga gi gs oK cT ra rb cR cP cM ea eb cW aO aC aQ) (fun r w' => r = some (vL res0) ∧ w' = (wC cK cF ga gi gs oK cT ra rb cR cP cM ea eb cW aO aC aQ)) := by
  unfold s_X5_digest at hs
  refine Calls.of kX5_digest 3 [some (vR 0), none, none, none] rfl (Nat.le_of_ble_eq_true rfl) ?_
  refine go_ldc2 (pc := 0) (241 : Int64) dX5_digest_0 kcX5_209 ?_
  refine go_lstore_n (pc := 3) 1 [some (vR 0), some (vL (241 : Int64)), none, none] dX5_digest_3 rfl (by decide) rfl ?_
  refine go_iconst (pc := 4) (0 : Int32) dX5_digest_4 (by decide) ?_
  refine go_istore_n (pc := 5) 3 [some (vR 0), some (vL (241 : Int64)), none, some (vI (0 : Int32))] dX5_digest_5 rfl (by decide) rfl ?_
  obtain ⟨e5, hl6, hs⟩ := bnd hs
  refine g_X5_digest_6 (d := d) (241 : Int64) (0 : Int32) e5 hl6 ?_
  refine go_lload_n (pc := 28) 1 dX5_digest_28 rfl rfl ?_
  cases hs
  exact go_lreturn (st := []) (pc := 29) dX5_digest_29 rfl (fun h => by cases h) ⟨rfl, rfl⟩
end
