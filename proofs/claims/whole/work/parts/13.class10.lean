section
variable {cK : (Nat → Int32)} {cF : (Nat → Nat → Int32)} {ga : Int32} {gi : Int32} {gs : Int32} {oK : Int32} {cT : (Nat → Nat → Int32)} {ra : (Fin 2)} {rb : (Fin 2)} {cR : (Nat → Nat → Nat → Int64)} {cP : (Nat → Int64)} {cM : (Nat → Int64)} {ea : (Fin 2)} {eb : (Fin 2)} {cW : (Nat → Nat → Int64)} {aO : (Nat → Int32)} {aC : (Nat → Int32)} {aQ : (Nat → Int32)}
noncomputable def b_X5_second_25 (oK : Int32) (cP : (Nat → Int64)) (x : Int32 × (Nat → Int64)) : Option ((Int32 × (Nat → Int64)) ⊕ ((Int32 × (Nat → Int64)) ⊕ ((Nat → Int64)))) := if (18 : Int32) ≤ x.1 then (some (Sum.inr (Sum.inr x.2))) else ((s_X3_countAbove oK cP x.2 x.1).bind (fun x7 => if (1 : Int32) < x7.1 then (some (Sum.inl (x.1 + (1 : Int32), x7.2))) else (some (Sum.inr (Sum.inl (x.1, x7.2))))))
noncomputable def s_X5_second (cK : (Nat → Int32)) (cF : (Nat → Nat → Int32)) (oK : Int32) (cT : (Nat → Nat → Int32)) (ra : (Fin 2)) (rb : (Fin 2)) (cR : (Nat → Nat → Nat → Int64)) (cP : (Nat → Int64)) (cM : (Nat → Int64)) (a1 : Int32) : Option (Int32 × Int32 × (Nat → Nat → Int32) × (Fin 2) × (Fin 2) × (Nat → Nat → Nat → Int64) × (Nat → Int64) × (Nat → Int64)) := (s_X5_netAt a1).bind (fun x1 => Option.elim x1 (some ((-2 : Int32), oK, cT, ra, rb, cR, cP, cM)) (fun p3 => (s_X3_read cK cF oK cT ra rb cR cP p3 (0 : Int32)).bind (fun x4 => (loop (b_X5_second_25 x4.1 x4.2.2.2.2.2) ((-20 : Int32), cM)).bind (fun e10 => Sum.elim (fun e12 => some (e12.1, x4.1, x4.2.1, x4.2.2.1, x4.2.2.2.1, x4.2.2.2.2.1, x4.2.2.2.2.2, e12.2)) (fun v16 => some ((18 : Int32), x4.1, x4.2.1, x4.2.2.1, x4.2.2.2.1, x4.2.2.2.2.1, x4.2.2.2.2.2, v16)) e10))))
set_option maxRecDepth 20000 in
theorem g_X5_second_25 {d : Nat}  {Q : Option AV → List AC → Prop}   (x0_ : Int32) (x1_ : (Nat → Int64)) (r : (Int32 × (Nat → Int64)) ⊕ ((Nat → Int64))) (hl : loop (b_X5_second_25 oK cP) (x0_, x1_) = some r) (hk : (∀ (r0_ : Int32) (r1_ : (Nat → Int64)), r = Sum.inl (r0_, r1_) → Go mX5_second (d + 4) false 0 0 43 [none, none, none, some (vI r0_)] [] (wC cK cF ga gi gs oK cT ra rb cR cP r1_ ea eb cW aO aC aQ) Q) ∧ (∀ (r0_ : (Nat → Int64)), r = Sum.inr r0_ → Go mX5_second (d + 4) false 0 0 51 [none, none, none, none] [] (wC cK cF ga gi gs oK cT ra rb cR cP r0_ ea eb cW aO aC aQ) Q)) : Go mX5_second (d + 4) false 0 0 25 [some (vR 0), none, none, some (vI x0_)] [] (wC cK cF ga gi gs oK cT ra rb cR cP x1_ ea eb cW aO aC aQ) Q := by
  refine loop_go (P := fun x : Int32 × (Nat → Int64) => ∀ (x0_ : Int32) (x1_ : (Nat → Int64)), x = (x0_, x1_) → Go mX5_second (d + 4) false 0 0 25 [some (vR 0), none, none, some (vI x0_)] [] (wC cK cF ga gi gs oK cT ra rb cR cP x1_ ea eb cW aO aC aQ) Q) (K := fun r : (Int32 × (Nat → Int64)) ⊕ ((Nat → Int64)) => (∀ (r0_ : Int32) (r1_ : (Nat → Int64)), r = Sum.inl (r0_, r1_) → Go mX5_second (d + 4) false 0 0 43 [none, none, none, some (vI r0_)] [] (wC cK cF ga gi gs oK cT ra rb cR cP r1_ ea eb cW aO aC aQ) Q) ∧ (∀ (r0_ : (Nat → Int64)), r = Sum.inr r0_ → Go mX5_second (d + 4) false 0 0 51 [none, none, none, none] [] (wC cK cF ga gi gs oK cT ra rb cR cP r0_ ea eb cW aO aC aQ) Q)) ?_ (x0_, x1_) r hl hk x0_ x1_ rfl
  · intro x y hs hI hE x0_ x1_ hx
    subst hx
    unfold b_X5_second_25 at hs
    try dsimp only at hs
    refine go_iload_n (pc := 25) 3 dX5_second_25 rfl rfl ?_
    refine go_bipush (pc := 26) (18 : Int32) dX5_second_26 (by decide) ?_
    refine go_icmp_ge (pc := 28) 51 dX5_second_28 (by decide) (fun h6 => ?_) (fun h6 => ?_)
    · have hs := it_t h6 hs
      obtain rfl := Option.some.inj hs
      refine go_sub (lv' := [none, none, none, none]) trivial ?_
      exact (hE (Sum.inr x1_) rfl).2 x1_ rfl
    · have hs := it_f h6 hs
      refine go_aload_n (pc := 31) 0 dX5_second_31 rfl rfl ?_
      refine go_getfield (pc := 32) (v := vR 5) 0 5 3 dX5_second_32 flX5_30 rfl rfl ?_
      refine go_iload_n (pc := 35) 3 dX5_second_35 rfl rfl ?_
      obtain ⟨x7, hc8, hs⟩ := bnd hs
      refine go_callV (bc := 0) (bs := 0) (mc := 0) (ms := 0) (d := d + 3) (pc := 36) (a := 5) (ci := 3) [vI x0_] [] dX5_second_36 kX3_countAbove mlX5_138 ivX3_countAbove rfl rfl rfl rfl (Nat.le_of_ble_eq_true rfl) rfl (c_X3_countAbove (d := d + 1) (res0 := x7.1) (res1 := x7.2) hc8) (fun r w' hq => ?_)
      obtain ⟨rfl, rfl⟩ := hq
      show Go mX5_second (d + 4) false 0 0 39 [some (vR 0), none, none, some (vI x0_)] [vI x7.1] (wC cK cF ga gi gs oK cT ra rb cR cP x7.2 ea eb cW aO aC aQ) Q
      refine go_iconst (pc := 39) (1 : Int32) dX5_second_39 (by decide) ?_
      refine go_icmp_gt (pc := 40) 45 dX5_second_40 (by decide) (fun h9 => ?_) (fun h9 => ?_)
      · have hs := it_t h9 hs
        refine go_iinc (pc := 45) (x0_ + (1 : Int32)) [some (vR 0), none, none, some (vI (x0_ + (1 : Int32)))] dX5_second_45 rfl (iinc_1 _) (by decide) rfl ?_
        refine go_goto (pc := 48) 25 dX5_second_48 (by decide) ?_
        obtain rfl := Option.some.inj hs
        exact hI (x0_ + (1 : Int32), x7.2) rfl (x0_ + (1 : Int32)) x7.2 rfl
      · have hs := it_f h9 hs
        obtain rfl := Option.some.inj hs
        refine go_sub (lv' := [none, none, none, some (vI x0_)]) ⟨rfl, trivial⟩ ?_
        exact (hE (Sum.inl (x0_, x7.2)) rfl).1 x0_ x7.2 rfl
set_option maxRecDepth 20000 in
theorem c_X5_second {d : Nat}  {a1 : Int32} {res0 : Int32} {res1 : Int32} {res2 : (Nat → Nat → Int32)} {res3 : (Fin 2)} {res4 : (Fin 2)} {res5 : (Nat → Nat → Nat → Int64)} {res6 : (Nat → Int64)} {res7 : (Nat → Int64)} (hs : s_X5_second cK cF oK cT ra rb cR cP cM a1 = some (res0, res1, res2, res3, res4, res5, res6, res7)) : Calls mX5_second (d + 4) false 0 0 [vR 0, vI a1] (wC cK cF ga gi gs oK cT ra rb cR cP cM ea eb cW aO aC aQ) (fun r w' => r = some (vI res0) ∧ w' = (wC cK cF ga gi gs res1 res2 res3 res4 res5 res6 res7 ea eb cW aO aC aQ)) := by
  unfold s_X5_second at hs
  refine Calls.of kX5_second 2 [some (vR 0), some (vI a1), none, none] rfl (Nat.le_of_ble_eq_true rfl) ?_
  refine go_aload_n (pc := 0) 0 dX5_second_0 rfl rfl ?_
  refine go_iload_n (pc := 1) 1 dX5_second_1 rfl rfl ?_
  obtain ⟨x1, hc2, hs⟩ := bnd hs
  refine go_callV (bc := 0) (bs := 0) (mc := 0) (ms := 0) (d := d + 3) (pc := 2) (a := 0) (ci := 5) [vI a1] [] dX5_second_2 kX5_netAt mlX5_48 ivX5_netAt rfl rfl rfl rfl (Nat.le_of_ble_eq_true rfl) rfl (c_X5_netAt (d := d + 3) (res0 := x1) hc2) (fun r w' hq => ?_)
  obtain ⟨rfl, rfl⟩ := hq
  show Go mX5_second (d + 4) false 0 0 5 [some (vR 0), some (vI a1), none, none] [vQ (x1.map (fun i => pN i.1))] (wC cK cF ga gi gs oK cT ra rb cR cP cM ea eb cW aO aC aQ) _
  refine go_astore_n (pc := 5) 2 [some (vR 0), some (vI a1), some (vQ (x1.map (fun i => pN i.1))), none] dX5_second_5 rfl (by decide) rfl ?_
  refine go_aload_n (pc := 6) 2 dX5_second_6 rfl rfl ?_
  rcases x1 with _ | p3
  · refine go_ifnonnull (pc := 7) 13 dX5_second_7 (by decide) (fun a h => by cases h) (fun _ => ?_)
    simp only [Option.elim_none] at hs
    refine go_bipush (pc := 10) (-2 : Int32) dX5_second_10 (by decide) ?_
    cases hs
    exact go_ireturn (st := []) (pc := 12) dX5_second_12 rfl (vp_nar_int _) (fun h => by cases h) ⟨rfl, rfl⟩
  · refine go_ifnonnull (pc := 7) 13 dX5_second_7 (by decide) (fun a _ => ?_) (fun h => by cases h)
    simp only [Option.elim_some] at hs
    show Go mX5_second (d + 4) false 0 0 13 [some (vR 0), some (vI a1), some (vR (pN p3.1)), none] [] (wC cK cF ga gi gs oK cT ra rb cR cP cM ea eb cW aO aC aQ) _
    refine go_aload_n (pc := 13) 0 dX5_second_13 rfl rfl ?_
    refine go_getfield (pc := 14) (v := vR 5) 0 5 3 dX5_second_14 flX5_30 rfl rfl ?_
    refine go_aload_n (pc := 17) 2 dX5_second_17 rfl rfl ?_
    refine go_iconst (pc := 18) (0 : Int32) dX5_second_18 (by decide) ?_
    obtain ⟨x4, hc5, hs⟩ := bnd hs
    refine go_callV (bc := 0) (bs := 0) (mc := 0) (ms := 0) (d := d + 3) (pc := 19) (a := 5) (ci := 3) [vR (pN p3.1), vI (0 : Int32)] [] dX5_second_19 kX3_read mlX5_134 ivX3_read rfl rfl rfl rfl (Nat.le_of_ble_eq_true rfl) rfl (c_X3_read (d := d + 0) (res0 := x4.1) (res1 := x4.2.1) (res2 := x4.2.2.1) (res3 := x4.2.2.2.1) (res4 := x4.2.2.2.2.1) (res5 := x4.2.2.2.2.2) hc5) (fun r w' hq => ?_)
    obtain ⟨rfl, rfl⟩ := hq
    show Go mX5_second (d + 4) false 0 0 22 [some (vR 0), some (vI a1), some (vR (pN p3.1)), none] [] (wC cK cF ga gi gs x4.1 x4.2.1 x4.2.2.1 x4.2.2.2.1 x4.2.2.2.2.1 x4.2.2.2.2.2 cM ea eb cW aO aC aQ) _
    refine go_bipush (pc := 22) (-20 : Int32) dX5_second_22 (by decide) ?_
    refine go_istore_n (pc := 24) 3 [some (vR 0), some (vI a1), some (vR (pN p3.1)), some (vI (-20 : Int32))] dX5_second_24 rfl (by decide) rfl ?_
    refine go_sub (lv' := [some (vR 0), none, none, some (vI (-20 : Int32))]) ⟨rfl, ⟨rfl, trivial⟩⟩ ?_
    obtain ⟨e10, hl11, hs⟩ := bnd hs
    refine g_X5_second_25 (d := d) (-20 : Int32) cM e10 hl11 ?_
    constructor
    · intro v13 v14 hv17
      subst hv17
      simp only [Sum.elim_inl] at hs
      refine go_iload_n (pc := 43) 3 dX5_second_43 rfl rfl ?_
      cases hs
      exact go_ireturn (st := []) (pc := 44) dX5_second_44 rfl (vp_nar_int _) (fun h => by cases h) ⟨rfl, rfl⟩
    · intro v16 hv18
      subst hv18
      simp only [Sum.elim_inr] at hs
      refine go_bipush (pc := 51) (18 : Int32) dX5_second_51 (by decide) ?_
      cases hs
      exact go_ireturn (st := []) (pc := 53) dX5_second_53 rfl (vp_nar_int _) (fun h => by cases h) ⟨rfl, rfl⟩
noncomputable def s_X5_span (cK : (Nat → Int32)) (cF : (Nat → Nat → Int32)) (oK : Int32) (cT : (Nat → Nat → Int32)) (ra : (Fin 2)) (rb : (Fin 2)) (cR : (Nat → Nat → Nat → Int64)) (cP : (Nat → Int64)) (cM : (Nat → Int64)) (a1 : Int32) (a2 : Int32) : Option (Int32 × Int32 × (Nat → Nat → Int32) × (Fin 2) × (Fin 2) × (Nat → Nat → Nat → Int64) × (Nat → Int64) × (Nat → Int64)) := (s_X5_netAt a1).bind (fun x1 => Option.elim x1 (some ((-2 : Int32), oK, cT, ra, rb, cR, cP, cM)) (fun p3 => if 0 ≤ a2 then ((s_X3_read cK cF oK cT ra rb cR cP p3 a2).bind (fun x5 => (s_X3_width x5.1 x5.2.2.2.2.2 cM).bind (fun x7 => some (x7.1, x5.1, x5.2.1, x5.2.2.1, x5.2.2.2.1, x5.2.2.2.2.1, x5.2.2.2.2.2, x7.2)))) else (some ((-2 : Int32), oK, cT, ra, rb, cR, cP, cM))))
set_option maxRecDepth 20000 in
theorem c_X5_span {d : Nat}  {a1 : Int32} {a2 : Int32} {res0 : Int32} {res1 : Int32} {res2 : (Nat → Nat → Int32)} {res3 : (Fin 2)} {res4 : (Fin 2)} {res5 : (Nat → Nat → Nat → Int64)} {res6 : (Nat → Int64)} {res7 : (Nat → Int64)} (hs : s_X5_span cK cF oK cT ra rb cR cP cM a1 a2 = some (res0, res1, res2, res3, res4, res5, res6, res7)) : Calls mX5_span (d + 5) false 0 0 [vR 0, vI a1, vI a2] (wC cK cF ga gi gs oK cT ra rb cR cP cM ea eb cW aO aC aQ) (fun r w' => r = some (vI res0) ∧ w' = (wC cK cF ga gi gs res1 res2 res3 res4 res5 res6 res7 ea eb cW aO aC aQ)) := by
  unfold s_X5_span at hs
  refine Calls.of kX5_span 1 [some (vR 0), some (vI a1), some (vI a2), none] rfl (Nat.le_of_ble_eq_true rfl) ?_
  refine go_aload_n (pc := 0) 0 dX5_span_0 rfl rfl ?_
  refine go_iload_n (pc := 1) 1 dX5_span_1 rfl rfl ?_
  obtain ⟨x1, hc2, hs⟩ := bnd hs
  refine go_callV (bc := 0) (bs := 0) (mc := 0) (ms := 0) (d := d + 4) (pc := 2) (a := 0) (ci := 5) [vI a1] [] dX5_span_2 kX5_netAt mlX5_48 ivX5_netAt rfl rfl rfl rfl (Nat.le_of_ble_eq_true rfl) rfl (c_X5_netAt (d := d + 4) (res0 := x1) hc2) (fun r w' hq => ?_)
  obtain ⟨rfl, rfl⟩ := hq
  show Go mX5_span (d + 5) false 0 0 5 [some (vR 0), some (vI a1), some (vI a2), none] [vQ (x1.map (fun i => pN i.1))] (wC cK cF ga gi gs oK cT ra rb cR cP cM ea eb cW aO aC aQ) _
  refine go_astore_n (pc := 5) 3 [some (vR 0), some (vI a1), some (vI a2), some (vQ (x1.map (fun i => pN i.1)))] dX5_span_5 rfl (by decide) rfl ?_
  refine go_aload_n (pc := 6) 3 dX5_span_6 rfl rfl ?_
  rcases x1 with _ | p3
  · refine go_ifnull (pc := 7) 14 dX5_span_7 (by decide) (fun _ => ?_) (fun a h => by cases h)
    simp only [Option.elim_none] at hs
    refine go_bipush (pc := 14) (-2 : Int32) dX5_span_14 (by decide) ?_
    cases hs
    exact go_ireturn (st := []) (pc := 16) dX5_span_16 rfl (vp_nar_int _) (fun h => by cases h) ⟨rfl, rfl⟩
  · refine go_ifnull (pc := 7) 14 dX5_span_7 (by decide) (fun h => by cases h) (fun a _ => ?_)
    simp only [Option.elim_some] at hs
    show Go mX5_span (d + 5) false 0 0 10 [some (vR 0), some (vI a1), some (vI a2), some (vR (pN p3.1))] [] (wC cK cF ga gi gs oK cT ra rb cR cP cM ea eb cW aO aC aQ) _
    refine go_iload_n (pc := 10) 2 dX5_span_10 rfl rfl ?_
    refine go_if_ge (pc := 11) 17 dX5_span_11 (by decide) (fun h4 => ?_) (fun h4 => ?_)
    · have hs := it_t h4 hs
      refine go_aload_n (pc := 17) 0 dX5_span_17 rfl rfl ?_
      refine go_getfield (pc := 18) (v := vR 5) 0 5 3 dX5_span_18 flX5_30 rfl rfl ?_
      refine go_aload_n (pc := 21) 3 dX5_span_21 rfl rfl ?_
      refine go_iload_n (pc := 22) 2 dX5_span_22 rfl rfl ?_
      obtain ⟨x5, hc6, hs⟩ := bnd hs
      refine go_callV (bc := 0) (bs := 0) (mc := 0) (ms := 0) (d := d + 4) (pc := 23) (a := 5) (ci := 3) [vR (pN p3.1), vI a2] [] dX5_span_23 kX3_read mlX5_134 ivX3_read rfl rfl rfl rfl (Nat.le_of_ble_eq_true rfl) rfl (c_X3_read (d := d + 1) (res0 := x5.1) (res1 := x5.2.1) (res2 := x5.2.2.1) (res3 := x5.2.2.2.1) (res4 := x5.2.2.2.2.1) (res5 := x5.2.2.2.2.2) hc6) (fun r w' hq => ?_)
      obtain ⟨rfl, rfl⟩ := hq
      show Go mX5_span (d + 5) false 0 0 26 [some (vR 0), some (vI a1), some (vI a2), some (vR (pN p3.1))] [] (wC cK cF ga gi gs x5.1 x5.2.1 x5.2.2.1 x5.2.2.2.1 x5.2.2.2.2.1 x5.2.2.2.2.2 cM ea eb cW aO aC aQ) _
      refine go_aload_n (pc := 26) 0 dX5_span_26 rfl rfl ?_
      refine go_getfield (pc := 27) (v := vR 5) 0 5 3 dX5_span_27 flX5_30 rfl rfl ?_
      obtain ⟨x7, hc8, hs⟩ := bnd hs
      refine go_callV (bc := 0) (bs := 0) (mc := 0) (ms := 0) (d := d + 4) (pc := 30) (a := 5) (ci := 3) [] [] dX5_span_30 kX3_width mlX5_145 ivX3_width rfl rfl rfl rfl (Nat.le_of_ble_eq_true rfl) rfl (c_X3_width (d := d + 0) (res0 := x7.1) (res1 := x7.2) hc8) (fun r w' hq => ?_)
      obtain ⟨rfl, rfl⟩ := hq
      show Go mX5_span (d + 5) false 0 0 33 [some (vR 0), some (vI a1), some (vI a2), some (vR (pN p3.1))] [vI x7.1] (wC cK cF ga gi gs x5.1 x5.2.1 x5.2.2.1 x5.2.2.2.1 x5.2.2.2.2.1 x5.2.2.2.2.2 x7.2 ea eb cW aO aC aQ) _
      cases hs
      exact go_ireturn (st := []) (pc := 33) dX5_span_33 rfl (vp_nar_int _) (fun h => by cases h) ⟨rfl, rfl⟩
    · have hs := it_f h4 hs
      refine go_bipush (pc := 14) (-2 : Int32) dX5_span_14 (by decide) ?_
      cases hs
      exact go_ireturn (st := []) (pc := 16) dX5_span_16 rfl (vp_nar_int _) (fun h => by cases h) ⟨rfl, rfl⟩
noncomputable def b_X5_lateForest_39 (cK : (Nat → Int32)) (p1 : (Fin 5)) (y4 : Int32) (x : Int32 × Int32 × Int32 × (Nat → Nat → Int32)) : Option ((Int32 × Int32 × Int32 × (Nat → Nat → Int32)) ⊕ (Int32 × Int32 × (Nat → Nat → Int32))) := if x.2.2.1 ≤ y4 then (some (Sum.inr (x.1, x.2.1, x.2.2.2))) else ((s_X2_joins x.2.2.2 p1 y4 x.2.2.1).bind (fun x7 => if x7 = 0 then (some (Sum.inl (x.1, x.2.1, x.2.2.1 + (-1 : Int32), x.2.2.2))) else ((s_X2_fewestLines cK x.2.2.2 (4 : Fin 5) y4 x.2.2.1 (1 : Int32)).bind (fun x10 => if x10 = (-1 : Int32) then ((s_X2_change x.2.2.2 (4 : Fin 5) y4 x.2.2.1).bind (fun x13 => some (Sum.inl (x.1 ||| ((1 : Int32) <<< ((x.2.1 + (-1 : Int32)) &&& 31)), x.2.1 + (-1 : Int32), x.2.2.1 + (-1 : Int32), x13)))) else (some (Sum.inl (x.1, x.2.1 + (-1 : Int32), x.2.2.1 + (-1 : Int32), x.2.2.2)))))))
noncomputable def b_X5_lateForest_26 (cK : (Nat → Int32)) (p1 : (Fin 5)) (x : Int32 × Int32 × Int32 × (Nat → Nat → Int32)) : Option ((Int32 × Int32 × Int32 × (Nat → Nat → Int32)) ⊕ (Int32 × (Nat → Nat → Int32))) := if x.2.2.1 < 0 then (some (Sum.inr (x.1, x.2.2.2))) else ((loop (b_X5_lateForest_39 cK p1 x.2.2.1) (x.1, x.2.1, (cK p1.1) - (1 : Int32), x.2.2.2)).bind (fun e15 => some (Sum.inl (e15.1, e15.2.1, x.2.2.1 + (-1 : Int32), e15.2.2))))
noncomputable def s_X5_lateForest (cK : (Nat → Int32)) (cF : (Nat → Nat → Int32)) (p1 : (Fin 5)) : Option (Int32 × (Nat → Int32) × (Nat → Nat → Int32)) := (s_X2_startWith cK cF (4 : Fin 5) (cK p1.1)).bind (fun x1 => (s_X2_lineCount x1.1 x1.2 p1).bind (fun x3 => (loop (b_X5_lateForest_26 x1.1 p1) ((0 : Int32), x3, (x1.1 p1.1) - (1 : Int32), x1.2)).bind (fun e21 => some (e21.1, x1.1, e21.2))))
set_option maxRecDepth 20000 in
theorem g_X5_lateForest_39 {d : Nat} {p1 : (Fin 5)} {Q : Option AV → List AC → Prop} {y4 : Int32}  (x0_ : Int32) (x1_ : Int32) (x2_ : Int32) (x3_ : (Nat → Nat → Int32)) (r : Int32 × Int32 × (Nat → Nat → Int32)) (hl : loop (b_X5_lateForest_39 cK p1 y4) (x0_, x1_, x2_, x3_) = some r) (hk : ∀ (r0_ : Int32) (r1_ : Int32) (r2_ : (Nat → Nat → Int32)), r = (r0_, r1_, r2_) → Go mX5_lateForest (d + 3) false 0 0 102 [some (vR 0), some (vR (pN p1.1)), some (vI r0_), some (vI r1_), some (vI y4), none] [] (wC cK r2_ ga gi gs oK cT ra rb cR cP cM ea eb cW aO aC aQ) Q) : Go mX5_lateForest (d + 3) false 0 0 39 [some (vR 0), some (vR (pN p1.1)), some (vI x0_), some (vI x1_), some (vI y4), some (vI x2_)] [] (wC cK x3_ ga gi gs oK cT ra rb cR cP cM ea eb cW aO aC aQ) Q := by
  refine loop_go (P := fun x : Int32 × Int32 × Int32 × (Nat → Nat → Int32) => ∀ (x0_ : Int32) (x1_ : Int32) (x2_ : Int32) (x3_ : (Nat → Nat → Int32)), x = (x0_, x1_, x2_, x3_) → Go mX5_lateForest (d + 3) false 0 0 39 [some (vR 0), some (vR (pN p1.1)), some (vI x0_), some (vI x1_), some (vI y4), some (vI x2_)] [] (wC cK x3_ ga gi gs oK cT ra rb cR cP cM ea eb cW aO aC aQ) Q) (K := fun r : Int32 × Int32 × (Nat → Nat → Int32) => ∀ (r0_ : Int32) (r1_ : Int32) (r2_ : (Nat → Nat → Int32)), r = (r0_, r1_, r2_) → Go mX5_lateForest (d + 3) false 0 0 102 [some (vR 0), some (vR (pN p1.1)), some (vI r0_), some (vI r1_), some (vI y4), none] [] (wC cK r2_ ga gi gs oK cT ra rb cR cP cM ea eb cW aO aC aQ) Q) ?_ (x0_, x1_, x2_, x3_) r hl hk x0_ x1_ x2_ x3_ rfl
  · intro x y hs hI hE x0_ x1_ x2_ x3_ hx
    subst hx
    unfold b_X5_lateForest_39 at hs
    try dsimp only at hs
    refine go_iload (pc := 39) dX5_lateForest_39 rfl ?_
    refine go_iload (pc := 41) dX5_lateForest_41 rfl ?_
    refine go_icmp_le (pc := 43) 102 dX5_lateForest_43 (by decide) (fun h6 => ?_) (fun h6 => ?_)
    · have hs := it_t h6 hs
      obtain rfl := Option.some.inj hs
      refine go_sub (lv' := [some (vR 0), some (vR (pN p1.1)), some (vI x0_), some (vI x1_), some (vI y4), none]) ⟨rfl, ⟨rfl, ⟨rfl, ⟨rfl, ⟨rfl, trivial⟩⟩⟩⟩⟩ ?_
      exact (hE (x0_, x1_, x3_) rfl) x0_ x1_ x3_ rfl
    · have hs := it_f h6 hs
      refine go_aload_n (pc := 46) 1 dX5_lateForest_46 rfl rfl ?_
      refine go_iload (pc := 47) dX5_lateForest_47 rfl ?_
      refine go_iload (pc := 49) dX5_lateForest_49 rfl ?_
      obtain ⟨x7, hc8, hs⟩ := bnd hs
      refine go_callV (bc := 0) (bs := 0) (mc := 0) (ms := 0) (d := d + 2) (pc := 51) (a := (pN p1.1)) (ci := 2) [vI y4, vI x2_] [] dX5_lateForest_51 kX2_joins mlX5_64 ivX2_joins rfl rfl (wC_net p1) rfl (Nat.le_of_ble_eq_true rfl) rfl (c_X2_joins (d := d + 2) (res0 := x7) hc8) (fun r w' hq => ?_)
      obtain ⟨rfl, rfl⟩ := hq
      show Go mX5_lateForest (d + 3) false 0 0 54 [some (vR 0), some (vR (pN p1.1)), some (vI x0_), some (vI x1_), some (vI y4), some (vI x2_)] [vI x7] (wC cK x3_ ga gi gs oK cT ra rb cR cP cM ea eb cW aO aC aQ) Q
      refine go_if_ne (pc := 54) 60 dX5_lateForest_54 (by decide) (fun h9 => ?_) (fun h9 => ?_)
      · have hs := it_f h9 hs
        refine go_iinc (pc := 60) (x1_ + (-1 : Int32)) [some (vR 0), some (vR (pN p1.1)), some (vI x0_), some (vI (x1_ + (-1 : Int32))), some (vI y4), some (vI x2_)] dX5_lateForest_60 rfl (iinc_m1 _) (by decide) rfl ?_
        refine go_aload_n (pc := 63) 0 dX5_lateForest_63 rfl rfl ?_
        refine go_getfield (pc := 64) (v := vR (pN (4 : Fin 5).1)) 0 5 1 dX5_lateForest_64 flX5_16 rfl rfl ?_
        refine go_iload (pc := 67) dX5_lateForest_67 rfl ?_
        refine go_iload (pc := 69) dX5_lateForest_69 rfl ?_
        refine go_iconst (pc := 71) (1 : Int32) dX5_lateForest_71 (by decide) ?_
        obtain ⟨x10, hc11, hs⟩ := bnd hs
        refine go_callV (bc := 0) (bs := 0) (mc := 0) (ms := 0) (d := d + 2) (pc := 72) (a := (pN (4 : Fin 5).1)) (ci := 2) [vI y4, vI x2_, vI (1 : Int32)] [] dX5_lateForest_72 kX2_fewestLines mlX5_185 ivX2_fewestLines rfl rfl (wC_net (4 : Fin 5)) rfl (Nat.le_of_ble_eq_true rfl) rfl (c_X2_fewestLines (d := d + 1) (res0 := x10) hc11) (fun r w' hq => ?_)
        obtain ⟨rfl, rfl⟩ := hq
        show Go mX5_lateForest (d + 3) false 0 0 75 [some (vR 0), some (vR (pN p1.1)), some (vI x0_), some (vI (x1_ + (-1 : Int32))), some (vI y4), some (vI x2_)] [vI x10] (wC cK x3_ ga gi gs oK cT ra rb cR cP cM ea eb cW aO aC aQ) Q
        refine go_iconst (pc := 75) (-1 : Int32) dX5_lateForest_75 (by decide) ?_
        refine go_icmp_ne (pc := 76) 96 dX5_lateForest_76 (by decide) (fun h12 => ?_) (fun h12 => ?_)
        · have hs := it_f h12 hs
          refine go_iinc (pc := 96) (x2_ + (-1 : Int32)) [some (vR 0), some (vR (pN p1.1)), some (vI x0_), some (vI (x1_ + (-1 : Int32))), some (vI y4), some (vI (x2_ + (-1 : Int32)))] dX5_lateForest_96 rfl (iinc_m1 _) (by decide) rfl ?_
          refine go_goto (pc := 99) 39 dX5_lateForest_99 (by decide) ?_
          obtain rfl := Option.some.inj hs
          exact hI (x0_, x1_ + (-1 : Int32), x2_ + (-1 : Int32), x3_) rfl x0_ (x1_ + (-1 : Int32)) (x2_ + (-1 : Int32)) x3_ rfl
        · have hs := it_t h12 hs
          refine go_aload_n (pc := 79) 0 dX5_lateForest_79 rfl rfl ?_
          refine go_getfield (pc := 80) (v := vR (pN (4 : Fin 5).1)) 0 5 1 dX5_lateForest_80 flX5_16 rfl rfl ?_
          refine go_iload (pc := 83) dX5_lateForest_83 rfl ?_
          refine go_iload (pc := 85) dX5_lateForest_85 rfl ?_
          obtain ⟨x13, hc14, hs⟩ := bnd hs
          refine go_callV (bc := 0) (bs := 0) (mc := 0) (ms := 0) (d := d + 2) (pc := 87) (a := (pN (4 : Fin 5).1)) (ci := 2) [vI y4, vI x2_] [] dX5_lateForest_87 kX2_change mlX5_67 ivX2_change rfl rfl (wC_net (4 : Fin 5)) rfl (Nat.le_of_ble_eq_true rfl) rfl (c_X2_change (d := d + 2) (res0 := x13) hc14) (fun r w' hq => ?_)
          obtain ⟨rfl, rfl⟩ := hq
          show Go mX5_lateForest (d + 3) false 0 0 90 [some (vR 0), some (vR (pN p1.1)), some (vI x0_), some (vI (x1_ + (-1 : Int32))), some (vI y4), some (vI x2_)] [] (wC cK x13 ga gi gs oK cT ra rb cR cP cM ea eb cW aO aC aQ) Q
          refine go_iload_n (pc := 90) 2 dX5_lateForest_90 rfl rfl ?_
          refine go_iconst (pc := 91) (1 : Int32) dX5_lateForest_91 (by decide) ?_
          refine go_iload_n (pc := 92) 3 dX5_lateForest_92 rfl rfl ?_
          refine go_ishl (pc := 93) dX5_lateForest_93 ?_
          refine go_ior (pc := 94) dX5_lateForest_94 ?_
          refine go_istore_n (pc := 95) 2 [some (vR 0), some (vR (pN p1.1)), some (vI (x0_ ||| ((1 : Int32) <<< ((x1_ + (-1 : Int32)) &&& 31)))), some (vI (x1_ + (-1 : Int32))), some (vI y4), some (vI x2_)] dX5_lateForest_95 rfl (by decide) rfl ?_
          refine go_iinc (pc := 96) (x2_ + (-1 : Int32)) [some (vR 0), some (vR (pN p1.1)), some (vI (x0_ ||| ((1 : Int32) <<< ((x1_ + (-1 : Int32)) &&& 31)))), some (vI (x1_ + (-1 : Int32))), some (vI y4), some (vI (x2_ + (-1 : Int32)))] dX5_lateForest_96 rfl (iinc_m1 _) (by decide) rfl ?_
          refine go_goto (pc := 99) 39 dX5_lateForest_99 (by decide) ?_
          obtain rfl := Option.some.inj hs
          exact hI (x0_ ||| ((1 : Int32) <<< ((x1_ + (-1 : Int32)) &&& 31)), x1_ + (-1 : Int32), x2_ + (-1 : Int32), x13) rfl (x0_ ||| ((1 : Int32) <<< ((x1_ + (-1 : Int32)) &&& 31))) (x1_ + (-1 : Int32)) (x2_ + (-1 : Int32)) x13 rfl
      · have hs := it_t h9 hs
        refine go_goto (pc := 57) 96 dX5_lateForest_57 (by decide) ?_
        refine go_iinc (pc := 96) (x2_ + (-1 : Int32)) [some (vR 0), some (vR (pN p1.1)), some (vI x0_), some (vI x1_), some (vI y4), some (vI (x2_ + (-1 : Int32)))] dX5_lateForest_96 rfl (iinc_m1 _) (by decide) rfl ?_
        refine go_goto (pc := 99) 39 dX5_lateForest_99 (by decide) ?_
        obtain rfl := Option.some.inj hs
        exact hI (x0_, x1_, x2_ + (-1 : Int32), x3_) rfl x0_ x1_ (x2_ + (-1 : Int32)) x3_ rfl
set_option maxRecDepth 20000 in
theorem g_X5_lateForest_26 {d : Nat} {p1 : (Fin 5)} {Q : Option AV → List AC → Prop}   (x0_ : Int32) (x1_ : Int32) (x2_ : Int32) (x3_ : (Nat → Nat → Int32)) (r : Int32 × (Nat → Nat → Int32)) (hl : loop (b_X5_lateForest_26 cK p1) (x0_, x1_, x2_, x3_) = some r) (hk : ∀ (r0_ : Int32) (r1_ : (Nat → Nat → Int32)), r = (r0_, r1_) → Go mX5_lateForest (d + 3) false 0 0 108 [none, none, some (vI r0_), none, none, none] [] (wC cK r1_ ga gi gs oK cT ra rb cR cP cM ea eb cW aO aC aQ) Q) : Go mX5_lateForest (d + 3) false 0 0 26 [some (vR 0), some (vR (pN p1.1)), some (vI x0_), some (vI x1_), some (vI x2_), none] [] (wC cK x3_ ga gi gs oK cT ra rb cR cP cM ea eb cW aO aC aQ) Q := by
  refine loop_go (P := fun x : Int32 × Int32 × Int32 × (Nat → Nat → Int32) => ∀ (x0_ : Int32) (x1_ : Int32) (x2_ : Int32) (x3_ : (Nat → Nat → Int32)), x = (x0_, x1_, x2_, x3_) → Go mX5_lateForest (d + 3) false 0 0 26 [some (vR 0), some (vR (pN p1.1)), some (vI x0_), some (vI x1_), some (vI x2_), none] [] (wC cK x3_ ga gi gs oK cT ra rb cR cP cM ea eb cW aO aC aQ) Q) (K := fun r : Int32 × (Nat → Nat → Int32) => ∀ (r0_ : Int32) (r1_ : (Nat → Nat → Int32)), r = (r0_, r1_) → Go mX5_lateForest (d + 3) false 0 0 108 [none, none, some (vI r0_), none, none, none] [] (wC cK r1_ ga gi gs oK cT ra rb cR cP cM ea eb cW aO aC aQ) Q) ?_ (x0_, x1_, x2_, x3_) r hl hk x0_ x1_ x2_ x3_ rfl
  · intro x y hs hI hE x0_ x1_ x2_ x3_ hx
    subst hx
    unfold b_X5_lateForest_26 at hs
    try dsimp only at hs
    refine go_iload (pc := 26) dX5_lateForest_26 rfl ?_
    refine go_if_lt (pc := 28) 108 dX5_lateForest_28 (by decide) (fun h5 => ?_) (fun h5 => ?_)
    · have hs := it_t h5 hs
      obtain rfl := Option.some.inj hs
      refine go_sub (lv' := [none, none, some (vI x0_), none, none, none]) ⟨rfl, trivial⟩ ?_
      exact (hE (x0_, x3_) rfl) x0_ x3_ rfl
    · have hs := it_f h5 hs
      refine go_aload_n (pc := 31) 1 dX5_lateForest_31 rfl rfl ?_
      refine go_getfield (pc := 32) (v := vI (cK p1.1)) (pN p1.1) 2 0 dX5_lateForest_32 flX5_78 (wC_net p1) rfl ?_
      refine go_iconst (pc := 35) (1 : Int32) dX5_lateForest_35 (by decide) ?_
      refine go_isub (pc := 36) dX5_lateForest_36 ?_
      refine go_istore (pc := 37) [some (vR 0), some (vR (pN p1.1)), some (vI x0_), some (vI x1_), some (vI x2_), some (vI ((cK p1.1) - (1 : Int32)))] dX5_lateForest_37 (by decide) rfl ?_
      obtain ⟨e15, hl16, hs⟩ := bnd hs
      refine g_X5_lateForest_39 (d := d) x0_ x1_ ((cK p1.1) - (1 : Int32)) x3_ e15 hl16 ?_
      intro v17 v18 v19 hv20
      subst hv20
      try dsimp only at hs
      refine go_iinc (pc := 102) (x2_ + (-1 : Int32)) [some (vR 0), some (vR (pN p1.1)), some (vI v17), some (vI v18), some (vI (x2_ + (-1 : Int32))), none] dX5_lateForest_102 rfl (iinc_m1 _) (by decide) rfl ?_
      refine go_goto (pc := 105) 26 dX5_lateForest_105 (by decide) ?_
      obtain rfl := Option.some.inj hs
      exact hI (v17, v18, x2_ + (-1 : Int32), v19) rfl v17 v18 (x2_ + (-1 : Int32)) v19 rfl
set_option maxRecDepth 20000 in
theorem c_X5_lateForest {d : Nat}  {p1 : (Fin 5)} {res0 : Int32} {res1 : (Nat → Int32)} {res2 : (Nat → Nat → Int32)} (hs : s_X5_lateForest cK cF p1 = some (res0, res1, res2)) : Calls mX5_lateForest (d + 3) false 0 0 [vR 0, vR (pN p1.1)] (wC cK cF ga gi gs oK cT ra rb cR cP cM ea eb cW aO aC aQ) (fun r w' => r = some (vI res0) ∧ w' = (wC res1 res2 ga gi gs oK cT ra rb cR cP cM ea eb cW aO aC aQ)) := by
  unfold s_X5_lateForest at hs
  refine Calls.of kX5_lateForest 4 [some (vR 0), some (vR (pN p1.1)), none, none, none, none] rfl (Nat.le_of_ble_eq_true rfl) ?_
  refine go_aload_n (pc := 0) 0 dX5_lateForest_0 rfl rfl ?_
  refine go_getfield (pc := 1) (v := vR (pN (4 : Fin 5).1)) 0 5 1 dX5_lateForest_1 flX5_16 rfl rfl ?_
  refine go_aload_n (pc := 4) 1 dX5_lateForest_4 rfl rfl ?_
  refine go_getfield (pc := 5) (v := vI (cK p1.1)) (pN p1.1) 2 0 dX5_lateForest_5 flX5_78 (wC_net p1) rfl ?_
  obtain ⟨x1, hc2, hs⟩ := bnd hs
  refine go_callV (bc := 0) (bs := 0) (mc := 0) (ms := 0) (d := d + 2) (pc := 8) (a := (pN (4 : Fin 5).1)) (ci := 2) [vI (cK p1.1)] [] dX5_lateForest_8 kX2_startWith mlX5_56 ivX2_startWith rfl rfl (wC_net (4 : Fin 5)) rfl (Nat.le_of_ble_eq_true rfl) rfl (c_X2_startWith (d := d + 1) (res0 := x1.1) (res1 := x1.2) hc2) (fun r w' hq => ?_)
  obtain ⟨rfl, rfl⟩ := hq
  show Go mX5_lateForest (d + 3) false 0 0 11 [some (vR 0), some (vR (pN p1.1)), none, none, none, none] [] (wC x1.1 x1.2 ga gi gs oK cT ra rb cR cP cM ea eb cW aO aC aQ) _
  refine go_iconst (pc := 11) (0 : Int32) dX5_lateForest_11 (by decide) ?_
  refine go_istore_n (pc := 12) 2 [some (vR 0), some (vR (pN p1.1)), some (vI (0 : Int32)), none, none, none] dX5_lateForest_12 rfl (by decide) rfl ?_
  refine go_aload_n (pc := 13) 1 dX5_lateForest_13 rfl rfl ?_
  obtain ⟨x3, hc4, hs⟩ := bnd hs
  refine go_callV (bc := 0) (bs := 0) (mc := 0) (ms := 0) (d := d + 2) (pc := 14) (a := (pN p1.1)) (ci := 2) [] [] dX5_lateForest_14 kX2_lineCount mlX5_74 ivX2_lineCount rfl rfl (wC_net p1) rfl (Nat.le_of_ble_eq_true rfl) rfl (c_X2_lineCount (d := d + 0) (res0 := x3) hc4) (fun r w' hq => ?_)
  obtain ⟨rfl, rfl⟩ := hq
  show Go mX5_lateForest (d + 3) false 0 0 17 [some (vR 0), some (vR (pN p1.1)), some (vI (0 : Int32)), none, none, none] [vI x3] (wC x1.1 x1.2 ga gi gs oK cT ra rb cR cP cM ea eb cW aO aC aQ) _
  refine go_istore_n (pc := 17) 3 [some (vR 0), some (vR (pN p1.1)), some (vI (0 : Int32)), some (vI x3), none, none] dX5_lateForest_17 rfl (by decide) rfl ?_
  refine go_aload_n (pc := 18) 1 dX5_lateForest_18 rfl rfl ?_
  refine go_getfield (pc := 19) (v := vI (x1.1 p1.1)) (pN p1.1) 2 0 dX5_lateForest_19 flX5_78 (wC_net p1) rfl ?_
  refine go_iconst (pc := 22) (1 : Int32) dX5_lateForest_22 (by decide) ?_
  refine go_isub (pc := 23) dX5_lateForest_23 ?_
  refine go_istore (pc := 24) [some (vR 0), some (vR (pN p1.1)), some (vI (0 : Int32)), some (vI x3), some (vI ((x1.1 p1.1) - (1 : Int32))), none] dX5_lateForest_24 (by decide) rfl ?_
  obtain ⟨e21, hl22, hs⟩ := bnd hs
  refine g_X5_lateForest_26 (d := d) (0 : Int32) x3 ((x1.1 p1.1) - (1 : Int32)) x1.2 e21 hl22 ?_
  intro v23 v24 hv25
  subst hv25
  try dsimp only at hs
  refine go_iload_n (pc := 108) 2 dX5_lateForest_108 rfl rfl ?_
  cases hs
  exact go_ireturn (st := []) (pc := 109) dX5_lateForest_109 rfl (vp_nar_int _) (fun h => by cases h) ⟨rfl, rfl⟩
noncomputable def b_X5_leastSigning_23 (cK : (Nat → Int32)) (cF : (Nat → Nat → Int32)) (p1 : (Fin 5)) (y2 : Int32) (y3 : Int32) (x : Int32 × Int32 × Int32 × Int32 × (Nat → Nat → Int32) × (Fin 2) × (Fin 2) × (Nat → Nat → Nat → Int64) × (Nat → Int64) × (Nat → Int64)) : Option ((Int32 × Int32 × Int32 × Int32 × (Nat → Nat → Int32) × (Fin 2) × (Fin 2) × (Nat → Nat → Nat → Int64) × (Nat → Int64) × (Nat → Int64)) ⊕ (Int32 × Int32 × (Nat → Nat → Int32) × (Fin 2) × (Fin 2) × (Nat → Nat → Nat → Int64) × (Nat → Int64) × (Nat → Int64))) := if y3 ≤ x.2.2.1 then (some (Sum.inr (x.1, x.2.2.2.1, x.2.2.2.2.1, x.2.2.2.2.2.1, x.2.2.2.2.2.2.1, x.2.2.2.2.2.2.2.1, x.2.2.2.2.2.2.2.2.1, x.2.2.2.2.2.2.2.2.2))) else (if (x.2.2.1 &&& y2) = 0 then ((s_X3_read cK cF x.2.2.2.1 x.2.2.2.2.1 x.2.2.2.2.2.1 x.2.2.2.2.2.2.1 x.2.2.2.2.2.2.2.1 x.2.2.2.2.2.2.2.2.1 p1 x.2.2.1).bind (fun x7 => (s_X3_width x7.1 x7.2.2.2.2.2 x.2.2.2.2.2.2.2.2.2).bind (fun x9 => if x.2.1 ≤ x9.1 then (some (Sum.inl (x.1, x.2.1, x.2.2.1 + (1 : Int32), x7.1, x7.2.1, x7.2.2.1, x7.2.2.2.1, x7.2.2.2.2.1, x7.2.2.2.2.2, x9.2))) else (some (Sum.inl (x.2.2.1, x9.1, x.2.2.1 + (1 : Int32), x7.1, x7.2.1, x7.2.2.1, x7.2.2.2.1, x7.2.2.2.2.1, x7.2.2.2.2.2, x9.2)))))) else (some (Sum.inl (x.1, x.2.1, x.2.2.1 + (1 : Int32), x.2.2.2.1, x.2.2.2.2.1, x.2.2.2.2.2.1, x.2.2.2.2.2.2.1, x.2.2.2.2.2.2.2.1, x.2.2.2.2.2.2.2.2.1, x.2.2.2.2.2.2.2.2.2))))
noncomputable def s_X5_leastSigning (cK : (Nat → Int32)) (cF : (Nat → Nat → Int32)) (oK : Int32) (cT : (Nat → Nat → Int32)) (ra : (Fin 2)) (rb : (Fin 2)) (cR : (Nat → Nat → Nat → Int64)) (cP : (Nat → Int64)) (cM : (Nat → Int64)) (p1 : (Fin 5)) : Option (Int32 × (Nat → Int32) × (Nat → Nat → Int32) × Int32 × (Nat → Nat → Int32) × (Fin 2) × (Fin 2) × (Nat → Nat → Nat → Int64) × (Nat → Int64) × (Nat → Int64)) := (s_X5_lateForest cK cF p1).bind (fun x1 => (s_X2_lineCount x1.2.1 x1.2.2 p1).bind (fun x3 => (loop (b_X5_leastSigning_23 x1.2.1 x1.2.2 p1 x1.1 ((1 : Int32) <<< (x3 &&& 31))) ((0 : Int32), (19 : Int32), (0 : Int32), oK, cT, ra, rb, cR, cP, cM)).bind (fun e12 => some (e12.1, x1.2.1, x1.2.2, e12.2.1, e12.2.2.1, e12.2.2.2.1, e12.2.2.2.2.1, e12.2.2.2.2.2.1, e12.2.2.2.2.2.2.1, e12.2.2.2.2.2.2.2))))
set_option maxRecDepth 20000 in
theorem g_X5_leastSigning_23 {d : Nat} {p1 : (Fin 5)} {Q : Option AV → List AC → Prop} {y2 : Int32} {y3 : Int32}  (x0_ : Int32) (x1_ : Int32) (x2_ : Int32) (x3_ : Int32) (x4_ : (Nat → Nat → Int32)) (x5_ : (Fin 2)) (x6_ : (Fin 2)) (x7_ : (Nat → Nat → Nat → Int64)) (x8_ : (Nat → Int64)) (x9_ : (Nat → Int64)) (r : Int32 × Int32 × (Nat → Nat → Int32) × (Fin 2) × (Fin 2) × (Nat → Nat → Nat → Int64) × (Nat → Int64) × (Nat → Int64)) (hl : loop (b_X5_leastSigning_23 cK cF p1 y2 y3) (x0_, x1_, x2_, x3_, x4_, x5_, x6_, x7_, x8_, x9_) = some r) (hk : ∀ (r0_ : Int32) (r1_ : Int32) (r2_ : (Nat → Nat → Int32)) (r3_ : (Fin 2)) (r4_ : (Fin 2)) (r5_ : (Nat → Nat → Nat → Int64)) (r6_ : (Nat → Int64)) (r7_ : (Nat → Int64)), r = (r0_, r1_, r2_, r3_, r4_, r5_, r6_, r7_) → Go mX5_leastSigning (d + 5) false 0 0 79 [none, none, none, none, some (vI r0_), none, none, none] [] (wC cK cF ga gi gs r1_ r2_ r3_ r4_ r5_ r6_ r7_ ea eb cW aO aC aQ) Q) : Go mX5_leastSigning (d + 5) false 0 0 23 [some (vR 0), some (vR (pN p1.1)), some (vI y2), some (vI y3), some (vI x0_), some (vI x1_), some (vI x2_), none] [] (wC cK cF ga gi gs x3_ x4_ x5_ x6_ x7_ x8_ x9_ ea eb cW aO aC aQ) Q := by
  refine loop_go (P := fun x : Int32 × Int32 × Int32 × Int32 × (Nat → Nat → Int32) × (Fin 2) × (Fin 2) × (Nat → Nat → Nat → Int64) × (Nat → Int64) × (Nat → Int64) => ∀ (x0_ : Int32) (x1_ : Int32) (x2_ : Int32) (x3_ : Int32) (x4_ : (Nat → Nat → Int32)) (x5_ : (Fin 2)) (x6_ : (Fin 2)) (x7_ : (Nat → Nat → Nat → Int64)) (x8_ : (Nat → Int64)) (x9_ : (Nat → Int64)), x = (x0_, x1_, x2_, x3_, x4_, x5_, x6_, x7_, x8_, x9_) → Go mX5_leastSigning (d + 5) false 0 0 23 [some (vR 0), some (vR (pN p1.1)), some (vI y2), some (vI y3), some (vI x0_), some (vI x1_), some (vI x2_), none] [] (wC cK cF ga gi gs x3_ x4_ x5_ x6_ x7_ x8_ x9_ ea eb cW aO aC aQ) Q) (K := fun r : Int32 × Int32 × (Nat → Nat → Int32) × (Fin 2) × (Fin 2) × (Nat → Nat → Nat → Int64) × (Nat → Int64) × (Nat → Int64) => ∀ (r0_ : Int32) (r1_ : Int32) (r2_ : (Nat → Nat → Int32)) (r3_ : (Fin 2)) (r4_ : (Fin 2)) (r5_ : (Nat → Nat → Nat → Int64)) (r6_ : (Nat → Int64)) (r7_ : (Nat → Int64)), r = (r0_, r1_, r2_, r3_, r4_, r5_, r6_, r7_) → Go mX5_leastSigning (d + 5) false 0 0 79 [none, none, none, none, some (vI r0_), none, none, none] [] (wC cK cF ga gi gs r1_ r2_ r3_ r4_ r5_ r6_ r7_ ea eb cW aO aC aQ) Q) ?_ (x0_, x1_, x2_, x3_, x4_, x5_, x6_, x7_, x8_, x9_) r hl hk x0_ x1_ x2_ x3_ x4_ x5_ x6_ x7_ x8_ x9_ rfl
  · intro x y hs hI hE x0_ x1_ x2_ x3_ x4_ x5_ x6_ x7_ x8_ x9_ hx
    subst hx
    unfold b_X5_leastSigning_23 at hs
    try dsimp only at hs
    refine go_iload (pc := 23) dX5_leastSigning_23 rfl ?_
    refine go_iload_n (pc := 25) 3 dX5_leastSigning_25 rfl rfl ?_
    refine go_icmp_ge (pc := 26) 79 dX5_leastSigning_26 (by decide) (fun h5 => ?_) (fun h5 => ?_)
    · have hs := it_t h5 hs
      obtain rfl := Option.some.inj hs
      refine go_sub (lv' := [none, none, none, none, some (vI x0_), none, none, none]) ⟨rfl, trivial⟩ ?_
      exact (hE (x0_, x3_, x4_, x5_, x6_, x7_, x8_, x9_) rfl) x0_ x3_ x4_ x5_ x6_ x7_ x8_ x9_ rfl
    · have hs := it_f h5 hs
      refine go_iload (pc := 29) dX5_leastSigning_29 rfl ?_
      refine go_iload_n (pc := 31) 2 dX5_leastSigning_31 rfl rfl ?_
      refine go_iand (pc := 32) dX5_leastSigning_32 ?_
      refine go_if_eq (pc := 33) 39 dX5_leastSigning_33 (by decide) (fun h6 => ?_) (fun h6 => ?_)
      · have hs := it_t h6 hs
        refine go_aload_n (pc := 39) 0 dX5_leastSigning_39 rfl rfl ?_
        refine go_getfield (pc := 40) (v := vR 5) 0 5 3 dX5_leastSigning_40 flX5_30 rfl rfl ?_
        refine go_aload_n (pc := 43) 1 dX5_leastSigning_43 rfl rfl ?_
        refine go_iload (pc := 44) dX5_leastSigning_44 rfl ?_
        obtain ⟨x7, hc8, hs⟩ := bnd hs
        refine go_callV (bc := 0) (bs := 0) (mc := 0) (ms := 0) (d := d + 4) (pc := 46) (a := 5) (ci := 3) [vR (pN p1.1), vI x2_] [] dX5_leastSigning_46 kX3_read mlX5_134 ivX3_read rfl rfl rfl rfl (Nat.le_of_ble_eq_true rfl) rfl (c_X3_read (d := d + 1) (res0 := x7.1) (res1 := x7.2.1) (res2 := x7.2.2.1) (res3 := x7.2.2.2.1) (res4 := x7.2.2.2.2.1) (res5 := x7.2.2.2.2.2) hc8) (fun r w' hq => ?_)
        obtain ⟨rfl, rfl⟩ := hq
        show Go mX5_leastSigning (d + 5) false 0 0 49 [some (vR 0), some (vR (pN p1.1)), some (vI y2), some (vI y3), some (vI x0_), some (vI x1_), some (vI x2_), none] [] (wC cK cF ga gi gs x7.1 x7.2.1 x7.2.2.1 x7.2.2.2.1 x7.2.2.2.2.1 x7.2.2.2.2.2 x9_ ea eb cW aO aC aQ) Q
        refine go_aload_n (pc := 49) 0 dX5_leastSigning_49 rfl rfl ?_
        refine go_getfield (pc := 50) (v := vR 5) 0 5 3 dX5_leastSigning_50 flX5_30 rfl rfl ?_
        obtain ⟨x9, hc10, hs⟩ := bnd hs
        refine go_callV (bc := 0) (bs := 0) (mc := 0) (ms := 0) (d := d + 4) (pc := 53) (a := 5) (ci := 3) [] [] dX5_leastSigning_53 kX3_width mlX5_145 ivX3_width rfl rfl rfl rfl (Nat.le_of_ble_eq_true rfl) rfl (c_X3_width (d := d + 0) (res0 := x9.1) (res1 := x9.2) hc10) (fun r w' hq => ?_)
        obtain ⟨rfl, rfl⟩ := hq
        show Go mX5_leastSigning (d + 5) false 0 0 56 [some (vR 0), some (vR (pN p1.1)), some (vI y2), some (vI y3), some (vI x0_), some (vI x1_), some (vI x2_), none] [vI x9.1] (wC cK cF ga gi gs x7.1 x7.2.1 x7.2.2.1 x7.2.2.2.1 x7.2.2.2.2.1 x7.2.2.2.2.2 x9.2 ea eb cW aO aC aQ) Q
        refine go_istore (pc := 56) [some (vR 0), some (vR (pN p1.1)), some (vI y2), some (vI y3), some (vI x0_), some (vI x1_), some (vI x2_), some (vI x9.1)] dX5_leastSigning_56 (by decide) rfl ?_
        refine go_iload (pc := 58) dX5_leastSigning_58 rfl ?_
        refine go_iload (pc := 60) dX5_leastSigning_60 rfl ?_
        refine go_icmp_ge (pc := 62) 73 dX5_leastSigning_62 (by decide) (fun h11 => ?_) (fun h11 => ?_)
        · have hs := it_t h11 hs
          refine go_iinc (pc := 73) (x2_ + (1 : Int32)) [some (vR 0), some (vR (pN p1.1)), some (vI y2), some (vI y3), some (vI x0_), some (vI x1_), some (vI (x2_ + (1 : Int32))), some (vI x9.1)] dX5_leastSigning_73 rfl (iinc_1 _) (by decide) rfl ?_
          refine go_goto (pc := 76) 23 dX5_leastSigning_76 (by decide) ?_
          obtain rfl := Option.some.inj hs
          refine go_sub (lv' := [some (vR 0), some (vR (pN p1.1)), some (vI y2), some (vI y3), some (vI x0_), some (vI x1_), some (vI (x2_ + (1 : Int32))), none]) ⟨rfl, ⟨rfl, ⟨rfl, ⟨rfl, ⟨rfl, ⟨rfl, ⟨rfl, trivial⟩⟩⟩⟩⟩⟩⟩ ?_
          exact hI (x0_, x1_, x2_ + (1 : Int32), x7.1, x7.2.1, x7.2.2.1, x7.2.2.2.1, x7.2.2.2.2.1, x7.2.2.2.2.2, x9.2) rfl x0_ x1_ (x2_ + (1 : Int32)) x7.1 x7.2.1 x7.2.2.1 x7.2.2.2.1 x7.2.2.2.2.1 x7.2.2.2.2.2 x9.2 rfl
        · have hs := it_f h11 hs
          refine go_iload (pc := 65) dX5_leastSigning_65 rfl ?_
          refine go_istore (pc := 67) [some (vR 0), some (vR (pN p1.1)), some (vI y2), some (vI y3), some (vI x0_), some (vI x9.1), some (vI x2_), some (vI x9.1)] dX5_leastSigning_67 (by decide) rfl ?_
          refine go_iload (pc := 69) dX5_leastSigning_69 rfl ?_
          refine go_istore (pc := 71) [some (vR 0), some (vR (pN p1.1)), some (vI y2), some (vI y3), some (vI x2_), some (vI x9.1), some (vI x2_), some (vI x9.1)] dX5_leastSigning_71 (by decide) rfl ?_
          refine go_iinc (pc := 73) (x2_ + (1 : Int32)) [some (vR 0), some (vR (pN p1.1)), some (vI y2), some (vI y3), some (vI x2_), some (vI x9.1), some (vI (x2_ + (1 : Int32))), some (vI x9.1)] dX5_leastSigning_73 rfl (iinc_1 _) (by decide) rfl ?_
          refine go_goto (pc := 76) 23 dX5_leastSigning_76 (by decide) ?_
          obtain rfl := Option.some.inj hs
          refine go_sub (lv' := [some (vR 0), some (vR (pN p1.1)), some (vI y2), some (vI y3), some (vI x2_), some (vI x9.1), some (vI (x2_ + (1 : Int32))), none]) ⟨rfl, ⟨rfl, ⟨rfl, ⟨rfl, ⟨rfl, ⟨rfl, ⟨rfl, trivial⟩⟩⟩⟩⟩⟩⟩ ?_
          exact hI (x2_, x9.1, x2_ + (1 : Int32), x7.1, x7.2.1, x7.2.2.1, x7.2.2.2.1, x7.2.2.2.2.1, x7.2.2.2.2.2, x9.2) rfl x2_ x9.1 (x2_ + (1 : Int32)) x7.1 x7.2.1 x7.2.2.1 x7.2.2.2.1 x7.2.2.2.2.1 x7.2.2.2.2.2 x9.2 rfl
      · have hs := it_f h6 hs
        refine go_goto (pc := 36) 73 dX5_leastSigning_36 (by decide) ?_
        refine go_iinc (pc := 73) (x2_ + (1 : Int32)) [some (vR 0), some (vR (pN p1.1)), some (vI y2), some (vI y3), some (vI x0_), some (vI x1_), some (vI (x2_ + (1 : Int32))), none] dX5_leastSigning_73 rfl (iinc_1 _) (by decide) rfl ?_
        refine go_goto (pc := 76) 23 dX5_leastSigning_76 (by decide) ?_
        obtain rfl := Option.some.inj hs
        exact hI (x0_, x1_, x2_ + (1 : Int32), x3_, x4_, x5_, x6_, x7_, x8_, x9_) rfl x0_ x1_ (x2_ + (1 : Int32)) x3_ x4_ x5_ x6_ x7_ x8_ x9_ rfl
set_option maxRecDepth 20000 in
theorem c_X5_leastSigning {d : Nat}  {p1 : (Fin 5)} {res0 : Int32} {res1 : (Nat → Int32)} {res2 : (Nat → Nat → Int32)} {res3 : Int32} {res4 : (Nat → Nat → Int32)} {res5 : (Fin 2)} {res6 : (Fin 2)} {res7 : (Nat → Nat → Nat → Int64)} {res8 : (Nat → Int64)} {res9 : (Nat → Int64)} (hs : s_X5_leastSigning cK cF oK cT ra rb cR cP cM p1 = some (res0, res1, res2, res3, res4, res5, res6, res7, res8, res9)) : Calls mX5_leastSigning (d + 5) false 0 0 [vR 0, vR (pN p1.1)] (wC cK cF ga gi gs oK cT ra rb cR cP cM ea eb cW aO aC aQ) (fun r w' => r = some (vI res0) ∧ w' = (wC res1 res2 ga gi gs res3 res4 res5 res6 res7 res8 res9 ea eb cW aO aC aQ)) := by
  unfold s_X5_leastSigning at hs
  refine Calls.of kX5_leastSigning 6 [some (vR 0), some (vR (pN p1.1)), none, none, none, none, none, none] rfl (Nat.le_of_ble_eq_true rfl) ?_
  refine go_aload_n (pc := 0) 0 dX5_leastSigning_0 rfl rfl ?_
  refine go_aload_n (pc := 1) 1 dX5_leastSigning_1 rfl rfl ?_
  obtain ⟨x1, hc2, hs⟩ := bnd hs
  refine go_callV (bc := 0) (bs := 0) (mc := 0) (ms := 0) (d := d + 4) (pc := 2) (a := 0) (ci := 5) [vR (pN p1.1)] [] dX5_leastSigning_2 kX5_lateForest mlX5_214 ivX5_lateForest rfl rfl rfl rfl (Nat.le_of_ble_eq_true rfl) rfl (c_X5_lateForest (d := d + 1) (res0 := x1.1) (res1 := x1.2.1) (res2 := x1.2.2) hc2) (fun r w' hq => ?_)
  obtain ⟨rfl, rfl⟩ := hq
  show Go mX5_leastSigning (d + 5) false 0 0 5 [some (vR 0), some (vR (pN p1.1)), none, none, none, none, none, none] [vI x1.1] (wC x1.2.1 x1.2.2 ga gi gs oK cT ra rb cR cP cM ea eb cW aO aC aQ) _
  refine go_istore_n (pc := 5) 2 [some (vR 0), some (vR (pN p1.1)), some (vI x1.1), none, none, none, none, none] dX5_leastSigning_5 rfl (by decide) rfl ?_
  refine go_iconst (pc := 6) (1 : Int32) dX5_leastSigning_6 (by decide) ?_
  refine go_aload_n (pc := 7) 1 dX5_leastSigning_7 rfl rfl ?_
  obtain ⟨x3, hc4, hs⟩ := bnd hs
  refine go_callV (bc := 0) (bs := 0) (mc := 0) (ms := 0) (d := d + 4) (pc := 8) (a := (pN p1.1)) (ci := 2) [] [vI (1 : Int32)] dX5_leastSigning_8 kX2_lineCount mlX5_74 ivX2_lineCount rfl rfl (wC_net p1) rfl (Nat.le_of_ble_eq_true rfl) rfl (c_X2_lineCount (d := d + 2) (res0 := x3) hc4) (fun r w' hq => ?_)
  obtain ⟨rfl, rfl⟩ := hq
  show Go mX5_leastSigning (d + 5) false 0 0 11 [some (vR 0), some (vR (pN p1.1)), some (vI x1.1), none, none, none, none, none] [vI x3, vI (1 : Int32)] (wC x1.2.1 x1.2.2 ga gi gs oK cT ra rb cR cP cM ea eb cW aO aC aQ) _
  refine go_ishl (pc := 11) dX5_leastSigning_11 ?_
  refine go_istore_n (pc := 12) 3 [some (vR 0), some (vR (pN p1.1)), some (vI x1.1), some (vI ((1 : Int32) <<< (x3 &&& 31))), none, none, none, none] dX5_leastSigning_12 rfl (by decide) rfl ?_
  refine go_iconst (pc := 13) (0 : Int32) dX5_leastSigning_13 (by decide) ?_
  refine go_istore (pc := 14) [some (vR 0), some (vR (pN p1.1)), some (vI x1.1), some (vI ((1 : Int32) <<< (x3 &&& 31))), some (vI (0 : Int32)), none, none, none] dX5_leastSigning_14 (by decide) rfl ?_
  refine go_bipush (pc := 16) (19 : Int32) dX5_leastSigning_16 (by decide) ?_
  refine go_istore (pc := 18) [some (vR 0), some (vR (pN p1.1)), some (vI x1.1), some (vI ((1 : Int32) <<< (x3 &&& 31))), some (vI (0 : Int32)), some (vI (19 : Int32)), none, none] dX5_leastSigning_18 (by decide) rfl ?_
  refine go_iconst (pc := 20) (0 : Int32) dX5_leastSigning_20 (by decide) ?_
  refine go_istore (pc := 21) [some (vR 0), some (vR (pN p1.1)), some (vI x1.1), some (vI ((1 : Int32) <<< (x3 &&& 31))), some (vI (0 : Int32)), some (vI (19 : Int32)), some (vI (0 : Int32)), none] dX5_leastSigning_21 (by decide) rfl ?_
  obtain ⟨e12, hl13, hs⟩ := bnd hs
  refine g_X5_leastSigning_23 (d := d) (0 : Int32) (19 : Int32) (0 : Int32) oK cT ra rb cR cP cM e12 hl13 ?_
  intro v14 v15 v16 v17 v18 v19 v20 v21 hv22
  subst hv22
  try dsimp only at hs
  refine go_iload (pc := 79) dX5_leastSigning_79 rfl ?_
  cases hs
  exact go_ireturn (st := []) (pc := 81) dX5_leastSigning_81 rfl (vp_nar_int _) (fun h => by cases h) ⟨rfl, rfl⟩
noncomputable def s_X5_best (cK : (Nat → Int32)) (cF : (Nat → Nat → Int32)) (oK : Int32) (cT : (Nat → Nat → Int32)) (ra : (Fin 2)) (rb : (Fin 2)) (cR : (Nat → Nat → Nat → Int64)) (cP : (Nat → Int64)) (cM : (Nat → Int64)) (a1 : Int32) : Option (Int32 × (Nat → Int32) × (Nat → Nat → Int32) × Int32 × (Nat → Nat → Int32) × (Fin 2) × (Fin 2) × (Nat → Nat → Nat → Int64) × (Nat → Int64) × (Nat → Int64)) := (s_X5_netAt a1).bind (fun x1 => Option.elim x1 (some ((-2 : Int32), cK, cF, oK, cT, ra, rb, cR, cP, cM)) (fun p3 => (s_X2_lineCount cK cF p3).bind (fun x4 => if x4 ≤ (9 : Int32) then ((s_X5_leastSigning cK cF oK cT ra rb cR cP cM p3).bind (fun x7 => some (x7.1, x7.2.1, x7.2.2.1, x7.2.2.2.1, x7.2.2.2.2.1, x7.2.2.2.2.2.1, x7.2.2.2.2.2.2.1, x7.2.2.2.2.2.2.2.1, x7.2.2.2.2.2.2.2.2.1, x7.2.2.2.2.2.2.2.2.2))) else (some ((-3 : Int32), cK, cF, oK, cT, ra, rb, cR, cP, cM)))))
set_option maxRecDepth 20000 in
theorem c_X5_best {d : Nat}  {a1 : Int32} {res0 : Int32} {res1 : (Nat → Int32)} {res2 : (Nat → Nat → Int32)} {res3 : Int32} {res4 : (Nat → Nat → Int32)} {res5 : (Fin 2)} {res6 : (Fin 2)} {res7 : (Nat → Nat → Nat → Int64)} {res8 : (Nat → Int64)} {res9 : (Nat → Int64)} (hs : s_X5_best cK cF oK cT ra rb cR cP cM a1 = some (res0, res1, res2, res3, res4, res5, res6, res7, res8, res9)) : Calls mX5_best (d + 6) false 0 0 [vR 0, vI a1] (wC cK cF ga gi gs oK cT ra rb cR cP cM ea eb cW aO aC aQ) (fun r w' => r = some (vI res0) ∧ w' = (wC res1 res2 ga gi gs res3 res4 res5 res6 res7 res8 res9 ea eb cW aO aC aQ)) := by
  unfold s_X5_best at hs
  refine Calls.of kX5_best 1 [some (vR 0), some (vI a1), none] rfl (Nat.le_of_ble_eq_true rfl) ?_
  refine go_aload_n (pc := 0) 0 dX5_best_0 rfl rfl ?_
  refine go_iload_n (pc := 1) 1 dX5_best_1 rfl rfl ?_
  obtain ⟨x1, hc2, hs⟩ := bnd hs
  refine go_callV (bc := 0) (bs := 0) (mc := 0) (ms := 0) (d := d + 5) (pc := 2) (a := 0) (ci := 5) [vI a1] [] dX5_best_2 kX5_netAt mlX5_48 ivX5_netAt rfl rfl rfl rfl (Nat.le_of_ble_eq_true rfl) rfl (c_X5_netAt (d := d + 5) (res0 := x1) hc2) (fun r w' hq => ?_)
  obtain ⟨rfl, rfl⟩ := hq
  show Go mX5_best (d + 6) false 0 0 5 [some (vR 0), some (vI a1), none] [vQ (x1.map (fun i => pN i.1))] (wC cK cF ga gi gs oK cT ra rb cR cP cM ea eb cW aO aC aQ) _
  refine go_astore_n (pc := 5) 2 [some (vR 0), some (vI a1), some (vQ (x1.map (fun i => pN i.1)))] dX5_best_5 rfl (by decide) rfl ?_
  refine go_aload_n (pc := 6) 2 dX5_best_6 rfl rfl ?_
  rcases x1 with _ | p3
  · refine go_ifnonnull (pc := 7) 13 dX5_best_7 (by decide) (fun a h => by cases h) (fun _ => ?_)
    simp only [Option.elim_none] at hs
    refine go_bipush (pc := 10) (-2 : Int32) dX5_best_10 (by decide) ?_
    cases hs
    exact go_ireturn (st := []) (pc := 12) dX5_best_12 rfl (vp_nar_int _) (fun h => by cases h) ⟨rfl, rfl⟩
  · refine go_ifnonnull (pc := 7) 13 dX5_best_7 (by decide) (fun a _ => ?_) (fun h => by cases h)
    simp only [Option.elim_some] at hs
    show Go mX5_best (d + 6) false 0 0 13 [some (vR 0), some (vI a1), some (vR (pN p3.1))] [] (wC cK cF ga gi gs oK cT ra rb cR cP cM ea eb cW aO aC aQ) _
    refine go_aload_n (pc := 13) 2 dX5_best_13 rfl rfl ?_
    obtain ⟨x4, hc5, hs⟩ := bnd hs
    refine go_callV (bc := 0) (bs := 0) (mc := 0) (ms := 0) (d := d + 5) (pc := 14) (a := (pN p3.1)) (ci := 2) [] [] dX5_best_14 kX2_lineCount mlX5_74 ivX2_lineCount rfl rfl (wC_net p3) rfl (Nat.le_of_ble_eq_true rfl) rfl (c_X2_lineCount (d := d + 3) (res0 := x4) hc5) (fun r w' hq => ?_)
    obtain ⟨rfl, rfl⟩ := hq
    show Go mX5_best (d + 6) false 0 0 17 [some (vR 0), some (vI a1), some (vR (pN p3.1))] [vI x4] (wC cK cF ga gi gs oK cT ra rb cR cP cM ea eb cW aO aC aQ) _
    refine go_bipush (pc := 17) (9 : Int32) dX5_best_17 (by decide) ?_
    refine go_icmp_le (pc := 19) 25 dX5_best_19 (by decide) (fun h6 => ?_) (fun h6 => ?_)
    · have hs := it_t h6 hs
      refine go_aload_n (pc := 25) 0 dX5_best_25 rfl rfl ?_
      refine go_aload_n (pc := 26) 2 dX5_best_26 rfl rfl ?_
      obtain ⟨x7, hc8, hs⟩ := bnd hs
      refine go_callV (bc := 0) (bs := 0) (mc := 0) (ms := 0) (d := d + 5) (pc := 27) (a := 0) (ci := 5) [vR (pN p3.1)] [] dX5_best_27 kX5_leastSigning mlX5_148 ivX5_leastSigning rfl rfl rfl rfl (Nat.le_of_ble_eq_true rfl) rfl (c_X5_leastSigning (d := d + 0) (res0 := x7.1) (res1 := x7.2.1) (res2 := x7.2.2.1) (res3 := x7.2.2.2.1) (res4 := x7.2.2.2.2.1) (res5 := x7.2.2.2.2.2.1) (res6 := x7.2.2.2.2.2.2.1) (res7 := x7.2.2.2.2.2.2.2.1) (res8 := x7.2.2.2.2.2.2.2.2.1) (res9 := x7.2.2.2.2.2.2.2.2.2) hc8) (fun r w' hq => ?_)
      obtain ⟨rfl, rfl⟩ := hq
      show Go mX5_best (d + 6) false 0 0 30 [some (vR 0), some (vI a1), some (vR (pN p3.1))] [vI x7.1] (wC x7.2.1 x7.2.2.1 ga gi gs x7.2.2.2.1 x7.2.2.2.2.1 x7.2.2.2.2.2.1 x7.2.2.2.2.2.2.1 x7.2.2.2.2.2.2.2.1 x7.2.2.2.2.2.2.2.2.1 x7.2.2.2.2.2.2.2.2.2 ea eb cW aO aC aQ) _
      cases hs
      exact go_ireturn (st := []) (pc := 30) dX5_best_30 rfl (vp_nar_int _) (fun h => by cases h) ⟨rfl, rfl⟩
    · have hs := it_f h6 hs
      refine go_bipush (pc := 22) (-3 : Int32) dX5_best_22 (by decide) ?_
      cases hs
      exact go_ireturn (st := []) (pc := 24) dX5_best_24 rfl (vp_nar_int _) (fun h => by cases h) ⟨rfl, rfl⟩
noncomputable def s_X5_isStepCount (a0 : Int32) : Option (Int32) := if a0 < 0 then (some (0 : Int32)) else (if (12 : Int32) < a0 then (some (0 : Int32)) else (some (1 : Int32)))
set_option maxRecDepth 20000 in
theorem c_X5_isStepCount {d : Nat} {w : List AC} {a0 : Int32} {res0 : Int32} (hs : s_X5_isStepCount a0 = some res0) : Calls mX5_isStepCount (d + 0) false 0 0 [vI a0] w (fun r w' => r = some (vI res0) ∧ w' = w) := by
  unfold s_X5_isStepCount at hs
  refine Calls.of kX5_isStepCount 0 [some (vI a0)] rfl (Nat.le_of_ble_eq_true rfl) ?_
  refine go_iload_n (pc := 0) 0 dX5_isStepCount_0 rfl rfl ?_
  refine go_if_lt (pc := 1) 14 dX5_isStepCount_1 (by decide) (fun h1 => ?_) (fun h1 => ?_)
  · have hs := it_t h1 hs
    refine go_iconst (pc := 14) (0 : Int32) dX5_isStepCount_14 (by decide) ?_
    cases hs
    exact go_ireturn (st := []) (pc := 15) dX5_isStepCount_15 rfl rfl (fun h => by cases h) ⟨rfl, rfl⟩
  · have hs := it_f h1 hs
    refine go_iload_n (pc := 4) 0 dX5_isStepCount_4 rfl rfl ?_
    refine go_bipush (pc := 5) (12 : Int32) dX5_isStepCount_5 (by decide) ?_
    refine go_icmp_gt (pc := 7) 14 dX5_isStepCount_7 (by decide) (fun h2 => ?_) (fun h2 => ?_)
    · have hs := it_t h2 hs
      refine go_iconst (pc := 14) (0 : Int32) dX5_isStepCount_14 (by decide) ?_
      cases hs
      exact go_ireturn (st := []) (pc := 15) dX5_isStepCount_15 rfl rfl (fun h => by cases h) ⟨rfl, rfl⟩
    · have hs := it_f h2 hs
      refine go_iconst (pc := 10) (1 : Int32) dX5_isStepCount_10 (by decide) ?_
      refine go_goto (pc := 11) 15 dX5_isStepCount_11 (by decide) ?_
      cases hs
      exact go_ireturn (st := []) (pc := 15) dX5_isStepCount_15 rfl rfl (fun h => by cases h) ⟨rfl, rfl⟩
end
