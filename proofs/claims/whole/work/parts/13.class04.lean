section
variable {cK : (Nat → Int32)} {cF : (Nat → Nat → Int32)} {ga : Int32} {gi : Int32} {gs : Int32} {oK : Int32} {cT : (Nat → Nat → Int32)} {ra : (Fin 2)} {rb : (Fin 2)} {cR : (Nat → Nat → Nat → Int64)} {cP : (Nat → Int64)} {cM : (Nat → Int64)} {ea : (Fin 2)} {eb : (Fin 2)} {cW : (Nat → Nat → Int64)} {aO : (Nat → Int32)} {aC : (Nat → Int32)} {aQ : (Nat → Int32)}
noncomputable def b_X2_becomeTurned_19 (cK : (Nat → Int32)) (p0 : (Fin 5)) (p1 : (Fin 5)) (y2 : Int32) (x : Int32 × (Nat → Nat → Int32)) : Option ((Int32 × (Nat → Nat → Int32)) ⊕ ((Nat → Nat → Int32))) := if (cK p0.1) ≤ x.1 then (some (Sum.inr x.2)) else (chk x.1 10 (chk x.1 10 (some (Sum.inl (x.1 + (1 : Int32), va_up x.2 p0.1 (upd (x.2 p0.1) x.1.toNatClampNeg ((y2 &&& ((x.2 p1.1 x.1.toNatClampNeg) ^^^ (-1 : Int32))) &&& (((1 : Int32) <<< (x.1 &&& 31)) ^^^ (-1 : Int32)))))))))
noncomputable def s_X2_becomeTurned (cK : (Nat → Int32)) (cF : (Nat → Nat → Int32)) (p0 : (Fin 5)) (p1 : (Fin 5)) : Option ((Nat → Int32) × (Nat → Nat → Int32)) := (s_X2_startWith cK cF p0 (cK p1.1)).bind (fun x1 => (loop (b_X2_becomeTurned_19 x1.1 p0 p1 (((1 : Int32) <<< ((x1.1 p0.1) &&& 31)) - (1 : Int32))) ((0 : Int32), x1.2)).bind (fun e6 => some (x1.1, e6)))
set_option maxRecDepth 20000 in
theorem g_X2_becomeTurned_19 {d : Nat} {p0 : (Fin 5)} {p1 : (Fin 5)} {Q : Option AV → List AC → Prop} {y2 : Int32}  (x0_ : Int32) (x1_ : (Nat → Nat → Int32)) (r : (Nat → Nat → Int32)) (hl : loop (b_X2_becomeTurned_19 cK p0 p1 y2) (x0_, x1_) = some r) (hk : Go mX2_becomeTurned (d + 2) false 0 0 55 [none, none, none, none] [] (wC cK r ga gi gs oK cT ra rb cR cP cM ea eb cW aO aC aQ) Q) : Go mX2_becomeTurned (d + 2) false 0 0 19 [some (vR (pN p0.1)), some (vR (pN p1.1)), some (vI y2), some (vI x0_)] [] (wC cK x1_ ga gi gs oK cT ra rb cR cP cM ea eb cW aO aC aQ) Q := by
  refine loop_go (P := fun x : Int32 × (Nat → Nat → Int32) => ∀ (x0_ : Int32) (x1_ : (Nat → Nat → Int32)), x = (x0_, x1_) → Go mX2_becomeTurned (d + 2) false 0 0 19 [some (vR (pN p0.1)), some (vR (pN p1.1)), some (vI y2), some (vI x0_)] [] (wC cK x1_ ga gi gs oK cT ra rb cR cP cM ea eb cW aO aC aQ) Q) (K := fun r : (Nat → Nat → Int32) => Go mX2_becomeTurned (d + 2) false 0 0 55 [none, none, none, none] [] (wC cK r ga gi gs oK cT ra rb cR cP cM ea eb cW aO aC aQ) Q) ?_ (x0_, x1_) r hl hk x0_ x1_ rfl
  · intro x y hs hI hE x0_ x1_ hx
    subst hx
    unfold b_X2_becomeTurned_19 at hs
    try dsimp only at hs
    refine go_iload_n (pc := 19) 3 dX2_becomeTurned_19 rfl rfl ?_
    refine go_aload_n (pc := 20) 0 dX2_becomeTurned_20 rfl rfl ?_
    refine go_getfield (pc := 21) (v := vI (cK p0.1)) (pN p0.1) 2 0 dX2_becomeTurned_21 flX2_9 (wC_net p0) rfl ?_
    refine go_icmp_ge (pc := 24) 55 dX2_becomeTurned_24 (by decide) (fun h3 => ?_) (fun h3 => ?_)
    · have hs := it_t h3 hs
      obtain rfl := Option.some.inj hs
      refine go_sub (lv' := [none, none, none, none]) trivial ?_
      exact hE x1_ rfl
    · have hs := it_f h3 hs
      refine go_aload_n (pc := 27) 0 dX2_becomeTurned_27 rfl rfl ?_
      refine go_getfield (pc := 28) (v := vR (pN p0.1 + 1)) (pN p0.1) 2 1 dX2_becomeTurned_28 flX2_15 (wC_net p0) rfl ?_
      refine go_iload_n (pc := 31) 3 dX2_becomeTurned_31 rfl rfl ?_
      refine go_iload_n (pc := 32) 2 dX2_becomeTurned_32 rfl rfl ?_
      refine go_aload_n (pc := 33) 1 dX2_becomeTurned_33 rfl rfl ?_
      refine go_getfield (pc := 34) (v := vR (pN p1.1 + 1)) (pN p1.1) 2 1 dX2_becomeTurned_34 flX2_15 (wC_net p1) rfl ?_
      refine go_iload_n (pc := 37) 3 dX2_becomeTurned_37 rfl rfl ?_
      obtain ⟨hi4, hs⟩ := chk_t hs
      refine go_iaload (pc := 38) (pN p1.1 + 1) dX2_becomeTurned_38 (wC_bes p1) hi4 ?_
      refine go_iconst (pc := 39) (-1 : Int32) dX2_becomeTurned_39 (by decide) ?_
      refine go_ixor (pc := 40) dX2_becomeTurned_40 ?_
      refine go_iand (pc := 41) dX2_becomeTurned_41 ?_
      refine go_iconst (pc := 42) (1 : Int32) dX2_becomeTurned_42 (by decide) ?_
      refine go_iload_n (pc := 43) 3 dX2_becomeTurned_43 rfl rfl ?_
      refine go_ishl (pc := 44) dX2_becomeTurned_44 ?_
      refine go_iconst (pc := 45) (-1 : Int32) dX2_becomeTurned_45 (by decide) ?_
      refine go_ixor (pc := 46) dX2_becomeTurned_46 ?_
      refine go_iand (pc := 47) dX2_becomeTurned_47 ?_
      obtain ⟨hi5, hs⟩ := chk_t hs
      refine go_iastore (pc := 48) (pN p0.1 + 1) dX2_becomeTurned_48 (wC_bes p0) hi5 (go_w (wC_sbes p0) (show Go mX2_becomeTurned (d + 2) false 0 0 49 [some (vR (pN p0.1)), some (vR (pN p1.1)), some (vI y2), some (vI x0_)] [] (wC cK (va_up x1_ p0.1 (upd (x1_ p0.1) x0_.toNatClampNeg ((y2 &&& ((x1_ p1.1 x0_.toNatClampNeg) ^^^ (-1 : Int32))) &&& (((1 : Int32) <<< (x0_ &&& 31)) ^^^ (-1 : Int32))))) ga gi gs oK cT ra rb cR cP cM ea eb cW aO aC aQ) Q from ?_))
      refine go_iinc (pc := 49) (x0_ + (1 : Int32)) [some (vR (pN p0.1)), some (vR (pN p1.1)), some (vI y2), some (vI (x0_ + (1 : Int32)))] dX2_becomeTurned_49 rfl (iinc_1 _) (by decide) rfl ?_
      refine go_goto (pc := 52) 19 dX2_becomeTurned_52 (by decide) ?_
      obtain rfl := Option.some.inj hs
      exact hI (x0_ + (1 : Int32), va_up x1_ p0.1 (upd (x1_ p0.1) x0_.toNatClampNeg ((y2 &&& ((x1_ p1.1 x0_.toNatClampNeg) ^^^ (-1 : Int32))) &&& (((1 : Int32) <<< (x0_ &&& 31)) ^^^ (-1 : Int32))))) rfl (x0_ + (1 : Int32)) (va_up x1_ p0.1 (upd (x1_ p0.1) x0_.toNatClampNeg ((y2 &&& ((x1_ p1.1 x0_.toNatClampNeg) ^^^ (-1 : Int32))) &&& (((1 : Int32) <<< (x0_ &&& 31)) ^^^ (-1 : Int32))))) rfl
set_option maxRecDepth 20000 in
theorem c_X2_becomeTurned {d : Nat}  {p0 : (Fin 5)} {p1 : (Fin 5)} {res0 : (Nat → Int32)} {res1 : (Nat → Nat → Int32)} (hs : s_X2_becomeTurned cK cF p0 p1 = some (res0, res1)) : Calls mX2_becomeTurned (d + 2) false 0 0 [vR (pN p0.1), vR (pN p1.1)] (wC cK cF ga gi gs oK cT ra rb cR cP cM ea eb cW aO aC aQ) (fun r w' => r = none ∧ w' = (wC res0 res1 ga gi gs oK cT ra rb cR cP cM ea eb cW aO aC aQ)) := by
  unfold s_X2_becomeTurned at hs
  refine Calls.of kX2_becomeTurned 2 [some (vR (pN p0.1)), some (vR (pN p1.1)), none, none] rfl (Nat.le_of_ble_eq_true rfl) ?_
  refine go_aload_n (pc := 0) 0 dX2_becomeTurned_0 rfl rfl ?_
  refine go_aload_n (pc := 1) 1 dX2_becomeTurned_1 rfl rfl ?_
  refine go_getfield (pc := 2) (v := vI (cK p1.1)) (pN p1.1) 2 0 dX2_becomeTurned_2 flX2_9 (wC_net p1) rfl ?_
  obtain ⟨x1, hc2, hs⟩ := bnd hs
  refine go_callV (bc := 0) (bs := 0) (mc := 0) (ms := 0) (d := d + 1) (pc := 5) (a := (pN p0.1)) (ci := 2) [vI (cK p1.1)] [] dX2_becomeTurned_5 kX2_startWith mlX2_43 ivX2_startWith rfl rfl (wC_net p0) rfl (Nat.le_of_ble_eq_true rfl) rfl (c_X2_startWith (d := d + 0) (res0 := x1.1) (res1 := x1.2) hc2) (fun r w' hq => ?_)
  obtain ⟨rfl, rfl⟩ := hq
  show Go mX2_becomeTurned (d + 2) false 0 0 8 [some (vR (pN p0.1)), some (vR (pN p1.1)), none, none] [] (wC x1.1 x1.2 ga gi gs oK cT ra rb cR cP cM ea eb cW aO aC aQ) _
  refine go_iconst (pc := 8) (1 : Int32) dX2_becomeTurned_8 (by decide) ?_
  refine go_aload_n (pc := 9) 0 dX2_becomeTurned_9 rfl rfl ?_
  refine go_getfield (pc := 10) (v := vI (x1.1 p0.1)) (pN p0.1) 2 0 dX2_becomeTurned_10 flX2_9 (wC_net p0) rfl ?_
  refine go_ishl (pc := 13) dX2_becomeTurned_13 ?_
  refine go_iconst (pc := 14) (1 : Int32) dX2_becomeTurned_14 (by decide) ?_
  refine go_isub (pc := 15) dX2_becomeTurned_15 ?_
  refine go_istore_n (pc := 16) 2 [some (vR (pN p0.1)), some (vR (pN p1.1)), some (vI (((1 : Int32) <<< ((x1.1 p0.1) &&& 31)) - (1 : Int32))), none] dX2_becomeTurned_16 rfl (by decide) rfl ?_
  refine go_iconst (pc := 17) (0 : Int32) dX2_becomeTurned_17 (by decide) ?_
  refine go_istore_n (pc := 18) 3 [some (vR (pN p0.1)), some (vR (pN p1.1)), some (vI (((1 : Int32) <<< ((x1.1 p0.1) &&& 31)) - (1 : Int32))), some (vI (0 : Int32))] dX2_becomeTurned_18 rfl (by decide) rfl ?_
  obtain ⟨e6, hl7, hs⟩ := bnd hs
  refine g_X2_becomeTurned_19 (d := d) (0 : Int32) x1.2 e6 hl7 ?_
  cases hs
  exact go_return (st := []) (pc := 55) dX2_becomeTurned_55 rfl (fun h => by cases h) ⟨rfl, rfl⟩
noncomputable def b_X2_evenDegree_2 (cK : (Nat → Int32)) (cF : (Nat → Nat → Int32)) (p0 : (Fin 5)) (x : Int32) : Option ((Int32) ⊕ ((Unit) ⊕ (Unit))) := if (cK p0.1) ≤ x then (some (Sum.inr (Sum.inr ()))) else ((s_X2_degree cF p0 x).bind (fun x2 => (s_X2_degree cF p0 (0 : Int32)).bind (fun x4 => if x2 = x4 then (some (Sum.inl (x + (1 : Int32)))) else (some (Sum.inr (Sum.inl ()))))))
noncomputable def s_X2_evenDegree (cK : (Nat → Int32)) (cF : (Nat → Nat → Int32)) (p0 : (Fin 5)) : Option (Int32) := (loop (b_X2_evenDegree_2 cK cF p0) (1 : Int32)).bind (fun e7 => Sum.elim (fun e9 => some (-1 : Int32)) (fun e10 => (s_X2_degree cF p0 (0 : Int32)).bind (fun x11 => some x11)) e7)
set_option maxRecDepth 20000 in
theorem g_X2_evenDegree_2 {d : Nat} {p0 : (Fin 5)} {Q : Option AV → List AC → Prop}   (x0_ : Int32) (r : (Unit) ⊕ (Unit)) (hl : loop (b_X2_evenDegree_2 cK cF p0) x0_ = some r) (hk : (r = Sum.inl () → Go mX2_evenDegree (d + 2) false 0 0 23 [none, none] [] (wC cK cF ga gi gs oK cT ra rb cR cP cM ea eb cW aO aC aQ) Q) ∧ (r = Sum.inr () → Go mX2_evenDegree (d + 2) false 0 0 31 [some (vR (pN p0.1)), none] [] (wC cK cF ga gi gs oK cT ra rb cR cP cM ea eb cW aO aC aQ) Q)) : Go mX2_evenDegree (d + 2) false 0 0 2 [some (vR (pN p0.1)), some (vI x0_)] [] (wC cK cF ga gi gs oK cT ra rb cR cP cM ea eb cW aO aC aQ) Q := by
  refine loop_go (P := fun x0_ : Int32 => Go mX2_evenDegree (d + 2) false 0 0 2 [some (vR (pN p0.1)), some (vI x0_)] [] (wC cK cF ga gi gs oK cT ra rb cR cP cM ea eb cW aO aC aQ) Q) (K := fun r : (Unit) ⊕ (Unit) => (r = Sum.inl () → Go mX2_evenDegree (d + 2) false 0 0 23 [none, none] [] (wC cK cF ga gi gs oK cT ra rb cR cP cM ea eb cW aO aC aQ) Q) ∧ (r = Sum.inr () → Go mX2_evenDegree (d + 2) false 0 0 31 [some (vR (pN p0.1)), none] [] (wC cK cF ga gi gs oK cT ra rb cR cP cM ea eb cW aO aC aQ) Q)) ?_ x0_ r hl hk 
  · intro x0_ y hs hI hE
    unfold b_X2_evenDegree_2 at hs
    refine go_iload_n (pc := 2) 1 dX2_evenDegree_2 rfl rfl ?_
    refine go_aload_n (pc := 3) 0 dX2_evenDegree_3 rfl rfl ?_
    refine go_getfield (pc := 4) (v := vI (cK p0.1)) (pN p0.1) 2 0 dX2_evenDegree_4 flX2_9 (wC_net p0) rfl ?_
    refine go_icmp_ge (pc := 7) 31 dX2_evenDegree_7 (by decide) (fun h1 => ?_) (fun h1 => ?_)
    · have hs := it_t h1 hs
      obtain rfl := Option.some.inj hs
      refine go_sub (lv' := [some (vR (pN p0.1)), none]) ⟨rfl, trivial⟩ ?_
      exact (hE (Sum.inr ()) rfl).2  rfl
    · have hs := it_f h1 hs
      refine go_aload_n (pc := 10) 0 dX2_evenDegree_10 rfl rfl ?_
      refine go_iload_n (pc := 11) 1 dX2_evenDegree_11 rfl rfl ?_
      obtain ⟨x2, hc3, hs⟩ := bnd hs
      refine go_callV (bc := 0) (bs := 0) (mc := 0) (ms := 0) (d := d + 1) (pc := 12) (a := (pN p0.1)) (ci := 2) [vI x0_] [] dX2_evenDegree_12 kX2_degree mlX2_60 ivX2_degree rfl rfl (wC_net p0) rfl (Nat.le_of_ble_eq_true rfl) rfl (c_X2_degree (d := d + 0) (res0 := x2) hc3) (fun r w' hq => ?_)
      obtain ⟨rfl, rfl⟩ := hq
      show Go mX2_evenDegree (d + 2) false 0 0 15 [some (vR (pN p0.1)), some (vI x0_)] [vI x2] (wC cK cF ga gi gs oK cT ra rb cR cP cM ea eb cW aO aC aQ) Q
      refine go_aload_n (pc := 15) 0 dX2_evenDegree_15 rfl rfl ?_
      refine go_iconst (pc := 16) (0 : Int32) dX2_evenDegree_16 (by decide) ?_
      obtain ⟨x4, hc5, hs⟩ := bnd hs
      refine go_callV (bc := 0) (bs := 0) (mc := 0) (ms := 0) (d := d + 1) (pc := 17) (a := (pN p0.1)) (ci := 2) [vI (0 : Int32)] [vI x2] dX2_evenDegree_17 kX2_degree mlX2_60 ivX2_degree rfl rfl (wC_net p0) rfl (Nat.le_of_ble_eq_true rfl) rfl (c_X2_degree (d := d + 0) (res0 := x4) hc5) (fun r w' hq => ?_)
      obtain ⟨rfl, rfl⟩ := hq
      show Go mX2_evenDegree (d + 2) false 0 0 20 [some (vR (pN p0.1)), some (vI x0_)] [vI x4, vI x2] (wC cK cF ga gi gs oK cT ra rb cR cP cM ea eb cW aO aC aQ) Q
      refine go_icmp_eq (pc := 20) 25 dX2_evenDegree_20 (by decide) (fun h6 => ?_) (fun h6 => ?_)
      · have hs := it_t h6 hs
        refine go_iinc (pc := 25) (x0_ + (1 : Int32)) [some (vR (pN p0.1)), some (vI (x0_ + (1 : Int32)))] dX2_evenDegree_25 rfl (iinc_1 _) (by decide) rfl ?_
        refine go_goto (pc := 28) 2 dX2_evenDegree_28 (by decide) ?_
        obtain rfl := Option.some.inj hs
        exact hI (x0_ + (1 : Int32)) rfl
      · have hs := it_f h6 hs
        obtain rfl := Option.some.inj hs
        refine go_sub (lv' := [none, none]) trivial ?_
        exact (hE (Sum.inl ()) rfl).1  rfl
set_option maxRecDepth 20000 in
theorem c_X2_evenDegree {d : Nat}  {p0 : (Fin 5)} {res0 : Int32} (hs : s_X2_evenDegree cK cF p0 = some res0) : Calls mX2_evenDegree (d + 2) false 0 0 [vR (pN p0.1)] (wC cK cF ga gi gs oK cT ra rb cR cP cM ea eb cW aO aC aQ) (fun r w' => r = some (vI res0) ∧ w' = (wC cK cF ga gi gs oK cT ra rb cR cP cM ea eb cW aO aC aQ)) := by
  unfold s_X2_evenDegree at hs
  refine Calls.of kX2_evenDegree 1 [some (vR (pN p0.1)), none] rfl (Nat.le_of_ble_eq_true rfl) ?_
  refine go_iconst (pc := 0) (1 : Int32) dX2_evenDegree_0 (by decide) ?_
  refine go_istore_n (pc := 1) 1 [some (vR (pN p0.1)), some (vI (1 : Int32))] dX2_evenDegree_1 rfl (by decide) rfl ?_
  obtain ⟨e7, hl8, hs⟩ := bnd hs
  refine g_X2_evenDegree_2 (d := d) (1 : Int32) e7 hl8 ?_
  constructor
  · intro  hv13
    subst hv13
    simp only [Sum.elim_inl] at hs
    refine go_iconst (pc := 23) (-1 : Int32) dX2_evenDegree_23 (by decide) ?_
    cases hs
    exact go_ireturn (st := []) (pc := 24) dX2_evenDegree_24 rfl (vp_nar_int _) (fun h => by cases h) ⟨rfl, rfl⟩
  · intro  hv14
    subst hv14
    simp only [Sum.elim_inr] at hs
    refine go_aload_n (pc := 31) 0 dX2_evenDegree_31 rfl rfl ?_
    refine go_iconst (pc := 32) (0 : Int32) dX2_evenDegree_32 (by decide) ?_
    obtain ⟨x11, hc12, hs⟩ := bnd hs
    refine go_callV (bc := 0) (bs := 0) (mc := 0) (ms := 0) (d := d + 1) (pc := 33) (a := (pN p0.1)) (ci := 2) [vI (0 : Int32)] [] dX2_evenDegree_33 kX2_degree mlX2_60 ivX2_degree rfl rfl (wC_net p0) rfl (Nat.le_of_ble_eq_true rfl) rfl (c_X2_degree (d := d + 0) (res0 := x11) hc12) (fun r w' hq => ?_)
    obtain ⟨rfl, rfl⟩ := hq
    show Go mX2_evenDegree (d + 2) false 0 0 36 [some (vR (pN p0.1)), none] [vI x11] (wC cK cF ga gi gs oK cT ra rb cR cP cM ea eb cW aO aC aQ) _
    cases hs
    exact go_ireturn (st := []) (pc := 36) dX2_evenDegree_36 rfl (vp_nar_int _) (fun h => by cases h) ⟨rfl, rfl⟩
noncomputable def b_X2_partOf_6 (cK : (Nat → Int32)) (cF : (Nat → Nat → Int32)) (p0 : (Fin 5)) (x : Int32 × Int32) : Option ((Int32 × Int32) ⊕ (Int32)) := if (cK p0.1) ≤ x.2 then (some (Sum.inr x.1)) else ((s_X2_besideSet cK cF p0 x.1).bind (fun x2 => some (Sum.inl (x.1 ||| x2, x.2 + (1 : Int32)))))
noncomputable def s_X2_partOf (cK : (Nat → Int32)) (cF : (Nat → Nat → Int32)) (p0 : (Fin 5)) (a1 : Int32) : Option (Int32) := (loop (b_X2_partOf_6 cK cF p0) ((1 : Int32) <<< (a1 &&& 31), (1 : Int32))).bind (fun e4 => some e4)
set_option maxRecDepth 20000 in
theorem g_X2_partOf_6 {d : Nat} {p0 : (Fin 5)} {Q : Option AV → List AC → Prop}   (x0_ : Int32) (x1_ : Int32) (r : Int32) (hl : loop (b_X2_partOf_6 cK cF p0) (x0_, x1_) = some r) (hk : Go mX2_partOf (d + 1) false 0 0 28 [none, none, some (vI r), none] [] (wC cK cF ga gi gs oK cT ra rb cR cP cM ea eb cW aO aC aQ) Q) : Go mX2_partOf (d + 1) false 0 0 6 [some (vR (pN p0.1)), none, some (vI x0_), some (vI x1_)] [] (wC cK cF ga gi gs oK cT ra rb cR cP cM ea eb cW aO aC aQ) Q := by
  refine loop_go (P := fun x : Int32 × Int32 => ∀ (x0_ : Int32) (x1_ : Int32), x = (x0_, x1_) → Go mX2_partOf (d + 1) false 0 0 6 [some (vR (pN p0.1)), none, some (vI x0_), some (vI x1_)] [] (wC cK cF ga gi gs oK cT ra rb cR cP cM ea eb cW aO aC aQ) Q) (K := fun r : Int32 => Go mX2_partOf (d + 1) false 0 0 28 [none, none, some (vI r), none] [] (wC cK cF ga gi gs oK cT ra rb cR cP cM ea eb cW aO aC aQ) Q) ?_ (x0_, x1_) r hl hk x0_ x1_ rfl
  · intro x y hs hI hE x0_ x1_ hx
    subst hx
    unfold b_X2_partOf_6 at hs
    try dsimp only at hs
    refine go_iload_n (pc := 6) 3 dX2_partOf_6 rfl rfl ?_
    refine go_aload_n (pc := 7) 0 dX2_partOf_7 rfl rfl ?_
    refine go_getfield (pc := 8) (v := vI (cK p0.1)) (pN p0.1) 2 0 dX2_partOf_8 flX2_9 (wC_net p0) rfl ?_
    refine go_icmp_ge (pc := 11) 28 dX2_partOf_11 (by decide) (fun h1 => ?_) (fun h1 => ?_)
    · have hs := it_t h1 hs
      obtain rfl := Option.some.inj hs
      refine go_sub (lv' := [none, none, some (vI x0_), none]) ⟨rfl, trivial⟩ ?_
      exact hE x0_ rfl
    · have hs := it_f h1 hs
      refine go_iload_n (pc := 14) 2 dX2_partOf_14 rfl rfl ?_
      refine go_aload_n (pc := 15) 0 dX2_partOf_15 rfl rfl ?_
      refine go_iload_n (pc := 16) 2 dX2_partOf_16 rfl rfl ?_
      obtain ⟨x2, hc3, hs⟩ := bnd hs
      refine go_callV (bc := 0) (bs := 0) (mc := 0) (ms := 0) (d := d + 0) (pc := 17) (a := (pN p0.1)) (ci := 2) [vI x0_] [vI x0_] dX2_partOf_17 kX2_besideSet mlX2_66 ivX2_besideSet rfl rfl (wC_net p0) rfl (Nat.le_of_ble_eq_true rfl) rfl (c_X2_besideSet (d := d + 0) (res0 := x2) hc3) (fun r w' hq => ?_)
      obtain ⟨rfl, rfl⟩ := hq
      show Go mX2_partOf (d + 1) false 0 0 20 [some (vR (pN p0.1)), none, some (vI x0_), some (vI x1_)] [vI x2, vI x0_] (wC cK cF ga gi gs oK cT ra rb cR cP cM ea eb cW aO aC aQ) Q
      refine go_ior (pc := 20) dX2_partOf_20 ?_
      refine go_istore_n (pc := 21) 2 [some (vR (pN p0.1)), none, some (vI (x0_ ||| x2)), some (vI x1_)] dX2_partOf_21 rfl (by decide) rfl ?_
      refine go_iinc (pc := 22) (x1_ + (1 : Int32)) [some (vR (pN p0.1)), none, some (vI (x0_ ||| x2)), some (vI (x1_ + (1 : Int32)))] dX2_partOf_22 rfl (iinc_1 _) (by decide) rfl ?_
      refine go_goto (pc := 25) 6 dX2_partOf_25 (by decide) ?_
      obtain rfl := Option.some.inj hs
      exact hI (x0_ ||| x2, x1_ + (1 : Int32)) rfl (x0_ ||| x2) (x1_ + (1 : Int32)) rfl
set_option maxRecDepth 20000 in
theorem c_X2_partOf {d : Nat}  {p0 : (Fin 5)} {a1 : Int32} {res0 : Int32} (hs : s_X2_partOf cK cF p0 a1 = some res0) : Calls mX2_partOf (d + 1) false 0 0 [vR (pN p0.1), vI a1] (wC cK cF ga gi gs oK cT ra rb cR cP cM ea eb cW aO aC aQ) (fun r w' => r = some (vI res0) ∧ w' = (wC cK cF ga gi gs oK cT ra rb cR cP cM ea eb cW aO aC aQ)) := by
  unfold s_X2_partOf at hs
  refine Calls.of kX2_partOf 2 [some (vR (pN p0.1)), some (vI a1), none, none] rfl (Nat.le_of_ble_eq_true rfl) ?_
  refine go_iconst (pc := 0) (1 : Int32) dX2_partOf_0 (by decide) ?_
  refine go_iload_n (pc := 1) 1 dX2_partOf_1 rfl rfl ?_
  refine go_ishl (pc := 2) dX2_partOf_2 ?_
  refine go_istore_n (pc := 3) 2 [some (vR (pN p0.1)), some (vI a1), some (vI ((1 : Int32) <<< (a1 &&& 31))), none] dX2_partOf_3 rfl (by decide) rfl ?_
  refine go_iconst (pc := 4) (1 : Int32) dX2_partOf_4 (by decide) ?_
  refine go_istore_n (pc := 5) 3 [some (vR (pN p0.1)), some (vI a1), some (vI ((1 : Int32) <<< (a1 &&& 31))), some (vI (1 : Int32))] dX2_partOf_5 rfl (by decide) rfl ?_
  refine go_sub (lv' := [some (vR (pN p0.1)), none, some (vI ((1 : Int32) <<< (a1 &&& 31))), some (vI (1 : Int32))]) ⟨rfl, ⟨rfl, ⟨rfl, trivial⟩⟩⟩ ?_
  obtain ⟨e4, hl5, hs⟩ := bnd hs
  refine g_X2_partOf_6 (d := d) ((1 : Int32) <<< (a1 &&& 31)) (1 : Int32) e4 hl5 ?_
  refine go_iload_n (pc := 28) 2 dX2_partOf_28 rfl rfl ?_
  cases hs
  exact go_ireturn (st := []) (pc := 29) dX2_partOf_29 rfl (vp_nar_int _) (fun h => by cases h) ⟨rfl, rfl⟩
noncomputable def b_X2_partCount_6 (cK : (Nat → Int32)) (cF : (Nat → Nat → Int32)) (p0 : (Fin 5)) (x : Int32 × Int32 × Int32) : Option ((Int32 × Int32 × Int32) ⊕ (Int32)) := if (cK p0.1) ≤ x.2.2 then (some (Sum.inr x.1)) else (if ((x.2.1 >>> (x.2.2 &&& 31)) &&& (1 : Int32)) = 0 then ((s_X2_partOf cK cF p0 x.2.2).bind (fun x3 => some (Sum.inl (x.1 + (1 : Int32), x.2.1 ||| x3, x.2.2 + (1 : Int32))))) else (some (Sum.inl (x.1, x.2.1, x.2.2 + (1 : Int32)))))
noncomputable def s_X2_partCount (cK : (Nat → Int32)) (cF : (Nat → Nat → Int32)) (p0 : (Fin 5)) : Option (Int32) := (loop (b_X2_partCount_6 cK cF p0) ((0 : Int32), (0 : Int32), (0 : Int32))).bind (fun e5 => some e5)
set_option maxRecDepth 20000 in
theorem g_X2_partCount_6 {d : Nat} {p0 : (Fin 5)} {Q : Option AV → List AC → Prop}   (x0_ : Int32) (x1_ : Int32) (x2_ : Int32) (r : Int32) (hl : loop (b_X2_partCount_6 cK cF p0) (x0_, x1_, x2_) = some r) (hk : Go mX2_partCount (d + 2) false 0 0 39 [none, some (vI r), none, none] [] (wC cK cF ga gi gs oK cT ra rb cR cP cM ea eb cW aO aC aQ) Q) : Go mX2_partCount (d + 2) false 0 0 6 [some (vR (pN p0.1)), some (vI x0_), some (vI x1_), some (vI x2_)] [] (wC cK cF ga gi gs oK cT ra rb cR cP cM ea eb cW aO aC aQ) Q := by
  refine loop_go (P := fun x : Int32 × Int32 × Int32 => ∀ (x0_ : Int32) (x1_ : Int32) (x2_ : Int32), x = (x0_, x1_, x2_) → Go mX2_partCount (d + 2) false 0 0 6 [some (vR (pN p0.1)), some (vI x0_), some (vI x1_), some (vI x2_)] [] (wC cK cF ga gi gs oK cT ra rb cR cP cM ea eb cW aO aC aQ) Q) (K := fun r : Int32 => Go mX2_partCount (d + 2) false 0 0 39 [none, some (vI r), none, none] [] (wC cK cF ga gi gs oK cT ra rb cR cP cM ea eb cW aO aC aQ) Q) ?_ (x0_, x1_, x2_) r hl hk x0_ x1_ x2_ rfl
  · intro x y hs hI hE x0_ x1_ x2_ hx
    subst hx
    unfold b_X2_partCount_6 at hs
    try dsimp only at hs
    refine go_iload_n (pc := 6) 3 dX2_partCount_6 rfl rfl ?_
    refine go_aload_n (pc := 7) 0 dX2_partCount_7 rfl rfl ?_
    refine go_getfield (pc := 8) (v := vI (cK p0.1)) (pN p0.1) 2 0 dX2_partCount_8 flX2_9 (wC_net p0) rfl ?_
    refine go_icmp_ge (pc := 11) 39 dX2_partCount_11 (by decide) (fun h1 => ?_) (fun h1 => ?_)
    · have hs := it_t h1 hs
      obtain rfl := Option.some.inj hs
      refine go_sub (lv' := [none, some (vI x0_), none, none]) ⟨rfl, trivial⟩ ?_
      exact hE x0_ rfl
    · have hs := it_f h1 hs
      refine go_iload_n (pc := 14) 2 dX2_partCount_14 rfl rfl ?_
      refine go_iload_n (pc := 15) 3 dX2_partCount_15 rfl rfl ?_
      refine go_ishr (pc := 16) dX2_partCount_16 ?_
      refine go_iconst (pc := 17) (1 : Int32) dX2_partCount_17 (by decide) ?_
      refine go_iand (pc := 18) dX2_partCount_18 ?_
      refine go_if_ne (pc := 19) 33 dX2_partCount_19 (by decide) (fun h2 => ?_) (fun h2 => ?_)
      · have hs := it_f h2 hs
        refine go_iinc (pc := 33) (x2_ + (1 : Int32)) [some (vR (pN p0.1)), some (vI x0_), some (vI x1_), some (vI (x2_ + (1 : Int32)))] dX2_partCount_33 rfl (iinc_1 _) (by decide) rfl ?_
        refine go_goto (pc := 36) 6 dX2_partCount_36 (by decide) ?_
        obtain rfl := Option.some.inj hs
        exact hI (x0_, x1_, x2_ + (1 : Int32)) rfl x0_ x1_ (x2_ + (1 : Int32)) rfl
      · have hs := it_t h2 hs
        refine go_iinc (pc := 22) (x0_ + (1 : Int32)) [some (vR (pN p0.1)), some (vI (x0_ + (1 : Int32))), some (vI x1_), some (vI x2_)] dX2_partCount_22 rfl (iinc_1 _) (by decide) rfl ?_
        refine go_iload_n (pc := 25) 2 dX2_partCount_25 rfl rfl ?_
        refine go_aload_n (pc := 26) 0 dX2_partCount_26 rfl rfl ?_
        refine go_iload_n (pc := 27) 3 dX2_partCount_27 rfl rfl ?_
        obtain ⟨x3, hc4, hs⟩ := bnd hs
        refine go_callV (bc := 0) (bs := 0) (mc := 0) (ms := 0) (d := d + 1) (pc := 28) (a := (pN p0.1)) (ci := 2) [vI x2_] [vI x1_] dX2_partCount_28 kX2_partOf mlX2_63 ivX2_partOf rfl rfl (wC_net p0) rfl (Nat.le_of_ble_eq_true rfl) rfl (c_X2_partOf (d := d + 0) (res0 := x3) hc4) (fun r w' hq => ?_)
        obtain ⟨rfl, rfl⟩ := hq
        show Go mX2_partCount (d + 2) false 0 0 31 [some (vR (pN p0.1)), some (vI (x0_ + (1 : Int32))), some (vI x1_), some (vI x2_)] [vI x3, vI x1_] (wC cK cF ga gi gs oK cT ra rb cR cP cM ea eb cW aO aC aQ) Q
        refine go_ior (pc := 31) dX2_partCount_31 ?_
        refine go_istore_n (pc := 32) 2 [some (vR (pN p0.1)), some (vI (x0_ + (1 : Int32))), some (vI (x1_ ||| x3)), some (vI x2_)] dX2_partCount_32 rfl (by decide) rfl ?_
        refine go_iinc (pc := 33) (x2_ + (1 : Int32)) [some (vR (pN p0.1)), some (vI (x0_ + (1 : Int32))), some (vI (x1_ ||| x3)), some (vI (x2_ + (1 : Int32)))] dX2_partCount_33 rfl (iinc_1 _) (by decide) rfl ?_
        refine go_goto (pc := 36) 6 dX2_partCount_36 (by decide) ?_
        obtain rfl := Option.some.inj hs
        exact hI (x0_ + (1 : Int32), x1_ ||| x3, x2_ + (1 : Int32)) rfl (x0_ + (1 : Int32)) (x1_ ||| x3) (x2_ + (1 : Int32)) rfl
set_option maxRecDepth 20000 in
theorem c_X2_partCount {d : Nat}  {p0 : (Fin 5)} {res0 : Int32} (hs : s_X2_partCount cK cF p0 = some res0) : Calls mX2_partCount (d + 2) false 0 0 [vR (pN p0.1)] (wC cK cF ga gi gs oK cT ra rb cR cP cM ea eb cW aO aC aQ) (fun r w' => r = some (vI res0) ∧ w' = (wC cK cF ga gi gs oK cT ra rb cR cP cM ea eb cW aO aC aQ)) := by
  unfold s_X2_partCount at hs
  refine Calls.of kX2_partCount 3 [some (vR (pN p0.1)), none, none, none] rfl (Nat.le_of_ble_eq_true rfl) ?_
  refine go_iconst (pc := 0) (0 : Int32) dX2_partCount_0 (by decide) ?_
  refine go_istore_n (pc := 1) 1 [some (vR (pN p0.1)), some (vI (0 : Int32)), none, none] dX2_partCount_1 rfl (by decide) rfl ?_
  refine go_iconst (pc := 2) (0 : Int32) dX2_partCount_2 (by decide) ?_
  refine go_istore_n (pc := 3) 2 [some (vR (pN p0.1)), some (vI (0 : Int32)), some (vI (0 : Int32)), none] dX2_partCount_3 rfl (by decide) rfl ?_
  refine go_iconst (pc := 4) (0 : Int32) dX2_partCount_4 (by decide) ?_
  refine go_istore_n (pc := 5) 3 [some (vR (pN p0.1)), some (vI (0 : Int32)), some (vI (0 : Int32)), some (vI (0 : Int32))] dX2_partCount_5 rfl (by decide) rfl ?_
  obtain ⟨e5, hl6, hs⟩ := bnd hs
  refine g_X2_partCount_6 (d := d) (0 : Int32) (0 : Int32) (0 : Int32) e5 hl6 ?_
  refine go_iload_n (pc := 39) 1 dX2_partCount_39 rfl rfl ?_
  cases hs
  exact go_ireturn (st := []) (pc := 40) dX2_partCount_40 rfl (vp_nar_int _) (fun h => by cases h) ⟨rfl, rfl⟩
noncomputable def b_X2_lineNumber_5 (cF : (Nat → Nat → Int32)) (p0 : (Fin 5)) (y1 : Int32) (x : Int32 × Int32) : Option ((Int32 × Int32) ⊕ (Int32)) := if y1 ≤ x.2 then (some (Sum.inr x.1)) else (chk x.2 10 ((s_J6_bitCount_0f7a4 ((cF p0.1 x.2.toNatClampNeg) >>> (x.2 &&& 31))).bind (fun x3 => some (Sum.inl (x.1 + x3, x.2 + (1 : Int32))))))
noncomputable def s_X2_lineNumber (cF : (Nat → Nat → Int32)) (p0 : (Fin 5)) (a1 : Int32) (a2 : Int32) : Option (Int32) := (loop (b_X2_lineNumber_5 cF p0 a1) ((0 : Int32), (0 : Int32))).bind (fun e5 => chk a1 10 (lt' ((cF p0.1 a1.toNatClampNeg) &&& (((1 : Int32) <<< (a2 &&& 31)) - (1 : Int32))) (fun z9 => (s_J6_bitCount_0f7a4 (z9 >>> (a1 &&& 31))).bind (fun x10 => some (e5 + x10)))))
set_option maxRecDepth 20000 in
theorem g_X2_lineNumber_5 {d : Nat} {p0 : (Fin 5)} {Q : Option AV → List AC → Prop} {y1 : Int32} {y2 : Int32}  (x0_ : Int32) (x1_ : Int32) (r : Int32) (hl : loop (b_X2_lineNumber_5 cF p0 y1) (x0_, x1_) = some r) (hk : Go mX2_lineNumber (d + 1) false 0 0 33 [some (vR (pN p0.1)), some (vI y1), some (vI y2), some (vI r), none] [] (wC cK cF ga gi gs oK cT ra rb cR cP cM ea eb cW aO aC aQ) Q) : Go mX2_lineNumber (d + 1) false 0 0 5 [some (vR (pN p0.1)), some (vI y1), some (vI y2), some (vI x0_), some (vI x1_)] [] (wC cK cF ga gi gs oK cT ra rb cR cP cM ea eb cW aO aC aQ) Q := by
  refine loop_go (P := fun x : Int32 × Int32 => ∀ (x0_ : Int32) (x1_ : Int32), x = (x0_, x1_) → Go mX2_lineNumber (d + 1) false 0 0 5 [some (vR (pN p0.1)), some (vI y1), some (vI y2), some (vI x0_), some (vI x1_)] [] (wC cK cF ga gi gs oK cT ra rb cR cP cM ea eb cW aO aC aQ) Q) (K := fun r : Int32 => Go mX2_lineNumber (d + 1) false 0 0 33 [some (vR (pN p0.1)), some (vI y1), some (vI y2), some (vI r), none] [] (wC cK cF ga gi gs oK cT ra rb cR cP cM ea eb cW aO aC aQ) Q) ?_ (x0_, x1_) r hl hk x0_ x1_ rfl
  · intro x y hs hI hE x0_ x1_ hx
    subst hx
    unfold b_X2_lineNumber_5 at hs
    try dsimp only at hs
    refine go_iload (pc := 5) dX2_lineNumber_5 rfl ?_
    refine go_iload_n (pc := 7) 1 dX2_lineNumber_7 rfl rfl ?_
    refine go_icmp_ge (pc := 8) 33 dX2_lineNumber_8 (by decide) (fun h1 => ?_) (fun h1 => ?_)
    · have hs := it_t h1 hs
      obtain rfl := Option.some.inj hs
      refine go_sub (lv' := [some (vR (pN p0.1)), some (vI y1), some (vI y2), some (vI x0_), none]) ⟨rfl, ⟨rfl, ⟨rfl, ⟨rfl, trivial⟩⟩⟩⟩ ?_
      exact hE x0_ rfl
    · have hs := it_f h1 hs
      refine go_iload_n (pc := 11) 3 dX2_lineNumber_11 rfl rfl ?_
      refine go_aload_n (pc := 12) 0 dX2_lineNumber_12 rfl rfl ?_
      refine go_getfield (pc := 13) (v := vR (pN p0.1 + 1)) (pN p0.1) 2 1 dX2_lineNumber_13 flX2_15 (wC_net p0) rfl ?_
      refine go_iload (pc := 16) dX2_lineNumber_16 rfl ?_
      obtain ⟨hi2, hs⟩ := chk_t hs
      refine go_iaload (pc := 18) (pN p0.1 + 1) dX2_lineNumber_18 (wC_bes p0) hi2 ?_
      refine go_iload (pc := 19) dX2_lineNumber_19 rfl ?_
      refine go_ishr (pc := 21) dX2_lineNumber_21 ?_
      obtain ⟨x3, hc4, hs⟩ := bnd hs
      refine go_callS (bc := 0) (bs := 0) (mc := 0) (ms := 0) (d := d + 0) (pc := 22) [vI ((cF p0.1 x1_.toNatClampNeg) >>> (x1_ &&& 31))] [vI x0_] dX2_lineNumber_22 kJ6_bitCount_0f7a4 mlX2_54 isJ6_bitCount_0f7a4 rfl (Nat.le_of_ble_eq_true rfl) rfl (c_J6_bitCount_0f7a4 (d := d + 0) (res0 := x3) hc4) (fun r w' hq => ?_)
      obtain ⟨rfl, rfl⟩ := hq
      show Go mX2_lineNumber (d + 1) false 0 0 25 [some (vR (pN p0.1)), some (vI y1), some (vI y2), some (vI x0_), some (vI x1_)] [vI x3, vI x0_] (wC cK cF ga gi gs oK cT ra rb cR cP cM ea eb cW aO aC aQ) Q
      refine go_iadd (pc := 25) dX2_lineNumber_25 ?_
      refine go_istore_n (pc := 26) 3 [some (vR (pN p0.1)), some (vI y1), some (vI y2), some (vI (x0_ + x3)), some (vI x1_)] dX2_lineNumber_26 rfl (by decide) rfl ?_
      refine go_iinc (pc := 27) (x1_ + (1 : Int32)) [some (vR (pN p0.1)), some (vI y1), some (vI y2), some (vI (x0_ + x3)), some (vI (x1_ + (1 : Int32)))] dX2_lineNumber_27 rfl (iinc_1 _) (by decide) rfl ?_
      refine go_goto (pc := 30) 5 dX2_lineNumber_30 (by decide) ?_
      obtain rfl := Option.some.inj hs
      exact hI (x0_ + x3, x1_ + (1 : Int32)) rfl (x0_ + x3) (x1_ + (1 : Int32)) rfl
set_option maxRecDepth 20000 in
theorem c_X2_lineNumber {d : Nat}  {p0 : (Fin 5)} {a1 : Int32} {a2 : Int32} {res0 : Int32} (hs : s_X2_lineNumber cF p0 a1 a2 = some res0) : Calls mX2_lineNumber (d + 1) false 0 0 [vR (pN p0.1), vI a1, vI a2] (wC cK cF ga gi gs oK cT ra rb cR cP cM ea eb cW aO aC aQ) (fun r w' => r = some (vI res0) ∧ w' = (wC cK cF ga gi gs oK cT ra rb cR cP cM ea eb cW aO aC aQ)) := by
  unfold s_X2_lineNumber at hs
  refine Calls.of kX2_lineNumber 2 [some (vR (pN p0.1)), some (vI a1), some (vI a2), none, none] rfl (Nat.le_of_ble_eq_true rfl) ?_
  refine go_iconst (pc := 0) (0 : Int32) dX2_lineNumber_0 (by decide) ?_
  refine go_istore_n (pc := 1) 3 [some (vR (pN p0.1)), some (vI a1), some (vI a2), some (vI (0 : Int32)), none] dX2_lineNumber_1 rfl (by decide) rfl ?_
  refine go_iconst (pc := 2) (0 : Int32) dX2_lineNumber_2 (by decide) ?_
  refine go_istore (pc := 3) [some (vR (pN p0.1)), some (vI a1), some (vI a2), some (vI (0 : Int32)), some (vI (0 : Int32))] dX2_lineNumber_3 (by decide) rfl ?_
  obtain ⟨e5, hl6, hs⟩ := bnd hs
  refine g_X2_lineNumber_5 (d := d) (0 : Int32) (0 : Int32) e5 hl6 ?_
  refine go_aload_n (pc := 33) 0 dX2_lineNumber_33 rfl rfl ?_
  refine go_getfield (pc := 34) (v := vR (pN p0.1 + 1)) (pN p0.1) 2 1 dX2_lineNumber_34 flX2_15 (wC_net p0) rfl ?_
  refine go_iload_n (pc := 37) 1 dX2_lineNumber_37 rfl rfl ?_
  obtain ⟨hi8, hs⟩ := chk_t hs
  refine go_iaload (pc := 38) (pN p0.1 + 1) dX2_lineNumber_38 (wC_bes p0) hi8 ?_
  refine go_iconst (pc := 39) (1 : Int32) dX2_lineNumber_39 (by decide) ?_
  refine go_iload_n (pc := 40) 2 dX2_lineNumber_40 rfl rfl ?_
  refine go_ishl (pc := 41) dX2_lineNumber_41 ?_
  refine go_iconst (pc := 42) (1 : Int32) dX2_lineNumber_42 (by decide) ?_
  refine go_isub (pc := 43) dX2_lineNumber_43 ?_
  refine go_iand (pc := 44) dX2_lineNumber_44 ?_
  refine go_topi (fun z9 ez9 => ?_)
  have hs := lt_t ez9 hs
  refine go_istore (pc := 45) [some (vR (pN p0.1)), some (vI a1), some (vI a2), some (vI e5), some (vI z9)] dX2_lineNumber_45 (by decide) rfl ?_
  refine go_iload_n (pc := 47) 3 dX2_lineNumber_47 rfl rfl ?_
  refine go_iload (pc := 48) dX2_lineNumber_48 rfl ?_
  refine go_iload_n (pc := 50) 1 dX2_lineNumber_50 rfl rfl ?_
  refine go_ishr (pc := 51) dX2_lineNumber_51 ?_
  obtain ⟨x10, hc11, hs⟩ := bnd hs
  refine go_callS (bc := 0) (bs := 0) (mc := 0) (ms := 0) (d := d + 0) (pc := 52) [vI (z9 >>> (a1 &&& 31))] [vI e5] dX2_lineNumber_52 kJ6_bitCount_0f7a4 mlX2_54 isJ6_bitCount_0f7a4 rfl (Nat.le_of_ble_eq_true rfl) rfl (c_J6_bitCount_0f7a4 (d := d + 0) (res0 := x10) hc11) (fun r w' hq => ?_)
  obtain ⟨rfl, rfl⟩ := hq
  show Go mX2_lineNumber (d + 1) false 0 0 55 [some (vR (pN p0.1)), some (vI a1), some (vI a2), some (vI e5), some (vI z9)] [vI x10, vI e5] (wC cK cF ga gi gs oK cT ra rb cR cP cM ea eb cW aO aC aQ) _
  refine go_iadd (pc := 55) dX2_lineNumber_55 ?_
  cases hs
  exact go_ireturn (st := []) (pc := 56) dX2_lineNumber_56 rfl (vp_nar_int _) (fun h => by cases h) ⟨rfl, rfl⟩
noncomputable def b_X2_fewestLines_42 (cK : (Nat → Int32)) (cF : (Nat → Nat → Int32)) (p0 : (Fin 5)) (y2 : Int32) (x : Int32 × Int32 × Int32) : Option ((Int32 × Int32 × Int32) ⊕ ((Int32) ⊕ (Unit))) := if (cK p0.1) ≤ x.2.2 then (some (Sum.inr (Sum.inr ()))) else (if ((x.2.1 >>> (y2 &&& 31)) &&& (1 : Int32)) = (1 : Int32) then (some (Sum.inr (Sum.inl x.2.2))) else ((s_X2_besideSet cK cF p0 x.2.1).bind (fun x7 => some (Sum.inl (x.1 ||| x.2.1, x7 &&& ((x.1 ||| x.2.1) ^^^ (-1 : Int32)), x.2.2 + (1 : Int32))))))
noncomputable def s_X2_fewestLines (cK : (Nat → Int32)) (cF : (Nat → Nat → Int32)) (p0 : (Fin 5)) (a1 : Int32) (a2 : Int32) (a3 : Int32) : Option (Int32) := if a1 = a2 then (some (0 : Int32)) else (if a3 = 0 then (chk a1 10 (lt' ((cF p0.1 a1.toNatClampNeg) &&& (((1 : Int32) <<< (a2 &&& 31)) ^^^ (-1 : Int32))) (fun z4 => (loop (b_X2_fewestLines_42 cK cF p0 a2) ((1 : Int32) <<< (a1 &&& 31), z4, (1 : Int32))).bind (fun e9 => Sum.elim (fun v12 => some v12) (fun e13 => some (-1 : Int32)) e9)))) else (chk a1 10 ((loop (b_X2_fewestLines_42 cK cF p0 a2) ((1 : Int32) <<< (a1 &&& 31), cF p0.1 a1.toNatClampNeg, (1 : Int32))).bind (fun e17 => Sum.elim (fun v20 => some v20) (fun e21 => some (-1 : Int32)) e17))))
set_option maxRecDepth 20000 in
theorem g_X2_fewestLines_42 {d : Nat} {p0 : (Fin 5)} {Q : Option AV → List AC → Prop} {y2 : Int32}  (x0_ : Int32) (x1_ : Int32) (x2_ : Int32) (r : (Int32) ⊕ (Unit)) (hl : loop (b_X2_fewestLines_42 cK cF p0 y2) (x0_, x1_, x2_) = some r) (hk : (∀ (r0_ : Int32), r = Sum.inl r0_ → Go mX2_fewestLines (d + 1) false 0 0 61 [none, none, none, none, none, none, some (vI r0_)] [] (wC cK cF ga gi gs oK cT ra rb cR cP cM ea eb cW aO aC aQ) Q) ∧ (r = Sum.inr () → Go mX2_fewestLines (d + 1) false 0 0 90 [none, none, none, none, none, none, none] [] (wC cK cF ga gi gs oK cT ra rb cR cP cM ea eb cW aO aC aQ) Q)) : Go mX2_fewestLines (d + 1) false 0 0 42 [some (vR (pN p0.1)), none, some (vI y2), none, some (vI x0_), some (vI x1_), some (vI x2_)] [] (wC cK cF ga gi gs oK cT ra rb cR cP cM ea eb cW aO aC aQ) Q := by
  refine loop_go (P := fun x : Int32 × Int32 × Int32 => ∀ (x0_ : Int32) (x1_ : Int32) (x2_ : Int32), x = (x0_, x1_, x2_) → Go mX2_fewestLines (d + 1) false 0 0 42 [some (vR (pN p0.1)), none, some (vI y2), none, some (vI x0_), some (vI x1_), some (vI x2_)] [] (wC cK cF ga gi gs oK cT ra rb cR cP cM ea eb cW aO aC aQ) Q) (K := fun r : (Int32) ⊕ (Unit) => (∀ (r0_ : Int32), r = Sum.inl r0_ → Go mX2_fewestLines (d + 1) false 0 0 61 [none, none, none, none, none, none, some (vI r0_)] [] (wC cK cF ga gi gs oK cT ra rb cR cP cM ea eb cW aO aC aQ) Q) ∧ (r = Sum.inr () → Go mX2_fewestLines (d + 1) false 0 0 90 [none, none, none, none, none, none, none] [] (wC cK cF ga gi gs oK cT ra rb cR cP cM ea eb cW aO aC aQ) Q)) ?_ (x0_, x1_, x2_) r hl hk x0_ x1_ x2_ rfl
  · intro x y hs hI hE x0_ x1_ x2_ hx
    subst hx
    unfold b_X2_fewestLines_42 at hs
    try dsimp only at hs
    refine go_iload (pc := 42) dX2_fewestLines_42 rfl ?_
    refine go_aload_n (pc := 44) 0 dX2_fewestLines_44 rfl rfl ?_
    refine go_getfield (pc := 45) (v := vI (cK p0.1)) (pN p0.1) 2 0 dX2_fewestLines_45 flX2_9 (wC_net p0) rfl ?_
    refine go_icmp_ge (pc := 48) 90 dX2_fewestLines_48 (by decide) (fun h5 => ?_) (fun h5 => ?_)
    · have hs := it_t h5 hs
      obtain rfl := Option.some.inj hs
      refine go_sub (lv' := [none, none, none, none, none, none, none]) trivial ?_
      exact (hE (Sum.inr ()) rfl).2  rfl
    · have hs := it_f h5 hs
      refine go_iload (pc := 51) dX2_fewestLines_51 rfl ?_
      refine go_iload_n (pc := 53) 2 dX2_fewestLines_53 rfl rfl ?_
      refine go_ishr (pc := 54) dX2_fewestLines_54 ?_
      refine go_iconst (pc := 55) (1 : Int32) dX2_fewestLines_55 (by decide) ?_
      refine go_iand (pc := 56) dX2_fewestLines_56 ?_
      refine go_iconst (pc := 57) (1 : Int32) dX2_fewestLines_57 (by decide) ?_
      refine go_icmp_ne (pc := 58) 64 dX2_fewestLines_58 (by decide) (fun h6 => ?_) (fun h6 => ?_)
      · have hs := it_f h6 hs
        refine go_iload (pc := 64) dX2_fewestLines_64 rfl ?_
        refine go_iload (pc := 66) dX2_fewestLines_66 rfl ?_
        refine go_ior (pc := 68) dX2_fewestLines_68 ?_
        refine go_istore (pc := 69) [some (vR (pN p0.1)), none, some (vI y2), none, some (vI (x0_ ||| x1_)), some (vI x1_), some (vI x2_)] dX2_fewestLines_69 (by decide) rfl ?_
        refine go_aload_n (pc := 71) 0 dX2_fewestLines_71 rfl rfl ?_
        refine go_iload (pc := 72) dX2_fewestLines_72 rfl ?_
        obtain ⟨x7, hc8, hs⟩ := bnd hs
        refine go_callV (bc := 0) (bs := 0) (mc := 0) (ms := 0) (d := d + 0) (pc := 74) (a := (pN p0.1)) (ci := 2) [vI x1_] [] dX2_fewestLines_74 kX2_besideSet mlX2_66 ivX2_besideSet rfl rfl (wC_net p0) rfl (Nat.le_of_ble_eq_true rfl) rfl (c_X2_besideSet (d := d + 0) (res0 := x7) hc8) (fun r w' hq => ?_)
        obtain ⟨rfl, rfl⟩ := hq
        show Go mX2_fewestLines (d + 1) false 0 0 77 [some (vR (pN p0.1)), none, some (vI y2), none, some (vI (x0_ ||| x1_)), some (vI x1_), some (vI x2_)] [vI x7] (wC cK cF ga gi gs oK cT ra rb cR cP cM ea eb cW aO aC aQ) Q
        refine go_iload (pc := 77) dX2_fewestLines_77 rfl ?_
        refine go_iconst (pc := 79) (-1 : Int32) dX2_fewestLines_79 (by decide) ?_
        refine go_ixor (pc := 80) dX2_fewestLines_80 ?_
        refine go_iand (pc := 81) dX2_fewestLines_81 ?_
        refine go_istore (pc := 82) [some (vR (pN p0.1)), none, some (vI y2), none, some (vI (x0_ ||| x1_)), some (vI (x7 &&& ((x0_ ||| x1_) ^^^ (-1 : Int32)))), some (vI x2_)] dX2_fewestLines_82 (by decide) rfl ?_
        refine go_iinc (pc := 84) (x2_ + (1 : Int32)) [some (vR (pN p0.1)), none, some (vI y2), none, some (vI (x0_ ||| x1_)), some (vI (x7 &&& ((x0_ ||| x1_) ^^^ (-1 : Int32)))), some (vI (x2_ + (1 : Int32)))] dX2_fewestLines_84 rfl (iinc_1 _) (by decide) rfl ?_
        refine go_goto (pc := 87) 42 dX2_fewestLines_87 (by decide) ?_
        obtain rfl := Option.some.inj hs
        exact hI (x0_ ||| x1_, x7 &&& ((x0_ ||| x1_) ^^^ (-1 : Int32)), x2_ + (1 : Int32)) rfl (x0_ ||| x1_) (x7 &&& ((x0_ ||| x1_) ^^^ (-1 : Int32))) (x2_ + (1 : Int32)) rfl
      · have hs := it_t h6 hs
        obtain rfl := Option.some.inj hs
        refine go_sub (lv' := [none, none, none, none, none, none, some (vI x2_)]) ⟨rfl, trivial⟩ ?_
        exact (hE (Sum.inl x2_) rfl).1 x2_ rfl
set_option maxRecDepth 20000 in
theorem c_X2_fewestLines {d : Nat}  {p0 : (Fin 5)} {a1 : Int32} {a2 : Int32} {a3 : Int32} {res0 : Int32} (hs : s_X2_fewestLines cK cF p0 a1 a2 a3 = some res0) : Calls mX2_fewestLines (d + 1) false 0 0 [vR (pN p0.1), vI a1, vI a2, vI a3] (wC cK cF ga gi gs oK cT ra rb cR cP cM ea eb cW aO aC aQ) (fun r w' => r = some (vI res0) ∧ w' = (wC cK cF ga gi gs oK cT ra rb cR cP cM ea eb cW aO aC aQ)) := by
  unfold s_X2_fewestLines at hs
  refine Calls.of kX2_fewestLines 3 [some (vR (pN p0.1)), some (vI a1), some (vI a2), some (vI a3), none, none, none] rfl (Nat.le_of_ble_eq_true rfl) ?_
  refine go_iload_n (pc := 0) 1 dX2_fewestLines_0 rfl rfl ?_
  refine go_iload_n (pc := 1) 2 dX2_fewestLines_1 rfl rfl ?_
  refine go_icmp_ne (pc := 2) 7 dX2_fewestLines_2 (by decide) (fun h1 => ?_) (fun h1 => ?_)
  · have hs := it_f h1 hs
    refine go_iconst (pc := 7) (1 : Int32) dX2_fewestLines_7 (by decide) ?_
    refine go_iload_n (pc := 8) 1 dX2_fewestLines_8 rfl rfl ?_
    refine go_ishl (pc := 9) dX2_fewestLines_9 ?_
    refine go_istore (pc := 10) [some (vR (pN p0.1)), some (vI a1), some (vI a2), some (vI a3), some (vI ((1 : Int32) <<< (a1 &&& 31))), none, none] dX2_fewestLines_10 (by decide) rfl ?_
    refine go_iload_n (pc := 12) 3 dX2_fewestLines_12 rfl rfl ?_
    refine go_if_eq (pc := 13) 25 dX2_fewestLines_13 (by decide) (fun h2 => ?_) (fun h2 => ?_)
    · have hs := it_t h2 hs
      refine go_aload_n (pc := 25) 0 dX2_fewestLines_25 rfl rfl ?_
      refine go_getfield (pc := 26) (v := vR (pN p0.1 + 1)) (pN p0.1) 2 1 dX2_fewestLines_26 flX2_15 (wC_net p0) rfl ?_
      refine go_iload_n (pc := 29) 1 dX2_fewestLines_29 rfl rfl ?_
      obtain ⟨hi3, hs⟩ := chk_t hs
      refine go_iaload (pc := 30) (pN p0.1 + 1) dX2_fewestLines_30 (wC_bes p0) hi3 ?_
      refine go_iconst (pc := 31) (1 : Int32) dX2_fewestLines_31 (by decide) ?_
      refine go_iload_n (pc := 32) 2 dX2_fewestLines_32 rfl rfl ?_
      refine go_ishl (pc := 33) dX2_fewestLines_33 ?_
      refine go_iconst (pc := 34) (-1 : Int32) dX2_fewestLines_34 (by decide) ?_
      refine go_ixor (pc := 35) dX2_fewestLines_35 ?_
      refine go_iand (pc := 36) dX2_fewestLines_36 ?_
      refine go_topi (fun z4 ez4 => ?_)
      have hs := lt_t ez4 hs
      refine go_istore (pc := 37) [some (vR (pN p0.1)), some (vI a1), some (vI a2), some (vI a3), some (vI ((1 : Int32) <<< (a1 &&& 31))), some (vI z4), none] dX2_fewestLines_37 (by decide) rfl ?_
      refine go_iconst (pc := 39) (1 : Int32) dX2_fewestLines_39 (by decide) ?_
      refine go_istore (pc := 40) [some (vR (pN p0.1)), some (vI a1), some (vI a2), some (vI a3), some (vI ((1 : Int32) <<< (a1 &&& 31))), some (vI z4), some (vI (1 : Int32))] dX2_fewestLines_40 (by decide) rfl ?_
      refine go_sub (lv' := [some (vR (pN p0.1)), none, some (vI a2), none, some (vI ((1 : Int32) <<< (a1 &&& 31))), some (vI z4), some (vI (1 : Int32))]) ⟨rfl, ⟨rfl, ⟨rfl, ⟨rfl, ⟨rfl, trivial⟩⟩⟩⟩⟩ ?_
      obtain ⟨e9, hl10, hs⟩ := bnd hs
      refine g_X2_fewestLines_42 (d := d) ((1 : Int32) <<< (a1 &&& 31)) z4 (1 : Int32) e9 hl10 ?_
      constructor
      · intro v12 hv14
        subst hv14
        simp only [Sum.elim_inl] at hs
        refine go_iload (pc := 61) dX2_fewestLines_61 rfl ?_
        cases hs
        exact go_ireturn (st := []) (pc := 63) dX2_fewestLines_63 rfl (vp_nar_int _) (fun h => by cases h) ⟨rfl, rfl⟩
      · intro  hv15
        subst hv15
        simp only [Sum.elim_inr] at hs
        refine go_iconst (pc := 90) (-1 : Int32) dX2_fewestLines_90 (by decide) ?_
        cases hs
        exact go_ireturn (st := []) (pc := 91) dX2_fewestLines_91 rfl (vp_nar_int _) (fun h => by cases h) ⟨rfl, rfl⟩
    · have hs := it_f h2 hs
      refine go_aload_n (pc := 16) 0 dX2_fewestLines_16 rfl rfl ?_
      refine go_getfield (pc := 17) (v := vR (pN p0.1 + 1)) (pN p0.1) 2 1 dX2_fewestLines_17 flX2_15 (wC_net p0) rfl ?_
      refine go_iload_n (pc := 20) 1 dX2_fewestLines_20 rfl rfl ?_
      obtain ⟨hi16, hs⟩ := chk_t hs
      refine go_iaload (pc := 21) (pN p0.1 + 1) dX2_fewestLines_21 (wC_bes p0) hi16 ?_
      refine go_goto (pc := 22) 37 dX2_fewestLines_22 (by decide) ?_
      refine go_istore (pc := 37) [some (vR (pN p0.1)), some (vI a1), some (vI a2), some (vI a3), some (vI ((1 : Int32) <<< (a1 &&& 31))), some (vI (cF p0.1 a1.toNatClampNeg)), none] dX2_fewestLines_37 (by decide) rfl ?_
      refine go_iconst (pc := 39) (1 : Int32) dX2_fewestLines_39 (by decide) ?_
      refine go_istore (pc := 40) [some (vR (pN p0.1)), some (vI a1), some (vI a2), some (vI a3), some (vI ((1 : Int32) <<< (a1 &&& 31))), some (vI (cF p0.1 a1.toNatClampNeg)), some (vI (1 : Int32))] dX2_fewestLines_40 (by decide) rfl ?_
      refine go_sub (lv' := [some (vR (pN p0.1)), none, some (vI a2), none, some (vI ((1 : Int32) <<< (a1 &&& 31))), some (vI (cF p0.1 a1.toNatClampNeg)), some (vI (1 : Int32))]) ⟨rfl, ⟨rfl, ⟨rfl, ⟨rfl, ⟨rfl, trivial⟩⟩⟩⟩⟩ ?_
      obtain ⟨e17, hl18, hs⟩ := bnd hs
      refine g_X2_fewestLines_42 (d := d) ((1 : Int32) <<< (a1 &&& 31)) (cF p0.1 a1.toNatClampNeg) (1 : Int32) e17 hl18 ?_
      constructor
      · intro v20 hv22
        subst hv22
        simp only [Sum.elim_inl] at hs
        refine go_iload (pc := 61) dX2_fewestLines_61 rfl ?_
        cases hs
        exact go_ireturn (st := []) (pc := 63) dX2_fewestLines_63 rfl (vp_nar_int _) (fun h => by cases h) ⟨rfl, rfl⟩
      · intro  hv23
        subst hv23
        simp only [Sum.elim_inr] at hs
        refine go_iconst (pc := 90) (-1 : Int32) dX2_fewestLines_90 (by decide) ?_
        cases hs
        exact go_ireturn (st := []) (pc := 91) dX2_fewestLines_91 rfl (vp_nar_int _) (fun h => by cases h) ⟨rfl, rfl⟩
  · have hs := it_t h1 hs
    refine go_iconst (pc := 5) (0 : Int32) dX2_fewestLines_5 (by decide) ?_
    cases hs
    exact go_ireturn (st := []) (pc := 6) dX2_fewestLines_6 rfl (vp_nar_int _) (fun h => by cases h) ⟨rfl, rfl⟩
end
