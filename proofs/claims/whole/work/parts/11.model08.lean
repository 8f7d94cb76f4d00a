section
variable {kn : (Nat → Int32)} {ne : (Nat → Int32)} {fi : (Nat → Int32)} {se : (Nat → Int32)} {ma : Int32} {on : (Nat → Int32)} {ot : (Nat → Int32)} {ta : (Nat → Int64)} {po : (Nat → Int64)} {ti : (Nat → Int64)} {nu : (Nat → Int64)} {mo : (Nat → Int64)} {wa : (Nat → Int64)} {nx : (Nat → Int64)} {oT : (Nat → Int32)} {cF : (Nat → Int32)} {bg : Int32} {ed : Int32} {sF : (Nat → Int32)} {qu : (Nat → Int32)} {qd : Int32} {tr : (Nat → Int32)}
noncomputable def b_X6_justOf_8 (mo : (Nat → Int64)) (x : Int32) : Option ((Int32) ⊕ (Int32)) := chk x 11 (if (lg_cmp (mo x.toNatClampNeg) (0 : Int64)) = 0 then (some (Sum.inl (x + (1 : Int32)))) else (some (Sum.inr x)))
noncomputable def s_X6_justOf (nu : (Nat → Int64)) (mo : (Nat → Int64)) (a1 : Int32) (a2 : Int32) : Option (Int32 × (Nat → Int64)) := (s_X6_move nu mo a1 a2).bind (fun x1 => (loop (b_X6_justOf_8 x1) (0 : Int32)).bind (fun e5 => some (e5, x1)))
set_option maxRecDepth 20000 in
theorem g_X6_justOf_8 {d : Nat} {Q : Option AV → List AC → Prop}  (x0_ : Int32) (r : Int32) (hl : loop (b_X6_justOf_8 mo) x0_ = some r) (hk : Go mX6_justOf (d + 1) false 0 0 25 [none, none, none, some (vI r)] [] (wM kn ne fi se ma on ot ta po ti nu mo wa nx oT cF bg ed sF qu qd tr) Q) : Go mX6_justOf (d + 1) false 0 0 8 [some (vR 0), none, none, some (vI x0_)] [] (wM kn ne fi se ma on ot ta po ti nu mo wa nx oT cF bg ed sF qu qd tr) Q := by
  refine loop_go (P := fun x0_ : Int32 => Go mX6_justOf (d + 1) false 0 0 8 [some (vR 0), none, none, some (vI x0_)] [] (wM kn ne fi se ma on ot ta po ti nu mo wa nx oT cF bg ed sF qu qd tr) Q) (K := fun r : Int32 => Go mX6_justOf (d + 1) false 0 0 25 [none, none, none, some (vI r)] [] (wM kn ne fi se ma on ot ta po ti nu mo wa nx oT cF bg ed sF qu qd tr) Q) ?_ x0_ r hl hk 
  · intro x0_ y hs hI hE
    unfold b_X6_justOf_8 at hs
    refine go_aload_n (pc := 8) 0 dX6_justOf_8 rfl rfl ?_
    refine go_getfield (pc := 9) (v := vR 11) 0 6 11 dX6_justOf_9 flX6_41 rfl rfl ?_
    refine go_iload_n (pc := 12) 3 dX6_justOf_12 rfl rfl ?_
    obtain ⟨hi3, hs⟩ := chk_t hs
    refine go_laload (pc := 13) 11 dX6_justOf_13 rfl hi3 ?_
    refine go_lconst (pc := 14) (0 : Int64) dX6_justOf_14 (by decide) ?_
    refine go_lcmp (pc := 15) dX6_justOf_15 ?_
    refine go_if_ne (pc := 16) 25 dX6_justOf_16 (by decide) (fun h4 => ?_) (fun h4 => ?_)
    · have hs := it_f h4 hs
      obtain rfl := Option.some.inj hs
      refine go_sub (lv' := [none, none, none, some (vI x0_)]) ⟨rfl, trivial⟩ ?_
      exact hE x0_ rfl
    · have hs := it_t h4 hs
      refine go_iinc (pc := 19) (x0_ + (1 : Int32)) [some (vR 0), none, none, some (vI (x0_ + (1 : Int32)))] dX6_justOf_19 rfl (iinc_1 _) (by decide) rfl ?_
      refine go_goto (pc := 22) 8 dX6_justOf_22 (by decide) ?_
      obtain rfl := Option.some.inj hs
      exact hI (x0_ + (1 : Int32)) rfl
set_option maxRecDepth 20000 in
theorem c_X6_justOf {d : Nat}  {a1 : Int32} {a2 : Int32} {res0 : Int32} {res1 : (Nat → Int64)} (hs : s_X6_justOf nu mo a1 a2 = some (res0, res1)) : Calls mX6_justOf (d + 1) false 0 0 [vR 0, vI a1, vI a2] (wM kn ne fi se ma on ot ta po ti nu mo wa nx oT cF bg ed sF qu qd tr) (fun r w' => r = some (vI res0) ∧ w' = (wM kn ne fi se ma on ot ta po ti nu res1 wa nx oT cF bg ed sF qu qd tr)) := by
  unfold s_X6_justOf at hs
  refine Calls.of kX6_justOf 1 [some (vR 0), some (vI a1), some (vI a2), none] rfl (Nat.le_of_ble_eq_true rfl) ?_
  refine go_aload_n (pc := 0) 0 dX6_justOf_0 rfl rfl ?_
  refine go_iload_n (pc := 1) 1 dX6_justOf_1 rfl rfl ?_
  refine go_iload_n (pc := 2) 2 dX6_justOf_2 rfl rfl ?_
  obtain ⟨x1, hc2, hs⟩ := bnd hs
  refine go_callV (bc := 0) (bs := 0) (mc := 0) (ms := 0) (d := d + 0) (pc := 3) (a := 0) (ci := 6) [vI a1, vI a2] [] dX6_justOf_3 kX6_move mlX6_121 ivX6_move rfl rfl rfl rfl (Nat.le_of_ble_eq_true rfl) rfl (c_X6_move (d := d + 0) (res0 := x1) hc2) (fun r w' hq => ?_)
  obtain ⟨rfl, rfl⟩ := hq
  show Go mX6_justOf (d + 1) false 0 0 6 [some (vR 0), some (vI a1), some (vI a2), none] [] (wM kn ne fi se ma on ot ta po ti nu x1 wa nx oT cF bg ed sF qu qd tr) _
  refine go_iconst (pc := 6) (0 : Int32) dX6_justOf_6 (by decide) ?_
  refine go_istore_n (pc := 7) 3 [some (vR 0), some (vI a1), some (vI a2), some (vI (0 : Int32))] dX6_justOf_7 rfl (by decide) rfl ?_
  refine go_sub (lv' := [some (vR 0), none, none, some (vI (0 : Int32))]) ⟨rfl, ⟨rfl, trivial⟩⟩ ?_
  obtain ⟨e5, hl6, hs⟩ := bnd hs
  refine g_X6_justOf_8 (d := d) (0 : Int32) e5 hl6 ?_
  refine go_iload_n (pc := 25) 3 dX6_justOf_25 rfl rfl ?_
  cases hs
  exact go_ireturn (st := []) (pc := 26) dX6_justOf_26 rfl (vp_nar_int _) (fun h => by cases h) ⟨rfl, rfl⟩
noncomputable def s_X6_isAsked (a1 : Int32) (a2 : Int32) (a3 : Int32) : Option (Int32) := (s_X6_isNet a1).bind (fun x1 => if x1 = 0 then (some (0 : Int32)) else (if a2 < 0 then (some (0 : Int32)) else ((s_X6_in a3 (-40 : Int32) (40 : Int32)).bind (fun x5 => if x5 = 0 then (some (0 : Int32)) else (some (1 : Int32))))))
set_option maxRecDepth 20000 in
theorem c_X6_isAsked {d : Nat}  {a1 : Int32} {a2 : Int32} {a3 : Int32} {res0 : Int32} (hs : s_X6_isAsked a1 a2 a3 = some res0) : Calls mX6_isAsked (d + 2) false 0 0 [vR 0, vI a1, vI a2, vI a3] (wM kn ne fi se ma on ot ta po ti nu mo wa nx oT cF bg ed sF qu qd tr) (fun r w' => r = some (vI res0) ∧ w' = (wM kn ne fi se ma on ot ta po ti nu mo wa nx oT cF bg ed sF qu qd tr)) := by
  unfold s_X6_isAsked at hs
  refine Calls.of kX6_isAsked 0 [some (vR 0), some (vI a1), some (vI a2), some (vI a3)] rfl (Nat.le_of_ble_eq_true rfl) ?_
  refine go_iload_n (pc := 0) 1 dX6_isAsked_0 rfl rfl ?_
  obtain ⟨x1, hc2, hs⟩ := bnd hs
  refine go_callS (bc := 0) (bs := 0) (mc := 0) (ms := 0) (d := d + 1) (pc := 1) [vI a1] [] dX6_isAsked_1 kX6_isNet mlX6_69 isX6_isNet rfl (Nat.le_of_ble_eq_true rfl) rfl (c_X6_isNet (d := d + 0) (res0 := x1) hc2) (fun r w' hq => ?_)
  obtain ⟨rfl, rfl⟩ := hq
  show Go mX6_isAsked (d + 2) false 0 0 4 [some (vR 0), some (vI a1), some (vI a2), some (vI a3)] [vI x1] (wM kn ne fi se ma on ot ta po ti nu mo wa nx oT cF bg ed sF qu qd tr) _
  refine go_if_eq (pc := 4) 26 dX6_isAsked_4 (by decide) (fun h3 => ?_) (fun h3 => ?_)
  · have hs := it_t h3 hs
    refine go_iconst (pc := 26) (0 : Int32) dX6_isAsked_26 (by decide) ?_
    cases hs
    exact go_ireturn (st := []) (pc := 27) dX6_isAsked_27 rfl rfl (fun h => by cases h) ⟨rfl, rfl⟩
  · have hs := it_f h3 hs
    refine go_iload_n (pc := 7) 2 dX6_isAsked_7 rfl rfl ?_
    refine go_if_lt (pc := 8) 26 dX6_isAsked_8 (by decide) (fun h4 => ?_) (fun h4 => ?_)
    · have hs := it_t h4 hs
      refine go_iconst (pc := 26) (0 : Int32) dX6_isAsked_26 (by decide) ?_
      cases hs
      exact go_ireturn (st := []) (pc := 27) dX6_isAsked_27 rfl rfl (fun h => by cases h) ⟨rfl, rfl⟩
    · have hs := it_f h4 hs
      refine go_iload_n (pc := 11) 3 dX6_isAsked_11 rfl rfl ?_
      refine go_bipush (pc := 12) (-40 : Int32) dX6_isAsked_12 (by decide) ?_
      refine go_bipush (pc := 14) (40 : Int32) dX6_isAsked_14 (by decide) ?_
      obtain ⟨x5, hc6, hs⟩ := bnd hs
      refine go_callS (bc := 0) (bs := 0) (mc := 0) (ms := 0) (d := d + 1) (pc := 16) [vI a3, vI (-40 : Int32), vI (40 : Int32)] [] dX6_isAsked_16 kX6_in mlX6_65 isX6_in rfl (Nat.le_of_ble_eq_true rfl) rfl (c_X6_in (d := d + 1) (res0 := x5) hc6) (fun r w' hq => ?_)
      obtain ⟨rfl, rfl⟩ := hq
      show Go mX6_isAsked (d + 2) false 0 0 19 [some (vR 0), some (vI a1), some (vI a2), some (vI a3)] [vI x5] (wM kn ne fi se ma on ot ta po ti nu mo wa nx oT cF bg ed sF qu qd tr) _
      refine go_if_eq (pc := 19) 26 dX6_isAsked_19 (by decide) (fun h7 => ?_) (fun h7 => ?_)
      · have hs := it_t h7 hs
        refine go_iconst (pc := 26) (0 : Int32) dX6_isAsked_26 (by decide) ?_
        cases hs
        exact go_ireturn (st := []) (pc := 27) dX6_isAsked_27 rfl rfl (fun h => by cases h) ⟨rfl, rfl⟩
      · have hs := it_f h7 hs
        refine go_iconst (pc := 22) (1 : Int32) dX6_isAsked_22 (by decide) ?_
        refine go_goto (pc := 23) 27 dX6_isAsked_23 (by decide) ?_
        cases hs
        exact go_ireturn (st := []) (pc := 27) dX6_isAsked_27 rfl rfl (fun h => by cases h) ⟨rfl, rfl⟩
noncomputable def s_X6_layOwn (kn : (Nat → Int32)) (ne : (Nat → Int32)) (ma : Int32) (on : (Nat → Int32)) (ot : (Nat → Int32)) (ta : (Nat → Int64)) (po : (Nat → Int64)) (ti : (Nat → Int64)) (nu : (Nat → Int64)) (a1 : Int32) (a2 : Int32) : Option (Int32 × (Nat → Int32) × (Nat → Int32) × (Nat → Int64) × (Nat → Int64) × (Nat → Int64) × (Nat → Int64)) := (s_X6_layTable kn ne ma on ot ta a1 a2).bind (fun x1 => chk a1 4 ((s_X6_layPolynomial x1.2.2.2 po ti nu (kn a1.toNatClampNeg)).bind (fun x4 => some (x1.1, x1.2.1, x1.2.2.1, x1.2.2.2, x4.1, x4.2.1, x4.2.2))))
set_option maxRecDepth 20000 in
theorem c_X6_layOwn {d : Nat}  {a1 : Int32} {a2 : Int32} {res0 : Int32} {res1 : (Nat → Int32)} {res2 : (Nat → Int32)} {res3 : (Nat → Int64)} {res4 : (Nat → Int64)} {res5 : (Nat → Int64)} {res6 : (Nat → Int64)} (hs : s_X6_layOwn kn ne ma on ot ta po ti nu a1 a2 = some (res0, res1, res2, res3, res4, res5, res6)) : Calls mX6_layOwn (d + 3) false 0 0 [vR 0, vI a1, vI a2] (wM kn ne fi se ma on ot ta po ti nu mo wa nx oT cF bg ed sF qu qd tr) (fun r w' => r = none ∧ w' = (wM kn ne fi se res0 res1 res2 res3 res4 res5 res6 mo wa nx oT cF bg ed sF qu qd tr)) := by
  unfold s_X6_layOwn at hs
  refine Calls.of kX6_layOwn 0 [some (vR 0), some (vI a1), some (vI a2)] rfl (Nat.le_of_ble_eq_true rfl) ?_
  refine go_aload_n (pc := 0) 0 dX6_layOwn_0 rfl rfl ?_
  refine go_iload_n (pc := 1) 1 dX6_layOwn_1 rfl rfl ?_
  refine go_iload_n (pc := 2) 2 dX6_layOwn_2 rfl rfl ?_
  obtain ⟨x1, hc2, hs⟩ := bnd hs
  refine go_callV (bc := 0) (bs := 0) (mc := 0) (ms := 0) (d := d + 2) (pc := 3) (a := 0) (ci := 6) [vI a1, vI a2] [] dX6_layOwn_3 kX6_layTable mlX6_124 ivX6_layTable rfl rfl rfl rfl (Nat.le_of_ble_eq_true rfl) rfl (c_X6_layTable (d := d + 0) (res0 := x1.1) (res1 := x1.2.1) (res2 := x1.2.2.1) (res3 := x1.2.2.2) hc2) (fun r w' hq => ?_)
  obtain ⟨rfl, rfl⟩ := hq
  show Go mX6_layOwn (d + 3) false 0 0 6 [some (vR 0), some (vI a1), some (vI a2)] [] (wM kn ne fi se x1.1 x1.2.1 x1.2.2.1 x1.2.2.2 po ti nu mo wa nx oT cF bg ed sF qu qd tr) _
  refine go_aload_n (pc := 6) 0 dX6_layOwn_6 rfl rfl ?_
  refine go_aload_n (pc := 7) 0 dX6_layOwn_7 rfl rfl ?_
  refine go_getfield (pc := 8) (v := vR 1) 0 6 0 dX6_layOwn_8 flX6_7 rfl rfl ?_
  refine go_iload_n (pc := 11) 1 dX6_layOwn_11 rfl rfl ?_
  obtain ⟨hi3, hs⟩ := chk_t hs
  refine go_iaload (pc := 12) 1 dX6_layOwn_12 rfl hi3 ?_
  obtain ⟨x4, hc5, hs⟩ := bnd hs
  refine go_callV (bc := 0) (bs := 0) (mc := 0) (ms := 0) (d := d + 2) (pc := 13) (a := 0) (ci := 6) [vI (kn a1.toNatClampNeg)] [] dX6_layOwn_13 kX6_layPolynomial mlX6_127 ivX6_layPolynomial rfl rfl rfl rfl (Nat.le_of_ble_eq_true rfl) rfl (c_X6_layPolynomial (d := d + 2) (res0 := x4.1) (res1 := x4.2.1) (res2 := x4.2.2) hc5) (fun r w' hq => ?_)
  obtain ⟨rfl, rfl⟩ := hq
  show Go mX6_layOwn (d + 3) false 0 0 16 [some (vR 0), some (vI a1), some (vI a2)] [] (wM kn ne fi se x1.1 x1.2.1 x1.2.2.1 x1.2.2.2 x4.1 x4.2.1 x4.2.2 mo wa nx oT cF bg ed sF qu qd tr) _
  cases hs
  exact go_return (st := []) (pc := 16) dX6_layOwn_16 rfl (fun h => by cases h) ⟨rfl, rfl⟩
noncomputable def s_X6_more (kn : (Nat → Int32)) (ne : (Nat → Int32)) (ma : Int32) (on : (Nat → Int32)) (ot : (Nat → Int32)) (ta : (Nat → Int64)) (po : (Nat → Int64)) (ti : (Nat → Int64)) (nu : (Nat → Int64)) (mo : (Nat → Int64)) (a1 : Int32) (a2 : Int32) (a3 : Int32) : Option (Int32 × Int32 × (Nat → Int32) × (Nat → Int32) × (Nat → Int64) × (Nat → Int64) × (Nat → Int64) × (Nat → Int64) × (Nat → Int64)) := (s_X6_isAsked a1 a2 a3).bind (fun x1 => if x1 = 0 then (some ((-2 : Int32), ma, on, ot, ta, po, ti, nu, mo)) else ((s_X6_layOwn kn ne ma on ot ta po ti nu a1 a2).bind (fun x4 => chk a1 4 ((s_X6_aboveOf x4.2.2.2.2.2.2 mo (kn a1.toNatClampNeg) a3).bind (fun x7 => some (x7.1, x4.1, x4.2.1, x4.2.2.1, x4.2.2.2.1, x4.2.2.2.2.1, x4.2.2.2.2.2.1, x4.2.2.2.2.2.2, x7.2))))))
set_option maxRecDepth 20000 in
theorem c_X6_more {d : Nat}  {a1 : Int32} {a2 : Int32} {a3 : Int32} {res0 : Int32} {res1 : Int32} {res2 : (Nat → Int32)} {res3 : (Nat → Int32)} {res4 : (Nat → Int64)} {res5 : (Nat → Int64)} {res6 : (Nat → Int64)} {res7 : (Nat → Int64)} {res8 : (Nat → Int64)} (hs : s_X6_more kn ne ma on ot ta po ti nu mo a1 a2 a3 = some (res0, res1, res2, res3, res4, res5, res6, res7, res8)) : Calls mX6_more (d + 4) false 0 0 [vR 0, vI a1, vI a2, vI a3] (wM kn ne fi se ma on ot ta po ti nu mo wa nx oT cF bg ed sF qu qd tr) (fun r w' => r = some (vI res0) ∧ w' = (wM kn ne fi se res1 res2 res3 res4 res5 res6 res7 res8 wa nx oT cF bg ed sF qu qd tr)) := by
  unfold s_X6_more at hs
  refine Calls.of kX6_more 0 [some (vR 0), some (vI a1), some (vI a2), some (vI a3)] rfl (Nat.le_of_ble_eq_true rfl) ?_
  refine go_aload_n (pc := 0) 0 dX6_more_0 rfl rfl ?_
  refine go_iload_n (pc := 1) 1 dX6_more_1 rfl rfl ?_
  refine go_iload_n (pc := 2) 2 dX6_more_2 rfl rfl ?_
  refine go_iload_n (pc := 3) 3 dX6_more_3 rfl rfl ?_
  obtain ⟨x1, hc2, hs⟩ := bnd hs
  refine go_callV (bc := 0) (bs := 0) (mc := 0) (ms := 0) (d := d + 3) (pc := 4) (a := 0) (ci := 6) [vI a1, vI a2, vI a3] [] dX6_more_4 kX6_isAsked mlX6_130 ivX6_isAsked rfl rfl rfl rfl (Nat.le_of_ble_eq_true rfl) rfl (c_X6_isAsked (d := d + 1) (res0 := x1) hc2) (fun r w' hq => ?_)
  obtain ⟨rfl, rfl⟩ := hq
  show Go mX6_more (d + 4) false 0 0 7 [some (vR 0), some (vI a1), some (vI a2), some (vI a3)] [vI x1] (wM kn ne fi se ma on ot ta po ti nu mo wa nx oT cF bg ed sF qu qd tr) _
  refine go_if_ne (pc := 7) 13 dX6_more_7 (by decide) (fun h3 => ?_) (fun h3 => ?_)
  · have hs := it_f h3 hs
    refine go_aload_n (pc := 13) 0 dX6_more_13 rfl rfl ?_
    refine go_iload_n (pc := 14) 1 dX6_more_14 rfl rfl ?_
    refine go_iload_n (pc := 15) 2 dX6_more_15 rfl rfl ?_
    obtain ⟨x4, hc5, hs⟩ := bnd hs
    refine go_callV (bc := 0) (bs := 0) (mc := 0) (ms := 0) (d := d + 3) (pc := 16) (a := 0) (ci := 6) [vI a1, vI a2] [] dX6_more_16 kX6_layOwn mlX6_133 ivX6_layOwn rfl rfl rfl rfl (Nat.le_of_ble_eq_true rfl) rfl (c_X6_layOwn (d := d + 0) (res0 := x4.1) (res1 := x4.2.1) (res2 := x4.2.2.1) (res3 := x4.2.2.2.1) (res4 := x4.2.2.2.2.1) (res5 := x4.2.2.2.2.2.1) (res6 := x4.2.2.2.2.2.2) hc5) (fun r w' hq => ?_)
    obtain ⟨rfl, rfl⟩ := hq
    show Go mX6_more (d + 4) false 0 0 19 [some (vR 0), some (vI a1), some (vI a2), some (vI a3)] [] (wM kn ne fi se x4.1 x4.2.1 x4.2.2.1 x4.2.2.2.1 x4.2.2.2.2.1 x4.2.2.2.2.2.1 x4.2.2.2.2.2.2 mo wa nx oT cF bg ed sF qu qd tr) _
    refine go_aload_n (pc := 19) 0 dX6_more_19 rfl rfl ?_
    refine go_aload_n (pc := 20) 0 dX6_more_20 rfl rfl ?_
    refine go_getfield (pc := 21) (v := vR 1) 0 6 0 dX6_more_21 flX6_7 rfl rfl ?_
    refine go_iload_n (pc := 24) 1 dX6_more_24 rfl rfl ?_
    obtain ⟨hi6, hs⟩ := chk_t hs
    refine go_iaload (pc := 25) 1 dX6_more_25 rfl hi6 ?_
    refine go_iload_n (pc := 26) 3 dX6_more_26 rfl rfl ?_
    obtain ⟨x7, hc8, hs⟩ := bnd hs
    refine go_callV (bc := 0) (bs := 0) (mc := 0) (ms := 0) (d := d + 3) (pc := 27) (a := 0) (ci := 6) [vI (kn a1.toNatClampNeg), vI a3] [] dX6_more_27 kX6_aboveOf mlX6_136 ivX6_aboveOf rfl rfl rfl rfl (Nat.le_of_ble_eq_true rfl) rfl (c_X6_aboveOf (d := d + 2) (res0 := x7.1) (res1 := x7.2) hc8) (fun r w' hq => ?_)
    obtain ⟨rfl, rfl⟩ := hq
    show Go mX6_more (d + 4) false 0 0 30 [some (vR 0), some (vI a1), some (vI a2), some (vI a3)] [vI x7.1] (wM kn ne fi se x4.1 x4.2.1 x4.2.2.1 x4.2.2.2.1 x4.2.2.2.2.1 x4.2.2.2.2.2.1 x4.2.2.2.2.2.2 x7.2 wa nx oT cF bg ed sF qu qd tr) _
    cases hs
    exact go_ireturn (st := []) (pc := 30) dX6_more_30 rfl (vp_nar_int _) (fun h => by cases h) ⟨rfl, rfl⟩
  · have hs := it_t h3 hs
    refine go_bipush (pc := 10) (-2 : Int32) dX6_more_10 (by decide) ?_
    cases hs
    exact go_ireturn (st := []) (pc := 12) dX6_more_12 rfl (vp_nar_int _) (fun h => by cases h) ⟨rfl, rfl⟩
noncomputable def s_X6_just (kn : (Nat → Int32)) (ne : (Nat → Int32)) (ma : Int32) (on : (Nat → Int32)) (ot : (Nat → Int32)) (ta : (Nat → Int64)) (po : (Nat → Int64)) (ti : (Nat → Int64)) (nu : (Nat → Int64)) (mo : (Nat → Int64)) (a1 : Int32) (a2 : Int32) (a3 : Int32) : Option (Int32 × Int32 × (Nat → Int32) × (Nat → Int32) × (Nat → Int64) × (Nat → Int64) × (Nat → Int64) × (Nat → Int64) × (Nat → Int64)) := (s_X6_isAsked a1 a2 a3).bind (fun x1 => if x1 = 0 then (some ((-2 : Int32), ma, on, ot, ta, po, ti, nu, mo)) else ((s_X6_layOwn kn ne ma on ot ta po ti nu a1 a2).bind (fun x4 => chk a1 4 ((s_X6_justOf x4.2.2.2.2.2.2 mo (kn a1.toNatClampNeg) a3).bind (fun x7 => some (x7.1, x4.1, x4.2.1, x4.2.2.1, x4.2.2.2.1, x4.2.2.2.2.1, x4.2.2.2.2.2.1, x4.2.2.2.2.2.2, x7.2))))))
set_option maxRecDepth 20000 in
theorem c_X6_just {d : Nat}  {a1 : Int32} {a2 : Int32} {a3 : Int32} {res0 : Int32} {res1 : Int32} {res2 : (Nat → Int32)} {res3 : (Nat → Int32)} {res4 : (Nat → Int64)} {res5 : (Nat → Int64)} {res6 : (Nat → Int64)} {res7 : (Nat → Int64)} {res8 : (Nat → Int64)} (hs : s_X6_just kn ne ma on ot ta po ti nu mo a1 a2 a3 = some (res0, res1, res2, res3, res4, res5, res6, res7, res8)) : Calls mX6_just (d + 4) false 0 0 [vR 0, vI a1, vI a2, vI a3] (wM kn ne fi se ma on ot ta po ti nu mo wa nx oT cF bg ed sF qu qd tr) (fun r w' => r = some (vI res0) ∧ w' = (wM kn ne fi se res1 res2 res3 res4 res5 res6 res7 res8 wa nx oT cF bg ed sF qu qd tr)) := by
  unfold s_X6_just at hs
  refine Calls.of kX6_just 0 [some (vR 0), some (vI a1), some (vI a2), some (vI a3)] rfl (Nat.le_of_ble_eq_true rfl) ?_
  refine go_aload_n (pc := 0) 0 dX6_just_0 rfl rfl ?_
  refine go_iload_n (pc := 1) 1 dX6_just_1 rfl rfl ?_
  refine go_iload_n (pc := 2) 2 dX6_just_2 rfl rfl ?_
  refine go_iload_n (pc := 3) 3 dX6_just_3 rfl rfl ?_
  obtain ⟨x1, hc2, hs⟩ := bnd hs
  refine go_callV (bc := 0) (bs := 0) (mc := 0) (ms := 0) (d := d + 3) (pc := 4) (a := 0) (ci := 6) [vI a1, vI a2, vI a3] [] dX6_just_4 kX6_isAsked mlX6_130 ivX6_isAsked rfl rfl rfl rfl (Nat.le_of_ble_eq_true rfl) rfl (c_X6_isAsked (d := d + 1) (res0 := x1) hc2) (fun r w' hq => ?_)
  obtain ⟨rfl, rfl⟩ := hq
  show Go mX6_just (d + 4) false 0 0 7 [some (vR 0), some (vI a1), some (vI a2), some (vI a3)] [vI x1] (wM kn ne fi se ma on ot ta po ti nu mo wa nx oT cF bg ed sF qu qd tr) _
  refine go_if_ne (pc := 7) 13 dX6_just_7 (by decide) (fun h3 => ?_) (fun h3 => ?_)
  · have hs := it_f h3 hs
    refine go_aload_n (pc := 13) 0 dX6_just_13 rfl rfl ?_
    refine go_iload_n (pc := 14) 1 dX6_just_14 rfl rfl ?_
    refine go_iload_n (pc := 15) 2 dX6_just_15 rfl rfl ?_
    obtain ⟨x4, hc5, hs⟩ := bnd hs
    refine go_callV (bc := 0) (bs := 0) (mc := 0) (ms := 0) (d := d + 3) (pc := 16) (a := 0) (ci := 6) [vI a1, vI a2] [] dX6_just_16 kX6_layOwn mlX6_133 ivX6_layOwn rfl rfl rfl rfl (Nat.le_of_ble_eq_true rfl) rfl (c_X6_layOwn (d := d + 0) (res0 := x4.1) (res1 := x4.2.1) (res2 := x4.2.2.1) (res3 := x4.2.2.2.1) (res4 := x4.2.2.2.2.1) (res5 := x4.2.2.2.2.2.1) (res6 := x4.2.2.2.2.2.2) hc5) (fun r w' hq => ?_)
    obtain ⟨rfl, rfl⟩ := hq
    show Go mX6_just (d + 4) false 0 0 19 [some (vR 0), some (vI a1), some (vI a2), some (vI a3)] [] (wM kn ne fi se x4.1 x4.2.1 x4.2.2.1 x4.2.2.2.1 x4.2.2.2.2.1 x4.2.2.2.2.2.1 x4.2.2.2.2.2.2 mo wa nx oT cF bg ed sF qu qd tr) _
    refine go_aload_n (pc := 19) 0 dX6_just_19 rfl rfl ?_
    refine go_aload_n (pc := 20) 0 dX6_just_20 rfl rfl ?_
    refine go_getfield (pc := 21) (v := vR 1) 0 6 0 dX6_just_21 flX6_7 rfl rfl ?_
    refine go_iload_n (pc := 24) 1 dX6_just_24 rfl rfl ?_
    obtain ⟨hi6, hs⟩ := chk_t hs
    refine go_iaload (pc := 25) 1 dX6_just_25 rfl hi6 ?_
    refine go_iload_n (pc := 26) 3 dX6_just_26 rfl rfl ?_
    obtain ⟨x7, hc8, hs⟩ := bnd hs
    refine go_callV (bc := 0) (bs := 0) (mc := 0) (ms := 0) (d := d + 3) (pc := 27) (a := 0) (ci := 6) [vI (kn a1.toNatClampNeg), vI a3] [] dX6_just_27 kX6_justOf mlX6_139 ivX6_justOf rfl rfl rfl rfl (Nat.le_of_ble_eq_true rfl) rfl (c_X6_justOf (d := d + 2) (res0 := x7.1) (res1 := x7.2) hc8) (fun r w' hq => ?_)
    obtain ⟨rfl, rfl⟩ := hq
    show Go mX6_just (d + 4) false 0 0 30 [some (vR 0), some (vI a1), some (vI a2), some (vI a3)] [vI x7.1] (wM kn ne fi se x4.1 x4.2.1 x4.2.2.1 x4.2.2.2.1 x4.2.2.2.2.1 x4.2.2.2.2.2.1 x4.2.2.2.2.2.2 x7.2 wa nx oT cF bg ed sF qu qd tr) _
    cases hs
    exact go_ireturn (st := []) (pc := 30) dX6_just_30 rfl (vp_nar_int _) (fun h => by cases h) ⟨rfl, rfl⟩
  · have hs := it_t h3 hs
    refine go_bipush (pc := 10) (-2 : Int32) dX6_just_10 (by decide) ?_
    cases hs
    exact go_ireturn (st := []) (pc := 12) dX6_just_12 rfl (vp_nar_int _) (fun h => by cases h) ⟨rfl, rfl⟩
noncomputable def b_X6_second_19 (kn : (Nat → Int32)) (nu : (Nat → Int64)) (y1 : Int32) (x : Int32 × (Nat → Int64)) : Option ((Int32 × (Nat → Int64)) ⊕ (Int32 × (Nat → Int64))) := chk y1 4 ((s_X6_aboveOf nu x.2 (kn y1.toNatClampNeg) x.1).bind (fun x7 => if x7.1 ≤ (1 : Int32) then (some (Sum.inr (x.1, x7.2))) else (some (Sum.inl (x.1 + (1 : Int32), x7.2)))))
noncomputable def s_X6_second (kn : (Nat → Int32)) (ne : (Nat → Int32)) (ma : Int32) (on : (Nat → Int32)) (ot : (Nat → Int32)) (ta : (Nat → Int64)) (po : (Nat → Int64)) (ti : (Nat → Int64)) (nu : (Nat → Int64)) (mo : (Nat → Int64)) (a1 : Int32) : Option (Int32 × Int32 × (Nat → Int32) × (Nat → Int32) × (Nat → Int64) × (Nat → Int64) × (Nat → Int64) × (Nat → Int64) × (Nat → Int64)) := (s_X6_isNet a1).bind (fun x1 => if x1 = 0 then (some ((-2 : Int32), ma, on, ot, ta, po, ti, nu, mo)) else ((s_X6_layOwn kn ne ma on ot ta po ti nu a1 (0 : Int32)).bind (fun x4 => (loop (b_X6_second_19 kn x4.2.2.2.2.2.2 a1) ((-20 : Int32), mo)).bind (fun e10 => some (e10.1, x4.1, x4.2.1, x4.2.2.1, x4.2.2.2.1, x4.2.2.2.2.1, x4.2.2.2.2.2.1, x4.2.2.2.2.2.2, e10.2)))))
set_option maxRecDepth 20000 in
theorem g_X6_second_19 {d : Nat} {Q : Option AV → List AC → Prop} {y1 : Int32} (x0_ : Int32) (x1_ : (Nat → Int64)) (r : Int32 × (Nat → Int64)) (hl : loop (b_X6_second_19 kn nu y1) (x0_, x1_) = some r) (hk : ∀ (r0_ : Int32) (r1_ : (Nat → Int64)), r = (r0_, r1_) → Go mX6_second (d + 4) false 0 0 40 [none, none, some (vI r0_)] [] (wM kn ne fi se ma on ot ta po ti nu r1_ wa nx oT cF bg ed sF qu qd tr) Q) : Go mX6_second (d + 4) false 0 0 19 [some (vR 0), some (vI y1), some (vI x0_)] [] (wM kn ne fi se ma on ot ta po ti nu x1_ wa nx oT cF bg ed sF qu qd tr) Q := by
  refine loop_go (P := fun x : Int32 × (Nat → Int64) => ∀ (x0_ : Int32) (x1_ : (Nat → Int64)), x = (x0_, x1_) → Go mX6_second (d + 4) false 0 0 19 [some (vR 0), some (vI y1), some (vI x0_)] [] (wM kn ne fi se ma on ot ta po ti nu x1_ wa nx oT cF bg ed sF qu qd tr) Q) (K := fun r : Int32 × (Nat → Int64) => ∀ (r0_ : Int32) (r1_ : (Nat → Int64)), r = (r0_, r1_) → Go mX6_second (d + 4) false 0 0 40 [none, none, some (vI r0_)] [] (wM kn ne fi se ma on ot ta po ti nu r1_ wa nx oT cF bg ed sF qu qd tr) Q) ?_ (x0_, x1_) r hl hk x0_ x1_ rfl
  · intro x y hs hI hE x0_ x1_ hx
    subst hx
    unfold b_X6_second_19 at hs
    try dsimp only at hs
    refine go_aload_n (pc := 19) 0 dX6_second_19 rfl rfl ?_
    refine go_aload_n (pc := 20) 0 dX6_second_20 rfl rfl ?_
    refine go_getfield (pc := 21) (v := vR 1) 0 6 0 dX6_second_21 flX6_7 rfl rfl ?_
    refine go_iload_n (pc := 24) 1 dX6_second_24 rfl rfl ?_
    obtain ⟨hi6, hs⟩ := chk_t hs
    refine go_iaload (pc := 25) 1 dX6_second_25 rfl hi6 ?_
    refine go_iload_n (pc := 26) 2 dX6_second_26 rfl rfl ?_
    obtain ⟨x7, hc8, hs⟩ := bnd hs
    refine go_callV (bc := 0) (bs := 0) (mc := 0) (ms := 0) (d := d + 3) (pc := 27) (a := 0) (ci := 6) [vI (kn y1.toNatClampNeg), vI x0_] [] dX6_second_27 kX6_aboveOf mlX6_136 ivX6_aboveOf rfl rfl rfl rfl (Nat.le_of_ble_eq_true rfl) rfl (c_X6_aboveOf (d := d + 2) (res0 := x7.1) (res1 := x7.2) hc8) (fun r w' hq => ?_)
    obtain ⟨rfl, rfl⟩ := hq
    show Go mX6_second (d + 4) false 0 0 30 [some (vR 0), some (vI y1), some (vI x0_)] [vI x7.1] (wM kn ne fi se ma on ot ta po ti nu x7.2 wa nx oT cF bg ed sF qu qd tr) Q
    refine go_iconst (pc := 30) (1 : Int32) dX6_second_30 (by decide) ?_
    refine go_icmp_le (pc := 31) 40 dX6_second_31 (by decide) (fun h9 => ?_) (fun h9 => ?_)
    · have hs := it_t h9 hs
      obtain rfl := Option.some.inj hs
      refine go_sub (lv' := [none, none, some (vI x0_)]) ⟨rfl, trivial⟩ ?_
      exact (hE (x0_, x7.2) rfl) x0_ x7.2 rfl
    · have hs := it_f h9 hs
      refine go_iinc (pc := 34) (x0_ + (1 : Int32)) [some (vR 0), some (vI y1), some (vI (x0_ + (1 : Int32)))] dX6_second_34 rfl (iinc_1 _) (by decide) rfl ?_
      refine go_goto (pc := 37) 19 dX6_second_37 (by decide) ?_
      obtain rfl := Option.some.inj hs
      exact hI (x0_ + (1 : Int32), x7.2) rfl (x0_ + (1 : Int32)) x7.2 rfl
set_option maxRecDepth 20000 in
theorem c_X6_second {d : Nat}  {a1 : Int32} {res0 : Int32} {res1 : Int32} {res2 : (Nat → Int32)} {res3 : (Nat → Int32)} {res4 : (Nat → Int64)} {res5 : (Nat → Int64)} {res6 : (Nat → Int64)} {res7 : (Nat → Int64)} {res8 : (Nat → Int64)} (hs : s_X6_second kn ne ma on ot ta po ti nu mo a1 = some (res0, res1, res2, res3, res4, res5, res6, res7, res8)) : Calls mX6_second (d + 4) false 0 0 [vR 0, vI a1] (wM kn ne fi se ma on ot ta po ti nu mo wa nx oT cF bg ed sF qu qd tr) (fun r w' => r = some (vI res0) ∧ w' = (wM kn ne fi se res1 res2 res3 res4 res5 res6 res7 res8 wa nx oT cF bg ed sF qu qd tr)) := by
  unfold s_X6_second at hs
  refine Calls.of kX6_second 1 [some (vR 0), some (vI a1), none] rfl (Nat.le_of_ble_eq_true rfl) ?_
  refine go_iload_n (pc := 0) 1 dX6_second_0 rfl rfl ?_
  obtain ⟨x1, hc2, hs⟩ := bnd hs
  refine go_callS (bc := 0) (bs := 0) (mc := 0) (ms := 0) (d := d + 3) (pc := 1) [vI a1] [] dX6_second_1 kX6_isNet mlX6_69 isX6_isNet rfl (Nat.le_of_ble_eq_true rfl) rfl (c_X6_isNet (d := d + 2) (res0 := x1) hc2) (fun r w' hq => ?_)
  obtain ⟨rfl, rfl⟩ := hq
  show Go mX6_second (d + 4) false 0 0 4 [some (vR 0), some (vI a1), none] [vI x1] (wM kn ne fi se ma on ot ta po ti nu mo wa nx oT cF bg ed sF qu qd tr) _
  refine go_if_ne (pc := 4) 10 dX6_second_4 (by decide) (fun h3 => ?_) (fun h3 => ?_)
  · have hs := it_f h3 hs
    refine go_aload_n (pc := 10) 0 dX6_second_10 rfl rfl ?_
    refine go_iload_n (pc := 11) 1 dX6_second_11 rfl rfl ?_
    refine go_iconst (pc := 12) (0 : Int32) dX6_second_12 (by decide) ?_
    obtain ⟨x4, hc5, hs⟩ := bnd hs
    refine go_callV (bc := 0) (bs := 0) (mc := 0) (ms := 0) (d := d + 3) (pc := 13) (a := 0) (ci := 6) [vI a1, vI (0 : Int32)] [] dX6_second_13 kX6_layOwn mlX6_133 ivX6_layOwn rfl rfl rfl rfl (Nat.le_of_ble_eq_true rfl) rfl (c_X6_layOwn (d := d + 0) (res0 := x4.1) (res1 := x4.2.1) (res2 := x4.2.2.1) (res3 := x4.2.2.2.1) (res4 := x4.2.2.2.2.1) (res5 := x4.2.2.2.2.2.1) (res6 := x4.2.2.2.2.2.2) hc5) (fun r w' hq => ?_)
    obtain ⟨rfl, rfl⟩ := hq
    show Go mX6_second (d + 4) false 0 0 16 [some (vR 0), some (vI a1), none] [] (wM kn ne fi se x4.1 x4.2.1 x4.2.2.1 x4.2.2.2.1 x4.2.2.2.2.1 x4.2.2.2.2.2.1 x4.2.2.2.2.2.2 mo wa nx oT cF bg ed sF qu qd tr) _
    refine go_bipush (pc := 16) (-20 : Int32) dX6_second_16 (by decide) ?_
    refine go_istore_n (pc := 18) 2 [some (vR 0), some (vI a1), some (vI (-20 : Int32))] dX6_second_18 rfl (by decide) rfl ?_
    obtain ⟨e10, hl11, hs⟩ := bnd hs
    refine g_X6_second_19 (d := d) (-20 : Int32) mo e10 hl11 ?_
    intro v12 v13 hv14
    subst hv14
    try dsimp only at hs
    refine go_iload_n (pc := 40) 2 dX6_second_40 rfl rfl ?_
    cases hs
    exact go_ireturn (st := []) (pc := 41) dX6_second_41 rfl (vp_nar_int _) (fun h => by cases h) ⟨rfl, rfl⟩
  · have hs := it_t h3 hs
    refine go_bipush (pc := 7) (-2 : Int32) dX6_second_7 (by decide) ?_
    cases hs
    exact go_ireturn (st := []) (pc := 9) dX6_second_9 rfl (vp_nar_int _) (fun h => by cases h) ⟨rfl, rfl⟩
noncomputable def b_X6_spanOf_16 (nu : (Nat → Int64)) (y3 : Int32) (x : Int32 × (Nat → Int64)) : Option ((Int32 × (Nat → Int64)) ⊕ (Int32 × (Nat → Int64))) := (s_X6_aboveOf nu x.2 y3 x.1).bind (fun x4 => if 0 < x4.1 then (some (Sum.inl (x.1 + (1 : Int32), x4.2))) else ((s_X6_aboveOf nu x4.2 y3 (-x.1)).bind (fun x7 => (s_X6_justOf nu x7.2 y3 (-x.1)).bind (fun x9 => if y3 ≤ (x7.1 + x9.1) then (some (Sum.inr (x.1, x9.2))) else (some (Sum.inl (x.1 + (1 : Int32), x9.2)))))))
noncomputable def s_X6_spanOf (kn : (Nat → Int32)) (ne : (Nat → Int32)) (ma : Int32) (on : (Nat → Int32)) (ot : (Nat → Int32)) (ta : (Nat → Int64)) (po : (Nat → Int64)) (ti : (Nat → Int64)) (nu : (Nat → Int64)) (mo : (Nat → Int64)) (a1 : Int32) (a2 : Int32) : Option (Int32 × Int32 × (Nat → Int32) × (Nat → Int32) × (Nat → Int64) × (Nat → Int64) × (Nat → Int64) × (Nat → Int64) × (Nat → Int64)) := (s_X6_layOwn kn ne ma on ot ta po ti nu a1 a2).bind (fun x1 => chk a1 4 ((loop (b_X6_spanOf_16 x1.2.2.2.2.2.2 (kn a1.toNatClampNeg)) ((0 : Int32), mo)).bind (fun e12 => some (e12.1, x1.1, x1.2.1, x1.2.2.1, x1.2.2.2.1, x1.2.2.2.2.1, x1.2.2.2.2.2.1, x1.2.2.2.2.2.2, e12.2))))
set_option maxRecDepth 20000 in
theorem g_X6_spanOf_16 {d : Nat} {Q : Option AV → List AC → Prop} {y3 : Int32} (x0_ : Int32) (x1_ : (Nat → Int64)) (r : Int32 × (Nat → Int64)) (hl : loop (b_X6_spanOf_16 nu y3) (x0_, x1_) = some r) (hk : ∀ (r0_ : Int32) (r1_ : (Nat → Int64)), r = (r0_, r1_) → Go mX6_spanOf (d + 4) false 0 0 53 [none, none, none, none, some (vI r0_)] [] (wM kn ne fi se ma on ot ta po ti nu r1_ wa nx oT cF bg ed sF qu qd tr) Q) : Go mX6_spanOf (d + 4) false 0 0 16 [some (vR 0), none, none, some (vI y3), some (vI x0_)] [] (wM kn ne fi se ma on ot ta po ti nu x1_ wa nx oT cF bg ed sF qu qd tr) Q := by
  refine loop_go (P := fun x : Int32 × (Nat → Int64) => ∀ (x0_ : Int32) (x1_ : (Nat → Int64)), x = (x0_, x1_) → Go mX6_spanOf (d + 4) false 0 0 16 [some (vR 0), none, none, some (vI y3), some (vI x0_)] [] (wM kn ne fi se ma on ot ta po ti nu x1_ wa nx oT cF bg ed sF qu qd tr) Q) (K := fun r : Int32 × (Nat → Int64) => ∀ (r0_ : Int32) (r1_ : (Nat → Int64)), r = (r0_, r1_) → Go mX6_spanOf (d + 4) false 0 0 53 [none, none, none, none, some (vI r0_)] [] (wM kn ne fi se ma on ot ta po ti nu r1_ wa nx oT cF bg ed sF qu qd tr) Q) ?_ (x0_, x1_) r hl hk x0_ x1_ rfl
  · intro x y hs hI hE x0_ x1_ hx
    subst hx
    unfold b_X6_spanOf_16 at hs
    try dsimp only at hs
    refine go_aload_n (pc := 16) 0 dX6_spanOf_16 rfl rfl ?_
    refine go_iload_n (pc := 17) 3 dX6_spanOf_17 rfl rfl ?_
    refine go_iload (pc := 18) dX6_spanOf_18 rfl ?_
    obtain ⟨x4, hc5, hs⟩ := bnd hs
    refine go_callV (bc := 0) (bs := 0) (mc := 0) (ms := 0) (d := d + 3) (pc := 20) (a := 0) (ci := 6) [vI y3, vI x0_] [] dX6_spanOf_20 kX6_aboveOf mlX6_136 ivX6_aboveOf rfl rfl rfl rfl (Nat.le_of_ble_eq_true rfl) rfl (c_X6_aboveOf (d := d + 2) (res0 := x4.1) (res1 := x4.2) hc5) (fun r w' hq => ?_)
    obtain ⟨rfl, rfl⟩ := hq
    show Go mX6_spanOf (d + 4) false 0 0 23 [some (vR 0), none, none, some (vI y3), some (vI x0_)] [vI x4.1] (wM kn ne fi se ma on ot ta po ti nu x4.2 wa nx oT cF bg ed sF qu qd tr) Q
    refine go_if_gt (pc := 23) 47 dX6_spanOf_23 (by decide) (fun h6 => ?_) (fun h6 => ?_)
    · have hs := it_t h6 hs
      refine go_iinc (pc := 47) (x0_ + (1 : Int32)) [some (vR 0), none, none, some (vI y3), some (vI (x0_ + (1 : Int32)))] dX6_spanOf_47 rfl (iinc_1 _) (by decide) rfl ?_
      refine go_goto (pc := 50) 16 dX6_spanOf_50 (by decide) ?_
      obtain rfl := Option.some.inj hs
      exact hI (x0_ + (1 : Int32), x4.2) rfl (x0_ + (1 : Int32)) x4.2 rfl
    · have hs := it_f h6 hs
      refine go_aload_n (pc := 26) 0 dX6_spanOf_26 rfl rfl ?_
      refine go_iload_n (pc := 27) 3 dX6_spanOf_27 rfl rfl ?_
      refine go_iload (pc := 28) dX6_spanOf_28 rfl ?_
      refine go_ineg (pc := 30) dX6_spanOf_30 ?_
      obtain ⟨x7, hc8, hs⟩ := bnd hs
      refine go_callV (bc := 0) (bs := 0) (mc := 0) (ms := 0) (d := d + 3) (pc := 31) (a := 0) (ci := 6) [vI y3, vI (-x0_)] [] dX6_spanOf_31 kX6_aboveOf mlX6_136 ivX6_aboveOf rfl rfl rfl rfl (Nat.le_of_ble_eq_true rfl) rfl (c_X6_aboveOf (d := d + 2) (res0 := x7.1) (res1 := x7.2) hc8) (fun r w' hq => ?_)
      obtain ⟨rfl, rfl⟩ := hq
      show Go mX6_spanOf (d + 4) false 0 0 34 [some (vR 0), none, none, some (vI y3), some (vI x0_)] [vI x7.1] (wM kn ne fi se ma on ot ta po ti nu x7.2 wa nx oT cF bg ed sF qu qd tr) Q
      refine go_aload_n (pc := 34) 0 dX6_spanOf_34 rfl rfl ?_
      refine go_iload_n (pc := 35) 3 dX6_spanOf_35 rfl rfl ?_
      refine go_iload (pc := 36) dX6_spanOf_36 rfl ?_
      refine go_ineg (pc := 38) dX6_spanOf_38 ?_
      obtain ⟨x9, hc10, hs⟩ := bnd hs
      refine go_callV (bc := 0) (bs := 0) (mc := 0) (ms := 0) (d := d + 3) (pc := 39) (a := 0) (ci := 6) [vI y3, vI (-x0_)] [vI x7.1] dX6_spanOf_39 kX6_justOf mlX6_139 ivX6_justOf rfl rfl rfl rfl (Nat.le_of_ble_eq_true rfl) rfl (c_X6_justOf (d := d + 2) (res0 := x9.1) (res1 := x9.2) hc10) (fun r w' hq => ?_)
      obtain ⟨rfl, rfl⟩ := hq
      show Go mX6_spanOf (d + 4) false 0 0 42 [some (vR 0), none, none, some (vI y3), some (vI x0_)] [vI x9.1, vI x7.1] (wM kn ne fi se ma on ot ta po ti nu x9.2 wa nx oT cF bg ed sF qu qd tr) Q
      refine go_iadd (pc := 42) dX6_spanOf_42 ?_
      refine go_iload_n (pc := 43) 3 dX6_spanOf_43 rfl rfl ?_
      refine go_icmp_ge (pc := 44) 53 dX6_spanOf_44 (by decide) (fun h11 => ?_) (fun h11 => ?_)
      · have hs := it_t h11 hs
        obtain rfl := Option.some.inj hs
        refine go_sub (lv' := [none, none, none, none, some (vI x0_)]) ⟨rfl, trivial⟩ ?_
        exact (hE (x0_, x9.2) rfl) x0_ x9.2 rfl
      · have hs := it_f h11 hs
        refine go_iinc (pc := 47) (x0_ + (1 : Int32)) [some (vR 0), none, none, some (vI y3), some (vI (x0_ + (1 : Int32)))] dX6_spanOf_47 rfl (iinc_1 _) (by decide) rfl ?_
        refine go_goto (pc := 50) 16 dX6_spanOf_50 (by decide) ?_
        obtain rfl := Option.some.inj hs
        exact hI (x0_ + (1 : Int32), x9.2) rfl (x0_ + (1 : Int32)) x9.2 rfl
set_option maxRecDepth 20000 in
theorem c_X6_spanOf {d : Nat}  {a1 : Int32} {a2 : Int32} {res0 : Int32} {res1 : Int32} {res2 : (Nat → Int32)} {res3 : (Nat → Int32)} {res4 : (Nat → Int64)} {res5 : (Nat → Int64)} {res6 : (Nat → Int64)} {res7 : (Nat → Int64)} {res8 : (Nat → Int64)} (hs : s_X6_spanOf kn ne ma on ot ta po ti nu mo a1 a2 = some (res0, res1, res2, res3, res4, res5, res6, res7, res8)) : Calls mX6_spanOf (d + 4) false 0 0 [vR 0, vI a1, vI a2] (wM kn ne fi se ma on ot ta po ti nu mo wa nx oT cF bg ed sF qu qd tr) (fun r w' => r = some (vI res0) ∧ w' = (wM kn ne fi se res1 res2 res3 res4 res5 res6 res7 res8 wa nx oT cF bg ed sF qu qd tr)) := by
  unfold s_X6_spanOf at hs
  refine Calls.of kX6_spanOf 2 [some (vR 0), some (vI a1), some (vI a2), none, none] rfl (Nat.le_of_ble_eq_true rfl) ?_
  refine go_aload_n (pc := 0) 0 dX6_spanOf_0 rfl rfl ?_
  refine go_iload_n (pc := 1) 1 dX6_spanOf_1 rfl rfl ?_
  refine go_iload_n (pc := 2) 2 dX6_spanOf_2 rfl rfl ?_
  obtain ⟨x1, hc2, hs⟩ := bnd hs
  refine go_callV (bc := 0) (bs := 0) (mc := 0) (ms := 0) (d := d + 3) (pc := 3) (a := 0) (ci := 6) [vI a1, vI a2] [] dX6_spanOf_3 kX6_layOwn mlX6_133 ivX6_layOwn rfl rfl rfl rfl (Nat.le_of_ble_eq_true rfl) rfl (c_X6_layOwn (d := d + 0) (res0 := x1.1) (res1 := x1.2.1) (res2 := x1.2.2.1) (res3 := x1.2.2.2.1) (res4 := x1.2.2.2.2.1) (res5 := x1.2.2.2.2.2.1) (res6 := x1.2.2.2.2.2.2) hc2) (fun r w' hq => ?_)
  obtain ⟨rfl, rfl⟩ := hq
  show Go mX6_spanOf (d + 4) false 0 0 6 [some (vR 0), some (vI a1), some (vI a2), none, none] [] (wM kn ne fi se x1.1 x1.2.1 x1.2.2.1 x1.2.2.2.1 x1.2.2.2.2.1 x1.2.2.2.2.2.1 x1.2.2.2.2.2.2 mo wa nx oT cF bg ed sF qu qd tr) _
  refine go_aload_n (pc := 6) 0 dX6_spanOf_6 rfl rfl ?_
  refine go_getfield (pc := 7) (v := vR 1) 0 6 0 dX6_spanOf_7 flX6_7 rfl rfl ?_
  refine go_iload_n (pc := 10) 1 dX6_spanOf_10 rfl rfl ?_
  obtain ⟨hi3, hs⟩ := chk_t hs
  refine go_iaload (pc := 11) 1 dX6_spanOf_11 rfl hi3 ?_
  refine go_istore_n (pc := 12) 3 [some (vR 0), some (vI a1), some (vI a2), some (vI (kn a1.toNatClampNeg)), none] dX6_spanOf_12 rfl (by decide) rfl ?_
  refine go_iconst (pc := 13) (0 : Int32) dX6_spanOf_13 (by decide) ?_
  refine go_istore (pc := 14) [some (vR 0), some (vI a1), some (vI a2), some (vI (kn a1.toNatClampNeg)), some (vI (0 : Int32))] dX6_spanOf_14 (by decide) rfl ?_
  refine go_sub (lv' := [some (vR 0), none, none, some (vI (kn a1.toNatClampNeg)), some (vI (0 : Int32))]) ⟨rfl, ⟨rfl, ⟨rfl, trivial⟩⟩⟩ ?_
  obtain ⟨e12, hl13, hs⟩ := bnd hs
  refine g_X6_spanOf_16 (d := d) (0 : Int32) mo e12 hl13 ?_
  intro v14 v15 hv16
  subst hv16
  try dsimp only at hs
  refine go_iload (pc := 53) dX6_spanOf_53 rfl ?_
  cases hs
  exact go_ireturn (st := []) (pc := 55) dX6_spanOf_55 rfl (vp_nar_int _) (fun h => by cases h) ⟨rfl, rfl⟩
noncomputable def s_X6_span (kn : (Nat → Int32)) (ne : (Nat → Int32)) (ma : Int32) (on : (Nat → Int32)) (ot : (Nat → Int32)) (ta : (Nat → Int64)) (po : (Nat → Int64)) (ti : (Nat → Int64)) (nu : (Nat → Int64)) (mo : (Nat → Int64)) (a1 : Int32) (a2 : Int32) : Option (Int32 × Int32 × (Nat → Int32) × (Nat → Int32) × (Nat → Int64) × (Nat → Int64) × (Nat → Int64) × (Nat → Int64) × (Nat → Int64)) := (s_X6_isNet a1).bind (fun x1 => if x1 = 0 then (some ((-2 : Int32), ma, on, ot, ta, po, ti, nu, mo)) else (if a2 < 0 then (some ((-2 : Int32), ma, on, ot, ta, po, ti, nu, mo)) else ((s_X6_spanOf kn ne ma on ot ta po ti nu mo a1 a2).bind (fun x5 => some (x5.1, x5.2.1, x5.2.2.1, x5.2.2.2.1, x5.2.2.2.2.1, x5.2.2.2.2.2.1, x5.2.2.2.2.2.2.1, x5.2.2.2.2.2.2.2.1, x5.2.2.2.2.2.2.2.2)))))
set_option maxRecDepth 20000 in
theorem c_X6_span {d : Nat}  {a1 : Int32} {a2 : Int32} {res0 : Int32} {res1 : Int32} {res2 : (Nat → Int32)} {res3 : (Nat → Int32)} {res4 : (Nat → Int64)} {res5 : (Nat → Int64)} {res6 : (Nat → Int64)} {res7 : (Nat → Int64)} {res8 : (Nat → Int64)} (hs : s_X6_span kn ne ma on ot ta po ti nu mo a1 a2 = some (res0, res1, res2, res3, res4, res5, res6, res7, res8)) : Calls mX6_span (d + 5) false 0 0 [vR 0, vI a1, vI a2] (wM kn ne fi se ma on ot ta po ti nu mo wa nx oT cF bg ed sF qu qd tr) (fun r w' => r = some (vI res0) ∧ w' = (wM kn ne fi se res1 res2 res3 res4 res5 res6 res7 res8 wa nx oT cF bg ed sF qu qd tr)) := by
  unfold s_X6_span at hs
  refine Calls.of kX6_span 0 [some (vR 0), some (vI a1), some (vI a2)] rfl (Nat.le_of_ble_eq_true rfl) ?_
  refine go_iload_n (pc := 0) 1 dX6_span_0 rfl rfl ?_
  obtain ⟨x1, hc2, hs⟩ := bnd hs
  refine go_callS (bc := 0) (bs := 0) (mc := 0) (ms := 0) (d := d + 4) (pc := 1) [vI a1] [] dX6_span_1 kX6_isNet mlX6_69 isX6_isNet rfl (Nat.le_of_ble_eq_true rfl) rfl (c_X6_isNet (d := d + 3) (res0 := x1) hc2) (fun r w' hq => ?_)
  obtain ⟨rfl, rfl⟩ := hq
  show Go mX6_span (d + 5) false 0 0 4 [some (vR 0), some (vI a1), some (vI a2)] [vI x1] (wM kn ne fi se ma on ot ta po ti nu mo wa nx oT cF bg ed sF qu qd tr) _
  refine go_if_eq (pc := 4) 20 dX6_span_4 (by decide) (fun h3 => ?_) (fun h3 => ?_)
  · have hs := it_t h3 hs
    refine go_bipush (pc := 20) (-2 : Int32) dX6_span_20 (by decide) ?_
    cases hs
    exact go_ireturn (st := []) (pc := 22) dX6_span_22 rfl (vp_nar_int _) (fun h => by cases h) ⟨rfl, rfl⟩
  · have hs := it_f h3 hs
    refine go_iload_n (pc := 7) 2 dX6_span_7 rfl rfl ?_
    refine go_if_lt (pc := 8) 20 dX6_span_8 (by decide) (fun h4 => ?_) (fun h4 => ?_)
    · have hs := it_t h4 hs
      refine go_bipush (pc := 20) (-2 : Int32) dX6_span_20 (by decide) ?_
      cases hs
      exact go_ireturn (st := []) (pc := 22) dX6_span_22 rfl (vp_nar_int _) (fun h => by cases h) ⟨rfl, rfl⟩
    · have hs := it_f h4 hs
      refine go_aload_n (pc := 11) 0 dX6_span_11 rfl rfl ?_
      refine go_iload_n (pc := 12) 1 dX6_span_12 rfl rfl ?_
      refine go_iload_n (pc := 13) 2 dX6_span_13 rfl rfl ?_
      obtain ⟨x5, hc6, hs⟩ := bnd hs
      refine go_callV (bc := 0) (bs := 0) (mc := 0) (ms := 0) (d := d + 4) (pc := 14) (a := 0) (ci := 6) [vI a1, vI a2] [] dX6_span_14 kX6_spanOf mlX6_142 ivX6_spanOf rfl rfl rfl rfl (Nat.le_of_ble_eq_true rfl) rfl (c_X6_spanOf (d := d + 0) (res0 := x5.1) (res1 := x5.2.1) (res2 := x5.2.2.1) (res3 := x5.2.2.2.1) (res4 := x5.2.2.2.2.1) (res5 := x5.2.2.2.2.2.1) (res6 := x5.2.2.2.2.2.2.1) (res7 := x5.2.2.2.2.2.2.2.1) (res8 := x5.2.2.2.2.2.2.2.2) hc6) (fun r w' hq => ?_)
      obtain ⟨rfl, rfl⟩ := hq
      show Go mX6_span (d + 5) false 0 0 17 [some (vR 0), some (vI a1), some (vI a2)] [vI x5.1] (wM kn ne fi se x5.2.1 x5.2.2.1 x5.2.2.2.1 x5.2.2.2.2.1 x5.2.2.2.2.2.1 x5.2.2.2.2.2.2.1 x5.2.2.2.2.2.2.2.1 x5.2.2.2.2.2.2.2.2 wa nx oT cF bg ed sF qu qd tr) _
      refine go_goto (pc := 17) 22 dX6_span_17 (by decide) ?_
      cases hs
      exact go_ireturn (st := []) (pc := 22) dX6_span_22 rfl (vp_nar_int _) (fun h => by cases h) ⟨rfl, rfl⟩
noncomputable def b_X6_best_38 (kn : (Nat → Int32)) (ne : (Nat → Int32)) (y1 : Int32) (y2 : Int32) (x : Int32 × Int32 × Int32 × Int32 × (Nat → Int32) × (Nat → Int32) × (Nat → Int64) × (Nat → Int64) × (Nat → Int64) × (Nat → Int64) × (Nat → Int64)) : Option ((Int32 × Int32 × Int32 × Int32 × (Nat → Int32) × (Nat → Int32) × (Nat → Int64) × (Nat → Int64) × (Nat → Int64) × (Nat → Int64) × (Nat → Int64)) ⊕ (Int32 × Int32 × (Nat → Int32) × (Nat → Int32) × (Nat → Int64) × (Nat → Int64) × (Nat → Int64) × (Nat → Int64) × (Nat → Int64))) := if ((1 : Int32) <<< (y2 &&& 31)) ≤ x.2.2.1 then (some (Sum.inr (x.1, x.2.2.2.1, x.2.2.2.2.1, x.2.2.2.2.2.1, x.2.2.2.2.2.2.1, x.2.2.2.2.2.2.2.1, x.2.2.2.2.2.2.2.2.1, x.2.2.2.2.2.2.2.2.2.1, x.2.2.2.2.2.2.2.2.2.2))) else ((s_X6_spanOf kn ne x.2.2.2.1 x.2.2.2.2.1 x.2.2.2.2.2.1 x.2.2.2.2.2.2.1 x.2.2.2.2.2.2.2.1 x.2.2.2.2.2.2.2.2.1 x.2.2.2.2.2.2.2.2.2.1 x.2.2.2.2.2.2.2.2.2.2 y1 x.2.2.1).bind (fun x10 => if x.2.1 ≤ x10.1 then (some (Sum.inl (x.1, x.2.1, x.2.2.1 + (1 : Int32), x10.2.1, x10.2.2.1, x10.2.2.2.1, x10.2.2.2.2.1, x10.2.2.2.2.2.1, x10.2.2.2.2.2.2.1, x10.2.2.2.2.2.2.2.1, x10.2.2.2.2.2.2.2.2))) else (some (Sum.inl (x.2.2.1, x10.1, x.2.2.1 + (1 : Int32), x10.2.1, x10.2.2.1, x10.2.2.2.1, x10.2.2.2.2.1, x10.2.2.2.2.2.1, x10.2.2.2.2.2.2.1, x10.2.2.2.2.2.2.2.1, x10.2.2.2.2.2.2.2.2)))))
noncomputable def s_X6_best (kn : (Nat → Int32)) (ne : (Nat → Int32)) (ma : Int32) (on : (Nat → Int32)) (ot : (Nat → Int32)) (ta : (Nat → Int64)) (po : (Nat → Int64)) (ti : (Nat → Int64)) (nu : (Nat → Int64)) (mo : (Nat → Int64)) (a1 : Int32) : Option (Int32 × Int32 × (Nat → Int32) × (Nat → Int32) × (Nat → Int64) × (Nat → Int64) × (Nat → Int64) × (Nat → Int64) × (Nat → Int64)) := (s_X6_isNet a1).bind (fun x1 => if x1 = 0 then (some ((-2 : Int32), ma, on, ot, ta, po, ti, nu, mo)) else ((s_X6_lines kn ne a1).bind (fun x4 => if x4 ≤ (9 : Int32) then ((s_X6_spanOf kn ne ma on ot ta po ti nu mo a1 (0 : Int32)).bind (fun x7 => (loop (b_X6_best_38 kn ne a1 x4) ((0 : Int32), x7.1, (1 : Int32), x7.2.1, x7.2.2.1, x7.2.2.2.1, x7.2.2.2.2.1, x7.2.2.2.2.2.1, x7.2.2.2.2.2.2.1, x7.2.2.2.2.2.2.2.1, x7.2.2.2.2.2.2.2.2)).bind (fun e13 => some (e13.1, e13.2.1, e13.2.2.1, e13.2.2.2.1, e13.2.2.2.2.1, e13.2.2.2.2.2.1, e13.2.2.2.2.2.2.1, e13.2.2.2.2.2.2.2.1, e13.2.2.2.2.2.2.2.2)))) else (some ((-3 : Int32), ma, on, ot, ta, po, ti, nu, mo)))))
set_option maxRecDepth 20000 in
theorem g_X6_best_38 {d : Nat} {Q : Option AV → List AC → Prop} {y1 : Int32} {y2 : Int32} (x0_ : Int32) (x1_ : Int32) (x2_ : Int32) (x3_ : Int32) (x4_ : (Nat → Int32)) (x5_ : (Nat → Int32)) (x6_ : (Nat → Int64)) (x7_ : (Nat → Int64)) (x8_ : (Nat → Int64)) (x9_ : (Nat → Int64)) (x10_ : (Nat → Int64)) (r : Int32 × Int32 × (Nat → Int32) × (Nat → Int32) × (Nat → Int64) × (Nat → Int64) × (Nat → Int64) × (Nat → Int64) × (Nat → Int64)) (hl : loop (b_X6_best_38 kn ne y1 y2) (x0_, x1_, x2_, x3_, x4_, x5_, x6_, x7_, x8_, x9_, x10_) = some r) (hk : ∀ (r0_ : Int32) (r1_ : Int32) (r2_ : (Nat → Int32)) (r3_ : (Nat → Int32)) (r4_ : (Nat → Int64)) (r5_ : (Nat → Int64)) (r6_ : (Nat → Int64)) (r7_ : (Nat → Int64)) (r8_ : (Nat → Int64)), r = (r0_, r1_, r2_, r3_, r4_, r5_, r6_, r7_, r8_) → Go mX6_best (d + 5) false 0 0 75 [none, none, none, some (vI r0_), none, none, none] [] (wM kn ne fi se r1_ r2_ r3_ r4_ r5_ r6_ r7_ r8_ wa nx oT cF bg ed sF qu qd tr) Q) : Go mX6_best (d + 5) false 0 0 38 [some (vR 0), some (vI y1), some (vI y2), some (vI x0_), some (vI x1_), some (vI x2_), none] [] (wM kn ne fi se x3_ x4_ x5_ x6_ x7_ x8_ x9_ x10_ wa nx oT cF bg ed sF qu qd tr) Q := by
  refine loop_go (P := fun x : Int32 × Int32 × Int32 × Int32 × (Nat → Int32) × (Nat → Int32) × (Nat → Int64) × (Nat → Int64) × (Nat → Int64) × (Nat → Int64) × (Nat → Int64) => ∀ (x0_ : Int32) (x1_ : Int32) (x2_ : Int32) (x3_ : Int32) (x4_ : (Nat → Int32)) (x5_ : (Nat → Int32)) (x6_ : (Nat → Int64)) (x7_ : (Nat → Int64)) (x8_ : (Nat → Int64)) (x9_ : (Nat → Int64)) (x10_ : (Nat → Int64)), x = (x0_, x1_, x2_, x3_, x4_, x5_, x6_, x7_, x8_, x9_, x10_) → Go mX6_best (d + 5) false 0 0 38 [some (vR 0), some (vI y1), some (vI y2), some (vI x0_), some (vI x1_), some (vI x2_), none] [] (wM kn ne fi se x3_ x4_ x5_ x6_ x7_ x8_ x9_ x10_ wa nx oT cF bg ed sF qu qd tr) Q) (K := fun r : Int32 × Int32 × (Nat → Int32) × (Nat → Int32) × (Nat → Int64) × (Nat → Int64) × (Nat → Int64) × (Nat → Int64) × (Nat → Int64) => ∀ (r0_ : Int32) (r1_ : Int32) (r2_ : (Nat → Int32)) (r3_ : (Nat → Int32)) (r4_ : (Nat → Int64)) (r5_ : (Nat → Int64)) (r6_ : (Nat → Int64)) (r7_ : (Nat → Int64)) (r8_ : (Nat → Int64)), r = (r0_, r1_, r2_, r3_, r4_, r5_, r6_, r7_, r8_) → Go mX6_best (d + 5) false 0 0 75 [none, none, none, some (vI r0_), none, none, none] [] (wM kn ne fi se r1_ r2_ r3_ r4_ r5_ r6_ r7_ r8_ wa nx oT cF bg ed sF qu qd tr) Q) ?_ (x0_, x1_, x2_, x3_, x4_, x5_, x6_, x7_, x8_, x9_, x10_) r hl hk x0_ x1_ x2_ x3_ x4_ x5_ x6_ x7_ x8_ x9_ x10_ rfl
  · intro x y hs hI hE x0_ x1_ x2_ x3_ x4_ x5_ x6_ x7_ x8_ x9_ x10_ hx
    subst hx
    unfold b_X6_best_38 at hs
    try dsimp only at hs
    refine go_iload (pc := 38) dX6_best_38 rfl ?_
    refine go_iconst (pc := 40) (1 : Int32) dX6_best_40 (by decide) ?_
    refine go_iload_n (pc := 41) 2 dX6_best_41 rfl rfl ?_
    refine go_ishl (pc := 42) dX6_best_42 ?_
    refine go_icmp_ge (pc := 43) 75 dX6_best_43 (by decide) (fun h9 => ?_) (fun h9 => ?_)
    · have hs := it_t h9 hs
      obtain rfl := Option.some.inj hs
      refine go_sub (lv' := [none, none, none, some (vI x0_), none, none, none]) ⟨rfl, trivial⟩ ?_
      exact (hE (x0_, x3_, x4_, x5_, x6_, x7_, x8_, x9_, x10_) rfl) x0_ x3_ x4_ x5_ x6_ x7_ x8_ x9_ x10_ rfl
    · have hs := it_f h9 hs
      refine go_aload_n (pc := 46) 0 dX6_best_46 rfl rfl ?_
      refine go_iload_n (pc := 47) 1 dX6_best_47 rfl rfl ?_
      refine go_iload (pc := 48) dX6_best_48 rfl ?_
      obtain ⟨x10, hc11, hs⟩ := bnd hs
      refine go_callV (bc := 0) (bs := 0) (mc := 0) (ms := 0) (d := d + 4) (pc := 50) (a := 0) (ci := 6) [vI y1, vI x2_] [] dX6_best_50 kX6_spanOf mlX6_142 ivX6_spanOf rfl rfl rfl rfl (Nat.le_of_ble_eq_true rfl) rfl (c_X6_spanOf (d := d + 0) (res0 := x10.1) (res1 := x10.2.1) (res2 := x10.2.2.1) (res3 := x10.2.2.2.1) (res4 := x10.2.2.2.2.1) (res5 := x10.2.2.2.2.2.1) (res6 := x10.2.2.2.2.2.2.1) (res7 := x10.2.2.2.2.2.2.2.1) (res8 := x10.2.2.2.2.2.2.2.2) hc11) (fun r w' hq => ?_)
      obtain ⟨rfl, rfl⟩ := hq
      show Go mX6_best (d + 5) false 0 0 53 [some (vR 0), some (vI y1), some (vI y2), some (vI x0_), some (vI x1_), some (vI x2_), none] [vI x10.1] (wM kn ne fi se x10.2.1 x10.2.2.1 x10.2.2.2.1 x10.2.2.2.2.1 x10.2.2.2.2.2.1 x10.2.2.2.2.2.2.1 x10.2.2.2.2.2.2.2.1 x10.2.2.2.2.2.2.2.2 wa nx oT cF bg ed sF qu qd tr) Q
      refine go_istore (pc := 53) [some (vR 0), some (vI y1), some (vI y2), some (vI x0_), some (vI x1_), some (vI x2_), some (vI x10.1)] dX6_best_53 (by decide) rfl ?_
      refine go_iload (pc := 55) dX6_best_55 rfl ?_
      refine go_iload (pc := 57) dX6_best_57 rfl ?_
      refine go_icmp_ge (pc := 59) 69 dX6_best_59 (by decide) (fun h12 => ?_) (fun h12 => ?_)
      · have hs := it_t h12 hs
        refine go_iinc (pc := 69) (x2_ + (1 : Int32)) [some (vR 0), some (vI y1), some (vI y2), some (vI x0_), some (vI x1_), some (vI (x2_ + (1 : Int32))), some (vI x10.1)] dX6_best_69 rfl (iinc_1 _) (by decide) rfl ?_
        refine go_goto (pc := 72) 38 dX6_best_72 (by decide) ?_
        obtain rfl := Option.some.inj hs
        refine go_sub (lv' := [some (vR 0), some (vI y1), some (vI y2), some (vI x0_), some (vI x1_), some (vI (x2_ + (1 : Int32))), none]) ⟨rfl, ⟨rfl, ⟨rfl, ⟨rfl, ⟨rfl, ⟨rfl, trivial⟩⟩⟩⟩⟩⟩ ?_
        exact hI (x0_, x1_, x2_ + (1 : Int32), x10.2.1, x10.2.2.1, x10.2.2.2.1, x10.2.2.2.2.1, x10.2.2.2.2.2.1, x10.2.2.2.2.2.2.1, x10.2.2.2.2.2.2.2.1, x10.2.2.2.2.2.2.2.2) rfl x0_ x1_ (x2_ + (1 : Int32)) x10.2.1 x10.2.2.1 x10.2.2.2.1 x10.2.2.2.2.1 x10.2.2.2.2.2.1 x10.2.2.2.2.2.2.1 x10.2.2.2.2.2.2.2.1 x10.2.2.2.2.2.2.2.2 rfl
      · have hs := it_f h12 hs
        refine go_iload (pc := 62) dX6_best_62 rfl ?_
        refine go_istore (pc := 64) [some (vR 0), some (vI y1), some (vI y2), some (vI x0_), some (vI x10.1), some (vI x2_), some (vI x10.1)] dX6_best_64 (by decide) rfl ?_
        refine go_iload (pc := 66) dX6_best_66 rfl ?_
        refine go_istore_n (pc := 68) 3 [some (vR 0), some (vI y1), some (vI y2), some (vI x2_), some (vI x10.1), some (vI x2_), some (vI x10.1)] dX6_best_68 rfl (by decide) rfl ?_
        refine go_iinc (pc := 69) (x2_ + (1 : Int32)) [some (vR 0), some (vI y1), some (vI y2), some (vI x2_), some (vI x10.1), some (vI (x2_ + (1 : Int32))), some (vI x10.1)] dX6_best_69 rfl (iinc_1 _) (by decide) rfl ?_
        refine go_goto (pc := 72) 38 dX6_best_72 (by decide) ?_
        obtain rfl := Option.some.inj hs
        refine go_sub (lv' := [some (vR 0), some (vI y1), some (vI y2), some (vI x2_), some (vI x10.1), some (vI (x2_ + (1 : Int32))), none]) ⟨rfl, ⟨rfl, ⟨rfl, ⟨rfl, ⟨rfl, ⟨rfl, trivial⟩⟩⟩⟩⟩⟩ ?_
        exact hI (x2_, x10.1, x2_ + (1 : Int32), x10.2.1, x10.2.2.1, x10.2.2.2.1, x10.2.2.2.2.1, x10.2.2.2.2.2.1, x10.2.2.2.2.2.2.1, x10.2.2.2.2.2.2.2.1, x10.2.2.2.2.2.2.2.2) rfl x2_ x10.1 (x2_ + (1 : Int32)) x10.2.1 x10.2.2.1 x10.2.2.2.1 x10.2.2.2.2.1 x10.2.2.2.2.2.1 x10.2.2.2.2.2.2.1 x10.2.2.2.2.2.2.2.1 x10.2.2.2.2.2.2.2.2 rfl
set_option maxRecDepth 20000 in
theorem c_X6_best {d : Nat}  {a1 : Int32} {res0 : Int32} {res1 : Int32} {res2 : (Nat → Int32)} {res3 : (Nat → Int32)} {res4 : (Nat → Int64)} {res5 : (Nat → Int64)} {res6 : (Nat → Int64)} {res7 : (Nat → Int64)} {res8 : (Nat → Int64)} (hs : s_X6_best kn ne ma on ot ta po ti nu mo a1 = some (res0, res1, res2, res3, res4, res5, res6, res7, res8)) : Calls mX6_best (d + 5) false 0 0 [vR 0, vI a1] (wM kn ne fi se ma on ot ta po ti nu mo wa nx oT cF bg ed sF qu qd tr) (fun r w' => r = some (vI res0) ∧ w' = (wM kn ne fi se res1 res2 res3 res4 res5 res6 res7 res8 wa nx oT cF bg ed sF qu qd tr)) := by
  unfold s_X6_best at hs
  refine Calls.of kX6_best 5 [some (vR 0), some (vI a1), none, none, none, none, none] rfl (Nat.le_of_ble_eq_true rfl) ?_
  refine go_iload_n (pc := 0) 1 dX6_best_0 rfl rfl ?_
  obtain ⟨x1, hc2, hs⟩ := bnd hs
  refine go_callS (bc := 0) (bs := 0) (mc := 0) (ms := 0) (d := d + 4) (pc := 1) [vI a1] [] dX6_best_1 kX6_isNet mlX6_69 isX6_isNet rfl (Nat.le_of_ble_eq_true rfl) rfl (c_X6_isNet (d := d + 3) (res0 := x1) hc2) (fun r w' hq => ?_)
  obtain ⟨rfl, rfl⟩ := hq
  show Go mX6_best (d + 5) false 0 0 4 [some (vR 0), some (vI a1), none, none, none, none, none] [vI x1] (wM kn ne fi se ma on ot ta po ti nu mo wa nx oT cF bg ed sF qu qd tr) _
  refine go_if_ne (pc := 4) 10 dX6_best_4 (by decide) (fun h3 => ?_) (fun h3 => ?_)
  · have hs := it_f h3 hs
    refine go_aload_n (pc := 10) 0 dX6_best_10 rfl rfl ?_
    refine go_iload_n (pc := 11) 1 dX6_best_11 rfl rfl ?_
    obtain ⟨x4, hc5, hs⟩ := bnd hs
    refine go_callV (bc := 0) (bs := 0) (mc := 0) (ms := 0) (d := d + 4) (pc := 12) (a := 0) (ci := 6) [vI a1] [] dX6_best_12 kX6_lines mlX6_92 ivX6_lines rfl rfl rfl rfl (Nat.le_of_ble_eq_true rfl) rfl (c_X6_lines (d := d + 3) (res0 := x4) hc5) (fun r w' hq => ?_)
    obtain ⟨rfl, rfl⟩ := hq
    show Go mX6_best (d + 5) false 0 0 15 [some (vR 0), some (vI a1), none, none, none, none, none] [vI x4] (wM kn ne fi se ma on ot ta po ti nu mo wa nx oT cF bg ed sF qu qd tr) _
    refine go_istore_n (pc := 15) 2 [some (vR 0), some (vI a1), some (vI x4), none, none, none, none] dX6_best_15 rfl (by decide) rfl ?_
    refine go_iload_n (pc := 16) 2 dX6_best_16 rfl rfl ?_
    refine go_bipush (pc := 17) (9 : Int32) dX6_best_17 (by decide) ?_
    refine go_icmp_le (pc := 19) 25 dX6_best_19 (by decide) (fun h6 => ?_) (fun h6 => ?_)
    · have hs := it_t h6 hs
      refine go_iconst (pc := 25) (0 : Int32) dX6_best_25 (by decide) ?_
      refine go_istore_n (pc := 26) 3 [some (vR 0), some (vI a1), some (vI x4), some (vI (0 : Int32)), none, none, none] dX6_best_26 rfl (by decide) rfl ?_
      refine go_aload_n (pc := 27) 0 dX6_best_27 rfl rfl ?_
      refine go_iload_n (pc := 28) 1 dX6_best_28 rfl rfl ?_
      refine go_iconst (pc := 29) (0 : Int32) dX6_best_29 (by decide) ?_
      obtain ⟨x7, hc8, hs⟩ := bnd hs
      refine go_callV (bc := 0) (bs := 0) (mc := 0) (ms := 0) (d := d + 4) (pc := 30) (a := 0) (ci := 6) [vI a1, vI (0 : Int32)] [] dX6_best_30 kX6_spanOf mlX6_142 ivX6_spanOf rfl rfl rfl rfl (Nat.le_of_ble_eq_true rfl) rfl (c_X6_spanOf (d := d + 0) (res0 := x7.1) (res1 := x7.2.1) (res2 := x7.2.2.1) (res3 := x7.2.2.2.1) (res4 := x7.2.2.2.2.1) (res5 := x7.2.2.2.2.2.1) (res6 := x7.2.2.2.2.2.2.1) (res7 := x7.2.2.2.2.2.2.2.1) (res8 := x7.2.2.2.2.2.2.2.2) hc8) (fun r w' hq => ?_)
      obtain ⟨rfl, rfl⟩ := hq
      show Go mX6_best (d + 5) false 0 0 33 [some (vR 0), some (vI a1), some (vI x4), some (vI (0 : Int32)), none, none, none] [vI x7.1] (wM kn ne fi se x7.2.1 x7.2.2.1 x7.2.2.2.1 x7.2.2.2.2.1 x7.2.2.2.2.2.1 x7.2.2.2.2.2.2.1 x7.2.2.2.2.2.2.2.1 x7.2.2.2.2.2.2.2.2 wa nx oT cF bg ed sF qu qd tr) _
      refine go_istore (pc := 33) [some (vR 0), some (vI a1), some (vI x4), some (vI (0 : Int32)), some (vI x7.1), none, none] dX6_best_33 (by decide) rfl ?_
      refine go_iconst (pc := 35) (1 : Int32) dX6_best_35 (by decide) ?_
      refine go_istore (pc := 36) [some (vR 0), some (vI a1), some (vI x4), some (vI (0 : Int32)), some (vI x7.1), some (vI (1 : Int32)), none] dX6_best_36 (by decide) rfl ?_
      obtain ⟨e13, hl14, hs⟩ := bnd hs
      refine g_X6_best_38 (d := d) (0 : Int32) x7.1 (1 : Int32) x7.2.1 x7.2.2.1 x7.2.2.2.1 x7.2.2.2.2.1 x7.2.2.2.2.2.1 x7.2.2.2.2.2.2.1 x7.2.2.2.2.2.2.2.1 x7.2.2.2.2.2.2.2.2 e13 hl14 ?_
      intro v15 v16 v17 v18 v19 v20 v21 v22 v23 hv24
      subst hv24
      try dsimp only at hs
      refine go_iload_n (pc := 75) 3 dX6_best_75 rfl rfl ?_
      cases hs
      exact go_ireturn (st := []) (pc := 76) dX6_best_76 rfl (vp_nar_int _) (fun h => by cases h) ⟨rfl, rfl⟩
    · have hs := it_f h6 hs
      refine go_bipush (pc := 22) (-3 : Int32) dX6_best_22 (by decide) ?_
      cases hs
      exact go_ireturn (st := []) (pc := 24) dX6_best_24 rfl (vp_nar_int _) (fun h => by cases h) ⟨rfl, rfl⟩
  · have hs := it_t h3 hs
    refine go_bipush (pc := 7) (-2 : Int32) dX6_best_7 (by decide) ?_
    cases hs
    exact go_ireturn (st := []) (pc := 9) dX6_best_9 rfl (vp_nar_int _) (fun h => by cases h) ⟨rfl, rfl⟩
end
