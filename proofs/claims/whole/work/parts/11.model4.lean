section
variable {kn : (Nat → Int32)} {ne : (Nat → Int32)} {fi : (Nat → Int32)} {se : (Nat → Int32)} {ma : Int32} {on : (Nat → Int32)} {ot : (Nat → Int32)} {ta : (Nat → Int64)} {po : (Nat → Int64)} {ti : (Nat → Int64)} {nu : (Nat → Int64)} {mo : (Nat → Int64)} {wa : (Nat → Int64)} {nx : (Nat → Int64)} {oT : (Nat → Int32)} {cF : (Nat → Int32)} {bg : Int32} {ed : Int32} {sF : (Nat → Int32)} {qu : (Nat → Int32)} {qd : Int32} {tr : (Nat → Int32)}
noncomputable def b_X6_second_19 (kn : (Nat → Int32)) (nu : (Nat → Int64)) (y1 : Int32) (x : Int32 × (Nat → Int64)) : Option ((Int32 × (Nat → Int64)) ⊕ (Int32 × (Nat → Int64))) := chk y1 4 ((s_X6_aboveOf nu x.2 (kn y1.toNatClampNeg) x.1).bind (fun x7 => if x7.1 ≤ (1 : Int32) then (some (Sum.inr (x.1, x7.2))) else (some (Sum.inl (x.1 + (1 : Int32), x7.2)))))
noncomputable def s_X6_second (kn : (Nat → Int32)) (ne : (Nat → Int32)) (ma : Int32) (on : (Nat → Int32)) (ot : (Nat → Int32)) (ta : (Nat → Int64)) (po : (Nat → Int64)) (ti : (Nat → Int64)) (nu : (Nat → Int64)) (mo : (Nat → Int64)) (a1 : Int32) : Option (Int32 × Int32 × (Nat → Int32) × (Nat → Int32) × (Nat → Int64) × (Nat → Int64) × (Nat → Int64) × (Nat → Int64) × (Nat → Int64)) := (s_X6_isNet a1).bind (fun x1 => if x1 = 0 then (some ((-2 : Int32), ma, on, ot, ta, po, ti, nu, mo)) else ((s_X6_layOwn kn ne ma on ot ta po ti nu a1 (0 : Int32)).bind (fun x4 => (loop (b_X6_second_19 kn x4.2.2.2.2.2.2 a1) ((-20 : Int32), mo)).bind (fun e10 => some (e10.1, x4.1, x4.2.1, x4.2.2.1, x4.2.2.2.1, x4.2.2.2.2.1, x4.2.2.2.2.2.1, x4.2.2.2.2.2.2, e10.2)))))
set_option maxRecDepth 20000 in
theorem g_X6_second_19 {d : Nat} {Q : Option AV → List AC → Prop} {y1 : Int32} (x : Int32 × (Nat → Int64)) (r : Int32 × (Nat → Int64)) (hl : loop (b_X6_second_19 kn nu y1) x = some r) (hk : (fun r : Int32 × (Nat → Int64) => Go mX6_second (d + 4) false 0 0 40 [none, none, some (vI r.1)] [] (wM kn ne fi se ma on ot ta po ti nu r.2 wa nx oT cF bg ed sF qu qd tr) Q) r) : (fun x : Int32 × (Nat → Int64) => Go mX6_second (d + 4) false 0 0 19 [some (vR 0), some (vI y1), some (vI x.1)] [] (wM kn ne fi se ma on ot ta po ti nu x.2 wa nx oT cF bg ed sF qu qd tr) Q) x := by
  refine loop_go (P := fun x : Int32 × (Nat → Int64) => Go mX6_second (d + 4) false 0 0 19 [some (vR 0), some (vI y1), some (vI x.1)] [] (wM kn ne fi se ma on ot ta po ti nu x.2 wa nx oT cF bg ed sF qu qd tr) Q) (K := fun r : Int32 × (Nat → Int64) => Go mX6_second (d + 4) false 0 0 40 [none, none, some (vI r.1)] [] (wM kn ne fi se ma on ot ta po ti nu r.2 wa nx oT cF bg ed sF qu qd tr) Q) ?_ x r hl hk
  · intro x y hs hI hE
    unfold b_X6_second_19 at hs
    show Go mX6_second (d + 4) false 0 0 19 [some (vR 0), some (vI y1), some (vI x.1)] [] (wM kn ne fi se ma on ot ta po ti nu x.2 wa nx oT cF bg ed sF qu qd tr) Q
    refine go_aload_n (pc := 19) 0 dX6_second_19 rfl rfl ?_
    refine go_aload_n (pc := 20) 0 dX6_second_20 rfl rfl ?_
    refine go_getfield (pc := 21) (v := vR 1) 0 6 0 dX6_second_21 flX6_7 rfl rfl ?_
    refine go_iload_n (pc := 24) 1 dX6_second_24 rfl rfl ?_
    obtain ⟨hi6, hs⟩ := chk_t hs
    refine go_iaload (pc := 25) 1 dX6_second_25 rfl hi6 ?_
    refine go_iload_n (pc := 26) 2 dX6_second_26 rfl rfl ?_
    obtain ⟨x7, hc8, hs⟩ := bnd hs
    refine go_callV (bc := 0) (bs := 0) (mc := 0) (ms := 0) (d := d + 3) (pc := 27) (a := 0) (ci := 6) [vI (kn y1.toNatClampNeg), vI x.1] [] dX6_second_27 kX6_aboveOf mlX6_136 ivX6_aboveOf rfl rfl rfl rfl (Nat.le_of_ble_eq_true rfl) rfl (c_X6_aboveOf (d := d + 2) hc8) (fun r w' hq => ?_)
    obtain ⟨rfl, rfl⟩ := hq
    show Go mX6_second (d + 4) false 0 0 30 [some (vR 0), some (vI y1), some (vI x.1)] [vI x7.1] (wM kn ne fi se ma on ot ta po ti nu x7.2 wa nx oT cF bg ed sF qu qd tr) Q
    refine go_iconst (pc := 30) (1 : Int32) dX6_second_30 (by decide) ?_
    refine go_icmp_le (pc := 31) 40 dX6_second_31 (by decide) (fun h9 => ?_) (fun h9 => ?_)
    · have hs := it_t h9 hs
      obtain rfl := Option.some.inj hs
      refine go_sub (lv' := [none, none, some (vI x.1)]) ⟨rfl, trivial⟩ ?_
      exact hE _ rfl
    · have hs := it_f h9 hs
      refine go_iinc (pc := 34) (x.1 + (1 : Int32)) [some (vR 0), some (vI y1), some (vI (x.1 + (1 : Int32)))] dX6_second_34 rfl rfl (by decide) rfl ?_
      refine go_goto (pc := 37) 19 dX6_second_37 (by decide) ?_
      obtain rfl := Option.some.inj hs
      exact hI _ rfl
set_option maxRecDepth 20000 in
theorem c_X6_second {d : Nat}  {a1 : Int32} {res : Int32 × Int32 × (Nat → Int32) × (Nat → Int32) × (Nat → Int64) × (Nat → Int64) × (Nat → Int64) × (Nat → Int64) × (Nat → Int64)} (hs : s_X6_second kn ne ma on ot ta po ti nu mo a1 = some res) : Calls mX6_second (d + 4) false 0 0 [vR 0, vI a1] (wM kn ne fi se ma on ot ta po ti nu mo wa nx oT cF bg ed sF qu qd tr) (fun r w' => r = some (vI res.1) ∧ w' = (wM kn ne fi se res.2.1 res.2.2.1 res.2.2.2.1 res.2.2.2.2.1 res.2.2.2.2.2.1 res.2.2.2.2.2.2.1 res.2.2.2.2.2.2.2.1 res.2.2.2.2.2.2.2.2 wa nx oT cF bg ed sF qu qd tr)) := by
  unfold s_X6_second at hs
  refine Calls.of kX6_second 1 [some (vR 0), some (vI a1), none] rfl (Nat.le_of_ble_eq_true rfl) ?_
  refine go_iload_n (pc := 0) 1 dX6_second_0 rfl rfl ?_
  obtain ⟨x1, hc2, hs⟩ := bnd hs
  refine go_callS (bc := 0) (bs := 0) (mc := 0) (ms := 0) (d := d + 3) (pc := 1) [vI a1] [] dX6_second_1 kX6_isNet mlX6_69 isX6_isNet rfl (Nat.le_of_ble_eq_true rfl) rfl (c_X6_isNet (d := d + 2) hc2) (fun r w' hq => ?_)
  obtain ⟨rfl, rfl⟩ := hq
  show Go mX6_second (d + 4) false 0 0 4 [some (vR 0), some (vI a1), none] [vI x1] (wM kn ne fi se ma on ot ta po ti nu mo wa nx oT cF bg ed sF qu qd tr) _
  refine go_if_ne (pc := 4) 10 dX6_second_4 (by decide) (fun h3 => ?_) (fun h3 => ?_)
  · have hs := it_f h3 hs
    refine go_aload_n (pc := 10) 0 dX6_second_10 rfl rfl ?_
    refine go_iload_n (pc := 11) 1 dX6_second_11 rfl rfl ?_
    refine go_iconst (pc := 12) (0 : Int32) dX6_second_12 (by decide) ?_
    obtain ⟨x4, hc5, hs⟩ := bnd hs
    refine go_callV (bc := 0) (bs := 0) (mc := 0) (ms := 0) (d := d + 3) (pc := 13) (a := 0) (ci := 6) [vI a1, vI (0 : Int32)] [] dX6_second_13 kX6_layOwn mlX6_133 ivX6_layOwn rfl rfl rfl rfl (Nat.le_of_ble_eq_true rfl) rfl (c_X6_layOwn (d := d + 0) hc5) (fun r w' hq => ?_)
    obtain ⟨rfl, rfl⟩ := hq
    show Go mX6_second (d + 4) false 0 0 16 [some (vR 0), some (vI a1), none] [] (wM kn ne fi se x4.1 x4.2.1 x4.2.2.1 x4.2.2.2.1 x4.2.2.2.2.1 x4.2.2.2.2.2.1 x4.2.2.2.2.2.2 mo wa nx oT cF bg ed sF qu qd tr) _
    refine go_bipush (pc := 16) (-20 : Int32) dX6_second_16 (by decide) ?_
    refine go_istore_n (pc := 18) 2 [some (vR 0), some (vI a1), some (vI (-20 : Int32))] dX6_second_18 rfl (by decide) rfl ?_
    obtain ⟨e10, hl11, hs⟩ := bnd hs
    refine g_X6_second_19 (d := d) _ e10 hl11 ?_
    refine go_iload_n (pc := 40) 2 dX6_second_40 rfl rfl ?_
    obtain rfl := Option.some.inj hs
    exact go_ireturn (st := []) (pc := 41) dX6_second_41 rfl (vp_nar_int _) (fun h => by cases h) ⟨rfl, rfl⟩
  · have hs := it_t h3 hs
    refine go_bipush (pc := 7) (-2 : Int32) dX6_second_7 (by decide) ?_
    obtain rfl := Option.some.inj hs
    exact go_ireturn (st := []) (pc := 9) dX6_second_9 rfl (vp_nar_int _) (fun h => by cases h) ⟨rfl, rfl⟩
noncomputable def b_X6_spanOf_16 (nu : (Nat → Int64)) (y3 : Int32) (x : Int32 × (Nat → Int64)) : Option ((Int32 × (Nat → Int64)) ⊕ (Int32 × (Nat → Int64))) := (s_X6_aboveOf nu x.2 y3 x.1).bind (fun x4 => if 0 < x4.1 then (some (Sum.inl (x.1 + (1 : Int32), x4.2))) else ((s_X6_aboveOf nu x4.2 y3 (-x.1)).bind (fun x7 => (s_X6_justOf nu x7.2 y3 (-x.1)).bind (fun x9 => if y3 ≤ (x7.1 + x9.1) then (some (Sum.inr (x.1, x9.2))) else (some (Sum.inl (x.1 + (1 : Int32), x9.2)))))))
noncomputable def s_X6_spanOf (kn : (Nat → Int32)) (ne : (Nat → Int32)) (ma : Int32) (on : (Nat → Int32)) (ot : (Nat → Int32)) (ta : (Nat → Int64)) (po : (Nat → Int64)) (ti : (Nat → Int64)) (nu : (Nat → Int64)) (mo : (Nat → Int64)) (a1 : Int32) (a2 : Int32) : Option (Int32 × Int32 × (Nat → Int32) × (Nat → Int32) × (Nat → Int64) × (Nat → Int64) × (Nat → Int64) × (Nat → Int64) × (Nat → Int64)) := (s_X6_layOwn kn ne ma on ot ta po ti nu a1 a2).bind (fun x1 => chk a1 4 ((loop (b_X6_spanOf_16 x1.2.2.2.2.2.2 (kn a1.toNatClampNeg)) ((0 : Int32), mo)).bind (fun e12 => some (e12.1, x1.1, x1.2.1, x1.2.2.1, x1.2.2.2.1, x1.2.2.2.2.1, x1.2.2.2.2.2.1, x1.2.2.2.2.2.2, e12.2))))
set_option maxRecDepth 20000 in
theorem g_X6_spanOf_16 {d : Nat} {Q : Option AV → List AC → Prop} {y3 : Int32} (x : Int32 × (Nat → Int64)) (r : Int32 × (Nat → Int64)) (hl : loop (b_X6_spanOf_16 nu y3) x = some r) (hk : (fun r : Int32 × (Nat → Int64) => Go mX6_spanOf (d + 4) false 0 0 53 [none, none, none, none, some (vI r.1)] [] (wM kn ne fi se ma on ot ta po ti nu r.2 wa nx oT cF bg ed sF qu qd tr) Q) r) : (fun x : Int32 × (Nat → Int64) => Go mX6_spanOf (d + 4) false 0 0 16 [some (vR 0), none, none, some (vI y3), some (vI x.1)] [] (wM kn ne fi se ma on ot ta po ti nu x.2 wa nx oT cF bg ed sF qu qd tr) Q) x := by
  refine loop_go (P := fun x : Int32 × (Nat → Int64) => Go mX6_spanOf (d + 4) false 0 0 16 [some (vR 0), none, none, some (vI y3), some (vI x.1)] [] (wM kn ne fi se ma on ot ta po ti nu x.2 wa nx oT cF bg ed sF qu qd tr) Q) (K := fun r : Int32 × (Nat → Int64) => Go mX6_spanOf (d + 4) false 0 0 53 [none, none, none, none, some (vI r.1)] [] (wM kn ne fi se ma on ot ta po ti nu r.2 wa nx oT cF bg ed sF qu qd tr) Q) ?_ x r hl hk
  · intro x y hs hI hE
    unfold b_X6_spanOf_16 at hs
    show Go mX6_spanOf (d + 4) false 0 0 16 [some (vR 0), none, none, some (vI y3), some (vI x.1)] [] (wM kn ne fi se ma on ot ta po ti nu x.2 wa nx oT cF bg ed sF qu qd tr) Q
    refine go_aload_n (pc := 16) 0 dX6_spanOf_16 rfl rfl ?_
    refine go_iload_n (pc := 17) 3 dX6_spanOf_17 rfl rfl ?_
    refine go_iload (pc := 18) dX6_spanOf_18 rfl ?_
    obtain ⟨x4, hc5, hs⟩ := bnd hs
    refine go_callV (bc := 0) (bs := 0) (mc := 0) (ms := 0) (d := d + 3) (pc := 20) (a := 0) (ci := 6) [vI y3, vI x.1] [] dX6_spanOf_20 kX6_aboveOf mlX6_136 ivX6_aboveOf rfl rfl rfl rfl (Nat.le_of_ble_eq_true rfl) rfl (c_X6_aboveOf (d := d + 2) hc5) (fun r w' hq => ?_)
    obtain ⟨rfl, rfl⟩ := hq
    show Go mX6_spanOf (d + 4) false 0 0 23 [some (vR 0), none, none, some (vI y3), some (vI x.1)] [vI x4.1] (wM kn ne fi se ma on ot ta po ti nu x4.2 wa nx oT cF bg ed sF qu qd tr) Q
    refine go_if_gt (pc := 23) 47 dX6_spanOf_23 (by decide) (fun h6 => ?_) (fun h6 => ?_)
    · have hs := it_t h6 hs
      refine go_iinc (pc := 47) (x.1 + (1 : Int32)) [some (vR 0), none, none, some (vI y3), some (vI (x.1 + (1 : Int32)))] dX6_spanOf_47 rfl rfl (by decide) rfl ?_
      refine go_goto (pc := 50) 16 dX6_spanOf_50 (by decide) ?_
      obtain rfl := Option.some.inj hs
      exact hI _ rfl
    · have hs := it_f h6 hs
      refine go_aload_n (pc := 26) 0 dX6_spanOf_26 rfl rfl ?_
      refine go_iload_n (pc := 27) 3 dX6_spanOf_27 rfl rfl ?_
      refine go_iload (pc := 28) dX6_spanOf_28 rfl ?_
      refine go_ineg (pc := 30) dX6_spanOf_30 ?_
      obtain ⟨x7, hc8, hs⟩ := bnd hs
      refine go_callV (bc := 0) (bs := 0) (mc := 0) (ms := 0) (d := d + 3) (pc := 31) (a := 0) (ci := 6) [vI y3, vI (-x.1)] [] dX6_spanOf_31 kX6_aboveOf mlX6_136 ivX6_aboveOf rfl rfl rfl rfl (Nat.le_of_ble_eq_true rfl) rfl (c_X6_aboveOf (d := d + 2) hc8) (fun r w' hq => ?_)
      obtain ⟨rfl, rfl⟩ := hq
      show Go mX6_spanOf (d + 4) false 0 0 34 [some (vR 0), none, none, some (vI y3), some (vI x.1)] [vI x7.1] (wM kn ne fi se ma on ot ta po ti nu x7.2 wa nx oT cF bg ed sF qu qd tr) Q
      refine go_aload_n (pc := 34) 0 dX6_spanOf_34 rfl rfl ?_
      refine go_iload_n (pc := 35) 3 dX6_spanOf_35 rfl rfl ?_
      refine go_iload (pc := 36) dX6_spanOf_36 rfl ?_
      refine go_ineg (pc := 38) dX6_spanOf_38 ?_
      obtain ⟨x9, hc10, hs⟩ := bnd hs
      refine go_callV (bc := 0) (bs := 0) (mc := 0) (ms := 0) (d := d + 3) (pc := 39) (a := 0) (ci := 6) [vI y3, vI (-x.1)] [vI x7.1] dX6_spanOf_39 kX6_justOf mlX6_139 ivX6_justOf rfl rfl rfl rfl (Nat.le_of_ble_eq_true rfl) rfl (c_X6_justOf (d := d + 2) hc10) (fun r w' hq => ?_)
      obtain ⟨rfl, rfl⟩ := hq
      show Go mX6_spanOf (d + 4) false 0 0 42 [some (vR 0), none, none, some (vI y3), some (vI x.1)] [vI x9.1, vI x7.1] (wM kn ne fi se ma on ot ta po ti nu x9.2 wa nx oT cF bg ed sF qu qd tr) Q
      refine go_iadd (pc := 42) dX6_spanOf_42 ?_
      refine go_iload_n (pc := 43) 3 dX6_spanOf_43 rfl rfl ?_
      refine go_icmp_ge (pc := 44) 53 dX6_spanOf_44 (by decide) (fun h11 => ?_) (fun h11 => ?_)
      · have hs := it_t h11 hs
        obtain rfl := Option.some.inj hs
        refine go_sub (lv' := [none, none, none, none, some (vI x.1)]) ⟨rfl, trivial⟩ ?_
        exact hE _ rfl
      · have hs := it_f h11 hs
        refine go_iinc (pc := 47) (x.1 + (1 : Int32)) [some (vR 0), none, none, some (vI y3), some (vI (x.1 + (1 : Int32)))] dX6_spanOf_47 rfl rfl (by decide) rfl ?_
        refine go_goto (pc := 50) 16 dX6_spanOf_50 (by decide) ?_
        obtain rfl := Option.some.inj hs
        exact hI _ rfl
set_option maxRecDepth 20000 in
theorem c_X6_spanOf {d : Nat}  {a1 : Int32} {a2 : Int32} {res : Int32 × Int32 × (Nat → Int32) × (Nat → Int32) × (Nat → Int64) × (Nat → Int64) × (Nat → Int64) × (Nat → Int64) × (Nat → Int64)} (hs : s_X6_spanOf kn ne ma on ot ta po ti nu mo a1 a2 = some res) : Calls mX6_spanOf (d + 4) false 0 0 [vR 0, vI a1, vI a2] (wM kn ne fi se ma on ot ta po ti nu mo wa nx oT cF bg ed sF qu qd tr) (fun r w' => r = some (vI res.1) ∧ w' = (wM kn ne fi se res.2.1 res.2.2.1 res.2.2.2.1 res.2.2.2.2.1 res.2.2.2.2.2.1 res.2.2.2.2.2.2.1 res.2.2.2.2.2.2.2.1 res.2.2.2.2.2.2.2.2 wa nx oT cF bg ed sF qu qd tr)) := by
  unfold s_X6_spanOf at hs
  refine Calls.of kX6_spanOf 2 [some (vR 0), some (vI a1), some (vI a2), none, none] rfl (Nat.le_of_ble_eq_true rfl) ?_
  refine go_aload_n (pc := 0) 0 dX6_spanOf_0 rfl rfl ?_
  refine go_iload_n (pc := 1) 1 dX6_spanOf_1 rfl rfl ?_
  refine go_iload_n (pc := 2) 2 dX6_spanOf_2 rfl rfl ?_
  obtain ⟨x1, hc2, hs⟩ := bnd hs
  refine go_callV (bc := 0) (bs := 0) (mc := 0) (ms := 0) (d := d + 3) (pc := 3) (a := 0) (ci := 6) [vI a1, vI a2] [] dX6_spanOf_3 kX6_layOwn mlX6_133 ivX6_layOwn rfl rfl rfl rfl (Nat.le_of_ble_eq_true rfl) rfl (c_X6_layOwn (d := d + 0) hc2) (fun r w' hq => ?_)
  obtain ⟨rfl, rfl⟩ := hq
  show Go mX6_spanOf (d + 4) false 0 0 6 [some (vR 0), some (vI a1), some (vI a2), none, none] [] (wM kn ne fi se x1.1 x1.2.1 x1.2.2.1 x1.2.2.2.1 x1.2.2.2.2.1 x1.2.2.2.2.2.1 x1.2.2.2.2.2.2 mo wa nx oT cF bg ed sF qu qd tr) _
  refine go_aload_n (pc := 6) 0 dX6_spanOf_6 rfl rfl ?_
  refine go_getfield (pc := 7) (v := vR 1) 0 6 0 dX6_spanOf_7 flX6_7 rfl rfl ?_
  refine go_iload_n (pc := 10) 1 dX6_spanOf_10 rfl rfl ?_
  obtain ⟨hi3, hs⟩ := chk_t hs
  refine go_iaload (pc := 11) 1 dX6_spanOf_11 rfl hi3 ?_
  refine go_istore_n (pc := 12) 3 [some (vR 0), some (vI a1), some (vI a2), some (vI (kn a1.toNatClampNeg)), none] dX6_spanOf_12 rfl (by decide) rfl ?_
  refine go_iconst (pc := 13) (0 : Int32) dX6_spanOf_13 (by decide) ?_
  refine go_istore (pc := 14) [some (vR 0), some (vI a1), some (vI a2), some (vI (kn a1.toNatClampNeg)), some (vI (0 : Int32))] dX6_spanOf_14 (by decide) rfl ?_
  refine go_sub (lv' := [some (vR 0), none, none, some (vI (kn a1.toNatClampNeg)), some (vI (0 : Int32))]) ⟨rfl, ⟨rfl, ⟨rfl, trivial⟩⟩⟩ ?_
  obtain ⟨e12, hl13, hs⟩ := bnd hs
  refine g_X6_spanOf_16 (d := d) _ e12 hl13 ?_
  refine go_iload (pc := 53) dX6_spanOf_53 rfl ?_
  obtain rfl := Option.some.inj hs
  exact go_ireturn (st := []) (pc := 55) dX6_spanOf_55 rfl (vp_nar_int _) (fun h => by cases h) ⟨rfl, rfl⟩
noncomputable def s_X6_span (kn : (Nat → Int32)) (ne : (Nat → Int32)) (ma : Int32) (on : (Nat → Int32)) (ot : (Nat → Int32)) (ta : (Nat → Int64)) (po : (Nat → Int64)) (ti : (Nat → Int64)) (nu : (Nat → Int64)) (mo : (Nat → Int64)) (a1 : Int32) (a2 : Int32) : Option (Int32 × Int32 × (Nat → Int32) × (Nat → Int32) × (Nat → Int64) × (Nat → Int64) × (Nat → Int64) × (Nat → Int64) × (Nat → Int64)) := (s_X6_isNet a1).bind (fun x1 => if x1 = 0 then (some ((-2 : Int32), ma, on, ot, ta, po, ti, nu, mo)) else (if a2 < 0 then (some ((-2 : Int32), ma, on, ot, ta, po, ti, nu, mo)) else ((s_X6_spanOf kn ne ma on ot ta po ti nu mo a1 a2).bind (fun x5 => some (x5.1, x5.2.1, x5.2.2.1, x5.2.2.2.1, x5.2.2.2.2.1, x5.2.2.2.2.2.1, x5.2.2.2.2.2.2.1, x5.2.2.2.2.2.2.2.1, x5.2.2.2.2.2.2.2.2)))))
set_option maxRecDepth 20000 in
theorem c_X6_span {d : Nat}  {a1 : Int32} {a2 : Int32} {res : Int32 × Int32 × (Nat → Int32) × (Nat → Int32) × (Nat → Int64) × (Nat → Int64) × (Nat → Int64) × (Nat → Int64) × (Nat → Int64)} (hs : s_X6_span kn ne ma on ot ta po ti nu mo a1 a2 = some res) : Calls mX6_span (d + 5) false 0 0 [vR 0, vI a1, vI a2] (wM kn ne fi se ma on ot ta po ti nu mo wa nx oT cF bg ed sF qu qd tr) (fun r w' => r = some (vI res.1) ∧ w' = (wM kn ne fi se res.2.1 res.2.2.1 res.2.2.2.1 res.2.2.2.2.1 res.2.2.2.2.2.1 res.2.2.2.2.2.2.1 res.2.2.2.2.2.2.2.1 res.2.2.2.2.2.2.2.2 wa nx oT cF bg ed sF qu qd tr)) := by
  unfold s_X6_span at hs
  refine Calls.of kX6_span 0 [some (vR 0), some (vI a1), some (vI a2)] rfl (Nat.le_of_ble_eq_true rfl) ?_
  refine go_iload_n (pc := 0) 1 dX6_span_0 rfl rfl ?_
  obtain ⟨x1, hc2, hs⟩ := bnd hs
  refine go_callS (bc := 0) (bs := 0) (mc := 0) (ms := 0) (d := d + 4) (pc := 1) [vI a1] [] dX6_span_1 kX6_isNet mlX6_69 isX6_isNet rfl (Nat.le_of_ble_eq_true rfl) rfl (c_X6_isNet (d := d + 3) hc2) (fun r w' hq => ?_)
  obtain ⟨rfl, rfl⟩ := hq
  show Go mX6_span (d + 5) false 0 0 4 [some (vR 0), some (vI a1), some (vI a2)] [vI x1] (wM kn ne fi se ma on ot ta po ti nu mo wa nx oT cF bg ed sF qu qd tr) _
  refine go_if_eq (pc := 4) 20 dX6_span_4 (by decide) (fun h3 => ?_) (fun h3 => ?_)
  · have hs := it_t h3 hs
    refine go_bipush (pc := 20) (-2 : Int32) dX6_span_20 (by decide) ?_
    obtain rfl := Option.some.inj hs
    exact go_ireturn (st := []) (pc := 22) dX6_span_22 rfl (vp_nar_int _) (fun h => by cases h) ⟨rfl, rfl⟩
  · have hs := it_f h3 hs
    refine go_iload_n (pc := 7) 2 dX6_span_7 rfl rfl ?_
    refine go_if_lt (pc := 8) 20 dX6_span_8 (by decide) (fun h4 => ?_) (fun h4 => ?_)
    · have hs := it_t h4 hs
      refine go_bipush (pc := 20) (-2 : Int32) dX6_span_20 (by decide) ?_
      obtain rfl := Option.some.inj hs
      exact go_ireturn (st := []) (pc := 22) dX6_span_22 rfl (vp_nar_int _) (fun h => by cases h) ⟨rfl, rfl⟩
    · have hs := it_f h4 hs
      refine go_aload_n (pc := 11) 0 dX6_span_11 rfl rfl ?_
      refine go_iload_n (pc := 12) 1 dX6_span_12 rfl rfl ?_
      refine go_iload_n (pc := 13) 2 dX6_span_13 rfl rfl ?_
      obtain ⟨x5, hc6, hs⟩ := bnd hs
      refine go_callV (bc := 0) (bs := 0) (mc := 0) (ms := 0) (d := d + 4) (pc := 14) (a := 0) (ci := 6) [vI a1, vI a2] [] dX6_span_14 kX6_spanOf mlX6_142 ivX6_spanOf rfl rfl rfl rfl (Nat.le_of_ble_eq_true rfl) rfl (c_X6_spanOf (d := d + 0) hc6) (fun r w' hq => ?_)
      obtain ⟨rfl, rfl⟩ := hq
      show Go mX6_span (d + 5) false 0 0 17 [some (vR 0), some (vI a1), some (vI a2)] [vI x5.1] (wM kn ne fi se x5.2.1 x5.2.2.1 x5.2.2.2.1 x5.2.2.2.2.1 x5.2.2.2.2.2.1 x5.2.2.2.2.2.2.1 x5.2.2.2.2.2.2.2.1 x5.2.2.2.2.2.2.2.2 wa nx oT cF bg ed sF qu qd tr) _
      refine go_goto (pc := 17) 22 dX6_span_17 (by decide) ?_
      obtain rfl := Option.some.inj hs
      exact go_ireturn (st := []) (pc := 22) dX6_span_22 rfl (vp_nar_int _) (fun h => by cases h) ⟨rfl, rfl⟩
noncomputable def b_X6_best_38 (kn : (Nat → Int32)) (ne : (Nat → Int32)) (y1 : Int32) (y2 : Int32) (x : Int32 × Int32 × Int32 × Int32 × (Nat → Int32) × (Nat → Int32) × (Nat → Int64) × (Nat → Int64) × (Nat → Int64) × (Nat → Int64) × (Nat → Int64)) : Option ((Int32 × Int32 × Int32 × Int32 × (Nat → Int32) × (Nat → Int32) × (Nat → Int64) × (Nat → Int64) × (Nat → Int64) × (Nat → Int64) × (Nat → Int64)) ⊕ (Int32 × Int32 × (Nat → Int32) × (Nat → Int32) × (Nat → Int64) × (Nat → Int64) × (Nat → Int64) × (Nat → Int64) × (Nat → Int64))) := if ((1 : Int32) <<< (y2 &&& 31)) ≤ x.2.2.1 then (some (Sum.inr (x.1, x.2.2.2.1, x.2.2.2.2.1, x.2.2.2.2.2.1, x.2.2.2.2.2.2.1, x.2.2.2.2.2.2.2.1, x.2.2.2.2.2.2.2.2.1, x.2.2.2.2.2.2.2.2.2.1, x.2.2.2.2.2.2.2.2.2.2))) else ((s_X6_spanOf kn ne x.2.2.2.1 x.2.2.2.2.1 x.2.2.2.2.2.1 x.2.2.2.2.2.2.1 x.2.2.2.2.2.2.2.1 x.2.2.2.2.2.2.2.2.1 x.2.2.2.2.2.2.2.2.2.1 x.2.2.2.2.2.2.2.2.2.2 y1 x.2.2.1).bind (fun x10 => if x.2.1 ≤ x10.1 then (some (Sum.inl (x.1, x.2.1, x.2.2.1 + (1 : Int32), x10.2.1, x10.2.2.1, x10.2.2.2.1, x10.2.2.2.2.1, x10.2.2.2.2.2.1, x10.2.2.2.2.2.2.1, x10.2.2.2.2.2.2.2.1, x10.2.2.2.2.2.2.2.2))) else (some (Sum.inl (x.2.2.1, x10.1, x.2.2.1 + (1 : Int32), x10.2.1, x10.2.2.1, x10.2.2.2.1, x10.2.2.2.2.1, x10.2.2.2.2.2.1, x10.2.2.2.2.2.2.1, x10.2.2.2.2.2.2.2.1, x10.2.2.2.2.2.2.2.2)))))
noncomputable def s_X6_best (kn : (Nat → Int32)) (ne : (Nat → Int32)) (ma : Int32) (on : (Nat → Int32)) (ot : (Nat → Int32)) (ta : (Nat → Int64)) (po : (Nat → Int64)) (ti : (Nat → Int64)) (nu : (Nat → Int64)) (mo : (Nat → Int64)) (a1 : Int32) : Option (Int32 × Int32 × (Nat → Int32) × (Nat → Int32) × (Nat → Int64) × (Nat → Int64) × (Nat → Int64) × (Nat → Int64) × (Nat → Int64)) := (s_X6_isNet a1).bind (fun x1 => if x1 = 0 then (some ((-2 : Int32), ma, on, ot, ta, po, ti, nu, mo)) else ((s_X6_lines kn ne a1).bind (fun x4 => if x4 ≤ (9 : Int32) then ((s_X6_spanOf kn ne ma on ot ta po ti nu mo a1 (0 : Int32)).bind (fun x7 => (loop (b_X6_best_38 kn ne a1 x4) ((0 : Int32), x7.1, (1 : Int32), x7.2.1, x7.2.2.1, x7.2.2.2.1, x7.2.2.2.2.1, x7.2.2.2.2.2.1, x7.2.2.2.2.2.2.1, x7.2.2.2.2.2.2.2.1, x7.2.2.2.2.2.2.2.2)).bind (fun e13 => some (e13.1, e13.2.1, e13.2.2.1, e13.2.2.2.1, e13.2.2.2.2.1, e13.2.2.2.2.2.1, e13.2.2.2.2.2.2.1, e13.2.2.2.2.2.2.2.1, e13.2.2.2.2.2.2.2.2)))) else (some ((-3 : Int32), ma, on, ot, ta, po, ti, nu, mo)))))
set_option maxRecDepth 20000 in
theorem g_X6_best_38 {d : Nat} {Q : Option AV → List AC → Prop} {y1 : Int32} {y2 : Int32} (x : Int32 × Int32 × Int32 × Int32 × (Nat → Int32) × (Nat → Int32) × (Nat → Int64) × (Nat → Int64) × (Nat → Int64) × (Nat → Int64) × (Nat → Int64)) (r : Int32 × Int32 × (Nat → Int32) × (Nat → Int32) × (Nat → Int64) × (Nat → Int64) × (Nat → Int64) × (Nat → Int64) × (Nat → Int64)) (hl : loop (b_X6_best_38 kn ne y1 y2) x = some r) (hk : (fun r : Int32 × Int32 × (Nat → Int32) × (Nat → Int32) × (Nat → Int64) × (Nat → Int64) × (Nat → Int64) × (Nat → Int64) × (Nat → Int64) => Go mX6_best (d + 5) false 0 0 75 [none, none, none, some (vI r.1), none, none, none] [] (wM kn ne fi se r.2.1 r.2.2.1 r.2.2.2.1 r.2.2.2.2.1 r.2.2.2.2.2.1 r.2.2.2.2.2.2.1 r.2.2.2.2.2.2.2.1 r.2.2.2.2.2.2.2.2 wa nx oT cF bg ed sF qu qd tr) Q) r) : (fun x : Int32 × Int32 × Int32 × Int32 × (Nat → Int32) × (Nat → Int32) × (Nat → Int64) × (Nat → Int64) × (Nat → Int64) × (Nat → Int64) × (Nat → Int64) => Go mX6_best (d + 5) false 0 0 38 [some (vR 0), some (vI y1), some (vI y2), some (vI x.1), some (vI x.2.1), some (vI x.2.2.1), none] [] (wM kn ne fi se x.2.2.2.1 x.2.2.2.2.1 x.2.2.2.2.2.1 x.2.2.2.2.2.2.1 x.2.2.2.2.2.2.2.1 x.2.2.2.2.2.2.2.2.1 x.2.2.2.2.2.2.2.2.2.1 x.2.2.2.2.2.2.2.2.2.2 wa nx oT cF bg ed sF qu qd tr) Q) x := by
  refine loop_go (P := fun x : Int32 × Int32 × Int32 × Int32 × (Nat → Int32) × (Nat → Int32) × (Nat → Int64) × (Nat → Int64) × (Nat → Int64) × (Nat → Int64) × (Nat → Int64) => Go mX6_best (d + 5) false 0 0 38 [some (vR 0), some (vI y1), some (vI y2), some (vI x.1), some (vI x.2.1), some (vI x.2.2.1), none] [] (wM kn ne fi se x.2.2.2.1 x.2.2.2.2.1 x.2.2.2.2.2.1 x.2.2.2.2.2.2.1 x.2.2.2.2.2.2.2.1 x.2.2.2.2.2.2.2.2.1 x.2.2.2.2.2.2.2.2.2.1 x.2.2.2.2.2.2.2.2.2.2 wa nx oT cF bg ed sF qu qd tr) Q) (K := fun r : Int32 × Int32 × (Nat → Int32) × (Nat → Int32) × (Nat → Int64) × (Nat → Int64) × (Nat → Int64) × (Nat → Int64) × (Nat → Int64) => Go mX6_best (d + 5) false 0 0 75 [none, none, none, some (vI r.1), none, none, none] [] (wM kn ne fi se r.2.1 r.2.2.1 r.2.2.2.1 r.2.2.2.2.1 r.2.2.2.2.2.1 r.2.2.2.2.2.2.1 r.2.2.2.2.2.2.2.1 r.2.2.2.2.2.2.2.2 wa nx oT cF bg ed sF qu qd tr) Q) ?_ x r hl hk
  · intro x y hs hI hE
    unfold b_X6_best_38 at hs
    show Go mX6_best (d + 5) false 0 0 38 [some (vR 0), some (vI y1), some (vI y2), some (vI x.1), some (vI x.2.1), some (vI x.2.2.1), none] [] (wM kn ne fi se x.2.2.2.1 x.2.2.2.2.1 x.2.2.2.2.2.1 x.2.2.2.2.2.2.1 x.2.2.2.2.2.2.2.1 x.2.2.2.2.2.2.2.2.1 x.2.2.2.2.2.2.2.2.2.1 x.2.2.2.2.2.2.2.2.2.2 wa nx oT cF bg ed sF qu qd tr) Q
    refine go_iload (pc := 38) dX6_best_38 rfl ?_
    refine go_iconst (pc := 40) (1 : Int32) dX6_best_40 (by decide) ?_
    refine go_iload_n (pc := 41) 2 dX6_best_41 rfl rfl ?_
    refine go_ishl (pc := 42) dX6_best_42 ?_
    refine go_icmp_ge (pc := 43) 75 dX6_best_43 (by decide) (fun h9 => ?_) (fun h9 => ?_)
    · have hs := it_t h9 hs
      obtain rfl := Option.some.inj hs
      refine go_sub (lv' := [none, none, none, some (vI x.1), none, none, none]) ⟨rfl, trivial⟩ ?_
      exact hE _ rfl
    · have hs := it_f h9 hs
      refine go_aload_n (pc := 46) 0 dX6_best_46 rfl rfl ?_
      refine go_iload_n (pc := 47) 1 dX6_best_47 rfl rfl ?_
      refine go_iload (pc := 48) dX6_best_48 rfl ?_
      obtain ⟨x10, hc11, hs⟩ := bnd hs
      refine go_callV (bc := 0) (bs := 0) (mc := 0) (ms := 0) (d := d + 4) (pc := 50) (a := 0) (ci := 6) [vI y1, vI x.2.2.1] [] dX6_best_50 kX6_spanOf mlX6_142 ivX6_spanOf rfl rfl rfl rfl (Nat.le_of_ble_eq_true rfl) rfl (c_X6_spanOf (d := d + 0) hc11) (fun r w' hq => ?_)
      obtain ⟨rfl, rfl⟩ := hq
      show Go mX6_best (d + 5) false 0 0 53 [some (vR 0), some (vI y1), some (vI y2), some (vI x.1), some (vI x.2.1), some (vI x.2.2.1), none] [vI x10.1] (wM kn ne fi se x10.2.1 x10.2.2.1 x10.2.2.2.1 x10.2.2.2.2.1 x10.2.2.2.2.2.1 x10.2.2.2.2.2.2.1 x10.2.2.2.2.2.2.2.1 x10.2.2.2.2.2.2.2.2 wa nx oT cF bg ed sF qu qd tr) Q
      refine go_istore (pc := 53) [some (vR 0), some (vI y1), some (vI y2), some (vI x.1), some (vI x.2.1), some (vI x.2.2.1), some (vI x10.1)] dX6_best_53 (by decide) rfl ?_
      refine go_iload (pc := 55) dX6_best_55 rfl ?_
      refine go_iload (pc := 57) dX6_best_57 rfl ?_
      refine go_icmp_ge (pc := 59) 69 dX6_best_59 (by decide) (fun h12 => ?_) (fun h12 => ?_)
      · have hs := it_t h12 hs
        refine go_iinc (pc := 69) (x.2.2.1 + (1 : Int32)) [some (vR 0), some (vI y1), some (vI y2), some (vI x.1), some (vI x.2.1), some (vI (x.2.2.1 + (1 : Int32))), some (vI x10.1)] dX6_best_69 rfl rfl (by decide) rfl ?_
        refine go_goto (pc := 72) 38 dX6_best_72 (by decide) ?_
        obtain rfl := Option.some.inj hs
        refine go_sub (lv' := [some (vR 0), some (vI y1), some (vI y2), some (vI x.1), some (vI x.2.1), some (vI (x.2.2.1 + (1 : Int32))), none]) ⟨rfl, ⟨rfl, ⟨rfl, ⟨rfl, ⟨rfl, ⟨rfl, trivial⟩⟩⟩⟩⟩⟩ ?_
        exact hI _ rfl
      · have hs := it_f h12 hs
        refine go_iload (pc := 62) dX6_best_62 rfl ?_
        refine go_istore (pc := 64) [some (vR 0), some (vI y1), some (vI y2), some (vI x.1), some (vI x10.1), some (vI x.2.2.1), some (vI x10.1)] dX6_best_64 (by decide) rfl ?_
        refine go_iload (pc := 66) dX6_best_66 rfl ?_
        refine go_istore_n (pc := 68) 3 [some (vR 0), some (vI y1), some (vI y2), some (vI x.2.2.1), some (vI x10.1), some (vI x.2.2.1), some (vI x10.1)] dX6_best_68 rfl (by decide) rfl ?_
        refine go_iinc (pc := 69) (x.2.2.1 + (1 : Int32)) [some (vR 0), some (vI y1), some (vI y2), some (vI x.2.2.1), some (vI x10.1), some (vI (x.2.2.1 + (1 : Int32))), some (vI x10.1)] dX6_best_69 rfl rfl (by decide) rfl ?_
        refine go_goto (pc := 72) 38 dX6_best_72 (by decide) ?_
        obtain rfl := Option.some.inj hs
        refine go_sub (lv' := [some (vR 0), some (vI y1), some (vI y2), some (vI x.2.2.1), some (vI x10.1), some (vI (x.2.2.1 + (1 : Int32))), none]) ⟨rfl, ⟨rfl, ⟨rfl, ⟨rfl, ⟨rfl, ⟨rfl, trivial⟩⟩⟩⟩⟩⟩ ?_
        exact hI _ rfl
set_option maxRecDepth 20000 in
theorem c_X6_best {d : Nat}  {a1 : Int32} {res : Int32 × Int32 × (Nat → Int32) × (Nat → Int32) × (Nat → Int64) × (Nat → Int64) × (Nat → Int64) × (Nat → Int64) × (Nat → Int64)} (hs : s_X6_best kn ne ma on ot ta po ti nu mo a1 = some res) : Calls mX6_best (d + 5) false 0 0 [vR 0, vI a1] (wM kn ne fi se ma on ot ta po ti nu mo wa nx oT cF bg ed sF qu qd tr) (fun r w' => r = some (vI res.1) ∧ w' = (wM kn ne fi se res.2.1 res.2.2.1 res.2.2.2.1 res.2.2.2.2.1 res.2.2.2.2.2.1 res.2.2.2.2.2.2.1 res.2.2.2.2.2.2.2.1 res.2.2.2.2.2.2.2.2 wa nx oT cF bg ed sF qu qd tr)) := by
  unfold s_X6_best at hs
  refine Calls.of kX6_best 5 [some (vR 0), some (vI a1), none, none, none, none, none] rfl (Nat.le_of_ble_eq_true rfl) ?_
  refine go_iload_n (pc := 0) 1 dX6_best_0 rfl rfl ?_
  obtain ⟨x1, hc2, hs⟩ := bnd hs
  refine go_callS (bc := 0) (bs := 0) (mc := 0) (ms := 0) (d := d + 4) (pc := 1) [vI a1] [] dX6_best_1 kX6_isNet mlX6_69 isX6_isNet rfl (Nat.le_of_ble_eq_true rfl) rfl (c_X6_isNet (d := d + 3) hc2) (fun r w' hq => ?_)
  obtain ⟨rfl, rfl⟩ := hq
  show Go mX6_best (d + 5) false 0 0 4 [some (vR 0), some (vI a1), none, none, none, none, none] [vI x1] (wM kn ne fi se ma on ot ta po ti nu mo wa nx oT cF bg ed sF qu qd tr) _
  refine go_if_ne (pc := 4) 10 dX6_best_4 (by decide) (fun h3 => ?_) (fun h3 => ?_)
  · have hs := it_f h3 hs
    refine go_aload_n (pc := 10) 0 dX6_best_10 rfl rfl ?_
    refine go_iload_n (pc := 11) 1 dX6_best_11 rfl rfl ?_
    obtain ⟨x4, hc5, hs⟩ := bnd hs
    refine go_callV (bc := 0) (bs := 0) (mc := 0) (ms := 0) (d := d + 4) (pc := 12) (a := 0) (ci := 6) [vI a1] [] dX6_best_12 kX6_lines mlX6_92 ivX6_lines rfl rfl rfl rfl (Nat.le_of_ble_eq_true rfl) rfl (c_X6_lines (d := d + 3) hc5) (fun r w' hq => ?_)
    obtain ⟨rfl, rfl⟩ := hq
    show Go mX6_best (d + 5) false 0 0 15 [some (vR 0), some (vI a1), none, none, none, none, none] [vI x4] (wM kn ne fi se ma on ot ta po ti nu mo wa nx oT cF bg ed sF qu qd tr) _
    refine go_istore_n (pc := 15) 2 [some (vR 0), some (vI a1), some (vI x4), none, none, none, none] dX6_best_15 rfl (by decide) rfl ?_
    refine go_iload_n (pc := 16) 2 dX6_best_16 rfl rfl ?_
    refine go_bipush (pc := 17) (9 : Int32) dX6_best_17 (by decide) ?_
    refine go_icmp_le (pc := 19) 25 dX6_best_19 (by decide) (fun h6 => ?_) (fun h6 => ?_)
    · have hs := it_t h6 hs
      refine go_iconst (pc := 25) (0 : Int32) dX6_best_25 (by decide) ?_
      refine go_istore_n (pc := 26) 3 [some (vR 0), some (vI a1), some (vI x4), some (vI (0 : Int32)), none, none, none] dX6_best_26 rfl (by decide) rfl ?_
      refine go_aload_n (pc := 27) 0 dX6_best_27 rfl rfl ?_
      refine go_iload_n (pc := 28) 1 dX6_best_28 rfl rfl ?_
      refine go_iconst (pc := 29) (0 : Int32) dX6_best_29 (by decide) ?_
      obtain ⟨x7, hc8, hs⟩ := bnd hs
      refine go_callV (bc := 0) (bs := 0) (mc := 0) (ms := 0) (d := d + 4) (pc := 30) (a := 0) (ci := 6) [vI a1, vI (0 : Int32)] [] dX6_best_30 kX6_spanOf mlX6_142 ivX6_spanOf rfl rfl rfl rfl (Nat.le_of_ble_eq_true rfl) rfl (c_X6_spanOf (d := d + 0) hc8) (fun r w' hq => ?_)
      obtain ⟨rfl, rfl⟩ := hq
      show Go mX6_best (d + 5) false 0 0 33 [some (vR 0), some (vI a1), some (vI x4), some (vI (0 : Int32)), none, none, none] [vI x7.1] (wM kn ne fi se x7.2.1 x7.2.2.1 x7.2.2.2.1 x7.2.2.2.2.1 x7.2.2.2.2.2.1 x7.2.2.2.2.2.2.1 x7.2.2.2.2.2.2.2.1 x7.2.2.2.2.2.2.2.2 wa nx oT cF bg ed sF qu qd tr) _
      refine go_istore (pc := 33) [some (vR 0), some (vI a1), some (vI x4), some (vI (0 : Int32)), some (vI x7.1), none, none] dX6_best_33 (by decide) rfl ?_
      refine go_iconst (pc := 35) (1 : Int32) dX6_best_35 (by decide) ?_
      refine go_istore (pc := 36) [some (vR 0), some (vI a1), some (vI x4), some (vI (0 : Int32)), some (vI x7.1), some (vI (1 : Int32)), none] dX6_best_36 (by decide) rfl ?_
      obtain ⟨e13, hl14, hs⟩ := bnd hs
      refine g_X6_best_38 (d := d) _ e13 hl14 ?_
      refine go_iload_n (pc := 75) 3 dX6_best_75 rfl rfl ?_
      obtain rfl := Option.some.inj hs
      exact go_ireturn (st := []) (pc := 76) dX6_best_76 rfl (vp_nar_int _) (fun h => by cases h) ⟨rfl, rfl⟩
    · have hs := it_f h6 hs
      refine go_bipush (pc := 22) (-3 : Int32) dX6_best_22 (by decide) ?_
      obtain rfl := Option.some.inj hs
      exact go_ireturn (st := []) (pc := 24) dX6_best_24 rfl (vp_nar_int _) (fun h => by cases h) ⟨rfl, rfl⟩
  · have hs := it_t h3 hs
    refine go_bipush (pc := 7) (-2 : Int32) dX6_best_7 (by decide) ?_
    obtain rfl := Option.some.inj hs
    exact go_ireturn (st := []) (pc := 9) dX6_best_9 rfl (vp_nar_int _) (fun h => by cases h) ⟨rfl, rfl⟩
noncomputable def b_X6_layWalks_3 (y2 : Int32) (x : Int32 × (Nat → Int64)) : Option ((Int32 × (Nat → Int64)) ⊕ ((Nat → Int64))) := if (10 : Int32) ≤ x.1 then (some (Sum.inr x.2)) else (if x.1 = y2 then (chk x.1 10 (some (Sum.inl (x.1 + (1 : Int32), vp_updL x.2 x.1.toNatClampNeg (1 : Int64))))) else (chk x.1 10 (some (Sum.inl (x.1 + (1 : Int32), vp_updL x.2 x.1.toNatClampNeg (0 : Int64))))))
noncomputable def b_X6_layWalks_68 (kn : (Nat → Int32)) (ne : (Nat → Int32)) (wa : (Nat → Int64)) (y1 : Int32) (y5 : Int32) (x : Int32 × (Nat → Int64)) : Option ((Int32 × (Nat → Int64)) ⊕ ((Nat → Int64))) := chk y1 4 (if (kn y1.toNatClampNeg) ≤ x.1 then (some (Sum.inr x.2)) else (chk y5 10 ((s_X6_has ne y1 x.1 y5).bind (fun x14 => if x14 = 0 then (chk y5 10 (some (Sum.inl (x.1 + (1 : Int32), vp_updL x.2 y5.toNatClampNeg ((x.2 y5.toNatClampNeg) + (0 : Int64)))))) else (chk x.1 10 (chk y5 10 (some (Sum.inl (x.1 + (1 : Int32), vp_updL x.2 y5.toNatClampNeg ((x.2 y5.toNatClampNeg) + (wa x.1.toNatClampNeg)))))))))))
noncomputable def b_X6_layWalks_46 (kn : (Nat → Int32)) (ne : (Nat → Int32)) (wa : (Nat → Int64)) (y1 : Int32) (x : Int32 × (Nat → Int64)) : Option ((Int32 × (Nat → Int64)) ⊕ ((Nat → Int64))) := chk y1 4 (if (kn y1.toNatClampNeg) ≤ x.1 then (some (Sum.inr x.2)) else (chk x.1 10 ((loop (b_X6_layWalks_68 kn ne wa y1 x.1) ((0 : Int32), vp_updL x.2 x.1.toNatClampNeg (0 : Int64))).bind (fun e20 => some (Sum.inl (x.1 + (1 : Int32), e20))))))
noncomputable def b_X6_layWalks_127 (kn : (Nat → Int32)) (nx : (Nat → Int64)) (y1 : Int32) (x : Int32 × (Nat → Int64)) : Option ((Int32 × (Nat → Int64)) ⊕ ((Nat → Int64))) := chk y1 4 (if (kn y1.toNatClampNeg) ≤ x.1 then (some (Sum.inr x.2)) else (chk x.1 10 (chk x.1 10 (some (Sum.inl (x.1 + (1 : Int32), vp_updL x.2 x.1.toNatClampNeg (nx x.1.toNatClampNeg)))))))
noncomputable def b_X6_layWalks_37 (kn : (Nat → Int32)) (ne : (Nat → Int32)) (y1 : Int32) (y3 : Int32) (x : Int32 × (Nat → Int64) × (Nat → Int64)) : Option ((Int32 × (Nat → Int64) × (Nat → Int64)) ⊕ ((Nat → Int64) × (Nat → Int64))) := if y3 ≤ x.1 then (some (Sum.inr (x.2.1, x.2.2))) else ((loop (b_X6_layWalks_46 kn ne x.2.1 y1) ((0 : Int32), x.2.2)).bind (fun e22 => (loop (b_X6_layWalks_127 kn e22 y1) ((0 : Int32), x.2.1)).bind (fun e28 => some (Sum.inl (x.1 + (1 : Int32), e28, e22)))))
noncomputable def s_X6_layWalks (kn : (Nat → Int32)) (ne : (Nat → Int32)) (wa : (Nat → Int64)) (nx : (Nat → Int64)) (a1 : Int32) (a2 : Int32) (a3 : Int32) : Option ((Nat → Int64) × (Nat → Int64)) := (loop (b_X6_layWalks_3 a2) ((0 : Int32), wa)).bind (fun e5 => (loop (b_X6_layWalks_37 kn ne a1 a3) ((0 : Int32), e5, nx)).bind (fun e30 => some (e30.1, e30.2)))
set_option maxRecDepth 20000 in
theorem g_X6_layWalks_3 {d : Nat} {Q : Option AV → List AC → Prop} {y1 : Int32} {y2 : Int32} {y3 : Int32} (x : Int32 × (Nat → Int64)) (r : (Nat → Int64)) (hl : loop (b_X6_layWalks_3 y2) x = some r) (hk : (fun r : (Nat → Int64) => Go mX6_layWalks (d + 1) false 0 0 34 [some (vR 0), some (vI y1), none, some (vI y3), none, none, none] [] (wM kn ne fi se ma on ot ta po ti nu mo r nx oT cF bg ed sF qu qd tr) Q) r) : (fun x : Int32 × (Nat → Int64) => Go mX6_layWalks (d + 1) false 0 0 3 [some (vR 0), some (vI y1), some (vI y2), some (vI y3), some (vI x.1), none, none] [] (wM kn ne fi se ma on ot ta po ti nu mo x.2 nx oT cF bg ed sF qu qd tr) Q) x := by
  refine loop_go (P := fun x : Int32 × (Nat → Int64) => Go mX6_layWalks (d + 1) false 0 0 3 [some (vR 0), some (vI y1), some (vI y2), some (vI y3), some (vI x.1), none, none] [] (wM kn ne fi se ma on ot ta po ti nu mo x.2 nx oT cF bg ed sF qu qd tr) Q) (K := fun r : (Nat → Int64) => Go mX6_layWalks (d + 1) false 0 0 34 [some (vR 0), some (vI y1), none, some (vI y3), none, none, none] [] (wM kn ne fi se ma on ot ta po ti nu mo r nx oT cF bg ed sF qu qd tr) Q) ?_ x r hl hk
  · intro x y hs hI hE
    unfold b_X6_layWalks_3 at hs
    show Go mX6_layWalks (d + 1) false 0 0 3 [some (vR 0), some (vI y1), some (vI y2), some (vI y3), some (vI x.1), none, none] [] (wM kn ne fi se ma on ot ta po ti nu mo x.2 nx oT cF bg ed sF qu qd tr) Q
    refine go_iload (pc := 3) dX6_layWalks_3 rfl ?_
    refine go_bipush (pc := 5) (10 : Int32) dX6_layWalks_5 (by decide) ?_
    refine go_icmp_ge (pc := 7) 34 dX6_layWalks_7 (by decide) (fun h1 => ?_) (fun h1 => ?_)
    · have hs := it_t h1 hs
      obtain rfl := Option.some.inj hs
      refine go_sub (lv' := [some (vR 0), some (vI y1), none, some (vI y3), none, none, none]) ⟨rfl, ⟨rfl, ⟨rfl, trivial⟩⟩⟩ ?_
      exact hE _ rfl
    · have hs := it_f h1 hs
      refine go_aload_n (pc := 10) 0 dX6_layWalks_10 rfl rfl ?_
      refine go_getfield (pc := 11) (v := vR 12) 0 6 12 dX6_layWalks_11 flX6_44 rfl rfl ?_
      refine go_iload (pc := 14) dX6_layWalks_14 rfl ?_
      refine go_iload (pc := 16) dX6_layWalks_16 rfl ?_
      refine go_iload_n (pc := 18) 2 dX6_layWalks_18 rfl rfl ?_
      refine go_icmp_ne (pc := 19) 26 dX6_layWalks_19 (by decide) (fun h2 => ?_) (fun h2 => ?_)
      · have hs := it_f h2 hs
        refine go_lconst (pc := 26) (0 : Int64) dX6_layWalks_26 (by decide) ?_
        obtain ⟨hi3, hs⟩ := chk_t hs
        refine go_lastore (pc := 27) 12 dX6_layWalks_27 rfl hi3 (show Go mX6_layWalks (d + 1) false 0 0 28 [some (vR 0), some (vI y1), some (vI y2), some (vI y3), some (vI x.1), none, none] [] (wM kn ne fi se ma on ot ta po ti nu mo (vp_updL x.2 x.1.toNatClampNeg (0 : Int64)) nx oT cF bg ed sF qu qd tr) Q from ?_)
        refine go_iinc (pc := 28) (x.1 + (1 : Int32)) [some (vR 0), some (vI y1), some (vI y2), some (vI y3), some (vI (x.1 + (1 : Int32))), none, none] dX6_layWalks_28 rfl rfl (by decide) rfl ?_
        refine go_goto (pc := 31) 3 dX6_layWalks_31 (by decide) ?_
        obtain rfl := Option.some.inj hs
        exact hI _ rfl
      · have hs := it_t h2 hs
        refine go_lconst (pc := 22) (1 : Int64) dX6_layWalks_22 (by decide) ?_
        refine go_goto (pc := 23) 27 dX6_layWalks_23 (by decide) ?_
        obtain ⟨hi4, hs⟩ := chk_t hs
        refine go_lastore (pc := 27) 12 dX6_layWalks_27 rfl hi4 (show Go mX6_layWalks (d + 1) false 0 0 28 [some (vR 0), some (vI y1), some (vI y2), some (vI y3), some (vI x.1), none, none] [] (wM kn ne fi se ma on ot ta po ti nu mo (vp_updL x.2 x.1.toNatClampNeg (1 : Int64)) nx oT cF bg ed sF qu qd tr) Q from ?_)
        refine go_iinc (pc := 28) (x.1 + (1 : Int32)) [some (vR 0), some (vI y1), some (vI y2), some (vI y3), some (vI (x.1 + (1 : Int32))), none, none] dX6_layWalks_28 rfl rfl (by decide) rfl ?_
        refine go_goto (pc := 31) 3 dX6_layWalks_31 (by decide) ?_
        obtain rfl := Option.some.inj hs
        exact hI _ rfl
set_option maxRecDepth 20000 in
theorem g_X6_layWalks_68 {d : Nat} {Q : Option AV → List AC → Prop} {y1 : Int32} {y3 : Int32} {y4 : Int32} {y5 : Int32} (x : Int32 × (Nat → Int64)) (r : (Nat → Int64)) (hl : loop (b_X6_layWalks_68 kn ne wa y1 y5) x = some r) (hk : (fun r : (Nat → Int64) => Go mX6_layWalks (d + 1) false 0 0 118 [some (vR 0), some (vI y1), none, some (vI y3), some (vI y4), some (vI y5), none] [] (wM kn ne fi se ma on ot ta po ti nu mo wa r oT cF bg ed sF qu qd tr) Q) r) : (fun x : Int32 × (Nat → Int64) => Go mX6_layWalks (d + 1) false 0 0 68 [some (vR 0), some (vI y1), none, some (vI y3), some (vI y4), some (vI y5), some (vI x.1)] [] (wM kn ne fi se ma on ot ta po ti nu mo wa x.2 oT cF bg ed sF qu qd tr) Q) x := by
  refine loop_go (P := fun x : Int32 × (Nat → Int64) => Go mX6_layWalks (d + 1) false 0 0 68 [some (vR 0), some (vI y1), none, some (vI y3), some (vI y4), some (vI y5), some (vI x.1)] [] (wM kn ne fi se ma on ot ta po ti nu mo wa x.2 oT cF bg ed sF qu qd tr) Q) (K := fun r : (Nat → Int64) => Go mX6_layWalks (d + 1) false 0 0 118 [some (vR 0), some (vI y1), none, some (vI y3), some (vI y4), some (vI y5), none] [] (wM kn ne fi se ma on ot ta po ti nu mo wa r oT cF bg ed sF qu qd tr) Q) ?_ x r hl hk
  · intro x y hs hI hE
    unfold b_X6_layWalks_68 at hs
    show Go mX6_layWalks (d + 1) false 0 0 68 [some (vR 0), some (vI y1), none, some (vI y3), some (vI y4), some (vI y5), some (vI x.1)] [] (wM kn ne fi se ma on ot ta po ti nu mo wa x.2 oT cF bg ed sF qu qd tr) Q
    refine go_iload (pc := 68) dX6_layWalks_68 rfl ?_
    refine go_aload_n (pc := 70) 0 dX6_layWalks_70 rfl rfl ?_
    refine go_getfield (pc := 71) (v := vR 1) 0 6 0 dX6_layWalks_71 flX6_7 rfl rfl ?_
    refine go_iload_n (pc := 74) 1 dX6_layWalks_74 rfl rfl ?_
    obtain ⟨hi11, hs⟩ := chk_t hs
    refine go_iaload (pc := 75) 1 dX6_layWalks_75 rfl hi11 ?_
    refine go_icmp_ge (pc := 76) 118 dX6_layWalks_76 (by decide) (fun h12 => ?_) (fun h12 => ?_)
    · have hs := it_t h12 hs
      obtain rfl := Option.some.inj hs
      refine go_sub (lv' := [some (vR 0), some (vI y1), none, some (vI y3), some (vI y4), some (vI y5), none]) ⟨rfl, ⟨rfl, ⟨rfl, ⟨rfl, ⟨rfl, trivial⟩⟩⟩⟩⟩ ?_
      exact hE _ rfl
    · have hs := it_f h12 hs
      refine go_aload_n (pc := 79) 0 dX6_layWalks_79 rfl rfl ?_
      refine go_getfield (pc := 80) (v := vR 13) 0 6 13 dX6_layWalks_80 flX6_47 rfl rfl ?_
      refine go_iload (pc := 83) dX6_layWalks_83 rfl ?_
      refine go_dup2 (pc := 85) dX6_layWalks_85 rfl rfl ?_
      obtain ⟨hi13, hs⟩ := chk_t hs
      refine go_laload (pc := 86) 13 dX6_layWalks_86 rfl hi13 ?_
      refine go_aload_n (pc := 87) 0 dX6_layWalks_87 rfl rfl ?_
      refine go_iload_n (pc := 88) 1 dX6_layWalks_88 rfl rfl ?_
      refine go_iload (pc := 89) dX6_layWalks_89 rfl ?_
      refine go_iload (pc := 91) dX6_layWalks_91 rfl ?_
      obtain ⟨x14, hc15, hs⟩ := bnd hs
      refine go_callV (bc := 0) (bs := 0) (mc := 0) (ms := 0) (d := d + 0) (pc := 93) (a := 0) (ci := 6) [vI y1, vI x.1, vI y5] [vL (x.2 y5.toNatClampNeg), vI y5, vR 13] dX6_layWalks_93 kX6_has mlX6_85 ivX6_has rfl rfl rfl rfl (Nat.le_of_ble_eq_true rfl) rfl (c_X6_has (d := d + 0) hc15) (fun r w' hq => ?_)
      obtain ⟨rfl, rfl⟩ := hq
      show Go mX6_layWalks (d + 1) false 0 0 96 [some (vR 0), some (vI y1), none, some (vI y3), some (vI y4), some (vI y5), some (vI x.1)] [vI x14, vL (x.2 y5.toNatClampNeg), vI y5, vR 13] (wM kn ne fi se ma on ot ta po ti nu mo wa x.2 oT cF bg ed sF qu qd tr) Q
      refine go_if_eq (pc := 96) 109 dX6_layWalks_96 (by decide) (fun h16 => ?_) (fun h16 => ?_)
      · have hs := it_t h16 hs
        refine go_lconst (pc := 109) (0 : Int64) dX6_layWalks_109 (by decide) ?_
        refine go_ladd (pc := 110) dX6_layWalks_110 ?_
        obtain ⟨hi17, hs⟩ := chk_t hs
        refine go_lastore (pc := 111) 13 dX6_layWalks_111 rfl hi17 (show Go mX6_layWalks (d + 1) false 0 0 112 [some (vR 0), some (vI y1), none, some (vI y3), some (vI y4), some (vI y5), some (vI x.1)] [] (wM kn ne fi se ma on ot ta po ti nu mo wa (vp_updL x.2 y5.toNatClampNeg ((x.2 y5.toNatClampNeg) + (0 : Int64))) oT cF bg ed sF qu qd tr) Q from ?_)
        refine go_iinc (pc := 112) (x.1 + (1 : Int32)) [some (vR 0), some (vI y1), none, some (vI y3), some (vI y4), some (vI y5), some (vI (x.1 + (1 : Int32)))] dX6_layWalks_112 rfl rfl (by decide) rfl ?_
        refine go_goto (pc := 115) 68 dX6_layWalks_115 (by decide) ?_
        obtain rfl := Option.some.inj hs
        exact hI _ rfl
      · have hs := it_f h16 hs
        refine go_aload_n (pc := 99) 0 dX6_layWalks_99 rfl rfl ?_
        refine go_getfield (pc := 100) (v := vR 12) 0 6 12 dX6_layWalks_100 flX6_44 rfl rfl ?_
        refine go_iload (pc := 103) dX6_layWalks_103 rfl ?_
        obtain ⟨hi18, hs⟩ := chk_t hs
        refine go_laload (pc := 105) 12 dX6_layWalks_105 rfl hi18 ?_
        refine go_goto (pc := 106) 110 dX6_layWalks_106 (by decide) ?_
        refine go_ladd (pc := 110) dX6_layWalks_110 ?_
        obtain ⟨hi19, hs⟩ := chk_t hs
        refine go_lastore (pc := 111) 13 dX6_layWalks_111 rfl hi19 (show Go mX6_layWalks (d + 1) false 0 0 112 [some (vR 0), some (vI y1), none, some (vI y3), some (vI y4), some (vI y5), some (vI x.1)] [] (wM kn ne fi se ma on ot ta po ti nu mo wa (vp_updL x.2 y5.toNatClampNeg ((x.2 y5.toNatClampNeg) + (wa x.1.toNatClampNeg))) oT cF bg ed sF qu qd tr) Q from ?_)
        refine go_iinc (pc := 112) (x.1 + (1 : Int32)) [some (vR 0), some (vI y1), none, some (vI y3), some (vI y4), some (vI y5), some (vI (x.1 + (1 : Int32)))] dX6_layWalks_112 rfl rfl (by decide) rfl ?_
        refine go_goto (pc := 115) 68 dX6_layWalks_115 (by decide) ?_
        obtain rfl := Option.some.inj hs
        exact hI _ rfl
set_option maxRecDepth 20000 in
theorem g_X6_layWalks_46 {d : Nat} {Q : Option AV → List AC → Prop} {y1 : Int32} {y3 : Int32} {y4 : Int32} (x : Int32 × (Nat → Int64)) (r : (Nat → Int64)) (hl : loop (b_X6_layWalks_46 kn ne wa y1) x = some r) (hk : (fun r : (Nat → Int64) => Go mX6_layWalks (d + 1) false 0 0 124 [some (vR 0), some (vI y1), none, some (vI y3), some (vI y4), none, none] [] (wM kn ne fi se ma on ot ta po ti nu mo wa r oT cF bg ed sF qu qd tr) Q) r) : (fun x : Int32 × (Nat → Int64) => Go mX6_layWalks (d + 1) false 0 0 46 [some (vR 0), some (vI y1), none, some (vI y3), some (vI y4), some (vI x.1), none] [] (wM kn ne fi se ma on ot ta po ti nu mo wa x.2 oT cF bg ed sF qu qd tr) Q) x := by
  refine loop_go (P := fun x : Int32 × (Nat → Int64) => Go mX6_layWalks (d + 1) false 0 0 46 [some (vR 0), some (vI y1), none, some (vI y3), some (vI y4), some (vI x.1), none] [] (wM kn ne fi se ma on ot ta po ti nu mo wa x.2 oT cF bg ed sF qu qd tr) Q) (K := fun r : (Nat → Int64) => Go mX6_layWalks (d + 1) false 0 0 124 [some (vR 0), some (vI y1), none, some (vI y3), some (vI y4), none, none] [] (wM kn ne fi se ma on ot ta po ti nu mo wa r oT cF bg ed sF qu qd tr) Q) ?_ x r hl hk
  · intro x y hs hI hE
    unfold b_X6_layWalks_46 at hs
    show Go mX6_layWalks (d + 1) false 0 0 46 [some (vR 0), some (vI y1), none, some (vI y3), some (vI y4), some (vI x.1), none] [] (wM kn ne fi se ma on ot ta po ti nu mo wa x.2 oT cF bg ed sF qu qd tr) Q
    refine go_iload (pc := 46) dX6_layWalks_46 rfl ?_
    refine go_aload_n (pc := 48) 0 dX6_layWalks_48 rfl rfl ?_
    refine go_getfield (pc := 49) (v := vR 1) 0 6 0 dX6_layWalks_49 flX6_7 rfl rfl ?_
    refine go_iload_n (pc := 52) 1 dX6_layWalks_52 rfl rfl ?_
    obtain ⟨hi8, hs⟩ := chk_t hs
    refine go_iaload (pc := 53) 1 dX6_layWalks_53 rfl hi8 ?_
    refine go_icmp_ge (pc := 54) 124 dX6_layWalks_54 (by decide) (fun h9 => ?_) (fun h9 => ?_)
    · have hs := it_t h9 hs
      obtain rfl := Option.some.inj hs
      refine go_sub (lv' := [some (vR 0), some (vI y1), none, some (vI y3), some (vI y4), none, none]) ⟨rfl, ⟨rfl, ⟨rfl, ⟨rfl, trivial⟩⟩⟩⟩ ?_
      exact hE _ rfl
    · have hs := it_f h9 hs
      refine go_aload_n (pc := 57) 0 dX6_layWalks_57 rfl rfl ?_
      refine go_getfield (pc := 58) (v := vR 13) 0 6 13 dX6_layWalks_58 flX6_47 rfl rfl ?_
      refine go_iload (pc := 61) dX6_layWalks_61 rfl ?_
      refine go_lconst (pc := 63) (0 : Int64) dX6_layWalks_63 (by decide) ?_
      obtain ⟨hi10, hs⟩ := chk_t hs
      refine go_lastore (pc := 64) 13 dX6_layWalks_64 rfl hi10 (show Go mX6_layWalks (d + 1) false 0 0 65 [some (vR 0), some (vI y1), none, some (vI y3), some (vI y4), some (vI x.1), none] [] (wM kn ne fi se ma on ot ta po ti nu mo wa (vp_updL x.2 x.1.toNatClampNeg (0 : Int64)) oT cF bg ed sF qu qd tr) Q from ?_)
      refine go_iconst (pc := 65) (0 : Int32) dX6_layWalks_65 (by decide) ?_
      refine go_istore (pc := 66) [some (vR 0), some (vI y1), none, some (vI y3), some (vI y4), some (vI x.1), some (vI (0 : Int32))] dX6_layWalks_66 (by decide) rfl ?_
      obtain ⟨e20, hl21, hs⟩ := bnd hs
      refine g_X6_layWalks_68 (d := d) _ e20 hl21 ?_
      refine go_iinc (pc := 118) (x.1 + (1 : Int32)) [some (vR 0), some (vI y1), none, some (vI y3), some (vI y4), some (vI (x.1 + (1 : Int32))), none] dX6_layWalks_118 rfl rfl (by decide) rfl ?_
      refine go_goto (pc := 121) 46 dX6_layWalks_121 (by decide) ?_
      obtain rfl := Option.some.inj hs
      exact hI _ rfl
set_option maxRecDepth 20000 in
theorem g_X6_layWalks_127 {d : Nat} {Q : Option AV → List AC → Prop} {y1 : Int32} {y3 : Int32} {y4 : Int32} (x : Int32 × (Nat → Int64)) (r : (Nat → Int64)) (hl : loop (b_X6_layWalks_127 kn nx y1) x = some r) (hk : (fun r : (Nat → Int64) => Go mX6_layWalks (d + 1) false 0 0 158 [some (vR 0), some (vI y1), none, some (vI y3), some (vI y4), none, none] [] (wM kn ne fi se ma on ot ta po ti nu mo r nx oT cF bg ed sF qu qd tr) Q) r) : (fun x : Int32 × (Nat → Int64) => Go mX6_layWalks (d + 1) false 0 0 127 [some (vR 0), some (vI y1), none, some (vI y3), some (vI y4), some (vI x.1), none] [] (wM kn ne fi se ma on ot ta po ti nu mo x.2 nx oT cF bg ed sF qu qd tr) Q) x := by
  refine loop_go (P := fun x : Int32 × (Nat → Int64) => Go mX6_layWalks (d + 1) false 0 0 127 [some (vR 0), some (vI y1), none, some (vI y3), some (vI y4), some (vI x.1), none] [] (wM kn ne fi se ma on ot ta po ti nu mo x.2 nx oT cF bg ed sF qu qd tr) Q) (K := fun r : (Nat → Int64) => Go mX6_layWalks (d + 1) false 0 0 158 [some (vR 0), some (vI y1), none, some (vI y3), some (vI y4), none, none] [] (wM kn ne fi se ma on ot ta po ti nu mo r nx oT cF bg ed sF qu qd tr) Q) ?_ x r hl hk
  · intro x y hs hI hE
    unfold b_X6_layWalks_127 at hs
    show Go mX6_layWalks (d + 1) false 0 0 127 [some (vR 0), some (vI y1), none, some (vI y3), some (vI y4), some (vI x.1), none] [] (wM kn ne fi se ma on ot ta po ti nu mo x.2 nx oT cF bg ed sF qu qd tr) Q
    refine go_iload (pc := 127) dX6_layWalks_127 rfl ?_
    refine go_aload_n (pc := 129) 0 dX6_layWalks_129 rfl rfl ?_
    refine go_getfield (pc := 130) (v := vR 1) 0 6 0 dX6_layWalks_130 flX6_7 rfl rfl ?_
    refine go_iload_n (pc := 133) 1 dX6_layWalks_133 rfl rfl ?_
    obtain ⟨hi24, hs⟩ := chk_t hs
    refine go_iaload (pc := 134) 1 dX6_layWalks_134 rfl hi24 ?_
    refine go_icmp_ge (pc := 135) 158 dX6_layWalks_135 (by decide) (fun h25 => ?_) (fun h25 => ?_)
    · have hs := it_t h25 hs
      obtain rfl := Option.some.inj hs
      refine go_sub (lv' := [some (vR 0), some (vI y1), none, some (vI y3), some (vI y4), none, none]) ⟨rfl, ⟨rfl, ⟨rfl, ⟨rfl, trivial⟩⟩⟩⟩ ?_
      exact hE _ rfl
    · have hs := it_f h25 hs
      refine go_aload_n (pc := 138) 0 dX6_layWalks_138 rfl rfl ?_
      refine go_getfield (pc := 139) (v := vR 12) 0 6 12 dX6_layWalks_139 flX6_44 rfl rfl ?_
      refine go_iload (pc := 142) dX6_layWalks_142 rfl ?_
      refine go_aload_n (pc := 144) 0 dX6_layWalks_144 rfl rfl ?_
      refine go_getfield (pc := 145) (v := vR 13) 0 6 13 dX6_layWalks_145 flX6_47 rfl rfl ?_
      refine go_iload (pc := 148) dX6_layWalks_148 rfl ?_
      obtain ⟨hi26, hs⟩ := chk_t hs
      refine go_laload (pc := 150) 13 dX6_layWalks_150 rfl hi26 ?_
      obtain ⟨hi27, hs⟩ := chk_t hs
      refine go_lastore (pc := 151) 12 dX6_layWalks_151 rfl hi27 (show Go mX6_layWalks (d + 1) false 0 0 152 [some (vR 0), some (vI y1), none, some (vI y3), some (vI y4), some (vI x.1), none] [] (wM kn ne fi se ma on ot ta po ti nu mo (vp_updL x.2 x.1.toNatClampNeg (nx x.1.toNatClampNeg)) nx oT cF bg ed sF qu qd tr) Q from ?_)
      refine go_iinc (pc := 152) (x.1 + (1 : Int32)) [some (vR 0), some (vI y1), none, some (vI y3), some (vI y4), some (vI (x.1 + (1 : Int32))), none] dX6_layWalks_152 rfl rfl (by decide) rfl ?_
      refine go_goto (pc := 155) 127 dX6_layWalks_155 (by decide) ?_
      obtain rfl := Option.some.inj hs
      exact hI _ rfl
set_option maxRecDepth 20000 in
theorem g_X6_layWalks_37 {d : Nat} {Q : Option AV → List AC → Prop} {y1 : Int32} {y3 : Int32} (x : Int32 × (Nat → Int64) × (Nat → Int64)) (r : (Nat → Int64) × (Nat → Int64)) (hl : loop (b_X6_layWalks_37 kn ne y1 y3) x = some r) (hk : (fun r : (Nat → Int64) × (Nat → Int64) => Go mX6_layWalks (d + 1) false 0 0 164 [none, none, none, none, none, none, none] [] (wM kn ne fi se ma on ot ta po ti nu mo r.1 r.2 oT cF bg ed sF qu qd tr) Q) r) : (fun x : Int32 × (Nat → Int64) × (Nat → Int64) => Go mX6_layWalks (d + 1) false 0 0 37 [some (vR 0), some (vI y1), none, some (vI y3), some (vI x.1), none, none] [] (wM kn ne fi se ma on ot ta po ti nu mo x.2.1 x.2.2 oT cF bg ed sF qu qd tr) Q) x := by
  refine loop_go (P := fun x : Int32 × (Nat → Int64) × (Nat → Int64) => Go mX6_layWalks (d + 1) false 0 0 37 [some (vR 0), some (vI y1), none, some (vI y3), some (vI x.1), none, none] [] (wM kn ne fi se ma on ot ta po ti nu mo x.2.1 x.2.2 oT cF bg ed sF qu qd tr) Q) (K := fun r : (Nat → Int64) × (Nat → Int64) => Go mX6_layWalks (d + 1) false 0 0 164 [none, none, none, none, none, none, none] [] (wM kn ne fi se ma on ot ta po ti nu mo r.1 r.2 oT cF bg ed sF qu qd tr) Q) ?_ x r hl hk
  · intro x y hs hI hE
    unfold b_X6_layWalks_37 at hs
    show Go mX6_layWalks (d + 1) false 0 0 37 [some (vR 0), some (vI y1), none, some (vI y3), some (vI x.1), none, none] [] (wM kn ne fi se ma on ot ta po ti nu mo x.2.1 x.2.2 oT cF bg ed sF qu qd tr) Q
    refine go_iload (pc := 37) dX6_layWalks_37 rfl ?_
    refine go_iload_n (pc := 39) 3 dX6_layWalks_39 rfl rfl ?_
    refine go_icmp_ge (pc := 40) 164 dX6_layWalks_40 (by decide) (fun h7 => ?_) (fun h7 => ?_)
    · have hs := it_t h7 hs
      obtain rfl := Option.some.inj hs
      refine go_sub (lv' := [none, none, none, none, none, none, none]) trivial ?_
      exact hE _ rfl
    · have hs := it_f h7 hs
      refine go_iconst (pc := 43) (0 : Int32) dX6_layWalks_43 (by decide) ?_
      refine go_istore (pc := 44) [some (vR 0), some (vI y1), none, some (vI y3), some (vI x.1), some (vI (0 : Int32)), none] dX6_layWalks_44 (by decide) rfl ?_
      obtain ⟨e22, hl23, hs⟩ := bnd hs
      refine g_X6_layWalks_46 (d := d) _ e22 hl23 ?_
      refine go_iconst (pc := 124) (0 : Int32) dX6_layWalks_124 (by decide) ?_
      refine go_istore (pc := 125) [some (vR 0), some (vI y1), none, some (vI y3), some (vI x.1), some (vI (0 : Int32)), none] dX6_layWalks_125 (by decide) rfl ?_
      obtain ⟨e28, hl29, hs⟩ := bnd hs
      refine g_X6_layWalks_127 (d := d) _ e28 hl29 ?_
      refine go_iinc (pc := 158) (x.1 + (1 : Int32)) [some (vR 0), some (vI y1), none, some (vI y3), some (vI (x.1 + (1 : Int32))), none, none] dX6_layWalks_158 rfl rfl (by decide) rfl ?_
      refine go_goto (pc := 161) 37 dX6_layWalks_161 (by decide) ?_
      obtain rfl := Option.some.inj hs
      exact hI _ rfl
set_option maxRecDepth 20000 in
theorem c_X6_layWalks {d : Nat}  {a1 : Int32} {a2 : Int32} {a3 : Int32} {res : (Nat → Int64) × (Nat → Int64)} (hs : s_X6_layWalks kn ne wa nx a1 a2 a3 = some res) : Calls mX6_layWalks (d + 1) false 0 0 [vR 0, vI a1, vI a2, vI a3] (wM kn ne fi se ma on ot ta po ti nu mo wa nx oT cF bg ed sF qu qd tr) (fun r w' => r = none ∧ w' = (wM kn ne fi se ma on ot ta po ti nu mo res.1 res.2 oT cF bg ed sF qu qd tr)) := by
  unfold s_X6_layWalks at hs
  refine Calls.of kX6_layWalks 3 [some (vR 0), some (vI a1), some (vI a2), some (vI a3), none, none, none] rfl (Nat.le_of_ble_eq_true rfl) ?_
  refine go_iconst (pc := 0) (0 : Int32) dX6_layWalks_0 (by decide) ?_
  refine go_istore (pc := 1) [some (vR 0), some (vI a1), some (vI a2), some (vI a3), some (vI (0 : Int32)), none, none] dX6_layWalks_1 (by decide) rfl ?_
  obtain ⟨e5, hl6, hs⟩ := bnd hs
  refine g_X6_layWalks_3 (d := d) _ e5 hl6 ?_
  refine go_iconst (pc := 34) (0 : Int32) dX6_layWalks_34 (by decide) ?_
  refine go_istore (pc := 35) [some (vR 0), some (vI a1), none, some (vI a3), some (vI (0 : Int32)), none, none] dX6_layWalks_35 (by decide) rfl ?_
  obtain ⟨e30, hl31, hs⟩ := bnd hs
  refine g_X6_layWalks_37 (d := d) _ e30 hl31 ?_
  obtain rfl := Option.some.inj hs
  exact go_return (st := []) (pc := 164) dX6_layWalks_164 rfl (fun h => by cases h) ⟨rfl, rfl⟩
noncomputable def s_X6_walks (kn : (Nat → Int32)) (ne : (Nat → Int32)) (wa : (Nat → Int64)) (nx : (Nat → Int64)) (a1 : Int32) (a2 : Int32) (a3 : Int32) (a4 : Int32) : Option (Int64 × (Nat → Int64) × (Nat → Int64)) := (s_X6_isKnot kn a1 a2).bind (fun x1 => if x1 = 0 then (some ((-2 : Int64), wa, nx)) else ((s_X6_isKnot kn a1 a3).bind (fun x4 => if x4 = 0 then (some ((-2 : Int64), wa, nx)) else ((s_X6_in a4 (0 : Int32) (12 : Int32)).bind (fun x7 => if x7 = 0 then (some ((-2 : Int64), wa, nx)) else ((s_X6_layWalks kn ne wa nx a1 a2 a4).bind (fun x10 => chk a3 10 (some (x10.1 a3.toNatClampNeg, x10.1, x10.2)))))))))
set_option maxRecDepth 20000 in
theorem c_X6_walks {d : Nat}  {a1 : Int32} {a2 : Int32} {a3 : Int32} {a4 : Int32} {res : Int64 × (Nat → Int64) × (Nat → Int64)} (hs : s_X6_walks kn ne wa nx a1 a2 a3 a4 = some res) : Calls mX6_walks (d + 3) false 0 0 [vR 0, vI a1, vI a2, vI a3, vI a4] (wM kn ne fi se ma on ot ta po ti nu mo wa nx oT cF bg ed sF qu qd tr) (fun r w' => r = some (vL res.1) ∧ w' = (wM kn ne fi se ma on ot ta po ti nu mo res.2.1 res.2.2 oT cF bg ed sF qu qd tr)) := by
  unfold s_X6_walks at hs
  refine Calls.of kX6_walks 0 [some (vR 0), some (vI a1), some (vI a2), some (vI a3), some (vI a4)] rfl (Nat.le_of_ble_eq_true rfl) ?_
  refine go_aload_n (pc := 0) 0 dX6_walks_0 rfl rfl ?_
  refine go_iload_n (pc := 1) 1 dX6_walks_1 rfl rfl ?_
  refine go_iload_n (pc := 2) 2 dX6_walks_2 rfl rfl ?_
  obtain ⟨x1, hc2, hs⟩ := bnd hs
  refine go_callV (bc := 0) (bs := 0) (mc := 0) (ms := 0) (d := d + 2) (pc := 3) (a := 0) (ci := 6) [vI a1, vI a2] [] dX6_walks_3 kX6_isKnot mlX6_81 ivX6_isKnot rfl rfl rfl rfl (Nat.le_of_ble_eq_true rfl) rfl (c_X6_isKnot (d := d + 0) hc2) (fun r w' hq => ?_)
  obtain ⟨rfl, rfl⟩ := hq
  show Go mX6_walks (d + 3) false 0 0 6 [some (vR 0), some (vI a1), some (vI a2), some (vI a3), some (vI a4)] [vI x1] (wM kn ne fi se ma on ot ta po ti nu mo wa nx oT cF bg ed sF qu qd tr) _
  refine go_if_eq (pc := 6) 29 dX6_walks_6 (by decide) (fun h3 => ?_) (fun h3 => ?_)
  · have hs := it_t h3 hs
    refine go_ldc2 (pc := 29) (-2 : Int64) dX6_walks_29 kcX6_145 ?_
    obtain rfl := Option.some.inj hs
    exact go_lreturn (st := []) (pc := 32) dX6_walks_32 rfl (fun h => by cases h) ⟨rfl, rfl⟩
  · have hs := it_f h3 hs
    refine go_aload_n (pc := 9) 0 dX6_walks_9 rfl rfl ?_
    refine go_iload_n (pc := 10) 1 dX6_walks_10 rfl rfl ?_
    refine go_iload_n (pc := 11) 3 dX6_walks_11 rfl rfl ?_
    obtain ⟨x4, hc5, hs⟩ := bnd hs
    refine go_callV (bc := 0) (bs := 0) (mc := 0) (ms := 0) (d := d + 2) (pc := 12) (a := 0) (ci := 6) [vI a1, vI a3] [] dX6_walks_12 kX6_isKnot mlX6_81 ivX6_isKnot rfl rfl rfl rfl (Nat.le_of_ble_eq_true rfl) rfl (c_X6_isKnot (d := d + 0) hc5) (fun r w' hq => ?_)
    obtain ⟨rfl, rfl⟩ := hq
    show Go mX6_walks (d + 3) false 0 0 15 [some (vR 0), some (vI a1), some (vI a2), some (vI a3), some (vI a4)] [vI x4] (wM kn ne fi se ma on ot ta po ti nu mo wa nx oT cF bg ed sF qu qd tr) _
    refine go_if_eq (pc := 15) 29 dX6_walks_15 (by decide) (fun h6 => ?_) (fun h6 => ?_)
    · have hs := it_t h6 hs
      refine go_ldc2 (pc := 29) (-2 : Int64) dX6_walks_29 kcX6_145 ?_
      obtain rfl := Option.some.inj hs
      exact go_lreturn (st := []) (pc := 32) dX6_walks_32 rfl (fun h => by cases h) ⟨rfl, rfl⟩
    · have hs := it_f h6 hs
      refine go_iload (pc := 18) dX6_walks_18 rfl ?_
      refine go_iconst (pc := 20) (0 : Int32) dX6_walks_20 (by decide) ?_
      refine go_bipush (pc := 21) (12 : Int32) dX6_walks_21 (by decide) ?_
      obtain ⟨x7, hc8, hs⟩ := bnd hs
      refine go_callS (bc := 0) (bs := 0) (mc := 0) (ms := 0) (d := d + 2) (pc := 23) [vI a4, vI (0 : Int32), vI (12 : Int32)] [] dX6_walks_23 kX6_in mlX6_65 isX6_in rfl (Nat.le_of_ble_eq_true rfl) rfl (c_X6_in (d := d + 2) hc8) (fun r w' hq => ?_)
      obtain ⟨rfl, rfl⟩ := hq
      show Go mX6_walks (d + 3) false 0 0 26 [some (vR 0), some (vI a1), some (vI a2), some (vI a3), some (vI a4)] [vI x7] (wM kn ne fi se ma on ot ta po ti nu mo wa nx oT cF bg ed sF qu qd tr) _
      refine go_if_ne (pc := 26) 33 dX6_walks_26 (by decide) (fun h9 => ?_) (fun h9 => ?_)
      · have hs := it_f h9 hs
        refine go_aload_n (pc := 33) 0 dX6_walks_33 rfl rfl ?_
        refine go_iload_n (pc := 34) 1 dX6_walks_34 rfl rfl ?_
        refine go_iload_n (pc := 35) 2 dX6_walks_35 rfl rfl ?_
        refine go_iload (pc := 36) dX6_walks_36 rfl ?_
        obtain ⟨x10, hc11, hs⟩ := bnd hs
        refine go_callV (bc := 0) (bs := 0) (mc := 0) (ms := 0) (d := d + 2) (pc := 38) (a := 0) (ci := 6) [vI a1, vI a2, vI a4] [] dX6_walks_38 kX6_layWalks mlX6_147 ivX6_layWalks rfl rfl rfl rfl (Nat.le_of_ble_eq_true rfl) rfl (c_X6_layWalks (d := d + 1) hc11) (fun r w' hq => ?_)
        obtain ⟨rfl, rfl⟩ := hq
        show Go mX6_walks (d + 3) false 0 0 41 [some (vR 0), some (vI a1), some (vI a2), some (vI a3), some (vI a4)] [] (wM kn ne fi se ma on ot ta po ti nu mo x10.1 x10.2 oT cF bg ed sF qu qd tr) _
        refine go_aload_n (pc := 41) 0 dX6_walks_41 rfl rfl ?_
        refine go_getfield (pc := 42) (v := vR 12) 0 6 12 dX6_walks_42 flX6_44 rfl rfl ?_
        refine go_iload_n (pc := 45) 3 dX6_walks_45 rfl rfl ?_
        obtain ⟨hi12, hs⟩ := chk_t hs
        refine go_laload (pc := 46) 12 dX6_walks_46 rfl hi12 ?_
        obtain rfl := Option.some.inj hs
        exact go_lreturn (st := []) (pc := 47) dX6_walks_47 rfl (fun h => by cases h) ⟨rfl, rfl⟩
      · have hs := it_t h9 hs
        refine go_ldc2 (pc := 29) (-2 : Int64) dX6_walks_29 kcX6_145 ?_
        obtain rfl := Option.some.inj hs
        exact go_lreturn (st := []) (pc := 32) dX6_walks_32 rfl (fun h => by cases h) ⟨rfl, rfl⟩
noncomputable def b_X6_uneven_53 (y3 : Int32) (y4 : Int32) (x : Int64 × Int32) : Option ((Int64 × Int32) ⊕ (Int64)) := if y3 ≤ x.2 then (some (Sum.inr x.1)) else (some (Sum.inl (x.1 * y4.toInt64, x.2 + (1 : Int32))))
noncomputable def b_X6_uneven_79 (kn : (Nat → Int32)) (wa : (Nat → Int64)) (y1 : Int32) (y5 : Int64) (x : Int64 × Int32) : Option ((Int64 × Int32) ⊕ (Int64)) := chk y1 4 (if (kn y1.toNatClampNeg) ≤ x.2 then (some (Sum.inr x.1)) else (chk y1 4 (chk x.2 10 (lt' ((((kn y1.toNatClampNeg).toInt64) * (wa x.2.toNatClampNeg)) - y5) (fun z19 => if 0 ≤ (lg_cmp z19 (0 : Int64)) then (some (Sum.inl (x.1 + z19, x.2 + (1 : Int32)))) else (some (Sum.inl (x.1 + (-z19), x.2 + (1 : Int32)))))))))
noncomputable def s_X6_uneven (kn : (Nat → Int32)) (ne : (Nat → Int32)) (wa : (Nat → Int64)) (nx : (Nat → Int64)) (a1 : Int32) (a2 : Int32) (a3 : Int32) : Option (Int64 × (Nat → Int64) × (Nat → Int64)) := (s_X6_isKnot kn a1 a2).bind (fun x1 => if x1 = 0 then (some ((-2 : Int64), wa, nx)) else ((s_X6_in a3 (0 : Int32) (12 : Int32)).bind (fun x4 => if x4 = 0 then (some ((-2 : Int64), wa, nx)) else ((s_X6_degreeOf kn ne a1).bind (fun x7 => if x7 = (-1 : Int32) then (some ((-3 : Int64), wa, nx)) else ((s_X6_layWalks kn ne wa nx a1 a2 a3).bind (fun x10 => (loop (b_X6_uneven_53 a3 x7) ((1 : Int64), (0 : Int32))).bind (fun e13 => (loop (b_X6_uneven_79 kn x10.1 a1 e13) ((0 : Int64), (0 : Int32))).bind (fun e21 => some (e21, x10.1, x10.2))))))))))
set_option maxRecDepth 20000 in
theorem g_X6_uneven_53 {d : Nat} {Q : Option AV → List AC → Prop} {y1 : Int32} {y3 : Int32} {y4 : Int32} (x : Int64 × Int32) (r : Int64) (hl : loop (b_X6_uneven_53 y3 y4) x = some r) (hk : (fun r : Int64 => Go mX6_uneven (d + 3) false 0 0 73 [some (vR 0), some (vI y1), none, none, none, some (vL r), none, none, none, none, none, none] [] (wM kn ne fi se ma on ot ta po ti nu mo wa nx oT cF bg ed sF qu qd tr) Q) r) : (fun x : Int64 × Int32 => Go mX6_uneven (d + 3) false 0 0 53 [some (vR 0), some (vI y1), none, some (vI y3), some (vI y4), some (vL x.1), none, some (vI x.2), none, none, none, none] [] (wM kn ne fi se ma on ot ta po ti nu mo wa nx oT cF bg ed sF qu qd tr) Q) x := by
  refine loop_go (P := fun x : Int64 × Int32 => Go mX6_uneven (d + 3) false 0 0 53 [some (vR 0), some (vI y1), none, some (vI y3), some (vI y4), some (vL x.1), none, some (vI x.2), none, none, none, none] [] (wM kn ne fi se ma on ot ta po ti nu mo wa nx oT cF bg ed sF qu qd tr) Q) (K := fun r : Int64 => Go mX6_uneven (d + 3) false 0 0 73 [some (vR 0), some (vI y1), none, none, none, some (vL r), none, none, none, none, none, none] [] (wM kn ne fi se ma on ot ta po ti nu mo wa nx oT cF bg ed sF qu qd tr) Q) ?_ x r hl hk
  · intro x y hs hI hE
    unfold b_X6_uneven_53 at hs
    show Go mX6_uneven (d + 3) false 0 0 53 [some (vR 0), some (vI y1), none, some (vI y3), some (vI y4), some (vL x.1), none, some (vI x.2), none, none, none, none] [] (wM kn ne fi se ma on ot ta po ti nu mo wa nx oT cF bg ed sF qu qd tr) Q
    refine go_iload (pc := 53) dX6_uneven_53 rfl ?_
    refine go_iload_n (pc := 55) 3 dX6_uneven_55 rfl rfl ?_
    refine go_icmp_ge (pc := 56) 73 dX6_uneven_56 (by decide) (fun h12 => ?_) (fun h12 => ?_)
    · have hs := it_t h12 hs
      obtain rfl := Option.some.inj hs
      refine go_sub (lv' := [some (vR 0), some (vI y1), none, none, none, some (vL x.1), none, none, none, none, none, none]) ⟨rfl, ⟨rfl, ⟨rfl, trivial⟩⟩⟩ ?_
      exact hE _ rfl
    · have hs := it_f h12 hs
      refine go_lload (pc := 59) dX6_uneven_59 rfl ?_
      refine go_iload (pc := 61) dX6_uneven_61 rfl ?_
      refine go_i2l (pc := 63) dX6_uneven_63 ?_
      refine go_lmul (pc := 64) dX6_uneven_64 ?_
      refine go_lstore (pc := 65) [some (vR 0), some (vI y1), none, some (vI y3), some (vI y4), some (vL (x.1 * y4.toInt64)), none, some (vI x.2), none, none, none, none] dX6_uneven_65 (by decide) rfl ?_
      refine go_iinc (pc := 67) (x.2 + (1 : Int32)) [some (vR 0), some (vI y1), none, some (vI y3), some (vI y4), some (vL (x.1 * y4.toInt64)), none, some (vI (x.2 + (1 : Int32))), none, none, none, none] dX6_uneven_67 rfl rfl (by decide) rfl ?_
      refine go_goto (pc := 70) 53 dX6_uneven_70 (by decide) ?_
      obtain rfl := Option.some.inj hs
      exact hI _ rfl
set_option maxRecDepth 20000 in
theorem g_X6_uneven_79 {d : Nat} {Q : Option AV → List AC → Prop} {y1 : Int32} {y5 : Int64} (x : Int64 × Int32) (r : Int64) (hl : loop (b_X6_uneven_79 kn wa y1 y5) x = some r) (hk : (fun r : Int64 => Go mX6_uneven (d + 3) false 0 0 136 [none, none, none, none, none, none, none, some (vL r), none, none, none, none] [] (wM kn ne fi se ma on ot ta po ti nu mo wa nx oT cF bg ed sF qu qd tr) Q) r) : (fun x : Int64 × Int32 => Go mX6_uneven (d + 3) false 0 0 79 [some (vR 0), some (vI y1), none, none, none, some (vL y5), none, some (vL x.1), none, some (vI x.2), none, none] [] (wM kn ne fi se ma on ot ta po ti nu mo wa nx oT cF bg ed sF qu qd tr) Q) x := by
  refine loop_go (P := fun x : Int64 × Int32 => Go mX6_uneven (d + 3) false 0 0 79 [some (vR 0), some (vI y1), none, none, none, some (vL y5), none, some (vL x.1), none, some (vI x.2), none, none] [] (wM kn ne fi se ma on ot ta po ti nu mo wa nx oT cF bg ed sF qu qd tr) Q) (K := fun r : Int64 => Go mX6_uneven (d + 3) false 0 0 136 [none, none, none, none, none, none, none, some (vL r), none, none, none, none] [] (wM kn ne fi se ma on ot ta po ti nu mo wa nx oT cF bg ed sF qu qd tr) Q) ?_ x r hl hk
  · intro x y hs hI hE
    unfold b_X6_uneven_79 at hs
    show Go mX6_uneven (d + 3) false 0 0 79 [some (vR 0), some (vI y1), none, none, none, some (vL y5), none, some (vL x.1), none, some (vI x.2), none, none] [] (wM kn ne fi se ma on ot ta po ti nu mo wa nx oT cF bg ed sF qu qd tr) Q
    refine go_iload (pc := 79) dX6_uneven_79 rfl ?_
    refine go_aload_n (pc := 81) 0 dX6_uneven_81 rfl rfl ?_
    refine go_getfield (pc := 82) (v := vR 1) 0 6 0 dX6_uneven_82 flX6_7 rfl rfl ?_
    refine go_iload_n (pc := 85) 1 dX6_uneven_85 rfl rfl ?_
    obtain ⟨hi15, hs⟩ := chk_t hs
    refine go_iaload (pc := 86) 1 dX6_uneven_86 rfl hi15 ?_
    refine go_icmp_ge (pc := 87) 136 dX6_uneven_87 (by decide) (fun h16 => ?_) (fun h16 => ?_)
    · have hs := it_t h16 hs
      obtain rfl := Option.some.inj hs
      refine go_sub (lv' := [none, none, none, none, none, none, none, some (vL x.1), none, none, none, none]) ⟨rfl, trivial⟩ ?_
      exact hE _ rfl
    · have hs := it_f h16 hs
      refine go_aload_n (pc := 90) 0 dX6_uneven_90 rfl rfl ?_
      refine go_getfield (pc := 91) (v := vR 1) 0 6 0 dX6_uneven_91 flX6_7 rfl rfl ?_
      refine go_iload_n (pc := 94) 1 dX6_uneven_94 rfl rfl ?_
      obtain ⟨hi17, hs⟩ := chk_t hs
      refine go_iaload (pc := 95) 1 dX6_uneven_95 rfl hi17 ?_
      refine go_i2l (pc := 96) dX6_uneven_96 ?_
      refine go_aload_n (pc := 97) 0 dX6_uneven_97 rfl rfl ?_
      refine go_getfield (pc := 98) (v := vR 12) 0 6 12 dX6_uneven_98 flX6_44 rfl rfl ?_
      refine go_iload (pc := 101) dX6_uneven_101 rfl ?_
      obtain ⟨hi18, hs⟩ := chk_t hs
      refine go_laload (pc := 103) 12 dX6_uneven_103 rfl hi18 ?_
      refine go_lmul (pc := 104) dX6_uneven_104 ?_
      refine go_lload (pc := 105) dX6_uneven_105 rfl ?_
      refine go_lsub (pc := 107) dX6_uneven_107 ?_
      refine go_topl (fun z19 ez19 => ?_)
      have hs := lt_t ez19 hs
      refine go_lstore (pc := 108) [some (vR 0), some (vI y1), none, none, none, some (vL y5), none, some (vL x.1), none, some (vI x.2), some (vL z19), none] dX6_uneven_108 (by decide) rfl ?_
      refine go_lload (pc := 110) dX6_uneven_110 rfl ?_
      refine go_lload (pc := 112) dX6_uneven_112 rfl ?_
      refine go_lconst (pc := 114) (0 : Int64) dX6_uneven_114 (by decide) ?_
      refine go_lcmp (pc := 115) dX6_uneven_115 ?_
      refine go_if_ge (pc := 116) 125 dX6_uneven_116 (by decide) (fun h20 => ?_) (fun h20 => ?_)
      · have hs := it_t h20 hs
        refine go_lload (pc := 125) dX6_uneven_125 rfl ?_
        refine go_ladd (pc := 127) dX6_uneven_127 ?_
        refine go_lstore (pc := 128) [some (vR 0), some (vI y1), none, none, none, some (vL y5), none, some (vL (x.1 + z19)), none, some (vI x.2), some (vL z19), none] dX6_uneven_128 (by decide) rfl ?_
        refine go_iinc (pc := 130) (x.2 + (1 : Int32)) [some (vR 0), some (vI y1), none, none, none, some (vL y5), none, some (vL (x.1 + z19)), none, some (vI (x.2 + (1 : Int32))), some (vL z19), none] dX6_uneven_130 rfl rfl (by decide) rfl ?_
        refine go_goto (pc := 133) 79 dX6_uneven_133 (by decide) ?_
        obtain rfl := Option.some.inj hs
        refine go_sub (lv' := [some (vR 0), some (vI y1), none, none, none, some (vL y5), none, some (vL (x.1 + z19)), none, some (vI (x.2 + (1 : Int32))), none, none]) ⟨rfl, ⟨rfl, ⟨rfl, ⟨rfl, ⟨rfl, trivial⟩⟩⟩⟩⟩ ?_
        exact hI _ rfl
      · have hs := it_f h20 hs
        refine go_lload (pc := 119) dX6_uneven_119 rfl ?_
        refine go_lneg (pc := 121) dX6_uneven_121 ?_
        refine go_goto (pc := 122) 127 dX6_uneven_122 (by decide) ?_
        refine go_ladd (pc := 127) dX6_uneven_127 ?_
        refine go_lstore (pc := 128) [some (vR 0), some (vI y1), none, none, none, some (vL y5), none, some (vL (x.1 + (-z19))), none, some (vI x.2), some (vL z19), none] dX6_uneven_128 (by decide) rfl ?_
        refine go_iinc (pc := 130) (x.2 + (1 : Int32)) [some (vR 0), some (vI y1), none, none, none, some (vL y5), none, some (vL (x.1 + (-z19))), none, some (vI (x.2 + (1 : Int32))), some (vL z19), none] dX6_uneven_130 rfl rfl (by decide) rfl ?_
        refine go_goto (pc := 133) 79 dX6_uneven_133 (by decide) ?_
        obtain rfl := Option.some.inj hs
        refine go_sub (lv' := [some (vR 0), some (vI y1), none, none, none, some (vL y5), none, some (vL (x.1 + (-z19))), none, some (vI (x.2 + (1 : Int32))), none, none]) ⟨rfl, ⟨rfl, ⟨rfl, ⟨rfl, ⟨rfl, trivial⟩⟩⟩⟩⟩ ?_
        exact hI _ rfl
set_option maxRecDepth 20000 in
theorem c_X6_uneven {d : Nat}  {a1 : Int32} {a2 : Int32} {a3 : Int32} {res : Int64 × (Nat → Int64) × (Nat → Int64)} (hs : s_X6_uneven kn ne wa nx a1 a2 a3 = some res) : Calls mX6_uneven (d + 3) false 0 0 [vR 0, vI a1, vI a2, vI a3] (wM kn ne fi se ma on ot ta po ti nu mo wa nx oT cF bg ed sF qu qd tr) (fun r w' => r = some (vL res.1) ∧ w' = (wM kn ne fi se ma on ot ta po ti nu mo res.2.1 res.2.2 oT cF bg ed sF qu qd tr)) := by
  unfold s_X6_uneven at hs
  refine Calls.of kX6_uneven 8 [some (vR 0), some (vI a1), some (vI a2), some (vI a3), none, none, none, none, none, none, none, none] rfl (Nat.le_of_ble_eq_true rfl) ?_
  refine go_aload_n (pc := 0) 0 dX6_uneven_0 rfl rfl ?_
  refine go_iload_n (pc := 1) 1 dX6_uneven_1 rfl rfl ?_
  refine go_iload_n (pc := 2) 2 dX6_uneven_2 rfl rfl ?_
  obtain ⟨x1, hc2, hs⟩ := bnd hs
  refine go_callV (bc := 0) (bs := 0) (mc := 0) (ms := 0) (d := d + 2) (pc := 3) (a := 0) (ci := 6) [vI a1, vI a2] [] dX6_uneven_3 kX6_isKnot mlX6_81 ivX6_isKnot rfl rfl rfl rfl (Nat.le_of_ble_eq_true rfl) rfl (c_X6_isKnot (d := d + 0) hc2) (fun r w' hq => ?_)
  obtain ⟨rfl, rfl⟩ := hq
  show Go mX6_uneven (d + 3) false 0 0 6 [some (vR 0), some (vI a1), some (vI a2), some (vI a3), none, none, none, none, none, none, none, none] [vI x1] (wM kn ne fi se ma on ot ta po ti nu mo wa nx oT cF bg ed sF qu qd tr) _
  refine go_if_eq (pc := 6) 19 dX6_uneven_6 (by decide) (fun h3 => ?_) (fun h3 => ?_)
  · have hs := it_t h3 hs
    refine go_ldc2 (pc := 19) (-2 : Int64) dX6_uneven_19 kcX6_145 ?_
    obtain rfl := Option.some.inj hs
    exact go_lreturn (st := []) (pc := 22) dX6_uneven_22 rfl (fun h => by cases h) ⟨rfl, rfl⟩
  · have hs := it_f h3 hs
    refine go_iload_n (pc := 9) 3 dX6_uneven_9 rfl rfl ?_
    refine go_iconst (pc := 10) (0 : Int32) dX6_uneven_10 (by decide) ?_
    refine go_bipush (pc := 11) (12 : Int32) dX6_uneven_11 (by decide) ?_
    obtain ⟨x4, hc5, hs⟩ := bnd hs
    refine go_callS (bc := 0) (bs := 0) (mc := 0) (ms := 0) (d := d + 2) (pc := 13) [vI a3, vI (0 : Int32), vI (12 : Int32)] [] dX6_uneven_13 kX6_in mlX6_65 isX6_in rfl (Nat.le_of_ble_eq_true rfl) rfl (c_X6_in (d := d + 2) hc5) (fun r w' hq => ?_)
    obtain ⟨rfl, rfl⟩ := hq
    show Go mX6_uneven (d + 3) false 0 0 16 [some (vR 0), some (vI a1), some (vI a2), some (vI a3), none, none, none, none, none, none, none, none] [vI x4] (wM kn ne fi se ma on ot ta po ti nu mo wa nx oT cF bg ed sF qu qd tr) _
    refine go_if_ne (pc := 16) 23 dX6_uneven_16 (by decide) (fun h6 => ?_) (fun h6 => ?_)
    · have hs := it_f h6 hs
      refine go_aload_n (pc := 23) 0 dX6_uneven_23 rfl rfl ?_
      refine go_iload_n (pc := 24) 1 dX6_uneven_24 rfl rfl ?_
      obtain ⟨x7, hc8, hs⟩ := bnd hs
      refine go_callV (bc := 0) (bs := 0) (mc := 0) (ms := 0) (d := d + 2) (pc := 25) (a := 0) (ci := 6) [vI a1] [] dX6_uneven_25 kX6_degreeOf mlX6_99 ivX6_degreeOf rfl rfl rfl rfl (Nat.le_of_ble_eq_true rfl) rfl (c_X6_degreeOf (d := d + 1) hc8) (fun r w' hq => ?_)
      obtain ⟨rfl, rfl⟩ := hq
      show Go mX6_uneven (d + 3) false 0 0 28 [some (vR 0), some (vI a1), some (vI a2), some (vI a3), none, none, none, none, none, none, none, none] [vI x7] (wM kn ne fi se ma on ot ta po ti nu mo wa nx oT cF bg ed sF qu qd tr) _
      refine go_istore (pc := 28) [some (vR 0), some (vI a1), some (vI a2), some (vI a3), some (vI x7), none, none, none, none, none, none, none] dX6_uneven_28 (by decide) rfl ?_
      refine go_iload (pc := 30) dX6_uneven_30 rfl ?_
      refine go_iconst (pc := 32) (-1 : Int32) dX6_uneven_32 (by decide) ?_
      refine go_icmp_ne (pc := 33) 40 dX6_uneven_33 (by decide) (fun h9 => ?_) (fun h9 => ?_)
      · have hs := it_f h9 hs
        refine go_aload_n (pc := 40) 0 dX6_uneven_40 rfl rfl ?_
        refine go_iload_n (pc := 41) 1 dX6_uneven_41 rfl rfl ?_
        refine go_iload_n (pc := 42) 2 dX6_uneven_42 rfl rfl ?_
        refine go_iload_n (pc := 43) 3 dX6_uneven_43 rfl rfl ?_
        obtain ⟨x10, hc11, hs⟩ := bnd hs
        refine go_callV (bc := 0) (bs := 0) (mc := 0) (ms := 0) (d := d + 2) (pc := 44) (a := 0) (ci := 6) [vI a1, vI a2, vI a3] [] dX6_uneven_44 kX6_layWalks mlX6_147 ivX6_layWalks rfl rfl rfl rfl (Nat.le_of_ble_eq_true rfl) rfl (c_X6_layWalks (d := d + 1) hc11) (fun r w' hq => ?_)
        obtain ⟨rfl, rfl⟩ := hq
        show Go mX6_uneven (d + 3) false 0 0 47 [some (vR 0), some (vI a1), some (vI a2), some (vI a3), some (vI x7), none, none, none, none, none, none, none] [] (wM kn ne fi se ma on ot ta po ti nu mo x10.1 x10.2 oT cF bg ed sF qu qd tr) _
        refine go_lconst (pc := 47) (1 : Int64) dX6_uneven_47 (by decide) ?_
        refine go_lstore (pc := 48) [some (vR 0), some (vI a1), some (vI a2), some (vI a3), some (vI x7), some (vL (1 : Int64)), none, none, none, none, none, none] dX6_uneven_48 (by decide) rfl ?_
        refine go_iconst (pc := 50) (0 : Int32) dX6_uneven_50 (by decide) ?_
        refine go_istore (pc := 51) [some (vR 0), some (vI a1), some (vI a2), some (vI a3), some (vI x7), some (vL (1 : Int64)), none, some (vI (0 : Int32)), none, none, none, none] dX6_uneven_51 (by decide) rfl ?_
        refine go_sub (lv' := [some (vR 0), some (vI a1), none, some (vI a3), some (vI x7), some (vL (1 : Int64)), none, some (vI (0 : Int32)), none, none, none, none]) ⟨rfl, ⟨rfl, ⟨rfl, ⟨rfl, ⟨rfl, ⟨rfl, trivial⟩⟩⟩⟩⟩⟩ ?_
        obtain ⟨e13, hl14, hs⟩ := bnd hs
        refine g_X6_uneven_53 (d := d) _ e13 hl14 ?_
        refine go_lconst (pc := 73) (0 : Int64) dX6_uneven_73 (by decide) ?_
        refine go_lstore (pc := 74) [some (vR 0), some (vI a1), none, none, none, some (vL e13), none, some (vL (0 : Int64)), none, none, none, none] dX6_uneven_74 (by decide) rfl ?_
        refine go_iconst (pc := 76) (0 : Int32) dX6_uneven_76 (by decide) ?_
        refine go_istore (pc := 77) [some (vR 0), some (vI a1), none, none, none, some (vL e13), none, some (vL (0 : Int64)), none, some (vI (0 : Int32)), none, none] dX6_uneven_77 (by decide) rfl ?_
        obtain ⟨e21, hl22, hs⟩ := bnd hs
        refine g_X6_uneven_79 (d := d) _ e21 hl22 ?_
        refine go_lload (pc := 136) dX6_uneven_136 rfl ?_
        obtain rfl := Option.some.inj hs
        exact go_lreturn (st := []) (pc := 138) dX6_uneven_138 rfl (fun h => by cases h) ⟨rfl, rfl⟩
      · have hs := it_t h9 hs
        refine go_ldc2 (pc := 36) (-3 : Int64) dX6_uneven_36 kcX6_150 ?_
        obtain rfl := Option.some.inj hs
        exact go_lreturn (st := []) (pc := 39) dX6_uneven_39 rfl (fun h => by cases h) ⟨rfl, rfl⟩
    · have hs := it_t h6 hs
      refine go_ldc2 (pc := 19) (-2 : Int64) dX6_uneven_19 kcX6_145 ?_
      obtain rfl := Option.some.inj hs
      exact go_lreturn (st := []) (pc := 22) dX6_uneven_22 rfl (fun h => by cases h) ⟨rfl, rfl⟩
noncomputable def s_X6_see (sF : (Nat → Int32)) (qu : (Nat → Int32)) (qd : Int32) (a1 : Int32) (a2 : Int32) : Option ((Nat → Int32) × (Nat → Int32) × Int32) := chk a1 20 (if (sF a1.toNatClampNeg) = (-2 : Int32) then (chk a1 20 (chk qd 20 (some (upd sF a1.toNatClampNeg a2, upd qu qd.toNatClampNeg a1, qd + (1 : Int32))))) else (some (sF, qu, qd)))
set_option maxRecDepth 20000 in
theorem c_X6_see {d : Nat}  {a1 : Int32} {a2 : Int32} {res : (Nat → Int32) × (Nat → Int32) × Int32} (hs : s_X6_see sF qu qd a1 a2 = some res) : Calls mX6_see (d + 0) false 0 0 [vR 0, vI a1, vI a2] (wM kn ne fi se ma on ot ta po ti nu mo wa nx oT cF bg ed sF qu qd tr) (fun r w' => r = none ∧ w' = (wM kn ne fi se ma on ot ta po ti nu mo wa nx oT cF bg ed res.1 res.2.1 res.2.2 tr)) := by
  unfold s_X6_see at hs
  refine Calls.of kX6_see 0 [some (vR 0), some (vI a1), some (vI a2)] rfl (Nat.le_of_ble_eq_true rfl) ?_
  refine go_aload_n (pc := 0) 0 dX6_see_0 rfl rfl ?_
  refine go_getfield (pc := 1) (v := vR 16) 0 6 18 dX6_see_1 flX6_56 rfl rfl ?_
  refine go_iload_n (pc := 4) 1 dX6_see_4 rfl rfl ?_
  obtain ⟨hi1, hs⟩ := chk_t hs
  refine go_iaload (pc := 5) 16 dX6_see_5 rfl hi1 ?_
  refine go_bipush (pc := 6) (-2 : Int32) dX6_see_6 (by decide) ?_
  refine go_icmp_ne (pc := 8) 38 dX6_see_8 (by decide) (fun h2 => ?_) (fun h2 => ?_)
  · have hs := it_f h2 hs
    obtain rfl := Option.some.inj hs
    exact go_return (st := []) (pc := 38) dX6_see_38 rfl (fun h => by cases h) ⟨rfl, rfl⟩
  · have hs := it_t h2 hs
    refine go_aload_n (pc := 11) 0 dX6_see_11 rfl rfl ?_
    refine go_getfield (pc := 12) (v := vR 16) 0 6 18 dX6_see_12 flX6_56 rfl rfl ?_
    refine go_iload_n (pc := 15) 1 dX6_see_15 rfl rfl ?_
    refine go_iload_n (pc := 16) 2 dX6_see_16 rfl rfl ?_
    obtain ⟨hi3, hs⟩ := chk_t hs
    refine go_iastore (pc := 17) 16 dX6_see_17 rfl hi3 (show Go mX6_see (d + 0) false 0 0 18 [some (vR 0), some (vI a1), some (vI a2)] [] (wM kn ne fi se ma on ot ta po ti nu mo wa nx oT cF bg ed (upd sF a1.toNatClampNeg a2) qu qd tr) _ from ?_)
    refine go_aload_n (pc := 18) 0 dX6_see_18 rfl rfl ?_
    refine go_getfield (pc := 19) (v := vR 17) 0 6 19 dX6_see_19 flX6_59 rfl rfl ?_
    refine go_aload_n (pc := 22) 0 dX6_see_22 rfl rfl ?_
    refine go_getfield (pc := 23) (v := vI qd) 0 6 20 dX6_see_23 flX6_152 rfl rfl ?_
    refine go_iload_n (pc := 26) 1 dX6_see_26 rfl rfl ?_
    obtain ⟨hi4, hs⟩ := chk_t hs
    refine go_iastore (pc := 27) 17 dX6_see_27 rfl hi4 (show Go mX6_see (d + 0) false 0 0 28 [some (vR 0), some (vI a1), some (vI a2)] [] (wM kn ne fi se ma on ot ta po ti nu mo wa nx oT cF bg ed (upd sF a1.toNatClampNeg a2) (upd qu qd.toNatClampNeg a1) qd tr) _ from ?_)
    refine go_aload_n (pc := 28) 0 dX6_see_28 rfl rfl ?_
    refine go_dup (pc := 29) dX6_see_29 rfl ?_
    refine go_getfield (pc := 30) (v := vI qd) 0 6 20 dX6_see_30 flX6_152 rfl rfl ?_
    refine go_iconst (pc := 33) (1 : Int32) dX6_see_33 (by decide) ?_
    refine go_iadd (pc := 34) dX6_see_34 ?_
    refine go_putI (pc := 35) 0 6 20 dX6_see_35 fpX6_152 rfl (Nat.le_of_ble_eq_true rfl) (show Go mX6_see (d + 0) false 0 0 38 [some (vR 0), some (vI a1), some (vI a2)] [] (wM kn ne fi se ma on ot ta po ti nu mo wa nx oT cF bg ed (upd sF a1.toNatClampNeg a2) (upd qu qd.toNatClampNeg a1) (qd + (1 : Int32)) tr) _ from ?_)
    obtain rfl := Option.some.inj hs
    exact go_return (st := []) (pc := 38) dX6_see_38 rfl (fun h => by cases h) ⟨rfl, rfl⟩
noncomputable def s_X6_isUsed (cF : (Nat → Int32)) (bg : Int32) (a1 : Int32) : Option (Int32) := if ((bg >>> (a1 &&& 31)) &&& (1 : Int32)) = (1 : Int32) then (some (1 : Int32)) else (chk a1 10 (if (cF a1.toNatClampNeg) < 0 then (some (0 : Int32)) else (some (1 : Int32))))
set_option maxRecDepth 20000 in
theorem c_X6_isUsed {d : Nat}  {a1 : Int32} {res : Int32} (hs : s_X6_isUsed cF bg a1 = some res) : Calls mX6_isUsed (d + 0) false 0 0 [vR 0, vI a1] (wM kn ne fi se ma on ot ta po ti nu mo wa nx oT cF bg ed sF qu qd tr) (fun r w' => r = some (vI res) ∧ w' = (wM kn ne fi se ma on ot ta po ti nu mo wa nx oT cF bg ed sF qu qd tr)) := by
  unfold s_X6_isUsed at hs
  refine Calls.of kX6_isUsed 0 [some (vR 0), some (vI a1)] rfl (Nat.le_of_ble_eq_true rfl) ?_
  refine go_aload_n (pc := 0) 0 dX6_isUsed_0 rfl rfl ?_
  refine go_getfield (pc := 1) (v := vI bg) 0 6 16 dX6_isUsed_1 flX6_155 rfl rfl ?_
  refine go_iload_n (pc := 4) 1 dX6_isUsed_4 rfl rfl ?_
  refine go_ishr (pc := 5) dX6_isUsed_5 ?_
  refine go_iconst (pc := 6) (1 : Int32) dX6_isUsed_6 (by decide) ?_
  refine go_iand (pc := 7) dX6_isUsed_7 ?_
  refine go_iconst (pc := 8) (1 : Int32) dX6_isUsed_8 (by decide) ?_
  refine go_icmp_eq (pc := 9) 21 dX6_isUsed_9 (by decide) (fun h1 => ?_) (fun h1 => ?_)
  · have hs := it_t h1 hs
    refine go_iconst (pc := 21) (1 : Int32) dX6_isUsed_21 (by decide) ?_
    refine go_goto (pc := 22) 26 dX6_isUsed_22 (by decide) ?_
    obtain rfl := Option.some.inj hs
    exact go_ireturn (st := []) (pc := 26) dX6_isUsed_26 rfl rfl (fun h => by cases h) ⟨rfl, rfl⟩
  · have hs := it_f h1 hs
    refine go_aload_n (pc := 12) 0 dX6_isUsed_12 rfl rfl ?_
    refine go_getfield (pc := 13) (v := vR 15) 0 6 15 dX6_isUsed_13 flX6_53 rfl rfl ?_
    refine go_iload_n (pc := 16) 1 dX6_isUsed_16 rfl rfl ?_
    obtain ⟨hi2, hs⟩ := chk_t hs
    refine go_iaload (pc := 17) 15 dX6_isUsed_17 rfl hi2 ?_
    refine go_if_lt (pc := 18) 25 dX6_isUsed_18 (by decide) (fun h3 => ?_) (fun h3 => ?_)
    · have hs := it_t h3 hs
      refine go_iconst (pc := 25) (0 : Int32) dX6_isUsed_25 (by decide) ?_
      obtain rfl := Option.some.inj hs
      exact go_ireturn (st := []) (pc := 26) dX6_isUsed_26 rfl rfl (fun h => by cases h) ⟨rfl, rfl⟩
    · have hs := it_f h3 hs
      refine go_iconst (pc := 21) (1 : Int32) dX6_isUsed_21 (by decide) ?_
      refine go_goto (pc := 22) 26 dX6_isUsed_22 (by decide) ?_
      obtain rfl := Option.some.inj hs
      exact go_ireturn (st := []) (pc := 26) dX6_isUsed_26 rfl rfl (fun h => by cases h) ⟨rfl, rfl⟩
noncomputable def b_X6_lay_4 (sF : (Nat → Int32)) (x : Int32 × Int32 × (Nat → Int32)) : Option ((Int32 × Int32 × (Nat → Int32)) ⊕ (Int32 × (Nat → Int32))) := if x.2.1 < 0 then (some (Sum.inr (x.1, x.2.2))) else (chk x.1 20 (chk x.2.1 20 (some (Sum.inl (x.1 + (1 : Int32), sF x.2.1.toNatClampNeg, upd x.2.2 x.1.toNatClampNeg x.2.1)))))
noncomputable def b_X6_lay_67 (tr : (Nat → Int32)) (x : Int32 × (Nat → Int32) × (Nat → Int32)) : Option ((Int32 × (Nat → Int32) × (Nat → Int32)) ⊕ ((Nat → Int32) × (Nat → Int32))) := if x.1 ≤ 0 then (some (Sum.inr (x.2.1, x.2.2))) else (chk x.1 20 (chk (x.1 - (1 : Int32)) 20 (if ((tr x.1.toNatClampNeg) / (2 : Int32)) = ((tr (x.1 - (1 : Int32)).toNatClampNeg) / (2 : Int32)) then (some (Sum.inl (x.1 + (-1 : Int32), x.2.1, x.2.2))) else (if ((tr x.1.toNatClampNeg) - (tr x.1.toNatClampNeg) / (2 : Int32) * (2 : Int32)) = 0 then (chk ((tr (x.1 - (1 : Int32)).toNatClampNeg) / (2 : Int32)) 10 (chk ((tr x.1.toNatClampNeg) / (2 : Int32)) 10 (some (Sum.inl (x.1 + (-1 : Int32), upd x.2.1 ((tr (x.1 - (1 : Int32)).toNatClampNeg) / (2 : Int32)).toNatClampNeg (-1 : Int32), upd x.2.2 ((tr x.1.toNatClampNeg) / (2 : Int32)).toNatClampNeg (-1 : Int32)))))) else (some (Sum.inl (x.1 + (-1 : Int32), x.2.1, x.2.2)))))))
noncomputable def b_X6_lay_137 (tr : (Nat → Int32)) (x : Int32 × (Nat → Int32) × (Nat → Int32)) : Option ((Int32 × (Nat → Int32) × (Nat → Int32)) ⊕ ((Nat → Int32) × (Nat → Int32))) := if x.1 ≤ 0 then (some (Sum.inr (x.2.1, x.2.2))) else (chk x.1 20 (chk (x.1 - (1 : Int32)) 20 (if ((tr x.1.toNatClampNeg) / (2 : Int32)) = ((tr (x.1 - (1 : Int32)).toNatClampNeg) / (2 : Int32)) then (some (Sum.inl (x.1 + (-1 : Int32), x.2.1, x.2.2))) else (if ((tr x.1.toNatClampNeg) - (tr x.1.toNatClampNeg) / (2 : Int32) * (2 : Int32)) = (1 : Int32) then (chk ((tr x.1.toNatClampNeg) / (2 : Int32)) 10 (chk ((tr (x.1 - (1 : Int32)).toNatClampNeg) / (2 : Int32)) 10 (some (Sum.inl (x.1 + (-1 : Int32), upd x.2.1 ((tr x.1.toNatClampNeg) / (2 : Int32)).toNatClampNeg ((tr (x.1 - (1 : Int32)).toNatClampNeg) / (2 : Int32)), upd x.2.2 ((tr (x.1 - (1 : Int32)).toNatClampNeg) / (2 : Int32)).toNatClampNeg ((tr x.1.toNatClampNeg) / (2 : Int32))))))) else (some (Sum.inl (x.1 + (-1 : Int32), x.2.1, x.2.2)))))))
noncomputable def s_X6_lay (oT : (Nat → Int32)) (cF : (Nat → Int32)) (bg : Int32) (ed : Int32) (sF : (Nat → Int32)) (tr : (Nat → Int32)) (a1 : Int32) : Option ((Nat → Int32) × (Nat → Int32) × Int32 × Int32 × (Nat → Int32)) := (loop (b_X6_lay_4 sF) ((0 : Int32), a1, tr)).bind (fun e4 => chk (e4.1 - (1 : Int32)) 20 ((loop (b_X6_lay_67 e4.2) (e4.1 - (1 : Int32), oT, cF)).bind (fun e14 => (loop (b_X6_lay_137 e4.2) (e4.1 - (1 : Int32), e14.1, e14.2)).bind (fun e23 => some (e23.1, e23.2, bg ||| ((1 : Int32) <<< (((e4.2 (e4.1 - (1 : Int32)).toNatClampNeg) / (2 : Int32)) &&& 31)), ed ||| ((1 : Int32) <<< ((a1 / (2 : Int32)) &&& 31)), e4.2)))))
set_option maxRecDepth 20000 in
theorem g_X6_lay_4 {d : Nat} {Q : Option AV → List AC → Prop} {y1 : Int32} (x : Int32 × Int32 × (Nat → Int32)) (r : Int32 × (Nat → Int32)) (hl : loop (b_X6_lay_4 sF) x = some r) (hk : (fun r : Int32 × (Nat → Int32) => Go mX6_lay (d + 0) false 0 0 28 [some (vR 0), some (vI y1), some (vI r.1), none, none, none] [] (wM kn ne fi se ma on ot ta po ti nu mo wa nx oT cF bg ed sF qu qd r.2) Q) r) : (fun x : Int32 × Int32 × (Nat → Int32) => Go mX6_lay (d + 0) false 0 0 4 [some (vR 0), some (vI y1), some (vI x.1), some (vI x.2.1), none, none] [] (wM kn ne fi se ma on ot ta po ti nu mo wa nx oT cF bg ed sF qu qd x.2.2) Q) x := by
  refine loop_go (P := fun x : Int32 × Int32 × (Nat → Int32) => Go mX6_lay (d + 0) false 0 0 4 [some (vR 0), some (vI y1), some (vI x.1), some (vI x.2.1), none, none] [] (wM kn ne fi se ma on ot ta po ti nu mo wa nx oT cF bg ed sF qu qd x.2.2) Q) (K := fun r : Int32 × (Nat → Int32) => Go mX6_lay (d + 0) false 0 0 28 [some (vR 0), some (vI y1), some (vI r.1), none, none, none] [] (wM kn ne fi se ma on ot ta po ti nu mo wa nx oT cF bg ed sF qu qd r.2) Q) ?_ x r hl hk
  · intro x y hs hI hE
    unfold b_X6_lay_4 at hs
    show Go mX6_lay (d + 0) false 0 0 4 [some (vR 0), some (vI y1), some (vI x.1), some (vI x.2.1), none, none] [] (wM kn ne fi se ma on ot ta po ti nu mo wa nx oT cF bg ed sF qu qd x.2.2) Q
    refine go_iload_n (pc := 4) 3 dX6_lay_4 rfl rfl ?_
    refine go_if_lt (pc := 5) 28 dX6_lay_5 (by decide) (fun h1 => ?_) (fun h1 => ?_)
    · have hs := it_t h1 hs
      obtain rfl := Option.some.inj hs
      refine go_sub (lv' := [some (vR 0), some (vI y1), some (vI x.1), none, none, none]) ⟨rfl, ⟨rfl, ⟨rfl, trivial⟩⟩⟩ ?_
      exact hE _ rfl
    · have hs := it_f h1 hs
      refine go_aload_n (pc := 8) 0 dX6_lay_8 rfl rfl ?_
      refine go_getfield (pc := 9) (v := vR 18) 0 6 21 dX6_lay_9 flX6_62 rfl rfl ?_
      refine go_iload_n (pc := 12) 2 dX6_lay_12 rfl rfl ?_
      refine go_iload_n (pc := 13) 3 dX6_lay_13 rfl rfl ?_
      obtain ⟨hi2, hs⟩ := chk_t hs
      refine go_iastore (pc := 14) 18 dX6_lay_14 rfl hi2 (show Go mX6_lay (d + 0) false 0 0 15 [some (vR 0), some (vI y1), some (vI x.1), some (vI x.2.1), none, none] [] (wM kn ne fi se ma on ot ta po ti nu mo wa nx oT cF bg ed sF qu qd (upd x.2.2 x.1.toNatClampNeg x.2.1)) Q from ?_)
      refine go_iinc (pc := 15) (x.1 + (1 : Int32)) [some (vR 0), some (vI y1), some (vI (x.1 + (1 : Int32))), some (vI x.2.1), none, none] dX6_lay_15 rfl rfl (by decide) rfl ?_
      refine go_aload_n (pc := 18) 0 dX6_lay_18 rfl rfl ?_
      refine go_getfield (pc := 19) (v := vR 16) 0 6 18 dX6_lay_19 flX6_56 rfl rfl ?_
      refine go_iload_n (pc := 22) 3 dX6_lay_22 rfl rfl ?_
      obtain ⟨hi3, hs⟩ := chk_t hs
      refine go_iaload (pc := 23) 16 dX6_lay_23 rfl hi3 ?_
      refine go_istore_n (pc := 24) 3 [some (vR 0), some (vI y1), some (vI (x.1 + (1 : Int32))), some (vI (sF x.2.1.toNatClampNeg)), none, none] dX6_lay_24 rfl (by decide) rfl ?_
      refine go_goto (pc := 25) 4 dX6_lay_25 (by decide) ?_
      obtain rfl := Option.some.inj hs
      exact hI _ rfl
set_option maxRecDepth 20000 in
theorem g_X6_lay_67 {d : Nat} {Q : Option AV → List AC → Prop} {y2 : Int32} (x : Int32 × (Nat → Int32) × (Nat → Int32)) (r : (Nat → Int32) × (Nat → Int32)) (hl : loop (b_X6_lay_67 tr) x = some r) (hk : (fun r : (Nat → Int32) × (Nat → Int32) => Go mX6_lay (d + 0) false 0 0 133 [some (vR 0), none, some (vI y2), none, none, none] [] (wM kn ne fi se ma on ot ta po ti nu mo wa nx r.1 r.2 bg ed sF qu qd tr) Q) r) : (fun x : Int32 × (Nat → Int32) × (Nat → Int32) => Go mX6_lay (d + 0) false 0 0 67 [some (vR 0), none, some (vI y2), some (vI x.1), none, none] [] (wM kn ne fi se ma on ot ta po ti nu mo wa nx x.2.1 x.2.2 bg ed sF qu qd tr) Q) x := by
  refine loop_go (P := fun x : Int32 × (Nat → Int32) × (Nat → Int32) => Go mX6_lay (d + 0) false 0 0 67 [some (vR 0), none, some (vI y2), some (vI x.1), none, none] [] (wM kn ne fi se ma on ot ta po ti nu mo wa nx x.2.1 x.2.2 bg ed sF qu qd tr) Q) (K := fun r : (Nat → Int32) × (Nat → Int32) => Go mX6_lay (d + 0) false 0 0 133 [some (vR 0), none, some (vI y2), none, none, none] [] (wM kn ne fi se ma on ot ta po ti nu mo wa nx r.1 r.2 bg ed sF qu qd tr) Q) ?_ x r hl hk
  · intro x y hs hI hE
    unfold b_X6_lay_67 at hs
    show Go mX6_lay (d + 0) false 0 0 67 [some (vR 0), none, some (vI y2), some (vI x.1), none, none] [] (wM kn ne fi se ma on ot ta po ti nu mo wa nx x.2.1 x.2.2 bg ed sF qu qd tr) Q
    refine go_iload_n (pc := 67) 3 dX6_lay_67 rfl rfl ?_
    refine go_if_le (pc := 68) 133 dX6_lay_68 (by decide) (fun h7 => ?_) (fun h7 => ?_)
    · have hs := it_t h7 hs
      obtain rfl := Option.some.inj hs
      refine go_sub (lv' := [some (vR 0), none, some (vI y2), none, none, none]) ⟨rfl, ⟨rfl, trivial⟩⟩ ?_
      exact hE _ rfl
    · have hs := it_f h7 hs
      refine go_aload_n (pc := 71) 0 dX6_lay_71 rfl rfl ?_
      refine go_getfield (pc := 72) (v := vR 18) 0 6 21 dX6_lay_72 flX6_62 rfl rfl ?_
      refine go_iload_n (pc := 75) 3 dX6_lay_75 rfl rfl ?_
      obtain ⟨hi8, hs⟩ := chk_t hs
      refine go_iaload (pc := 76) 18 dX6_lay_76 rfl hi8 ?_
      refine go_istore (pc := 77) [some (vR 0), none, some (vI y2), some (vI x.1), some (vI (tr x.1.toNatClampNeg)), none] dX6_lay_77 (by decide) rfl ?_
      refine go_aload_n (pc := 79) 0 dX6_lay_79 rfl rfl ?_
      refine go_getfield (pc := 80) (v := vR 18) 0 6 21 dX6_lay_80 flX6_62 rfl rfl ?_
      refine go_iload_n (pc := 83) 3 dX6_lay_83 rfl rfl ?_
      refine go_iconst (pc := 84) (1 : Int32) dX6_lay_84 (by decide) ?_
      refine go_isub (pc := 85) dX6_lay_85 ?_
      obtain ⟨hi9, hs⟩ := chk_t hs
      refine go_iaload (pc := 86) 18 dX6_lay_86 rfl hi9 ?_
      refine go_istore (pc := 87) [some (vR 0), none, some (vI y2), some (vI x.1), some (vI (tr x.1.toNatClampNeg)), some (vI (tr (x.1 - (1 : Int32)).toNatClampNeg))] dX6_lay_87 (by decide) rfl ?_
      refine go_iload (pc := 89) dX6_lay_89 rfl ?_
      refine go_iconst (pc := 91) (2 : Int32) dX6_lay_91 (by decide) ?_
      refine go_idiv (pc := 92) dX6_lay_92 (by decide) ?_
      refine go_iload (pc := 93) dX6_lay_93 rfl ?_
      refine go_iconst (pc := 95) (2 : Int32) dX6_lay_95 (by decide) ?_
      refine go_idiv (pc := 96) dX6_lay_96 (by decide) ?_
      refine go_icmp_eq (pc := 97) 127 dX6_lay_97 (by decide) (fun h10 => ?_) (fun h10 => ?_)
      · have hs := it_t h10 hs
        refine go_iinc (pc := 127) (x.1 + (-1 : Int32)) [some (vR 0), none, some (vI y2), some (vI (x.1 + (-1 : Int32))), some (vI (tr x.1.toNatClampNeg)), some (vI (tr (x.1 - (1 : Int32)).toNatClampNeg))] dX6_lay_127 rfl rfl (by decide) rfl ?_
        refine go_goto (pc := 130) 67 dX6_lay_130 (by decide) ?_
        obtain rfl := Option.some.inj hs
        refine go_sub (lv' := [some (vR 0), none, some (vI y2), some (vI (x.1 + (-1 : Int32))), none, none]) ⟨rfl, ⟨rfl, ⟨rfl, trivial⟩⟩⟩ ?_
        exact hI _ rfl
      · have hs := it_f h10 hs
        refine go_iload (pc := 100) dX6_lay_100 rfl ?_
        refine go_iconst (pc := 102) (2 : Int32) dX6_lay_102 (by decide) ?_
        refine go_irem (pc := 103) dX6_lay_103 (by decide) ?_
        refine go_if_ne (pc := 104) 127 dX6_lay_104 (by decide) (fun h11 => ?_) (fun h11 => ?_)
        · have hs := it_f h11 hs
          refine go_iinc (pc := 127) (x.1 + (-1 : Int32)) [some (vR 0), none, some (vI y2), some (vI (x.1 + (-1 : Int32))), some (vI (tr x.1.toNatClampNeg)), some (vI (tr (x.1 - (1 : Int32)).toNatClampNeg))] dX6_lay_127 rfl rfl (by decide) rfl ?_
          refine go_goto (pc := 130) 67 dX6_lay_130 (by decide) ?_
          obtain rfl := Option.some.inj hs
          refine go_sub (lv' := [some (vR 0), none, some (vI y2), some (vI (x.1 + (-1 : Int32))), none, none]) ⟨rfl, ⟨rfl, ⟨rfl, trivial⟩⟩⟩ ?_
          exact hI _ rfl
        · have hs := it_t h11 hs
          refine go_aload_n (pc := 107) 0 dX6_lay_107 rfl rfl ?_
          refine go_getfield (pc := 108) (v := vR 14) 0 6 14 dX6_lay_108 flX6_50 rfl rfl ?_
          refine go_iload (pc := 111) dX6_lay_111 rfl ?_
          refine go_iconst (pc := 113) (2 : Int32) dX6_lay_113 (by decide) ?_
          refine go_idiv (pc := 114) dX6_lay_114 (by decide) ?_
          refine go_iconst (pc := 115) (-1 : Int32) dX6_lay_115 (by decide) ?_
          obtain ⟨hi12, hs⟩ := chk_t hs
          refine go_iastore (pc := 116) 14 dX6_lay_116 rfl hi12 (show Go mX6_lay (d + 0) false 0 0 117 [some (vR 0), none, some (vI y2), some (vI x.1), some (vI (tr x.1.toNatClampNeg)), some (vI (tr (x.1 - (1 : Int32)).toNatClampNeg))] [] (wM kn ne fi se ma on ot ta po ti nu mo wa nx (upd x.2.1 ((tr (x.1 - (1 : Int32)).toNatClampNeg) / (2 : Int32)).toNatClampNeg (-1 : Int32)) x.2.2 bg ed sF qu qd tr) Q from ?_)
          refine go_aload_n (pc := 117) 0 dX6_lay_117 rfl rfl ?_
          refine go_getfield (pc := 118) (v := vR 15) 0 6 15 dX6_lay_118 flX6_53 rfl rfl ?_
          refine go_iload (pc := 121) dX6_lay_121 rfl ?_
          refine go_iconst (pc := 123) (2 : Int32) dX6_lay_123 (by decide) ?_
          refine go_idiv (pc := 124) dX6_lay_124 (by decide) ?_
          refine go_iconst (pc := 125) (-1 : Int32) dX6_lay_125 (by decide) ?_
          obtain ⟨hi13, hs⟩ := chk_t hs
          refine go_iastore (pc := 126) 15 dX6_lay_126 rfl hi13 (show Go mX6_lay (d + 0) false 0 0 127 [some (vR 0), none, some (vI y2), some (vI x.1), some (vI (tr x.1.toNatClampNeg)), some (vI (tr (x.1 - (1 : Int32)).toNatClampNeg))] [] (wM kn ne fi se ma on ot ta po ti nu mo wa nx (upd x.2.1 ((tr (x.1 - (1 : Int32)).toNatClampNeg) / (2 : Int32)).toNatClampNeg (-1 : Int32)) (upd x.2.2 ((tr x.1.toNatClampNeg) / (2 : Int32)).toNatClampNeg (-1 : Int32)) bg ed sF qu qd tr) Q from ?_)
          refine go_iinc (pc := 127) (x.1 + (-1 : Int32)) [some (vR 0), none, some (vI y2), some (vI (x.1 + (-1 : Int32))), some (vI (tr x.1.toNatClampNeg)), some (vI (tr (x.1 - (1 : Int32)).toNatClampNeg))] dX6_lay_127 rfl rfl (by decide) rfl ?_
          refine go_goto (pc := 130) 67 dX6_lay_130 (by decide) ?_
          obtain rfl := Option.some.inj hs
          refine go_sub (lv' := [some (vR 0), none, some (vI y2), some (vI (x.1 + (-1 : Int32))), none, none]) ⟨rfl, ⟨rfl, ⟨rfl, trivial⟩⟩⟩ ?_
          exact hI _ rfl
set_option maxRecDepth 20000 in
theorem g_X6_lay_137 {d : Nat} {Q : Option AV → List AC → Prop}  (x : Int32 × (Nat → Int32) × (Nat → Int32)) (r : (Nat → Int32) × (Nat → Int32)) (hl : loop (b_X6_lay_137 tr) x = some r) (hk : (fun r : (Nat → Int32) × (Nat → Int32) => Go mX6_lay (d + 0) false 0 0 210 [none, none, none, none, none, none] [] (wM kn ne fi se ma on ot ta po ti nu mo wa nx r.1 r.2 bg ed sF qu qd tr) Q) r) : (fun x : Int32 × (Nat → Int32) × (Nat → Int32) => Go mX6_lay (d + 0) false 0 0 137 [some (vR 0), none, none, some (vI x.1), none, none] [] (wM kn ne fi se ma on ot ta po ti nu mo wa nx x.2.1 x.2.2 bg ed sF qu qd tr) Q) x := by
  refine loop_go (P := fun x : Int32 × (Nat → Int32) × (Nat → Int32) => Go mX6_lay (d + 0) false 0 0 137 [some (vR 0), none, none, some (vI x.1), none, none] [] (wM kn ne fi se ma on ot ta po ti nu mo wa nx x.2.1 x.2.2 bg ed sF qu qd tr) Q) (K := fun r : (Nat → Int32) × (Nat → Int32) => Go mX6_lay (d + 0) false 0 0 210 [none, none, none, none, none, none] [] (wM kn ne fi se ma on ot ta po ti nu mo wa nx r.1 r.2 bg ed sF qu qd tr) Q) ?_ x r hl hk
  · intro x y hs hI hE
    unfold b_X6_lay_137 at hs
    show Go mX6_lay (d + 0) false 0 0 137 [some (vR 0), none, none, some (vI x.1), none, none] [] (wM kn ne fi se ma on ot ta po ti nu mo wa nx x.2.1 x.2.2 bg ed sF qu qd tr) Q
    refine go_iload_n (pc := 137) 3 dX6_lay_137 rfl rfl ?_
    refine go_if_le (pc := 138) 210 dX6_lay_138 (by decide) (fun h16 => ?_) (fun h16 => ?_)
    · have hs := it_t h16 hs
      obtain rfl := Option.some.inj hs
      refine go_sub (lv' := [none, none, none, none, none, none]) trivial ?_
      exact hE _ rfl
    · have hs := it_f h16 hs
      refine go_aload_n (pc := 141) 0 dX6_lay_141 rfl rfl ?_
      refine go_getfield (pc := 142) (v := vR 18) 0 6 21 dX6_lay_142 flX6_62 rfl rfl ?_
      refine go_iload_n (pc := 145) 3 dX6_lay_145 rfl rfl ?_
      obtain ⟨hi17, hs⟩ := chk_t hs
      refine go_iaload (pc := 146) 18 dX6_lay_146 rfl hi17 ?_
      refine go_istore (pc := 147) [some (vR 0), none, none, some (vI x.1), some (vI (tr x.1.toNatClampNeg)), none] dX6_lay_147 (by decide) rfl ?_
      refine go_aload_n (pc := 149) 0 dX6_lay_149 rfl rfl ?_
      refine go_getfield (pc := 150) (v := vR 18) 0 6 21 dX6_lay_150 flX6_62 rfl rfl ?_
      refine go_iload_n (pc := 153) 3 dX6_lay_153 rfl rfl ?_
      refine go_iconst (pc := 154) (1 : Int32) dX6_lay_154 (by decide) ?_
      refine go_isub (pc := 155) dX6_lay_155 ?_
      obtain ⟨hi18, hs⟩ := chk_t hs
      refine go_iaload (pc := 156) 18 dX6_lay_156 rfl hi18 ?_
      refine go_istore (pc := 157) [some (vR 0), none, none, some (vI x.1), some (vI (tr x.1.toNatClampNeg)), some (vI (tr (x.1 - (1 : Int32)).toNatClampNeg))] dX6_lay_157 (by decide) rfl ?_
      refine go_iload (pc := 159) dX6_lay_159 rfl ?_
      refine go_iconst (pc := 161) (2 : Int32) dX6_lay_161 (by decide) ?_
      refine go_idiv (pc := 162) dX6_lay_162 (by decide) ?_
      refine go_iload (pc := 163) dX6_lay_163 rfl ?_
      refine go_iconst (pc := 165) (2 : Int32) dX6_lay_165 (by decide) ?_
      refine go_idiv (pc := 166) dX6_lay_166 (by decide) ?_
      refine go_icmp_eq (pc := 167) 204 dX6_lay_167 (by decide) (fun h19 => ?_) (fun h19 => ?_)
      · have hs := it_t h19 hs
        refine go_iinc (pc := 204) (x.1 + (-1 : Int32)) [some (vR 0), none, none, some (vI (x.1 + (-1 : Int32))), some (vI (tr x.1.toNatClampNeg)), some (vI (tr (x.1 - (1 : Int32)).toNatClampNeg))] dX6_lay_204 rfl rfl (by decide) rfl ?_
        refine go_goto (pc := 207) 137 dX6_lay_207 (by decide) ?_
        obtain rfl := Option.some.inj hs
        refine go_sub (lv' := [some (vR 0), none, none, some (vI (x.1 + (-1 : Int32))), none, none]) ⟨rfl, ⟨rfl, trivial⟩⟩ ?_
        exact hI _ rfl
      · have hs := it_f h19 hs
        refine go_iload (pc := 170) dX6_lay_170 rfl ?_
        refine go_iconst (pc := 172) (2 : Int32) dX6_lay_172 (by decide) ?_
        refine go_irem (pc := 173) dX6_lay_173 (by decide) ?_
        refine go_iconst (pc := 174) (1 : Int32) dX6_lay_174 (by decide) ?_
        refine go_icmp_ne (pc := 175) 204 dX6_lay_175 (by decide) (fun h20 => ?_) (fun h20 => ?_)
        · have hs := it_f h20 hs
          refine go_iinc (pc := 204) (x.1 + (-1 : Int32)) [some (vR 0), none, none, some (vI (x.1 + (-1 : Int32))), some (vI (tr x.1.toNatClampNeg)), some (vI (tr (x.1 - (1 : Int32)).toNatClampNeg))] dX6_lay_204 rfl rfl (by decide) rfl ?_
          refine go_goto (pc := 207) 137 dX6_lay_207 (by decide) ?_
          obtain rfl := Option.some.inj hs
          refine go_sub (lv' := [some (vR 0), none, none, some (vI (x.1 + (-1 : Int32))), none, none]) ⟨rfl, ⟨rfl, trivial⟩⟩ ?_
          exact hI _ rfl
        · have hs := it_t h20 hs
          refine go_aload_n (pc := 178) 0 dX6_lay_178 rfl rfl ?_
          refine go_getfield (pc := 179) (v := vR 14) 0 6 14 dX6_lay_179 flX6_50 rfl rfl ?_
          refine go_iload (pc := 182) dX6_lay_182 rfl ?_
          refine go_iconst (pc := 184) (2 : Int32) dX6_lay_184 (by decide) ?_
          refine go_idiv (pc := 185) dX6_lay_185 (by decide) ?_
          refine go_iload (pc := 186) dX6_lay_186 rfl ?_
          refine go_iconst (pc := 188) (2 : Int32) dX6_lay_188 (by decide) ?_
          refine go_idiv (pc := 189) dX6_lay_189 (by decide) ?_
          obtain ⟨hi21, hs⟩ := chk_t hs
          refine go_iastore (pc := 190) 14 dX6_lay_190 rfl hi21 (show Go mX6_lay (d + 0) false 0 0 191 [some (vR 0), none, none, some (vI x.1), some (vI (tr x.1.toNatClampNeg)), some (vI (tr (x.1 - (1 : Int32)).toNatClampNeg))] [] (wM kn ne fi se ma on ot ta po ti nu mo wa nx (upd x.2.1 ((tr x.1.toNatClampNeg) / (2 : Int32)).toNatClampNeg ((tr (x.1 - (1 : Int32)).toNatClampNeg) / (2 : Int32))) x.2.2 bg ed sF qu qd tr) Q from ?_)
          refine go_aload_n (pc := 191) 0 dX6_lay_191 rfl rfl ?_
          refine go_getfield (pc := 192) (v := vR 15) 0 6 15 dX6_lay_192 flX6_53 rfl rfl ?_
          refine go_iload (pc := 195) dX6_lay_195 rfl ?_
          refine go_iconst (pc := 197) (2 : Int32) dX6_lay_197 (by decide) ?_
          refine go_idiv (pc := 198) dX6_lay_198 (by decide) ?_
          refine go_iload (pc := 199) dX6_lay_199 rfl ?_
          refine go_iconst (pc := 201) (2 : Int32) dX6_lay_201 (by decide) ?_
          refine go_idiv (pc := 202) dX6_lay_202 (by decide) ?_
          obtain ⟨hi22, hs⟩ := chk_t hs
          refine go_iastore (pc := 203) 15 dX6_lay_203 rfl hi22 (show Go mX6_lay (d + 0) false 0 0 204 [some (vR 0), none, none, some (vI x.1), some (vI (tr x.1.toNatClampNeg)), some (vI (tr (x.1 - (1 : Int32)).toNatClampNeg))] [] (wM kn ne fi se ma on ot ta po ti nu mo wa nx (upd x.2.1 ((tr x.1.toNatClampNeg) / (2 : Int32)).toNatClampNeg ((tr (x.1 - (1 : Int32)).toNatClampNeg) / (2 : Int32))) (upd x.2.2 ((tr (x.1 - (1 : Int32)).toNatClampNeg) / (2 : Int32)).toNatClampNeg ((tr x.1.toNatClampNeg) / (2 : Int32))) bg ed sF qu qd tr) Q from ?_)
          refine go_iinc (pc := 204) (x.1 + (-1 : Int32)) [some (vR 0), none, none, some (vI (x.1 + (-1 : Int32))), some (vI (tr x.1.toNatClampNeg)), some (vI (tr (x.1 - (1 : Int32)).toNatClampNeg))] dX6_lay_204 rfl rfl (by decide) rfl ?_
          refine go_goto (pc := 207) 137 dX6_lay_207 (by decide) ?_
          obtain rfl := Option.some.inj hs
          refine go_sub (lv' := [some (vR 0), none, none, some (vI (x.1 + (-1 : Int32))), none, none]) ⟨rfl, ⟨rfl, trivial⟩⟩ ?_
          exact hI _ rfl
set_option maxRecDepth 20000 in
theorem c_X6_lay {d : Nat}  {a1 : Int32} {res : (Nat → Int32) × (Nat → Int32) × Int32 × Int32 × (Nat → Int32)} (hs : s_X6_lay oT cF bg ed sF tr a1 = some res) : Calls mX6_lay (d + 0) false 0 0 [vR 0, vI a1] (wM kn ne fi se ma on ot ta po ti nu mo wa nx oT cF bg ed sF qu qd tr) (fun r w' => r = none ∧ w' = (wM kn ne fi se ma on ot ta po ti nu mo wa nx res.1 res.2.1 res.2.2.1 res.2.2.2.1 sF qu qd res.2.2.2.2)) := by
  unfold s_X6_lay at hs
  refine Calls.of kX6_lay 4 [some (vR 0), some (vI a1), none, none, none, none] rfl (Nat.le_of_ble_eq_true rfl) ?_
  refine go_iconst (pc := 0) (0 : Int32) dX6_lay_0 (by decide) ?_
  refine go_istore_n (pc := 1) 2 [some (vR 0), some (vI a1), some (vI (0 : Int32)), none, none, none] dX6_lay_1 rfl (by decide) rfl ?_
  refine go_iload_n (pc := 2) 1 dX6_lay_2 rfl rfl ?_
  refine go_istore_n (pc := 3) 3 [some (vR 0), some (vI a1), some (vI (0 : Int32)), some (vI a1), none, none] dX6_lay_3 rfl (by decide) rfl ?_
  obtain ⟨e4, hl5, hs⟩ := bnd hs
  refine g_X6_lay_4 (d := d) _ e4 hl5 ?_
  refine go_aload_n (pc := 28) 0 dX6_lay_28 rfl rfl ?_
  refine go_dup (pc := 29) dX6_lay_29 rfl ?_
  refine go_getfield (pc := 30) (v := vI ed) 0 6 17 dX6_lay_30 flX6_164 rfl rfl ?_
  refine go_iconst (pc := 33) (1 : Int32) dX6_lay_33 (by decide) ?_
  refine go_iload_n (pc := 34) 1 dX6_lay_34 rfl rfl ?_
  refine go_iconst (pc := 35) (2 : Int32) dX6_lay_35 (by decide) ?_
  refine go_idiv (pc := 36) dX6_lay_36 (by decide) ?_
  refine go_ishl (pc := 37) dX6_lay_37 ?_
  refine go_ior (pc := 38) dX6_lay_38 ?_
  refine go_putI (pc := 39) 0 6 17 dX6_lay_39 fpX6_164 rfl (Nat.le_of_ble_eq_true rfl) (show Go mX6_lay (d + 0) false 0 0 42 [some (vR 0), some (vI a1), some (vI e4.1), none, none, none] [] (wM kn ne fi se ma on ot ta po ti nu mo wa nx oT cF bg (ed ||| ((1 : Int32) <<< ((a1 / (2 : Int32)) &&& 31))) sF qu qd e4.2) _ from ?_)
  refine go_aload_n (pc := 42) 0 dX6_lay_42 rfl rfl ?_
  refine go_dup (pc := 43) dX6_lay_43 rfl ?_
  refine go_getfield (pc := 44) (v := vI bg) 0 6 16 dX6_lay_44 flX6_155 rfl rfl ?_
  refine go_iconst (pc := 47) (1 : Int32) dX6_lay_47 (by decide) ?_
  refine go_aload_n (pc := 48) 0 dX6_lay_48 rfl rfl ?_
  refine go_getfield (pc := 49) (v := vR 18) 0 6 21 dX6_lay_49 flX6_62 rfl rfl ?_
  refine go_iload_n (pc := 52) 2 dX6_lay_52 rfl rfl ?_
  refine go_iconst (pc := 53) (1 : Int32) dX6_lay_53 (by decide) ?_
  refine go_isub (pc := 54) dX6_lay_54 ?_
  obtain ⟨hi6, hs⟩ := chk_t hs
  refine go_iaload (pc := 55) 18 dX6_lay_55 rfl hi6 ?_
  refine go_iconst (pc := 56) (2 : Int32) dX6_lay_56 (by decide) ?_
  refine go_idiv (pc := 57) dX6_lay_57 (by decide) ?_
  refine go_ishl (pc := 58) dX6_lay_58 ?_
  refine go_ior (pc := 59) dX6_lay_59 ?_
  refine go_putI (pc := 60) 0 6 16 dX6_lay_60 fpX6_155 rfl (Nat.le_of_ble_eq_true rfl) (show Go mX6_lay (d + 0) false 0 0 63 [some (vR 0), some (vI a1), some (vI e4.1), none, none, none] [] (wM kn ne fi se ma on ot ta po ti nu mo wa nx oT cF (bg ||| ((1 : Int32) <<< (((e4.2 (e4.1 - (1 : Int32)).toNatClampNeg) / (2 : Int32)) &&& 31))) (ed ||| ((1 : Int32) <<< ((a1 / (2 : Int32)) &&& 31))) sF qu qd e4.2) _ from ?_)
  refine go_iload_n (pc := 63) 2 dX6_lay_63 rfl rfl ?_
  refine go_iconst (pc := 64) (1 : Int32) dX6_lay_64 (by decide) ?_
  refine go_isub (pc := 65) dX6_lay_65 ?_
  refine go_istore_n (pc := 66) 3 [some (vR 0), some (vI a1), some (vI e4.1), some (vI (e4.1 - (1 : Int32))), none, none] dX6_lay_66 rfl (by decide) rfl ?_
  refine go_sub (lv' := [some (vR 0), none, some (vI e4.1), some (vI (e4.1 - (1 : Int32))), none, none]) ⟨rfl, ⟨rfl, ⟨rfl, trivial⟩⟩⟩ ?_
  obtain ⟨e14, hl15, hs⟩ := bnd hs
  refine g_X6_lay_67 (d := d) _ e14 hl15 ?_
  refine go_iload_n (pc := 133) 2 dX6_lay_133 rfl rfl ?_
  refine go_iconst (pc := 134) (1 : Int32) dX6_lay_134 (by decide) ?_
  refine go_isub (pc := 135) dX6_lay_135 ?_
  refine go_istore_n (pc := 136) 3 [some (vR 0), none, some (vI e4.1), some (vI (e4.1 - (1 : Int32))), none, none] dX6_lay_136 rfl (by decide) rfl ?_
  refine go_sub (lv' := [some (vR 0), none, none, some (vI (e4.1 - (1 : Int32))), none, none]) ⟨rfl, ⟨rfl, trivial⟩⟩ ?_
  obtain ⟨e23, hl24, hs⟩ := bnd hs
  refine g_X6_lay_137 (d := d) _ e23 hl24 ?_
  obtain rfl := Option.some.inj hs
  exact go_return (st := []) (pc := 210) dX6_lay_210 rfl (fun h => by cases h) ⟨rfl, rfl⟩
end
