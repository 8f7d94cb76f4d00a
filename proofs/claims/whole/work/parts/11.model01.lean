section
variable {kn : (Nat → Int32)} {ne : (Nat → Int32)} {fi : (Nat → Int32)} {se : (Nat → Int32)} {ma : Int32} {on : (Nat → Int32)} {ot : (Nat → Int32)} {ta : (Nat → Int64)} {po : (Nat → Int64)} {ti : (Nat → Int64)} {nu : (Nat → Int64)} {mo : (Nat → Int64)} {wa : (Nat → Int64)} {nx : (Nat → Int64)} {oT : (Nat → Int32)} {cF : (Nat → Int32)} {bg : Int32} {ed : Int32} {sF : (Nat → Int32)} {qu : (Nat → Int32)} {qd : Int32} {tr : (Nat → Int32)}
def wM (kn : (Nat → Int32)) (ne : (Nat → Int32)) (fi : (Nat → Int32)) (se : (Nat → Int32)) (ma : Int32) (on : (Nat → Int32)) (ot : (Nat → Int32)) (ta : (Nat → Int64)) (po : (Nat → Int64)) (ti : (Nat → Int64)) (nu : (Nat → Int64)) (mo : (Nat → Int64)) (wa : (Nat → Int64)) (nx : (Nat → Int64)) (oT : (Nat → Int32)) (cF : (Nat → Int32)) (bg : Int32) (ed : Int32) (sF : (Nat → Int32)) (qu : (Nat → Int32)) (qd : Int32) (tr : (Nat → Int32)) : List AC := [cO 6 [vR 1, vR 2, vR 3, vR 4, vI ma, vR 5, vR 6, vR 7, vR 8, vR 9, vR 10, vR 11, vR 12, vR 13, vR 14, vR 15, vI bg, vI ed, vR 16, vR 17, vI qd, vR 18], cI 4 kn, cI 40 ne, cI 10 fi, cI 10 se, cI 45 on, cI 45 ot, cJ 100 ta, cJ 100 po, cJ 100 ti, cJ 11 nu, cJ 11 mo, cJ 10 wa, cJ 10 nx, cI 10 oT, cI 10 cF, cI 20 sF, cI 20 qu, cI 20 tr]
noncomputable def s_X6_in (a0 : Int32) (a1 : Int32) (a2 : Int32) : Option (Int32) := if a0 < a1 then (some (0 : Int32)) else (if a2 < a0 then (some (0 : Int32)) else (some (1 : Int32)))
set_option maxRecDepth 20000 in
theorem c_X6_in {d : Nat} {w : List AC} {a0 : Int32} {a1 : Int32} {a2 : Int32} {res0 : Int32} (hs : s_X6_in a0 a1 a2 = some res0) : Calls mX6_in (d + 0) false 0 0 [vI a0, vI a1, vI a2] w (fun r w' => r = some (vI res0) ∧ w' = w) := by
  unfold s_X6_in at hs
  refine Calls.of kX6_in 0 [some (vI a0), some (vI a1), some (vI a2)] rfl (Nat.le_of_ble_eq_true rfl) ?_
  refine go_iload_n (pc := 0) 0 dX6_in_0 rfl rfl ?_
  refine go_iload_n (pc := 1) 1 dX6_in_1 rfl rfl ?_
  refine go_icmp_lt (pc := 2) 14 dX6_in_2 (by decide) (fun h1 => ?_) (fun h1 => ?_)
  · have hs := it_t h1 hs
    refine go_iconst (pc := 14) (0 : Int32) dX6_in_14 (by decide) ?_
    cases hs
    exact go_ireturn (st := []) (pc := 15) dX6_in_15 rfl rfl (fun h => by cases h) ⟨rfl, rfl⟩
  · have hs := it_f h1 hs
    refine go_iload_n (pc := 5) 0 dX6_in_5 rfl rfl ?_
    refine go_iload_n (pc := 6) 2 dX6_in_6 rfl rfl ?_
    refine go_icmp_gt (pc := 7) 14 dX6_in_7 (by decide) (fun h2 => ?_) (fun h2 => ?_)
    · have hs := it_t h2 hs
      refine go_iconst (pc := 14) (0 : Int32) dX6_in_14 (by decide) ?_
      cases hs
      exact go_ireturn (st := []) (pc := 15) dX6_in_15 rfl rfl (fun h => by cases h) ⟨rfl, rfl⟩
    · have hs := it_f h2 hs
      refine go_iconst (pc := 10) (1 : Int32) dX6_in_10 (by decide) ?_
      refine go_goto (pc := 11) 15 dX6_in_11 (by decide) ?_
      cases hs
      exact go_ireturn (st := []) (pc := 15) dX6_in_15 rfl rfl (fun h => by cases h) ⟨rfl, rfl⟩
noncomputable def s_X6_isNet (a0 : Int32) : Option (Int32) := (s_X6_in a0 (0 : Int32) (3 : Int32)).bind (fun x1 => bck x1 (some x1))
set_option maxRecDepth 20000 in
theorem c_X6_isNet {d : Nat} {w : List AC} {a0 : Int32} {res0 : Int32} (hs : s_X6_isNet a0 = some res0) : Calls mX6_isNet (d + 1) false 0 0 [vI a0] w (fun r w' => r = some (vI res0) ∧ w' = w) := by
  unfold s_X6_isNet at hs
  refine Calls.of kX6_isNet 0 [some (vI a0)] rfl (Nat.le_of_ble_eq_true rfl) ?_
  refine go_iload_n (pc := 0) 0 dX6_isNet_0 rfl rfl ?_
  refine go_iconst (pc := 1) (0 : Int32) dX6_isNet_1 (by decide) ?_
  refine go_iconst (pc := 2) (3 : Int32) dX6_isNet_2 (by decide) ?_
  obtain ⟨x1, hc2, hs⟩ := bnd hs
  refine go_callS (bc := 0) (bs := 0) (mc := 0) (ms := 0) (d := d + 0) (pc := 3) [vI a0, vI (0 : Int32), vI (3 : Int32)] [] dX6_isNet_3 kX6_in mlX6_65 isX6_in rfl (Nat.le_of_ble_eq_true rfl) rfl (c_X6_in (d := d + 0) (res0 := x1) hc2) (fun r w' hq => ?_)
  obtain ⟨rfl, hw9⟩ := hq
  rw [hw9]
  show Go mX6_isNet (d + 1) false 0 0 6 [some (vI a0)] [vI x1] w _
  obtain ⟨hb3, hs⟩ := bck_t hs
  cases hs
  exact go_ireturn (st := []) (pc := 6) dX6_isNet_6 rfl hb3 (fun h => by cases h) ⟨rfl, rfl⟩
noncomputable def s_X6_isKnot (kn : (Nat → Int32)) (a1 : Int32) (a2 : Int32) : Option (Int32) := (s_X6_isNet a1).bind (fun x1 => if x1 = 0 then (some (0 : Int32)) else (chk a1 4 ((s_X6_in a2 (0 : Int32) ((kn a1.toNatClampNeg) - (1 : Int32))).bind (fun x5 => if x5 = 0 then (some (0 : Int32)) else (some (1 : Int32))))))
set_option maxRecDepth 20000 in
theorem c_X6_isKnot {d : Nat}  {a1 : Int32} {a2 : Int32} {res0 : Int32} (hs : s_X6_isKnot kn a1 a2 = some res0) : Calls mX6_isKnot (d + 2) false 0 0 [vR 0, vI a1, vI a2] (wM kn ne fi se ma on ot ta po ti nu mo wa nx oT cF bg ed sF qu qd tr) (fun r w' => r = some (vI res0) ∧ w' = (wM kn ne fi se ma on ot ta po ti nu mo wa nx oT cF bg ed sF qu qd tr)) := by
  unfold s_X6_isKnot at hs
  refine Calls.of kX6_isKnot 0 [some (vR 0), some (vI a1), some (vI a2)] rfl (Nat.le_of_ble_eq_true rfl) ?_
  refine go_iload_n (pc := 0) 1 dX6_isKnot_0 rfl rfl ?_
  obtain ⟨x1, hc2, hs⟩ := bnd hs
  refine go_callS (bc := 0) (bs := 0) (mc := 0) (ms := 0) (d := d + 1) (pc := 1) [vI a1] [] dX6_isKnot_1 kX6_isNet mlX6_69 isX6_isNet rfl (Nat.le_of_ble_eq_true rfl) rfl (c_X6_isNet (d := d + 0) (res0 := x1) hc2) (fun r w' hq => ?_)
  obtain ⟨rfl, rfl⟩ := hq
  show Go mX6_isKnot (d + 2) false 0 0 4 [some (vR 0), some (vI a1), some (vI a2)] [vI x1] (wM kn ne fi se ma on ot ta po ti nu mo wa nx oT cF bg ed sF qu qd tr) _
  refine go_if_eq (pc := 4) 27 dX6_isKnot_4 (by decide) (fun h3 => ?_) (fun h3 => ?_)
  · have hs := it_t h3 hs
    refine go_iconst (pc := 27) (0 : Int32) dX6_isKnot_27 (by decide) ?_
    cases hs
    exact go_ireturn (st := []) (pc := 28) dX6_isKnot_28 rfl rfl (fun h => by cases h) ⟨rfl, rfl⟩
  · have hs := it_f h3 hs
    refine go_iload_n (pc := 7) 2 dX6_isKnot_7 rfl rfl ?_
    refine go_iconst (pc := 8) (0 : Int32) dX6_isKnot_8 (by decide) ?_
    refine go_aload_n (pc := 9) 0 dX6_isKnot_9 rfl rfl ?_
    refine go_getfield (pc := 10) (v := vR 1) 0 6 0 dX6_isKnot_10 flX6_7 rfl rfl ?_
    refine go_iload_n (pc := 13) 1 dX6_isKnot_13 rfl rfl ?_
    obtain ⟨hi4, hs⟩ := chk_t hs
    refine go_iaload (pc := 14) 1 dX6_isKnot_14 rfl hi4 ?_
    refine go_iconst (pc := 15) (1 : Int32) dX6_isKnot_15 (by decide) ?_
    refine go_isub (pc := 16) dX6_isKnot_16 ?_
    obtain ⟨x5, hc6, hs⟩ := bnd hs
    refine go_callS (bc := 0) (bs := 0) (mc := 0) (ms := 0) (d := d + 1) (pc := 17) [vI a2, vI (0 : Int32), vI ((kn a1.toNatClampNeg) - (1 : Int32))] [] dX6_isKnot_17 kX6_in mlX6_65 isX6_in rfl (Nat.le_of_ble_eq_true rfl) rfl (c_X6_in (d := d + 1) (res0 := x5) hc6) (fun r w' hq => ?_)
    obtain ⟨rfl, rfl⟩ := hq
    show Go mX6_isKnot (d + 2) false 0 0 20 [some (vR 0), some (vI a1), some (vI a2)] [vI x5] (wM kn ne fi se ma on ot ta po ti nu mo wa nx oT cF bg ed sF qu qd tr) _
    refine go_if_eq (pc := 20) 27 dX6_isKnot_20 (by decide) (fun h7 => ?_) (fun h7 => ?_)
    · have hs := it_t h7 hs
      refine go_iconst (pc := 27) (0 : Int32) dX6_isKnot_27 (by decide) ?_
      cases hs
      exact go_ireturn (st := []) (pc := 28) dX6_isKnot_28 rfl rfl (fun h => by cases h) ⟨rfl, rfl⟩
    · have hs := it_f h7 hs
      refine go_iconst (pc := 23) (1 : Int32) dX6_isKnot_23 (by decide) ?_
      refine go_goto (pc := 24) 28 dX6_isKnot_24 (by decide) ?_
      cases hs
      exact go_ireturn (st := []) (pc := 28) dX6_isKnot_28 rfl rfl (fun h => by cases h) ⟨rfl, rfl⟩
noncomputable def s_X6_has (ne : (Nat → Int32)) (a1 : Int32) (a2 : Int32) (a3 : Int32) : Option (Int32) := chk (((10 : Int32) * a1) + a2) 40 (if (((ne (((10 : Int32) * a1) + a2).toNatClampNeg) >>> (a3 &&& 31)) &&& (1 : Int32)) = (1 : Int32) then (some (1 : Int32)) else (some (0 : Int32)))
set_option maxRecDepth 20000 in
theorem c_X6_has {d : Nat}  {a1 : Int32} {a2 : Int32} {a3 : Int32} {res0 : Int32} (hs : s_X6_has ne a1 a2 a3 = some res0) : Calls mX6_has (d + 0) false 0 0 [vR 0, vI a1, vI a2, vI a3] (wM kn ne fi se ma on ot ta po ti nu mo wa nx oT cF bg ed sF qu qd tr) (fun r w' => r = some (vI res0) ∧ w' = (wM kn ne fi se ma on ot ta po ti nu mo wa nx oT cF bg ed sF qu qd tr)) := by
  unfold s_X6_has at hs
  refine Calls.of kX6_has 0 [some (vR 0), some (vI a1), some (vI a2), some (vI a3)] rfl (Nat.le_of_ble_eq_true rfl) ?_
  refine go_aload_n (pc := 0) 0 dX6_has_0 rfl rfl ?_
  refine go_getfield (pc := 1) (v := vR 2) 0 6 1 dX6_has_1 flX6_13 rfl rfl ?_
  refine go_bipush (pc := 4) (10 : Int32) dX6_has_4 (by decide) ?_
  refine go_iload_n (pc := 6) 1 dX6_has_6 rfl rfl ?_
  refine go_imul (pc := 7) dX6_has_7 ?_
  refine go_iload_n (pc := 8) 2 dX6_has_8 rfl rfl ?_
  refine go_iadd (pc := 9) dX6_has_9 ?_
  obtain ⟨hi1, hs⟩ := chk_t hs
  refine go_iaload (pc := 10) 2 dX6_has_10 rfl hi1 ?_
  refine go_iload_n (pc := 11) 3 dX6_has_11 rfl rfl ?_
  refine go_ishr (pc := 12) dX6_has_12 ?_
  refine go_iconst (pc := 13) (1 : Int32) dX6_has_13 (by decide) ?_
  refine go_iand (pc := 14) dX6_has_14 ?_
  refine go_iconst (pc := 15) (1 : Int32) dX6_has_15 (by decide) ?_
  refine go_icmp_ne (pc := 16) 23 dX6_has_16 (by decide) (fun h2 => ?_) (fun h2 => ?_)
  · have hs := it_f h2 hs
    refine go_iconst (pc := 23) (0 : Int32) dX6_has_23 (by decide) ?_
    cases hs
    exact go_ireturn (st := []) (pc := 24) dX6_has_24 rfl rfl (fun h => by cases h) ⟨rfl, rfl⟩
  · have hs := it_t h2 hs
    refine go_iconst (pc := 19) (1 : Int32) dX6_has_19 (by decide) ?_
    refine go_goto (pc := 20) 24 dX6_has_20 (by decide) ?_
    cases hs
    exact go_ireturn (st := []) (pc := 24) dX6_has_24 rfl rfl (fun h => by cases h) ⟨rfl, rfl⟩
noncomputable def s_X6_put (ne : (Nat → Int32)) (a1 : Int32) (a2 : Int32) (a3 : Int32) : Option ((Nat → Int32)) := chk (((10 : Int32) * a1) + a2) 40 (chk (((10 : Int32) * a1) + a2) 40 (chk (((10 : Int32) * a1) + a3) 40 (chk (((10 : Int32) * a1) + a3) 40 (some (upd (upd ne (((10 : Int32) * a1) + a2).toNatClampNeg ((ne (((10 : Int32) * a1) + a2).toNatClampNeg) ||| ((1 : Int32) <<< (a3 &&& 31)))) (((10 : Int32) * a1) + a3).toNatClampNeg (((upd ne (((10 : Int32) * a1) + a2).toNatClampNeg ((ne (((10 : Int32) * a1) + a2).toNatClampNeg) ||| ((1 : Int32) <<< (a3 &&& 31)))) (((10 : Int32) * a1) + a3).toNatClampNeg) ||| ((1 : Int32) <<< (a2 &&& 31))))))))
set_option maxRecDepth 20000 in
theorem c_X6_put {d : Nat}  {a1 : Int32} {a2 : Int32} {a3 : Int32} {res0 : (Nat → Int32)} (hs : s_X6_put ne a1 a2 a3 = some res0) : Calls mX6_put (d + 0) false 0 0 [vR 0, vI a1, vI a2, vI a3] (wM kn ne fi se ma on ot ta po ti nu mo wa nx oT cF bg ed sF qu qd tr) (fun r w' => r = none ∧ w' = (wM kn res0 fi se ma on ot ta po ti nu mo wa nx oT cF bg ed sF qu qd tr)) := by
  unfold s_X6_put at hs
  refine Calls.of kX6_put 0 [some (vR 0), some (vI a1), some (vI a2), some (vI a3)] rfl (Nat.le_of_ble_eq_true rfl) ?_
  refine go_aload_n (pc := 0) 0 dX6_put_0 rfl rfl ?_
  refine go_getfield (pc := 1) (v := vR 2) 0 6 1 dX6_put_1 flX6_13 rfl rfl ?_
  refine go_bipush (pc := 4) (10 : Int32) dX6_put_4 (by decide) ?_
  refine go_iload_n (pc := 6) 1 dX6_put_6 rfl rfl ?_
  refine go_imul (pc := 7) dX6_put_7 ?_
  refine go_iload_n (pc := 8) 2 dX6_put_8 rfl rfl ?_
  refine go_iadd (pc := 9) dX6_put_9 ?_
  refine go_dup2 (pc := 10) dX6_put_10 rfl rfl ?_
  obtain ⟨hi1, hs⟩ := chk_t hs
  refine go_iaload (pc := 11) 2 dX6_put_11 rfl hi1 ?_
  refine go_iconst (pc := 12) (1 : Int32) dX6_put_12 (by decide) ?_
  refine go_iload_n (pc := 13) 3 dX6_put_13 rfl rfl ?_
  refine go_ishl (pc := 14) dX6_put_14 ?_
  refine go_ior (pc := 15) dX6_put_15 ?_
  obtain ⟨hi2, hs⟩ := chk_t hs
  refine go_iastore (pc := 16) 2 dX6_put_16 rfl hi2 (show Go mX6_put (d + 0) false 0 0 17 [some (vR 0), some (vI a1), some (vI a2), some (vI a3)] [] (wM kn (upd ne (((10 : Int32) * a1) + a2).toNatClampNeg ((ne (((10 : Int32) * a1) + a2).toNatClampNeg) ||| ((1 : Int32) <<< (a3 &&& 31)))) fi se ma on ot ta po ti nu mo wa nx oT cF bg ed sF qu qd tr) _ from ?_)
  refine go_aload_n (pc := 17) 0 dX6_put_17 rfl rfl ?_
  refine go_getfield (pc := 18) (v := vR 2) 0 6 1 dX6_put_18 flX6_13 rfl rfl ?_
  refine go_bipush (pc := 21) (10 : Int32) dX6_put_21 (by decide) ?_
  refine go_iload_n (pc := 23) 1 dX6_put_23 rfl rfl ?_
  refine go_imul (pc := 24) dX6_put_24 ?_
  refine go_iload_n (pc := 25) 3 dX6_put_25 rfl rfl ?_
  refine go_iadd (pc := 26) dX6_put_26 ?_
  refine go_dup2 (pc := 27) dX6_put_27 rfl rfl ?_
  obtain ⟨hi3, hs⟩ := chk_t hs
  refine go_iaload (pc := 28) 2 dX6_put_28 rfl hi3 ?_
  refine go_iconst (pc := 29) (1 : Int32) dX6_put_29 (by decide) ?_
  refine go_iload_n (pc := 30) 2 dX6_put_30 rfl rfl ?_
  refine go_ishl (pc := 31) dX6_put_31 ?_
  refine go_ior (pc := 32) dX6_put_32 ?_
  obtain ⟨hi4, hs⟩ := chk_t hs
  refine go_iastore (pc := 33) 2 dX6_put_33 rfl hi4 (show Go mX6_put (d + 0) false 0 0 34 [some (vR 0), some (vI a1), some (vI a2), some (vI a3)] [] (wM kn (upd (upd ne (((10 : Int32) * a1) + a2).toNatClampNeg ((ne (((10 : Int32) * a1) + a2).toNatClampNeg) ||| ((1 : Int32) <<< (a3 &&& 31)))) (((10 : Int32) * a1) + a3).toNatClampNeg (((upd ne (((10 : Int32) * a1) + a2).toNatClampNeg ((ne (((10 : Int32) * a1) + a2).toNatClampNeg) ||| ((1 : Int32) <<< (a3 &&& 31)))) (((10 : Int32) * a1) + a3).toNatClampNeg) ||| ((1 : Int32) <<< (a2 &&& 31)))) fi se ma on ot ta po ti nu mo wa nx oT cF bg ed sF qu qd tr) _ from ?_)
  cases hs
  exact go_return (st := []) (pc := 34) dX6_put_34 rfl (fun h => by cases h) ⟨rfl, rfl⟩
noncomputable def b_X6_begin_9 (y1 : Int32) (x : Int32 × (Nat → Int32)) : Option ((Int32 × (Nat → Int32)) ⊕ ((Nat → Int32))) := if (10 : Int32) ≤ x.1 then (some (Sum.inr x.2)) else (chk (((10 : Int32) * y1) + x.1) 40 (some (Sum.inl (x.1 + (1 : Int32), upd x.2 (((10 : Int32) * y1) + x.1).toNatClampNeg (0 : Int32)))))
noncomputable def s_X6_begin (kn : (Nat → Int32)) (ne : (Nat → Int32)) (a1 : Int32) (a2 : Int32) : Option ((Nat → Int32) × (Nat → Int32)) := chk a1 4 ((loop (b_X6_begin_9 a1) ((0 : Int32), ne)).bind (fun e4 => some (upd kn a1.toNatClampNeg a2, e4)))
set_option maxRecDepth 20000 in
theorem g_X6_begin_9 {d : Nat} {Q : Option AV → List AC → Prop} {y1 : Int32} (x0_ : Int32) (x1_ : (Nat → Int32)) (r : (Nat → Int32)) (hl : loop (b_X6_begin_9 y1) (x0_, x1_) = some r) (hk : Go mX6_begin (d + 0) false 0 0 33 [none, none, none, none] [] (wM kn r fi se ma on ot ta po ti nu mo wa nx oT cF bg ed sF qu qd tr) Q) : Go mX6_begin (d + 0) false 0 0 9 [some (vR 0), some (vI y1), none, some (vI x0_)] [] (wM kn x1_ fi se ma on ot ta po ti nu mo wa nx oT cF bg ed sF qu qd tr) Q := by
  refine loop_go (P := fun x : Int32 × (Nat → Int32) => ∀ (x0_ : Int32) (x1_ : (Nat → Int32)), x = (x0_, x1_) → Go mX6_begin (d + 0) false 0 0 9 [some (vR 0), some (vI y1), none, some (vI x0_)] [] (wM kn x1_ fi se ma on ot ta po ti nu mo wa nx oT cF bg ed sF qu qd tr) Q) (K := fun r : (Nat → Int32) => Go mX6_begin (d + 0) false 0 0 33 [none, none, none, none] [] (wM kn r fi se ma on ot ta po ti nu mo wa nx oT cF bg ed sF qu qd tr) Q) ?_ (x0_, x1_) r hl hk x0_ x1_ rfl
  · intro x y hs hI hE x0_ x1_ hx
    subst hx
    unfold b_X6_begin_9 at hs
    try dsimp only at hs
    refine go_iload_n (pc := 9) 3 dX6_begin_9 rfl rfl ?_
    refine go_bipush (pc := 10) (10 : Int32) dX6_begin_10 (by decide) ?_
    refine go_icmp_ge (pc := 12) 33 dX6_begin_12 (by decide) (fun h2 => ?_) (fun h2 => ?_)
    · have hs := it_t h2 hs
      obtain rfl := Option.some.inj hs
      refine go_sub (lv' := [none, none, none, none]) trivial ?_
      exact hE x1_ rfl
    · have hs := it_f h2 hs
      refine go_aload_n (pc := 15) 0 dX6_begin_15 rfl rfl ?_
      refine go_getfield (pc := 16) (v := vR 2) 0 6 1 dX6_begin_16 flX6_13 rfl rfl ?_
      refine go_bipush (pc := 19) (10 : Int32) dX6_begin_19 (by decide) ?_
      refine go_iload_n (pc := 21) 1 dX6_begin_21 rfl rfl ?_
      refine go_imul (pc := 22) dX6_begin_22 ?_
      refine go_iload_n (pc := 23) 3 dX6_begin_23 rfl rfl ?_
      refine go_iadd (pc := 24) dX6_begin_24 ?_
      refine go_iconst (pc := 25) (0 : Int32) dX6_begin_25 (by decide) ?_
      obtain ⟨hi3, hs⟩ := chk_t hs
      refine go_iastore (pc := 26) 2 dX6_begin_26 rfl hi3 (show Go mX6_begin (d + 0) false 0 0 27 [some (vR 0), some (vI y1), none, some (vI x0_)] [] (wM kn (upd x1_ (((10 : Int32) * y1) + x0_).toNatClampNeg (0 : Int32)) fi se ma on ot ta po ti nu mo wa nx oT cF bg ed sF qu qd tr) Q from ?_)
      refine go_iinc (pc := 27) (x0_ + (1 : Int32)) [some (vR 0), some (vI y1), none, some (vI (x0_ + (1 : Int32)))] dX6_begin_27 rfl (iinc_1 _) (by decide) rfl ?_
      refine go_goto (pc := 30) 9 dX6_begin_30 (by decide) ?_
      obtain rfl := Option.some.inj hs
      exact hI (x0_ + (1 : Int32), upd x1_ (((10 : Int32) * y1) + x0_).toNatClampNeg (0 : Int32)) rfl (x0_ + (1 : Int32)) (upd x1_ (((10 : Int32) * y1) + x0_).toNatClampNeg (0 : Int32)) rfl
set_option maxRecDepth 20000 in
theorem c_X6_begin {d : Nat}  {a1 : Int32} {a2 : Int32} {res0 : (Nat → Int32)} {res1 : (Nat → Int32)} (hs : s_X6_begin kn ne a1 a2 = some (res0, res1)) : Calls mX6_begin (d + 0) false 0 0 [vR 0, vI a1, vI a2] (wM kn ne fi se ma on ot ta po ti nu mo wa nx oT cF bg ed sF qu qd tr) (fun r w' => r = none ∧ w' = (wM res0 res1 fi se ma on ot ta po ti nu mo wa nx oT cF bg ed sF qu qd tr)) := by
  unfold s_X6_begin at hs
  refine Calls.of kX6_begin 1 [some (vR 0), some (vI a1), some (vI a2), none] rfl (Nat.le_of_ble_eq_true rfl) ?_
  refine go_aload_n (pc := 0) 0 dX6_begin_0 rfl rfl ?_
  refine go_getfield (pc := 1) (v := vR 1) 0 6 0 dX6_begin_1 flX6_7 rfl rfl ?_
  refine go_iload_n (pc := 4) 1 dX6_begin_4 rfl rfl ?_
  refine go_iload_n (pc := 5) 2 dX6_begin_5 rfl rfl ?_
  obtain ⟨hi1, hs⟩ := chk_t hs
  refine go_iastore (pc := 6) 1 dX6_begin_6 rfl hi1 (show Go mX6_begin (d + 0) false 0 0 7 [some (vR 0), some (vI a1), some (vI a2), none] [] (wM (upd kn a1.toNatClampNeg a2) ne fi se ma on ot ta po ti nu mo wa nx oT cF bg ed sF qu qd tr) _ from ?_)
  refine go_iconst (pc := 7) (0 : Int32) dX6_begin_7 (by decide) ?_
  refine go_istore_n (pc := 8) 3 [some (vR 0), some (vI a1), some (vI a2), some (vI (0 : Int32))] dX6_begin_8 rfl (by decide) rfl ?_
  refine go_sub (lv' := [some (vR 0), some (vI a1), none, some (vI (0 : Int32))]) ⟨rfl, ⟨rfl, ⟨rfl, trivial⟩⟩⟩ ?_
  obtain ⟨e4, hl5, hs⟩ := bnd hs
  refine g_X6_begin_9 (d := d) (0 : Int32) ne e4 hl5 ?_
  cases hs
  exact go_return (st := []) (pc := 33) dX6_begin_33 rfl (fun h => by cases h) ⟨rfl, rfl⟩
noncomputable def b_X6_bits_4 (y0 : Int32) (x : Int32 × Int32) : Option ((Int32 × Int32) ⊕ (Int32)) := if (10 : Int32) ≤ x.2 then (some (Sum.inr x.1)) else (some (Sum.inl (x.1 + ((y0 >>> (x.2 &&& 31)) &&& (1 : Int32)), x.2 + (1 : Int32))))
noncomputable def s_X6_bits (a0 : Int32) : Option (Int32) := (loop (b_X6_bits_4 a0) ((0 : Int32), (0 : Int32))).bind (fun e2 => some e2)
set_option maxRecDepth 20000 in
theorem g_X6_bits_4 {d : Nat} {w : List AC} {Q : Option AV → List AC → Prop} {y0 : Int32} (x0_ : Int32) (x1_ : Int32) (r : Int32) (hl : loop (b_X6_bits_4 y0) (x0_, x1_) = some r) (hk : Go mX6_bits (d + 0) false 0 0 24 [none, some (vI r), none] [] w Q) : Go mX6_bits (d + 0) false 0 0 4 [some (vI y0), some (vI x0_), some (vI x1_)] [] w Q := by
  refine loop_go (P := fun x : Int32 × Int32 => ∀ (x0_ : Int32) (x1_ : Int32), x = (x0_, x1_) → Go mX6_bits (d + 0) false 0 0 4 [some (vI y0), some (vI x0_), some (vI x1_)] [] w Q) (K := fun r : Int32 => Go mX6_bits (d + 0) false 0 0 24 [none, some (vI r), none] [] w Q) ?_ (x0_, x1_) r hl hk x0_ x1_ rfl
  · intro x y hs hI hE x0_ x1_ hx
    subst hx
    unfold b_X6_bits_4 at hs
    try dsimp only at hs
    refine go_iload_n (pc := 4) 2 dX6_bits_4 rfl rfl ?_
    refine go_bipush (pc := 5) (10 : Int32) dX6_bits_5 (by decide) ?_
    refine go_icmp_ge (pc := 7) 24 dX6_bits_7 (by decide) (fun h1 => ?_) (fun h1 => ?_)
    · have hs := it_t h1 hs
      obtain rfl := Option.some.inj hs
      refine go_sub (lv' := [none, some (vI x0_), none]) ⟨rfl, trivial⟩ ?_
      exact hE x0_ rfl
    · have hs := it_f h1 hs
      refine go_iload_n (pc := 10) 1 dX6_bits_10 rfl rfl ?_
      refine go_iload_n (pc := 11) 0 dX6_bits_11 rfl rfl ?_
      refine go_iload_n (pc := 12) 2 dX6_bits_12 rfl rfl ?_
      refine go_ishr (pc := 13) dX6_bits_13 ?_
      refine go_iconst (pc := 14) (1 : Int32) dX6_bits_14 (by decide) ?_
      refine go_iand (pc := 15) dX6_bits_15 ?_
      refine go_iadd (pc := 16) dX6_bits_16 ?_
      refine go_istore_n (pc := 17) 1 [some (vI y0), some (vI (x0_ + ((y0 >>> (x1_ &&& 31)) &&& (1 : Int32)))), some (vI x1_)] dX6_bits_17 rfl (by decide) rfl ?_
      refine go_iinc (pc := 18) (x1_ + (1 : Int32)) [some (vI y0), some (vI (x0_ + ((y0 >>> (x1_ &&& 31)) &&& (1 : Int32)))), some (vI (x1_ + (1 : Int32)))] dX6_bits_18 rfl (iinc_1 _) (by decide) rfl ?_
      refine go_goto (pc := 21) 4 dX6_bits_21 (by decide) ?_
      obtain rfl := Option.some.inj hs
      exact hI (x0_ + ((y0 >>> (x1_ &&& 31)) &&& (1 : Int32)), x1_ + (1 : Int32)) rfl (x0_ + ((y0 >>> (x1_ &&& 31)) &&& (1 : Int32))) (x1_ + (1 : Int32)) rfl
set_option maxRecDepth 20000 in
theorem c_X6_bits {d : Nat} {w : List AC} {a0 : Int32} {res0 : Int32} (hs : s_X6_bits a0 = some res0) : Calls mX6_bits (d + 0) false 0 0 [vI a0] w (fun r w' => r = some (vI res0) ∧ w' = w) := by
  unfold s_X6_bits at hs
  refine Calls.of kX6_bits 2 [some (vI a0), none, none] rfl (Nat.le_of_ble_eq_true rfl) ?_
  refine go_iconst (pc := 0) (0 : Int32) dX6_bits_0 (by decide) ?_
  refine go_istore_n (pc := 1) 1 [some (vI a0), some (vI (0 : Int32)), none] dX6_bits_1 rfl (by decide) rfl ?_
  refine go_iconst (pc := 2) (0 : Int32) dX6_bits_2 (by decide) ?_
  refine go_istore_n (pc := 3) 2 [some (vI a0), some (vI (0 : Int32)), some (vI (0 : Int32))] dX6_bits_3 rfl (by decide) rfl ?_
  obtain ⟨e2, hl3, hs⟩ := bnd hs
  refine g_X6_bits_4 (d := d) (0 : Int32) (0 : Int32) e2 hl3 ?_
  refine go_iload_n (pc := 24) 1 dX6_bits_24 rfl rfl ?_
  cases hs
  exact go_ireturn (st := []) (pc := 25) dX6_bits_25 rfl (vp_nar_int _) (fun h => by cases h) ⟨rfl, rfl⟩
noncomputable def b_X6_lines_4 (kn : (Nat → Int32)) (ne : (Nat → Int32)) (y1 : Int32) (x : Int32 × Int32) : Option ((Int32 × Int32) ⊕ (Int32)) := chk y1 4 (if (kn y1.toNatClampNeg) ≤ x.2 then (some (Sum.inr x.1)) else (chk (((10 : Int32) * y1) + x.2) 40 ((s_X6_bits (ne (((10 : Int32) * y1) + x.2).toNatClampNeg)).bind (fun x4 => some (Sum.inl (x.1 + x4, x.2 + (1 : Int32)))))))
noncomputable def s_X6_lines (kn : (Nat → Int32)) (ne : (Nat → Int32)) (a1 : Int32) : Option (Int32) := (loop (b_X6_lines_4 kn ne a1) ((0 : Int32), (0 : Int32))).bind (fun e6 => some (e6 / (2 : Int32)))
set_option maxRecDepth 20000 in
theorem g_X6_lines_4 {d : Nat} {Q : Option AV → List AC → Prop} {y1 : Int32} (x0_ : Int32) (x1_ : Int32) (r : Int32) (hl : loop (b_X6_lines_4 kn ne y1) (x0_, x1_) = some r) (hk : Go mX6_lines (d + 1) false 0 0 37 [none, none, some (vI r), none] [] (wM kn ne fi se ma on ot ta po ti nu mo wa nx oT cF bg ed sF qu qd tr) Q) : Go mX6_lines (d + 1) false 0 0 4 [some (vR 0), some (vI y1), some (vI x0_), some (vI x1_)] [] (wM kn ne fi se ma on ot ta po ti nu mo wa nx oT cF bg ed sF qu qd tr) Q := by
  refine loop_go (P := fun x : Int32 × Int32 => ∀ (x0_ : Int32) (x1_ : Int32), x = (x0_, x1_) → Go mX6_lines (d + 1) false 0 0 4 [some (vR 0), some (vI y1), some (vI x0_), some (vI x1_)] [] (wM kn ne fi se ma on ot ta po ti nu mo wa nx oT cF bg ed sF qu qd tr) Q) (K := fun r : Int32 => Go mX6_lines (d + 1) false 0 0 37 [none, none, some (vI r), none] [] (wM kn ne fi se ma on ot ta po ti nu mo wa nx oT cF bg ed sF qu qd tr) Q) ?_ (x0_, x1_) r hl hk x0_ x1_ rfl
  · intro x y hs hI hE x0_ x1_ hx
    subst hx
    unfold b_X6_lines_4 at hs
    try dsimp only at hs
    refine go_iload_n (pc := 4) 3 dX6_lines_4 rfl rfl ?_
    refine go_aload_n (pc := 5) 0 dX6_lines_5 rfl rfl ?_
    refine go_getfield (pc := 6) (v := vR 1) 0 6 0 dX6_lines_6 flX6_7 rfl rfl ?_
    refine go_iload_n (pc := 9) 1 dX6_lines_9 rfl rfl ?_
    obtain ⟨hi1, hs⟩ := chk_t hs
    refine go_iaload (pc := 10) 1 dX6_lines_10 rfl hi1 ?_
    refine go_icmp_ge (pc := 11) 37 dX6_lines_11 (by decide) (fun h2 => ?_) (fun h2 => ?_)
    · have hs := it_t h2 hs
      obtain rfl := Option.some.inj hs
      refine go_sub (lv' := [none, none, some (vI x0_), none]) ⟨rfl, trivial⟩ ?_
      exact hE x0_ rfl
    · have hs := it_f h2 hs
      refine go_iload_n (pc := 14) 2 dX6_lines_14 rfl rfl ?_
      refine go_aload_n (pc := 15) 0 dX6_lines_15 rfl rfl ?_
      refine go_getfield (pc := 16) (v := vR 2) 0 6 1 dX6_lines_16 flX6_13 rfl rfl ?_
      refine go_bipush (pc := 19) (10 : Int32) dX6_lines_19 (by decide) ?_
      refine go_iload_n (pc := 21) 1 dX6_lines_21 rfl rfl ?_
      refine go_imul (pc := 22) dX6_lines_22 ?_
      refine go_iload_n (pc := 23) 3 dX6_lines_23 rfl rfl ?_
      refine go_iadd (pc := 24) dX6_lines_24 ?_
      obtain ⟨hi3, hs⟩ := chk_t hs
      refine go_iaload (pc := 25) 2 dX6_lines_25 rfl hi3 ?_
      obtain ⟨x4, hc5, hs⟩ := bnd hs
      refine go_callS (bc := 0) (bs := 0) (mc := 0) (ms := 0) (d := d + 0) (pc := 26) [vI (ne (((10 : Int32) * y1) + x1_).toNatClampNeg)] [vI x0_] dX6_lines_26 kX6_bits mlX6_73 isX6_bits rfl (Nat.le_of_ble_eq_true rfl) rfl (c_X6_bits (d := d + 0) (res0 := x4) hc5) (fun r w' hq => ?_)
      obtain ⟨rfl, rfl⟩ := hq
      show Go mX6_lines (d + 1) false 0 0 29 [some (vR 0), some (vI y1), some (vI x0_), some (vI x1_)] [vI x4, vI x0_] (wM kn ne fi se ma on ot ta po ti nu mo wa nx oT cF bg ed sF qu qd tr) Q
      refine go_iadd (pc := 29) dX6_lines_29 ?_
      refine go_istore_n (pc := 30) 2 [some (vR 0), some (vI y1), some (vI (x0_ + x4)), some (vI x1_)] dX6_lines_30 rfl (by decide) rfl ?_
      refine go_iinc (pc := 31) (x1_ + (1 : Int32)) [some (vR 0), some (vI y1), some (vI (x0_ + x4)), some (vI (x1_ + (1 : Int32)))] dX6_lines_31 rfl (iinc_1 _) (by decide) rfl ?_
      refine go_goto (pc := 34) 4 dX6_lines_34 (by decide) ?_
      obtain rfl := Option.some.inj hs
      exact hI (x0_ + x4, x1_ + (1 : Int32)) rfl (x0_ + x4) (x1_ + (1 : Int32)) rfl
set_option maxRecDepth 20000 in
theorem c_X6_lines {d : Nat}  {a1 : Int32} {res0 : Int32} (hs : s_X6_lines kn ne a1 = some res0) : Calls mX6_lines (d + 1) false 0 0 [vR 0, vI a1] (wM kn ne fi se ma on ot ta po ti nu mo wa nx oT cF bg ed sF qu qd tr) (fun r w' => r = some (vI res0) ∧ w' = (wM kn ne fi se ma on ot ta po ti nu mo wa nx oT cF bg ed sF qu qd tr)) := by
  unfold s_X6_lines at hs
  refine Calls.of kX6_lines 2 [some (vR 0), some (vI a1), none, none] rfl (Nat.le_of_ble_eq_true rfl) ?_
  refine go_iconst (pc := 0) (0 : Int32) dX6_lines_0 (by decide) ?_
  refine go_istore_n (pc := 1) 2 [some (vR 0), some (vI a1), some (vI (0 : Int32)), none] dX6_lines_1 rfl (by decide) rfl ?_
  refine go_iconst (pc := 2) (0 : Int32) dX6_lines_2 (by decide) ?_
  refine go_istore_n (pc := 3) 3 [some (vR 0), some (vI a1), some (vI (0 : Int32)), some (vI (0 : Int32))] dX6_lines_3 rfl (by decide) rfl ?_
  obtain ⟨e6, hl7, hs⟩ := bnd hs
  refine g_X6_lines_4 (d := d) (0 : Int32) (0 : Int32) e6 hl7 ?_
  refine go_iload_n (pc := 37) 2 dX6_lines_37 rfl rfl ?_
  refine go_iconst (pc := 38) (2 : Int32) dX6_lines_38 (by decide) ?_
  refine go_idiv (pc := 39) dX6_lines_39 (by decide) ?_
  cases hs
  exact go_ireturn (st := []) (pc := 40) dX6_lines_40 rfl (vp_nar_int _) (fun h => by cases h) ⟨rfl, rfl⟩
noncomputable def s_X6_net (kn : (Nat → Int32)) (ne : (Nat → Int32)) (a1 : Int32) (a2 : Int32) : Option (Int32 × (Nat → Int32) × (Nat → Int32)) := (s_X6_isNet a1).bind (fun x1 => if x1 = 0 then (some ((-2 : Int32), kn, ne)) else ((s_X6_in a2 (1 : Int32) (10 : Int32)).bind (fun x4 => if x4 = 0 then (some ((-2 : Int32), kn, ne)) else ((s_X6_begin kn ne a1 a2).bind (fun x7 => some ((1 : Int32), x7.1, x7.2))))))
set_option maxRecDepth 20000 in
theorem c_X6_net {d : Nat}  {a1 : Int32} {a2 : Int32} {res0 : Int32} {res1 : (Nat → Int32)} {res2 : (Nat → Int32)} (hs : s_X6_net kn ne a1 a2 = some (res0, res1, res2)) : Calls mX6_net (d + 2) false 0 0 [vR 0, vI a1, vI a2] (wM kn ne fi se ma on ot ta po ti nu mo wa nx oT cF bg ed sF qu qd tr) (fun r w' => r = some (vI res0) ∧ w' = (wM res1 res2 fi se ma on ot ta po ti nu mo wa nx oT cF bg ed sF qu qd tr)) := by
  unfold s_X6_net at hs
  refine Calls.of kX6_net 0 [some (vR 0), some (vI a1), some (vI a2)] rfl (Nat.le_of_ble_eq_true rfl) ?_
  refine go_iload_n (pc := 0) 1 dX6_net_0 rfl rfl ?_
  obtain ⟨x1, hc2, hs⟩ := bnd hs
  refine go_callS (bc := 0) (bs := 0) (mc := 0) (ms := 0) (d := d + 1) (pc := 1) [vI a1] [] dX6_net_1 kX6_isNet mlX6_69 isX6_isNet rfl (Nat.le_of_ble_eq_true rfl) rfl (c_X6_isNet (d := d + 0) (res0 := x1) hc2) (fun r w' hq => ?_)
  obtain ⟨rfl, rfl⟩ := hq
  show Go mX6_net (d + 2) false 0 0 4 [some (vR 0), some (vI a1), some (vI a2)] [vI x1] (wM kn ne fi se ma on ot ta po ti nu mo wa nx oT cF bg ed sF qu qd tr) _
  refine go_if_eq (pc := 4) 17 dX6_net_4 (by decide) (fun h3 => ?_) (fun h3 => ?_)
  · have hs := it_t h3 hs
    refine go_bipush (pc := 17) (-2 : Int32) dX6_net_17 (by decide) ?_
    cases hs
    exact go_ireturn (st := []) (pc := 19) dX6_net_19 rfl (vp_nar_int _) (fun h => by cases h) ⟨rfl, rfl⟩
  · have hs := it_f h3 hs
    refine go_iload_n (pc := 7) 2 dX6_net_7 rfl rfl ?_
    refine go_iconst (pc := 8) (1 : Int32) dX6_net_8 (by decide) ?_
    refine go_bipush (pc := 9) (10 : Int32) dX6_net_9 (by decide) ?_
    obtain ⟨x4, hc5, hs⟩ := bnd hs
    refine go_callS (bc := 0) (bs := 0) (mc := 0) (ms := 0) (d := d + 1) (pc := 11) [vI a2, vI (1 : Int32), vI (10 : Int32)] [] dX6_net_11 kX6_in mlX6_65 isX6_in rfl (Nat.le_of_ble_eq_true rfl) rfl (c_X6_in (d := d + 1) (res0 := x4) hc5) (fun r w' hq => ?_)
    obtain ⟨rfl, rfl⟩ := hq
    show Go mX6_net (d + 2) false 0 0 14 [some (vR 0), some (vI a1), some (vI a2)] [vI x4] (wM kn ne fi se ma on ot ta po ti nu mo wa nx oT cF bg ed sF qu qd tr) _
    refine go_if_ne (pc := 14) 20 dX6_net_14 (by decide) (fun h6 => ?_) (fun h6 => ?_)
    · have hs := it_f h6 hs
      refine go_aload_n (pc := 20) 0 dX6_net_20 rfl rfl ?_
      refine go_iload_n (pc := 21) 1 dX6_net_21 rfl rfl ?_
      refine go_iload_n (pc := 22) 2 dX6_net_22 rfl rfl ?_
      obtain ⟨x7, hc8, hs⟩ := bnd hs
      refine go_callV (bc := 0) (bs := 0) (mc := 0) (ms := 0) (d := d + 1) (pc := 23) (a := 0) (ci := 6) [vI a1, vI a2] [] dX6_net_23 kX6_begin mlX6_77 ivX6_begin rfl rfl rfl rfl (Nat.le_of_ble_eq_true rfl) rfl (c_X6_begin (d := d + 1) (res0 := x7.1) (res1 := x7.2) hc8) (fun r w' hq => ?_)
      obtain ⟨rfl, rfl⟩ := hq
      show Go mX6_net (d + 2) false 0 0 26 [some (vR 0), some (vI a1), some (vI a2)] [] (wM x7.1 x7.2 fi se ma on ot ta po ti nu mo wa nx oT cF bg ed sF qu qd tr) _
      refine go_iconst (pc := 26) (1 : Int32) dX6_net_26 (by decide) ?_
      cases hs
      exact go_ireturn (st := []) (pc := 27) dX6_net_27 rfl (vp_nar_int _) (fun h => by cases h) ⟨rfl, rfl⟩
    · have hs := it_t h6 hs
      refine go_bipush (pc := 17) (-2 : Int32) dX6_net_17 (by decide) ?_
      cases hs
      exact go_ireturn (st := []) (pc := 19) dX6_net_19 rfl (vp_nar_int _) (fun h => by cases h) ⟨rfl, rfl⟩
noncomputable def s_X6_line (kn : (Nat → Int32)) (ne : (Nat → Int32)) (a1 : Int32) (a2 : Int32) (a3 : Int32) (a4 : Int32) : Option (Int32 × (Nat → Int32)) := (s_X6_isKnot kn a1 a2).bind (fun x1 => if x1 = 0 then (some ((-2 : Int32), ne)) else ((s_X6_isKnot kn a1 a3).bind (fun x4 => if x4 = 0 then (some ((-2 : Int32), ne)) else (if a2 = a3 then (some ((-2 : Int32), ne)) else ((s_X6_has ne a1 a2 a3).bind (fun x8 => if x8 = a4 then (some ((-3 : Int32), ne)) else (chk (((10 : Int32) * a1) + a2) 40 (chk (((10 : Int32) * a1) + a2) 40 (chk (((10 : Int32) * a1) + a3) 40 (chk (((10 : Int32) * a1) + a3) 40 (some ((1 : Int32), upd (upd ne (((10 : Int32) * a1) + a2).toNatClampNeg ((ne (((10 : Int32) * a1) + a2).toNatClampNeg) ^^^ ((1 : Int32) <<< (a3 &&& 31)))) (((10 : Int32) * a1) + a3).toNatClampNeg (((upd ne (((10 : Int32) * a1) + a2).toNatClampNeg ((ne (((10 : Int32) * a1) + a2).toNatClampNeg) ^^^ ((1 : Int32) <<< (a3 &&& 31)))) (((10 : Int32) * a1) + a3).toNatClampNeg) ^^^ ((1 : Int32) <<< (a2 &&& 31)))))))))))))))
set_option maxRecDepth 20000 in
theorem c_X6_line {d : Nat}  {a1 : Int32} {a2 : Int32} {a3 : Int32} {a4 : Int32} {res0 : Int32} {res1 : (Nat → Int32)} (hs : s_X6_line kn ne a1 a2 a3 a4 = some (res0, res1)) : Calls mX6_line (d + 3) false 0 0 [vR 0, vI a1, vI a2, vI a3, vI a4] (wM kn ne fi se ma on ot ta po ti nu mo wa nx oT cF bg ed sF qu qd tr) (fun r w' => r = some (vI res0) ∧ w' = (wM kn res1 fi se ma on ot ta po ti nu mo wa nx oT cF bg ed sF qu qd tr)) := by
  unfold s_X6_line at hs
  refine Calls.of kX6_line 0 [some (vR 0), some (vI a1), some (vI a2), some (vI a3), some (vI a4)] rfl (Nat.le_of_ble_eq_true rfl) ?_
  refine go_aload_n (pc := 0) 0 dX6_line_0 rfl rfl ?_
  refine go_iload_n (pc := 1) 1 dX6_line_1 rfl rfl ?_
  refine go_iload_n (pc := 2) 2 dX6_line_2 rfl rfl ?_
  obtain ⟨x1, hc2, hs⟩ := bnd hs
  refine go_callV (bc := 0) (bs := 0) (mc := 0) (ms := 0) (d := d + 2) (pc := 3) (a := 0) (ci := 6) [vI a1, vI a2] [] dX6_line_3 kX6_isKnot mlX6_81 ivX6_isKnot rfl rfl rfl rfl (Nat.le_of_ble_eq_true rfl) rfl (c_X6_isKnot (d := d + 0) (res0 := x1) hc2) (fun r w' hq => ?_)
  obtain ⟨rfl, rfl⟩ := hq
  show Go mX6_line (d + 3) false 0 0 6 [some (vR 0), some (vI a1), some (vI a2), some (vI a3), some (vI a4)] [vI x1] (wM kn ne fi se ma on ot ta po ti nu mo wa nx oT cF bg ed sF qu qd tr) _
  refine go_if_eq (pc := 6) 23 dX6_line_6 (by decide) (fun h3 => ?_) (fun h3 => ?_)
  · have hs := it_t h3 hs
    refine go_bipush (pc := 23) (-2 : Int32) dX6_line_23 (by decide) ?_
    cases hs
    exact go_ireturn (st := []) (pc := 25) dX6_line_25 rfl (vp_nar_int _) (fun h => by cases h) ⟨rfl, rfl⟩
  · have hs := it_f h3 hs
    refine go_aload_n (pc := 9) 0 dX6_line_9 rfl rfl ?_
    refine go_iload_n (pc := 10) 1 dX6_line_10 rfl rfl ?_
    refine go_iload_n (pc := 11) 3 dX6_line_11 rfl rfl ?_
    obtain ⟨x4, hc5, hs⟩ := bnd hs
    refine go_callV (bc := 0) (bs := 0) (mc := 0) (ms := 0) (d := d + 2) (pc := 12) (a := 0) (ci := 6) [vI a1, vI a3] [] dX6_line_12 kX6_isKnot mlX6_81 ivX6_isKnot rfl rfl rfl rfl (Nat.le_of_ble_eq_true rfl) rfl (c_X6_isKnot (d := d + 0) (res0 := x4) hc5) (fun r w' hq => ?_)
    obtain ⟨rfl, rfl⟩ := hq
    show Go mX6_line (d + 3) false 0 0 15 [some (vR 0), some (vI a1), some (vI a2), some (vI a3), some (vI a4)] [vI x4] (wM kn ne fi se ma on ot ta po ti nu mo wa nx oT cF bg ed sF qu qd tr) _
    refine go_if_eq (pc := 15) 23 dX6_line_15 (by decide) (fun h6 => ?_) (fun h6 => ?_)
    · have hs := it_t h6 hs
      refine go_bipush (pc := 23) (-2 : Int32) dX6_line_23 (by decide) ?_
      cases hs
      exact go_ireturn (st := []) (pc := 25) dX6_line_25 rfl (vp_nar_int _) (fun h => by cases h) ⟨rfl, rfl⟩
    · have hs := it_f h6 hs
      refine go_iload_n (pc := 18) 2 dX6_line_18 rfl rfl ?_
      refine go_iload_n (pc := 19) 3 dX6_line_19 rfl rfl ?_
      refine go_icmp_ne (pc := 20) 26 dX6_line_20 (by decide) (fun h7 => ?_) (fun h7 => ?_)
      · have hs := it_f h7 hs
        refine go_aload_n (pc := 26) 0 dX6_line_26 rfl rfl ?_
        refine go_iload_n (pc := 27) 1 dX6_line_27 rfl rfl ?_
        refine go_iload_n (pc := 28) 2 dX6_line_28 rfl rfl ?_
        refine go_iload_n (pc := 29) 3 dX6_line_29 rfl rfl ?_
        obtain ⟨x8, hc9, hs⟩ := bnd hs
        refine go_callV (bc := 0) (bs := 0) (mc := 0) (ms := 0) (d := d + 2) (pc := 30) (a := 0) (ci := 6) [vI a1, vI a2, vI a3] [] dX6_line_30 kX6_has mlX6_85 ivX6_has rfl rfl rfl rfl (Nat.le_of_ble_eq_true rfl) rfl (c_X6_has (d := d + 2) (res0 := x8) hc9) (fun r w' hq => ?_)
        obtain ⟨rfl, rfl⟩ := hq
        show Go mX6_line (d + 3) false 0 0 33 [some (vR 0), some (vI a1), some (vI a2), some (vI a3), some (vI a4)] [vI x8] (wM kn ne fi se ma on ot ta po ti nu mo wa nx oT cF bg ed sF qu qd tr) _
        refine go_iload (pc := 33) dX6_line_33 rfl ?_
        refine go_icmp_ne (pc := 35) 41 dX6_line_35 (by decide) (fun h10 => ?_) (fun h10 => ?_)
        · have hs := it_f h10 hs
          refine go_aload_n (pc := 41) 0 dX6_line_41 rfl rfl ?_
          refine go_getfield (pc := 42) (v := vR 2) 0 6 1 dX6_line_42 flX6_13 rfl rfl ?_
          refine go_bipush (pc := 45) (10 : Int32) dX6_line_45 (by decide) ?_
          refine go_iload_n (pc := 47) 1 dX6_line_47 rfl rfl ?_
          refine go_imul (pc := 48) dX6_line_48 ?_
          refine go_iload_n (pc := 49) 2 dX6_line_49 rfl rfl ?_
          refine go_iadd (pc := 50) dX6_line_50 ?_
          refine go_dup2 (pc := 51) dX6_line_51 rfl rfl ?_
          obtain ⟨hi11, hs⟩ := chk_t hs
          refine go_iaload (pc := 52) 2 dX6_line_52 rfl hi11 ?_
          refine go_iconst (pc := 53) (1 : Int32) dX6_line_53 (by decide) ?_
          refine go_iload_n (pc := 54) 3 dX6_line_54 rfl rfl ?_
          refine go_ishl (pc := 55) dX6_line_55 ?_
          refine go_ixor (pc := 56) dX6_line_56 ?_
          obtain ⟨hi12, hs⟩ := chk_t hs
          refine go_iastore (pc := 57) 2 dX6_line_57 rfl hi12 (show Go mX6_line (d + 3) false 0 0 58 [some (vR 0), some (vI a1), some (vI a2), some (vI a3), some (vI a4)] [] (wM kn (upd ne (((10 : Int32) * a1) + a2).toNatClampNeg ((ne (((10 : Int32) * a1) + a2).toNatClampNeg) ^^^ ((1 : Int32) <<< (a3 &&& 31)))) fi se ma on ot ta po ti nu mo wa nx oT cF bg ed sF qu qd tr) _ from ?_)
          refine go_aload_n (pc := 58) 0 dX6_line_58 rfl rfl ?_
          refine go_getfield (pc := 59) (v := vR 2) 0 6 1 dX6_line_59 flX6_13 rfl rfl ?_
          refine go_bipush (pc := 62) (10 : Int32) dX6_line_62 (by decide) ?_
          refine go_iload_n (pc := 64) 1 dX6_line_64 rfl rfl ?_
          refine go_imul (pc := 65) dX6_line_65 ?_
          refine go_iload_n (pc := 66) 3 dX6_line_66 rfl rfl ?_
          refine go_iadd (pc := 67) dX6_line_67 ?_
          refine go_dup2 (pc := 68) dX6_line_68 rfl rfl ?_
          obtain ⟨hi13, hs⟩ := chk_t hs
          refine go_iaload (pc := 69) 2 dX6_line_69 rfl hi13 ?_
          refine go_iconst (pc := 70) (1 : Int32) dX6_line_70 (by decide) ?_
          refine go_iload_n (pc := 71) 2 dX6_line_71 rfl rfl ?_
          refine go_ishl (pc := 72) dX6_line_72 ?_
          refine go_ixor (pc := 73) dX6_line_73 ?_
          obtain ⟨hi14, hs⟩ := chk_t hs
          refine go_iastore (pc := 74) 2 dX6_line_74 rfl hi14 (show Go mX6_line (d + 3) false 0 0 75 [some (vR 0), some (vI a1), some (vI a2), some (vI a3), some (vI a4)] [] (wM kn (upd (upd ne (((10 : Int32) * a1) + a2).toNatClampNeg ((ne (((10 : Int32) * a1) + a2).toNatClampNeg) ^^^ ((1 : Int32) <<< (a3 &&& 31)))) (((10 : Int32) * a1) + a3).toNatClampNeg (((upd ne (((10 : Int32) * a1) + a2).toNatClampNeg ((ne (((10 : Int32) * a1) + a2).toNatClampNeg) ^^^ ((1 : Int32) <<< (a3 &&& 31)))) (((10 : Int32) * a1) + a3).toNatClampNeg) ^^^ ((1 : Int32) <<< (a2 &&& 31)))) fi se ma on ot ta po ti nu mo wa nx oT cF bg ed sF qu qd tr) _ from ?_)
          refine go_iconst (pc := 75) (1 : Int32) dX6_line_75 (by decide) ?_
          cases hs
          exact go_ireturn (st := []) (pc := 76) dX6_line_76 rfl (vp_nar_int _) (fun h => by cases h) ⟨rfl, rfl⟩
        · have hs := it_t h10 hs
          refine go_bipush (pc := 38) (-3 : Int32) dX6_line_38 (by decide) ?_
          cases hs
          exact go_ireturn (st := []) (pc := 40) dX6_line_40 rfl (vp_nar_int _) (fun h => by cases h) ⟨rfl, rfl⟩
      · have hs := it_t h7 hs
        refine go_bipush (pc := 23) (-2 : Int32) dX6_line_23 (by decide) ?_
        cases hs
        exact go_ireturn (st := []) (pc := 25) dX6_line_25 rfl (vp_nar_int _) (fun h => by cases h) ⟨rfl, rfl⟩
end
