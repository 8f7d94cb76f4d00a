section
variable {kn : (Nat → Int32)} {ne : (Nat → Int32)} {fi : (Nat → Int32)} {se : (Nat → Int32)} {ma : Int32} {on : (Nat → Int32)} {ot : (Nat → Int32)} {ta : (Nat → Int64)} {po : (Nat → Int64)} {ti : (Nat → Int64)} {nu : (Nat → Int64)} {mo : (Nat → Int64)} {wa : (Nat → Int64)} {nx : (Nat → Int64)} {oT : (Nat → Int32)} {cF : (Nat → Int32)} {bg : Int32} {ed : Int32} {sF : (Nat → Int32)} {qu : (Nat → Int32)} {qd : Int32} {tr : (Nat → Int32)}
def wM (kn : (Nat → Int32)) (ne : (Nat → Int32)) (fi : (Nat → Int32)) (se : (Nat → Int32)) (ma : Int32) (on : (Nat → Int32)) (ot : (Nat → Int32)) (ta : (Nat → Int64)) (po : (Nat → Int64)) (ti : (Nat → Int64)) (nu : (Nat → Int64)) (mo : (Nat → Int64)) (wa : (Nat → Int64)) (nx : (Nat → Int64)) (oT : (Nat → Int32)) (cF : (Nat → Int32)) (bg : Int32) (ed : Int32) (sF : (Nat → Int32)) (qu : (Nat → Int32)) (qd : Int32) (tr : (Nat → Int32)) : List AC := [cO 6 [vR 1, vR 2, vR 3, vR 4, vI ma, vR 5, vR 6, vR 7, vR 8, vR 9, vR 10, vR 11, vR 12, vR 13, vR 14, vR 15, vI bg, vI ed, vR 16, vR 17, vI qd, vR 18], cI 4 kn, cI 40 ne, cI 10 fi, cI 10 se, cI 45 on, cI 45 ot, cJ 100 ta, cJ 100 po, cJ 100 ti, cJ 11 nu, cJ 11 mo, cJ 10 wa, cJ 10 nx, cI 10 oT, cI 10 cF, cI 20 sF, cI 20 qu, cI 20 tr]
noncomputable def s_X6_in (a0 : Int32) (a1 : Int32) (a2 : Int32) : Option (Int32) := if a0 < a1 then (some (0 : Int32)) else (if a2 < a0 then (some (0 : Int32)) else (some (1 : Int32)))
set_option maxRecDepth 20000 in
theorem c_X6_in {d : Nat} {w : List AC} {a0 : Int32} {a1 : Int32} {a2 : Int32} {res : Int32} (hs : s_X6_in a0 a1 a2 = some res) : Calls mX6_in (d + 0) false 0 0 [vI a0, vI a1, vI a2] w (fun r w' => r = some (vI res) ∧ w' = w) := by
  unfold s_X6_in at hs
  refine Calls.of kX6_in 0 [some (vI a0), some (vI a1), some (vI a2)] rfl (Nat.le_of_ble_eq_true rfl) ?_
  refine go_iload_n (pc := 0) 0 dX6_in_0 rfl rfl ?_
  refine go_iload_n (pc := 1) 1 dX6_in_1 rfl rfl ?_
  refine go_icmp_lt (pc := 2) 14 dX6_in_2 (by decide) (fun h1 => ?_) (fun h1 => ?_)
  · have hs := it_t h1 hs
    refine go_iconst (pc := 14) (0 : Int32) dX6_in_14 (by decide) ?_
    obtain rfl := Option.some.inj hs
    exact go_ireturn (st := []) (pc := 15) dX6_in_15 rfl rfl (fun h => by cases h) ⟨rfl, rfl⟩
  · have hs := it_f h1 hs
    refine go_iload_n (pc := 5) 0 dX6_in_5 rfl rfl ?_
    refine go_iload_n (pc := 6) 2 dX6_in_6 rfl rfl ?_
    refine go_icmp_gt (pc := 7) 14 dX6_in_7 (by decide) (fun h2 => ?_) (fun h2 => ?_)
    · have hs := it_t h2 hs
      refine go_iconst (pc := 14) (0 : Int32) dX6_in_14 (by decide) ?_
      obtain rfl := Option.some.inj hs
      exact go_ireturn (st := []) (pc := 15) dX6_in_15 rfl rfl (fun h => by cases h) ⟨rfl, rfl⟩
    · have hs := it_f h2 hs
      refine go_iconst (pc := 10) (1 : Int32) dX6_in_10 (by decide) ?_
      refine go_goto (pc := 11) 15 dX6_in_11 (by decide) ?_
      obtain rfl := Option.some.inj hs
      exact go_ireturn (st := []) (pc := 15) dX6_in_15 rfl rfl (fun h => by cases h) ⟨rfl, rfl⟩
noncomputable def s_X6_isNet (a0 : Int32) : Option (Int32) := (s_X6_in a0 (0 : Int32) (3 : Int32)).bind (fun x1 => bck x1 (some x1))
set_option maxRecDepth 20000 in
theorem c_X6_isNet {d : Nat} {w : List AC} {a0 : Int32} {res : Int32} (hs : s_X6_isNet a0 = some res) : Calls mX6_isNet (d + 1) false 0 0 [vI a0] w (fun r w' => r = some (vI res) ∧ w' = w) := by
  unfold s_X6_isNet at hs
  refine Calls.of kX6_isNet 0 [some (vI a0)] rfl (Nat.le_of_ble_eq_true rfl) ?_
  refine go_iload_n (pc := 0) 0 dX6_isNet_0 rfl rfl ?_
  refine go_iconst (pc := 1) (0 : Int32) dX6_isNet_1 (by decide) ?_
  refine go_iconst (pc := 2) (3 : Int32) dX6_isNet_2 (by decide) ?_
  obtain ⟨x1, hc2, hs⟩ := bnd hs
  refine go_callS (bc := 0) (bs := 0) (mc := 0) (ms := 0) (d := d + 0) (pc := 3) [vI a0, vI (0 : Int32), vI (3 : Int32)] [] dX6_isNet_3 kX6_in mlX6_65 isX6_in rfl (Nat.le_of_ble_eq_true rfl) rfl (c_X6_in (d := d + 0) hc2) (fun r w' hq => ?_)
  obtain ⟨rfl, hw9⟩ := hq
  rw [hw9]
  show Go mX6_isNet (d + 1) false 0 0 6 [some (vI a0)] [vI x1] w _
  obtain ⟨hb3, hs⟩ := bck_t hs
  obtain rfl := Option.some.inj hs
  exact go_ireturn (st := []) (pc := 6) dX6_isNet_6 rfl hb3 (fun h => by cases h) ⟨rfl, rfl⟩
noncomputable def s_X6_isKnot (kn : (Nat → Int32)) (a1 : Int32) (a2 : Int32) : Option (Int32) := (s_X6_isNet a1).bind (fun x1 => if x1 = 0 then (some (0 : Int32)) else (chk a1 4 ((s_X6_in a2 (0 : Int32) ((kn a1.toNatClampNeg) - (1 : Int32))).bind (fun x5 => if x5 = 0 then (some (0 : Int32)) else (some (1 : Int32))))))
set_option maxRecDepth 20000 in
theorem c_X6_isKnot {d : Nat}  {a1 : Int32} {a2 : Int32} {res : Int32} (hs : s_X6_isKnot kn a1 a2 = some res) : Calls mX6_isKnot (d + 2) false 0 0 [vR 0, vI a1, vI a2] (wM kn ne fi se ma on ot ta po ti nu mo wa nx oT cF bg ed sF qu qd tr) (fun r w' => r = some (vI res) ∧ w' = (wM kn ne fi se ma on ot ta po ti nu mo wa nx oT cF bg ed sF qu qd tr)) := by
  unfold s_X6_isKnot at hs
  refine Calls.of kX6_isKnot 0 [some (vR 0), some (vI a1), some (vI a2)] rfl (Nat.le_of_ble_eq_true rfl) ?_
  refine go_iload_n (pc := 0) 1 dX6_isKnot_0 rfl rfl ?_
  obtain ⟨x1, hc2, hs⟩ := bnd hs
  refine go_callS (bc := 0) (bs := 0) (mc := 0) (ms := 0) (d := d + 1) (pc := 1) [vI a1] [] dX6_isKnot_1 kX6_isNet mlX6_69 isX6_isNet rfl (Nat.le_of_ble_eq_true rfl) rfl (c_X6_isNet (d := d + 0) hc2) (fun r w' hq => ?_)
  obtain ⟨rfl, rfl⟩ := hq
  show Go mX6_isKnot (d + 2) false 0 0 4 [some (vR 0), some (vI a1), some (vI a2)] [vI x1] (wM kn ne fi se ma on ot ta po ti nu mo wa nx oT cF bg ed sF qu qd tr) _
  refine go_if_eq (pc := 4) 27 dX6_isKnot_4 (by decide) (fun h3 => ?_) (fun h3 => ?_)
  · have hs := it_t h3 hs
    refine go_iconst (pc := 27) (0 : Int32) dX6_isKnot_27 (by decide) ?_
    obtain rfl := Option.some.inj hs
    exact go_ireturn (st := []) (pc := 28) dX6_isKnot_28 rfl rfl (fun h => by cases h) ⟨rfl, rfl⟩
  · have hs := it_f h3 hs
    refine go_iload_n (pc := 7) 2 dX6_isKnot_7 rfl rfl ?_
    refine go_iconst (pc := 8) (0 : Int32) dX6_isKnot_8 (by decide) ?_
    refine go_aload_n (pc := 9) 0 dX6_isKnot_9 rfl rfl ?_
    refine go_getfield (pc := 10) (v := vR 1) 0 6 0 dX6_isKnot_10 flX6_7 rfl rfl ?_
    refine go_iload_n (pc := 13) 1 dX6_isKnot_13 rfl rfl ?_
    obtain ⟨hi4, hs⟩ := chk_t hs
    refine go_iaload (pc := 14) 1 dX6_isKnot_14 rfl hi4 ?_
    refine go_iconst (pc := 15) (1 : Int32) dX6_isKnot_15 (by decide) ?_
    refine go_isub (pc := 16) dX6_isKnot_16 ?_
    obtain ⟨x5, hc6, hs⟩ := bnd hs
    refine go_callS (bc := 0) (bs := 0) (mc := 0) (ms := 0) (d := d + 1) (pc := 17) [vI a2, vI (0 : Int32), vI ((kn a1.toNatClampNeg) - (1 : Int32))] [] dX6_isKnot_17 kX6_in mlX6_65 isX6_in rfl (Nat.le_of_ble_eq_true rfl) rfl (c_X6_in (d := d + 1) hc6) (fun r w' hq => ?_)
    obtain ⟨rfl, rfl⟩ := hq
    show Go mX6_isKnot (d + 2) false 0 0 20 [some (vR 0), some (vI a1), some (vI a2)] [vI x5] (wM kn ne fi se ma on ot ta po ti nu mo wa nx oT cF bg ed sF qu qd tr) _
    refine go_if_eq (pc := 20) 27 dX6_isKnot_20 (by decide) (fun h7 => ?_) (fun h7 => ?_)
    · have hs := it_t h7 hs
      refine go_iconst (pc := 27) (0 : Int32) dX6_isKnot_27 (by decide) ?_
      obtain rfl := Option.some.inj hs
      exact go_ireturn (st := []) (pc := 28) dX6_isKnot_28 rfl rfl (fun h => by cases h) ⟨rfl, rfl⟩
    · have hs := it_f h7 hs
      refine go_iconst (pc := 23) (1 : Int32) dX6_isKnot_23 (by decide) ?_
      refine go_goto (pc := 24) 28 dX6_isKnot_24 (by decide) ?_
      obtain rfl := Option.some.inj hs
      exact go_ireturn (st := []) (pc := 28) dX6_isKnot_28 rfl rfl (fun h => by cases h) ⟨rfl, rfl⟩
noncomputable def s_X6_has (ne : (Nat → Int32)) (a1 : Int32) (a2 : Int32) (a3 : Int32) : Option (Int32) := chk (((10 : Int32) * a1) + a2) 40 (if (((ne (((10 : Int32) * a1) + a2).toNatClampNeg) >>> (a3 &&& 31)) &&& (1 : Int32)) = (1 : Int32) then (some (1 : Int32)) else (some (0 : Int32)))
set_option maxRecDepth 20000 in
theorem c_X6_has {d : Nat}  {a1 : Int32} {a2 : Int32} {a3 : Int32} {res : Int32} (hs : s_X6_has ne a1 a2 a3 = some res) : Calls mX6_has (d + 0) false 0 0 [vR 0, vI a1, vI a2, vI a3] (wM kn ne fi se ma on ot ta po ti nu mo wa nx oT cF bg ed sF qu qd tr) (fun r w' => r = some (vI res) ∧ w' = (wM kn ne fi se ma on ot ta po ti nu mo wa nx oT cF bg ed sF qu qd tr)) := by
  unfold s_X6_has at hs
  refine Calls.of kX6_has 0 [some (vR 0), some (vI a1), some (vI a2), some (vI a3)] rfl (Nat.le_of_ble_eq_true rfl) ?_
  refine go_aload_n (pc := 0) 0 dX6_has_0 rfl rfl ?_
  refine go_getfield (pc := 1) (v := vR 2) 0 6 1 dX6_has_1 flX6_13 rfl rfl ?_
  refine go_bipush (pc := 4) (10 : Int32) dX6_has_4 (by decide) ?_
  refine go_iload_n (pc := 6) 1 dX6_has_6 rfl rfl ?_
  refine go_imul (pc := 7) dX6_has_7 ?_
  refine go_iload_n (pc := 8) 2 dX6_has_8 rfl rfl ?_
  refine go_iadd (pc := 9) dX6_has_9 ?_
  obtain ⟨hi1, hs⟩ := chk_t hs
  refine go_iaload (pc := 10) 2 dX6_has_10 rfl hi1 ?_
  refine go_iload_n (pc := 11) 3 dX6_has_11 rfl rfl ?_
  refine go_ishr (pc := 12) dX6_has_12 ?_
  refine go_iconst (pc := 13) (1 : Int32) dX6_has_13 (by decide) ?_
  refine go_iand (pc := 14) dX6_has_14 ?_
  refine go_iconst (pc := 15) (1 : Int32) dX6_has_15 (by decide) ?_
  refine go_icmp_ne (pc := 16) 23 dX6_has_16 (by decide) (fun h2 => ?_) (fun h2 => ?_)
  · have hs := it_f h2 hs
    refine go_iconst (pc := 23) (0 : Int32) dX6_has_23 (by decide) ?_
    obtain rfl := Option.some.inj hs
    exact go_ireturn (st := []) (pc := 24) dX6_has_24 rfl rfl (fun h => by cases h) ⟨rfl, rfl⟩
  · have hs := it_t h2 hs
    refine go_iconst (pc := 19) (1 : Int32) dX6_has_19 (by decide) ?_
    refine go_goto (pc := 20) 24 dX6_has_20 (by decide) ?_
    obtain rfl := Option.some.inj hs
    exact go_ireturn (st := []) (pc := 24) dX6_has_24 rfl rfl (fun h => by cases h) ⟨rfl, rfl⟩
noncomputable def s_X6_put (ne : (Nat → Int32)) (a1 : Int32) (a2 : Int32) (a3 : Int32) : Option ((Nat → Int32)) := chk (((10 : Int32) * a1) + a2) 40 (chk (((10 : Int32) * a1) + a2) 40 (chk (((10 : Int32) * a1) + a3) 40 (chk (((10 : Int32) * a1) + a3) 40 (some (upd (upd ne (((10 : Int32) * a1) + a2).toNatClampNeg ((ne (((10 : Int32) * a1) + a2).toNatClampNeg) ||| ((1 : Int32) <<< (a3 &&& 31)))) (((10 : Int32) * a1) + a3).toNatClampNeg (((upd ne (((10 : Int32) * a1) + a2).toNatClampNeg ((ne (((10 : Int32) * a1) + a2).toNatClampNeg) ||| ((1 : Int32) <<< (a3 &&& 31)))) (((10 : Int32) * a1) + a3).toNatClampNeg) ||| ((1 : Int32) <<< (a2 &&& 31))))))))
set_option maxRecDepth 20000 in
theorem c_X6_put {d : Nat}  {a1 : Int32} {a2 : Int32} {a3 : Int32} {res : (Nat → Int32)} (hs : s_X6_put ne a1 a2 a3 = some res) : Calls mX6_put (d + 0) false 0 0 [vR 0, vI a1, vI a2, vI a3] (wM kn ne fi se ma on ot ta po ti nu mo wa nx oT cF bg ed sF qu qd tr) (fun r w' => r = none ∧ w' = (wM kn res fi se ma on ot ta po ti nu mo wa nx oT cF bg ed sF qu qd tr)) := by
  unfold s_X6_put at hs
  refine Calls.of kX6_put 0 [some (vR 0), some (vI a1), some (vI a2), some (vI a3)] rfl (Nat.le_of_ble_eq_true rfl) ?_
  refine go_aload_n (pc := 0) 0 dX6_put_0 rfl rfl ?_
  refine go_getfield (pc := 1) (v := vR 2) 0 6 1 dX6_put_1 flX6_13 rfl rfl ?_
  refine go_bipush (pc := 4) (10 : Int32) dX6_put_4 (by decide) ?_
  refine go_iload_n (pc := 6) 1 dX6_put_6 rfl rfl ?_
  refine go_imul (pc := 7) dX6_put_7 ?_
  refine go_iload_n (pc := 8) 2 dX6_put_8 rfl rfl ?_
  refine go_iadd (pc := 9) dX6_put_9 ?_
  refine go_dup2 (pc := 10) dX6_put_10 rfl rfl ?_
  obtain ⟨hi1, hs⟩ := chk_t hs
  refine go_iaload (pc := 11) 2 dX6_put_11 rfl hi1 ?_
  refine go_iconst (pc := 12) (1 : Int32) dX6_put_12 (by decide) ?_
  refine go_iload_n (pc := 13) 3 dX6_put_13 rfl rfl ?_
  refine go_ishl (pc := 14) dX6_put_14 ?_
  refine go_ior (pc := 15) dX6_put_15 ?_
  obtain ⟨hi2, hs⟩ := chk_t hs
  refine go_iastore (pc := 16) 2 dX6_put_16 rfl hi2 (show Go mX6_put (d + 0) false 0 0 17 [some (vR 0), some (vI a1), some (vI a2), some (vI a3)] [] (wM kn (upd ne (((10 : Int32) * a1) + a2).toNatClampNeg ((ne (((10 : Int32) * a1) + a2).toNatClampNeg) ||| ((1 : Int32) <<< (a3 &&& 31)))) fi se ma on ot ta po ti nu mo wa nx oT cF bg ed sF qu qd tr) _ from ?_)
  refine go_aload_n (pc := 17) 0 dX6_put_17 rfl rfl ?_
  refine go_getfield (pc := 18) (v := vR 2) 0 6 1 dX6_put_18 flX6_13 rfl rfl ?_
  refine go_bipush (pc := 21) (10 : Int32) dX6_put_21 (by decide) ?_
  refine go_iload_n (pc := 23) 1 dX6_put_23 rfl rfl ?_
  refine go_imul (pc := 24) dX6_put_24 ?_
  refine go_iload_n (pc := 25) 3 dX6_put_25 rfl rfl ?_
  refine go_iadd (pc := 26) dX6_put_26 ?_
  refine go_dup2 (pc := 27) dX6_put_27 rfl rfl ?_
  obtain ⟨hi3, hs⟩ := chk_t hs
  refine go_iaload (pc := 28) 2 dX6_put_28 rfl hi3 ?_
  refine go_iconst (pc := 29) (1 : Int32) dX6_put_29 (by decide) ?_
  refine go_iload_n (pc := 30) 2 dX6_put_30 rfl rfl ?_
  refine go_ishl (pc := 31) dX6_put_31 ?_
  refine go_ior (pc := 32) dX6_put_32 ?_
  obtain ⟨hi4, hs⟩ := chk_t hs
  refine go_iastore (pc := 33) 2 dX6_put_33 rfl hi4 (show Go mX6_put (d + 0) false 0 0 34 [some (vR 0), some (vI a1), some (vI a2), some (vI a3)] [] (wM kn (upd (upd ne (((10 : Int32) * a1) + a2).toNatClampNeg ((ne (((10 : Int32) * a1) + a2).toNatClampNeg) ||| ((1 : Int32) <<< (a3 &&& 31)))) (((10 : Int32) * a1) + a3).toNatClampNeg (((upd ne (((10 : Int32) * a1) + a2).toNatClampNeg ((ne (((10 : Int32) * a1) + a2).toNatClampNeg) ||| ((1 : Int32) <<< (a3 &&& 31)))) (((10 : Int32) * a1) + a3).toNatClampNeg) ||| ((1 : Int32) <<< (a2 &&& 31)))) fi se ma on ot ta po ti nu mo wa nx oT cF bg ed sF qu qd tr) _ from ?_)
  obtain rfl := Option.some.inj hs
  exact go_return (st := []) (pc := 34) dX6_put_34 rfl (fun h => by cases h) ⟨rfl, rfl⟩
noncomputable def b_X6_begin_9 (y1 : Int32) (x : Int32 × (Nat → Int32)) : Option ((Int32 × (Nat → Int32)) ⊕ ((Nat → Int32))) := if (10 : Int32) ≤ x.1 then (some (Sum.inr x.2)) else (chk (((10 : Int32) * y1) + x.1) 40 (some (Sum.inl (x.1 + (1 : Int32), upd x.2 (((10 : Int32) * y1) + x.1).toNatClampNeg (0 : Int32)))))
noncomputable def s_X6_begin (kn : (Nat → Int32)) (ne : (Nat → Int32)) (a1 : Int32) (a2 : Int32) : Option ((Nat → Int32) × (Nat → Int32)) := chk a1 4 ((loop (b_X6_begin_9 a1) ((0 : Int32), ne)).bind (fun e4 => some (upd kn a1.toNatClampNeg a2, e4)))
set_option maxRecDepth 20000 in
theorem g_X6_begin_9 {d : Nat} {Q : Option AV → List AC → Prop} {y1 : Int32} (x : Int32 × (Nat → Int32)) (r : (Nat → Int32)) (hl : loop (b_X6_begin_9 y1) x = some r) (hk : (fun r : (Nat → Int32) => Go mX6_begin (d + 0) false 0 0 33 [none, none, none, none] [] (wM kn r fi se ma on ot ta po ti nu mo wa nx oT cF bg ed sF qu qd tr) Q) r) : (fun x : Int32 × (Nat → Int32) => Go mX6_begin (d + 0) false 0 0 9 [some (vR 0), some (vI y1), none, some (vI x.1)] [] (wM kn x.2 fi se ma on ot ta po ti nu mo wa nx oT cF bg ed sF qu qd tr) Q) x := by
  refine loop_go (P := fun x : Int32 × (Nat → Int32) => Go mX6_begin (d + 0) false 0 0 9 [some (vR 0), some (vI y1), none, some (vI x.1)] [] (wM kn x.2 fi se ma on ot ta po ti nu mo wa nx oT cF bg ed sF qu qd tr) Q) (K := fun r : (Nat → Int32) => Go mX6_begin (d + 0) false 0 0 33 [none, none, none, none] [] (wM kn r fi se ma on ot ta po ti nu mo wa nx oT cF bg ed sF qu qd tr) Q) ?_ x r hl hk
  · intro x y hs hI hE
    unfold b_X6_begin_9 at hs
    show Go mX6_begin (d + 0) false 0 0 9 [some (vR 0), some (vI y1), none, some (vI x.1)] [] (wM kn x.2 fi se ma on ot ta po ti nu mo wa nx oT cF bg ed sF qu qd tr) Q
    refine go_iload_n (pc := 9) 3 dX6_begin_9 rfl rfl ?_
    refine go_bipush (pc := 10) (10 : Int32) dX6_begin_10 (by decide) ?_
    refine go_icmp_ge (pc := 12) 33 dX6_begin_12 (by decide) (fun h2 => ?_) (fun h2 => ?_)
    · have hs := it_t h2 hs
      obtain rfl := Option.some.inj hs
      refine go_sub (lv' := [none, none, none, none]) trivial ?_
      exact hE _ rfl
    · have hs := it_f h2 hs
      refine go_aload_n (pc := 15) 0 dX6_begin_15 rfl rfl ?_
      refine go_getfield (pc := 16) (v := vR 2) 0 6 1 dX6_begin_16 flX6_13 rfl rfl ?_
      refine go_bipush (pc := 19) (10 : Int32) dX6_begin_19 (by decide) ?_
      refine go_iload_n (pc := 21) 1 dX6_begin_21 rfl rfl ?_
      refine go_imul (pc := 22) dX6_begin_22 ?_
      refine go_iload_n (pc := 23) 3 dX6_begin_23 rfl rfl ?_
      refine go_iadd (pc := 24) dX6_begin_24 ?_
      refine go_iconst (pc := 25) (0 : Int32) dX6_begin_25 (by decide) ?_
      obtain ⟨hi3, hs⟩ := chk_t hs
      refine go_iastore (pc := 26) 2 dX6_begin_26 rfl hi3 (show Go mX6_begin (d + 0) false 0 0 27 [some (vR 0), some (vI y1), none, some (vI x.1)] [] (wM kn (upd x.2 (((10 : Int32) * y1) + x.1).toNatClampNeg (0 : Int32)) fi se ma on ot ta po ti nu mo wa nx oT cF bg ed sF qu qd tr) Q from ?_)
      refine go_iinc (pc := 27) (x.1 + (1 : Int32)) [some (vR 0), some (vI y1), none, some (vI (x.1 + (1 : Int32)))] dX6_begin_27 rfl rfl (by decide) rfl ?_
      refine go_goto (pc := 30) 9 dX6_begin_30 (by decide) ?_
      obtain rfl := Option.some.inj hs
      exact hI _ rfl
set_option maxRecDepth 20000 in
theorem c_X6_begin {d : Nat}  {a1 : Int32} {a2 : Int32} {res : (Nat → Int32) × (Nat → Int32)} (hs : s_X6_begin kn ne a1 a2 = some res) : Calls mX6_begin (d + 0) false 0 0 [vR 0, vI a1, vI a2] (wM kn ne fi se ma on ot ta po ti nu mo wa nx oT cF bg ed sF qu qd tr) (fun r w' => r = none ∧ w' = (wM res.1 res.2 fi se ma on ot ta po ti nu mo wa nx oT cF bg ed sF qu qd tr)) := by
  unfold s_X6_begin at hs
  refine Calls.of kX6_begin 1 [some (vR 0), some (vI a1), some (vI a2), none] rfl (Nat.le_of_ble_eq_true rfl) ?_
  refine go_aload_n (pc := 0) 0 dX6_begin_0 rfl rfl ?_
  refine go_getfield (pc := 1) (v := vR 1) 0 6 0 dX6_begin_1 flX6_7 rfl rfl ?_
  refine go_iload_n (pc := 4) 1 dX6_begin_4 rfl rfl ?_
  refine go_iload_n (pc := 5) 2 dX6_begin_5 rfl rfl ?_
  obtain ⟨hi1, hs⟩ := chk_t hs
  refine go_iastore (pc := 6) 1 dX6_begin_6 rfl hi1 (show Go mX6_begin (d + 0) false 0 0 7 [some (vR 0), some (vI a1), some (vI a2), none] [] (wM (upd kn a1.toNatClampNeg a2) ne fi se ma on ot ta po ti nu mo wa nx oT cF bg ed sF qu qd tr) _ from ?_)
  refine go_iconst (pc := 7) (0 : Int32) dX6_begin_7 (by decide) ?_
  refine go_istore_n (pc := 8) 3 [some (vR 0), some (vI a1), some (vI a2), some (vI (0 : Int32))] dX6_begin_8 rfl (by decide) rfl ?_
  refine go_sub (lv' := [some (vR 0), some (vI a1), none, some (vI (0 : Int32))]) ⟨rfl, ⟨rfl, ⟨rfl, trivial⟩⟩⟩ ?_
  obtain ⟨e4, hl5, hs⟩ := bnd hs
  refine g_X6_begin_9 (d := d) _ e4 hl5 ?_
  obtain rfl := Option.some.inj hs
  exact go_return (st := []) (pc := 33) dX6_begin_33 rfl (fun h => by cases h) ⟨rfl, rfl⟩
noncomputable def b_X6_bits_4 (y0 : Int32) (x : Int32 × Int32) : Option ((Int32 × Int32) ⊕ (Int32)) := if (10 : Int32) ≤ x.2 then (some (Sum.inr x.1)) else (some (Sum.inl (x.1 + ((y0 >>> (x.2 &&& 31)) &&& (1 : Int32)), x.2 + (1 : Int32))))
noncomputable def s_X6_bits (a0 : Int32) : Option (Int32) := (loop (b_X6_bits_4 a0) ((0 : Int32), (0 : Int32))).bind (fun e2 => some e2)
set_option maxRecDepth 20000 in
theorem g_X6_bits_4 {d : Nat} {w : List AC} {Q : Option AV → List AC → Prop} {y0 : Int32} (x : Int32 × Int32) (r : Int32) (hl : loop (b_X6_bits_4 y0) x = some r) (hk : (fun r : Int32 => Go mX6_bits (d + 0) false 0 0 24 [none, some (vI r), none] [] w Q) r) : (fun x : Int32 × Int32 => Go mX6_bits (d + 0) false 0 0 4 [some (vI y0), some (vI x.1), some (vI x.2)] [] w Q) x := by
  refine loop_go (P := fun x : Int32 × Int32 => Go mX6_bits (d + 0) false 0 0 4 [some (vI y0), some (vI x.1), some (vI x.2)] [] w Q) (K := fun r : Int32 => Go mX6_bits (d + 0) false 0 0 24 [none, some (vI r), none] [] w Q) ?_ x r hl hk
  · intro x y hs hI hE
    unfold b_X6_bits_4 at hs
    show Go mX6_bits (d + 0) false 0 0 4 [some (vI y0), some (vI x.1), some (vI x.2)] [] w Q
    refine go_iload_n (pc := 4) 2 dX6_bits_4 rfl rfl ?_
    refine go_bipush (pc := 5) (10 : Int32) dX6_bits_5 (by decide) ?_
    refine go_icmp_ge (pc := 7) 24 dX6_bits_7 (by decide) (fun h1 => ?_) (fun h1 => ?_)
    · have hs := it_t h1 hs
      obtain rfl := Option.some.inj hs
      refine go_sub (lv' := [none, some (vI x.1), none]) ⟨rfl, trivial⟩ ?_
      exact hE _ rfl
    · have hs := it_f h1 hs
      refine go_iload_n (pc := 10) 1 dX6_bits_10 rfl rfl ?_
      refine go_iload_n (pc := 11) 0 dX6_bits_11 rfl rfl ?_
      refine go_iload_n (pc := 12) 2 dX6_bits_12 rfl rfl ?_
      refine go_ishr (pc := 13) dX6_bits_13 ?_
      refine go_iconst (pc := 14) (1 : Int32) dX6_bits_14 (by decide) ?_
      refine go_iand (pc := 15) dX6_bits_15 ?_
      refine go_iadd (pc := 16) dX6_bits_16 ?_
      refine go_istore_n (pc := 17) 1 [some (vI y0), some (vI (x.1 + ((y0 >>> (x.2 &&& 31)) &&& (1 : Int32)))), some (vI x.2)] dX6_bits_17 rfl (by decide) rfl ?_
      refine go_iinc (pc := 18) (x.2 + (1 : Int32)) [some (vI y0), some (vI (x.1 + ((y0 >>> (x.2 &&& 31)) &&& (1 : Int32)))), some (vI (x.2 + (1 : Int32)))] dX6_bits_18 rfl rfl (by decide) rfl ?_
      refine go_goto (pc := 21) 4 dX6_bits_21 (by decide) ?_
      obtain rfl := Option.some.inj hs
      exact hI _ rfl
set_option maxRecDepth 20000 in
theorem c_X6_bits {d : Nat} {w : List AC} {a0 : Int32} {res : Int32} (hs : s_X6_bits a0 = some res) : Calls mX6_bits (d + 0) false 0 0 [vI a0] w (fun r w' => r = some (vI res) ∧ w' = w) := by
  unfold s_X6_bits at hs
  refine Calls.of kX6_bits 2 [some (vI a0), none, none] rfl (Nat.le_of_ble_eq_true rfl) ?_
  refine go_iconst (pc := 0) (0 : Int32) dX6_bits_0 (by decide) ?_
  refine go_istore_n (pc := 1) 1 [some (vI a0), some (vI (0 : Int32)), none] dX6_bits_1 rfl (by decide) rfl ?_
  refine go_iconst (pc := 2) (0 : Int32) dX6_bits_2 (by decide) ?_
  refine go_istore_n (pc := 3) 2 [some (vI a0), some (vI (0 : Int32)), some (vI (0 : Int32))] dX6_bits_3 rfl (by decide) rfl ?_
  obtain ⟨e2, hl3, hs⟩ := bnd hs
  refine g_X6_bits_4 (d := d) _ e2 hl3 ?_
  refine go_iload_n (pc := 24) 1 dX6_bits_24 rfl rfl ?_
  obtain rfl := Option.some.inj hs
  exact go_ireturn (st := []) (pc := 25) dX6_bits_25 rfl (vp_nar_int _) (fun h => by cases h) ⟨rfl, rfl⟩
noncomputable def b_X6_lines_4 (kn : (Nat → Int32)) (ne : (Nat → Int32)) (y1 : Int32) (x : Int32 × Int32) : Option ((Int32 × Int32) ⊕ (Int32)) := chk y1 4 (if (kn y1.toNatClampNeg) ≤ x.2 then (some (Sum.inr x.1)) else (chk (((10 : Int32) * y1) + x.2) 40 ((s_X6_bits (ne (((10 : Int32) * y1) + x.2).toNatClampNeg)).bind (fun x4 => some (Sum.inl (x.1 + x4, x.2 + (1 : Int32)))))))
noncomputable def s_X6_lines (kn : (Nat → Int32)) (ne : (Nat → Int32)) (a1 : Int32) : Option (Int32) := (loop (b_X6_lines_4 kn ne a1) ((0 : Int32), (0 : Int32))).bind (fun e6 => some (e6 / (2 : Int32)))
set_option maxRecDepth 20000 in
theorem g_X6_lines_4 {d : Nat} {Q : Option AV → List AC → Prop} {y1 : Int32} (x : Int32 × Int32) (r : Int32) (hl : loop (b_X6_lines_4 kn ne y1) x = some r) (hk : (fun r : Int32 => Go mX6_lines (d + 1) false 0 0 37 [none, none, some (vI r), none] [] (wM kn ne fi se ma on ot ta po ti nu mo wa nx oT cF bg ed sF qu qd tr) Q) r) : (fun x : Int32 × Int32 => Go mX6_lines (d + 1) false 0 0 4 [some (vR 0), some (vI y1), some (vI x.1), some (vI x.2)] [] (wM kn ne fi se ma on ot ta po ti nu mo wa nx oT cF bg ed sF qu qd tr) Q) x := by
  refine loop_go (P := fun x : Int32 × Int32 => Go mX6_lines (d + 1) false 0 0 4 [some (vR 0), some (vI y1), some (vI x.1), some (vI x.2)] [] (wM kn ne fi se ma on ot ta po ti nu mo wa nx oT cF bg ed sF qu qd tr) Q) (K := fun r : Int32 => Go mX6_lines (d + 1) false 0 0 37 [none, none, some (vI r), none] [] (wM kn ne fi se ma on ot ta po ti nu mo wa nx oT cF bg ed sF qu qd tr) Q) ?_ x r hl hk
  · intro x y hs hI hE
    unfold b_X6_lines_4 at hs
    show Go mX6_lines (d + 1) false 0 0 4 [some (vR 0), some (vI y1), some (vI x.1), some (vI x.2)] [] (wM kn ne fi se ma on ot ta po ti nu mo wa nx oT cF bg ed sF qu qd tr) Q
    refine go_iload_n (pc := 4) 3 dX6_lines_4 rfl rfl ?_
    refine go_aload_n (pc := 5) 0 dX6_lines_5 rfl rfl ?_
    refine go_getfield (pc := 6) (v := vR 1) 0 6 0 dX6_lines_6 flX6_7 rfl rfl ?_
    refine go_iload_n (pc := 9) 1 dX6_lines_9 rfl rfl ?_
    obtain ⟨hi1, hs⟩ := chk_t hs
    refine go_iaload (pc := 10) 1 dX6_lines_10 rfl hi1 ?_
    refine go_icmp_ge (pc := 11) 37 dX6_lines_11 (by decide) (fun h2 => ?_) (fun h2 => ?_)
    · have hs := it_t h2 hs
      obtain rfl := Option.some.inj hs
      refine go_sub (lv' := [none, none, some (vI x.1), none]) ⟨rfl, trivial⟩ ?_
      exact hE _ rfl
    · have hs := it_f h2 hs
      refine go_iload_n (pc := 14) 2 dX6_lines_14 rfl rfl ?_
      refine go_aload_n (pc := 15) 0 dX6_lines_15 rfl rfl ?_
      refine go_getfield (pc := 16) (v := vR 2) 0 6 1 dX6_lines_16 flX6_13 rfl rfl ?_
      refine go_bipush (pc := 19) (10 : Int32) dX6_lines_19 (by decide) ?_
      refine go_iload_n (pc := 21) 1 dX6_lines_21 rfl rfl ?_
      refine go_imul (pc := 22) dX6_lines_22 ?_
      refine go_iload_n (pc := 23) 3 dX6_lines_23 rfl rfl ?_
      refine go_iadd (pc := 24) dX6_lines_24 ?_
      obtain ⟨hi3, hs⟩ := chk_t hs
      refine go_iaload (pc := 25) 2 dX6_lines_25 rfl hi3 ?_
      obtain ⟨x4, hc5, hs⟩ := bnd hs
      refine go_callS (bc := 0) (bs := 0) (mc := 0) (ms := 0) (d := d + 0) (pc := 26) [vI (ne (((10 : Int32) * y1) + x.2).toNatClampNeg)] [vI x.1] dX6_lines_26 kX6_bits mlX6_73 isX6_bits rfl (Nat.le_of_ble_eq_true rfl) rfl (c_X6_bits (d := d + 0) hc5) (fun r w' hq => ?_)
      obtain ⟨rfl, rfl⟩ := hq
      show Go mX6_lines (d + 1) false 0 0 29 [some (vR 0), some (vI y1), some (vI x.1), some (vI x.2)] [vI x4, vI x.1] (wM kn ne fi se ma on ot ta po ti nu mo wa nx oT cF bg ed sF qu qd tr) Q
      refine go_iadd (pc := 29) dX6_lines_29 ?_
      refine go_istore_n (pc := 30) 2 [some (vR 0), some (vI y1), some (vI (x.1 + x4)), some (vI x.2)] dX6_lines_30 rfl (by decide) rfl ?_
      refine go_iinc (pc := 31) (x.2 + (1 : Int32)) [some (vR 0), some (vI y1), some (vI (x.1 + x4)), some (vI (x.2 + (1 : Int32)))] dX6_lines_31 rfl rfl (by decide) rfl ?_
      refine go_goto (pc := 34) 4 dX6_lines_34 (by decide) ?_
      obtain rfl := Option.some.inj hs
      exact hI _ rfl
set_option maxRecDepth 20000 in
theorem c_X6_lines {d : Nat}  {a1 : Int32} {res : Int32} (hs : s_X6_lines kn ne a1 = some res) : Calls mX6_lines (d + 1) false 0 0 [vR 0, vI a1] (wM kn ne fi se ma on ot ta po ti nu mo wa nx oT cF bg ed sF qu qd tr) (fun r w' => r = some (vI res) ∧ w' = (wM kn ne fi se ma on ot ta po ti nu mo wa nx oT cF bg ed sF qu qd tr)) := by
  unfold s_X6_lines at hs
  refine Calls.of kX6_lines 2 [some (vR 0), some (vI a1), none, none] rfl (Nat.le_of_ble_eq_true rfl) ?_
  refine go_iconst (pc := 0) (0 : Int32) dX6_lines_0 (by decide) ?_
  refine go_istore_n (pc := 1) 2 [some (vR 0), some (vI a1), some (vI (0 : Int32)), none] dX6_lines_1 rfl (by decide) rfl ?_
  refine go_iconst (pc := 2) (0 : Int32) dX6_lines_2 (by decide) ?_
  refine go_istore_n (pc := 3) 3 [some (vR 0), some (vI a1), some (vI (0 : Int32)), some (vI (0 : Int32))] dX6_lines_3 rfl (by decide) rfl ?_
  obtain ⟨e6, hl7, hs⟩ := bnd hs
  refine g_X6_lines_4 (d := d) _ e6 hl7 ?_
  refine go_iload_n (pc := 37) 2 dX6_lines_37 rfl rfl ?_
  refine go_iconst (pc := 38) (2 : Int32) dX6_lines_38 (by decide) ?_
  refine go_idiv (pc := 39) dX6_lines_39 (by decide) ?_
  obtain rfl := Option.some.inj hs
  exact go_ireturn (st := []) (pc := 40) dX6_lines_40 rfl (vp_nar_int _) (fun h => by cases h) ⟨rfl, rfl⟩
noncomputable def s_X6_net (kn : (Nat → Int32)) (ne : (Nat → Int32)) (a1 : Int32) (a2 : Int32) : Option (Int32 × (Nat → Int32) × (Nat → Int32)) := (s_X6_isNet a1).bind (fun x1 => if x1 = 0 then (some ((-2 : Int32), kn, ne)) else ((s_X6_in a2 (1 : Int32) (10 : Int32)).bind (fun x4 => if x4 = 0 then (some ((-2 : Int32), kn, ne)) else ((s_X6_begin kn ne a1 a2).bind (fun x7 => some ((1 : Int32), x7.1, x7.2))))))
set_option maxRecDepth 20000 in
theorem c_X6_net {d : Nat}  {a1 : Int32} {a2 : Int32} {res : Int32 × (Nat → Int32) × (Nat → Int32)} (hs : s_X6_net kn ne a1 a2 = some res) : Calls mX6_net (d + 2) false 0 0 [vR 0, vI a1, vI a2] (wM kn ne fi se ma on ot ta po ti nu mo wa nx oT cF bg ed sF qu qd tr) (fun r w' => r = some (vI res.1) ∧ w' = (wM res.2.1 res.2.2 fi se ma on ot ta po ti nu mo wa nx oT cF bg ed sF qu qd tr)) := by
  unfold s_X6_net at hs
  refine Calls.of kX6_net 0 [some (vR 0), some (vI a1), some (vI a2)] rfl (Nat.le_of_ble_eq_true rfl) ?_
  refine go_iload_n (pc := 0) 1 dX6_net_0 rfl rfl ?_
  obtain ⟨x1, hc2, hs⟩ := bnd hs
  refine go_callS (bc := 0) (bs := 0) (mc := 0) (ms := 0) (d := d + 1) (pc := 1) [vI a1] [] dX6_net_1 kX6_isNet mlX6_69 isX6_isNet rfl (Nat.le_of_ble_eq_true rfl) rfl (c_X6_isNet (d := d + 0) hc2) (fun r w' hq => ?_)
  obtain ⟨rfl, rfl⟩ := hq
  show Go mX6_net (d + 2) false 0 0 4 [some (vR 0), some (vI a1), some (vI a2)] [vI x1] (wM kn ne fi se ma on ot ta po ti nu mo wa nx oT cF bg ed sF qu qd tr) _
  refine go_if_eq (pc := 4) 17 dX6_net_4 (by decide) (fun h3 => ?_) (fun h3 => ?_)
  · have hs := it_t h3 hs
    refine go_bipush (pc := 17) (-2 : Int32) dX6_net_17 (by decide) ?_
    obtain rfl := Option.some.inj hs
    exact go_ireturn (st := []) (pc := 19) dX6_net_19 rfl (vp_nar_int _) (fun h => by cases h) ⟨rfl, rfl⟩
  · have hs := it_f h3 hs
    refine go_iload_n (pc := 7) 2 dX6_net_7 rfl rfl ?_
    refine go_iconst (pc := 8) (1 : Int32) dX6_net_8 (by decide) ?_
    refine go_bipush (pc := 9) (10 : Int32) dX6_net_9 (by decide) ?_
    obtain ⟨x4, hc5, hs⟩ := bnd hs
    refine go_callS (bc := 0) (bs := 0) (mc := 0) (ms := 0) (d := d + 1) (pc := 11) [vI a2, vI (1 : Int32), vI (10 : Int32)] [] dX6_net_11 kX6_in mlX6_65 isX6_in rfl (Nat.le_of_ble_eq_true rfl) rfl (c_X6_in (d := d + 1) hc5) (fun r w' hq => ?_)
    obtain ⟨rfl, rfl⟩ := hq
    show Go mX6_net (d + 2) false 0 0 14 [some (vR 0), some (vI a1), some (vI a2)] [vI x4] (wM kn ne fi se ma on ot ta po ti nu mo wa nx oT cF bg ed sF qu qd tr) _
    refine go_if_ne (pc := 14) 20 dX6_net_14 (by decide) (fun h6 => ?_) (fun h6 => ?_)
    · have hs := it_f h6 hs
      refine go_aload_n (pc := 20) 0 dX6_net_20 rfl rfl ?_
      refine go_iload_n (pc := 21) 1 dX6_net_21 rfl rfl ?_
      refine go_iload_n (pc := 22) 2 dX6_net_22 rfl rfl ?_
      obtain ⟨x7, hc8, hs⟩ := bnd hs
      refine go_callV (bc := 0) (bs := 0) (mc := 0) (ms := 0) (d := d + 1) (pc := 23) (a := 0) (ci := 6) [vI a1, vI a2] [] dX6_net_23 kX6_begin mlX6_77 ivX6_begin rfl rfl rfl rfl (Nat.le_of_ble_eq_true rfl) rfl (c_X6_begin (d := d + 1) hc8) (fun r w' hq => ?_)
      obtain ⟨rfl, rfl⟩ := hq
      show Go mX6_net (d + 2) false 0 0 26 [some (vR 0), some (vI a1), some (vI a2)] [] (wM x7.1 x7.2 fi se ma on ot ta po ti nu mo wa nx oT cF bg ed sF qu qd tr) _
      refine go_iconst (pc := 26) (1 : Int32) dX6_net_26 (by decide) ?_
      obtain rfl := Option.some.inj hs
      exact go_ireturn (st := []) (pc := 27) dX6_net_27 rfl (vp_nar_int _) (fun h => by cases h) ⟨rfl, rfl⟩
    · have hs := it_t h6 hs
      refine go_bipush (pc := 17) (-2 : Int32) dX6_net_17 (by decide) ?_
      obtain rfl := Option.some.inj hs
      exact go_ireturn (st := []) (pc := 19) dX6_net_19 rfl (vp_nar_int _) (fun h => by cases h) ⟨rfl, rfl⟩
noncomputable def s_X6_line (kn : (Nat → Int32)) (ne : (Nat → Int32)) (a1 : Int32) (a2 : Int32) (a3 : Int32) (a4 : Int32) : Option (Int32 × (Nat → Int32)) := (s_X6_isKnot kn a1 a2).bind (fun x1 => if x1 = 0 then (some ((-2 : Int32), ne)) else ((s_X6_isKnot kn a1 a3).bind (fun x4 => if x4 = 0 then (some ((-2 : Int32), ne)) else (if a2 = a3 then (some ((-2 : Int32), ne)) else ((s_X6_has ne a1 a2 a3).bind (fun x8 => if x8 = a4 then (some ((-3 : Int32), ne)) else (chk (((10 : Int32) * a1) + a2) 40 (chk (((10 : Int32) * a1) + a2) 40 (chk (((10 : Int32) * a1) + a3) 40 (chk (((10 : Int32) * a1) + a3) 40 (some ((1 : Int32), upd (upd ne (((10 : Int32) * a1) + a2).toNatClampNeg ((ne (((10 : Int32) * a1) + a2).toNatClampNeg) ^^^ ((1 : Int32) <<< (a3 &&& 31)))) (((10 : Int32) * a1) + a3).toNatClampNeg (((upd ne (((10 : Int32) * a1) + a2).toNatClampNeg ((ne (((10 : Int32) * a1) + a2).toNatClampNeg) ^^^ ((1 : Int32) <<< (a3 &&& 31)))) (((10 : Int32) * a1) + a3).toNatClampNeg) ^^^ ((1 : Int32) <<< (a2 &&& 31)))))))))))))))
set_option maxRecDepth 20000 in
theorem c_X6_line {d : Nat}  {a1 : Int32} {a2 : Int32} {a3 : Int32} {a4 : Int32} {res : Int32 × (Nat → Int32)} (hs : s_X6_line kn ne a1 a2 a3 a4 = some res) : Calls mX6_line (d + 3) false 0 0 [vR 0, vI a1, vI a2, vI a3, vI a4] (wM kn ne fi se ma on ot ta po ti nu mo wa nx oT cF bg ed sF qu qd tr) (fun r w' => r = some (vI res.1) ∧ w' = (wM kn res.2 fi se ma on ot ta po ti nu mo wa nx oT cF bg ed sF qu qd tr)) := by
  unfold s_X6_line at hs
  refine Calls.of kX6_line 0 [some (vR 0), some (vI a1), some (vI a2), some (vI a3), some (vI a4)] rfl (Nat.le_of_ble_eq_true rfl) ?_
  refine go_aload_n (pc := 0) 0 dX6_line_0 rfl rfl ?_
  refine go_iload_n (pc := 1) 1 dX6_line_1 rfl rfl ?_
  refine go_iload_n (pc := 2) 2 dX6_line_2 rfl rfl ?_
  obtain ⟨x1, hc2, hs⟩ := bnd hs
  refine go_callV (bc := 0) (bs := 0) (mc := 0) (ms := 0) (d := d + 2) (pc := 3) (a := 0) (ci := 6) [vI a1, vI a2] [] dX6_line_3 kX6_isKnot mlX6_81 ivX6_isKnot rfl rfl rfl rfl (Nat.le_of_ble_eq_true rfl) rfl (c_X6_isKnot (d := d + 0) hc2) (fun r w' hq => ?_)
  obtain ⟨rfl, rfl⟩ := hq
  show Go mX6_line (d + 3) false 0 0 6 [some (vR 0), some (vI a1), some (vI a2), some (vI a3), some (vI a4)] [vI x1] (wM kn ne fi se ma on ot ta po ti nu mo wa nx oT cF bg ed sF qu qd tr) _
  refine go_if_eq (pc := 6) 23 dX6_line_6 (by decide) (fun h3 => ?_) (fun h3 => ?_)
  · have hs := it_t h3 hs
    refine go_bipush (pc := 23) (-2 : Int32) dX6_line_23 (by decide) ?_
    obtain rfl := Option.some.inj hs
    exact go_ireturn (st := []) (pc := 25) dX6_line_25 rfl (vp_nar_int _) (fun h => by cases h) ⟨rfl, rfl⟩
  · have hs := it_f h3 hs
    refine go_aload_n (pc := 9) 0 dX6_line_9 rfl rfl ?_
    refine go_iload_n (pc := 10) 1 dX6_line_10 rfl rfl ?_
    refine go_iload_n (pc := 11) 3 dX6_line_11 rfl rfl ?_
    obtain ⟨x4, hc5, hs⟩ := bnd hs
    refine go_callV (bc := 0) (bs := 0) (mc := 0) (ms := 0) (d := d + 2) (pc := 12) (a := 0) (ci := 6) [vI a1, vI a3] [] dX6_line_12 kX6_isKnot mlX6_81 ivX6_isKnot rfl rfl rfl rfl (Nat.le_of_ble_eq_true rfl) rfl (c_X6_isKnot (d := d + 0) hc5) (fun r w' hq => ?_)
    obtain ⟨rfl, rfl⟩ := hq
    show Go mX6_line (d + 3) false 0 0 15 [some (vR 0), some (vI a1), some (vI a2), some (vI a3), some (vI a4)] [vI x4] (wM kn ne fi se ma on ot ta po ti nu mo wa nx oT cF bg ed sF qu qd tr) _
    refine go_if_eq (pc := 15) 23 dX6_line_15 (by decide) (fun h6 => ?_) (fun h6 => ?_)
    · have hs := it_t h6 hs
      refine go_bipush (pc := 23) (-2 : Int32) dX6_line_23 (by decide) ?_
      obtain rfl := Option.some.inj hs
      exact go_ireturn (st := []) (pc := 25) dX6_line_25 rfl (vp_nar_int _) (fun h => by cases h) ⟨rfl, rfl⟩
    · have hs := it_f h6 hs
      refine go_iload_n (pc := 18) 2 dX6_line_18 rfl rfl ?_
      refine go_iload_n (pc := 19) 3 dX6_line_19 rfl rfl ?_
      refine go_icmp_ne (pc := 20) 26 dX6_line_20 (by decide) (fun h7 => ?_) (fun h7 => ?_)
      · have hs := it_f h7 hs
        refine go_aload_n (pc := 26) 0 dX6_line_26 rfl rfl ?_
        refine go_iload_n (pc := 27) 1 dX6_line_27 rfl rfl ?_
        refine go_iload_n (pc := 28) 2 dX6_line_28 rfl rfl ?_
        refine go_iload_n (pc := 29) 3 dX6_line_29 rfl rfl ?_
        obtain ⟨x8, hc9, hs⟩ := bnd hs
        refine go_callV (bc := 0) (bs := 0) (mc := 0) (ms := 0) (d := d + 2) (pc := 30) (a := 0) (ci := 6) [vI a1, vI a2, vI a3] [] dX6_line_30 kX6_has mlX6_85 ivX6_has rfl rfl rfl rfl (Nat.le_of_ble_eq_true rfl) rfl (c_X6_has (d := d + 2) hc9) (fun r w' hq => ?_)
        obtain ⟨rfl, rfl⟩ := hq
        show Go mX6_line (d + 3) false 0 0 33 [some (vR 0), some (vI a1), some (vI a2), some (vI a3), some (vI a4)] [vI x8] (wM kn ne fi se ma on ot ta po ti nu mo wa nx oT cF bg ed sF qu qd tr) _
        refine go_iload (pc := 33) dX6_line_33 rfl ?_
        refine go_icmp_ne (pc := 35) 41 dX6_line_35 (by decide) (fun h10 => ?_) (fun h10 => ?_)
        · have hs := it_f h10 hs
          refine go_aload_n (pc := 41) 0 dX6_line_41 rfl rfl ?_
          refine go_getfield (pc := 42) (v := vR 2) 0 6 1 dX6_line_42 flX6_13 rfl rfl ?_
          refine go_bipush (pc := 45) (10 : Int32) dX6_line_45 (by decide) ?_
          refine go_iload_n (pc := 47) 1 dX6_line_47 rfl rfl ?_
          refine go_imul (pc := 48) dX6_line_48 ?_
          refine go_iload_n (pc := 49) 2 dX6_line_49 rfl rfl ?_
          refine go_iadd (pc := 50) dX6_line_50 ?_
          refine go_dup2 (pc := 51) dX6_line_51 rfl rfl ?_
          obtain ⟨hi11, hs⟩ := chk_t hs
          refine go_iaload (pc := 52) 2 dX6_line_52 rfl hi11 ?_
          refine go_iconst (pc := 53) (1 : Int32) dX6_line_53 (by decide) ?_
          refine go_iload_n (pc := 54) 3 dX6_line_54 rfl rfl ?_
          refine go_ishl (pc := 55) dX6_line_55 ?_
          refine go_ixor (pc := 56) dX6_line_56 ?_
          obtain ⟨hi12, hs⟩ := chk_t hs
          refine go_iastore (pc := 57) 2 dX6_line_57 rfl hi12 (show Go mX6_line (d + 3) false 0 0 58 [some (vR 0), some (vI a1), some (vI a2), some (vI a3), some (vI a4)] [] (wM kn (upd ne (((10 : Int32) * a1) + a2).toNatClampNeg ((ne (((10 : Int32) * a1) + a2).toNatClampNeg) ^^^ ((1 : Int32) <<< (a3 &&& 31)))) fi se ma on ot ta po ti nu mo wa nx oT cF bg ed sF qu qd tr) _ from ?_)
          refine go_aload_n (pc := 58) 0 dX6_line_58 rfl rfl ?_
          refine go_getfield (pc := 59) (v := vR 2) 0 6 1 dX6_line_59 flX6_13 rfl rfl ?_
          refine go_bipush (pc := 62) (10 : Int32) dX6_line_62 (by decide) ?_
          refine go_iload_n (pc := 64) 1 dX6_line_64 rfl rfl ?_
          refine go_imul (pc := 65) dX6_line_65 ?_
          refine go_iload_n (pc := 66) 3 dX6_line_66 rfl rfl ?_
          refine go_iadd (pc := 67) dX6_line_67 ?_
          refine go_dup2 (pc := 68) dX6_line_68 rfl rfl ?_
          obtain ⟨hi13, hs⟩ := chk_t hs
          refine go_iaload (pc := 69) 2 dX6_line_69 rfl hi13 ?_
          refine go_iconst (pc := 70) (1 : Int32) dX6_line_70 (by decide) ?_
          refine go_iload_n (pc := 71) 2 dX6_line_71 rfl rfl ?_
          refine go_ishl (pc := 72) dX6_line_72 ?_
          refine go_ixor (pc := 73) dX6_line_73 ?_
          obtain ⟨hi14, hs⟩ := chk_t hs
          refine go_iastore (pc := 74) 2 dX6_line_74 rfl hi14 (show Go mX6_line (d + 3) false 0 0 75 [some (vR 0), some (vI a1), some (vI a2), some (vI a3), some (vI a4)] [] (wM kn (upd (upd ne (((10 : Int32) * a1) + a2).toNatClampNeg ((ne (((10 : Int32) * a1) + a2).toNatClampNeg) ^^^ ((1 : Int32) <<< (a3 &&& 31)))) (((10 : Int32) * a1) + a3).toNatClampNeg (((upd ne (((10 : Int32) * a1) + a2).toNatClampNeg ((ne (((10 : Int32) * a1) + a2).toNatClampNeg) ^^^ ((1 : Int32) <<< (a3 &&& 31)))) (((10 : Int32) * a1) + a3).toNatClampNeg) ^^^ ((1 : Int32) <<< (a2 &&& 31)))) fi se ma on ot ta po ti nu mo wa nx oT cF bg ed sF qu qd tr) _ from ?_)
          refine go_iconst (pc := 75) (1 : Int32) dX6_line_75 (by decide) ?_
          obtain rfl := Option.some.inj hs
          exact go_ireturn (st := []) (pc := 76) dX6_line_76 rfl (vp_nar_int _) (fun h => by cases h) ⟨rfl, rfl⟩
        · have hs := it_t h10 hs
          refine go_bipush (pc := 38) (-3 : Int32) dX6_line_38 (by decide) ?_
          obtain rfl := Option.some.inj hs
          exact go_ireturn (st := []) (pc := 40) dX6_line_40 rfl (vp_nar_int _) (fun h => by cases h) ⟨rfl, rfl⟩
      · have hs := it_t h7 hs
        refine go_bipush (pc := 23) (-2 : Int32) dX6_line_23 (by decide) ?_
        obtain rfl := Option.some.inj hs
        exact go_ireturn (st := []) (pc := 25) dX6_line_25 rfl (vp_nar_int _) (fun h => by cases h) ⟨rfl, rfl⟩
noncomputable def b_X6_ring_55 (y1 : Int32) (y2 : Int32) (y3 : Int32) (y4 : Int32) (x : Int32 × (Nat → Int32)) : Option ((Int32 × (Nat → Int32)) ⊕ ((Nat → Int32))) := if y2 ≤ x.1 then (some (Sum.inr x.2)) else (if ((y3 >>> ((y4 - (1 : Int32)) &&& 31)) &&& (1 : Int32)) = (1 : Int32) then (nez y2 ((s_X6_put x.2 y1 x.1 ((x.1 + y4) - (x.1 + y4) / y2 * y2)).bind (fun x16 => some (Sum.inl (x.1 + (1 : Int32), x16))))) else (some (Sum.inr x.2)))
noncomputable def b_X6_ring_44 (y1 : Int32) (y2 : Int32) (y3 : Int32) (x : Int32 × (Nat → Int32)) : Option ((Int32 × (Nat → Int32)) ⊕ ((Nat → Int32))) := if (y2 / (2 : Int32)) < x.1 then (some (Sum.inr x.2)) else ((loop (b_X6_ring_55 y1 y2 y3 x.1) ((0 : Int32), x.2)).bind (fun e18 => some (Sum.inl (x.1 + (1 : Int32), e18))))
noncomputable def s_X6_ring (kn : (Nat → Int32)) (ne : (Nat → Int32)) (a1 : Int32) (a2 : Int32) (a3 : Int32) : Option (Int32 × (Nat → Int32) × (Nat → Int32)) := (s_X6_isNet a1).bind (fun x1 => if x1 = 0 then (some ((-2 : Int32), kn, ne)) else ((s_X6_in a2 (1 : Int32) (10 : Int32)).bind (fun x4 => if x4 = 0 then (some ((-2 : Int32), kn, ne)) else ((s_X6_in a3 (0 : Int32) (((1 : Int32) <<< ((a2 / (2 : Int32)) &&& 31)) - (1 : Int32))).bind (fun x7 => if x7 = 0 then (some ((-2 : Int32), kn, ne)) else ((s_X6_begin kn ne a1 a2).bind (fun x10 => (loop (b_X6_ring_44 a1 a2 a3) ((1 : Int32), x10.2)).bind (fun e20 => (s_X6_lines x10.1 e20 a1).bind (fun x22 => some (x22, x10.1, e20))))))))))
set_option maxRecDepth 20000 in
theorem g_X6_ring_55 {d : Nat} {Q : Option AV → List AC → Prop} {y1 : Int32} {y2 : Int32} {y3 : Int32} {y4 : Int32} (x : Int32 × (Nat → Int32)) (r : (Nat → Int32)) (hl : loop (b_X6_ring_55 y1 y2 y3 y4) x = some r) (hk : (fun r : (Nat → Int32) => Go mX6_ring (d + 2) false 0 0 93 [some (vR 0), some (vI y1), some (vI y2), some (vI y3), some (vI y4), none] [] (wM kn r fi se ma on ot ta po ti nu mo wa nx oT cF bg ed sF qu qd tr) Q) r) : (fun x : Int32 × (Nat → Int32) => Go mX6_ring (d + 2) false 0 0 55 [some (vR 0), some (vI y1), some (vI y2), some (vI y3), some (vI y4), some (vI x.1)] [] (wM kn x.2 fi se ma on ot ta po ti nu mo wa nx oT cF bg ed sF qu qd tr) Q) x := by
  refine loop_go (P := fun x : Int32 × (Nat → Int32) => Go mX6_ring (d + 2) false 0 0 55 [some (vR 0), some (vI y1), some (vI y2), some (vI y3), some (vI y4), some (vI x.1)] [] (wM kn x.2 fi se ma on ot ta po ti nu mo wa nx oT cF bg ed sF qu qd tr) Q) (K := fun r : (Nat → Int32) => Go mX6_ring (d + 2) false 0 0 93 [some (vR 0), some (vI y1), some (vI y2), some (vI y3), some (vI y4), none] [] (wM kn r fi se ma on ot ta po ti nu mo wa nx oT cF bg ed sF qu qd tr) Q) ?_ x r hl hk
  · intro x y hs hI hE
    unfold b_X6_ring_55 at hs
    show Go mX6_ring (d + 2) false 0 0 55 [some (vR 0), some (vI y1), some (vI y2), some (vI y3), some (vI y4), some (vI x.1)] [] (wM kn x.2 fi se ma on ot ta po ti nu mo wa nx oT cF bg ed sF qu qd tr) Q
    refine go_iload (pc := 55) dX6_ring_55 rfl ?_
    refine go_iload_n (pc := 57) 2 dX6_ring_57 rfl rfl ?_
    refine go_icmp_ge (pc := 58) 93 dX6_ring_58 (by decide) (fun h13 => ?_) (fun h13 => ?_)
    · have hs := it_t h13 hs
      obtain rfl := Option.some.inj hs
      refine go_sub (lv' := [some (vR 0), some (vI y1), some (vI y2), some (vI y3), some (vI y4), none]) ⟨rfl, ⟨rfl, ⟨rfl, ⟨rfl, ⟨rfl, trivial⟩⟩⟩⟩⟩ ?_
      exact hE _ rfl
    · have hs := it_f h13 hs
      refine go_iload_n (pc := 61) 3 dX6_ring_61 rfl rfl ?_
      refine go_iload (pc := 62) dX6_ring_62 rfl ?_
      refine go_iconst (pc := 64) (1 : Int32) dX6_ring_64 (by decide) ?_
      refine go_isub (pc := 65) dX6_ring_65 ?_
      refine go_ishr (pc := 66) dX6_ring_66 ?_
      refine go_iconst (pc := 67) (1 : Int32) dX6_ring_67 (by decide) ?_
      refine go_iand (pc := 68) dX6_ring_68 ?_
      refine go_iconst (pc := 69) (1 : Int32) dX6_ring_69 (by decide) ?_
      refine go_icmp_ne (pc := 70) 93 dX6_ring_70 (by decide) (fun h14 => ?_) (fun h14 => ?_)
      · have hs := it_f h14 hs
        obtain rfl := Option.some.inj hs
        refine go_sub (lv' := [some (vR 0), some (vI y1), some (vI y2), some (vI y3), some (vI y4), none]) ⟨rfl, ⟨rfl, ⟨rfl, ⟨rfl, ⟨rfl, trivial⟩⟩⟩⟩⟩ ?_
        exact hE _ rfl
      · have hs := it_t h14 hs
        refine go_aload_n (pc := 73) 0 dX6_ring_73 rfl rfl ?_
        refine go_iload_n (pc := 74) 1 dX6_ring_74 rfl rfl ?_
        refine go_iload (pc := 75) dX6_ring_75 rfl ?_
        refine go_iload (pc := 77) dX6_ring_77 rfl ?_
        refine go_iload (pc := 79) dX6_ring_79 rfl ?_
        refine go_iadd (pc := 81) dX6_ring_81 ?_
        refine go_iload_n (pc := 82) 2 dX6_ring_82 rfl rfl ?_
        obtain ⟨hn15, hs⟩ := nez_t hs
        refine go_irem (pc := 83) dX6_ring_83 hn15 ?_
        obtain ⟨x16, hc17, hs⟩ := bnd hs
        refine go_callV (bc := 0) (bs := 0) (mc := 0) (ms := 0) (d := d + 1) (pc := 84) (a := 0) (ci := 6) [vI y1, vI x.1, vI ((x.1 + y4) - (x.1 + y4) / y2 * y2)] [] dX6_ring_84 kX6_put mlX6_88 ivX6_put rfl rfl rfl rfl (Nat.le_of_ble_eq_true rfl) rfl (c_X6_put (d := d + 1) hc17) (fun r w' hq => ?_)
        obtain ⟨rfl, rfl⟩ := hq
        show Go mX6_ring (d + 2) false 0 0 87 [some (vR 0), some (vI y1), some (vI y2), some (vI y3), some (vI y4), some (vI x.1)] [] (wM kn x16 fi se ma on ot ta po ti nu mo wa nx oT cF bg ed sF qu qd tr) Q
        refine go_iinc (pc := 87) (x.1 + (1 : Int32)) [some (vR 0), some (vI y1), some (vI y2), some (vI y3), some (vI y4), some (vI (x.1 + (1 : Int32)))] dX6_ring_87 rfl rfl (by decide) rfl ?_
        refine go_goto (pc := 90) 55 dX6_ring_90 (by decide) ?_
        obtain rfl := Option.some.inj hs
        exact hI _ rfl
set_option maxRecDepth 20000 in
theorem g_X6_ring_44 {d : Nat} {Q : Option AV → List AC → Prop} {y1 : Int32} {y2 : Int32} {y3 : Int32} (x : Int32 × (Nat → Int32)) (r : (Nat → Int32)) (hl : loop (b_X6_ring_44 y1 y2 y3) x = some r) (hk : (fun r : (Nat → Int32) => Go mX6_ring (d + 2) false 0 0 99 [some (vR 0), some (vI y1), none, none, none, none] [] (wM kn r fi se ma on ot ta po ti nu mo wa nx oT cF bg ed sF qu qd tr) Q) r) : (fun x : Int32 × (Nat → Int32) => Go mX6_ring (d + 2) false 0 0 44 [some (vR 0), some (vI y1), some (vI y2), some (vI y3), some (vI x.1), none] [] (wM kn x.2 fi se ma on ot ta po ti nu mo wa nx oT cF bg ed sF qu qd tr) Q) x := by
  refine loop_go (P := fun x : Int32 × (Nat → Int32) => Go mX6_ring (d + 2) false 0 0 44 [some (vR 0), some (vI y1), some (vI y2), some (vI y3), some (vI x.1), none] [] (wM kn x.2 fi se ma on ot ta po ti nu mo wa nx oT cF bg ed sF qu qd tr) Q) (K := fun r : (Nat → Int32) => Go mX6_ring (d + 2) false 0 0 99 [some (vR 0), some (vI y1), none, none, none, none] [] (wM kn r fi se ma on ot ta po ti nu mo wa nx oT cF bg ed sF qu qd tr) Q) ?_ x r hl hk
  · intro x y hs hI hE
    unfold b_X6_ring_44 at hs
    show Go mX6_ring (d + 2) false 0 0 44 [some (vR 0), some (vI y1), some (vI y2), some (vI y3), some (vI x.1), none] [] (wM kn x.2 fi se ma on ot ta po ti nu mo wa nx oT cF bg ed sF qu qd tr) Q
    refine go_iload (pc := 44) dX6_ring_44 rfl ?_
    refine go_iload_n (pc := 46) 2 dX6_ring_46 rfl rfl ?_
    refine go_iconst (pc := 47) (2 : Int32) dX6_ring_47 (by decide) ?_
    refine go_idiv (pc := 48) dX6_ring_48 (by decide) ?_
    refine go_icmp_gt (pc := 49) 99 dX6_ring_49 (by decide) (fun h12 => ?_) (fun h12 => ?_)
    · have hs := it_t h12 hs
      obtain rfl := Option.some.inj hs
      refine go_sub (lv' := [some (vR 0), some (vI y1), none, none, none, none]) ⟨rfl, ⟨rfl, trivial⟩⟩ ?_
      exact hE _ rfl
    · have hs := it_f h12 hs
      refine go_iconst (pc := 52) (0 : Int32) dX6_ring_52 (by decide) ?_
      refine go_istore (pc := 53) [some (vR 0), some (vI y1), some (vI y2), some (vI y3), some (vI x.1), some (vI (0 : Int32))] dX6_ring_53 (by decide) rfl ?_
      obtain ⟨e18, hl19, hs⟩ := bnd hs
      refine g_X6_ring_55 (d := d) _ e18 hl19 ?_
      refine go_iinc (pc := 93) (x.1 + (1 : Int32)) [some (vR 0), some (vI y1), some (vI y2), some (vI y3), some (vI (x.1 + (1 : Int32))), none] dX6_ring_93 rfl rfl (by decide) rfl ?_
      refine go_goto (pc := 96) 44 dX6_ring_96 (by decide) ?_
      obtain rfl := Option.some.inj hs
      exact hI _ rfl
set_option maxRecDepth 20000 in
theorem c_X6_ring {d : Nat}  {a1 : Int32} {a2 : Int32} {a3 : Int32} {res : Int32 × (Nat → Int32) × (Nat → Int32)} (hs : s_X6_ring kn ne a1 a2 a3 = some res) : Calls mX6_ring (d + 2) false 0 0 [vR 0, vI a1, vI a2, vI a3] (wM kn ne fi se ma on ot ta po ti nu mo wa nx oT cF bg ed sF qu qd tr) (fun r w' => r = some (vI res.1) ∧ w' = (wM res.2.1 res.2.2 fi se ma on ot ta po ti nu mo wa nx oT cF bg ed sF qu qd tr)) := by
  unfold s_X6_ring at hs
  refine Calls.of kX6_ring 2 [some (vR 0), some (vI a1), some (vI a2), some (vI a3), none, none] rfl (Nat.le_of_ble_eq_true rfl) ?_
  refine go_iload_n (pc := 0) 1 dX6_ring_0 rfl rfl ?_
  obtain ⟨x1, hc2, hs⟩ := bnd hs
  refine go_callS (bc := 0) (bs := 0) (mc := 0) (ms := 0) (d := d + 1) (pc := 1) [vI a1] [] dX6_ring_1 kX6_isNet mlX6_69 isX6_isNet rfl (Nat.le_of_ble_eq_true rfl) rfl (c_X6_isNet (d := d + 0) hc2) (fun r w' hq => ?_)
  obtain ⟨rfl, rfl⟩ := hq
  show Go mX6_ring (d + 2) false 0 0 4 [some (vR 0), some (vI a1), some (vI a2), some (vI a3), none, none] [vI x1] (wM kn ne fi se ma on ot ta po ti nu mo wa nx oT cF bg ed sF qu qd tr) _
  refine go_if_eq (pc := 4) 32 dX6_ring_4 (by decide) (fun h3 => ?_) (fun h3 => ?_)
  · have hs := it_t h3 hs
    refine go_bipush (pc := 32) (-2 : Int32) dX6_ring_32 (by decide) ?_
    obtain rfl := Option.some.inj hs
    exact go_ireturn (st := []) (pc := 34) dX6_ring_34 rfl (vp_nar_int _) (fun h => by cases h) ⟨rfl, rfl⟩
  · have hs := it_f h3 hs
    refine go_iload_n (pc := 7) 2 dX6_ring_7 rfl rfl ?_
    refine go_iconst (pc := 8) (1 : Int32) dX6_ring_8 (by decide) ?_
    refine go_bipush (pc := 9) (10 : Int32) dX6_ring_9 (by decide) ?_
    obtain ⟨x4, hc5, hs⟩ := bnd hs
    refine go_callS (bc := 0) (bs := 0) (mc := 0) (ms := 0) (d := d + 1) (pc := 11) [vI a2, vI (1 : Int32), vI (10 : Int32)] [] dX6_ring_11 kX6_in mlX6_65 isX6_in rfl (Nat.le_of_ble_eq_true rfl) rfl (c_X6_in (d := d + 1) hc5) (fun r w' hq => ?_)
    obtain ⟨rfl, rfl⟩ := hq
    show Go mX6_ring (d + 2) false 0 0 14 [some (vR 0), some (vI a1), some (vI a2), some (vI a3), none, none] [vI x4] (wM kn ne fi se ma on ot ta po ti nu mo wa nx oT cF bg ed sF qu qd tr) _
    refine go_if_eq (pc := 14) 32 dX6_ring_14 (by decide) (fun h6 => ?_) (fun h6 => ?_)
    · have hs := it_t h6 hs
      refine go_bipush (pc := 32) (-2 : Int32) dX6_ring_32 (by decide) ?_
      obtain rfl := Option.some.inj hs
      exact go_ireturn (st := []) (pc := 34) dX6_ring_34 rfl (vp_nar_int _) (fun h => by cases h) ⟨rfl, rfl⟩
    · have hs := it_f h6 hs
      refine go_iload_n (pc := 17) 3 dX6_ring_17 rfl rfl ?_
      refine go_iconst (pc := 18) (0 : Int32) dX6_ring_18 (by decide) ?_
      refine go_iconst (pc := 19) (1 : Int32) dX6_ring_19 (by decide) ?_
      refine go_iload_n (pc := 20) 2 dX6_ring_20 rfl rfl ?_
      refine go_iconst (pc := 21) (2 : Int32) dX6_ring_21 (by decide) ?_
      refine go_idiv (pc := 22) dX6_ring_22 (by decide) ?_
      refine go_ishl (pc := 23) dX6_ring_23 ?_
      refine go_iconst (pc := 24) (1 : Int32) dX6_ring_24 (by decide) ?_
      refine go_isub (pc := 25) dX6_ring_25 ?_
      obtain ⟨x7, hc8, hs⟩ := bnd hs
      refine go_callS (bc := 0) (bs := 0) (mc := 0) (ms := 0) (d := d + 1) (pc := 26) [vI a3, vI (0 : Int32), vI (((1 : Int32) <<< ((a2 / (2 : Int32)) &&& 31)) - (1 : Int32))] [] dX6_ring_26 kX6_in mlX6_65 isX6_in rfl (Nat.le_of_ble_eq_true rfl) rfl (c_X6_in (d := d + 1) hc8) (fun r w' hq => ?_)
      obtain ⟨rfl, rfl⟩ := hq
      show Go mX6_ring (d + 2) false 0 0 29 [some (vR 0), some (vI a1), some (vI a2), some (vI a3), none, none] [vI x7] (wM kn ne fi se ma on ot ta po ti nu mo wa nx oT cF bg ed sF qu qd tr) _
      refine go_if_ne (pc := 29) 35 dX6_ring_29 (by decide) (fun h9 => ?_) (fun h9 => ?_)
      · have hs := it_f h9 hs
        refine go_aload_n (pc := 35) 0 dX6_ring_35 rfl rfl ?_
        refine go_iload_n (pc := 36) 1 dX6_ring_36 rfl rfl ?_
        refine go_iload_n (pc := 37) 2 dX6_ring_37 rfl rfl ?_
        obtain ⟨x10, hc11, hs⟩ := bnd hs
        refine go_callV (bc := 0) (bs := 0) (mc := 0) (ms := 0) (d := d + 1) (pc := 38) (a := 0) (ci := 6) [vI a1, vI a2] [] dX6_ring_38 kX6_begin mlX6_77 ivX6_begin rfl rfl rfl rfl (Nat.le_of_ble_eq_true rfl) rfl (c_X6_begin (d := d + 1) hc11) (fun r w' hq => ?_)
        obtain ⟨rfl, rfl⟩ := hq
        show Go mX6_ring (d + 2) false 0 0 41 [some (vR 0), some (vI a1), some (vI a2), some (vI a3), none, none] [] (wM x10.1 x10.2 fi se ma on ot ta po ti nu mo wa nx oT cF bg ed sF qu qd tr) _
        refine go_iconst (pc := 41) (1 : Int32) dX6_ring_41 (by decide) ?_
        refine go_istore (pc := 42) [some (vR 0), some (vI a1), some (vI a2), some (vI a3), some (vI (1 : Int32)), none] dX6_ring_42 (by decide) rfl ?_
        obtain ⟨e20, hl21, hs⟩ := bnd hs
        refine g_X6_ring_44 (d := d) _ e20 hl21 ?_
        refine go_aload_n (pc := 99) 0 dX6_ring_99 rfl rfl ?_
        refine go_iload_n (pc := 100) 1 dX6_ring_100 rfl rfl ?_
        obtain ⟨x22, hc23, hs⟩ := bnd hs
        refine go_callV (bc := 0) (bs := 0) (mc := 0) (ms := 0) (d := d + 1) (pc := 101) (a := 0) (ci := 6) [vI a1] [] dX6_ring_101 kX6_lines mlX6_92 ivX6_lines rfl rfl rfl rfl (Nat.le_of_ble_eq_true rfl) rfl (c_X6_lines (d := d + 0) hc23) (fun r w' hq => ?_)
        obtain ⟨rfl, rfl⟩ := hq
        show Go mX6_ring (d + 2) false 0 0 104 [some (vR 0), some (vI a1), none, none, none, none] [vI x22] (wM x10.1 e20 fi se ma on ot ta po ti nu mo wa nx oT cF bg ed sF qu qd tr) _
        obtain rfl := Option.some.inj hs
        exact go_ireturn (st := []) (pc := 104) dX6_ring_104 rfl (vp_nar_int _) (fun h => by cases h) ⟨rfl, rfl⟩
      · have hs := it_t h9 hs
        refine go_bipush (pc := 32) (-2 : Int32) dX6_ring_32 (by decide) ?_
        obtain rfl := Option.some.inj hs
        exact go_ireturn (st := []) (pc := 34) dX6_ring_34 rfl (vp_nar_int _) (fun h => by cases h) ⟨rfl, rfl⟩
noncomputable def b_X6_product_56 (ne : (Nat → Int32)) (y1 : Int32) (y2 : Int32) (x : Int32 × (Nat → Int32) × (Nat → Int32)) : Option ((Int32 × (Nat → Int32) × (Nat → Int32)) ⊕ ((Nat → Int32) × (Nat → Int32))) := if (10 : Int32) ≤ x.1 then (some (Sum.inr (x.2.1, x.2.2))) else (chk (((10 : Int32) * y1) + x.1) 40 (chk x.1 10 (chk (((10 : Int32) * y2) + x.1) 40 (chk x.1 10 (some (Sum.inl (x.1 + (1 : Int32), upd x.2.1 x.1.toNatClampNeg (ne (((10 : Int32) * y1) + x.1).toNatClampNeg), upd x.2.2 x.1.toNatClampNeg (ne (((10 : Int32) * y2) + x.1).toNatClampNeg))))))))
noncomputable def b_X6_product_133 (fi : (Nat → Int32)) (se : (Nat → Int32)) (y3 : Int32) (y4 : Int32) (y5 : Int32) (y6 : Int32) (x : Int32 × (Nat → Int32)) : Option ((Int32 × (Nat → Int32)) ⊕ ((Nat → Int32))) := if (y4 * y5) ≤ x.1 then (some (Sum.inr x.2)) else (nez y5 (nez y5 (if (y6 / y5) = (x.1 / y5) then (nez y5 (chk (y6 - y6 / y5 * y5) 10 (nez y5 (if (((se (y6 - y6 / y5 * y5).toNatClampNeg) >>> ((x.1 - x.1 / y5 * y5) &&& 31)) &&& (1 : Int32)) = (1 : Int32) then (nez y5 (nez y5 (if (y6 - y6 / y5 * y5) = (x.1 - x.1 / y5 * y5) then (nez y5 (chk (y6 / y5) 10 (nez y5 (if (((fi (y6 / y5).toNatClampNeg) >>> ((x.1 / y5) &&& 31)) &&& (1 : Int32)) = (1 : Int32) then (if (1 : Int32) = 0 then (if (1 : Int32) = 0 then (some (Sum.inl (x.1 + (1 : Int32), x.2))) else ((s_X6_put x.2 y3 y6 x.1).bind (fun x104 => some (Sum.inl (x.1 + (1 : Int32), x104))))) else ((s_X6_put x.2 y3 y6 x.1).bind (fun x101 => some (Sum.inl (x.1 + (1 : Int32), x101))))) else (if (1 : Int32) = 0 then (if (0 : Int32) = 0 then (some (Sum.inl (x.1 + (1 : Int32), x.2))) else ((s_X6_put x.2 y3 y6 x.1).bind (fun x98 => some (Sum.inl (x.1 + (1 : Int32), x98))))) else ((s_X6_put x.2 y3 y6 x.1).bind (fun x95 => some (Sum.inl (x.1 + (1 : Int32), x95))))))))) else (if (1 : Int32) = 0 then (if (0 : Int32) = 0 then (some (Sum.inl (x.1 + (1 : Int32), x.2))) else ((s_X6_put x.2 y3 y6 x.1).bind (fun x88 => some (Sum.inl (x.1 + (1 : Int32), x88))))) else ((s_X6_put x.2 y3 y6 x.1).bind (fun x85 => some (Sum.inl (x.1 + (1 : Int32), x85)))))))) else (nez y5 (nez y5 (if (y6 - y6 / y5 * y5) = (x.1 - x.1 / y5 * y5) then (nez y5 (chk (y6 / y5) 10 (nez y5 (if (((fi (y6 / y5).toNatClampNeg) >>> ((x.1 / y5) &&& 31)) &&& (1 : Int32)) = (1 : Int32) then (if (0 : Int32) = 0 then (if (1 : Int32) = 0 then (some (Sum.inl (x.1 + (1 : Int32), x.2))) else ((s_X6_put x.2 y3 y6 x.1).bind (fun x79 => some (Sum.inl (x.1 + (1 : Int32), x79))))) else ((s_X6_put x.2 y3 y6 x.1).bind (fun x76 => some (Sum.inl (x.1 + (1 : Int32), x76))))) else (if (0 : Int32) = 0 then (if (0 : Int32) = 0 then (some (Sum.inl (x.1 + (1 : Int32), x.2))) else ((s_X6_put x.2 y3 y6 x.1).bind (fun x73 => some (Sum.inl (x.1 + (1 : Int32), x73))))) else ((s_X6_put x.2 y3 y6 x.1).bind (fun x70 => some (Sum.inl (x.1 + (1 : Int32), x70))))))))) else (if (0 : Int32) = 0 then (if (0 : Int32) = 0 then (some (Sum.inl (x.1 + (1 : Int32), x.2))) else ((s_X6_put x.2 y3 y6 x.1).bind (fun x63 => some (Sum.inl (x.1 + (1 : Int32), x63))))) else ((s_X6_put x.2 y3 y6 x.1).bind (fun x60 => some (Sum.inl (x.1 + (1 : Int32), x60)))))))))))) else (nez y5 (nez y5 (if (y6 - y6 / y5 * y5) = (x.1 - x.1 / y5 * y5) then (nez y5 (chk (y6 / y5) 10 (nez y5 (if (((fi (y6 / y5).toNatClampNeg) >>> ((x.1 / y5) &&& 31)) &&& (1 : Int32)) = (1 : Int32) then (if (0 : Int32) = 0 then (if (1 : Int32) = 0 then (some (Sum.inl (x.1 + (1 : Int32), x.2))) else ((s_X6_put x.2 y3 y6 x.1).bind (fun x50 => some (Sum.inl (x.1 + (1 : Int32), x50))))) else ((s_X6_put x.2 y3 y6 x.1).bind (fun x47 => some (Sum.inl (x.1 + (1 : Int32), x47))))) else (if (0 : Int32) = 0 then (if (0 : Int32) = 0 then (some (Sum.inl (x.1 + (1 : Int32), x.2))) else ((s_X6_put x.2 y3 y6 x.1).bind (fun x44 => some (Sum.inl (x.1 + (1 : Int32), x44))))) else ((s_X6_put x.2 y3 y6 x.1).bind (fun x41 => some (Sum.inl (x.1 + (1 : Int32), x41))))))))) else (if (0 : Int32) = 0 then (if (0 : Int32) = 0 then (some (Sum.inl (x.1 + (1 : Int32), x.2))) else ((s_X6_put x.2 y3 y6 x.1).bind (fun x34 => some (Sum.inl (x.1 + (1 : Int32), x34))))) else ((s_X6_put x.2 y3 y6 x.1).bind (fun x31 => some (Sum.inl (x.1 + (1 : Int32), x31)))))))))))
noncomputable def b_X6_product_120 (fi : (Nat → Int32)) (se : (Nat → Int32)) (y3 : Int32) (y4 : Int32) (y5 : Int32) (x : Int32 × (Nat → Int32)) : Option ((Int32 × (Nat → Int32)) ⊕ ((Nat → Int32))) := if (y4 * y5) ≤ x.1 then (some (Sum.inr x.2)) else ((loop (b_X6_product_133 fi se y3 y4 y5 x.1) ((0 : Int32), x.2)).bind (fun e106 => some (Sum.inl (x.1 + (1 : Int32), e106))))
noncomputable def s_X6_product (kn : (Nat → Int32)) (ne : (Nat → Int32)) (fi : (Nat → Int32)) (se : (Nat → Int32)) (a1 : Int32) (a2 : Int32) (a3 : Int32) : Option (Int32 × (Nat → Int32) × (Nat → Int32) × (Nat → Int32) × (Nat → Int32)) := (s_X6_isNet a1).bind (fun x1 => if x1 = 0 then (some ((-2 : Int32), kn, ne, fi, se)) else ((s_X6_isNet a2).bind (fun x4 => if x4 = 0 then (some ((-2 : Int32), kn, ne, fi, se)) else ((s_X6_isNet a3).bind (fun x7 => if x7 = 0 then (some ((-2 : Int32), kn, ne, fi, se)) else (chk a1 4 (chk a2 4 (if ((kn a1.toNatClampNeg) * (kn a2.toNatClampNeg)) ≤ (10 : Int32) then ((loop (b_X6_product_56 ne a1 a2) ((0 : Int32), fi, se)).bind (fun e18 => (s_X6_begin kn ne a3 ((kn a1.toNatClampNeg) * (kn a2.toNatClampNeg))).bind (fun x20 => (loop (b_X6_product_120 e18.1 e18.2 a3 (kn a1.toNatClampNeg) (kn a2.toNatClampNeg)) ((0 : Int32), x20.2)).bind (fun e108 => some ((kn a1.toNatClampNeg) * (kn a2.toNatClampNeg), x20.1, e108, e18.1, e18.2))))) else (some ((-3 : Int32), kn, ne, fi, se))))))))))
set_option maxRecDepth 20000 in
theorem g_X6_product_56 {d : Nat} {Q : Option AV → List AC → Prop} {y1 : Int32} {y2 : Int32} {y3 : Int32} {y4 : Int32} {y5 : Int32} (x : Int32 × (Nat → Int32) × (Nat → Int32)) (r : (Nat → Int32) × (Nat → Int32)) (hl : loop (b_X6_product_56 ne y1 y2) x = some r) (hk : (fun r : (Nat → Int32) × (Nat → Int32) => Go mX6_product (d + 2) false 0 0 107 [some (vR 0), none, none, some (vI y3), some (vI y4), some (vI y5), none, none, none, none] [] (wM kn ne r.1 r.2 ma on ot ta po ti nu mo wa nx oT cF bg ed sF qu qd tr) Q) r) : (fun x : Int32 × (Nat → Int32) × (Nat → Int32) => Go mX6_product (d + 2) false 0 0 56 [some (vR 0), some (vI y1), some (vI y2), some (vI y3), some (vI y4), some (vI y5), some (vI x.1), none, none, none] [] (wM kn ne x.2.1 x.2.2 ma on ot ta po ti nu mo wa nx oT cF bg ed sF qu qd tr) Q) x := by
  refine loop_go (P := fun x : Int32 × (Nat → Int32) × (Nat → Int32) => Go mX6_product (d + 2) false 0 0 56 [some (vR 0), some (vI y1), some (vI y2), some (vI y3), some (vI y4), some (vI y5), some (vI x.1), none, none, none] [] (wM kn ne x.2.1 x.2.2 ma on ot ta po ti nu mo wa nx oT cF bg ed sF qu qd tr) Q) (K := fun r : (Nat → Int32) × (Nat → Int32) => Go mX6_product (d + 2) false 0 0 107 [some (vR 0), none, none, some (vI y3), some (vI y4), some (vI y5), none, none, none, none] [] (wM kn ne r.1 r.2 ma on ot ta po ti nu mo wa nx oT cF bg ed sF qu qd tr) Q) ?_ x r hl hk
  · intro x y hs hI hE
    unfold b_X6_product_56 at hs
    show Go mX6_product (d + 2) false 0 0 56 [some (vR 0), some (vI y1), some (vI y2), some (vI y3), some (vI y4), some (vI y5), some (vI x.1), none, none, none] [] (wM kn ne x.2.1 x.2.2 ma on ot ta po ti nu mo wa nx oT cF bg ed sF qu qd tr) Q
    refine go_iload (pc := 56) dX6_product_56 rfl ?_
    refine go_bipush (pc := 58) (10 : Int32) dX6_product_58 (by decide) ?_
    refine go_icmp_ge (pc := 60) 107 dX6_product_60 (by decide) (fun h13 => ?_) (fun h13 => ?_)
    · have hs := it_t h13 hs
      obtain rfl := Option.some.inj hs
      refine go_sub (lv' := [some (vR 0), none, none, some (vI y3), some (vI y4), some (vI y5), none, none, none, none]) ⟨rfl, ⟨rfl, ⟨rfl, ⟨rfl, trivial⟩⟩⟩⟩ ?_
      exact hE _ rfl
    · have hs := it_f h13 hs
      refine go_aload_n (pc := 63) 0 dX6_product_63 rfl rfl ?_
      refine go_getfield (pc := 64) (v := vR 3) 0 6 2 dX6_product_64 flX6_16 rfl rfl ?_
      refine go_iload (pc := 67) dX6_product_67 rfl ?_
      refine go_aload_n (pc := 69) 0 dX6_product_69 rfl rfl ?_
      refine go_getfield (pc := 70) (v := vR 2) 0 6 1 dX6_product_70 flX6_13 rfl rfl ?_
      refine go_bipush (pc := 73) (10 : Int32) dX6_product_73 (by decide) ?_
      refine go_iload_n (pc := 75) 1 dX6_product_75 rfl rfl ?_
      refine go_imul (pc := 76) dX6_product_76 ?_
      refine go_iload (pc := 77) dX6_product_77 rfl ?_
      refine go_iadd (pc := 79) dX6_product_79 ?_
      obtain ⟨hi14, hs⟩ := chk_t hs
      refine go_iaload (pc := 80) 2 dX6_product_80 rfl hi14 ?_
      obtain ⟨hi15, hs⟩ := chk_t hs
      refine go_iastore (pc := 81) 3 dX6_product_81 rfl hi15 (show Go mX6_product (d + 2) false 0 0 82 [some (vR 0), some (vI y1), some (vI y2), some (vI y3), some (vI y4), some (vI y5), some (vI x.1), none, none, none] [] (wM kn ne (upd x.2.1 x.1.toNatClampNeg (ne (((10 : Int32) * y1) + x.1).toNatClampNeg)) x.2.2 ma on ot ta po ti nu mo wa nx oT cF bg ed sF qu qd tr) Q from ?_)
      refine go_aload_n (pc := 82) 0 dX6_product_82 rfl rfl ?_
      refine go_getfield (pc := 83) (v := vR 4) 0 6 3 dX6_product_83 flX6_19 rfl rfl ?_
      refine go_iload (pc := 86) dX6_product_86 rfl ?_
      refine go_aload_n (pc := 88) 0 dX6_product_88 rfl rfl ?_
      refine go_getfield (pc := 89) (v := vR 2) 0 6 1 dX6_product_89 flX6_13 rfl rfl ?_
      refine go_bipush (pc := 92) (10 : Int32) dX6_product_92 (by decide) ?_
      refine go_iload_n (pc := 94) 2 dX6_product_94 rfl rfl ?_
      refine go_imul (pc := 95) dX6_product_95 ?_
      refine go_iload (pc := 96) dX6_product_96 rfl ?_
      refine go_iadd (pc := 98) dX6_product_98 ?_
      obtain ⟨hi16, hs⟩ := chk_t hs
      refine go_iaload (pc := 99) 2 dX6_product_99 rfl hi16 ?_
      obtain ⟨hi17, hs⟩ := chk_t hs
      refine go_iastore (pc := 100) 4 dX6_product_100 rfl hi17 (show Go mX6_product (d + 2) false 0 0 101 [some (vR 0), some (vI y1), some (vI y2), some (vI y3), some (vI y4), some (vI y5), some (vI x.1), none, none, none] [] (wM kn ne (upd x.2.1 x.1.toNatClampNeg (ne (((10 : Int32) * y1) + x.1).toNatClampNeg)) (upd x.2.2 x.1.toNatClampNeg (ne (((10 : Int32) * y2) + x.1).toNatClampNeg)) ma on ot ta po ti nu mo wa nx oT cF bg ed sF qu qd tr) Q from ?_)
      refine go_iinc (pc := 101) (x.1 + (1 : Int32)) [some (vR 0), some (vI y1), some (vI y2), some (vI y3), some (vI y4), some (vI y5), some (vI (x.1 + (1 : Int32))), none, none, none] dX6_product_101 rfl rfl (by decide) rfl ?_
      refine go_goto (pc := 104) 56 dX6_product_104 (by decide) ?_
      obtain rfl := Option.some.inj hs
      exact hI _ rfl
set_option maxRecDepth 20000 in
theorem g_X6_product_133 {d : Nat} {Q : Option AV → List AC → Prop} {y3 : Int32} {y4 : Int32} {y5 : Int32} {y6 : Int32} (x : Int32 × (Nat → Int32)) (r : (Nat → Int32)) (hl : loop (b_X6_product_133 fi se y3 y4 y5 y6) x = some r) (hk : (fun r : (Nat → Int32) => Go mX6_product (d + 2) false 0 0 252 [some (vR 0), none, none, some (vI y3), some (vI y4), some (vI y5), some (vI y6), none, none, none] [] (wM kn r fi se ma on ot ta po ti nu mo wa nx oT cF bg ed sF qu qd tr) Q) r) : (fun x : Int32 × (Nat → Int32) => Go mX6_product (d + 2) false 0 0 133 [some (vR 0), none, none, some (vI y3), some (vI y4), some (vI y5), some (vI y6), some (vI x.1), none, none] [] (wM kn x.2 fi se ma on ot ta po ti nu mo wa nx oT cF bg ed sF qu qd tr) Q) x := by
  refine loop_go (P := fun x : Int32 × (Nat → Int32) => Go mX6_product (d + 2) false 0 0 133 [some (vR 0), none, none, some (vI y3), some (vI y4), some (vI y5), some (vI y6), some (vI x.1), none, none] [] (wM kn x.2 fi se ma on ot ta po ti nu mo wa nx oT cF bg ed sF qu qd tr) Q) (K := fun r : (Nat → Int32) => Go mX6_product (d + 2) false 0 0 252 [some (vR 0), none, none, some (vI y3), some (vI y4), some (vI y5), some (vI y6), none, none, none] [] (wM kn r fi se ma on ot ta po ti nu mo wa nx oT cF bg ed sF qu qd tr) Q) ?_ x r hl hk
  · intro x y hs hI hE
    unfold b_X6_product_133 at hs
    show Go mX6_product (d + 2) false 0 0 133 [some (vR 0), none, none, some (vI y3), some (vI y4), some (vI y5), some (vI y6), some (vI x.1), none, none] [] (wM kn x.2 fi se ma on ot ta po ti nu mo wa nx oT cF bg ed sF qu qd tr) Q
    refine go_iload (pc := 133) dX6_product_133 rfl ?_
    refine go_iload (pc := 135) dX6_product_135 rfl ?_
    refine go_iload (pc := 137) dX6_product_137 rfl ?_
    refine go_imul (pc := 139) dX6_product_139 ?_
    refine go_icmp_ge (pc := 140) 252 dX6_product_140 (by decide) (fun h23 => ?_) (fun h23 => ?_)
    · have hs := it_t h23 hs
      obtain rfl := Option.some.inj hs
      refine go_sub (lv' := [some (vR 0), none, none, some (vI y3), some (vI y4), some (vI y5), some (vI y6), none, none, none]) ⟨rfl, ⟨rfl, ⟨rfl, ⟨rfl, ⟨rfl, trivial⟩⟩⟩⟩⟩ ?_
      exact hE _ rfl
    · have hs := it_f h23 hs
      refine go_iload (pc := 143) dX6_product_143 rfl ?_
      refine go_iload (pc := 145) dX6_product_145 rfl ?_
      obtain ⟨hn24, hs⟩ := nez_t hs
      refine go_idiv (pc := 147) dX6_product_147 hn24 ?_
      refine go_iload (pc := 148) dX6_product_148 rfl ?_
      refine go_iload (pc := 150) dX6_product_150 rfl ?_
      obtain ⟨hn25, hs⟩ := nez_t hs
      refine go_idiv (pc := 152) dX6_product_152 hn25 ?_
      refine go_icmp_ne (pc := 153) 182 dX6_product_153 (by decide) (fun h26 => ?_) (fun h26 => ?_)
      · have hs := it_f h26 hs
        refine go_iconst (pc := 182) (0 : Int32) dX6_product_182 (by decide) ?_
        refine go_istore (pc := 183) [some (vR 0), none, none, some (vI y3), some (vI y4), some (vI y5), some (vI y6), some (vI x.1), some (vI (0 : Int32)), none] dX6_product_183 (by decide) rfl ?_
        refine go_iload (pc := 185) dX6_product_185 rfl ?_
        refine go_iload (pc := 187) dX6_product_187 rfl ?_
        obtain ⟨hn27, hs⟩ := nez_t hs
        refine go_irem (pc := 189) dX6_product_189 hn27 ?_
        refine go_iload (pc := 190) dX6_product_190 rfl ?_
        refine go_iload (pc := 192) dX6_product_192 rfl ?_
        obtain ⟨hn28, hs⟩ := nez_t hs
        refine go_irem (pc := 194) dX6_product_194 hn28 ?_
        refine go_icmp_ne (pc := 195) 224 dX6_product_195 (by decide) (fun h29 => ?_) (fun h29 => ?_)
        · have hs := it_f h29 hs
          refine go_iconst (pc := 224) (0 : Int32) dX6_product_224 (by decide) ?_
          refine go_istore (pc := 225) [some (vR 0), none, none, some (vI y3), some (vI y4), some (vI y5), some (vI y6), some (vI x.1), some (vI (0 : Int32)), some (vI (0 : Int32))] dX6_product_225 (by decide) rfl ?_
          refine go_iload (pc := 227) dX6_product_227 rfl ?_
          refine go_if_ne (pc := 229) 237 dX6_product_229 (by decide) (fun h30 => ?_) (fun h30 => ?_)
          · have hs := it_f h30 hs
            refine go_aload_n (pc := 237) 0 dX6_product_237 rfl rfl ?_
            refine go_iload_n (pc := 238) 3 dX6_product_238 rfl rfl ?_
            refine go_iload (pc := 239) dX6_product_239 rfl ?_
            refine go_iload (pc := 241) dX6_product_241 rfl ?_
            obtain ⟨x31, hc32, hs⟩ := bnd hs
            refine go_callV (bc := 0) (bs := 0) (mc := 0) (ms := 0) (d := d + 1) (pc := 243) (a := 0) (ci := 6) [vI y3, vI y6, vI x.1] [] dX6_product_243 kX6_put mlX6_88 ivX6_put rfl rfl rfl rfl (Nat.le_of_ble_eq_true rfl) rfl (c_X6_put (d := d + 1) hc32) (fun r w' hq => ?_)
            obtain ⟨rfl, rfl⟩ := hq
            show Go mX6_product (d + 2) false 0 0 246 [some (vR 0), none, none, some (vI y3), some (vI y4), some (vI y5), some (vI y6), some (vI x.1), some (vI (0 : Int32)), some (vI (0 : Int32))] [] (wM kn x31 fi se ma on ot ta po ti nu mo wa nx oT cF bg ed sF qu qd tr) Q
            refine go_iinc (pc := 246) (x.1 + (1 : Int32)) [some (vR 0), none, none, some (vI y3), some (vI y4), some (vI y5), some (vI y6), some (vI (x.1 + (1 : Int32))), some (vI (0 : Int32)), some (vI (0 : Int32))] dX6_product_246 rfl rfl (by decide) rfl ?_
            refine go_goto (pc := 249) 133 dX6_product_249 (by decide) ?_
            obtain rfl := Option.some.inj hs
            refine go_sub (lv' := [some (vR 0), none, none, some (vI y3), some (vI y4), some (vI y5), some (vI y6), some (vI (x.1 + (1 : Int32))), none, none]) ⟨rfl, ⟨rfl, ⟨rfl, ⟨rfl, ⟨rfl, ⟨rfl, trivial⟩⟩⟩⟩⟩⟩ ?_
            exact hI _ rfl
          · have hs := it_t h30 hs
            refine go_iload (pc := 232) dX6_product_232 rfl ?_
            refine go_if_eq (pc := 234) 246 dX6_product_234 (by decide) (fun h33 => ?_) (fun h33 => ?_)
            · have hs := it_t h33 hs
              refine go_iinc (pc := 246) (x.1 + (1 : Int32)) [some (vR 0), none, none, some (vI y3), some (vI y4), some (vI y5), some (vI y6), some (vI (x.1 + (1 : Int32))), some (vI (0 : Int32)), some (vI (0 : Int32))] dX6_product_246 rfl rfl (by decide) rfl ?_
              refine go_goto (pc := 249) 133 dX6_product_249 (by decide) ?_
              obtain rfl := Option.some.inj hs
              refine go_sub (lv' := [some (vR 0), none, none, some (vI y3), some (vI y4), some (vI y5), some (vI y6), some (vI (x.1 + (1 : Int32))), none, none]) ⟨rfl, ⟨rfl, ⟨rfl, ⟨rfl, ⟨rfl, ⟨rfl, trivial⟩⟩⟩⟩⟩⟩ ?_
              exact hI _ rfl
            · have hs := it_f h33 hs
              refine go_aload_n (pc := 237) 0 dX6_product_237 rfl rfl ?_
              refine go_iload_n (pc := 238) 3 dX6_product_238 rfl rfl ?_
              refine go_iload (pc := 239) dX6_product_239 rfl ?_
              refine go_iload (pc := 241) dX6_product_241 rfl ?_
              obtain ⟨x34, hc35, hs⟩ := bnd hs
              refine go_callV (bc := 0) (bs := 0) (mc := 0) (ms := 0) (d := d + 1) (pc := 243) (a := 0) (ci := 6) [vI y3, vI y6, vI x.1] [] dX6_product_243 kX6_put mlX6_88 ivX6_put rfl rfl rfl rfl (Nat.le_of_ble_eq_true rfl) rfl (c_X6_put (d := d + 1) hc35) (fun r w' hq => ?_)
              obtain ⟨rfl, rfl⟩ := hq
              show Go mX6_product (d + 2) false 0 0 246 [some (vR 0), none, none, some (vI y3), some (vI y4), some (vI y5), some (vI y6), some (vI x.1), some (vI (0 : Int32)), some (vI (0 : Int32))] [] (wM kn x34 fi se ma on ot ta po ti nu mo wa nx oT cF bg ed sF qu qd tr) Q
              refine go_iinc (pc := 246) (x.1 + (1 : Int32)) [some (vR 0), none, none, some (vI y3), some (vI y4), some (vI y5), some (vI y6), some (vI (x.1 + (1 : Int32))), some (vI (0 : Int32)), some (vI (0 : Int32))] dX6_product_246 rfl rfl (by decide) rfl ?_
              refine go_goto (pc := 249) 133 dX6_product_249 (by decide) ?_
              obtain rfl := Option.some.inj hs
              refine go_sub (lv' := [some (vR 0), none, none, some (vI y3), some (vI y4), some (vI y5), some (vI y6), some (vI (x.1 + (1 : Int32))), none, none]) ⟨rfl, ⟨rfl, ⟨rfl, ⟨rfl, ⟨rfl, ⟨rfl, trivial⟩⟩⟩⟩⟩⟩ ?_
              exact hI _ rfl
        · have hs := it_t h29 hs
          refine go_aload_n (pc := 198) 0 dX6_product_198 rfl rfl ?_
          refine go_getfield (pc := 199) (v := vR 3) 0 6 2 dX6_product_199 flX6_16 rfl rfl ?_
          refine go_iload (pc := 202) dX6_product_202 rfl ?_
          refine go_iload (pc := 204) dX6_product_204 rfl ?_
          obtain ⟨hn36, hs⟩ := nez_t hs
          refine go_idiv (pc := 206) dX6_product_206 hn36 ?_
          obtain ⟨hi37, hs⟩ := chk_t hs
          refine go_iaload (pc := 207) 3 dX6_product_207 rfl hi37 ?_
          refine go_iload (pc := 208) dX6_product_208 rfl ?_
          refine go_iload (pc := 210) dX6_product_210 rfl ?_
          obtain ⟨hn38, hs⟩ := nez_t hs
          refine go_idiv (pc := 212) dX6_product_212 hn38 ?_
          refine go_ishr (pc := 213) dX6_product_213 ?_
          refine go_iconst (pc := 214) (1 : Int32) dX6_product_214 (by decide) ?_
          refine go_iand (pc := 215) dX6_product_215 ?_
          refine go_iconst (pc := 216) (1 : Int32) dX6_product_216 (by decide) ?_
          refine go_icmp_ne (pc := 217) 224 dX6_product_217 (by decide) (fun h39 => ?_) (fun h39 => ?_)
          · have hs := it_f h39 hs
            refine go_iconst (pc := 224) (0 : Int32) dX6_product_224 (by decide) ?_
            refine go_istore (pc := 225) [some (vR 0), none, none, some (vI y3), some (vI y4), some (vI y5), some (vI y6), some (vI x.1), some (vI (0 : Int32)), some (vI (0 : Int32))] dX6_product_225 (by decide) rfl ?_
            refine go_iload (pc := 227) dX6_product_227 rfl ?_
            refine go_if_ne (pc := 229) 237 dX6_product_229 (by decide) (fun h40 => ?_) (fun h40 => ?_)
            · have hs := it_f h40 hs
              refine go_aload_n (pc := 237) 0 dX6_product_237 rfl rfl ?_
              refine go_iload_n (pc := 238) 3 dX6_product_238 rfl rfl ?_
              refine go_iload (pc := 239) dX6_product_239 rfl ?_
              refine go_iload (pc := 241) dX6_product_241 rfl ?_
              obtain ⟨x41, hc42, hs⟩ := bnd hs
              refine go_callV (bc := 0) (bs := 0) (mc := 0) (ms := 0) (d := d + 1) (pc := 243) (a := 0) (ci := 6) [vI y3, vI y6, vI x.1] [] dX6_product_243 kX6_put mlX6_88 ivX6_put rfl rfl rfl rfl (Nat.le_of_ble_eq_true rfl) rfl (c_X6_put (d := d + 1) hc42) (fun r w' hq => ?_)
              obtain ⟨rfl, rfl⟩ := hq
              show Go mX6_product (d + 2) false 0 0 246 [some (vR 0), none, none, some (vI y3), some (vI y4), some (vI y5), some (vI y6), some (vI x.1), some (vI (0 : Int32)), some (vI (0 : Int32))] [] (wM kn x41 fi se ma on ot ta po ti nu mo wa nx oT cF bg ed sF qu qd tr) Q
              refine go_iinc (pc := 246) (x.1 + (1 : Int32)) [some (vR 0), none, none, some (vI y3), some (vI y4), some (vI y5), some (vI y6), some (vI (x.1 + (1 : Int32))), some (vI (0 : Int32)), some (vI (0 : Int32))] dX6_product_246 rfl rfl (by decide) rfl ?_
              refine go_goto (pc := 249) 133 dX6_product_249 (by decide) ?_
              obtain rfl := Option.some.inj hs
              refine go_sub (lv' := [some (vR 0), none, none, some (vI y3), some (vI y4), some (vI y5), some (vI y6), some (vI (x.1 + (1 : Int32))), none, none]) ⟨rfl, ⟨rfl, ⟨rfl, ⟨rfl, ⟨rfl, ⟨rfl, trivial⟩⟩⟩⟩⟩⟩ ?_
              exact hI _ rfl
            · have hs := it_t h40 hs
              refine go_iload (pc := 232) dX6_product_232 rfl ?_
              refine go_if_eq (pc := 234) 246 dX6_product_234 (by decide) (fun h43 => ?_) (fun h43 => ?_)
              · have hs := it_t h43 hs
                refine go_iinc (pc := 246) (x.1 + (1 : Int32)) [some (vR 0), none, none, some (vI y3), some (vI y4), some (vI y5), some (vI y6), some (vI (x.1 + (1 : Int32))), some (vI (0 : Int32)), some (vI (0 : Int32))] dX6_product_246 rfl rfl (by decide) rfl ?_
                refine go_goto (pc := 249) 133 dX6_product_249 (by decide) ?_
                obtain rfl := Option.some.inj hs
                refine go_sub (lv' := [some (vR 0), none, none, some (vI y3), some (vI y4), some (vI y5), some (vI y6), some (vI (x.1 + (1 : Int32))), none, none]) ⟨rfl, ⟨rfl, ⟨rfl, ⟨rfl, ⟨rfl, ⟨rfl, trivial⟩⟩⟩⟩⟩⟩ ?_
                exact hI _ rfl
              · have hs := it_f h43 hs
                refine go_aload_n (pc := 237) 0 dX6_product_237 rfl rfl ?_
                refine go_iload_n (pc := 238) 3 dX6_product_238 rfl rfl ?_
                refine go_iload (pc := 239) dX6_product_239 rfl ?_
                refine go_iload (pc := 241) dX6_product_241 rfl ?_
                obtain ⟨x44, hc45, hs⟩ := bnd hs
                refine go_callV (bc := 0) (bs := 0) (mc := 0) (ms := 0) (d := d + 1) (pc := 243) (a := 0) (ci := 6) [vI y3, vI y6, vI x.1] [] dX6_product_243 kX6_put mlX6_88 ivX6_put rfl rfl rfl rfl (Nat.le_of_ble_eq_true rfl) rfl (c_X6_put (d := d + 1) hc45) (fun r w' hq => ?_)
                obtain ⟨rfl, rfl⟩ := hq
                show Go mX6_product (d + 2) false 0 0 246 [some (vR 0), none, none, some (vI y3), some (vI y4), some (vI y5), some (vI y6), some (vI x.1), some (vI (0 : Int32)), some (vI (0 : Int32))] [] (wM kn x44 fi se ma on ot ta po ti nu mo wa nx oT cF bg ed sF qu qd tr) Q
                refine go_iinc (pc := 246) (x.1 + (1 : Int32)) [some (vR 0), none, none, some (vI y3), some (vI y4), some (vI y5), some (vI y6), some (vI (x.1 + (1 : Int32))), some (vI (0 : Int32)), some (vI (0 : Int32))] dX6_product_246 rfl rfl (by decide) rfl ?_
                refine go_goto (pc := 249) 133 dX6_product_249 (by decide) ?_
                obtain rfl := Option.some.inj hs
                refine go_sub (lv' := [some (vR 0), none, none, some (vI y3), some (vI y4), some (vI y5), some (vI y6), some (vI (x.1 + (1 : Int32))), none, none]) ⟨rfl, ⟨rfl, ⟨rfl, ⟨rfl, ⟨rfl, ⟨rfl, trivial⟩⟩⟩⟩⟩⟩ ?_
                exact hI _ rfl
          · have hs := it_t h39 hs
            refine go_iconst (pc := 220) (1 : Int32) dX6_product_220 (by decide) ?_
            refine go_goto (pc := 221) 225 dX6_product_221 (by decide) ?_
            refine go_istore (pc := 225) [some (vR 0), none, none, some (vI y3), some (vI y4), some (vI y5), some (vI y6), some (vI x.1), some (vI (0 : Int32)), some (vI (1 : Int32))] dX6_product_225 (by decide) rfl ?_
            refine go_iload (pc := 227) dX6_product_227 rfl ?_
            refine go_if_ne (pc := 229) 237 dX6_product_229 (by decide) (fun h46 => ?_) (fun h46 => ?_)
            · have hs := it_f h46 hs
              refine go_aload_n (pc := 237) 0 dX6_product_237 rfl rfl ?_
              refine go_iload_n (pc := 238) 3 dX6_product_238 rfl rfl ?_
              refine go_iload (pc := 239) dX6_product_239 rfl ?_
              refine go_iload (pc := 241) dX6_product_241 rfl ?_
              obtain ⟨x47, hc48, hs⟩ := bnd hs
              refine go_callV (bc := 0) (bs := 0) (mc := 0) (ms := 0) (d := d + 1) (pc := 243) (a := 0) (ci := 6) [vI y3, vI y6, vI x.1] [] dX6_product_243 kX6_put mlX6_88 ivX6_put rfl rfl rfl rfl (Nat.le_of_ble_eq_true rfl) rfl (c_X6_put (d := d + 1) hc48) (fun r w' hq => ?_)
              obtain ⟨rfl, rfl⟩ := hq
              show Go mX6_product (d + 2) false 0 0 246 [some (vR 0), none, none, some (vI y3), some (vI y4), some (vI y5), some (vI y6), some (vI x.1), some (vI (0 : Int32)), some (vI (1 : Int32))] [] (wM kn x47 fi se ma on ot ta po ti nu mo wa nx oT cF bg ed sF qu qd tr) Q
              refine go_iinc (pc := 246) (x.1 + (1 : Int32)) [some (vR 0), none, none, some (vI y3), some (vI y4), some (vI y5), some (vI y6), some (vI (x.1 + (1 : Int32))), some (vI (0 : Int32)), some (vI (1 : Int32))] dX6_product_246 rfl rfl (by decide) rfl ?_
              refine go_goto (pc := 249) 133 dX6_product_249 (by decide) ?_
              obtain rfl := Option.some.inj hs
              refine go_sub (lv' := [some (vR 0), none, none, some (vI y3), some (vI y4), some (vI y5), some (vI y6), some (vI (x.1 + (1 : Int32))), none, none]) ⟨rfl, ⟨rfl, ⟨rfl, ⟨rfl, ⟨rfl, ⟨rfl, trivial⟩⟩⟩⟩⟩⟩ ?_
              exact hI _ rfl
            · have hs := it_t h46 hs
              refine go_iload (pc := 232) dX6_product_232 rfl ?_
              refine go_if_eq (pc := 234) 246 dX6_product_234 (by decide) (fun h49 => ?_) (fun h49 => ?_)
              · have hs := it_t h49 hs
                refine go_iinc (pc := 246) (x.1 + (1 : Int32)) [some (vR 0), none, none, some (vI y3), some (vI y4), some (vI y5), some (vI y6), some (vI (x.1 + (1 : Int32))), some (vI (0 : Int32)), some (vI (1 : Int32))] dX6_product_246 rfl rfl (by decide) rfl ?_
                refine go_goto (pc := 249) 133 dX6_product_249 (by decide) ?_
                obtain rfl := Option.some.inj hs
                refine go_sub (lv' := [some (vR 0), none, none, some (vI y3), some (vI y4), some (vI y5), some (vI y6), some (vI (x.1 + (1 : Int32))), none, none]) ⟨rfl, ⟨rfl, ⟨rfl, ⟨rfl, ⟨rfl, ⟨rfl, trivial⟩⟩⟩⟩⟩⟩ ?_
                exact hI _ rfl
              · have hs := it_f h49 hs
                refine go_aload_n (pc := 237) 0 dX6_product_237 rfl rfl ?_
                refine go_iload_n (pc := 238) 3 dX6_product_238 rfl rfl ?_
                refine go_iload (pc := 239) dX6_product_239 rfl ?_
                refine go_iload (pc := 241) dX6_product_241 rfl ?_
                obtain ⟨x50, hc51, hs⟩ := bnd hs
                refine go_callV (bc := 0) (bs := 0) (mc := 0) (ms := 0) (d := d + 1) (pc := 243) (a := 0) (ci := 6) [vI y3, vI y6, vI x.1] [] dX6_product_243 kX6_put mlX6_88 ivX6_put rfl rfl rfl rfl (Nat.le_of_ble_eq_true rfl) rfl (c_X6_put (d := d + 1) hc51) (fun r w' hq => ?_)
                obtain ⟨rfl, rfl⟩ := hq
                show Go mX6_product (d + 2) false 0 0 246 [some (vR 0), none, none, some (vI y3), some (vI y4), some (vI y5), some (vI y6), some (vI x.1), some (vI (0 : Int32)), some (vI (1 : Int32))] [] (wM kn x50 fi se ma on ot ta po ti nu mo wa nx oT cF bg ed sF qu qd tr) Q
                refine go_iinc (pc := 246) (x.1 + (1 : Int32)) [some (vR 0), none, none, some (vI y3), some (vI y4), some (vI y5), some (vI y6), some (vI (x.1 + (1 : Int32))), some (vI (0 : Int32)), some (vI (1 : Int32))] dX6_product_246 rfl rfl (by decide) rfl ?_
                refine go_goto (pc := 249) 133 dX6_product_249 (by decide) ?_
                obtain rfl := Option.some.inj hs
                refine go_sub (lv' := [some (vR 0), none, none, some (vI y3), some (vI y4), some (vI y5), some (vI y6), some (vI (x.1 + (1 : Int32))), none, none]) ⟨rfl, ⟨rfl, ⟨rfl, ⟨rfl, ⟨rfl, ⟨rfl, trivial⟩⟩⟩⟩⟩⟩ ?_
                exact hI _ rfl
      · have hs := it_t h26 hs
        refine go_aload_n (pc := 156) 0 dX6_product_156 rfl rfl ?_
        refine go_getfield (pc := 157) (v := vR 4) 0 6 3 dX6_product_157 flX6_19 rfl rfl ?_
        refine go_iload (pc := 160) dX6_product_160 rfl ?_
        refine go_iload (pc := 162) dX6_product_162 rfl ?_
        obtain ⟨hn52, hs⟩ := nez_t hs
        refine go_irem (pc := 164) dX6_product_164 hn52 ?_
        obtain ⟨hi53, hs⟩ := chk_t hs
        refine go_iaload (pc := 165) 4 dX6_product_165 rfl hi53 ?_
        refine go_iload (pc := 166) dX6_product_166 rfl ?_
        refine go_iload (pc := 168) dX6_product_168 rfl ?_
        obtain ⟨hn54, hs⟩ := nez_t hs
        refine go_irem (pc := 170) dX6_product_170 hn54 ?_
        refine go_ishr (pc := 171) dX6_product_171 ?_
        refine go_iconst (pc := 172) (1 : Int32) dX6_product_172 (by decide) ?_
        refine go_iand (pc := 173) dX6_product_173 ?_
        refine go_iconst (pc := 174) (1 : Int32) dX6_product_174 (by decide) ?_
        refine go_icmp_ne (pc := 175) 182 dX6_product_175 (by decide) (fun h55 => ?_) (fun h55 => ?_)
        · have hs := it_f h55 hs
          refine go_iconst (pc := 182) (0 : Int32) dX6_product_182 (by decide) ?_
          refine go_istore (pc := 183) [some (vR 0), none, none, some (vI y3), some (vI y4), some (vI y5), some (vI y6), some (vI x.1), some (vI (0 : Int32)), none] dX6_product_183 (by decide) rfl ?_
          refine go_iload (pc := 185) dX6_product_185 rfl ?_
          refine go_iload (pc := 187) dX6_product_187 rfl ?_
          obtain ⟨hn56, hs⟩ := nez_t hs
          refine go_irem (pc := 189) dX6_product_189 hn56 ?_
          refine go_iload (pc := 190) dX6_product_190 rfl ?_
          refine go_iload (pc := 192) dX6_product_192 rfl ?_
          obtain ⟨hn57, hs⟩ := nez_t hs
          refine go_irem (pc := 194) dX6_product_194 hn57 ?_
          refine go_icmp_ne (pc := 195) 224 dX6_product_195 (by decide) (fun h58 => ?_) (fun h58 => ?_)
          · have hs := it_f h58 hs
            refine go_iconst (pc := 224) (0 : Int32) dX6_product_224 (by decide) ?_
            refine go_istore (pc := 225) [some (vR 0), none, none, some (vI y3), some (vI y4), some (vI y5), some (vI y6), some (vI x.1), some (vI (0 : Int32)), some (vI (0 : Int32))] dX6_product_225 (by decide) rfl ?_
            refine go_iload (pc := 227) dX6_product_227 rfl ?_
            refine go_if_ne (pc := 229) 237 dX6_product_229 (by decide) (fun h59 => ?_) (fun h59 => ?_)
            · have hs := it_f h59 hs
              refine go_aload_n (pc := 237) 0 dX6_product_237 rfl rfl ?_
              refine go_iload_n (pc := 238) 3 dX6_product_238 rfl rfl ?_
              refine go_iload (pc := 239) dX6_product_239 rfl ?_
              refine go_iload (pc := 241) dX6_product_241 rfl ?_
              obtain ⟨x60, hc61, hs⟩ := bnd hs
              refine go_callV (bc := 0) (bs := 0) (mc := 0) (ms := 0) (d := d + 1) (pc := 243) (a := 0) (ci := 6) [vI y3, vI y6, vI x.1] [] dX6_product_243 kX6_put mlX6_88 ivX6_put rfl rfl rfl rfl (Nat.le_of_ble_eq_true rfl) rfl (c_X6_put (d := d + 1) hc61) (fun r w' hq => ?_)
              obtain ⟨rfl, rfl⟩ := hq
              show Go mX6_product (d + 2) false 0 0 246 [some (vR 0), none, none, some (vI y3), some (vI y4), some (vI y5), some (vI y6), some (vI x.1), some (vI (0 : Int32)), some (vI (0 : Int32))] [] (wM kn x60 fi se ma on ot ta po ti nu mo wa nx oT cF bg ed sF qu qd tr) Q
              refine go_iinc (pc := 246) (x.1 + (1 : Int32)) [some (vR 0), none, none, some (vI y3), some (vI y4), some (vI y5), some (vI y6), some (vI (x.1 + (1 : Int32))), some (vI (0 : Int32)), some (vI (0 : Int32))] dX6_product_246 rfl rfl (by decide) rfl ?_
              refine go_goto (pc := 249) 133 dX6_product_249 (by decide) ?_
              obtain rfl := Option.some.inj hs
              refine go_sub (lv' := [some (vR 0), none, none, some (vI y3), some (vI y4), some (vI y5), some (vI y6), some (vI (x.1 + (1 : Int32))), none, none]) ⟨rfl, ⟨rfl, ⟨rfl, ⟨rfl, ⟨rfl, ⟨rfl, trivial⟩⟩⟩⟩⟩⟩ ?_
              exact hI _ rfl
            · have hs := it_t h59 hs
              refine go_iload (pc := 232) dX6_product_232 rfl ?_
              refine go_if_eq (pc := 234) 246 dX6_product_234 (by decide) (fun h62 => ?_) (fun h62 => ?_)
              · have hs := it_t h62 hs
                refine go_iinc (pc := 246) (x.1 + (1 : Int32)) [some (vR 0), none, none, some (vI y3), some (vI y4), some (vI y5), some (vI y6), some (vI (x.1 + (1 : Int32))), some (vI (0 : Int32)), some (vI (0 : Int32))] dX6_product_246 rfl rfl (by decide) rfl ?_
                refine go_goto (pc := 249) 133 dX6_product_249 (by decide) ?_
                obtain rfl := Option.some.inj hs
                refine go_sub (lv' := [some (vR 0), none, none, some (vI y3), some (vI y4), some (vI y5), some (vI y6), some (vI (x.1 + (1 : Int32))), none, none]) ⟨rfl, ⟨rfl, ⟨rfl, ⟨rfl, ⟨rfl, ⟨rfl, trivial⟩⟩⟩⟩⟩⟩ ?_
                exact hI _ rfl
              · have hs := it_f h62 hs
                refine go_aload_n (pc := 237) 0 dX6_product_237 rfl rfl ?_
                refine go_iload_n (pc := 238) 3 dX6_product_238 rfl rfl ?_
                refine go_iload (pc := 239) dX6_product_239 rfl ?_
                refine go_iload (pc := 241) dX6_product_241 rfl ?_
                obtain ⟨x63, hc64, hs⟩ := bnd hs
                refine go_callV (bc := 0) (bs := 0) (mc := 0) (ms := 0) (d := d + 1) (pc := 243) (a := 0) (ci := 6) [vI y3, vI y6, vI x.1] [] dX6_product_243 kX6_put mlX6_88 ivX6_put rfl rfl rfl rfl (Nat.le_of_ble_eq_true rfl) rfl (c_X6_put (d := d + 1) hc64) (fun r w' hq => ?_)
                obtain ⟨rfl, rfl⟩ := hq
                show Go mX6_product (d + 2) false 0 0 246 [some (vR 0), none, none, some (vI y3), some (vI y4), some (vI y5), some (vI y6), some (vI x.1), some (vI (0 : Int32)), some (vI (0 : Int32))] [] (wM kn x63 fi se ma on ot ta po ti nu mo wa nx oT cF bg ed sF qu qd tr) Q
                refine go_iinc (pc := 246) (x.1 + (1 : Int32)) [some (vR 0), none, none, some (vI y3), some (vI y4), some (vI y5), some (vI y6), some (vI (x.1 + (1 : Int32))), some (vI (0 : Int32)), some (vI (0 : Int32))] dX6_product_246 rfl rfl (by decide) rfl ?_
                refine go_goto (pc := 249) 133 dX6_product_249 (by decide) ?_
                obtain rfl := Option.some.inj hs
                refine go_sub (lv' := [some (vR 0), none, none, some (vI y3), some (vI y4), some (vI y5), some (vI y6), some (vI (x.1 + (1 : Int32))), none, none]) ⟨rfl, ⟨rfl, ⟨rfl, ⟨rfl, ⟨rfl, ⟨rfl, trivial⟩⟩⟩⟩⟩⟩ ?_
                exact hI _ rfl
          · have hs := it_t h58 hs
            refine go_aload_n (pc := 198) 0 dX6_product_198 rfl rfl ?_
            refine go_getfield (pc := 199) (v := vR 3) 0 6 2 dX6_product_199 flX6_16 rfl rfl ?_
            refine go_iload (pc := 202) dX6_product_202 rfl ?_
            refine go_iload (pc := 204) dX6_product_204 rfl ?_
            obtain ⟨hn65, hs⟩ := nez_t hs
            refine go_idiv (pc := 206) dX6_product_206 hn65 ?_
            obtain ⟨hi66, hs⟩ := chk_t hs
            refine go_iaload (pc := 207) 3 dX6_product_207 rfl hi66 ?_
            refine go_iload (pc := 208) dX6_product_208 rfl ?_
            refine go_iload (pc := 210) dX6_product_210 rfl ?_
            obtain ⟨hn67, hs⟩ := nez_t hs
            refine go_idiv (pc := 212) dX6_product_212 hn67 ?_
            refine go_ishr (pc := 213) dX6_product_213 ?_
            refine go_iconst (pc := 214) (1 : Int32) dX6_product_214 (by decide) ?_
            refine go_iand (pc := 215) dX6_product_215 ?_
            refine go_iconst (pc := 216) (1 : Int32) dX6_product_216 (by decide) ?_
            refine go_icmp_ne (pc := 217) 224 dX6_product_217 (by decide) (fun h68 => ?_) (fun h68 => ?_)
            · have hs := it_f h68 hs
              refine go_iconst (pc := 224) (0 : Int32) dX6_product_224 (by decide) ?_
              refine go_istore (pc := 225) [some (vR 0), none, none, some (vI y3), some (vI y4), some (vI y5), some (vI y6), some (vI x.1), some (vI (0 : Int32)), some (vI (0 : Int32))] dX6_product_225 (by decide) rfl ?_
              refine go_iload (pc := 227) dX6_product_227 rfl ?_
              refine go_if_ne (pc := 229) 237 dX6_product_229 (by decide) (fun h69 => ?_) (fun h69 => ?_)
              · have hs := it_f h69 hs
                refine go_aload_n (pc := 237) 0 dX6_product_237 rfl rfl ?_
                refine go_iload_n (pc := 238) 3 dX6_product_238 rfl rfl ?_
                refine go_iload (pc := 239) dX6_product_239 rfl ?_
                refine go_iload (pc := 241) dX6_product_241 rfl ?_
                obtain ⟨x70, hc71, hs⟩ := bnd hs
                refine go_callV (bc := 0) (bs := 0) (mc := 0) (ms := 0) (d := d + 1) (pc := 243) (a := 0) (ci := 6) [vI y3, vI y6, vI x.1] [] dX6_product_243 kX6_put mlX6_88 ivX6_put rfl rfl rfl rfl (Nat.le_of_ble_eq_true rfl) rfl (c_X6_put (d := d + 1) hc71) (fun r w' hq => ?_)
                obtain ⟨rfl, rfl⟩ := hq
                show Go mX6_product (d + 2) false 0 0 246 [some (vR 0), none, none, some (vI y3), some (vI y4), some (vI y5), some (vI y6), some (vI x.1), some (vI (0 : Int32)), some (vI (0 : Int32))] [] (wM kn x70 fi se ma on ot ta po ti nu mo wa nx oT cF bg ed sF qu qd tr) Q
                refine go_iinc (pc := 246) (x.1 + (1 : Int32)) [some (vR 0), none, none, some (vI y3), some (vI y4), some (vI y5), some (vI y6), some (vI (x.1 + (1 : Int32))), some (vI (0 : Int32)), some (vI (0 : Int32))] dX6_product_246 rfl rfl (by decide) rfl ?_
                refine go_goto (pc := 249) 133 dX6_product_249 (by decide) ?_
                obtain rfl := Option.some.inj hs
                refine go_sub (lv' := [some (vR 0), none, none, some (vI y3), some (vI y4), some (vI y5), some (vI y6), some (vI (x.1 + (1 : Int32))), none, none]) ⟨rfl, ⟨rfl, ⟨rfl, ⟨rfl, ⟨rfl, ⟨rfl, trivial⟩⟩⟩⟩⟩⟩ ?_
                exact hI _ rfl
              · have hs := it_t h69 hs
                refine go_iload (pc := 232) dX6_product_232 rfl ?_
                refine go_if_eq (pc := 234) 246 dX6_product_234 (by decide) (fun h72 => ?_) (fun h72 => ?_)
                · have hs := it_t h72 hs
                  refine go_iinc (pc := 246) (x.1 + (1 : Int32)) [some (vR 0), none, none, some (vI y3), some (vI y4), some (vI y5), some (vI y6), some (vI (x.1 + (1 : Int32))), some (vI (0 : Int32)), some (vI (0 : Int32))] dX6_product_246 rfl rfl (by decide) rfl ?_
                  refine go_goto (pc := 249) 133 dX6_product_249 (by decide) ?_
                  obtain rfl := Option.some.inj hs
                  refine go_sub (lv' := [some (vR 0), none, none, some (vI y3), some (vI y4), some (vI y5), some (vI y6), some (vI (x.1 + (1 : Int32))), none, none]) ⟨rfl, ⟨rfl, ⟨rfl, ⟨rfl, ⟨rfl, ⟨rfl, trivial⟩⟩⟩⟩⟩⟩ ?_
                  exact hI _ rfl
                · have hs := it_f h72 hs
                  refine go_aload_n (pc := 237) 0 dX6_product_237 rfl rfl ?_
                  refine go_iload_n (pc := 238) 3 dX6_product_238 rfl rfl ?_
                  refine go_iload (pc := 239) dX6_product_239 rfl ?_
                  refine go_iload (pc := 241) dX6_product_241 rfl ?_
                  obtain ⟨x73, hc74, hs⟩ := bnd hs
                  refine go_callV (bc := 0) (bs := 0) (mc := 0) (ms := 0) (d := d + 1) (pc := 243) (a := 0) (ci := 6) [vI y3, vI y6, vI x.1] [] dX6_product_243 kX6_put mlX6_88 ivX6_put rfl rfl rfl rfl (Nat.le_of_ble_eq_true rfl) rfl (c_X6_put (d := d + 1) hc74) (fun r w' hq => ?_)
                  obtain ⟨rfl, rfl⟩ := hq
                  show Go mX6_product (d + 2) false 0 0 246 [some (vR 0), none, none, some (vI y3), some (vI y4), some (vI y5), some (vI y6), some (vI x.1), some (vI (0 : Int32)), some (vI (0 : Int32))] [] (wM kn x73 fi se ma on ot ta po ti nu mo wa nx oT cF bg ed sF qu qd tr) Q
                  refine go_iinc (pc := 246) (x.1 + (1 : Int32)) [some (vR 0), none, none, some (vI y3), some (vI y4), some (vI y5), some (vI y6), some (vI (x.1 + (1 : Int32))), some (vI (0 : Int32)), some (vI (0 : Int32))] dX6_product_246 rfl rfl (by decide) rfl ?_
                  refine go_goto (pc := 249) 133 dX6_product_249 (by decide) ?_
                  obtain rfl := Option.some.inj hs
                  refine go_sub (lv' := [some (vR 0), none, none, some (vI y3), some (vI y4), some (vI y5), some (vI y6), some (vI (x.1 + (1 : Int32))), none, none]) ⟨rfl, ⟨rfl, ⟨rfl, ⟨rfl, ⟨rfl, ⟨rfl, trivial⟩⟩⟩⟩⟩⟩ ?_
                  exact hI _ rfl
            · have hs := it_t h68 hs
              refine go_iconst (pc := 220) (1 : Int32) dX6_product_220 (by decide) ?_
              refine go_goto (pc := 221) 225 dX6_product_221 (by decide) ?_
              refine go_istore (pc := 225) [some (vR 0), none, none, some (vI y3), some (vI y4), some (vI y5), some (vI y6), some (vI x.1), some (vI (0 : Int32)), some (vI (1 : Int32))] dX6_product_225 (by decide) rfl ?_
              refine go_iload (pc := 227) dX6_product_227 rfl ?_
              refine go_if_ne (pc := 229) 237 dX6_product_229 (by decide) (fun h75 => ?_) (fun h75 => ?_)
              · have hs := it_f h75 hs
                refine go_aload_n (pc := 237) 0 dX6_product_237 rfl rfl ?_
                refine go_iload_n (pc := 238) 3 dX6_product_238 rfl rfl ?_
                refine go_iload (pc := 239) dX6_product_239 rfl ?_
                refine go_iload (pc := 241) dX6_product_241 rfl ?_
                obtain ⟨x76, hc77, hs⟩ := bnd hs
                refine go_callV (bc := 0) (bs := 0) (mc := 0) (ms := 0) (d := d + 1) (pc := 243) (a := 0) (ci := 6) [vI y3, vI y6, vI x.1] [] dX6_product_243 kX6_put mlX6_88 ivX6_put rfl rfl rfl rfl (Nat.le_of_ble_eq_true rfl) rfl (c_X6_put (d := d + 1) hc77) (fun r w' hq => ?_)
                obtain ⟨rfl, rfl⟩ := hq
                show Go mX6_product (d + 2) false 0 0 246 [some (vR 0), none, none, some (vI y3), some (vI y4), some (vI y5), some (vI y6), some (vI x.1), some (vI (0 : Int32)), some (vI (1 : Int32))] [] (wM kn x76 fi se ma on ot ta po ti nu mo wa nx oT cF bg ed sF qu qd tr) Q
                refine go_iinc (pc := 246) (x.1 + (1 : Int32)) [some (vR 0), none, none, some (vI y3), some (vI y4), some (vI y5), some (vI y6), some (vI (x.1 + (1 : Int32))), some (vI (0 : Int32)), some (vI (1 : Int32))] dX6_product_246 rfl rfl (by decide) rfl ?_
                refine go_goto (pc := 249) 133 dX6_product_249 (by decide) ?_
                obtain rfl := Option.some.inj hs
                refine go_sub (lv' := [some (vR 0), none, none, some (vI y3), some (vI y4), some (vI y5), some (vI y6), some (vI (x.1 + (1 : Int32))), none, none]) ⟨rfl, ⟨rfl, ⟨rfl, ⟨rfl, ⟨rfl, ⟨rfl, trivial⟩⟩⟩⟩⟩⟩ ?_
                exact hI _ rfl
              · have hs := it_t h75 hs
                refine go_iload (pc := 232) dX6_product_232 rfl ?_
                refine go_if_eq (pc := 234) 246 dX6_product_234 (by decide) (fun h78 => ?_) (fun h78 => ?_)
                · have hs := it_t h78 hs
                  refine go_iinc (pc := 246) (x.1 + (1 : Int32)) [some (vR 0), none, none, some (vI y3), some (vI y4), some (vI y5), some (vI y6), some (vI (x.1 + (1 : Int32))), some (vI (0 : Int32)), some (vI (1 : Int32))] dX6_product_246 rfl rfl (by decide) rfl ?_
                  refine go_goto (pc := 249) 133 dX6_product_249 (by decide) ?_
                  obtain rfl := Option.some.inj hs
                  refine go_sub (lv' := [some (vR 0), none, none, some (vI y3), some (vI y4), some (vI y5), some (vI y6), some (vI (x.1 + (1 : Int32))), none, none]) ⟨rfl, ⟨rfl, ⟨rfl, ⟨rfl, ⟨rfl, ⟨rfl, trivial⟩⟩⟩⟩⟩⟩ ?_
                  exact hI _ rfl
                · have hs := it_f h78 hs
                  refine go_aload_n (pc := 237) 0 dX6_product_237 rfl rfl ?_
                  refine go_iload_n (pc := 238) 3 dX6_product_238 rfl rfl ?_
                  refine go_iload (pc := 239) dX6_product_239 rfl ?_
                  refine go_iload (pc := 241) dX6_product_241 rfl ?_
                  obtain ⟨x79, hc80, hs⟩ := bnd hs
                  refine go_callV (bc := 0) (bs := 0) (mc := 0) (ms := 0) (d := d + 1) (pc := 243) (a := 0) (ci := 6) [vI y3, vI y6, vI x.1] [] dX6_product_243 kX6_put mlX6_88 ivX6_put rfl rfl rfl rfl (Nat.le_of_ble_eq_true rfl) rfl (c_X6_put (d := d + 1) hc80) (fun r w' hq => ?_)
                  obtain ⟨rfl, rfl⟩ := hq
                  show Go mX6_product (d + 2) false 0 0 246 [some (vR 0), none, none, some (vI y3), some (vI y4), some (vI y5), some (vI y6), some (vI x.1), some (vI (0 : Int32)), some (vI (1 : Int32))] [] (wM kn x79 fi se ma on ot ta po ti nu mo wa nx oT cF bg ed sF qu qd tr) Q
                  refine go_iinc (pc := 246) (x.1 + (1 : Int32)) [some (vR 0), none, none, some (vI y3), some (vI y4), some (vI y5), some (vI y6), some (vI (x.1 + (1 : Int32))), some (vI (0 : Int32)), some (vI (1 : Int32))] dX6_product_246 rfl rfl (by decide) rfl ?_
                  refine go_goto (pc := 249) 133 dX6_product_249 (by decide) ?_
                  obtain rfl := Option.some.inj hs
                  refine go_sub (lv' := [some (vR 0), none, none, some (vI y3), some (vI y4), some (vI y5), some (vI y6), some (vI (x.1 + (1 : Int32))), none, none]) ⟨rfl, ⟨rfl, ⟨rfl, ⟨rfl, ⟨rfl, ⟨rfl, trivial⟩⟩⟩⟩⟩⟩ ?_
                  exact hI _ rfl
        · have hs := it_t h55 hs
          refine go_iconst (pc := 178) (1 : Int32) dX6_product_178 (by decide) ?_
          refine go_goto (pc := 179) 183 dX6_product_179 (by decide) ?_
          refine go_istore (pc := 183) [some (vR 0), none, none, some (vI y3), some (vI y4), some (vI y5), some (vI y6), some (vI x.1), some (vI (1 : Int32)), none] dX6_product_183 (by decide) rfl ?_
          refine go_iload (pc := 185) dX6_product_185 rfl ?_
          refine go_iload (pc := 187) dX6_product_187 rfl ?_
          obtain ⟨hn81, hs⟩ := nez_t hs
          refine go_irem (pc := 189) dX6_product_189 hn81 ?_
          refine go_iload (pc := 190) dX6_product_190 rfl ?_
          refine go_iload (pc := 192) dX6_product_192 rfl ?_
          obtain ⟨hn82, hs⟩ := nez_t hs
          refine go_irem (pc := 194) dX6_product_194 hn82 ?_
          refine go_icmp_ne (pc := 195) 224 dX6_product_195 (by decide) (fun h83 => ?_) (fun h83 => ?_)
          · have hs := it_f h83 hs
            refine go_iconst (pc := 224) (0 : Int32) dX6_product_224 (by decide) ?_
            refine go_istore (pc := 225) [some (vR 0), none, none, some (vI y3), some (vI y4), some (vI y5), some (vI y6), some (vI x.1), some (vI (1 : Int32)), some (vI (0 : Int32))] dX6_product_225 (by decide) rfl ?_
            refine go_iload (pc := 227) dX6_product_227 rfl ?_
            refine go_if_ne (pc := 229) 237 dX6_product_229 (by decide) (fun h84 => ?_) (fun h84 => ?_)
            · have hs := it_f h84 hs
              refine go_aload_n (pc := 237) 0 dX6_product_237 rfl rfl ?_
              refine go_iload_n (pc := 238) 3 dX6_product_238 rfl rfl ?_
              refine go_iload (pc := 239) dX6_product_239 rfl ?_
              refine go_iload (pc := 241) dX6_product_241 rfl ?_
              obtain ⟨x85, hc86, hs⟩ := bnd hs
              refine go_callV (bc := 0) (bs := 0) (mc := 0) (ms := 0) (d := d + 1) (pc := 243) (a := 0) (ci := 6) [vI y3, vI y6, vI x.1] [] dX6_product_243 kX6_put mlX6_88 ivX6_put rfl rfl rfl rfl (Nat.le_of_ble_eq_true rfl) rfl (c_X6_put (d := d + 1) hc86) (fun r w' hq => ?_)
              obtain ⟨rfl, rfl⟩ := hq
              show Go mX6_product (d + 2) false 0 0 246 [some (vR 0), none, none, some (vI y3), some (vI y4), some (vI y5), some (vI y6), some (vI x.1), some (vI (1 : Int32)), some (vI (0 : Int32))] [] (wM kn x85 fi se ma on ot ta po ti nu mo wa nx oT cF bg ed sF qu qd tr) Q
              refine go_iinc (pc := 246) (x.1 + (1 : Int32)) [some (vR 0), none, none, some (vI y3), some (vI y4), some (vI y5), some (vI y6), some (vI (x.1 + (1 : Int32))), some (vI (1 : Int32)), some (vI (0 : Int32))] dX6_product_246 rfl rfl (by decide) rfl ?_
              refine go_goto (pc := 249) 133 dX6_product_249 (by decide) ?_
              obtain rfl := Option.some.inj hs
              refine go_sub (lv' := [some (vR 0), none, none, some (vI y3), some (vI y4), some (vI y5), some (vI y6), some (vI (x.1 + (1 : Int32))), none, none]) ⟨rfl, ⟨rfl, ⟨rfl, ⟨rfl, ⟨rfl, ⟨rfl, trivial⟩⟩⟩⟩⟩⟩ ?_
              exact hI _ rfl
            · have hs := it_t h84 hs
              refine go_iload (pc := 232) dX6_product_232 rfl ?_
              refine go_if_eq (pc := 234) 246 dX6_product_234 (by decide) (fun h87 => ?_) (fun h87 => ?_)
              · have hs := it_t h87 hs
                refine go_iinc (pc := 246) (x.1 + (1 : Int32)) [some (vR 0), none, none, some (vI y3), some (vI y4), some (vI y5), some (vI y6), some (vI (x.1 + (1 : Int32))), some (vI (1 : Int32)), some (vI (0 : Int32))] dX6_product_246 rfl rfl (by decide) rfl ?_
                refine go_goto (pc := 249) 133 dX6_product_249 (by decide) ?_
                obtain rfl := Option.some.inj hs
                refine go_sub (lv' := [some (vR 0), none, none, some (vI y3), some (vI y4), some (vI y5), some (vI y6), some (vI (x.1 + (1 : Int32))), none, none]) ⟨rfl, ⟨rfl, ⟨rfl, ⟨rfl, ⟨rfl, ⟨rfl, trivial⟩⟩⟩⟩⟩⟩ ?_
                exact hI _ rfl
              · have hs := it_f h87 hs
                refine go_aload_n (pc := 237) 0 dX6_product_237 rfl rfl ?_
                refine go_iload_n (pc := 238) 3 dX6_product_238 rfl rfl ?_
                refine go_iload (pc := 239) dX6_product_239 rfl ?_
                refine go_iload (pc := 241) dX6_product_241 rfl ?_
                obtain ⟨x88, hc89, hs⟩ := bnd hs
                refine go_callV (bc := 0) (bs := 0) (mc := 0) (ms := 0) (d := d + 1) (pc := 243) (a := 0) (ci := 6) [vI y3, vI y6, vI x.1] [] dX6_product_243 kX6_put mlX6_88 ivX6_put rfl rfl rfl rfl (Nat.le_of_ble_eq_true rfl) rfl (c_X6_put (d := d + 1) hc89) (fun r w' hq => ?_)
                obtain ⟨rfl, rfl⟩ := hq
                show Go mX6_product (d + 2) false 0 0 246 [some (vR 0), none, none, some (vI y3), some (vI y4), some (vI y5), some (vI y6), some (vI x.1), some (vI (1 : Int32)), some (vI (0 : Int32))] [] (wM kn x88 fi se ma on ot ta po ti nu mo wa nx oT cF bg ed sF qu qd tr) Q
                refine go_iinc (pc := 246) (x.1 + (1 : Int32)) [some (vR 0), none, none, some (vI y3), some (vI y4), some (vI y5), some (vI y6), some (vI (x.1 + (1 : Int32))), some (vI (1 : Int32)), some (vI (0 : Int32))] dX6_product_246 rfl rfl (by decide) rfl ?_
                refine go_goto (pc := 249) 133 dX6_product_249 (by decide) ?_
                obtain rfl := Option.some.inj hs
                refine go_sub (lv' := [some (vR 0), none, none, some (vI y3), some (vI y4), some (vI y5), some (vI y6), some (vI (x.1 + (1 : Int32))), none, none]) ⟨rfl, ⟨rfl, ⟨rfl, ⟨rfl, ⟨rfl, ⟨rfl, trivial⟩⟩⟩⟩⟩⟩ ?_
                exact hI _ rfl
          · have hs := it_t h83 hs
            refine go_aload_n (pc := 198) 0 dX6_product_198 rfl rfl ?_
            refine go_getfield (pc := 199) (v := vR 3) 0 6 2 dX6_product_199 flX6_16 rfl rfl ?_
            refine go_iload (pc := 202) dX6_product_202 rfl ?_
            refine go_iload (pc := 204) dX6_product_204 rfl ?_
            obtain ⟨hn90, hs⟩ := nez_t hs
            refine go_idiv (pc := 206) dX6_product_206 hn90 ?_
            obtain ⟨hi91, hs⟩ := chk_t hs
            refine go_iaload (pc := 207) 3 dX6_product_207 rfl hi91 ?_
            refine go_iload (pc := 208) dX6_product_208 rfl ?_
            refine go_iload (pc := 210) dX6_product_210 rfl ?_
            obtain ⟨hn92, hs⟩ := nez_t hs
            refine go_idiv (pc := 212) dX6_product_212 hn92 ?_
            refine go_ishr (pc := 213) dX6_product_213 ?_
            refine go_iconst (pc := 214) (1 : Int32) dX6_product_214 (by decide) ?_
            refine go_iand (pc := 215) dX6_product_215 ?_
            refine go_iconst (pc := 216) (1 : Int32) dX6_product_216 (by decide) ?_
            refine go_icmp_ne (pc := 217) 224 dX6_product_217 (by decide) (fun h93 => ?_) (fun h93 => ?_)
            · have hs := it_f h93 hs
              refine go_iconst (pc := 224) (0 : Int32) dX6_product_224 (by decide) ?_
              refine go_istore (pc := 225) [some (vR 0), none, none, some (vI y3), some (vI y4), some (vI y5), some (vI y6), some (vI x.1), some (vI (1 : Int32)), some (vI (0 : Int32))] dX6_product_225 (by decide) rfl ?_
              refine go_iload (pc := 227) dX6_product_227 rfl ?_
              refine go_if_ne (pc := 229) 237 dX6_product_229 (by decide) (fun h94 => ?_) (fun h94 => ?_)
              · have hs := it_f h94 hs
                refine go_aload_n (pc := 237) 0 dX6_product_237 rfl rfl ?_
                refine go_iload_n (pc := 238) 3 dX6_product_238 rfl rfl ?_
                refine go_iload (pc := 239) dX6_product_239 rfl ?_
                refine go_iload (pc := 241) dX6_product_241 rfl ?_
                obtain ⟨x95, hc96, hs⟩ := bnd hs
                refine go_callV (bc := 0) (bs := 0) (mc := 0) (ms := 0) (d := d + 1) (pc := 243) (a := 0) (ci := 6) [vI y3, vI y6, vI x.1] [] dX6_product_243 kX6_put mlX6_88 ivX6_put rfl rfl rfl rfl (Nat.le_of_ble_eq_true rfl) rfl (c_X6_put (d := d + 1) hc96) (fun r w' hq => ?_)
                obtain ⟨rfl, rfl⟩ := hq
                show Go mX6_product (d + 2) false 0 0 246 [some (vR 0), none, none, some (vI y3), some (vI y4), some (vI y5), some (vI y6), some (vI x.1), some (vI (1 : Int32)), some (vI (0 : Int32))] [] (wM kn x95 fi se ma on ot ta po ti nu mo wa nx oT cF bg ed sF qu qd tr) Q
                refine go_iinc (pc := 246) (x.1 + (1 : Int32)) [some (vR 0), none, none, some (vI y3), some (vI y4), some (vI y5), some (vI y6), some (vI (x.1 + (1 : Int32))), some (vI (1 : Int32)), some (vI (0 : Int32))] dX6_product_246 rfl rfl (by decide) rfl ?_
                refine go_goto (pc := 249) 133 dX6_product_249 (by decide) ?_
                obtain rfl := Option.some.inj hs
                refine go_sub (lv' := [some (vR 0), none, none, some (vI y3), some (vI y4), some (vI y5), some (vI y6), some (vI (x.1 + (1 : Int32))), none, none]) ⟨rfl, ⟨rfl, ⟨rfl, ⟨rfl, ⟨rfl, ⟨rfl, trivial⟩⟩⟩⟩⟩⟩ ?_
                exact hI _ rfl
              · have hs := it_t h94 hs
                refine go_iload (pc := 232) dX6_product_232 rfl ?_
                refine go_if_eq (pc := 234) 246 dX6_product_234 (by decide) (fun h97 => ?_) (fun h97 => ?_)
                · have hs := it_t h97 hs
                  refine go_iinc (pc := 246) (x.1 + (1 : Int32)) [some (vR 0), none, none, some (vI y3), some (vI y4), some (vI y5), some (vI y6), some (vI (x.1 + (1 : Int32))), some (vI (1 : Int32)), some (vI (0 : Int32))] dX6_product_246 rfl rfl (by decide) rfl ?_
                  refine go_goto (pc := 249) 133 dX6_product_249 (by decide) ?_
                  obtain rfl := Option.some.inj hs
                  refine go_sub (lv' := [some (vR 0), none, none, some (vI y3), some (vI y4), some (vI y5), some (vI y6), some (vI (x.1 + (1 : Int32))), none, none]) ⟨rfl, ⟨rfl, ⟨rfl, ⟨rfl, ⟨rfl, ⟨rfl, trivial⟩⟩⟩⟩⟩⟩ ?_
                  exact hI _ rfl
                · have hs := it_f h97 hs
                  refine go_aload_n (pc := 237) 0 dX6_product_237 rfl rfl ?_
                  refine go_iload_n (pc := 238) 3 dX6_product_238 rfl rfl ?_
                  refine go_iload (pc := 239) dX6_product_239 rfl ?_
                  refine go_iload (pc := 241) dX6_product_241 rfl ?_
                  obtain ⟨x98, hc99, hs⟩ := bnd hs
                  refine go_callV (bc := 0) (bs := 0) (mc := 0) (ms := 0) (d := d + 1) (pc := 243) (a := 0) (ci := 6) [vI y3, vI y6, vI x.1] [] dX6_product_243 kX6_put mlX6_88 ivX6_put rfl rfl rfl rfl (Nat.le_of_ble_eq_true rfl) rfl (c_X6_put (d := d + 1) hc99) (fun r w' hq => ?_)
                  obtain ⟨rfl, rfl⟩ := hq
                  show Go mX6_product (d + 2) false 0 0 246 [some (vR 0), none, none, some (vI y3), some (vI y4), some (vI y5), some (vI y6), some (vI x.1), some (vI (1 : Int32)), some (vI (0 : Int32))] [] (wM kn x98 fi se ma on ot ta po ti nu mo wa nx oT cF bg ed sF qu qd tr) Q
                  refine go_iinc (pc := 246) (x.1 + (1 : Int32)) [some (vR 0), none, none, some (vI y3), some (vI y4), some (vI y5), some (vI y6), some (vI (x.1 + (1 : Int32))), some (vI (1 : Int32)), some (vI (0 : Int32))] dX6_product_246 rfl rfl (by decide) rfl ?_
                  refine go_goto (pc := 249) 133 dX6_product_249 (by decide) ?_
                  obtain rfl := Option.some.inj hs
                  refine go_sub (lv' := [some (vR 0), none, none, some (vI y3), some (vI y4), some (vI y5), some (vI y6), some (vI (x.1 + (1 : Int32))), none, none]) ⟨rfl, ⟨rfl, ⟨rfl, ⟨rfl, ⟨rfl, ⟨rfl, trivial⟩⟩⟩⟩⟩⟩ ?_
                  exact hI _ rfl
            · have hs := it_t h93 hs
              refine go_iconst (pc := 220) (1 : Int32) dX6_product_220 (by decide) ?_
              refine go_goto (pc := 221) 225 dX6_product_221 (by decide) ?_
              refine go_istore (pc := 225) [some (vR 0), none, none, some (vI y3), some (vI y4), some (vI y5), some (vI y6), some (vI x.1), some (vI (1 : Int32)), some (vI (1 : Int32))] dX6_product_225 (by decide) rfl ?_
              refine go_iload (pc := 227) dX6_product_227 rfl ?_
              refine go_if_ne (pc := 229) 237 dX6_product_229 (by decide) (fun h100 => ?_) (fun h100 => ?_)
              · have hs := it_f h100 hs
                refine go_aload_n (pc := 237) 0 dX6_product_237 rfl rfl ?_
                refine go_iload_n (pc := 238) 3 dX6_product_238 rfl rfl ?_
                refine go_iload (pc := 239) dX6_product_239 rfl ?_
                refine go_iload (pc := 241) dX6_product_241 rfl ?_
                obtain ⟨x101, hc102, hs⟩ := bnd hs
                refine go_callV (bc := 0) (bs := 0) (mc := 0) (ms := 0) (d := d + 1) (pc := 243) (a := 0) (ci := 6) [vI y3, vI y6, vI x.1] [] dX6_product_243 kX6_put mlX6_88 ivX6_put rfl rfl rfl rfl (Nat.le_of_ble_eq_true rfl) rfl (c_X6_put (d := d + 1) hc102) (fun r w' hq => ?_)
                obtain ⟨rfl, rfl⟩ := hq
                show Go mX6_product (d + 2) false 0 0 246 [some (vR 0), none, none, some (vI y3), some (vI y4), some (vI y5), some (vI y6), some (vI x.1), some (vI (1 : Int32)), some (vI (1 : Int32))] [] (wM kn x101 fi se ma on ot ta po ti nu mo wa nx oT cF bg ed sF qu qd tr) Q
                refine go_iinc (pc := 246) (x.1 + (1 : Int32)) [some (vR 0), none, none, some (vI y3), some (vI y4), some (vI y5), some (vI y6), some (vI (x.1 + (1 : Int32))), some (vI (1 : Int32)), some (vI (1 : Int32))] dX6_product_246 rfl rfl (by decide) rfl ?_
                refine go_goto (pc := 249) 133 dX6_product_249 (by decide) ?_
                obtain rfl := Option.some.inj hs
                refine go_sub (lv' := [some (vR 0), none, none, some (vI y3), some (vI y4), some (vI y5), some (vI y6), some (vI (x.1 + (1 : Int32))), none, none]) ⟨rfl, ⟨rfl, ⟨rfl, ⟨rfl, ⟨rfl, ⟨rfl, trivial⟩⟩⟩⟩⟩⟩ ?_
                exact hI _ rfl
              · have hs := it_t h100 hs
                refine go_iload (pc := 232) dX6_product_232 rfl ?_
                refine go_if_eq (pc := 234) 246 dX6_product_234 (by decide) (fun h103 => ?_) (fun h103 => ?_)
                · have hs := it_t h103 hs
                  refine go_iinc (pc := 246) (x.1 + (1 : Int32)) [some (vR 0), none, none, some (vI y3), some (vI y4), some (vI y5), some (vI y6), some (vI (x.1 + (1 : Int32))), some (vI (1 : Int32)), some (vI (1 : Int32))] dX6_product_246 rfl rfl (by decide) rfl ?_
                  refine go_goto (pc := 249) 133 dX6_product_249 (by decide) ?_
                  obtain rfl := Option.some.inj hs
                  refine go_sub (lv' := [some (vR 0), none, none, some (vI y3), some (vI y4), some (vI y5), some (vI y6), some (vI (x.1 + (1 : Int32))), none, none]) ⟨rfl, ⟨rfl, ⟨rfl, ⟨rfl, ⟨rfl, ⟨rfl, trivial⟩⟩⟩⟩⟩⟩ ?_
                  exact hI _ rfl
                · have hs := it_f h103 hs
                  refine go_aload_n (pc := 237) 0 dX6_product_237 rfl rfl ?_
                  refine go_iload_n (pc := 238) 3 dX6_product_238 rfl rfl ?_
                  refine go_iload (pc := 239) dX6_product_239 rfl ?_
                  refine go_iload (pc := 241) dX6_product_241 rfl ?_
                  obtain ⟨x104, hc105, hs⟩ := bnd hs
                  refine go_callV (bc := 0) (bs := 0) (mc := 0) (ms := 0) (d := d + 1) (pc := 243) (a := 0) (ci := 6) [vI y3, vI y6, vI x.1] [] dX6_product_243 kX6_put mlX6_88 ivX6_put rfl rfl rfl rfl (Nat.le_of_ble_eq_true rfl) rfl (c_X6_put (d := d + 1) hc105) (fun r w' hq => ?_)
                  obtain ⟨rfl, rfl⟩ := hq
                  show Go mX6_product (d + 2) false 0 0 246 [some (vR 0), none, none, some (vI y3), some (vI y4), some (vI y5), some (vI y6), some (vI x.1), some (vI (1 : Int32)), some (vI (1 : Int32))] [] (wM kn x104 fi se ma on ot ta po ti nu mo wa nx oT cF bg ed sF qu qd tr) Q
                  refine go_iinc (pc := 246) (x.1 + (1 : Int32)) [some (vR 0), none, none, some (vI y3), some (vI y4), some (vI y5), some (vI y6), some (vI (x.1 + (1 : Int32))), some (vI (1 : Int32)), some (vI (1 : Int32))] dX6_product_246 rfl rfl (by decide) rfl ?_
                  refine go_goto (pc := 249) 133 dX6_product_249 (by decide) ?_
                  obtain rfl := Option.some.inj hs
                  refine go_sub (lv' := [some (vR 0), none, none, some (vI y3), some (vI y4), some (vI y5), some (vI y6), some (vI (x.1 + (1 : Int32))), none, none]) ⟨rfl, ⟨rfl, ⟨rfl, ⟨rfl, ⟨rfl, ⟨rfl, trivial⟩⟩⟩⟩⟩⟩ ?_
                  exact hI _ rfl
set_option maxRecDepth 20000 in
theorem g_X6_product_120 {d : Nat} {Q : Option AV → List AC → Prop} {y3 : Int32} {y4 : Int32} {y5 : Int32} (x : Int32 × (Nat → Int32)) (r : (Nat → Int32)) (hl : loop (b_X6_product_120 fi se y3 y4 y5) x = some r) (hk : (fun r : (Nat → Int32) => Go mX6_product (d + 2) false 0 0 258 [none, none, none, none, some (vI y4), some (vI y5), none, none, none, none] [] (wM kn r fi se ma on ot ta po ti nu mo wa nx oT cF bg ed sF qu qd tr) Q) r) : (fun x : Int32 × (Nat → Int32) => Go mX6_product (d + 2) false 0 0 120 [some (vR 0), none, none, some (vI y3), some (vI y4), some (vI y5), some (vI x.1), none, none, none] [] (wM kn x.2 fi se ma on ot ta po ti nu mo wa nx oT cF bg ed sF qu qd tr) Q) x := by
  refine loop_go (P := fun x : Int32 × (Nat → Int32) => Go mX6_product (d + 2) false 0 0 120 [some (vR 0), none, none, some (vI y3), some (vI y4), some (vI y5), some (vI x.1), none, none, none] [] (wM kn x.2 fi se ma on ot ta po ti nu mo wa nx oT cF bg ed sF qu qd tr) Q) (K := fun r : (Nat → Int32) => Go mX6_product (d + 2) false 0 0 258 [none, none, none, none, some (vI y4), some (vI y5), none, none, none, none] [] (wM kn r fi se ma on ot ta po ti nu mo wa nx oT cF bg ed sF qu qd tr) Q) ?_ x r hl hk
  · intro x y hs hI hE
    unfold b_X6_product_120 at hs
    show Go mX6_product (d + 2) false 0 0 120 [some (vR 0), none, none, some (vI y3), some (vI y4), some (vI y5), some (vI x.1), none, none, none] [] (wM kn x.2 fi se ma on ot ta po ti nu mo wa nx oT cF bg ed sF qu qd tr) Q
    refine go_iload (pc := 120) dX6_product_120 rfl ?_
    refine go_iload (pc := 122) dX6_product_122 rfl ?_
    refine go_iload (pc := 124) dX6_product_124 rfl ?_
    refine go_imul (pc := 126) dX6_product_126 ?_
    refine go_icmp_ge (pc := 127) 258 dX6_product_127 (by decide) (fun h22 => ?_) (fun h22 => ?_)
    · have hs := it_t h22 hs
      obtain rfl := Option.some.inj hs
      refine go_sub (lv' := [none, none, none, none, some (vI y4), some (vI y5), none, none, none, none]) ⟨rfl, ⟨rfl, trivial⟩⟩ ?_
      exact hE _ rfl
    · have hs := it_f h22 hs
      refine go_iconst (pc := 130) (0 : Int32) dX6_product_130 (by decide) ?_
      refine go_istore (pc := 131) [some (vR 0), none, none, some (vI y3), some (vI y4), some (vI y5), some (vI x.1), some (vI (0 : Int32)), none, none] dX6_product_131 (by decide) rfl ?_
      obtain ⟨e106, hl107, hs⟩ := bnd hs
      refine g_X6_product_133 (d := d) _ e106 hl107 ?_
      refine go_iinc (pc := 252) (x.1 + (1 : Int32)) [some (vR 0), none, none, some (vI y3), some (vI y4), some (vI y5), some (vI (x.1 + (1 : Int32))), none, none, none] dX6_product_252 rfl rfl (by decide) rfl ?_
      refine go_goto (pc := 255) 120 dX6_product_255 (by decide) ?_
      obtain rfl := Option.some.inj hs
      exact hI _ rfl
set_option maxRecDepth 20000 in
theorem c_X6_product {d : Nat}  {a1 : Int32} {a2 : Int32} {a3 : Int32} {res : Int32 × (Nat → Int32) × (Nat → Int32) × (Nat → Int32) × (Nat → Int32)} (hs : s_X6_product kn ne fi se a1 a2 a3 = some res) : Calls mX6_product (d + 2) false 0 0 [vR 0, vI a1, vI a2, vI a3] (wM kn ne fi se ma on ot ta po ti nu mo wa nx oT cF bg ed sF qu qd tr) (fun r w' => r = some (vI res.1) ∧ w' = (wM res.2.1 res.2.2.1 res.2.2.2.1 res.2.2.2.2 ma on ot ta po ti nu mo wa nx oT cF bg ed sF qu qd tr)) := by
  unfold s_X6_product at hs
  refine Calls.of kX6_product 6 [some (vR 0), some (vI a1), some (vI a2), some (vI a3), none, none, none, none, none, none] rfl (Nat.le_of_ble_eq_true rfl) ?_
  refine go_iload_n (pc := 0) 1 dX6_product_0 rfl rfl ?_
  obtain ⟨x1, hc2, hs⟩ := bnd hs
  refine go_callS (bc := 0) (bs := 0) (mc := 0) (ms := 0) (d := d + 1) (pc := 1) [vI a1] [] dX6_product_1 kX6_isNet mlX6_69 isX6_isNet rfl (Nat.le_of_ble_eq_true rfl) rfl (c_X6_isNet (d := d + 0) hc2) (fun r w' hq => ?_)
  obtain ⟨rfl, rfl⟩ := hq
  show Go mX6_product (d + 2) false 0 0 4 [some (vR 0), some (vI a1), some (vI a2), some (vI a3), none, none, none, none, none, none] [vI x1] (wM kn ne fi se ma on ot ta po ti nu mo wa nx oT cF bg ed sF qu qd tr) _
  refine go_if_eq (pc := 4) 21 dX6_product_4 (by decide) (fun h3 => ?_) (fun h3 => ?_)
  · have hs := it_t h3 hs
    refine go_bipush (pc := 21) (-2 : Int32) dX6_product_21 (by decide) ?_
    obtain rfl := Option.some.inj hs
    exact go_ireturn (st := []) (pc := 23) dX6_product_23 rfl (vp_nar_int _) (fun h => by cases h) ⟨rfl, rfl⟩
  · have hs := it_f h3 hs
    refine go_iload_n (pc := 7) 2 dX6_product_7 rfl rfl ?_
    obtain ⟨x4, hc5, hs⟩ := bnd hs
    refine go_callS (bc := 0) (bs := 0) (mc := 0) (ms := 0) (d := d + 1) (pc := 8) [vI a2] [] dX6_product_8 kX6_isNet mlX6_69 isX6_isNet rfl (Nat.le_of_ble_eq_true rfl) rfl (c_X6_isNet (d := d + 0) hc5) (fun r w' hq => ?_)
    obtain ⟨rfl, rfl⟩ := hq
    show Go mX6_product (d + 2) false 0 0 11 [some (vR 0), some (vI a1), some (vI a2), some (vI a3), none, none, none, none, none, none] [vI x4] (wM kn ne fi se ma on ot ta po ti nu mo wa nx oT cF bg ed sF qu qd tr) _
    refine go_if_eq (pc := 11) 21 dX6_product_11 (by decide) (fun h6 => ?_) (fun h6 => ?_)
    · have hs := it_t h6 hs
      refine go_bipush (pc := 21) (-2 : Int32) dX6_product_21 (by decide) ?_
      obtain rfl := Option.some.inj hs
      exact go_ireturn (st := []) (pc := 23) dX6_product_23 rfl (vp_nar_int _) (fun h => by cases h) ⟨rfl, rfl⟩
    · have hs := it_f h6 hs
      refine go_iload_n (pc := 14) 3 dX6_product_14 rfl rfl ?_
      obtain ⟨x7, hc8, hs⟩ := bnd hs
      refine go_callS (bc := 0) (bs := 0) (mc := 0) (ms := 0) (d := d + 1) (pc := 15) [vI a3] [] dX6_product_15 kX6_isNet mlX6_69 isX6_isNet rfl (Nat.le_of_ble_eq_true rfl) rfl (c_X6_isNet (d := d + 0) hc8) (fun r w' hq => ?_)
      obtain ⟨rfl, rfl⟩ := hq
      show Go mX6_product (d + 2) false 0 0 18 [some (vR 0), some (vI a1), some (vI a2), some (vI a3), none, none, none, none, none, none] [vI x7] (wM kn ne fi se ma on ot ta po ti nu mo wa nx oT cF bg ed sF qu qd tr) _
      refine go_if_ne (pc := 18) 24 dX6_product_18 (by decide) (fun h9 => ?_) (fun h9 => ?_)
      · have hs := it_f h9 hs
        refine go_aload_n (pc := 24) 0 dX6_product_24 rfl rfl ?_
        refine go_getfield (pc := 25) (v := vR 1) 0 6 0 dX6_product_25 flX6_7 rfl rfl ?_
        refine go_iload_n (pc := 28) 1 dX6_product_28 rfl rfl ?_
        obtain ⟨hi10, hs⟩ := chk_t hs
        refine go_iaload (pc := 29) 1 dX6_product_29 rfl hi10 ?_
        refine go_istore (pc := 30) [some (vR 0), some (vI a1), some (vI a2), some (vI a3), some (vI (kn a1.toNatClampNeg)), none, none, none, none, none] dX6_product_30 (by decide) rfl ?_
        refine go_aload_n (pc := 32) 0 dX6_product_32 rfl rfl ?_
        refine go_getfield (pc := 33) (v := vR 1) 0 6 0 dX6_product_33 flX6_7 rfl rfl ?_
        refine go_iload_n (pc := 36) 2 dX6_product_36 rfl rfl ?_
        obtain ⟨hi11, hs⟩ := chk_t hs
        refine go_iaload (pc := 37) 1 dX6_product_37 rfl hi11 ?_
        refine go_istore (pc := 38) [some (vR 0), some (vI a1), some (vI a2), some (vI a3), some (vI (kn a1.toNatClampNeg)), some (vI (kn a2.toNatClampNeg)), none, none, none, none] dX6_product_38 (by decide) rfl ?_
        refine go_iload (pc := 40) dX6_product_40 rfl ?_
        refine go_iload (pc := 42) dX6_product_42 rfl ?_
        refine go_imul (pc := 44) dX6_product_44 ?_
        refine go_bipush (pc := 45) (10 : Int32) dX6_product_45 (by decide) ?_
        refine go_icmp_le (pc := 47) 53 dX6_product_47 (by decide) (fun h12 => ?_) (fun h12 => ?_)
        · have hs := it_t h12 hs
          refine go_iconst (pc := 53) (0 : Int32) dX6_product_53 (by decide) ?_
          refine go_istore (pc := 54) [some (vR 0), some (vI a1), some (vI a2), some (vI a3), some (vI (kn a1.toNatClampNeg)), some (vI (kn a2.toNatClampNeg)), some (vI (0 : Int32)), none, none, none] dX6_product_54 (by decide) rfl ?_
          obtain ⟨e18, hl19, hs⟩ := bnd hs
          refine g_X6_product_56 (d := d) _ e18 hl19 ?_
          refine go_aload_n (pc := 107) 0 dX6_product_107 rfl rfl ?_
          refine go_iload_n (pc := 108) 3 dX6_product_108 rfl rfl ?_
          refine go_iload (pc := 109) dX6_product_109 rfl ?_
          refine go_iload (pc := 111) dX6_product_111 rfl ?_
          refine go_imul (pc := 113) dX6_product_113 ?_
          obtain ⟨x20, hc21, hs⟩ := bnd hs
          refine go_callV (bc := 0) (bs := 0) (mc := 0) (ms := 0) (d := d + 1) (pc := 114) (a := 0) (ci := 6) [vI a3, vI ((kn a1.toNatClampNeg) * (kn a2.toNatClampNeg))] [] dX6_product_114 kX6_begin mlX6_77 ivX6_begin rfl rfl rfl rfl (Nat.le_of_ble_eq_true rfl) rfl (c_X6_begin (d := d + 1) hc21) (fun r w' hq => ?_)
          obtain ⟨rfl, rfl⟩ := hq
          show Go mX6_product (d + 2) false 0 0 117 [some (vR 0), none, none, some (vI a3), some (vI (kn a1.toNatClampNeg)), some (vI (kn a2.toNatClampNeg)), none, none, none, none] [] (wM x20.1 x20.2 e18.1 e18.2 ma on ot ta po ti nu mo wa nx oT cF bg ed sF qu qd tr) _
          refine go_iconst (pc := 117) (0 : Int32) dX6_product_117 (by decide) ?_
          refine go_istore (pc := 118) [some (vR 0), none, none, some (vI a3), some (vI (kn a1.toNatClampNeg)), some (vI (kn a2.toNatClampNeg)), some (vI (0 : Int32)), none, none, none] dX6_product_118 (by decide) rfl ?_
          obtain ⟨e108, hl109, hs⟩ := bnd hs
          refine g_X6_product_120 (d := d) _ e108 hl109 ?_
          refine go_iload (pc := 258) dX6_product_258 rfl ?_
          refine go_iload (pc := 260) dX6_product_260 rfl ?_
          refine go_imul (pc := 262) dX6_product_262 ?_
          obtain rfl := Option.some.inj hs
          exact go_ireturn (st := []) (pc := 263) dX6_product_263 rfl (vp_nar_int _) (fun h => by cases h) ⟨rfl, rfl⟩
        · have hs := it_f h12 hs
          refine go_bipush (pc := 50) (-3 : Int32) dX6_product_50 (by decide) ?_
          obtain rfl := Option.some.inj hs
          exact go_ireturn (st := []) (pc := 52) dX6_product_52 rfl (vp_nar_int _) (fun h => by cases h) ⟨rfl, rfl⟩
      · have hs := it_t h9 hs
        refine go_bipush (pc := 21) (-2 : Int32) dX6_product_21 (by decide) ?_
        obtain rfl := Option.some.inj hs
        exact go_ireturn (st := []) (pc := 23) dX6_product_23 rfl (vp_nar_int _) (fun h => by cases h) ⟨rfl, rfl⟩
end
