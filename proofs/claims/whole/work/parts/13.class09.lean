section
variable {cK : (Nat → Int32)} {cF : (Nat → Nat → Int32)} {ga : Int32} {gi : Int32} {gs : Int32} {oK : Int32} {cT : (Nat → Nat → Int32)} {ra : (Fin 2)} {rb : (Fin 2)} {cR : (Nat → Nat → Nat → Int64)} {cP : (Nat → Int64)} {cM : (Nat → Int64)} {ea : (Fin 2)} {eb : (Fin 2)} {cW : (Nat → Nat → Int64)} {aO : (Nat → Int32)} {aC : (Nat → Int32)} {aQ : (Nat → Int32)}
noncomputable def s_X5_turned (cK : (Nat → Int32)) (cF : (Nat → Nat → Int32)) (a1 : Int32) (a2 : Int32) : Option (Int32 × (Nat → Int32) × (Nat → Nat → Int32)) := (s_X5_netAt a1).bind (fun x1 => (s_X5_netAt a2).bind (fun x3 => Option.elim x1 (some ((-2 : Int32), cK, cF)) (fun p5 => Option.elim x3 (some ((-2 : Int32), cK, cF)) (fun p6 => (s_X2_becomeTurned cK cF (4 : Fin 5) p5).bind (fun x7 => (s_X2_becomeCopy x7.1 x7.2 p6 (4 : Fin 5)).bind (fun x9 => (s_X2_lineCount x9.1 x9.2 p6).bind (fun x11 => some (x11, x9.1, x9.2))))))))
set_option maxRecDepth 20000 in
theorem c_X5_turned {d : Nat}  {a1 : Int32} {a2 : Int32} {res0 : Int32} {res1 : (Nat → Int32)} {res2 : (Nat → Nat → Int32)} (hs : s_X5_turned cK cF a1 a2 = some (res0, res1, res2)) : Calls mX5_turned (d + 3) false 0 0 [vR 0, vI a1, vI a2] (wC cK cF ga gi gs oK cT ra rb cR cP cM ea eb cW aO aC aQ) (fun r w' => r = some (vI res0) ∧ w' = (wC res1 res2 ga gi gs oK cT ra rb cR cP cM ea eb cW aO aC aQ)) := by
  unfold s_X5_turned at hs
  refine Calls.of kX5_turned 2 [some (vR 0), some (vI a1), some (vI a2), none, none] rfl (Nat.le_of_ble_eq_true rfl) ?_
  refine go_aload_n (pc := 0) 0 dX5_turned_0 rfl rfl ?_
  refine go_iload_n (pc := 1) 1 dX5_turned_1 rfl rfl ?_
  obtain ⟨x1, hc2, hs⟩ := bnd hs
  refine go_callV (bc := 0) (bs := 0) (mc := 0) (ms := 0) (d := d + 2) (pc := 2) (a := 0) (ci := 5) [vI a1] [] dX5_turned_2 kX5_netAt mlX5_48 ivX5_netAt rfl rfl rfl rfl (Nat.le_of_ble_eq_true rfl) rfl (c_X5_netAt (d := d + 2) (res0 := x1) hc2) (fun r w' hq => ?_)
  obtain ⟨rfl, rfl⟩ := hq
  show Go mX5_turned (d + 3) false 0 0 5 [some (vR 0), some (vI a1), some (vI a2), none, none] [vQ (x1.map (fun i => pN i.1))] (wC cK cF ga gi gs oK cT ra rb cR cP cM ea eb cW aO aC aQ) _
  refine go_astore_n (pc := 5) 3 [some (vR 0), some (vI a1), some (vI a2), some (vQ (x1.map (fun i => pN i.1))), none] dX5_turned_5 rfl (by decide) rfl ?_
  refine go_aload_n (pc := 6) 0 dX5_turned_6 rfl rfl ?_
  refine go_iload_n (pc := 7) 2 dX5_turned_7 rfl rfl ?_
  obtain ⟨x3, hc4, hs⟩ := bnd hs
  refine go_callV (bc := 0) (bs := 0) (mc := 0) (ms := 0) (d := d + 2) (pc := 8) (a := 0) (ci := 5) [vI a2] [] dX5_turned_8 kX5_netAt mlX5_48 ivX5_netAt rfl rfl rfl rfl (Nat.le_of_ble_eq_true rfl) rfl (c_X5_netAt (d := d + 2) (res0 := x3) hc4) (fun r w' hq => ?_)
  obtain ⟨rfl, rfl⟩ := hq
  show Go mX5_turned (d + 3) false 0 0 11 [some (vR 0), some (vI a1), some (vI a2), some (vQ (x1.map (fun i => pN i.1))), none] [vQ (x3.map (fun i => pN i.1))] (wC cK cF ga gi gs oK cT ra rb cR cP cM ea eb cW aO aC aQ) _
  refine go_astore (pc := 11) [some (vR 0), some (vI a1), some (vI a2), some (vQ (x1.map (fun i => pN i.1))), some (vQ (x3.map (fun i => pN i.1)))] dX5_turned_11 (by decide) rfl ?_
  refine go_aload_n (pc := 13) 3 dX5_turned_13 rfl rfl ?_
  rcases x1 with _ | p5
  · refine go_ifnull (pc := 14) 22 dX5_turned_14 (by decide) (fun _ => ?_) (fun a h => by cases h)
    simp only [Option.elim_none] at hs
    refine go_bipush (pc := 22) (-2 : Int32) dX5_turned_22 (by decide) ?_
    cases hs
    exact go_ireturn (st := []) (pc := 24) dX5_turned_24 rfl (vp_nar_int _) (fun h => by cases h) ⟨rfl, rfl⟩
  · refine go_ifnull (pc := 14) 22 dX5_turned_14 (by decide) (fun h => by cases h) (fun a _ => ?_)
    simp only [Option.elim_some] at hs
    show Go mX5_turned (d + 3) false 0 0 17 [some (vR 0), some (vI a1), some (vI a2), some (vR (pN p5.1)), some (vQ (x3.map (fun i => pN i.1)))] [] (wC cK cF ga gi gs oK cT ra rb cR cP cM ea eb cW aO aC aQ) _
    refine go_aload (pc := 17) dX5_turned_17 rfl ?_
    rcases x3 with _ | p6
    · refine go_ifnonnull (pc := 19) 25 dX5_turned_19 (by decide) (fun a h => by cases h) (fun _ => ?_)
      simp only [Option.elim_none] at hs
      refine go_bipush (pc := 22) (-2 : Int32) dX5_turned_22 (by decide) ?_
      cases hs
      exact go_ireturn (st := []) (pc := 24) dX5_turned_24 rfl (vp_nar_int _) (fun h => by cases h) ⟨rfl, rfl⟩
    · refine go_ifnonnull (pc := 19) 25 dX5_turned_19 (by decide) (fun a _ => ?_) (fun h => by cases h)
      simp only [Option.elim_some] at hs
      show Go mX5_turned (d + 3) false 0 0 25 [some (vR 0), some (vI a1), some (vI a2), some (vR (pN p5.1)), some (vR (pN p6.1))] [] (wC cK cF ga gi gs oK cT ra rb cR cP cM ea eb cW aO aC aQ) _
      refine go_aload_n (pc := 25) 0 dX5_turned_25 rfl rfl ?_
      refine go_getfield (pc := 26) (v := vR (pN (4 : Fin 5).1)) 0 5 1 dX5_turned_26 flX5_16 rfl rfl ?_
      refine go_aload_n (pc := 29) 3 dX5_turned_29 rfl rfl ?_
      obtain ⟨x7, hc8, hs⟩ := bnd hs
      refine go_callV (bc := 0) (bs := 0) (mc := 0) (ms := 0) (d := d + 2) (pc := 30) (a := (pN (4 : Fin 5).1)) (ci := 2) [vR (pN p5.1)] [] dX5_turned_30 kX2_becomeTurned mlX5_90 ivX2_becomeTurned rfl rfl (wC_net (4 : Fin 5)) rfl (Nat.le_of_ble_eq_true rfl) rfl (c_X2_becomeTurned (d := d + 0) (res0 := x7.1) (res1 := x7.2) hc8) (fun r w' hq => ?_)
      obtain ⟨rfl, rfl⟩ := hq
      show Go mX5_turned (d + 3) false 0 0 33 [some (vR 0), some (vI a1), some (vI a2), some (vR (pN p5.1)), some (vR (pN p6.1))] [] (wC x7.1 x7.2 ga gi gs oK cT ra rb cR cP cM ea eb cW aO aC aQ) _
      refine go_aload (pc := 33) dX5_turned_33 rfl ?_
      refine go_aload_n (pc := 35) 0 dX5_turned_35 rfl rfl ?_
      refine go_getfield (pc := 36) (v := vR (pN (4 : Fin 5).1)) 0 5 1 dX5_turned_36 flX5_16 rfl rfl ?_
      obtain ⟨x9, hc10, hs⟩ := bnd hs
      refine go_callV (bc := 0) (bs := 0) (mc := 0) (ms := 0) (d := d + 2) (pc := 39) (a := (pN p6.1)) (ci := 2) [vR (pN (4 : Fin 5).1)] [] dX5_turned_39 kX2_becomeCopy mlX5_86 ivX2_becomeCopy rfl rfl (wC_net p6) rfl (Nat.le_of_ble_eq_true rfl) rfl (c_X2_becomeCopy (d := d + 1) (res0 := x9.1) (res1 := x9.2) hc10) (fun r w' hq => ?_)
      obtain ⟨rfl, rfl⟩ := hq
      show Go mX5_turned (d + 3) false 0 0 42 [some (vR 0), some (vI a1), some (vI a2), some (vR (pN p5.1)), some (vR (pN p6.1))] [] (wC x9.1 x9.2 ga gi gs oK cT ra rb cR cP cM ea eb cW aO aC aQ) _
      refine go_aload (pc := 42) dX5_turned_42 rfl ?_
      obtain ⟨x11, hc12, hs⟩ := bnd hs
      refine go_callV (bc := 0) (bs := 0) (mc := 0) (ms := 0) (d := d + 2) (pc := 44) (a := (pN p6.1)) (ci := 2) [] [] dX5_turned_44 kX2_lineCount mlX5_74 ivX2_lineCount rfl rfl (wC_net p6) rfl (Nat.le_of_ble_eq_true rfl) rfl (c_X2_lineCount (d := d + 0) (res0 := x11) hc12) (fun r w' hq => ?_)
      obtain ⟨rfl, rfl⟩ := hq
      show Go mX5_turned (d + 3) false 0 0 47 [some (vR 0), some (vI a1), some (vI a2), some (vR (pN p5.1)), some (vR (pN p6.1))] [vI x11] (wC x9.1 x9.2 ga gi gs oK cT ra rb cR cP cM ea eb cW aO aC aQ) _
      cases hs
      exact go_ireturn (st := []) (pc := 47) dX5_turned_47 rfl (vp_nar_int _) (fun h => by cases h) ⟨rfl, rfl⟩
noncomputable def s_X5_about (cK : (Nat → Int32)) (cF : (Nat → Nat → Int32)) (a1 : Int32) (a2 : Int32) : Option (Int32) := (s_X5_netAt a1).bind (fun x1 => Option.elim x1 (some (-2 : Int32)) (fun p3 => if a2 = (0 : Int32) then (some (cK p3.1)) else (if a2 = (1 : Int32) then ((s_X2_lineCount cK cF p3).bind (fun x6 => some x6)) else (if a2 = (2 : Int32) then ((s_X2_evenDegree cK cF p3).bind (fun x9 => some x9)) else (if a2 = (3 : Int32) then ((s_X2_partCount cK cF p3).bind (fun x12 => some x12)) else (some (-2 : Int32)))))))
set_option maxRecDepth 20000 in
theorem c_X5_about {d : Nat}  {a1 : Int32} {a2 : Int32} {res0 : Int32} (hs : s_X5_about cK cF a1 a2 = some res0) : Calls mX5_about (d + 3) false 0 0 [vR 0, vI a1, vI a2] (wC cK cF ga gi gs oK cT ra rb cR cP cM ea eb cW aO aC aQ) (fun r w' => r = some (vI res0) ∧ w' = (wC cK cF ga gi gs oK cT ra rb cR cP cM ea eb cW aO aC aQ)) := by
  unfold s_X5_about at hs
  refine Calls.of kX5_about 1 [some (vR 0), some (vI a1), some (vI a2), none] rfl (Nat.le_of_ble_eq_true rfl) ?_
  refine go_aload_n (pc := 0) 0 dX5_about_0 rfl rfl ?_
  refine go_iload_n (pc := 1) 1 dX5_about_1 rfl rfl ?_
  obtain ⟨x1, hc2, hs⟩ := bnd hs
  refine go_callV (bc := 0) (bs := 0) (mc := 0) (ms := 0) (d := d + 2) (pc := 2) (a := 0) (ci := 5) [vI a1] [] dX5_about_2 kX5_netAt mlX5_48 ivX5_netAt rfl rfl rfl rfl (Nat.le_of_ble_eq_true rfl) rfl (c_X5_netAt (d := d + 2) (res0 := x1) hc2) (fun r w' hq => ?_)
  obtain ⟨rfl, rfl⟩ := hq
  show Go mX5_about (d + 3) false 0 0 5 [some (vR 0), some (vI a1), some (vI a2), none] [vQ (x1.map (fun i => pN i.1))] (wC cK cF ga gi gs oK cT ra rb cR cP cM ea eb cW aO aC aQ) _
  refine go_astore_n (pc := 5) 3 [some (vR 0), some (vI a1), some (vI a2), some (vQ (x1.map (fun i => pN i.1)))] dX5_about_5 rfl (by decide) rfl ?_
  refine go_aload_n (pc := 6) 3 dX5_about_6 rfl rfl ?_
  rcases x1 with _ | p3
  · refine go_ifnonnull (pc := 7) 13 dX5_about_7 (by decide) (fun a h => by cases h) (fun _ => ?_)
    simp only [Option.elim_none] at hs
    refine go_bipush (pc := 10) (-2 : Int32) dX5_about_10 (by decide) ?_
    cases hs
    exact go_ireturn (st := []) (pc := 12) dX5_about_12 rfl (vp_nar_int _) (fun h => by cases h) ⟨rfl, rfl⟩
  · refine go_ifnonnull (pc := 7) 13 dX5_about_7 (by decide) (fun a _ => ?_) (fun h => by cases h)
    simp only [Option.elim_some] at hs
    show Go mX5_about (d + 3) false 0 0 13 [some (vR 0), some (vI a1), some (vI a2), some (vR (pN p3.1))] [] (wC cK cF ga gi gs oK cT ra rb cR cP cM ea eb cW aO aC aQ) _
    refine go_iload_n (pc := 13) 2 dX5_about_13 rfl rfl ?_
    by_cases h4 : a2 = (0 : Int32)
    · have hs := it_t h4 hs
      refine go_tableIn (pc := 14) 44 dX5_about_14 (by rw [h4]; decide) (by rw [h4]; decide) (by rw [h4]; rfl) (by decide) ?_
      refine go_aload_n (pc := 44) 3 dX5_about_44 rfl rfl ?_
      refine go_getfield (pc := 45) (v := vI (cK p3.1)) (pN p3.1) 2 0 dX5_about_45 flX5_78 (wC_net p3) rfl ?_
      cases hs
      exact go_ireturn (st := []) (pc := 48) dX5_about_48 rfl (vp_nar_int _) (fun h => by cases h) ⟨rfl, rfl⟩
    · have hs := it_f h4 hs
      by_cases h5 : a2 = (1 : Int32)
      · have hs := it_t h5 hs
        refine go_tableIn (pc := 14) 49 dX5_about_14 (by rw [h5]; decide) (by rw [h5]; decide) (by rw [h5]; rfl) (by decide) ?_
        refine go_aload_n (pc := 49) 3 dX5_about_49 rfl rfl ?_
        obtain ⟨x6, hc7, hs⟩ := bnd hs
        refine go_callV (bc := 0) (bs := 0) (mc := 0) (ms := 0) (d := d + 2) (pc := 50) (a := (pN p3.1)) (ci := 2) [] [] dX5_about_50 kX2_lineCount mlX5_74 ivX2_lineCount rfl rfl (wC_net p3) rfl (Nat.le_of_ble_eq_true rfl) rfl (c_X2_lineCount (d := d + 0) (res0 := x6) hc7) (fun r w' hq => ?_)
        obtain ⟨rfl, rfl⟩ := hq
        show Go mX5_about (d + 3) false 0 0 53 [some (vR 0), some (vI a1), some (vI a2), some (vR (pN p3.1))] [vI x6] (wC cK cF ga gi gs oK cT ra rb cR cP cM ea eb cW aO aC aQ) _
        cases hs
        exact go_ireturn (st := []) (pc := 53) dX5_about_53 rfl (vp_nar_int _) (fun h => by cases h) ⟨rfl, rfl⟩
      · have hs := it_f h5 hs
        by_cases h8 : a2 = (2 : Int32)
        · have hs := it_t h8 hs
          refine go_tableIn (pc := 14) 54 dX5_about_14 (by rw [h8]; decide) (by rw [h8]; decide) (by rw [h8]; rfl) (by decide) ?_
          refine go_aload_n (pc := 54) 3 dX5_about_54 rfl rfl ?_
          obtain ⟨x9, hc10, hs⟩ := bnd hs
          refine go_callV (bc := 0) (bs := 0) (mc := 0) (ms := 0) (d := d + 2) (pc := 55) (a := (pN p3.1)) (ci := 2) [] [] dX5_about_55 kX2_evenDegree mlX5_93 ivX2_evenDegree rfl rfl (wC_net p3) rfl (Nat.le_of_ble_eq_true rfl) rfl (c_X2_evenDegree (d := d + 0) (res0 := x9) hc10) (fun r w' hq => ?_)
          obtain ⟨rfl, rfl⟩ := hq
          show Go mX5_about (d + 3) false 0 0 58 [some (vR 0), some (vI a1), some (vI a2), some (vR (pN p3.1))] [vI x9] (wC cK cF ga gi gs oK cT ra rb cR cP cM ea eb cW aO aC aQ) _
          cases hs
          exact go_ireturn (st := []) (pc := 58) dX5_about_58 rfl (vp_nar_int _) (fun h => by cases h) ⟨rfl, rfl⟩
        · have hs := it_f h8 hs
          by_cases h11 : a2 = (3 : Int32)
          · have hs := it_t h11 hs
            refine go_tableIn (pc := 14) 59 dX5_about_14 (by rw [h11]; decide) (by rw [h11]; decide) (by rw [h11]; rfl) (by decide) ?_
            refine go_aload_n (pc := 59) 3 dX5_about_59 rfl rfl ?_
            obtain ⟨x12, hc13, hs⟩ := bnd hs
            refine go_callV (bc := 0) (bs := 0) (mc := 0) (ms := 0) (d := d + 2) (pc := 60) (a := (pN p3.1)) (ci := 2) [] [] dX5_about_60 kX2_partCount mlX5_96 ivX2_partCount rfl rfl (wC_net p3) rfl (Nat.le_of_ble_eq_true rfl) rfl (c_X2_partCount (d := d + 0) (res0 := x12) hc13) (fun r w' hq => ?_)
            obtain ⟨rfl, rfl⟩ := hq
            show Go mX5_about (d + 3) false 0 0 63 [some (vR 0), some (vI a1), some (vI a2), some (vR (pN p3.1))] [vI x12] (wC cK cF ga gi gs oK cT ra rb cR cP cM ea eb cW aO aC aQ) _
            cases hs
            exact go_ireturn (st := []) (pc := 63) dX5_about_63 rfl (vp_nar_int _) (fun h => by cases h) ⟨rfl, rfl⟩
          · have hs := it_f h11 hs
            refine go_tableOut (pc := 14) 64 dX5_about_14 (sw4 h4 h5 h8 h11) (by decide) ?_
            refine go_bipush (pc := 64) (-2 : Int32) dX5_about_64 (by decide) ?_
            cases hs
            exact go_ireturn (st := []) (pc := 66) dX5_about_66 rfl (vp_nar_int _) (fun h => by cases h) ⟨rfl, rfl⟩
noncomputable def s_X5_near (cK : (Nat → Int32)) (cF : (Nat → Nat → Int32)) (a1 : Int32) (a2 : Int32) : Option (Int32) := (s_X5_netAt a1).bind (fun x1 => Option.elim x1 (some (-2 : Int32)) (fun p3 => (s_X2_hasKnot cK p3 a2).bind (fun x4 => if x4 = 0 then (some (-2 : Int32)) else (chk a2 10 (some (cF p3.1 a2.toNatClampNeg))))))
set_option maxRecDepth 20000 in
theorem c_X5_near {d : Nat}  {a1 : Int32} {a2 : Int32} {res0 : Int32} (hs : s_X5_near cK cF a1 a2 = some res0) : Calls mX5_near (d + 1) false 0 0 [vR 0, vI a1, vI a2] (wC cK cF ga gi gs oK cT ra rb cR cP cM ea eb cW aO aC aQ) (fun r w' => r = some (vI res0) ∧ w' = (wC cK cF ga gi gs oK cT ra rb cR cP cM ea eb cW aO aC aQ)) := by
  unfold s_X5_near at hs
  refine Calls.of kX5_near 1 [some (vR 0), some (vI a1), some (vI a2), none] rfl (Nat.le_of_ble_eq_true rfl) ?_
  refine go_aload_n (pc := 0) 0 dX5_near_0 rfl rfl ?_
  refine go_iload_n (pc := 1) 1 dX5_near_1 rfl rfl ?_
  obtain ⟨x1, hc2, hs⟩ := bnd hs
  refine go_callV (bc := 0) (bs := 0) (mc := 0) (ms := 0) (d := d + 0) (pc := 2) (a := 0) (ci := 5) [vI a1] [] dX5_near_2 kX5_netAt mlX5_48 ivX5_netAt rfl rfl rfl rfl (Nat.le_of_ble_eq_true rfl) rfl (c_X5_netAt (d := d + 0) (res0 := x1) hc2) (fun r w' hq => ?_)
  obtain ⟨rfl, rfl⟩ := hq
  show Go mX5_near (d + 1) false 0 0 5 [some (vR 0), some (vI a1), some (vI a2), none] [vQ (x1.map (fun i => pN i.1))] (wC cK cF ga gi gs oK cT ra rb cR cP cM ea eb cW aO aC aQ) _
  refine go_astore_n (pc := 5) 3 [some (vR 0), some (vI a1), some (vI a2), some (vQ (x1.map (fun i => pN i.1)))] dX5_near_5 rfl (by decide) rfl ?_
  refine go_aload_n (pc := 6) 3 dX5_near_6 rfl rfl ?_
  rcases x1 with _ | p3
  · refine go_ifnull (pc := 7) 18 dX5_near_7 (by decide) (fun _ => ?_) (fun a h => by cases h)
    simp only [Option.elim_none] at hs
    refine go_bipush (pc := 18) (-2 : Int32) dX5_near_18 (by decide) ?_
    cases hs
    exact go_ireturn (st := []) (pc := 20) dX5_near_20 rfl (vp_nar_int _) (fun h => by cases h) ⟨rfl, rfl⟩
  · refine go_ifnull (pc := 7) 18 dX5_near_7 (by decide) (fun h => by cases h) (fun a _ => ?_)
    simp only [Option.elim_some] at hs
    show Go mX5_near (d + 1) false 0 0 10 [some (vR 0), some (vI a1), some (vI a2), some (vR (pN p3.1))] [] (wC cK cF ga gi gs oK cT ra rb cR cP cM ea eb cW aO aC aQ) _
    refine go_aload_n (pc := 10) 3 dX5_near_10 rfl rfl ?_
    refine go_iload_n (pc := 11) 2 dX5_near_11 rfl rfl ?_
    obtain ⟨x4, hc5, hs⟩ := bnd hs
    refine go_callV (bc := 0) (bs := 0) (mc := 0) (ms := 0) (d := d + 0) (pc := 12) (a := (pN p3.1)) (ci := 2) [vI a2] [] dX5_near_12 kX2_hasKnot mlX5_99 ivX2_hasKnot rfl rfl (wC_net p3) rfl (Nat.le_of_ble_eq_true rfl) rfl (c_X2_hasKnot (d := d + 0) (res0 := x4) hc5) (fun r w' hq => ?_)
    obtain ⟨rfl, rfl⟩ := hq
    show Go mX5_near (d + 1) false 0 0 15 [some (vR 0), some (vI a1), some (vI a2), some (vR (pN p3.1))] [vI x4] (wC cK cF ga gi gs oK cT ra rb cR cP cM ea eb cW aO aC aQ) _
    refine go_if_ne (pc := 15) 21 dX5_near_15 (by decide) (fun h6 => ?_) (fun h6 => ?_)
    · have hs := it_f h6 hs
      refine go_aload_n (pc := 21) 3 dX5_near_21 rfl rfl ?_
      refine go_getfield (pc := 22) (v := vR (pN p3.1 + 1)) (pN p3.1) 2 1 dX5_near_22 flX5_102 (wC_net p3) rfl ?_
      refine go_iload_n (pc := 25) 2 dX5_near_25 rfl rfl ?_
      obtain ⟨hi7, hs⟩ := chk_t hs
      refine go_iaload (pc := 26) (pN p3.1 + 1) dX5_near_26 (wC_bes p3) hi7 ?_
      cases hs
      exact go_ireturn (st := []) (pc := 27) dX5_near_27 rfl (vp_nar_int _) (fun h => by cases h) ⟨rfl, rfl⟩
    · have hs := it_t h6 hs
      refine go_bipush (pc := 18) (-2 : Int32) dX5_near_18 (by decide) ?_
      cases hs
      exact go_ireturn (st := []) (pc := 20) dX5_near_20 rfl (vp_nar_int _) (fun h => by cases h) ⟨rfl, rfl⟩
noncomputable def s_X5_number (cK : (Nat → Int32)) (cF : (Nat → Nat → Int32)) (a1 : Int32) (a2 : Int32) (a3 : Int32) : Option (Int32) := (s_X5_netAt a1).bind (fun x1 => Option.elim x1 (some (-2 : Int32)) (fun p3 => (s_X2_hasUnlikeKnots cK p3 a2 a3).bind (fun x4 => if x4 = 0 then (some (-2 : Int32)) else ((s_X2_joins cF p3 a2 a3).bind (fun x7 => if x7 = 0 then (some (-1 : Int32)) else ((s_X2_lineNumber cF p3 (if a3 < a2 then a3 else a2) (if a2 < a3 then a3 else a2)).bind (fun x10 => some x10)))))))
set_option maxRecDepth 20000 in
theorem c_X5_number {d : Nat}  {a1 : Int32} {a2 : Int32} {a3 : Int32} {res0 : Int32} (hs : s_X5_number cK cF a1 a2 a3 = some res0) : Calls mX5_number (d + 3) false 0 0 [vR 0, vI a1, vI a2, vI a3] (wC cK cF ga gi gs oK cT ra rb cR cP cM ea eb cW aO aC aQ) (fun r w' => r = some (vI res0) ∧ w' = (wC cK cF ga gi gs oK cT ra rb cR cP cM ea eb cW aO aC aQ)) := by
  unfold s_X5_number at hs
  refine Calls.of kX5_number 1 [some (vR 0), some (vI a1), some (vI a2), some (vI a3), none] rfl (Nat.le_of_ble_eq_true rfl) ?_
  refine go_aload_n (pc := 0) 0 dX5_number_0 rfl rfl ?_
  refine go_iload_n (pc := 1) 1 dX5_number_1 rfl rfl ?_
  obtain ⟨x1, hc2, hs⟩ := bnd hs
  refine go_callV (bc := 0) (bs := 0) (mc := 0) (ms := 0) (d := d + 2) (pc := 2) (a := 0) (ci := 5) [vI a1] [] dX5_number_2 kX5_netAt mlX5_48 ivX5_netAt rfl rfl rfl rfl (Nat.le_of_ble_eq_true rfl) rfl (c_X5_netAt (d := d + 2) (res0 := x1) hc2) (fun r w' hq => ?_)
  obtain ⟨rfl, rfl⟩ := hq
  show Go mX5_number (d + 3) false 0 0 5 [some (vR 0), some (vI a1), some (vI a2), some (vI a3), none] [vQ (x1.map (fun i => pN i.1))] (wC cK cF ga gi gs oK cT ra rb cR cP cM ea eb cW aO aC aQ) _
  refine go_astore (pc := 5) [some (vR 0), some (vI a1), some (vI a2), some (vI a3), some (vQ (x1.map (fun i => pN i.1)))] dX5_number_5 (by decide) rfl ?_
  refine go_aload (pc := 7) dX5_number_7 rfl ?_
  rcases x1 with _ | p3
  · refine go_ifnull (pc := 9) 22 dX5_number_9 (by decide) (fun _ => ?_) (fun a h => by cases h)
    simp only [Option.elim_none] at hs
    refine go_bipush (pc := 22) (-2 : Int32) dX5_number_22 (by decide) ?_
    cases hs
    exact go_ireturn (st := []) (pc := 24) dX5_number_24 rfl (vp_nar_int _) (fun h => by cases h) ⟨rfl, rfl⟩
  · refine go_ifnull (pc := 9) 22 dX5_number_9 (by decide) (fun h => by cases h) (fun a _ => ?_)
    simp only [Option.elim_some] at hs
    show Go mX5_number (d + 3) false 0 0 12 [some (vR 0), some (vI a1), some (vI a2), some (vI a3), some (vR (pN p3.1))] [] (wC cK cF ga gi gs oK cT ra rb cR cP cM ea eb cW aO aC aQ) _
    refine go_aload (pc := 12) dX5_number_12 rfl ?_
    refine go_iload_n (pc := 14) 2 dX5_number_14 rfl rfl ?_
    refine go_iload_n (pc := 15) 3 dX5_number_15 rfl rfl ?_
    obtain ⟨x4, hc5, hs⟩ := bnd hs
    refine go_callV (bc := 0) (bs := 0) (mc := 0) (ms := 0) (d := d + 2) (pc := 16) (a := (pN p3.1)) (ci := 2) [vI a2, vI a3] [] dX5_number_16 kX2_hasUnlikeKnots mlX5_60 ivX2_hasUnlikeKnots rfl rfl (wC_net p3) rfl (Nat.le_of_ble_eq_true rfl) rfl (c_X2_hasUnlikeKnots (d := d + 0) (res0 := x4) hc5) (fun r w' hq => ?_)
    obtain ⟨rfl, rfl⟩ := hq
    show Go mX5_number (d + 3) false 0 0 19 [some (vR 0), some (vI a1), some (vI a2), some (vI a3), some (vR (pN p3.1))] [vI x4] (wC cK cF ga gi gs oK cT ra rb cR cP cM ea eb cW aO aC aQ) _
    refine go_if_ne (pc := 19) 25 dX5_number_19 (by decide) (fun h6 => ?_) (fun h6 => ?_)
    · have hs := it_f h6 hs
      refine go_aload (pc := 25) dX5_number_25 rfl ?_
      refine go_iload_n (pc := 27) 2 dX5_number_27 rfl rfl ?_
      refine go_iload_n (pc := 28) 3 dX5_number_28 rfl rfl ?_
      obtain ⟨x7, hc8, hs⟩ := bnd hs
      refine go_callV (bc := 0) (bs := 0) (mc := 0) (ms := 0) (d := d + 2) (pc := 29) (a := (pN p3.1)) (ci := 2) [vI a2, vI a3] [] dX5_number_29 kX2_joins mlX5_64 ivX2_joins rfl rfl (wC_net p3) rfl (Nat.le_of_ble_eq_true rfl) rfl (c_X2_joins (d := d + 2) (res0 := x7) hc8) (fun r w' hq => ?_)
      obtain ⟨rfl, rfl⟩ := hq
      show Go mX5_number (d + 3) false 0 0 32 [some (vR 0), some (vI a1), some (vI a2), some (vI a3), some (vR (pN p3.1))] [vI x7] (wC cK cF ga gi gs oK cT ra rb cR cP cM ea eb cW aO aC aQ) _
      refine go_if_eq (pc := 32) 53 dX5_number_32 (by decide) (fun h9 => ?_) (fun h9 => ?_)
      · have hs := it_t h9 hs
        refine go_iconst (pc := 53) (-1 : Int32) dX5_number_53 (by decide) ?_
        cases hs
        exact go_ireturn (st := []) (pc := 54) dX5_number_54 rfl (vp_nar_int _) (fun h => by cases h) ⟨rfl, rfl⟩
      · have hs := it_f h9 hs
        refine go_aload (pc := 35) dX5_number_35 rfl ?_
        refine go_iload_n (pc := 37) 2 dX5_number_37 rfl rfl ?_
        refine go_iload_n (pc := 38) 3 dX5_number_38 rfl rfl ?_
        refine go_mmin (d := d + 2) (pc := 39) dX5_number_39 mlX5_106 (Nat.le_of_ble_eq_true rfl) ?_
        refine go_iload_n (pc := 42) 2 dX5_number_42 rfl rfl ?_
        refine go_iload_n (pc := 43) 3 dX5_number_43 rfl rfl ?_
        refine go_mmax (d := d + 2) (pc := 44) dX5_number_44 mlX5_112 (Nat.le_of_ble_eq_true rfl) ?_
        obtain ⟨x10, hc11, hs⟩ := bnd hs
        refine go_callV (bc := 0) (bs := 0) (mc := 0) (ms := 0) (d := d + 2) (pc := 47) (a := (pN p3.1)) (ci := 2) [vI (if a3 < a2 then a3 else a2), vI (if a2 < a3 then a3 else a2)] [] dX5_number_47 kX2_lineNumber mlX5_115 ivX2_lineNumber rfl rfl (wC_net p3) rfl (Nat.le_of_ble_eq_true rfl) rfl (c_X2_lineNumber (d := d + 1) (res0 := x10) hc11) (fun r w' hq => ?_)
        obtain ⟨rfl, rfl⟩ := hq
        show Go mX5_number (d + 3) false 0 0 50 [some (vR 0), some (vI a1), some (vI a2), some (vI a3), some (vR (pN p3.1))] [vI x10] (wC cK cF ga gi gs oK cT ra rb cR cP cM ea eb cW aO aC aQ) _
        refine go_goto (pc := 50) 54 dX5_number_50 (by decide) ?_
        cases hs
        exact go_ireturn (st := []) (pc := 54) dX5_number_54 rfl (vp_nar_int _) (fun h => by cases h) ⟨rfl, rfl⟩
    · have hs := it_t h6 hs
      refine go_bipush (pc := 22) (-2 : Int32) dX5_number_22 (by decide) ?_
      cases hs
      exact go_ireturn (st := []) (pc := 24) dX5_number_24 rfl (vp_nar_int _) (fun h => by cases h) ⟨rfl, rfl⟩
noncomputable def s_X5_growth (cK : (Nat → Int32)) (cF : (Nat → Nat → Int32)) (ga : Int32) (gi : Int32) (gs : Int32) (a1 : Int32) (a2 : Int32) (a3 : Int32) : Option (Int32 × Int32 × Int32 × Int32) := (s_X5_netAt a1).bind (fun x1 => Option.elim x1 (some ((-2 : Int32), ga, gi, gs)) (fun p3 => if a3 < 0 then (some ((-2 : Int32), ga, gi, gs)) else (if a3 ≤ (2 : Int32) then (if (cK p3.1) = (1 : Int32) then (some ((-1 : Int32), ga, gi, gs)) else ((s_X1_seek cK cF ga gi gs p3 a2).bind (fun x7 => if a3 = (0 : Int32) then (some (x7.1, x7.1, x7.2.1, x7.2.2)) else (if a3 = (1 : Int32) then (some (x7.2.1, x7.1, x7.2.1, x7.2.2)) else (some (x7.2.2, x7.1, x7.2.1, x7.2.2)))))) else (some ((-2 : Int32), ga, gi, gs)))))
set_option maxRecDepth 20000 in
theorem c_X5_growth {d : Nat}  {a1 : Int32} {a2 : Int32} {a3 : Int32} {res0 : Int32} {res1 : Int32} {res2 : Int32} {res3 : Int32} (hs : s_X5_growth cK cF ga gi gs a1 a2 a3 = some (res0, res1, res2, res3)) : Calls mX5_growth (d + 3) false 0 0 [vR 0, vI a1, vI a2, vI a3] (wC cK cF ga gi gs oK cT ra rb cR cP cM ea eb cW aO aC aQ) (fun r w' => r = some (vI res0) ∧ w' = (wC cK cF res1 res2 res3 oK cT ra rb cR cP cM ea eb cW aO aC aQ)) := by
  unfold s_X5_growth at hs
  refine Calls.of kX5_growth 1 [some (vR 0), some (vI a1), some (vI a2), some (vI a3), none] rfl (Nat.le_of_ble_eq_true rfl) ?_
  refine go_aload_n (pc := 0) 0 dX5_growth_0 rfl rfl ?_
  refine go_iload_n (pc := 1) 1 dX5_growth_1 rfl rfl ?_
  obtain ⟨x1, hc2, hs⟩ := bnd hs
  refine go_callV (bc := 0) (bs := 0) (mc := 0) (ms := 0) (d := d + 2) (pc := 2) (a := 0) (ci := 5) [vI a1] [] dX5_growth_2 kX5_netAt mlX5_48 ivX5_netAt rfl rfl rfl rfl (Nat.le_of_ble_eq_true rfl) rfl (c_X5_netAt (d := d + 2) (res0 := x1) hc2) (fun r w' hq => ?_)
  obtain ⟨rfl, rfl⟩ := hq
  show Go mX5_growth (d + 3) false 0 0 5 [some (vR 0), some (vI a1), some (vI a2), some (vI a3), none] [vQ (x1.map (fun i => pN i.1))] (wC cK cF ga gi gs oK cT ra rb cR cP cM ea eb cW aO aC aQ) _
  refine go_astore (pc := 5) [some (vR 0), some (vI a1), some (vI a2), some (vI a3), some (vQ (x1.map (fun i => pN i.1)))] dX5_growth_5 (by decide) rfl ?_
  refine go_aload (pc := 7) dX5_growth_7 rfl ?_
  rcases x1 with _ | p3
  · refine go_ifnull (pc := 9) 21 dX5_growth_9 (by decide) (fun _ => ?_) (fun a h => by cases h)
    simp only [Option.elim_none] at hs
    refine go_bipush (pc := 21) (-2 : Int32) dX5_growth_21 (by decide) ?_
    cases hs
    exact go_ireturn (st := []) (pc := 23) dX5_growth_23 rfl (vp_nar_int _) (fun h => by cases h) ⟨rfl, rfl⟩
  · refine go_ifnull (pc := 9) 21 dX5_growth_9 (by decide) (fun h => by cases h) (fun a _ => ?_)
    simp only [Option.elim_some] at hs
    show Go mX5_growth (d + 3) false 0 0 12 [some (vR 0), some (vI a1), some (vI a2), some (vI a3), some (vR (pN p3.1))] [] (wC cK cF ga gi gs oK cT ra rb cR cP cM ea eb cW aO aC aQ) _
    refine go_iload_n (pc := 12) 3 dX5_growth_12 rfl rfl ?_
    refine go_if_lt (pc := 13) 21 dX5_growth_13 (by decide) (fun h4 => ?_) (fun h4 => ?_)
    · have hs := it_t h4 hs
      refine go_bipush (pc := 21) (-2 : Int32) dX5_growth_21 (by decide) ?_
      cases hs
      exact go_ireturn (st := []) (pc := 23) dX5_growth_23 rfl (vp_nar_int _) (fun h => by cases h) ⟨rfl, rfl⟩
    · have hs := it_f h4 hs
      refine go_iload_n (pc := 16) 3 dX5_growth_16 rfl rfl ?_
      refine go_iconst (pc := 17) (2 : Int32) dX5_growth_17 (by decide) ?_
      refine go_icmp_le (pc := 18) 24 dX5_growth_18 (by decide) (fun h5 => ?_) (fun h5 => ?_)
      · have hs := it_t h5 hs
        refine go_aload (pc := 24) dX5_growth_24 rfl ?_
        refine go_getfield (pc := 26) (v := vI (cK p3.1)) (pN p3.1) 2 0 dX5_growth_26 flX5_78 (wC_net p3) rfl ?_
        refine go_iconst (pc := 29) (1 : Int32) dX5_growth_29 (by decide) ?_
        refine go_icmp_ne (pc := 30) 35 dX5_growth_30 (by decide) (fun h6 => ?_) (fun h6 => ?_)
        · have hs := it_f h6 hs
          refine go_aload_n (pc := 35) 0 dX5_growth_35 rfl rfl ?_
          refine go_getfield (pc := 36) (v := vR 4) 0 5 2 dX5_growth_36 flX5_23 rfl rfl ?_
          refine go_aload (pc := 39) dX5_growth_39 rfl ?_
          refine go_iload_n (pc := 41) 2 dX5_growth_41 rfl rfl ?_
          obtain ⟨x7, hc8, hs⟩ := bnd hs
          refine go_callV (bc := 0) (bs := 0) (mc := 0) (ms := 0) (d := d + 2) (pc := 42) (a := 4) (ci := 1) [vR (pN p3.1), vI a2] [] dX5_growth_42 kX1_seek mlX5_118 ivX1_seek rfl rfl rfl rfl (Nat.le_of_ble_eq_true rfl) rfl (c_X1_seek (d := d + 0) (res0 := x7.1) (res1 := x7.2.1) (res2 := x7.2.2) hc8) (fun r w' hq => ?_)
          obtain ⟨rfl, rfl⟩ := hq
          show Go mX5_growth (d + 3) false 0 0 45 [some (vR 0), some (vI a1), some (vI a2), some (vI a3), some (vR (pN p3.1))] [] (wC cK cF x7.1 x7.2.1 x7.2.2 oK cT ra rb cR cP cM ea eb cW aO aC aQ) _
          refine go_iload_n (pc := 45) 3 dX5_growth_45 rfl rfl ?_
          by_cases h9 : a3 = (0 : Int32)
          · have hs := it_t h9 hs
            refine go_lookup (pc := 46) 72 dX5_growth_46 (by decide) (by rw [h9] <;> rfl) (by decide) ?_
            refine go_aload_n (pc := 72) 0 dX5_growth_72 rfl rfl ?_
            refine go_getfield (pc := 73) (v := vR 4) 0 5 2 dX5_growth_73 flX5_23 rfl rfl ?_
            refine go_getfield (pc := 76) (v := vI x7.1) 4 1 0 dX5_growth_76 flX5_122 rfl rfl ?_
            cases hs
            exact go_ireturn (st := []) (pc := 79) dX5_growth_79 rfl (vp_nar_int _) (fun h => by cases h) ⟨rfl, rfl⟩
          · have hs := it_f h9 hs
            by_cases h10 : a3 = (1 : Int32)
            · have hs := it_t h10 hs
              refine go_lookup (pc := 46) 80 dX5_growth_46 (by decide) (by rw [h10] <;> rfl) (by decide) ?_
              refine go_aload_n (pc := 80) 0 dX5_growth_80 rfl rfl ?_
              refine go_getfield (pc := 81) (v := vR 4) 0 5 2 dX5_growth_81 flX5_23 rfl rfl ?_
              refine go_getfield (pc := 84) (v := vI x7.2.1) 4 1 1 dX5_growth_84 flX5_125 rfl rfl ?_
              cases hs
              exact go_ireturn (st := []) (pc := 87) dX5_growth_87 rfl (vp_nar_int _) (fun h => by cases h) ⟨rfl, rfl⟩
            · have hs := it_f h10 hs
              refine go_lookup (pc := 46) 88 dX5_growth_46 (by decide) (lk2 h9 h10) (by decide) ?_
              refine go_aload_n (pc := 88) 0 dX5_growth_88 rfl rfl ?_
              refine go_getfield (pc := 89) (v := vR 4) 0 5 2 dX5_growth_89 flX5_23 rfl rfl ?_
              refine go_getfield (pc := 92) (v := vI x7.2.2) 4 1 2 dX5_growth_92 flX5_128 rfl rfl ?_
              cases hs
              exact go_ireturn (st := []) (pc := 95) dX5_growth_95 rfl (vp_nar_int _) (fun h => by cases h) ⟨rfl, rfl⟩
        · have hs := it_t h6 hs
          refine go_iconst (pc := 33) (-1 : Int32) dX5_growth_33 (by decide) ?_
          cases hs
          exact go_ireturn (st := []) (pc := 34) dX5_growth_34 rfl (vp_nar_int _) (fun h => by cases h) ⟨rfl, rfl⟩
      · have hs := it_f h5 hs
        refine go_bipush (pc := 21) (-2 : Int32) dX5_growth_21 (by decide) ?_
        cases hs
        exact go_ireturn (st := []) (pc := 23) dX5_growth_23 rfl (vp_nar_int _) (fun h => by cases h) ⟨rfl, rfl⟩
noncomputable def s_X5_isHalves (a0 : Int32) : Option (Int32) := if a0 < (-40 : Int32) then (some (0 : Int32)) else (if (40 : Int32) < a0 then (some (0 : Int32)) else (some (1 : Int32)))
set_option maxRecDepth 20000 in
theorem c_X5_isHalves {d : Nat} {w : List AC} {a0 : Int32} {res0 : Int32} (hs : s_X5_isHalves a0 = some res0) : Calls mX5_isHalves (d + 0) false 0 0 [vI a0] w (fun r w' => r = some (vI res0) ∧ w' = w) := by
  unfold s_X5_isHalves at hs
  refine Calls.of kX5_isHalves 0 [some (vI a0)] rfl (Nat.le_of_ble_eq_true rfl) ?_
  refine go_iload_n (pc := 0) 0 dX5_isHalves_0 rfl rfl ?_
  refine go_bipush (pc := 1) (-40 : Int32) dX5_isHalves_1 (by decide) ?_
  refine go_icmp_lt (pc := 3) 16 dX5_isHalves_3 (by decide) (fun h1 => ?_) (fun h1 => ?_)
  · have hs := it_t h1 hs
    refine go_iconst (pc := 16) (0 : Int32) dX5_isHalves_16 (by decide) ?_
    cases hs
    exact go_ireturn (st := []) (pc := 17) dX5_isHalves_17 rfl rfl (fun h => by cases h) ⟨rfl, rfl⟩
  · have hs := it_f h1 hs
    refine go_iload_n (pc := 6) 0 dX5_isHalves_6 rfl rfl ?_
    refine go_bipush (pc := 7) (40 : Int32) dX5_isHalves_7 (by decide) ?_
    refine go_icmp_gt (pc := 9) 16 dX5_isHalves_9 (by decide) (fun h2 => ?_) (fun h2 => ?_)
    · have hs := it_t h2 hs
      refine go_iconst (pc := 16) (0 : Int32) dX5_isHalves_16 (by decide) ?_
      cases hs
      exact go_ireturn (st := []) (pc := 17) dX5_isHalves_17 rfl rfl (fun h => by cases h) ⟨rfl, rfl⟩
    · have hs := it_f h2 hs
      refine go_iconst (pc := 12) (1 : Int32) dX5_isHalves_12 (by decide) ?_
      refine go_goto (pc := 13) 17 dX5_isHalves_13 (by decide) ?_
      cases hs
      exact go_ireturn (st := []) (pc := 17) dX5_isHalves_17 rfl rfl (fun h => by cases h) ⟨rfl, rfl⟩
noncomputable def s_X5_more (cK : (Nat → Int32)) (cF : (Nat → Nat → Int32)) (oK : Int32) (cT : (Nat → Nat → Int32)) (ra : (Fin 2)) (rb : (Fin 2)) (cR : (Nat → Nat → Nat → Int64)) (cP : (Nat → Int64)) (cM : (Nat → Int64)) (a1 : Int32) (a2 : Int32) (a3 : Int32) : Option (Int32 × Int32 × (Nat → Nat → Int32) × (Fin 2) × (Fin 2) × (Nat → Nat → Nat → Int64) × (Nat → Int64) × (Nat → Int64)) := (s_X5_netAt a1).bind (fun x1 => Option.elim x1 (some ((-2 : Int32), oK, cT, ra, rb, cR, cP, cM)) (fun p3 => if a2 < 0 then (some ((-2 : Int32), oK, cT, ra, rb, cR, cP, cM)) else ((s_X5_isHalves a3).bind (fun x5 => if x5 = 0 then (some ((-2 : Int32), oK, cT, ra, rb, cR, cP, cM)) else ((s_X3_read cK cF oK cT ra rb cR cP p3 a2).bind (fun x8 => (s_X3_countAbove x8.1 x8.2.2.2.2.2 cM a3).bind (fun x10 => some (x10.1, x8.1, x8.2.1, x8.2.2.1, x8.2.2.2.1, x8.2.2.2.2.1, x8.2.2.2.2.2, x10.2))))))))
set_option maxRecDepth 20000 in
theorem c_X5_more {d : Nat}  {a1 : Int32} {a2 : Int32} {a3 : Int32} {res0 : Int32} {res1 : Int32} {res2 : (Nat → Nat → Int32)} {res3 : (Fin 2)} {res4 : (Fin 2)} {res5 : (Nat → Nat → Nat → Int64)} {res6 : (Nat → Int64)} {res7 : (Nat → Int64)} (hs : s_X5_more cK cF oK cT ra rb cR cP cM a1 a2 a3 = some (res0, res1, res2, res3, res4, res5, res6, res7)) : Calls mX5_more (d + 4) false 0 0 [vR 0, vI a1, vI a2, vI a3] (wC cK cF ga gi gs oK cT ra rb cR cP cM ea eb cW aO aC aQ) (fun r w' => r = some (vI res0) ∧ w' = (wC cK cF ga gi gs res1 res2 res3 res4 res5 res6 res7 ea eb cW aO aC aQ)) := by
  unfold s_X5_more at hs
  refine Calls.of kX5_more 1 [some (vR 0), some (vI a1), some (vI a2), some (vI a3), none] rfl (Nat.le_of_ble_eq_true rfl) ?_
  refine go_aload_n (pc := 0) 0 dX5_more_0 rfl rfl ?_
  refine go_iload_n (pc := 1) 1 dX5_more_1 rfl rfl ?_
  obtain ⟨x1, hc2, hs⟩ := bnd hs
  refine go_callV (bc := 0) (bs := 0) (mc := 0) (ms := 0) (d := d + 3) (pc := 2) (a := 0) (ci := 5) [vI a1] [] dX5_more_2 kX5_netAt mlX5_48 ivX5_netAt rfl rfl rfl rfl (Nat.le_of_ble_eq_true rfl) rfl (c_X5_netAt (d := d + 3) (res0 := x1) hc2) (fun r w' hq => ?_)
  obtain ⟨rfl, rfl⟩ := hq
  show Go mX5_more (d + 4) false 0 0 5 [some (vR 0), some (vI a1), some (vI a2), some (vI a3), none] [vQ (x1.map (fun i => pN i.1))] (wC cK cF ga gi gs oK cT ra rb cR cP cM ea eb cW aO aC aQ) _
  refine go_astore (pc := 5) [some (vR 0), some (vI a1), some (vI a2), some (vI a3), some (vQ (x1.map (fun i => pN i.1)))] dX5_more_5 (by decide) rfl ?_
  refine go_aload (pc := 7) dX5_more_7 rfl ?_
  rcases x1 with _ | p3
  · refine go_ifnull (pc := 9) 23 dX5_more_9 (by decide) (fun _ => ?_) (fun a h => by cases h)
    simp only [Option.elim_none] at hs
    refine go_bipush (pc := 23) (-2 : Int32) dX5_more_23 (by decide) ?_
    cases hs
    exact go_ireturn (st := []) (pc := 25) dX5_more_25 rfl (vp_nar_int _) (fun h => by cases h) ⟨rfl, rfl⟩
  · refine go_ifnull (pc := 9) 23 dX5_more_9 (by decide) (fun h => by cases h) (fun a _ => ?_)
    simp only [Option.elim_some] at hs
    show Go mX5_more (d + 4) false 0 0 12 [some (vR 0), some (vI a1), some (vI a2), some (vI a3), some (vR (pN p3.1))] [] (wC cK cF ga gi gs oK cT ra rb cR cP cM ea eb cW aO aC aQ) _
    refine go_iload_n (pc := 12) 2 dX5_more_12 rfl rfl ?_
    refine go_if_lt (pc := 13) 23 dX5_more_13 (by decide) (fun h4 => ?_) (fun h4 => ?_)
    · have hs := it_t h4 hs
      refine go_bipush (pc := 23) (-2 : Int32) dX5_more_23 (by decide) ?_
      cases hs
      exact go_ireturn (st := []) (pc := 25) dX5_more_25 rfl (vp_nar_int _) (fun h => by cases h) ⟨rfl, rfl⟩
    · have hs := it_f h4 hs
      refine go_iload_n (pc := 16) 3 dX5_more_16 rfl rfl ?_
      obtain ⟨x5, hc6, hs⟩ := bnd hs
      refine go_callS (bc := 0) (bs := 0) (mc := 0) (ms := 0) (d := d + 3) (pc := 17) [vI a3] [] dX5_more_17 kX5_isHalves mlX5_131 isX5_isHalves rfl (Nat.le_of_ble_eq_true rfl) rfl (c_X5_isHalves (d := d + 3) (res0 := x5) hc6) (fun r w' hq => ?_)
      obtain ⟨rfl, rfl⟩ := hq
      show Go mX5_more (d + 4) false 0 0 20 [some (vR 0), some (vI a1), some (vI a2), some (vI a3), some (vR (pN p3.1))] [vI x5] (wC cK cF ga gi gs oK cT ra rb cR cP cM ea eb cW aO aC aQ) _
      refine go_if_ne (pc := 20) 26 dX5_more_20 (by decide) (fun h7 => ?_) (fun h7 => ?_)
      · have hs := it_f h7 hs
        refine go_aload_n (pc := 26) 0 dX5_more_26 rfl rfl ?_
        refine go_getfield (pc := 27) (v := vR 5) 0 5 3 dX5_more_27 flX5_30 rfl rfl ?_
        refine go_aload (pc := 30) dX5_more_30 rfl ?_
        refine go_iload_n (pc := 32) 2 dX5_more_32 rfl rfl ?_
        obtain ⟨x8, hc9, hs⟩ := bnd hs
        refine go_callV (bc := 0) (bs := 0) (mc := 0) (ms := 0) (d := d + 3) (pc := 33) (a := 5) (ci := 3) [vR (pN p3.1), vI a2] [] dX5_more_33 kX3_read mlX5_134 ivX3_read rfl rfl rfl rfl (Nat.le_of_ble_eq_true rfl) rfl (c_X3_read (d := d + 0) (res0 := x8.1) (res1 := x8.2.1) (res2 := x8.2.2.1) (res3 := x8.2.2.2.1) (res4 := x8.2.2.2.2.1) (res5 := x8.2.2.2.2.2) hc9) (fun r w' hq => ?_)
        obtain ⟨rfl, rfl⟩ := hq
        show Go mX5_more (d + 4) false 0 0 36 [some (vR 0), some (vI a1), some (vI a2), some (vI a3), some (vR (pN p3.1))] [] (wC cK cF ga gi gs x8.1 x8.2.1 x8.2.2.1 x8.2.2.2.1 x8.2.2.2.2.1 x8.2.2.2.2.2 cM ea eb cW aO aC aQ) _
        refine go_aload_n (pc := 36) 0 dX5_more_36 rfl rfl ?_
        refine go_getfield (pc := 37) (v := vR 5) 0 5 3 dX5_more_37 flX5_30 rfl rfl ?_
        refine go_iload_n (pc := 40) 3 dX5_more_40 rfl rfl ?_
        obtain ⟨x10, hc11, hs⟩ := bnd hs
        refine go_callV (bc := 0) (bs := 0) (mc := 0) (ms := 0) (d := d + 3) (pc := 41) (a := 5) (ci := 3) [vI a3] [] dX5_more_41 kX3_countAbove mlX5_138 ivX3_countAbove rfl rfl rfl rfl (Nat.le_of_ble_eq_true rfl) rfl (c_X3_countAbove (d := d + 1) (res0 := x10.1) (res1 := x10.2) hc11) (fun r w' hq => ?_)
        obtain ⟨rfl, rfl⟩ := hq
        show Go mX5_more (d + 4) false 0 0 44 [some (vR 0), some (vI a1), some (vI a2), some (vI a3), some (vR (pN p3.1))] [vI x10.1] (wC cK cF ga gi gs x8.1 x8.2.1 x8.2.2.1 x8.2.2.2.1 x8.2.2.2.2.1 x8.2.2.2.2.2 x10.2 ea eb cW aO aC aQ) _
        cases hs
        exact go_ireturn (st := []) (pc := 44) dX5_more_44 rfl (vp_nar_int _) (fun h => by cases h) ⟨rfl, rfl⟩
      · have hs := it_t h7 hs
        refine go_bipush (pc := 23) (-2 : Int32) dX5_more_23 (by decide) ?_
        cases hs
        exact go_ireturn (st := []) (pc := 25) dX5_more_25 rfl (vp_nar_int _) (fun h => by cases h) ⟨rfl, rfl⟩
noncomputable def s_X5_just (cK : (Nat → Int32)) (cF : (Nat → Nat → Int32)) (oK : Int32) (cT : (Nat → Nat → Int32)) (ra : (Fin 2)) (rb : (Fin 2)) (cR : (Nat → Nat → Nat → Int64)) (cP : (Nat → Int64)) (cM : (Nat → Int64)) (a1 : Int32) (a2 : Int32) (a3 : Int32) : Option (Int32 × Int32 × (Nat → Nat → Int32) × (Fin 2) × (Fin 2) × (Nat → Nat → Nat → Int64) × (Nat → Int64) × (Nat → Int64)) := (s_X5_netAt a1).bind (fun x1 => Option.elim x1 (some ((-2 : Int32), oK, cT, ra, rb, cR, cP, cM)) (fun p3 => if a2 < 0 then (some ((-2 : Int32), oK, cT, ra, rb, cR, cP, cM)) else ((s_X5_isHalves a3).bind (fun x5 => if x5 = 0 then (some ((-2 : Int32), oK, cT, ra, rb, cR, cP, cM)) else ((s_X3_read cK cF oK cT ra rb cR cP p3 a2).bind (fun x8 => (s_X3_countAt x8.1 x8.2.2.2.2.2 cM a3).bind (fun x10 => some (x10.1, x8.1, x8.2.1, x8.2.2.1, x8.2.2.2.1, x8.2.2.2.2.1, x8.2.2.2.2.2, x10.2))))))))
set_option maxRecDepth 20000 in
theorem c_X5_just {d : Nat}  {a1 : Int32} {a2 : Int32} {a3 : Int32} {res0 : Int32} {res1 : Int32} {res2 : (Nat → Nat → Int32)} {res3 : (Fin 2)} {res4 : (Fin 2)} {res5 : (Nat → Nat → Nat → Int64)} {res6 : (Nat → Int64)} {res7 : (Nat → Int64)} (hs : s_X5_just cK cF oK cT ra rb cR cP cM a1 a2 a3 = some (res0, res1, res2, res3, res4, res5, res6, res7)) : Calls mX5_just (d + 4) false 0 0 [vR 0, vI a1, vI a2, vI a3] (wC cK cF ga gi gs oK cT ra rb cR cP cM ea eb cW aO aC aQ) (fun r w' => r = some (vI res0) ∧ w' = (wC cK cF ga gi gs res1 res2 res3 res4 res5 res6 res7 ea eb cW aO aC aQ)) := by
  unfold s_X5_just at hs
  refine Calls.of kX5_just 1 [some (vR 0), some (vI a1), some (vI a2), some (vI a3), none] rfl (Nat.le_of_ble_eq_true rfl) ?_
  refine go_aload_n (pc := 0) 0 dX5_just_0 rfl rfl ?_
  refine go_iload_n (pc := 1) 1 dX5_just_1 rfl rfl ?_
  obtain ⟨x1, hc2, hs⟩ := bnd hs
  refine go_callV (bc := 0) (bs := 0) (mc := 0) (ms := 0) (d := d + 3) (pc := 2) (a := 0) (ci := 5) [vI a1] [] dX5_just_2 kX5_netAt mlX5_48 ivX5_netAt rfl rfl rfl rfl (Nat.le_of_ble_eq_true rfl) rfl (c_X5_netAt (d := d + 3) (res0 := x1) hc2) (fun r w' hq => ?_)
  obtain ⟨rfl, rfl⟩ := hq
  show Go mX5_just (d + 4) false 0 0 5 [some (vR 0), some (vI a1), some (vI a2), some (vI a3), none] [vQ (x1.map (fun i => pN i.1))] (wC cK cF ga gi gs oK cT ra rb cR cP cM ea eb cW aO aC aQ) _
  refine go_astore (pc := 5) [some (vR 0), some (vI a1), some (vI a2), some (vI a3), some (vQ (x1.map (fun i => pN i.1)))] dX5_just_5 (by decide) rfl ?_
  refine go_aload (pc := 7) dX5_just_7 rfl ?_
  rcases x1 with _ | p3
  · refine go_ifnull (pc := 9) 23 dX5_just_9 (by decide) (fun _ => ?_) (fun a h => by cases h)
    simp only [Option.elim_none] at hs
    refine go_bipush (pc := 23) (-2 : Int32) dX5_just_23 (by decide) ?_
    cases hs
    exact go_ireturn (st := []) (pc := 25) dX5_just_25 rfl (vp_nar_int _) (fun h => by cases h) ⟨rfl, rfl⟩
  · refine go_ifnull (pc := 9) 23 dX5_just_9 (by decide) (fun h => by cases h) (fun a _ => ?_)
    simp only [Option.elim_some] at hs
    show Go mX5_just (d + 4) false 0 0 12 [some (vR 0), some (vI a1), some (vI a2), some (vI a3), some (vR (pN p3.1))] [] (wC cK cF ga gi gs oK cT ra rb cR cP cM ea eb cW aO aC aQ) _
    refine go_iload_n (pc := 12) 2 dX5_just_12 rfl rfl ?_
    refine go_if_lt (pc := 13) 23 dX5_just_13 (by decide) (fun h4 => ?_) (fun h4 => ?_)
    · have hs := it_t h4 hs
      refine go_bipush (pc := 23) (-2 : Int32) dX5_just_23 (by decide) ?_
      cases hs
      exact go_ireturn (st := []) (pc := 25) dX5_just_25 rfl (vp_nar_int _) (fun h => by cases h) ⟨rfl, rfl⟩
    · have hs := it_f h4 hs
      refine go_iload_n (pc := 16) 3 dX5_just_16 rfl rfl ?_
      obtain ⟨x5, hc6, hs⟩ := bnd hs
      refine go_callS (bc := 0) (bs := 0) (mc := 0) (ms := 0) (d := d + 3) (pc := 17) [vI a3] [] dX5_just_17 kX5_isHalves mlX5_131 isX5_isHalves rfl (Nat.le_of_ble_eq_true rfl) rfl (c_X5_isHalves (d := d + 3) (res0 := x5) hc6) (fun r w' hq => ?_)
      obtain ⟨rfl, rfl⟩ := hq
      show Go mX5_just (d + 4) false 0 0 20 [some (vR 0), some (vI a1), some (vI a2), some (vI a3), some (vR (pN p3.1))] [vI x5] (wC cK cF ga gi gs oK cT ra rb cR cP cM ea eb cW aO aC aQ) _
      refine go_if_ne (pc := 20) 26 dX5_just_20 (by decide) (fun h7 => ?_) (fun h7 => ?_)
      · have hs := it_f h7 hs
        refine go_aload_n (pc := 26) 0 dX5_just_26 rfl rfl ?_
        refine go_getfield (pc := 27) (v := vR 5) 0 5 3 dX5_just_27 flX5_30 rfl rfl ?_
        refine go_aload (pc := 30) dX5_just_30 rfl ?_
        refine go_iload_n (pc := 32) 2 dX5_just_32 rfl rfl ?_
        obtain ⟨x8, hc9, hs⟩ := bnd hs
        refine go_callV (bc := 0) (bs := 0) (mc := 0) (ms := 0) (d := d + 3) (pc := 33) (a := 5) (ci := 3) [vR (pN p3.1), vI a2] [] dX5_just_33 kX3_read mlX5_134 ivX3_read rfl rfl rfl rfl (Nat.le_of_ble_eq_true rfl) rfl (c_X3_read (d := d + 0) (res0 := x8.1) (res1 := x8.2.1) (res2 := x8.2.2.1) (res3 := x8.2.2.2.1) (res4 := x8.2.2.2.2.1) (res5 := x8.2.2.2.2.2) hc9) (fun r w' hq => ?_)
        obtain ⟨rfl, rfl⟩ := hq
        show Go mX5_just (d + 4) false 0 0 36 [some (vR 0), some (vI a1), some (vI a2), some (vI a3), some (vR (pN p3.1))] [] (wC cK cF ga gi gs x8.1 x8.2.1 x8.2.2.1 x8.2.2.2.1 x8.2.2.2.2.1 x8.2.2.2.2.2 cM ea eb cW aO aC aQ) _
        refine go_aload_n (pc := 36) 0 dX5_just_36 rfl rfl ?_
        refine go_getfield (pc := 37) (v := vR 5) 0 5 3 dX5_just_37 flX5_30 rfl rfl ?_
        refine go_iload_n (pc := 40) 3 dX5_just_40 rfl rfl ?_
        obtain ⟨x10, hc11, hs⟩ := bnd hs
        refine go_callV (bc := 0) (bs := 0) (mc := 0) (ms := 0) (d := d + 3) (pc := 41) (a := 5) (ci := 3) [vI a3] [] dX5_just_41 kX3_countAt mlX5_142 ivX3_countAt rfl rfl rfl rfl (Nat.le_of_ble_eq_true rfl) rfl (c_X3_countAt (d := d + 1) (res0 := x10.1) (res1 := x10.2) hc11) (fun r w' hq => ?_)
        obtain ⟨rfl, rfl⟩ := hq
        show Go mX5_just (d + 4) false 0 0 44 [some (vR 0), some (vI a1), some (vI a2), some (vI a3), some (vR (pN p3.1))] [vI x10.1] (wC cK cF ga gi gs x8.1 x8.2.1 x8.2.2.1 x8.2.2.2.1 x8.2.2.2.2.1 x8.2.2.2.2.2 x10.2 ea eb cW aO aC aQ) _
        cases hs
        exact go_ireturn (st := []) (pc := 44) dX5_just_44 rfl (vp_nar_int _) (fun h => by cases h) ⟨rfl, rfl⟩
      · have hs := it_t h7 hs
        refine go_bipush (pc := 23) (-2 : Int32) dX5_just_23 (by decide) ?_
        cases hs
        exact go_ireturn (st := []) (pc := 25) dX5_just_25 rfl (vp_nar_int _) (fun h => by cases h) ⟨rfl, rfl⟩
end
