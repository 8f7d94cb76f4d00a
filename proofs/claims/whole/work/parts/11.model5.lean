section
variable {kn : (Nat → Int32)} {ne : (Nat → Int32)} {fi : (Nat → Int32)} {se : (Nat → Int32)} {ma : Int32} {on : (Nat → Int32)} {ot : (Nat → Int32)} {ta : (Nat → Int64)} {po : (Nat → Int64)} {ti : (Nat → Int64)} {nu : (Nat → Int64)} {mo : (Nat → Int64)} {wa : (Nat → Int64)} {nx : (Nat → Int64)} {oT : (Nat → Int32)} {cF : (Nat → Int32)} {bg : Int32} {ed : Int32} {sF : (Nat → Int32)} {qu : (Nat → Int32)} {qd : Int32} {tr : (Nat → Int32)}
noncomputable def b_X6_oneMore_11  (x : Int32 × (Nat → Int32)) : Option ((Int32 × (Nat → Int32)) ⊕ ((Nat → Int32))) := if (20 : Int32) ≤ x.1 then (some (Sum.inr x.2)) else (chk x.1 20 (some (Sum.inl (x.1 + (1 : Int32), upd x.2 x.1.toNatClampNeg (-2 : Int32)))))
noncomputable def b_X6_oneMore_41 (bg : Int32) (y2 : Int32) (y4 : Int32) (x : Int32 × (Nat → Int32) × (Nat → Int32) × Int32) : Option ((Int32 × (Nat → Int32) × (Nat → Int32) × Int32) ⊕ ((Nat → Int32) × (Nat → Int32) × Int32)) := if y4 ≤ x.1 then (some (Sum.inr (x.2.1, x.2.2.1, x.2.2.2))) else (if ((y2 >>> (x.1 &&& 31)) &&& (1 : Int32)) = (1 : Int32) then (if ((bg >>> (x.1 &&& 31)) &&& (1 : Int32)) = 0 then ((s_X6_see x.2.1 x.2.2.1 x.2.2.2 ((2 : Int32) * x.1) (-1 : Int32)).bind (fun x9 => some (Sum.inl (x.1 + (1 : Int32), x9.1, x9.2.1, x9.2.2)))) else (some (Sum.inl (x.1 + (1 : Int32), x.2.1, x.2.2.1, x.2.2.2)))) else (some (Sum.inl (x.1 + (1 : Int32), x.2.1, x.2.2.1, x.2.2.2))))
noncomputable def b_X6_oneMore_238 (ne : (Nat → Int32)) (oT : (Nat → Int32)) (y1 : Int32) (y4 : Int32) (y6 : Int32) (x : Int32 × (Nat → Int32) × (Nat → Int32) × Int32) : Option ((Int32 × (Nat → Int32) × (Nat → Int32) × Int32) ⊕ ((Nat → Int32) × (Nat → Int32) × Int32)) := if y4 ≤ x.1 then (some (Sum.inr (x.2.1, x.2.2.1, x.2.2.2))) else ((s_X6_has ne y1 y6 x.1).bind (fun x22 => if x22 = 0 then (some (Sum.inl (x.1 + (1 : Int32), x.2.1, x.2.2.1, x.2.2.2))) else (chk y6 10 (if (oT y6.toNatClampNeg) = x.1 then (some (Sum.inl (x.1 + (1 : Int32), x.2.1, x.2.2.1, x.2.2.2))) else ((s_X6_see x.2.1 x.2.2.1 x.2.2.2 ((2 : Int32) * x.1) (((2 : Int32) * y6) + (1 : Int32))).bind (fun x27 => some (Sum.inl (x.1 + (1 : Int32), x27.1, x27.2.1, x27.2.2))))))))
noncomputable def b_X6_oneMore_88 (ne : (Nat → Int32)) (oT : (Nat → Int32)) (cF : (Nat → Int32)) (bg : Int32) (ed : Int32) (y1 : Int32) (y3 : Int32) (y4 : Int32) (x : Int32 × (Nat → Int32) × (Nat → Int32) × Int32) : Option ((Int32 × (Nat → Int32) × (Nat → Int32) × Int32) ⊕ ((Int32 × (Nat → Int32) × (Nat → Int32) × Int32) ⊕ ((Nat → Int32) × (Nat → Int32) × Int32))) := if x.2.2.2 ≤ x.1 then (some (Sum.inr (Sum.inr (x.2.1, x.2.2.1, x.2.2.2)))) else (chk x.1 20 (chk x.1 20 (if ((x.2.2.1 x.1.toNatClampNeg) - (x.2.2.1 x.1.toNatClampNeg) / (2 : Int32) * (2 : Int32)) = 0 then ((s_X6_isUsed cF bg ((x.2.2.1 x.1.toNatClampNeg) / (2 : Int32))).bind (fun x45 => if x45 = 0 then ((s_X6_see x.2.1 x.2.2.1 x.2.2.2 (((2 : Int32) * ((x.2.2.1 x.1.toNatClampNeg) / (2 : Int32))) + (1 : Int32)) ((2 : Int32) * ((x.2.2.1 x.1.toNatClampNeg) / (2 : Int32)))).bind (fun x53 => some (Sum.inl (x.1 + (1 : Int32), x53.1, x53.2.1, x53.2.2)))) else (chk ((x.2.2.1 x.1.toNatClampNeg) / (2 : Int32)) 10 (if (cF ((x.2.2.1 x.1.toNatClampNeg) / (2 : Int32)).toNatClampNeg) < 0 then (some (Sum.inl (x.1 + (1 : Int32), x.2.1, x.2.2.1, x.2.2.2))) else (chk ((x.2.2.1 x.1.toNatClampNeg) / (2 : Int32)) 10 ((s_X6_see x.2.1 x.2.2.1 x.2.2.2 (((2 : Int32) * (cF ((x.2.2.1 x.1.toNatClampNeg) / (2 : Int32)).toNatClampNeg)) + (1 : Int32)) ((2 : Int32) * ((x.2.2.1 x.1.toNatClampNeg) / (2 : Int32)))).bind (fun x51 => some (Sum.inl (x.1 + (1 : Int32), x51.1, x51.2.1, x51.2.2))))))))) else (if ((y3 >>> (((x.2.2.1 x.1.toNatClampNeg) / (2 : Int32)) &&& 31)) &&& (1 : Int32)) = (1 : Int32) then (if ((ed >>> (((x.2.2.1 x.1.toNatClampNeg) / (2 : Int32)) &&& 31)) &&& (1 : Int32)) = 0 then (some (Sum.inr (Sum.inl ((x.2.2.1 x.1.toNatClampNeg) / (2 : Int32), x.2.1, x.2.2.1, x.2.2.2)))) else ((s_X6_isUsed cF bg ((x.2.2.1 x.1.toNatClampNeg) / (2 : Int32))).bind (fun x36 => if x36 = 0 then ((loop (b_X6_oneMore_238 ne oT y1 y4 ((x.2.2.1 x.1.toNatClampNeg) / (2 : Int32))) ((0 : Int32), x.2.1, x.2.2.1, x.2.2.2)).bind (fun e39 => some (Sum.inl (x.1 + (1 : Int32), e39.1, e39.2.1, e39.2.2)))) else ((s_X6_see x.2.1 x.2.2.1 x.2.2.2 ((2 : Int32) * ((x.2.2.1 x.1.toNatClampNeg) / (2 : Int32))) (((2 : Int32) * ((x.2.2.1 x.1.toNatClampNeg) / (2 : Int32))) + (1 : Int32))).bind (fun x41 => (loop (b_X6_oneMore_238 ne oT y1 y4 ((x.2.2.1 x.1.toNatClampNeg) / (2 : Int32))) ((0 : Int32), x41.1, x41.2.1, x41.2.2)).bind (fun e43 => some (Sum.inl (x.1 + (1 : Int32), e43.1, e43.2.1, e43.2.2)))))))) else ((s_X6_isUsed cF bg ((x.2.2.1 x.1.toNatClampNeg) / (2 : Int32))).bind (fun x18 => if x18 = 0 then ((loop (b_X6_oneMore_238 ne oT y1 y4 ((x.2.2.1 x.1.toNatClampNeg) / (2 : Int32))) ((0 : Int32), x.2.1, x.2.2.1, x.2.2.2)).bind (fun e29 => some (Sum.inl (x.1 + (1 : Int32), e29.1, e29.2.1, e29.2.2)))) else ((s_X6_see x.2.1 x.2.2.1 x.2.2.2 ((2 : Int32) * ((x.2.2.1 x.1.toNatClampNeg) / (2 : Int32))) (((2 : Int32) * ((x.2.2.1 x.1.toNatClampNeg) / (2 : Int32))) + (1 : Int32))).bind (fun x31 => (loop (b_X6_oneMore_238 ne oT y1 y4 ((x.2.2.1 x.1.toNatClampNeg) / (2 : Int32))) ((0 : Int32), x31.1, x31.2.1, x31.2.2)).bind (fun e33 => some (Sum.inl (x.1 + (1 : Int32), e33.1, e33.2.1, e33.2.2)))))))))))
noncomputable def s_X6_oneMore (kn : (Nat → Int32)) (ne : (Nat → Int32)) (oT : (Nat → Int32)) (cF : (Nat → Int32)) (bg : Int32) (ed : Int32) (sF : (Nat → Int32)) (qu : (Nat → Int32)) (qd : Int32) (tr : (Nat → Int32)) (a1 : Int32) (a2 : Int32) (a3 : Int32) : Option (Int32 × (Nat → Int32) × (Nat → Int32) × Int32 × Int32 × (Nat → Int32) × (Nat → Int32) × Int32 × (Nat → Int32)) := chk a1 4 ((loop (b_X6_oneMore_11) ((0 : Int32), sF)).bind (fun e4 => (loop (b_X6_oneMore_41 bg a2 (kn a1.toNatClampNeg)) ((0 : Int32), e4, qu, (0 : Int32))).bind (fun e11 => (loop (b_X6_oneMore_88 ne oT cF bg ed a1 a3 (kn a1.toNatClampNeg)) ((0 : Int32), e11.1, e11.2.1, e11.2.2)).bind (fun e55 => Sum.elim (fun e57 => (s_X6_lay oT cF bg ed e57.2.1 tr (((2 : Int32) * e57.1) + (1 : Int32))).bind (fun x59 => some ((1 : Int32), x59.1, x59.2.1, x59.2.2.1, x59.2.2.2.1, e57.2.1, e57.2.2.1, e57.2.2.2, x59.2.2.2.2))) (fun e58 => some ((0 : Int32), oT, cF, bg, ed, e58.1, e58.2.1, e58.2.2, tr)) e55))))
set_option maxRecDepth 20000 in
theorem g_X6_oneMore_11 {d : Nat} {Q : Option AV → List AC → Prop} {y1 : Int32} {y2 : Int32} {y3 : Int32} {y4 : Int32} (x : Int32 × (Nat → Int32)) (r : (Nat → Int32)) (hl : loop (b_X6_oneMore_11 ) x = some r) (hk : (fun r : (Nat → Int32) => Go mX6_oneMore (d + 1) false 0 0 33 [some (vR 0), some (vI y1), some (vI y2), some (vI y3), some (vI y4), none, none, none] [] (wM kn ne fi se ma on ot ta po ti nu mo wa nx oT cF bg ed r qu qd tr) Q) r) : (fun x : Int32 × (Nat → Int32) => Go mX6_oneMore (d + 1) false 0 0 11 [some (vR 0), some (vI y1), some (vI y2), some (vI y3), some (vI y4), some (vI x.1), none, none] [] (wM kn ne fi se ma on ot ta po ti nu mo wa nx oT cF bg ed x.2 qu qd tr) Q) x := by
  refine loop_go (P := fun x : Int32 × (Nat → Int32) => Go mX6_oneMore (d + 1) false 0 0 11 [some (vR 0), some (vI y1), some (vI y2), some (vI y3), some (vI y4), some (vI x.1), none, none] [] (wM kn ne fi se ma on ot ta po ti nu mo wa nx oT cF bg ed x.2 qu qd tr) Q) (K := fun r : (Nat → Int32) => Go mX6_oneMore (d + 1) false 0 0 33 [some (vR 0), some (vI y1), some (vI y2), some (vI y3), some (vI y4), none, none, none] [] (wM kn ne fi se ma on ot ta po ti nu mo wa nx oT cF bg ed r qu qd tr) Q) ?_ x r hl hk
  · intro x y hs hI hE
    unfold b_X6_oneMore_11 at hs
    show Go mX6_oneMore (d + 1) false 0 0 11 [some (vR 0), some (vI y1), some (vI y2), some (vI y3), some (vI y4), some (vI x.1), none, none] [] (wM kn ne fi se ma on ot ta po ti nu mo wa nx oT cF bg ed x.2 qu qd tr) Q
    refine go_iload (pc := 11) dX6_oneMore_11 rfl ?_
    refine go_bipush (pc := 13) (20 : Int32) dX6_oneMore_13 (by decide) ?_
    refine go_icmp_ge (pc := 15) 33 dX6_oneMore_15 (by decide) (fun h2 => ?_) (fun h2 => ?_)
    · have hs := it_t h2 hs
      obtain rfl := Option.some.inj hs
      refine go_sub (lv' := [some (vR 0), some (vI y1), some (vI y2), some (vI y3), some (vI y4), none, none, none]) ⟨rfl, ⟨rfl, ⟨rfl, ⟨rfl, ⟨rfl, trivial⟩⟩⟩⟩⟩ ?_
      exact hE _ rfl
    · have hs := it_f h2 hs
      refine go_aload_n (pc := 18) 0 dX6_oneMore_18 rfl rfl ?_
      refine go_getfield (pc := 19) (v := vR 16) 0 6 18 dX6_oneMore_19 flX6_56 rfl rfl ?_
      refine go_iload (pc := 22) dX6_oneMore_22 rfl ?_
      refine go_bipush (pc := 24) (-2 : Int32) dX6_oneMore_24 (by decide) ?_
      obtain ⟨hi3, hs⟩ := chk_t hs
      refine go_iastore (pc := 26) 16 dX6_oneMore_26 rfl hi3 (show Go mX6_oneMore (d + 1) false 0 0 27 [some (vR 0), some (vI y1), some (vI y2), some (vI y3), some (vI y4), some (vI x.1), none, none] [] (wM kn ne fi se ma on ot ta po ti nu mo wa nx oT cF bg ed (upd x.2 x.1.toNatClampNeg (-2 : Int32)) qu qd tr) Q from ?_)
      refine go_iinc (pc := 27) (x.1 + (1 : Int32)) [some (vR 0), some (vI y1), some (vI y2), some (vI y3), some (vI y4), some (vI (x.1 + (1 : Int32))), none, none] dX6_oneMore_27 rfl rfl (by decide) rfl ?_
      refine go_goto (pc := 30) 11 dX6_oneMore_30 (by decide) ?_
      obtain rfl := Option.some.inj hs
      exact hI _ rfl
set_option maxRecDepth 20000 in
theorem g_X6_oneMore_41 {d : Nat} {Q : Option AV → List AC → Prop} {y1 : Int32} {y2 : Int32} {y3 : Int32} {y4 : Int32} (x : Int32 × (Nat → Int32) × (Nat → Int32) × Int32) (r : (Nat → Int32) × (Nat → Int32) × Int32) (hl : loop (b_X6_oneMore_41 bg y2 y4) x = some r) (hk : (fun r : (Nat → Int32) × (Nat → Int32) × Int32 => Go mX6_oneMore (d + 1) false 0 0 85 [some (vR 0), some (vI y1), none, some (vI y3), some (vI y4), none, none, none] [] (wM kn ne fi se ma on ot ta po ti nu mo wa nx oT cF bg ed r.1 r.2.1 r.2.2 tr) Q) r) : (fun x : Int32 × (Nat → Int32) × (Nat → Int32) × Int32 => Go mX6_oneMore (d + 1) false 0 0 41 [some (vR 0), some (vI y1), some (vI y2), some (vI y3), some (vI y4), some (vI x.1), none, none] [] (wM kn ne fi se ma on ot ta po ti nu mo wa nx oT cF bg ed x.2.1 x.2.2.1 x.2.2.2 tr) Q) x := by
  refine loop_go (P := fun x : Int32 × (Nat → Int32) × (Nat → Int32) × Int32 => Go mX6_oneMore (d + 1) false 0 0 41 [some (vR 0), some (vI y1), some (vI y2), some (vI y3), some (vI y4), some (vI x.1), none, none] [] (wM kn ne fi se ma on ot ta po ti nu mo wa nx oT cF bg ed x.2.1 x.2.2.1 x.2.2.2 tr) Q) (K := fun r : (Nat → Int32) × (Nat → Int32) × Int32 => Go mX6_oneMore (d + 1) false 0 0 85 [some (vR 0), some (vI y1), none, some (vI y3), some (vI y4), none, none, none] [] (wM kn ne fi se ma on ot ta po ti nu mo wa nx oT cF bg ed r.1 r.2.1 r.2.2 tr) Q) ?_ x r hl hk
  · intro x y hs hI hE
    unfold b_X6_oneMore_41 at hs
    show Go mX6_oneMore (d + 1) false 0 0 41 [some (vR 0), some (vI y1), some (vI y2), some (vI y3), some (vI y4), some (vI x.1), none, none] [] (wM kn ne fi se ma on ot ta po ti nu mo wa nx oT cF bg ed x.2.1 x.2.2.1 x.2.2.2 tr) Q
    refine go_iload (pc := 41) dX6_oneMore_41 rfl ?_
    refine go_iload (pc := 43) dX6_oneMore_43 rfl ?_
    refine go_icmp_ge (pc := 45) 85 dX6_oneMore_45 (by decide) (fun h6 => ?_) (fun h6 => ?_)
    · have hs := it_t h6 hs
      obtain rfl := Option.some.inj hs
      refine go_sub (lv' := [some (vR 0), some (vI y1), none, some (vI y3), some (vI y4), none, none, none]) ⟨rfl, ⟨rfl, ⟨rfl, ⟨rfl, trivial⟩⟩⟩⟩ ?_
      exact hE _ rfl
    · have hs := it_f h6 hs
      refine go_iload_n (pc := 48) 2 dX6_oneMore_48 rfl rfl ?_
      refine go_iload (pc := 49) dX6_oneMore_49 rfl ?_
      refine go_ishr (pc := 51) dX6_oneMore_51 ?_
      refine go_iconst (pc := 52) (1 : Int32) dX6_oneMore_52 (by decide) ?_
      refine go_iand (pc := 53) dX6_oneMore_53 ?_
      refine go_iconst (pc := 54) (1 : Int32) dX6_oneMore_54 (by decide) ?_
      refine go_icmp_ne (pc := 55) 79 dX6_oneMore_55 (by decide) (fun h7 => ?_) (fun h7 => ?_)
      · have hs := it_f h7 hs
        refine go_iinc (pc := 79) (x.1 + (1 : Int32)) [some (vR 0), some (vI y1), some (vI y2), some (vI y3), some (vI y4), some (vI (x.1 + (1 : Int32))), none, none] dX6_oneMore_79 rfl rfl (by decide) rfl ?_
        refine go_goto (pc := 82) 41 dX6_oneMore_82 (by decide) ?_
        obtain rfl := Option.some.inj hs
        exact hI _ rfl
      · have hs := it_t h7 hs
        refine go_aload_n (pc := 58) 0 dX6_oneMore_58 rfl rfl ?_
        refine go_getfield (pc := 59) (v := vI bg) 0 6 16 dX6_oneMore_59 flX6_155 rfl rfl ?_
        refine go_iload (pc := 62) dX6_oneMore_62 rfl ?_
        refine go_ishr (pc := 64) dX6_oneMore_64 ?_
        refine go_iconst (pc := 65) (1 : Int32) dX6_oneMore_65 (by decide) ?_
        refine go_iand (pc := 66) dX6_oneMore_66 ?_
        refine go_if_ne (pc := 67) 79 dX6_oneMore_67 (by decide) (fun h8 => ?_) (fun h8 => ?_)
        · have hs := it_f h8 hs
          refine go_iinc (pc := 79) (x.1 + (1 : Int32)) [some (vR 0), some (vI y1), some (vI y2), some (vI y3), some (vI y4), some (vI (x.1 + (1 : Int32))), none, none] dX6_oneMore_79 rfl rfl (by decide) rfl ?_
          refine go_goto (pc := 82) 41 dX6_oneMore_82 (by decide) ?_
          obtain rfl := Option.some.inj hs
          exact hI _ rfl
        · have hs := it_t h8 hs
          refine go_aload_n (pc := 70) 0 dX6_oneMore_70 rfl rfl ?_
          refine go_iconst (pc := 71) (2 : Int32) dX6_oneMore_71 (by decide) ?_
          refine go_iload (pc := 72) dX6_oneMore_72 rfl ?_
          refine go_imul (pc := 74) dX6_oneMore_74 ?_
          refine go_iconst (pc := 75) (-1 : Int32) dX6_oneMore_75 (by decide) ?_
          obtain ⟨x9, hc10, hs⟩ := bnd hs
          refine go_callV (bc := 0) (bs := 0) (mc := 0) (ms := 0) (d := d + 0) (pc := 76) (a := 0) (ci := 6) [vI ((2 : Int32) * x.1), vI (-1 : Int32)] [] dX6_oneMore_76 kX6_see mlX6_158 ivX6_see rfl rfl rfl rfl (Nat.le_of_ble_eq_true rfl) rfl (c_X6_see (d := d + 0) hc10) (fun r w' hq => ?_)
          obtain ⟨rfl, rfl⟩ := hq
          show Go mX6_oneMore (d + 1) false 0 0 79 [some (vR 0), some (vI y1), some (vI y2), some (vI y3), some (vI y4), some (vI x.1), none, none] [] (wM kn ne fi se ma on ot ta po ti nu mo wa nx oT cF bg ed x9.1 x9.2.1 x9.2.2 tr) Q
          refine go_iinc (pc := 79) (x.1 + (1 : Int32)) [some (vR 0), some (vI y1), some (vI y2), some (vI y3), some (vI y4), some (vI (x.1 + (1 : Int32))), none, none] dX6_oneMore_79 rfl rfl (by decide) rfl ?_
          refine go_goto (pc := 82) 41 dX6_oneMore_82 (by decide) ?_
          obtain rfl := Option.some.inj hs
          exact hI _ rfl
set_option maxRecDepth 20000 in
theorem g_X6_oneMore_238 {d : Nat} {Q : Option AV → List AC → Prop} {y1 : Int32} {y3 : Int32} {y4 : Int32} {y5 : Int32} {y6 : Int32} (x : Int32 × (Nat → Int32) × (Nat → Int32) × Int32) (r : (Nat → Int32) × (Nat → Int32) × Int32) (hl : loop (b_X6_oneMore_238 ne oT y1 y4 y6) x = some r) (hk : (fun r : (Nat → Int32) × (Nat → Int32) × Int32 => Go mX6_oneMore (d + 1) false 0 0 289 [some (vR 0), some (vI y1), none, some (vI y3), some (vI y4), some (vI y5), none, none] [] (wM kn ne fi se ma on ot ta po ti nu mo wa nx oT cF bg ed r.1 r.2.1 r.2.2 tr) Q) r) : (fun x : Int32 × (Nat → Int32) × (Nat → Int32) × Int32 => Go mX6_oneMore (d + 1) false 0 0 238 [some (vR 0), some (vI y1), none, some (vI y3), some (vI y4), some (vI y5), some (vI y6), some (vI x.1)] [] (wM kn ne fi se ma on ot ta po ti nu mo wa nx oT cF bg ed x.2.1 x.2.2.1 x.2.2.2 tr) Q) x := by
  refine loop_go (P := fun x : Int32 × (Nat → Int32) × (Nat → Int32) × Int32 => Go mX6_oneMore (d + 1) false 0 0 238 [some (vR 0), some (vI y1), none, some (vI y3), some (vI y4), some (vI y5), some (vI y6), some (vI x.1)] [] (wM kn ne fi se ma on ot ta po ti nu mo wa nx oT cF bg ed x.2.1 x.2.2.1 x.2.2.2 tr) Q) (K := fun r : (Nat → Int32) × (Nat → Int32) × Int32 => Go mX6_oneMore (d + 1) false 0 0 289 [some (vR 0), some (vI y1), none, some (vI y3), some (vI y4), some (vI y5), none, none] [] (wM kn ne fi se ma on ot ta po ti nu mo wa nx oT cF bg ed r.1 r.2.1 r.2.2 tr) Q) ?_ x r hl hk
  · intro x y hs hI hE
    unfold b_X6_oneMore_238 at hs
    show Go mX6_oneMore (d + 1) false 0 0 238 [some (vR 0), some (vI y1), none, some (vI y3), some (vI y4), some (vI y5), some (vI y6), some (vI x.1)] [] (wM kn ne fi se ma on ot ta po ti nu mo wa nx oT cF bg ed x.2.1 x.2.2.1 x.2.2.2 tr) Q
    refine go_iload (pc := 238) dX6_oneMore_238 rfl ?_
    refine go_iload (pc := 240) dX6_oneMore_240 rfl ?_
    refine go_icmp_ge (pc := 242) 289 dX6_oneMore_242 (by decide) (fun h21 => ?_) (fun h21 => ?_)
    · have hs := it_t h21 hs
      obtain rfl := Option.some.inj hs
      refine go_sub (lv' := [some (vR 0), some (vI y1), none, some (vI y3), some (vI y4), some (vI y5), none, none]) ⟨rfl, ⟨rfl, ⟨rfl, ⟨rfl, ⟨rfl, trivial⟩⟩⟩⟩⟩ ?_
      exact hE _ rfl
    · have hs := it_f h21 hs
      refine go_aload_n (pc := 245) 0 dX6_oneMore_245 rfl rfl ?_
      refine go_iload_n (pc := 246) 1 dX6_oneMore_246 rfl rfl ?_
      refine go_iload (pc := 247) dX6_oneMore_247 rfl ?_
      refine go_iload (pc := 249) dX6_oneMore_249 rfl ?_
      obtain ⟨x22, hc23, hs⟩ := bnd hs
      refine go_callV (bc := 0) (bs := 0) (mc := 0) (ms := 0) (d := d + 0) (pc := 251) (a := 0) (ci := 6) [vI y1, vI y6, vI x.1] [] dX6_oneMore_251 kX6_has mlX6_85 ivX6_has rfl rfl rfl rfl (Nat.le_of_ble_eq_true rfl) rfl (c_X6_has (d := d + 0) hc23) (fun r w' hq => ?_)
      obtain ⟨rfl, rfl⟩ := hq
      show Go mX6_oneMore (d + 1) false 0 0 254 [some (vR 0), some (vI y1), none, some (vI y3), some (vI y4), some (vI y5), some (vI y6), some (vI x.1)] [vI x22] (wM kn ne fi se ma on ot ta po ti nu mo wa nx oT cF bg ed x.2.1 x.2.2.1 x.2.2.2 tr) Q
      refine go_if_eq (pc := 254) 283 dX6_oneMore_254 (by decide) (fun h24 => ?_) (fun h24 => ?_)
      · have hs := it_t h24 hs
        refine go_iinc (pc := 283) (x.1 + (1 : Int32)) [some (vR 0), some (vI y1), none, some (vI y3), some (vI y4), some (vI y5), some (vI y6), some (vI (x.1 + (1 : Int32)))] dX6_oneMore_283 rfl rfl (by decide) rfl ?_
        refine go_goto (pc := 286) 238 dX6_oneMore_286 (by decide) ?_
        obtain rfl := Option.some.inj hs
        exact hI _ rfl
      · have hs := it_f h24 hs
        refine go_aload_n (pc := 257) 0 dX6_oneMore_257 rfl rfl ?_
        refine go_getfield (pc := 258) (v := vR 14) 0 6 14 dX6_oneMore_258 flX6_50 rfl rfl ?_
        refine go_iload (pc := 261) dX6_oneMore_261 rfl ?_
        obtain ⟨hi25, hs⟩ := chk_t hs
        refine go_iaload (pc := 263) 14 dX6_oneMore_263 rfl hi25 ?_
        refine go_iload (pc := 264) dX6_oneMore_264 rfl ?_
        refine go_icmp_eq (pc := 266) 283 dX6_oneMore_266 (by decide) (fun h26 => ?_) (fun h26 => ?_)
        · have hs := it_t h26 hs
          refine go_iinc (pc := 283) (x.1 + (1 : Int32)) [some (vR 0), some (vI y1), none, some (vI y3), some (vI y4), some (vI y5), some (vI y6), some (vI (x.1 + (1 : Int32)))] dX6_oneMore_283 rfl rfl (by decide) rfl ?_
          refine go_goto (pc := 286) 238 dX6_oneMore_286 (by decide) ?_
          obtain rfl := Option.some.inj hs
          exact hI _ rfl
        · have hs := it_f h26 hs
          refine go_aload_n (pc := 269) 0 dX6_oneMore_269 rfl rfl ?_
          refine go_iconst (pc := 270) (2 : Int32) dX6_oneMore_270 (by decide) ?_
          refine go_iload (pc := 271) dX6_oneMore_271 rfl ?_
          refine go_imul (pc := 273) dX6_oneMore_273 ?_
          refine go_iconst (pc := 274) (2 : Int32) dX6_oneMore_274 (by decide) ?_
          refine go_iload (pc := 275) dX6_oneMore_275 rfl ?_
          refine go_imul (pc := 277) dX6_oneMore_277 ?_
          refine go_iconst (pc := 278) (1 : Int32) dX6_oneMore_278 (by decide) ?_
          refine go_iadd (pc := 279) dX6_oneMore_279 ?_
          obtain ⟨x27, hc28, hs⟩ := bnd hs
          refine go_callV (bc := 0) (bs := 0) (mc := 0) (ms := 0) (d := d + 0) (pc := 280) (a := 0) (ci := 6) [vI ((2 : Int32) * x.1), vI (((2 : Int32) * y6) + (1 : Int32))] [] dX6_oneMore_280 kX6_see mlX6_158 ivX6_see rfl rfl rfl rfl (Nat.le_of_ble_eq_true rfl) rfl (c_X6_see (d := d + 0) hc28) (fun r w' hq => ?_)
          obtain ⟨rfl, rfl⟩ := hq
          show Go mX6_oneMore (d + 1) false 0 0 283 [some (vR 0), some (vI y1), none, some (vI y3), some (vI y4), some (vI y5), some (vI y6), some (vI x.1)] [] (wM kn ne fi se ma on ot ta po ti nu mo wa nx oT cF bg ed x27.1 x27.2.1 x27.2.2 tr) Q
          refine go_iinc (pc := 283) (x.1 + (1 : Int32)) [some (vR 0), some (vI y1), none, some (vI y3), some (vI y4), some (vI y5), some (vI y6), some (vI (x.1 + (1 : Int32)))] dX6_oneMore_283 rfl rfl (by decide) rfl ?_
          refine go_goto (pc := 286) 238 dX6_oneMore_286 (by decide) ?_
          obtain rfl := Option.some.inj hs
          exact hI _ rfl
set_option maxRecDepth 20000 in
theorem g_X6_oneMore_88 {d : Nat} {Q : Option AV → List AC → Prop} {y1 : Int32} {y3 : Int32} {y4 : Int32} (x : Int32 × (Nat → Int32) × (Nat → Int32) × Int32) (r : (Int32 × (Nat → Int32) × (Nat → Int32) × Int32) ⊕ ((Nat → Int32) × (Nat → Int32) × Int32)) (hl : loop (b_X6_oneMore_88 ne oT cF bg ed y1 y3 y4) x = some r) (hk : (fun r : (Int32 × (Nat → Int32) × (Nat → Int32) × Int32) ⊕ ((Nat → Int32) × (Nat → Int32) × Int32) => Sum.elim (fun r : Int32 × (Nat → Int32) × (Nat → Int32) × Int32 => Go mX6_oneMore (d + 1) false 0 0 200 [some (vR 0), none, none, none, none, none, some (vI r.1), none] [] (wM kn ne fi se ma on ot ta po ti nu mo wa nx oT cF bg ed r.2.1 r.2.2.1 r.2.2.2 tr) Q) (fun r : (Nat → Int32) × (Nat → Int32) × Int32 => Go mX6_oneMore (d + 1) false 0 0 295 [none, none, none, none, none, none, none, none] [] (wM kn ne fi se ma on ot ta po ti nu mo wa nx oT cF bg ed r.1 r.2.1 r.2.2 tr) Q) r) r) : (fun x : Int32 × (Nat → Int32) × (Nat → Int32) × Int32 => Go mX6_oneMore (d + 1) false 0 0 88 [some (vR 0), some (vI y1), none, some (vI y3), some (vI y4), some (vI x.1), none, none] [] (wM kn ne fi se ma on ot ta po ti nu mo wa nx oT cF bg ed x.2.1 x.2.2.1 x.2.2.2 tr) Q) x := by
  refine loop_go (P := fun x : Int32 × (Nat → Int32) × (Nat → Int32) × Int32 => Go mX6_oneMore (d + 1) false 0 0 88 [some (vR 0), some (vI y1), none, some (vI y3), some (vI y4), some (vI x.1), none, none] [] (wM kn ne fi se ma on ot ta po ti nu mo wa nx oT cF bg ed x.2.1 x.2.2.1 x.2.2.2 tr) Q) (K := fun r : (Int32 × (Nat → Int32) × (Nat → Int32) × Int32) ⊕ ((Nat → Int32) × (Nat → Int32) × Int32) => Sum.elim (fun r : Int32 × (Nat → Int32) × (Nat → Int32) × Int32 => Go mX6_oneMore (d + 1) false 0 0 200 [some (vR 0), none, none, none, none, none, some (vI r.1), none] [] (wM kn ne fi se ma on ot ta po ti nu mo wa nx oT cF bg ed r.2.1 r.2.2.1 r.2.2.2 tr) Q) (fun r : (Nat → Int32) × (Nat → Int32) × Int32 => Go mX6_oneMore (d + 1) false 0 0 295 [none, none, none, none, none, none, none, none] [] (wM kn ne fi se ma on ot ta po ti nu mo wa nx oT cF bg ed r.1 r.2.1 r.2.2 tr) Q) r) ?_ x r hl hk
  · intro x y hs hI hE
    unfold b_X6_oneMore_88 at hs
    show Go mX6_oneMore (d + 1) false 0 0 88 [some (vR 0), some (vI y1), none, some (vI y3), some (vI y4), some (vI x.1), none, none] [] (wM kn ne fi se ma on ot ta po ti nu mo wa nx oT cF bg ed x.2.1 x.2.2.1 x.2.2.2 tr) Q
    refine go_iload (pc := 88) dX6_oneMore_88 rfl ?_
    refine go_aload_n (pc := 90) 0 dX6_oneMore_90 rfl rfl ?_
    refine go_getfield (pc := 91) (v := vI x.2.2.2) 0 6 20 dX6_oneMore_91 flX6_152 rfl rfl ?_
    refine go_icmp_ge (pc := 94) 295 dX6_oneMore_94 (by decide) (fun h13 => ?_) (fun h13 => ?_)
    · have hs := it_t h13 hs
      obtain rfl := Option.some.inj hs
      refine go_sub (lv' := [none, none, none, none, none, none, none, none]) trivial ?_
      exact hE _ rfl
    · have hs := it_f h13 hs
      refine go_aload_n (pc := 97) 0 dX6_oneMore_97 rfl rfl ?_
      refine go_getfield (pc := 98) (v := vR 17) 0 6 19 dX6_oneMore_98 flX6_59 rfl rfl ?_
      refine go_iload (pc := 101) dX6_oneMore_101 rfl ?_
      obtain ⟨hi14, hs⟩ := chk_t hs
      refine go_iaload (pc := 103) 17 dX6_oneMore_103 rfl hi14 ?_
      refine go_iconst (pc := 104) (2 : Int32) dX6_oneMore_104 (by decide) ?_
      refine go_idiv (pc := 105) dX6_oneMore_105 (by decide) ?_
      refine go_istore (pc := 106) [some (vR 0), some (vI y1), none, some (vI y3), some (vI y4), some (vI x.1), some (vI ((x.2.2.1 x.1.toNatClampNeg) / (2 : Int32))), none] dX6_oneMore_106 (by decide) rfl ?_
      refine go_aload_n (pc := 108) 0 dX6_oneMore_108 rfl rfl ?_
      refine go_getfield (pc := 109) (v := vR 17) 0 6 19 dX6_oneMore_109 flX6_59 rfl rfl ?_
      refine go_iload (pc := 112) dX6_oneMore_112 rfl ?_
      obtain ⟨hi15, hs⟩ := chk_t hs
      refine go_iaload (pc := 114) 17 dX6_oneMore_114 rfl hi15 ?_
      refine go_iconst (pc := 115) (2 : Int32) dX6_oneMore_115 (by decide) ?_
      refine go_irem (pc := 116) dX6_oneMore_116 (by decide) ?_
      refine go_if_ne (pc := 117) 178 dX6_oneMore_117 (by decide) (fun h16 => ?_) (fun h16 => ?_)
      · have hs := it_f h16 hs
        refine go_iload_n (pc := 178) 3 dX6_oneMore_178 rfl rfl ?_
        refine go_iload (pc := 179) dX6_oneMore_179 rfl ?_
        refine go_ishr (pc := 181) dX6_oneMore_181 ?_
        refine go_iconst (pc := 182) (1 : Int32) dX6_oneMore_182 (by decide) ?_
        refine go_iand (pc := 183) dX6_oneMore_183 ?_
        refine go_iconst (pc := 184) (1 : Int32) dX6_oneMore_184 (by decide) ?_
        refine go_icmp_ne (pc := 185) 212 dX6_oneMore_185 (by decide) (fun h17 => ?_) (fun h17 => ?_)
        · have hs := it_f h17 hs
          refine go_aload_n (pc := 212) 0 dX6_oneMore_212 rfl rfl ?_
          refine go_iload (pc := 213) dX6_oneMore_213 rfl ?_
          obtain ⟨x18, hc19, hs⟩ := bnd hs
          refine go_callV (bc := 0) (bs := 0) (mc := 0) (ms := 0) (d := d + 0) (pc := 215) (a := 0) (ci := 6) [vI ((x.2.2.1 x.1.toNatClampNeg) / (2 : Int32))] [] dX6_oneMore_215 kX6_isUsed mlX6_161 ivX6_isUsed rfl rfl rfl rfl (Nat.le_of_ble_eq_true rfl) rfl (c_X6_isUsed (d := d + 0) hc19) (fun r w' hq => ?_)
          obtain ⟨rfl, rfl⟩ := hq
          show Go mX6_oneMore (d + 1) false 0 0 218 [some (vR 0), some (vI y1), none, some (vI y3), some (vI y4), some (vI x.1), some (vI ((x.2.2.1 x.1.toNatClampNeg) / (2 : Int32))), none] [vI x18] (wM kn ne fi se ma on ot ta po ti nu mo wa nx oT cF bg ed x.2.1 x.2.2.1 x.2.2.2 tr) Q
          refine go_if_eq (pc := 218) 235 dX6_oneMore_218 (by decide) (fun h20 => ?_) (fun h20 => ?_)
          · have hs := it_t h20 hs
            refine go_iconst (pc := 235) (0 : Int32) dX6_oneMore_235 (by decide) ?_
            refine go_istore (pc := 236) [some (vR 0), some (vI y1), none, some (vI y3), some (vI y4), some (vI x.1), some (vI ((x.2.2.1 x.1.toNatClampNeg) / (2 : Int32))), some (vI (0 : Int32))] dX6_oneMore_236 (by decide) rfl ?_
            obtain ⟨e29, hl30, hs⟩ := bnd hs
            refine g_X6_oneMore_238 (d := d) _ e29 hl30 ?_
            refine go_iinc (pc := 289) (x.1 + (1 : Int32)) [some (vR 0), some (vI y1), none, some (vI y3), some (vI y4), some (vI (x.1 + (1 : Int32))), none, none] dX6_oneMore_289 rfl rfl (by decide) rfl ?_
            refine go_goto (pc := 292) 88 dX6_oneMore_292 (by decide) ?_
            obtain rfl := Option.some.inj hs
            exact hI _ rfl
          · have hs := it_f h20 hs
            refine go_aload_n (pc := 221) 0 dX6_oneMore_221 rfl rfl ?_
            refine go_iconst (pc := 222) (2 : Int32) dX6_oneMore_222 (by decide) ?_
            refine go_iload (pc := 223) dX6_oneMore_223 rfl ?_
            refine go_imul (pc := 225) dX6_oneMore_225 ?_
            refine go_iconst (pc := 226) (2 : Int32) dX6_oneMore_226 (by decide) ?_
            refine go_iload (pc := 227) dX6_oneMore_227 rfl ?_
            refine go_imul (pc := 229) dX6_oneMore_229 ?_
            refine go_iconst (pc := 230) (1 : Int32) dX6_oneMore_230 (by decide) ?_
            refine go_iadd (pc := 231) dX6_oneMore_231 ?_
            obtain ⟨x31, hc32, hs⟩ := bnd hs
            refine go_callV (bc := 0) (bs := 0) (mc := 0) (ms := 0) (d := d + 0) (pc := 232) (a := 0) (ci := 6) [vI ((2 : Int32) * ((x.2.2.1 x.1.toNatClampNeg) / (2 : Int32))), vI (((2 : Int32) * ((x.2.2.1 x.1.toNatClampNeg) / (2 : Int32))) + (1 : Int32))] [] dX6_oneMore_232 kX6_see mlX6_158 ivX6_see rfl rfl rfl rfl (Nat.le_of_ble_eq_true rfl) rfl (c_X6_see (d := d + 0) hc32) (fun r w' hq => ?_)
            obtain ⟨rfl, rfl⟩ := hq
            show Go mX6_oneMore (d + 1) false 0 0 235 [some (vR 0), some (vI y1), none, some (vI y3), some (vI y4), some (vI x.1), some (vI ((x.2.2.1 x.1.toNatClampNeg) / (2 : Int32))), none] [] (wM kn ne fi se ma on ot ta po ti nu mo wa nx oT cF bg ed x31.1 x31.2.1 x31.2.2 tr) Q
            refine go_iconst (pc := 235) (0 : Int32) dX6_oneMore_235 (by decide) ?_
            refine go_istore (pc := 236) [some (vR 0), some (vI y1), none, some (vI y3), some (vI y4), some (vI x.1), some (vI ((x.2.2.1 x.1.toNatClampNeg) / (2 : Int32))), some (vI (0 : Int32))] dX6_oneMore_236 (by decide) rfl ?_
            obtain ⟨e33, hl34, hs⟩ := bnd hs
            refine g_X6_oneMore_238 (d := d) _ e33 hl34 ?_
            refine go_iinc (pc := 289) (x.1 + (1 : Int32)) [some (vR 0), some (vI y1), none, some (vI y3), some (vI y4), some (vI (x.1 + (1 : Int32))), none, none] dX6_oneMore_289 rfl rfl (by decide) rfl ?_
            refine go_goto (pc := 292) 88 dX6_oneMore_292 (by decide) ?_
            obtain rfl := Option.some.inj hs
            exact hI _ rfl
        · have hs := it_t h17 hs
          refine go_aload_n (pc := 188) 0 dX6_oneMore_188 rfl rfl ?_
          refine go_getfield (pc := 189) (v := vI ed) 0 6 17 dX6_oneMore_189 flX6_164 rfl rfl ?_
          refine go_iload (pc := 192) dX6_oneMore_192 rfl ?_
          refine go_ishr (pc := 194) dX6_oneMore_194 ?_
          refine go_iconst (pc := 195) (1 : Int32) dX6_oneMore_195 (by decide) ?_
          refine go_iand (pc := 196) dX6_oneMore_196 ?_
          refine go_if_ne (pc := 197) 212 dX6_oneMore_197 (by decide) (fun h35 => ?_) (fun h35 => ?_)
          · have hs := it_f h35 hs
            refine go_aload_n (pc := 212) 0 dX6_oneMore_212 rfl rfl ?_
            refine go_iload (pc := 213) dX6_oneMore_213 rfl ?_
            obtain ⟨x36, hc37, hs⟩ := bnd hs
            refine go_callV (bc := 0) (bs := 0) (mc := 0) (ms := 0) (d := d + 0) (pc := 215) (a := 0) (ci := 6) [vI ((x.2.2.1 x.1.toNatClampNeg) / (2 : Int32))] [] dX6_oneMore_215 kX6_isUsed mlX6_161 ivX6_isUsed rfl rfl rfl rfl (Nat.le_of_ble_eq_true rfl) rfl (c_X6_isUsed (d := d + 0) hc37) (fun r w' hq => ?_)
            obtain ⟨rfl, rfl⟩ := hq
            show Go mX6_oneMore (d + 1) false 0 0 218 [some (vR 0), some (vI y1), none, some (vI y3), some (vI y4), some (vI x.1), some (vI ((x.2.2.1 x.1.toNatClampNeg) / (2 : Int32))), none] [vI x36] (wM kn ne fi se ma on ot ta po ti nu mo wa nx oT cF bg ed x.2.1 x.2.2.1 x.2.2.2 tr) Q
            refine go_if_eq (pc := 218) 235 dX6_oneMore_218 (by decide) (fun h38 => ?_) (fun h38 => ?_)
            · have hs := it_t h38 hs
              refine go_iconst (pc := 235) (0 : Int32) dX6_oneMore_235 (by decide) ?_
              refine go_istore (pc := 236) [some (vR 0), some (vI y1), none, some (vI y3), some (vI y4), some (vI x.1), some (vI ((x.2.2.1 x.1.toNatClampNeg) / (2 : Int32))), some (vI (0 : Int32))] dX6_oneMore_236 (by decide) rfl ?_
              obtain ⟨e39, hl40, hs⟩ := bnd hs
              refine g_X6_oneMore_238 (d := d) _ e39 hl40 ?_
              refine go_iinc (pc := 289) (x.1 + (1 : Int32)) [some (vR 0), some (vI y1), none, some (vI y3), some (vI y4), some (vI (x.1 + (1 : Int32))), none, none] dX6_oneMore_289 rfl rfl (by decide) rfl ?_
              refine go_goto (pc := 292) 88 dX6_oneMore_292 (by decide) ?_
              obtain rfl := Option.some.inj hs
              exact hI _ rfl
            · have hs := it_f h38 hs
              refine go_aload_n (pc := 221) 0 dX6_oneMore_221 rfl rfl ?_
              refine go_iconst (pc := 222) (2 : Int32) dX6_oneMore_222 (by decide) ?_
              refine go_iload (pc := 223) dX6_oneMore_223 rfl ?_
              refine go_imul (pc := 225) dX6_oneMore_225 ?_
              refine go_iconst (pc := 226) (2 : Int32) dX6_oneMore_226 (by decide) ?_
              refine go_iload (pc := 227) dX6_oneMore_227 rfl ?_
              refine go_imul (pc := 229) dX6_oneMore_229 ?_
              refine go_iconst (pc := 230) (1 : Int32) dX6_oneMore_230 (by decide) ?_
              refine go_iadd (pc := 231) dX6_oneMore_231 ?_
              obtain ⟨x41, hc42, hs⟩ := bnd hs
              refine go_callV (bc := 0) (bs := 0) (mc := 0) (ms := 0) (d := d + 0) (pc := 232) (a := 0) (ci := 6) [vI ((2 : Int32) * ((x.2.2.1 x.1.toNatClampNeg) / (2 : Int32))), vI (((2 : Int32) * ((x.2.2.1 x.1.toNatClampNeg) / (2 : Int32))) + (1 : Int32))] [] dX6_oneMore_232 kX6_see mlX6_158 ivX6_see rfl rfl rfl rfl (Nat.le_of_ble_eq_true rfl) rfl (c_X6_see (d := d + 0) hc42) (fun r w' hq => ?_)
              obtain ⟨rfl, rfl⟩ := hq
              show Go mX6_oneMore (d + 1) false 0 0 235 [some (vR 0), some (vI y1), none, some (vI y3), some (vI y4), some (vI x.1), some (vI ((x.2.2.1 x.1.toNatClampNeg) / (2 : Int32))), none] [] (wM kn ne fi se ma on ot ta po ti nu mo wa nx oT cF bg ed x41.1 x41.2.1 x41.2.2 tr) Q
              refine go_iconst (pc := 235) (0 : Int32) dX6_oneMore_235 (by decide) ?_
              refine go_istore (pc := 236) [some (vR 0), some (vI y1), none, some (vI y3), some (vI y4), some (vI x.1), some (vI ((x.2.2.1 x.1.toNatClampNeg) / (2 : Int32))), some (vI (0 : Int32))] dX6_oneMore_236 (by decide) rfl ?_
              obtain ⟨e43, hl44, hs⟩ := bnd hs
              refine g_X6_oneMore_238 (d := d) _ e43 hl44 ?_
              refine go_iinc (pc := 289) (x.1 + (1 : Int32)) [some (vR 0), some (vI y1), none, some (vI y3), some (vI y4), some (vI (x.1 + (1 : Int32))), none, none] dX6_oneMore_289 rfl rfl (by decide) rfl ?_
              refine go_goto (pc := 292) 88 dX6_oneMore_292 (by decide) ?_
              obtain rfl := Option.some.inj hs
              exact hI _ rfl
          · have hs := it_t h35 hs
            obtain rfl := Option.some.inj hs
            refine go_sub (lv' := [some (vR 0), none, none, none, none, none, some (vI ((x.2.2.1 x.1.toNatClampNeg) / (2 : Int32))), none]) ⟨rfl, ⟨rfl, trivial⟩⟩ ?_
            exact hE _ rfl
      · have hs := it_t h16 hs
        refine go_aload_n (pc := 120) 0 dX6_oneMore_120 rfl rfl ?_
        refine go_iload (pc := 121) dX6_oneMore_121 rfl ?_
        obtain ⟨x45, hc46, hs⟩ := bnd hs
        refine go_callV (bc := 0) (bs := 0) (mc := 0) (ms := 0) (d := d + 0) (pc := 123) (a := 0) (ci := 6) [vI ((x.2.2.1 x.1.toNatClampNeg) / (2 : Int32))] [] dX6_oneMore_123 kX6_isUsed mlX6_161 ivX6_isUsed rfl rfl rfl rfl (Nat.le_of_ble_eq_true rfl) rfl (c_X6_isUsed (d := d + 0) hc46) (fun r w' hq => ?_)
        obtain ⟨rfl, rfl⟩ := hq
        show Go mX6_oneMore (d + 1) false 0 0 126 [some (vR 0), some (vI y1), none, some (vI y3), some (vI y4), some (vI x.1), some (vI ((x.2.2.1 x.1.toNatClampNeg) / (2 : Int32))), none] [vI x45] (wM kn ne fi se ma on ot ta po ti nu mo wa nx oT cF bg ed x.2.1 x.2.2.1 x.2.2.2 tr) Q
        refine go_if_ne (pc := 126) 146 dX6_oneMore_126 (by decide) (fun h47 => ?_) (fun h47 => ?_)
        · have hs := it_f h47 hs
          refine go_aload_n (pc := 146) 0 dX6_oneMore_146 rfl rfl ?_
          refine go_getfield (pc := 147) (v := vR 15) 0 6 15 dX6_oneMore_147 flX6_53 rfl rfl ?_
          refine go_iload (pc := 150) dX6_oneMore_150 rfl ?_
          obtain ⟨hi48, hs⟩ := chk_t hs
          refine go_iaload (pc := 152) 15 dX6_oneMore_152 rfl hi48 ?_
          refine go_if_lt (pc := 153) 289 dX6_oneMore_153 (by decide) (fun h49 => ?_) (fun h49 => ?_)
          · have hs := it_t h49 hs
            refine go_iinc (pc := 289) (x.1 + (1 : Int32)) [some (vR 0), some (vI y1), none, some (vI y3), some (vI y4), some (vI (x.1 + (1 : Int32))), some (vI ((x.2.2.1 x.1.toNatClampNeg) / (2 : Int32))), none] dX6_oneMore_289 rfl rfl (by decide) rfl ?_
            refine go_goto (pc := 292) 88 dX6_oneMore_292 (by decide) ?_
            obtain rfl := Option.some.inj hs
            refine go_sub (lv' := [some (vR 0), some (vI y1), none, some (vI y3), some (vI y4), some (vI (x.1 + (1 : Int32))), none, none]) ⟨rfl, ⟨rfl, ⟨rfl, ⟨rfl, ⟨rfl, trivial⟩⟩⟩⟩⟩ ?_
            exact hI _ rfl
          · have hs := it_f h49 hs
            refine go_aload_n (pc := 156) 0 dX6_oneMore_156 rfl rfl ?_
            refine go_iconst (pc := 157) (2 : Int32) dX6_oneMore_157 (by decide) ?_
            refine go_aload_n (pc := 158) 0 dX6_oneMore_158 rfl rfl ?_
            refine go_getfield (pc := 159) (v := vR 15) 0 6 15 dX6_oneMore_159 flX6_53 rfl rfl ?_
            refine go_iload (pc := 162) dX6_oneMore_162 rfl ?_
            obtain ⟨hi50, hs⟩ := chk_t hs
            refine go_iaload (pc := 164) 15 dX6_oneMore_164 rfl hi50 ?_
            refine go_imul (pc := 165) dX6_oneMore_165 ?_
            refine go_iconst (pc := 166) (1 : Int32) dX6_oneMore_166 (by decide) ?_
            refine go_iadd (pc := 167) dX6_oneMore_167 ?_
            refine go_iconst (pc := 168) (2 : Int32) dX6_oneMore_168 (by decide) ?_
            refine go_iload (pc := 169) dX6_oneMore_169 rfl ?_
            refine go_imul (pc := 171) dX6_oneMore_171 ?_
            obtain ⟨x51, hc52, hs⟩ := bnd hs
            refine go_callV (bc := 0) (bs := 0) (mc := 0) (ms := 0) (d := d + 0) (pc := 172) (a := 0) (ci := 6) [vI (((2 : Int32) * (cF ((x.2.2.1 x.1.toNatClampNeg) / (2 : Int32)).toNatClampNeg)) + (1 : Int32)), vI ((2 : Int32) * ((x.2.2.1 x.1.toNatClampNeg) / (2 : Int32)))] [] dX6_oneMore_172 kX6_see mlX6_158 ivX6_see rfl rfl rfl rfl (Nat.le_of_ble_eq_true rfl) rfl (c_X6_see (d := d + 0) hc52) (fun r w' hq => ?_)
            obtain ⟨rfl, rfl⟩ := hq
            show Go mX6_oneMore (d + 1) false 0 0 175 [some (vR 0), some (vI y1), none, some (vI y3), some (vI y4), some (vI x.1), some (vI ((x.2.2.1 x.1.toNatClampNeg) / (2 : Int32))), none] [] (wM kn ne fi se ma on ot ta po ti nu mo wa nx oT cF bg ed x51.1 x51.2.1 x51.2.2 tr) Q
            refine go_goto (pc := 175) 289 dX6_oneMore_175 (by decide) ?_
            refine go_iinc (pc := 289) (x.1 + (1 : Int32)) [some (vR 0), some (vI y1), none, some (vI y3), some (vI y4), some (vI (x.1 + (1 : Int32))), some (vI ((x.2.2.1 x.1.toNatClampNeg) / (2 : Int32))), none] dX6_oneMore_289 rfl rfl (by decide) rfl ?_
            refine go_goto (pc := 292) 88 dX6_oneMore_292 (by decide) ?_
            obtain rfl := Option.some.inj hs
            refine go_sub (lv' := [some (vR 0), some (vI y1), none, some (vI y3), some (vI y4), some (vI (x.1 + (1 : Int32))), none, none]) ⟨rfl, ⟨rfl, ⟨rfl, ⟨rfl, ⟨rfl, trivial⟩⟩⟩⟩⟩ ?_
            exact hI _ rfl
        · have hs := it_t h47 hs
          refine go_aload_n (pc := 129) 0 dX6_oneMore_129 rfl rfl ?_
          refine go_iconst (pc := 130) (2 : Int32) dX6_oneMore_130 (by decide) ?_
          refine go_iload (pc := 131) dX6_oneMore_131 rfl ?_
          refine go_imul (pc := 133) dX6_oneMore_133 ?_
          refine go_iconst (pc := 134) (1 : Int32) dX6_oneMore_134 (by decide) ?_
          refine go_iadd (pc := 135) dX6_oneMore_135 ?_
          refine go_iconst (pc := 136) (2 : Int32) dX6_oneMore_136 (by decide) ?_
          refine go_iload (pc := 137) dX6_oneMore_137 rfl ?_
          refine go_imul (pc := 139) dX6_oneMore_139 ?_
          obtain ⟨x53, hc54, hs⟩ := bnd hs
          refine go_callV (bc := 0) (bs := 0) (mc := 0) (ms := 0) (d := d + 0) (pc := 140) (a := 0) (ci := 6) [vI (((2 : Int32) * ((x.2.2.1 x.1.toNatClampNeg) / (2 : Int32))) + (1 : Int32)), vI ((2 : Int32) * ((x.2.2.1 x.1.toNatClampNeg) / (2 : Int32)))] [] dX6_oneMore_140 kX6_see mlX6_158 ivX6_see rfl rfl rfl rfl (Nat.le_of_ble_eq_true rfl) rfl (c_X6_see (d := d + 0) hc54) (fun r w' hq => ?_)
          obtain ⟨rfl, rfl⟩ := hq
          show Go mX6_oneMore (d + 1) false 0 0 143 [some (vR 0), some (vI y1), none, some (vI y3), some (vI y4), some (vI x.1), some (vI ((x.2.2.1 x.1.toNatClampNeg) / (2 : Int32))), none] [] (wM kn ne fi se ma on ot ta po ti nu mo wa nx oT cF bg ed x53.1 x53.2.1 x53.2.2 tr) Q
          refine go_goto (pc := 143) 289 dX6_oneMore_143 (by decide) ?_
          refine go_iinc (pc := 289) (x.1 + (1 : Int32)) [some (vR 0), some (vI y1), none, some (vI y3), some (vI y4), some (vI (x.1 + (1 : Int32))), some (vI ((x.2.2.1 x.1.toNatClampNeg) / (2 : Int32))), none] dX6_oneMore_289 rfl rfl (by decide) rfl ?_
          refine go_goto (pc := 292) 88 dX6_oneMore_292 (by decide) ?_
          obtain rfl := Option.some.inj hs
          refine go_sub (lv' := [some (vR 0), some (vI y1), none, some (vI y3), some (vI y4), some (vI (x.1 + (1 : Int32))), none, none]) ⟨rfl, ⟨rfl, ⟨rfl, ⟨rfl, ⟨rfl, trivial⟩⟩⟩⟩⟩ ?_
          exact hI _ rfl
set_option maxRecDepth 20000 in
theorem c_X6_oneMore {d : Nat}  {a1 : Int32} {a2 : Int32} {a3 : Int32} {res : Int32 × (Nat → Int32) × (Nat → Int32) × Int32 × Int32 × (Nat → Int32) × (Nat → Int32) × Int32 × (Nat → Int32)} (hs : s_X6_oneMore kn ne oT cF bg ed sF qu qd tr a1 a2 a3 = some res) : Calls mX6_oneMore (d + 1) false 0 0 [vR 0, vI a1, vI a2, vI a3] (wM kn ne fi se ma on ot ta po ti nu mo wa nx oT cF bg ed sF qu qd tr) (fun r w' => r = some (vI res.1) ∧ w' = (wM kn ne fi se ma on ot ta po ti nu mo wa nx res.2.1 res.2.2.1 res.2.2.2.1 res.2.2.2.2.1 res.2.2.2.2.2.1 res.2.2.2.2.2.2.1 res.2.2.2.2.2.2.2.1 res.2.2.2.2.2.2.2.2)) := by
  unfold s_X6_oneMore at hs
  refine Calls.of kX6_oneMore 4 [some (vR 0), some (vI a1), some (vI a2), some (vI a3), none, none, none, none] rfl (Nat.le_of_ble_eq_true rfl) ?_
  refine go_aload_n (pc := 0) 0 dX6_oneMore_0 rfl rfl ?_
  refine go_getfield (pc := 1) (v := vR 1) 0 6 0 dX6_oneMore_1 flX6_7 rfl rfl ?_
  refine go_iload_n (pc := 4) 1 dX6_oneMore_4 rfl rfl ?_
  obtain ⟨hi1, hs⟩ := chk_t hs
  refine go_iaload (pc := 5) 1 dX6_oneMore_5 rfl hi1 ?_
  refine go_istore (pc := 6) [some (vR 0), some (vI a1), some (vI a2), some (vI a3), some (vI (kn a1.toNatClampNeg)), none, none, none] dX6_oneMore_6 (by decide) rfl ?_
  refine go_iconst (pc := 8) (0 : Int32) dX6_oneMore_8 (by decide) ?_
  refine go_istore (pc := 9) [some (vR 0), some (vI a1), some (vI a2), some (vI a3), some (vI (kn a1.toNatClampNeg)), some (vI (0 : Int32)), none, none] dX6_oneMore_9 (by decide) rfl ?_
  obtain ⟨e4, hl5, hs⟩ := bnd hs
  refine g_X6_oneMore_11 (d := d) _ e4 hl5 ?_
  refine go_aload_n (pc := 33) 0 dX6_oneMore_33 rfl rfl ?_
  refine go_iconst (pc := 34) (0 : Int32) dX6_oneMore_34 (by decide) ?_
  refine go_putI (pc := 35) 0 6 20 dX6_oneMore_35 fpX6_152 rfl (Nat.le_of_ble_eq_true rfl) (show Go mX6_oneMore (d + 1) false 0 0 38 [some (vR 0), some (vI a1), some (vI a2), some (vI a3), some (vI (kn a1.toNatClampNeg)), none, none, none] [] (wM kn ne fi se ma on ot ta po ti nu mo wa nx oT cF bg ed e4 qu ((0 : Int32)) tr) _ from ?_)
  refine go_iconst (pc := 38) (0 : Int32) dX6_oneMore_38 (by decide) ?_
  refine go_istore (pc := 39) [some (vR 0), some (vI a1), some (vI a2), some (vI a3), some (vI (kn a1.toNatClampNeg)), some (vI (0 : Int32)), none, none] dX6_oneMore_39 (by decide) rfl ?_
  obtain ⟨e11, hl12, hs⟩ := bnd hs
  refine g_X6_oneMore_41 (d := d) _ e11 hl12 ?_
  refine go_iconst (pc := 85) (0 : Int32) dX6_oneMore_85 (by decide) ?_
  refine go_istore (pc := 86) [some (vR 0), some (vI a1), none, some (vI a3), some (vI (kn a1.toNatClampNeg)), some (vI (0 : Int32)), none, none] dX6_oneMore_86 (by decide) rfl ?_
  obtain ⟨e55, hl56, hs⟩ := bnd hs
  refine g_X6_oneMore_88 (d := d) _ e55 hl56 ?_
  rcases e55 with e57 | e58
  · show Go mX6_oneMore (d + 1) false 0 0 200 [some (vR 0), none, none, none, none, none, some (vI e57.1), none] [] (wM kn ne fi se ma on ot ta po ti nu mo wa nx oT cF bg ed e57.2.1 e57.2.2.1 e57.2.2.2 tr) _
    simp only [Sum.elim_inl] at hs
    refine go_aload_n (pc := 200) 0 dX6_oneMore_200 rfl rfl ?_
    refine go_iconst (pc := 201) (2 : Int32) dX6_oneMore_201 (by decide) ?_
    refine go_iload (pc := 202) dX6_oneMore_202 rfl ?_
    refine go_imul (pc := 204) dX6_oneMore_204 ?_
    refine go_iconst (pc := 205) (1 : Int32) dX6_oneMore_205 (by decide) ?_
    refine go_iadd (pc := 206) dX6_oneMore_206 ?_
    obtain ⟨x59, hc60, hs⟩ := bnd hs
    refine go_callV (bc := 0) (bs := 0) (mc := 0) (ms := 0) (d := d + 0) (pc := 207) (a := 0) (ci := 6) [vI (((2 : Int32) * e57.1) + (1 : Int32))] [] dX6_oneMore_207 kX6_lay mlX6_167 ivX6_lay rfl rfl rfl rfl (Nat.le_of_ble_eq_true rfl) rfl (c_X6_lay (d := d + 0) hc60) (fun r w' hq => ?_)
    obtain ⟨rfl, rfl⟩ := hq
    show Go mX6_oneMore (d + 1) false 0 0 210 [some (vR 0), none, none, none, none, none, some (vI e57.1), none] [] (wM kn ne fi se ma on ot ta po ti nu mo wa nx x59.1 x59.2.1 x59.2.2.1 x59.2.2.2.1 e57.2.1 e57.2.2.1 e57.2.2.2 x59.2.2.2.2) _
    refine go_iconst (pc := 210) (1 : Int32) dX6_oneMore_210 (by decide) ?_
    obtain rfl := Option.some.inj hs
    exact go_ireturn (st := []) (pc := 211) dX6_oneMore_211 rfl rfl (fun h => by cases h) ⟨rfl, rfl⟩
  · show Go mX6_oneMore (d + 1) false 0 0 295 [none, none, none, none, none, none, none, none] [] (wM kn ne fi se ma on ot ta po ti nu mo wa nx oT cF bg ed e58.1 e58.2.1 e58.2.2 tr) _
    simp only [Sum.elim_inr] at hs
    refine go_iconst (pc := 295) (0 : Int32) dX6_oneMore_295 (by decide) ?_
    obtain rfl := Option.some.inj hs
    exact go_ireturn (st := []) (pc := 296) dX6_oneMore_296 rfl rfl (fun h => by cases h) ⟨rfl, rfl⟩
noncomputable def b_X6_apart_49  (x : Int32 × (Nat → Int32) × (Nat → Int32)) : Option ((Int32 × (Nat → Int32) × (Nat → Int32)) ⊕ ((Nat → Int32) × (Nat → Int32))) := if (10 : Int32) ≤ x.1 then (some (Sum.inr (x.2.1, x.2.2))) else (chk x.1 10 (chk x.1 10 (some (Sum.inl (x.1 + (1 : Int32), upd x.2.1 x.1.toNatClampNeg (-1 : Int32), upd x.2.2 x.1.toNatClampNeg (-1 : Int32))))))
noncomputable def b_X6_apart_91 (kn : (Nat → Int32)) (ne : (Nat → Int32)) (y1 : Int32) (y2 : Int32) (y3 : Int32) (x : Int32 × (Nat → Int32) × (Nat → Int32) × Int32 × Int32 × (Nat → Int32) × (Nat → Int32) × Int32 × (Nat → Int32)) : Option ((Int32 × (Nat → Int32) × (Nat → Int32) × Int32 × Int32 × (Nat → Int32) × (Nat → Int32) × Int32 × (Nat → Int32)) ⊕ (Int32 × (Nat → Int32) × (Nat → Int32) × Int32 × Int32 × (Nat → Int32) × (Nat → Int32) × Int32 × (Nat → Int32))) := (s_X6_oneMore kn ne x.2.1 x.2.2.1 x.2.2.2.1 x.2.2.2.2.1 x.2.2.2.2.2.1 x.2.2.2.2.2.2.1 x.2.2.2.2.2.2.2.1 x.2.2.2.2.2.2.2.2 y1 y2 y3).bind (fun x17 => if x17.1 = 0 then (some (Sum.inr (x.1, x17.2.1, x17.2.2.1, x17.2.2.2.1, x17.2.2.2.2.1, x17.2.2.2.2.2.1, x17.2.2.2.2.2.2.1, x17.2.2.2.2.2.2.2.1, x17.2.2.2.2.2.2.2.2))) else (some (Sum.inl (x.1 + (1 : Int32), x17.2.1, x17.2.2.1, x17.2.2.2.1, x17.2.2.2.2.1, x17.2.2.2.2.2.1, x17.2.2.2.2.2.2.1, x17.2.2.2.2.2.2.2.1, x17.2.2.2.2.2.2.2.2))))
noncomputable def s_X6_apart (kn : (Nat → Int32)) (ne : (Nat → Int32)) (oT : (Nat → Int32)) (cF : (Nat → Int32)) (bg : Int32) (ed : Int32) (sF : (Nat → Int32)) (qu : (Nat → Int32)) (qd : Int32) (tr : (Nat → Int32)) (a1 : Int32) (a2 : Int32) (a3 : Int32) : Option (Int32 × (Nat → Int32) × (Nat → Int32) × Int32 × Int32 × (Nat → Int32) × (Nat → Int32) × Int32 × (Nat → Int32)) := (s_X6_isNet a1).bind (fun x1 => if x1 = 0 then (some ((-2 : Int32), oT, cF, bg, ed, sF, qu, qd, tr)) else (chk a1 4 ((s_X6_in a2 (0 : Int32) (((1 : Int32) <<< ((kn a1.toNatClampNeg) &&& 31)) - (1 : Int32))).bind (fun x5 => if x5 = 0 then (some ((-2 : Int32), oT, cF, bg, ed, sF, qu, qd, tr)) else (chk a1 4 ((s_X6_in a3 (0 : Int32) (((1 : Int32) <<< ((kn a1.toNatClampNeg) &&& 31)) - (1 : Int32))).bind (fun x9 => if x9 = 0 then (some ((-2 : Int32), oT, cF, bg, ed, sF, qu, qd, tr)) else ((loop (b_X6_apart_49) ((0 : Int32), oT, cF)).bind (fun e15 => (loop (b_X6_apart_91 kn ne a1 a2 a3) ((0 : Int32), e15.1, e15.2, (0 : Int32), (0 : Int32), sF, qu, qd, tr)).bind (fun e20 => some (e20.1, e20.2.1, e20.2.2.1, e20.2.2.2.1, e20.2.2.2.2.1, e20.2.2.2.2.2.1, e20.2.2.2.2.2.2.1, e20.2.2.2.2.2.2.2.1, e20.2.2.2.2.2.2.2.2)))))))))))
set_option maxRecDepth 20000 in
theorem g_X6_apart_49 {d : Nat} {Q : Option AV → List AC → Prop} {y1 : Int32} {y2 : Int32} {y3 : Int32} (x : Int32 × (Nat → Int32) × (Nat → Int32)) (r : (Nat → Int32) × (Nat → Int32)) (hl : loop (b_X6_apart_49 ) x = some r) (hk : (fun r : (Nat → Int32) × (Nat → Int32) => Go mX6_apart (d + 2) false 0 0 78 [some (vR 0), some (vI y1), some (vI y2), some (vI y3), none] [] (wM kn ne fi se ma on ot ta po ti nu mo wa nx r.1 r.2 bg ed sF qu qd tr) Q) r) : (fun x : Int32 × (Nat → Int32) × (Nat → Int32) => Go mX6_apart (d + 2) false 0 0 49 [some (vR 0), some (vI y1), some (vI y2), some (vI y3), some (vI x.1)] [] (wM kn ne fi se ma on ot ta po ti nu mo wa nx x.2.1 x.2.2 bg ed sF qu qd tr) Q) x := by
  refine loop_go (P := fun x : Int32 × (Nat → Int32) × (Nat → Int32) => Go mX6_apart (d + 2) false 0 0 49 [some (vR 0), some (vI y1), some (vI y2), some (vI y3), some (vI x.1)] [] (wM kn ne fi se ma on ot ta po ti nu mo wa nx x.2.1 x.2.2 bg ed sF qu qd tr) Q) (K := fun r : (Nat → Int32) × (Nat → Int32) => Go mX6_apart (d + 2) false 0 0 78 [some (vR 0), some (vI y1), some (vI y2), some (vI y3), none] [] (wM kn ne fi se ma on ot ta po ti nu mo wa nx r.1 r.2 bg ed sF qu qd tr) Q) ?_ x r hl hk
  · intro x y hs hI hE
    unfold b_X6_apart_49 at hs
    show Go mX6_apart (d + 2) false 0 0 49 [some (vR 0), some (vI y1), some (vI y2), some (vI y3), some (vI x.1)] [] (wM kn ne fi se ma on ot ta po ti nu mo wa nx x.2.1 x.2.2 bg ed sF qu qd tr) Q
    refine go_iload (pc := 49) dX6_apart_49 rfl ?_
    refine go_bipush (pc := 51) (10 : Int32) dX6_apart_51 (by decide) ?_
    refine go_icmp_ge (pc := 53) 78 dX6_apart_53 (by decide) (fun h12 => ?_) (fun h12 => ?_)
    · have hs := it_t h12 hs
      obtain rfl := Option.some.inj hs
      refine go_sub (lv' := [some (vR 0), some (vI y1), some (vI y2), some (vI y3), none]) ⟨rfl, ⟨rfl, ⟨rfl, ⟨rfl, trivial⟩⟩⟩⟩ ?_
      exact hE _ rfl
    · have hs := it_f h12 hs
      refine go_aload_n (pc := 56) 0 dX6_apart_56 rfl rfl ?_
      refine go_getfield (pc := 57) (v := vR 14) 0 6 14 dX6_apart_57 flX6_50 rfl rfl ?_
      refine go_iload (pc := 60) dX6_apart_60 rfl ?_
      refine go_iconst (pc := 62) (-1 : Int32) dX6_apart_62 (by decide) ?_
      obtain ⟨hi13, hs⟩ := chk_t hs
      refine go_iastore (pc := 63) 14 dX6_apart_63 rfl hi13 (show Go mX6_apart (d + 2) false 0 0 64 [some (vR 0), some (vI y1), some (vI y2), some (vI y3), some (vI x.1)] [] (wM kn ne fi se ma on ot ta po ti nu mo wa nx (upd x.2.1 x.1.toNatClampNeg (-1 : Int32)) x.2.2 bg ed sF qu qd tr) Q from ?_)
      refine go_aload_n (pc := 64) 0 dX6_apart_64 rfl rfl ?_
      refine go_getfield (pc := 65) (v := vR 15) 0 6 15 dX6_apart_65 flX6_53 rfl rfl ?_
      refine go_iload (pc := 68) dX6_apart_68 rfl ?_
      refine go_iconst (pc := 70) (-1 : Int32) dX6_apart_70 (by decide) ?_
      obtain ⟨hi14, hs⟩ := chk_t hs
      refine go_iastore (pc := 71) 15 dX6_apart_71 rfl hi14 (show Go mX6_apart (d + 2) false 0 0 72 [some (vR 0), some (vI y1), some (vI y2), some (vI y3), some (vI x.1)] [] (wM kn ne fi se ma on ot ta po ti nu mo wa nx (upd x.2.1 x.1.toNatClampNeg (-1 : Int32)) (upd x.2.2 x.1.toNatClampNeg (-1 : Int32)) bg ed sF qu qd tr) Q from ?_)
      refine go_iinc (pc := 72) (x.1 + (1 : Int32)) [some (vR 0), some (vI y1), some (vI y2), some (vI y3), some (vI (x.1 + (1 : Int32)))] dX6_apart_72 rfl rfl (by decide) rfl ?_
      refine go_goto (pc := 75) 49 dX6_apart_75 (by decide) ?_
      obtain rfl := Option.some.inj hs
      exact hI _ rfl
set_option maxRecDepth 20000 in
theorem g_X6_apart_91 {d : Nat} {Q : Option AV → List AC → Prop} {y1 : Int32} {y2 : Int32} {y3 : Int32} (x : Int32 × (Nat → Int32) × (Nat → Int32) × Int32 × Int32 × (Nat → Int32) × (Nat → Int32) × Int32 × (Nat → Int32)) (r : Int32 × (Nat → Int32) × (Nat → Int32) × Int32 × Int32 × (Nat → Int32) × (Nat → Int32) × Int32 × (Nat → Int32)) (hl : loop (b_X6_apart_91 kn ne y1 y2 y3) x = some r) (hk : (fun r : Int32 × (Nat → Int32) × (Nat → Int32) × Int32 × Int32 × (Nat → Int32) × (Nat → Int32) × Int32 × (Nat → Int32) => Go mX6_apart (d + 2) false 0 0 107 [none, none, none, none, some (vI r.1)] [] (wM kn ne fi se ma on ot ta po ti nu mo wa nx r.2.1 r.2.2.1 r.2.2.2.1 r.2.2.2.2.1 r.2.2.2.2.2.1 r.2.2.2.2.2.2.1 r.2.2.2.2.2.2.2.1 r.2.2.2.2.2.2.2.2) Q) r) : (fun x : Int32 × (Nat → Int32) × (Nat → Int32) × Int32 × Int32 × (Nat → Int32) × (Nat → Int32) × Int32 × (Nat → Int32) => Go mX6_apart (d + 2) false 0 0 91 [some (vR 0), some (vI y1), some (vI y2), some (vI y3), some (vI x.1)] [] (wM kn ne fi se ma on ot ta po ti nu mo wa nx x.2.1 x.2.2.1 x.2.2.2.1 x.2.2.2.2.1 x.2.2.2.2.2.1 x.2.2.2.2.2.2.1 x.2.2.2.2.2.2.2.1 x.2.2.2.2.2.2.2.2) Q) x := by
  refine loop_go (P := fun x : Int32 × (Nat → Int32) × (Nat → Int32) × Int32 × Int32 × (Nat → Int32) × (Nat → Int32) × Int32 × (Nat → Int32) => Go mX6_apart (d + 2) false 0 0 91 [some (vR 0), some (vI y1), some (vI y2), some (vI y3), some (vI x.1)] [] (wM kn ne fi se ma on ot ta po ti nu mo wa nx x.2.1 x.2.2.1 x.2.2.2.1 x.2.2.2.2.1 x.2.2.2.2.2.1 x.2.2.2.2.2.2.1 x.2.2.2.2.2.2.2.1 x.2.2.2.2.2.2.2.2) Q) (K := fun r : Int32 × (Nat → Int32) × (Nat → Int32) × Int32 × Int32 × (Nat → Int32) × (Nat → Int32) × Int32 × (Nat → Int32) => Go mX6_apart (d + 2) false 0 0 107 [none, none, none, none, some (vI r.1)] [] (wM kn ne fi se ma on ot ta po ti nu mo wa nx r.2.1 r.2.2.1 r.2.2.2.1 r.2.2.2.2.1 r.2.2.2.2.2.1 r.2.2.2.2.2.2.1 r.2.2.2.2.2.2.2.1 r.2.2.2.2.2.2.2.2) Q) ?_ x r hl hk
  · intro x y hs hI hE
    unfold b_X6_apart_91 at hs
    show Go mX6_apart (d + 2) false 0 0 91 [some (vR 0), some (vI y1), some (vI y2), some (vI y3), some (vI x.1)] [] (wM kn ne fi se ma on ot ta po ti nu mo wa nx x.2.1 x.2.2.1 x.2.2.2.1 x.2.2.2.2.1 x.2.2.2.2.2.1 x.2.2.2.2.2.2.1 x.2.2.2.2.2.2.2.1 x.2.2.2.2.2.2.2.2) Q
    refine go_aload_n (pc := 91) 0 dX6_apart_91 rfl rfl ?_
    refine go_iload_n (pc := 92) 1 dX6_apart_92 rfl rfl ?_
    refine go_iload_n (pc := 93) 2 dX6_apart_93 rfl rfl ?_
    refine go_iload_n (pc := 94) 3 dX6_apart_94 rfl rfl ?_
    obtain ⟨x17, hc18, hs⟩ := bnd hs
    refine go_callV (bc := 0) (bs := 0) (mc := 0) (ms := 0) (d := d + 1) (pc := 95) (a := 0) (ci := 6) [vI y1, vI y2, vI y3] [] dX6_apart_95 kX6_oneMore mlX6_170 ivX6_oneMore rfl rfl rfl rfl (Nat.le_of_ble_eq_true rfl) rfl (c_X6_oneMore (d := d + 0) hc18) (fun r w' hq => ?_)
    obtain ⟨rfl, rfl⟩ := hq
    show Go mX6_apart (d + 2) false 0 0 98 [some (vR 0), some (vI y1), some (vI y2), some (vI y3), some (vI x.1)] [vI x17.1] (wM kn ne fi se ma on ot ta po ti nu mo wa nx x17.2.1 x17.2.2.1 x17.2.2.2.1 x17.2.2.2.2.1 x17.2.2.2.2.2.1 x17.2.2.2.2.2.2.1 x17.2.2.2.2.2.2.2.1 x17.2.2.2.2.2.2.2.2) Q
    refine go_if_eq (pc := 98) 107 dX6_apart_98 (by decide) (fun h19 => ?_) (fun h19 => ?_)
    · have hs := it_t h19 hs
      obtain rfl := Option.some.inj hs
      refine go_sub (lv' := [none, none, none, none, some (vI x.1)]) ⟨rfl, trivial⟩ ?_
      exact hE _ rfl
    · have hs := it_f h19 hs
      refine go_iinc (pc := 101) (x.1 + (1 : Int32)) [some (vR 0), some (vI y1), some (vI y2), some (vI y3), some (vI (x.1 + (1 : Int32)))] dX6_apart_101 rfl rfl (by decide) rfl ?_
      refine go_goto (pc := 104) 91 dX6_apart_104 (by decide) ?_
      obtain rfl := Option.some.inj hs
      exact hI _ rfl
set_option maxRecDepth 20000 in
theorem c_X6_apart {d : Nat}  {a1 : Int32} {a2 : Int32} {a3 : Int32} {res : Int32 × (Nat → Int32) × (Nat → Int32) × Int32 × Int32 × (Nat → Int32) × (Nat → Int32) × Int32 × (Nat → Int32)} (hs : s_X6_apart kn ne oT cF bg ed sF qu qd tr a1 a2 a3 = some res) : Calls mX6_apart (d + 2) false 0 0 [vR 0, vI a1, vI a2, vI a3] (wM kn ne fi se ma on ot ta po ti nu mo wa nx oT cF bg ed sF qu qd tr) (fun r w' => r = some (vI res.1) ∧ w' = (wM kn ne fi se ma on ot ta po ti nu mo wa nx res.2.1 res.2.2.1 res.2.2.2.1 res.2.2.2.2.1 res.2.2.2.2.2.1 res.2.2.2.2.2.2.1 res.2.2.2.2.2.2.2.1 res.2.2.2.2.2.2.2.2)) := by
  unfold s_X6_apart at hs
  refine Calls.of kX6_apart 1 [some (vR 0), some (vI a1), some (vI a2), some (vI a3), none] rfl (Nat.le_of_ble_eq_true rfl) ?_
  refine go_iload_n (pc := 0) 1 dX6_apart_0 rfl rfl ?_
  obtain ⟨x1, hc2, hs⟩ := bnd hs
  refine go_callS (bc := 0) (bs := 0) (mc := 0) (ms := 0) (d := d + 1) (pc := 1) [vI a1] [] dX6_apart_1 kX6_isNet mlX6_69 isX6_isNet rfl (Nat.le_of_ble_eq_true rfl) rfl (c_X6_isNet (d := d + 0) hc2) (fun r w' hq => ?_)
  obtain ⟨rfl, rfl⟩ := hq
  show Go mX6_apart (d + 2) false 0 0 4 [some (vR 0), some (vI a1), some (vI a2), some (vI a3), none] [vI x1] (wM kn ne fi se ma on ot ta po ti nu mo wa nx oT cF bg ed sF qu qd tr) _
  refine go_if_eq (pc := 4) 43 dX6_apart_4 (by decide) (fun h3 => ?_) (fun h3 => ?_)
  · have hs := it_t h3 hs
    refine go_bipush (pc := 43) (-2 : Int32) dX6_apart_43 (by decide) ?_
    obtain rfl := Option.some.inj hs
    exact go_ireturn (st := []) (pc := 45) dX6_apart_45 rfl (vp_nar_int _) (fun h => by cases h) ⟨rfl, rfl⟩
  · have hs := it_f h3 hs
    refine go_iload_n (pc := 7) 2 dX6_apart_7 rfl rfl ?_
    refine go_iconst (pc := 8) (0 : Int32) dX6_apart_8 (by decide) ?_
    refine go_iconst (pc := 9) (1 : Int32) dX6_apart_9 (by decide) ?_
    refine go_aload_n (pc := 10) 0 dX6_apart_10 rfl rfl ?_
    refine go_getfield (pc := 11) (v := vR 1) 0 6 0 dX6_apart_11 flX6_7 rfl rfl ?_
    refine go_iload_n (pc := 14) 1 dX6_apart_14 rfl rfl ?_
    obtain ⟨hi4, hs⟩ := chk_t hs
    refine go_iaload (pc := 15) 1 dX6_apart_15 rfl hi4 ?_
    refine go_ishl (pc := 16) dX6_apart_16 ?_
    refine go_iconst (pc := 17) (1 : Int32) dX6_apart_17 (by decide) ?_
    refine go_isub (pc := 18) dX6_apart_18 ?_
    obtain ⟨x5, hc6, hs⟩ := bnd hs
    refine go_callS (bc := 0) (bs := 0) (mc := 0) (ms := 0) (d := d + 1) (pc := 19) [vI a2, vI (0 : Int32), vI (((1 : Int32) <<< ((kn a1.toNatClampNeg) &&& 31)) - (1 : Int32))] [] dX6_apart_19 kX6_in mlX6_65 isX6_in rfl (Nat.le_of_ble_eq_true rfl) rfl (c_X6_in (d := d + 1) hc6) (fun r w' hq => ?_)
    obtain ⟨rfl, rfl⟩ := hq
    show Go mX6_apart (d + 2) false 0 0 22 [some (vR 0), some (vI a1), some (vI a2), some (vI a3), none] [vI x5] (wM kn ne fi se ma on ot ta po ti nu mo wa nx oT cF bg ed sF qu qd tr) _
    refine go_if_eq (pc := 22) 43 dX6_apart_22 (by decide) (fun h7 => ?_) (fun h7 => ?_)
    · have hs := it_t h7 hs
      refine go_bipush (pc := 43) (-2 : Int32) dX6_apart_43 (by decide) ?_
      obtain rfl := Option.some.inj hs
      exact go_ireturn (st := []) (pc := 45) dX6_apart_45 rfl (vp_nar_int _) (fun h => by cases h) ⟨rfl, rfl⟩
    · have hs := it_f h7 hs
      refine go_iload_n (pc := 25) 3 dX6_apart_25 rfl rfl ?_
      refine go_iconst (pc := 26) (0 : Int32) dX6_apart_26 (by decide) ?_
      refine go_iconst (pc := 27) (1 : Int32) dX6_apart_27 (by decide) ?_
      refine go_aload_n (pc := 28) 0 dX6_apart_28 rfl rfl ?_
      refine go_getfield (pc := 29) (v := vR 1) 0 6 0 dX6_apart_29 flX6_7 rfl rfl ?_
      refine go_iload_n (pc := 32) 1 dX6_apart_32 rfl rfl ?_
      obtain ⟨hi8, hs⟩ := chk_t hs
      refine go_iaload (pc := 33) 1 dX6_apart_33 rfl hi8 ?_
      refine go_ishl (pc := 34) dX6_apart_34 ?_
      refine go_iconst (pc := 35) (1 : Int32) dX6_apart_35 (by decide) ?_
      refine go_isub (pc := 36) dX6_apart_36 ?_
      obtain ⟨x9, hc10, hs⟩ := bnd hs
      refine go_callS (bc := 0) (bs := 0) (mc := 0) (ms := 0) (d := d + 1) (pc := 37) [vI a3, vI (0 : Int32), vI (((1 : Int32) <<< ((kn a1.toNatClampNeg) &&& 31)) - (1 : Int32))] [] dX6_apart_37 kX6_in mlX6_65 isX6_in rfl (Nat.le_of_ble_eq_true rfl) rfl (c_X6_in (d := d + 1) hc10) (fun r w' hq => ?_)
      obtain ⟨rfl, rfl⟩ := hq
      show Go mX6_apart (d + 2) false 0 0 40 [some (vR 0), some (vI a1), some (vI a2), some (vI a3), none] [vI x9] (wM kn ne fi se ma on ot ta po ti nu mo wa nx oT cF bg ed sF qu qd tr) _
      refine go_if_ne (pc := 40) 46 dX6_apart_40 (by decide) (fun h11 => ?_) (fun h11 => ?_)
      · have hs := it_f h11 hs
        refine go_iconst (pc := 46) (0 : Int32) dX6_apart_46 (by decide) ?_
        refine go_istore (pc := 47) [some (vR 0), some (vI a1), some (vI a2), some (vI a3), some (vI (0 : Int32))] dX6_apart_47 (by decide) rfl ?_
        obtain ⟨e15, hl16, hs⟩ := bnd hs
        refine g_X6_apart_49 (d := d) _ e15 hl16 ?_
        refine go_aload_n (pc := 78) 0 dX6_apart_78 rfl rfl ?_
        refine go_iconst (pc := 79) (0 : Int32) dX6_apart_79 (by decide) ?_
        refine go_putI (pc := 80) 0 6 16 dX6_apart_80 fpX6_155 rfl (Nat.le_of_ble_eq_true rfl) (show Go mX6_apart (d + 2) false 0 0 83 [some (vR 0), some (vI a1), some (vI a2), some (vI a3), none] [] (wM kn ne fi se ma on ot ta po ti nu mo wa nx e15.1 e15.2 ((0 : Int32)) ed sF qu qd tr) _ from ?_)
        refine go_aload_n (pc := 83) 0 dX6_apart_83 rfl rfl ?_
        refine go_iconst (pc := 84) (0 : Int32) dX6_apart_84 (by decide) ?_
        refine go_putI (pc := 85) 0 6 17 dX6_apart_85 fpX6_164 rfl (Nat.le_of_ble_eq_true rfl) (show Go mX6_apart (d + 2) false 0 0 88 [some (vR 0), some (vI a1), some (vI a2), some (vI a3), none] [] (wM kn ne fi se ma on ot ta po ti nu mo wa nx e15.1 e15.2 ((0 : Int32)) ((0 : Int32)) sF qu qd tr) _ from ?_)
        refine go_iconst (pc := 88) (0 : Int32) dX6_apart_88 (by decide) ?_
        refine go_istore (pc := 89) [some (vR 0), some (vI a1), some (vI a2), some (vI a3), some (vI (0 : Int32))] dX6_apart_89 (by decide) rfl ?_
        obtain ⟨e20, hl21, hs⟩ := bnd hs
        refine g_X6_apart_91 (d := d) _ e20 hl21 ?_
        refine go_iload (pc := 107) dX6_apart_107 rfl ?_
        obtain rfl := Option.some.inj hs
        exact go_ireturn (st := []) (pc := 109) dX6_apart_109 rfl (vp_nar_int _) (fun h => by cases h) ⟨rfl, rfl⟩
      · have hs := it_t h11 hs
        refine go_bipush (pc := 43) (-2 : Int32) dX6_apart_43 (by decide) ?_
        obtain rfl := Option.some.inj hs
        exact go_ireturn (st := []) (pc := 45) dX6_apart_45 rfl (vp_nar_int _) (fun h => by cases h) ⟨rfl, rfl⟩
noncomputable def b_X6_distanceOf_39 (ma : Int32) (on : (Nat → Int32)) (ot : (Nat → Int32)) (y4 : Int32) (y5 : Int32) (x : Int32 × Int32) : Option ((Int32 × Int32) ⊕ (Int32)) := if ma ≤ x.2 then (some (Sum.inr x.1)) else (if x.2 = y4 then (some (Sum.inl (x.1, x.2 + (1 : Int32)))) else (chk x.2 45 (if ((y5 >>> ((on x.2.toNatClampNeg) &&& 31)) &&& (1 : Int32)) = (1 : Int32) then (chk x.2 45 (chk x.2 45 (if ((y5 >>> ((ot x.2.toNatClampNeg) &&& 31)) &&& (1 : Int32)) = (1 : Int32) then (chk x.2 45 (lt' ((x.1 ||| ((1 : Int32) <<< ((ot x.2.toNatClampNeg) &&& 31))) ||| ((1 : Int32) <<< ((on x.2.toNatClampNeg) &&& 31))) (fun z17 => some (Sum.inl (z17, x.2 + (1 : Int32)))))) else (lt' ((x.1 ||| ((1 : Int32) <<< ((ot x.2.toNatClampNeg) &&& 31))) ||| (0 : Int32)) (fun z15 => some (Sum.inl (z15, x.2 + (1 : Int32)))))))) else (chk x.2 45 (if ((y5 >>> ((ot x.2.toNatClampNeg) &&& 31)) &&& (1 : Int32)) = (1 : Int32) then (chk x.2 45 (lt' ((x.1 ||| (0 : Int32)) ||| ((1 : Int32) <<< ((on x.2.toNatClampNeg) &&& 31))) (fun z11 => some (Sum.inl (z11, x.2 + (1 : Int32)))))) else (some (Sum.inl ((x.1 ||| (0 : Int32)) ||| (0 : Int32), x.2 + (1 : Int32)))))))))
noncomputable def b_X6_distanceOf_8 (kn : (Nat → Int32)) (ma : Int32) (on : (Nat → Int32)) (ot : (Nat → Int32)) (y1 : Int32) (y3 : Int32) (y4 : Int32) (x : Int32 × Int32) : Option ((Int32 × Int32) ⊕ ((Int32) ⊕ (Unit))) := chk y1 4 (if (kn y1.toNatClampNeg) < x.2 then (some (Sum.inr (Sum.inr ()))) else (if ((x.1 >>> (y3 &&& 31)) &&& (1 : Int32)) = (1 : Int32) then (some (Sum.inr (Sum.inl x.2))) else ((loop (b_X6_distanceOf_39 ma on ot y4 x.1) (x.1, (0 : Int32))).bind (fun e18 => some (Sum.inl (e18, x.2 + (1 : Int32)))))))
noncomputable def s_X6_distanceOf (kn : (Nat → Int32)) (ma : Int32) (on : (Nat → Int32)) (ot : (Nat → Int32)) (a1 : Int32) (a2 : Int32) (a3 : Int32) (a4 : Int32) : Option (Int32) := (loop (b_X6_distanceOf_8 kn ma on ot a1 a3 a4) ((1 : Int32) <<< (a2 &&& 31), (0 : Int32))).bind (fun e20 => Sum.elim (fun e22 => some e22) (fun e23 => some (-1 : Int32)) e20)
set_option maxRecDepth 20000 in
theorem g_X6_distanceOf_39 {d : Nat} {Q : Option AV → List AC → Prop} {y1 : Int32} {y3 : Int32} {y4 : Int32} {y5 : Int32} {y6 : Int32} (x : Int32 × Int32) (r : Int32) (hl : loop (b_X6_distanceOf_39 ma on ot y4 y5) x = some r) (hk : (fun r : Int32 => Go mX6_distanceOf (d + 0) false 0 0 129 [some (vR 0), some (vI y1), none, some (vI y3), some (vI y4), none, some (vI y6), some (vI r), none] [] (wM kn ne fi se ma on ot ta po ti nu mo wa nx oT cF bg ed sF qu qd tr) Q) r) : (fun x : Int32 × Int32 => Go mX6_distanceOf (d + 0) false 0 0 39 [some (vR 0), some (vI y1), none, some (vI y3), some (vI y4), some (vI y5), some (vI y6), some (vI x.1), some (vI x.2)] [] (wM kn ne fi se ma on ot ta po ti nu mo wa nx oT cF bg ed sF qu qd tr) Q) x := by
  refine loop_go (P := fun x : Int32 × Int32 => Go mX6_distanceOf (d + 0) false 0 0 39 [some (vR 0), some (vI y1), none, some (vI y3), some (vI y4), some (vI y5), some (vI y6), some (vI x.1), some (vI x.2)] [] (wM kn ne fi se ma on ot ta po ti nu mo wa nx oT cF bg ed sF qu qd tr) Q) (K := fun r : Int32 => Go mX6_distanceOf (d + 0) false 0 0 129 [some (vR 0), some (vI y1), none, some (vI y3), some (vI y4), none, some (vI y6), some (vI r), none] [] (wM kn ne fi se ma on ot ta po ti nu mo wa nx oT cF bg ed sF qu qd tr) Q) ?_ x r hl hk
  · intro x y hs hI hE
    unfold b_X6_distanceOf_39 at hs
    show Go mX6_distanceOf (d + 0) false 0 0 39 [some (vR 0), some (vI y1), none, some (vI y3), some (vI y4), some (vI y5), some (vI y6), some (vI x.1), some (vI x.2)] [] (wM kn ne fi se ma on ot ta po ti nu mo wa nx oT cF bg ed sF qu qd tr) Q
    refine go_iload (pc := 39) dX6_distanceOf_39 rfl ?_
    refine go_aload_n (pc := 41) 0 dX6_distanceOf_41 rfl rfl ?_
    refine go_getfield (pc := 42) (v := vI ma) 0 6 4 dX6_distanceOf_42 flX6_105 rfl rfl ?_
    refine go_icmp_ge (pc := 45) 129 dX6_distanceOf_45 (by decide) (fun h4 => ?_) (fun h4 => ?_)
    · have hs := it_t h4 hs
      obtain rfl := Option.some.inj hs
      refine go_sub (lv' := [some (vR 0), some (vI y1), none, some (vI y3), some (vI y4), none, some (vI y6), some (vI x.1), none]) ⟨rfl, ⟨rfl, ⟨rfl, ⟨rfl, ⟨rfl, ⟨rfl, trivial⟩⟩⟩⟩⟩⟩ ?_
      exact hE _ rfl
    · have hs := it_f h4 hs
      refine go_iload (pc := 48) dX6_distanceOf_48 rfl ?_
      refine go_iload (pc := 50) dX6_distanceOf_50 rfl ?_
      refine go_icmp_eq (pc := 52) 123 dX6_distanceOf_52 (by decide) (fun h5 => ?_) (fun h5 => ?_)
      · have hs := it_t h5 hs
        refine go_iinc (pc := 123) (x.2 + (1 : Int32)) [some (vR 0), some (vI y1), none, some (vI y3), some (vI y4), some (vI y5), some (vI y6), some (vI x.1), some (vI (x.2 + (1 : Int32)))] dX6_distanceOf_123 rfl rfl (by decide) rfl ?_
        refine go_goto (pc := 126) 39 dX6_distanceOf_126 (by decide) ?_
        obtain rfl := Option.some.inj hs
        exact hI _ rfl
      · have hs := it_f h5 hs
        refine go_iload (pc := 55) dX6_distanceOf_55 rfl ?_
        refine go_iload (pc := 57) dX6_distanceOf_57 rfl ?_
        refine go_aload_n (pc := 59) 0 dX6_distanceOf_59 rfl rfl ?_
        refine go_getfield (pc := 60) (v := vR 5) 0 6 5 dX6_distanceOf_60 flX6_22 rfl rfl ?_
        refine go_iload (pc := 63) dX6_distanceOf_63 rfl ?_
        obtain ⟨hi6, hs⟩ := chk_t hs
        refine go_iaload (pc := 65) 5 dX6_distanceOf_65 rfl hi6 ?_
        refine go_ishr (pc := 66) dX6_distanceOf_66 ?_
        refine go_iconst (pc := 67) (1 : Int32) dX6_distanceOf_67 (by decide) ?_
        refine go_iand (pc := 68) dX6_distanceOf_68 ?_
        refine go_iconst (pc := 69) (1 : Int32) dX6_distanceOf_69 (by decide) ?_
        refine go_icmp_ne (pc := 70) 85 dX6_distanceOf_70 (by decide) (fun h7 => ?_) (fun h7 => ?_)
        · have hs := it_f h7 hs
          refine go_iconst (pc := 85) (0 : Int32) dX6_distanceOf_85 (by decide) ?_
          refine go_ior (pc := 86) dX6_distanceOf_86 ?_
          refine go_istore (pc := 87) [some (vR 0), some (vI y1), none, some (vI y3), some (vI y4), some (vI y5), some (vI y6), some (vI (x.1 ||| (0 : Int32))), some (vI x.2)] dX6_distanceOf_87 (by decide) rfl ?_
          refine go_iload (pc := 89) dX6_distanceOf_89 rfl ?_
          refine go_iload (pc := 91) dX6_distanceOf_91 rfl ?_
          refine go_aload_n (pc := 93) 0 dX6_distanceOf_93 rfl rfl ?_
          refine go_getfield (pc := 94) (v := vR 6) 0 6 6 dX6_distanceOf_94 flX6_25 rfl rfl ?_
          refine go_iload (pc := 97) dX6_distanceOf_97 rfl ?_
          obtain ⟨hi8, hs⟩ := chk_t hs
          refine go_iaload (pc := 99) 6 dX6_distanceOf_99 rfl hi8 ?_
          refine go_ishr (pc := 100) dX6_distanceOf_100 ?_
          refine go_iconst (pc := 101) (1 : Int32) dX6_distanceOf_101 (by decide) ?_
          refine go_iand (pc := 102) dX6_distanceOf_102 ?_
          refine go_iconst (pc := 103) (1 : Int32) dX6_distanceOf_103 (by decide) ?_
          refine go_icmp_ne (pc := 104) 119 dX6_distanceOf_104 (by decide) (fun h9 => ?_) (fun h9 => ?_)
          · have hs := it_f h9 hs
            refine go_iconst (pc := 119) (0 : Int32) dX6_distanceOf_119 (by decide) ?_
            refine go_ior (pc := 120) dX6_distanceOf_120 ?_
            refine go_istore (pc := 121) [some (vR 0), some (vI y1), none, some (vI y3), some (vI y4), some (vI y5), some (vI y6), some (vI ((x.1 ||| (0 : Int32)) ||| (0 : Int32))), some (vI x.2)] dX6_distanceOf_121 (by decide) rfl ?_
            refine go_iinc (pc := 123) (x.2 + (1 : Int32)) [some (vR 0), some (vI y1), none, some (vI y3), some (vI y4), some (vI y5), some (vI y6), some (vI ((x.1 ||| (0 : Int32)) ||| (0 : Int32))), some (vI (x.2 + (1 : Int32)))] dX6_distanceOf_123 rfl rfl (by decide) rfl ?_
            refine go_goto (pc := 126) 39 dX6_distanceOf_126 (by decide) ?_
            obtain rfl := Option.some.inj hs
            exact hI _ rfl
          · have hs := it_t h9 hs
            refine go_iconst (pc := 107) (1 : Int32) dX6_distanceOf_107 (by decide) ?_
            refine go_aload_n (pc := 108) 0 dX6_distanceOf_108 rfl rfl ?_
            refine go_getfield (pc := 109) (v := vR 5) 0 6 5 dX6_distanceOf_109 flX6_22 rfl rfl ?_
            refine go_iload (pc := 112) dX6_distanceOf_112 rfl ?_
            obtain ⟨hi10, hs⟩ := chk_t hs
            refine go_iaload (pc := 114) 5 dX6_distanceOf_114 rfl hi10 ?_
            refine go_ishl (pc := 115) dX6_distanceOf_115 ?_
            refine go_goto (pc := 116) 120 dX6_distanceOf_116 (by decide) ?_
            refine go_ior (pc := 120) dX6_distanceOf_120 ?_
            refine go_topi (fun z11 ez11 => ?_)
            have hs := lt_t ez11 hs
            refine go_istore (pc := 121) [some (vR 0), some (vI y1), none, some (vI y3), some (vI y4), some (vI y5), some (vI y6), some (vI z11), some (vI x.2)] dX6_distanceOf_121 (by decide) rfl ?_
            refine go_iinc (pc := 123) (x.2 + (1 : Int32)) [some (vR 0), some (vI y1), none, some (vI y3), some (vI y4), some (vI y5), some (vI y6), some (vI z11), some (vI (x.2 + (1 : Int32)))] dX6_distanceOf_123 rfl rfl (by decide) rfl ?_
            refine go_goto (pc := 126) 39 dX6_distanceOf_126 (by decide) ?_
            obtain rfl := Option.some.inj hs
            exact hI _ rfl
        · have hs := it_t h7 hs
          refine go_iconst (pc := 73) (1 : Int32) dX6_distanceOf_73 (by decide) ?_
          refine go_aload_n (pc := 74) 0 dX6_distanceOf_74 rfl rfl ?_
          refine go_getfield (pc := 75) (v := vR 6) 0 6 6 dX6_distanceOf_75 flX6_25 rfl rfl ?_
          refine go_iload (pc := 78) dX6_distanceOf_78 rfl ?_
          obtain ⟨hi12, hs⟩ := chk_t hs
          refine go_iaload (pc := 80) 6 dX6_distanceOf_80 rfl hi12 ?_
          refine go_ishl (pc := 81) dX6_distanceOf_81 ?_
          refine go_goto (pc := 82) 86 dX6_distanceOf_82 (by decide) ?_
          refine go_ior (pc := 86) dX6_distanceOf_86 ?_
          refine go_istore (pc := 87) [some (vR 0), some (vI y1), none, some (vI y3), some (vI y4), some (vI y5), some (vI y6), some (vI (x.1 ||| ((1 : Int32) <<< ((ot x.2.toNatClampNeg) &&& 31)))), some (vI x.2)] dX6_distanceOf_87 (by decide) rfl ?_
          refine go_iload (pc := 89) dX6_distanceOf_89 rfl ?_
          refine go_iload (pc := 91) dX6_distanceOf_91 rfl ?_
          refine go_aload_n (pc := 93) 0 dX6_distanceOf_93 rfl rfl ?_
          refine go_getfield (pc := 94) (v := vR 6) 0 6 6 dX6_distanceOf_94 flX6_25 rfl rfl ?_
          refine go_iload (pc := 97) dX6_distanceOf_97 rfl ?_
          obtain ⟨hi13, hs⟩ := chk_t hs
          refine go_iaload (pc := 99) 6 dX6_distanceOf_99 rfl hi13 ?_
          refine go_ishr (pc := 100) dX6_distanceOf_100 ?_
          refine go_iconst (pc := 101) (1 : Int32) dX6_distanceOf_101 (by decide) ?_
          refine go_iand (pc := 102) dX6_distanceOf_102 ?_
          refine go_iconst (pc := 103) (1 : Int32) dX6_distanceOf_103 (by decide) ?_
          refine go_icmp_ne (pc := 104) 119 dX6_distanceOf_104 (by decide) (fun h14 => ?_) (fun h14 => ?_)
          · have hs := it_f h14 hs
            refine go_iconst (pc := 119) (0 : Int32) dX6_distanceOf_119 (by decide) ?_
            refine go_ior (pc := 120) dX6_distanceOf_120 ?_
            refine go_topi (fun z15 ez15 => ?_)
            have hs := lt_t ez15 hs
            refine go_istore (pc := 121) [some (vR 0), some (vI y1), none, some (vI y3), some (vI y4), some (vI y5), some (vI y6), some (vI z15), some (vI x.2)] dX6_distanceOf_121 (by decide) rfl ?_
            refine go_iinc (pc := 123) (x.2 + (1 : Int32)) [some (vR 0), some (vI y1), none, some (vI y3), some (vI y4), some (vI y5), some (vI y6), some (vI z15), some (vI (x.2 + (1 : Int32)))] dX6_distanceOf_123 rfl rfl (by decide) rfl ?_
            refine go_goto (pc := 126) 39 dX6_distanceOf_126 (by decide) ?_
            obtain rfl := Option.some.inj hs
            exact hI _ rfl
          · have hs := it_t h14 hs
            refine go_iconst (pc := 107) (1 : Int32) dX6_distanceOf_107 (by decide) ?_
            refine go_aload_n (pc := 108) 0 dX6_distanceOf_108 rfl rfl ?_
            refine go_getfield (pc := 109) (v := vR 5) 0 6 5 dX6_distanceOf_109 flX6_22 rfl rfl ?_
            refine go_iload (pc := 112) dX6_distanceOf_112 rfl ?_
            obtain ⟨hi16, hs⟩ := chk_t hs
            refine go_iaload (pc := 114) 5 dX6_distanceOf_114 rfl hi16 ?_
            refine go_ishl (pc := 115) dX6_distanceOf_115 ?_
            refine go_goto (pc := 116) 120 dX6_distanceOf_116 (by decide) ?_
            refine go_ior (pc := 120) dX6_distanceOf_120 ?_
            refine go_topi (fun z17 ez17 => ?_)
            have hs := lt_t ez17 hs
            refine go_istore (pc := 121) [some (vR 0), some (vI y1), none, some (vI y3), some (vI y4), some (vI y5), some (vI y6), some (vI z17), some (vI x.2)] dX6_distanceOf_121 (by decide) rfl ?_
            refine go_iinc (pc := 123) (x.2 + (1 : Int32)) [some (vR 0), some (vI y1), none, some (vI y3), some (vI y4), some (vI y5), some (vI y6), some (vI z17), some (vI (x.2 + (1 : Int32)))] dX6_distanceOf_123 rfl rfl (by decide) rfl ?_
            refine go_goto (pc := 126) 39 dX6_distanceOf_126 (by decide) ?_
            obtain rfl := Option.some.inj hs
            exact hI _ rfl
set_option maxRecDepth 20000 in
theorem g_X6_distanceOf_8 {d : Nat} {Q : Option AV → List AC → Prop} {y1 : Int32} {y3 : Int32} {y4 : Int32} (x : Int32 × Int32) (r : (Int32) ⊕ (Unit)) (hl : loop (b_X6_distanceOf_8 kn ma on ot y1 y3 y4) x = some r) (hk : (fun r : (Int32) ⊕ (Unit) => Sum.elim (fun r : Int32 => Go mX6_distanceOf (d + 0) false 0 0 29 [none, none, none, none, none, none, some (vI r), none, none] [] (wM kn ne fi se ma on ot ta po ti nu mo wa nx oT cF bg ed sF qu qd tr) Q) (fun r : Unit => Go mX6_distanceOf (d + 0) false 0 0 139 [none, none, none, none, none, none, none, none, none] [] (wM kn ne fi se ma on ot ta po ti nu mo wa nx oT cF bg ed sF qu qd tr) Q) r) r) : (fun x : Int32 × Int32 => Go mX6_distanceOf (d + 0) false 0 0 8 [some (vR 0), some (vI y1), none, some (vI y3), some (vI y4), some (vI x.1), some (vI x.2), none, none] [] (wM kn ne fi se ma on ot ta po ti nu mo wa nx oT cF bg ed sF qu qd tr) Q) x := by
  refine loop_go (P := fun x : Int32 × Int32 => Go mX6_distanceOf (d + 0) false 0 0 8 [some (vR 0), some (vI y1), none, some (vI y3), some (vI y4), some (vI x.1), some (vI x.2), none, none] [] (wM kn ne fi se ma on ot ta po ti nu mo wa nx oT cF bg ed sF qu qd tr) Q) (K := fun r : (Int32) ⊕ (Unit) => Sum.elim (fun r : Int32 => Go mX6_distanceOf (d + 0) false 0 0 29 [none, none, none, none, none, none, some (vI r), none, none] [] (wM kn ne fi se ma on ot ta po ti nu mo wa nx oT cF bg ed sF qu qd tr) Q) (fun r : Unit => Go mX6_distanceOf (d + 0) false 0 0 139 [none, none, none, none, none, none, none, none, none] [] (wM kn ne fi se ma on ot ta po ti nu mo wa nx oT cF bg ed sF qu qd tr) Q) r) ?_ x r hl hk
  · intro x y hs hI hE
    unfold b_X6_distanceOf_8 at hs
    show Go mX6_distanceOf (d + 0) false 0 0 8 [some (vR 0), some (vI y1), none, some (vI y3), some (vI y4), some (vI x.1), some (vI x.2), none, none] [] (wM kn ne fi se ma on ot ta po ti nu mo wa nx oT cF bg ed sF qu qd tr) Q
    refine go_iload (pc := 8) dX6_distanceOf_8 rfl ?_
    refine go_aload_n (pc := 10) 0 dX6_distanceOf_10 rfl rfl ?_
    refine go_getfield (pc := 11) (v := vR 1) 0 6 0 dX6_distanceOf_11 flX6_7 rfl rfl ?_
    refine go_iload_n (pc := 14) 1 dX6_distanceOf_14 rfl rfl ?_
    obtain ⟨hi1, hs⟩ := chk_t hs
    refine go_iaload (pc := 15) 1 dX6_distanceOf_15 rfl hi1 ?_
    refine go_icmp_gt (pc := 16) 139 dX6_distanceOf_16 (by decide) (fun h2 => ?_) (fun h2 => ?_)
    · have hs := it_t h2 hs
      obtain rfl := Option.some.inj hs
      refine go_sub (lv' := [none, none, none, none, none, none, none, none, none]) trivial ?_
      exact hE _ rfl
    · have hs := it_f h2 hs
      refine go_iload (pc := 19) dX6_distanceOf_19 rfl ?_
      refine go_iload_n (pc := 21) 3 dX6_distanceOf_21 rfl rfl ?_
      refine go_ishr (pc := 22) dX6_distanceOf_22 ?_
      refine go_iconst (pc := 23) (1 : Int32) dX6_distanceOf_23 (by decide) ?_
      refine go_iand (pc := 24) dX6_distanceOf_24 ?_
      refine go_iconst (pc := 25) (1 : Int32) dX6_distanceOf_25 (by decide) ?_
      refine go_icmp_ne (pc := 26) 32 dX6_distanceOf_26 (by decide) (fun h3 => ?_) (fun h3 => ?_)
      · have hs := it_f h3 hs
        refine go_iload (pc := 32) dX6_distanceOf_32 rfl ?_
        refine go_istore (pc := 34) [some (vR 0), some (vI y1), none, some (vI y3), some (vI y4), some (vI x.1), some (vI x.2), some (vI x.1), none] dX6_distanceOf_34 (by decide) rfl ?_
        refine go_iconst (pc := 36) (0 : Int32) dX6_distanceOf_36 (by decide) ?_
        refine go_istore (pc := 37) [some (vR 0), some (vI y1), none, some (vI y3), some (vI y4), some (vI x.1), some (vI x.2), some (vI x.1), some (vI (0 : Int32))] dX6_distanceOf_37 (by decide) rfl ?_
        obtain ⟨e18, hl19, hs⟩ := bnd hs
        refine g_X6_distanceOf_39 (d := d) _ e18 hl19 ?_
        refine go_iload (pc := 129) dX6_distanceOf_129 rfl ?_
        refine go_istore (pc := 131) [some (vR 0), some (vI y1), none, some (vI y3), some (vI y4), some (vI e18), some (vI x.2), some (vI e18), none] dX6_distanceOf_131 (by decide) rfl ?_
        refine go_iinc (pc := 133) (x.2 + (1 : Int32)) [some (vR 0), some (vI y1), none, some (vI y3), some (vI y4), some (vI e18), some (vI (x.2 + (1 : Int32))), some (vI e18), none] dX6_distanceOf_133 rfl rfl (by decide) rfl ?_
        refine go_goto (pc := 136) 8 dX6_distanceOf_136 (by decide) ?_
        obtain rfl := Option.some.inj hs
        refine go_sub (lv' := [some (vR 0), some (vI y1), none, some (vI y3), some (vI y4), some (vI e18), some (vI (x.2 + (1 : Int32))), none, none]) ⟨rfl, ⟨rfl, ⟨rfl, ⟨rfl, ⟨rfl, ⟨rfl, trivial⟩⟩⟩⟩⟩⟩ ?_
        exact hI _ rfl
      · have hs := it_t h3 hs
        obtain rfl := Option.some.inj hs
        refine go_sub (lv' := [none, none, none, none, none, none, some (vI x.2), none, none]) ⟨rfl, trivial⟩ ?_
        exact hE _ rfl
set_option maxRecDepth 20000 in
theorem c_X6_distanceOf {d : Nat}  {a1 : Int32} {a2 : Int32} {a3 : Int32} {a4 : Int32} {res : Int32} (hs : s_X6_distanceOf kn ma on ot a1 a2 a3 a4 = some res) : Calls mX6_distanceOf (d + 0) false 0 0 [vR 0, vI a1, vI a2, vI a3, vI a4] (wM kn ne fi se ma on ot ta po ti nu mo wa nx oT cF bg ed sF qu qd tr) (fun r w' => r = some (vI res) ∧ w' = (wM kn ne fi se ma on ot ta po ti nu mo wa nx oT cF bg ed sF qu qd tr)) := by
  unfold s_X6_distanceOf at hs
  refine Calls.of kX6_distanceOf 4 [some (vR 0), some (vI a1), some (vI a2), some (vI a3), some (vI a4), none, none, none, none] rfl (Nat.le_of_ble_eq_true rfl) ?_
  refine go_iconst (pc := 0) (1 : Int32) dX6_distanceOf_0 (by decide) ?_
  refine go_iload_n (pc := 1) 2 dX6_distanceOf_1 rfl rfl ?_
  refine go_ishl (pc := 2) dX6_distanceOf_2 ?_
  refine go_istore (pc := 3) [some (vR 0), some (vI a1), some (vI a2), some (vI a3), some (vI a4), some (vI ((1 : Int32) <<< (a2 &&& 31))), none, none, none] dX6_distanceOf_3 (by decide) rfl ?_
  refine go_iconst (pc := 5) (0 : Int32) dX6_distanceOf_5 (by decide) ?_
  refine go_istore (pc := 6) [some (vR 0), some (vI a1), some (vI a2), some (vI a3), some (vI a4), some (vI ((1 : Int32) <<< (a2 &&& 31))), some (vI (0 : Int32)), none, none] dX6_distanceOf_6 (by decide) rfl ?_
  refine go_sub (lv' := [some (vR 0), some (vI a1), none, some (vI a3), some (vI a4), some (vI ((1 : Int32) <<< (a2 &&& 31))), some (vI (0 : Int32)), none, none]) ⟨rfl, ⟨rfl, ⟨rfl, ⟨rfl, ⟨rfl, ⟨rfl, trivial⟩⟩⟩⟩⟩⟩ ?_
  obtain ⟨e20, hl21, hs⟩ := bnd hs
  refine g_X6_distanceOf_8 (d := d) _ e20 hl21 ?_
  rcases e20 with e22 | e23
  · show Go mX6_distanceOf (d + 0) false 0 0 29 [none, none, none, none, none, none, some (vI e22), none, none] [] (wM kn ne fi se ma on ot ta po ti nu mo wa nx oT cF bg ed sF qu qd tr) _
    simp only [Sum.elim_inl] at hs
    refine go_iload (pc := 29) dX6_distanceOf_29 rfl ?_
    obtain rfl := Option.some.inj hs
    exact go_ireturn (st := []) (pc := 31) dX6_distanceOf_31 rfl (vp_nar_int _) (fun h => by cases h) ⟨rfl, rfl⟩
  · show Go mX6_distanceOf (d + 0) false 0 0 139 [none, none, none, none, none, none, none, none, none] [] (wM kn ne fi se ma on ot ta po ti nu mo wa nx oT cF bg ed sF qu qd tr) _
    simp only [Sum.elim_inr] at hs
    refine go_iconst (pc := 139) (-1 : Int32) dX6_distanceOf_139 (by decide) ?_
    obtain rfl := Option.some.inj hs
    exact go_ireturn (st := []) (pc := 140) dX6_distanceOf_140 rfl (vp_nar_int _) (fun h => by cases h) ⟨rfl, rfl⟩
noncomputable def s_X6_distance (kn : (Nat → Int32)) (ne : (Nat → Int32)) (ma : Int32) (on : (Nat → Int32)) (ot : (Nat → Int32)) (a1 : Int32) (a2 : Int32) (a3 : Int32) : Option (Int32 × Int32 × (Nat → Int32) × (Nat → Int32)) := (s_X6_isKnot kn a1 a2).bind (fun x1 => if x1 = 0 then (some ((-2 : Int32), ma, on, ot)) else ((s_X6_isKnot kn a1 a3).bind (fun x4 => if x4 = 0 then (some ((-2 : Int32), ma, on, ot)) else ((s_X6_layLines kn ne ma on ot a1).bind (fun x7 => (s_X6_distanceOf kn x7.1 x7.2.1 x7.2.2 a1 a2 a3 (-1 : Int32)).bind (fun x9 => some (x9, x7.1, x7.2.1, x7.2.2)))))))
set_option maxRecDepth 20000 in
theorem c_X6_distance {d : Nat}  {a1 : Int32} {a2 : Int32} {a3 : Int32} {res : Int32 × Int32 × (Nat → Int32) × (Nat → Int32)} (hs : s_X6_distance kn ne ma on ot a1 a2 a3 = some res) : Calls mX6_distance (d + 3) false 0 0 [vR 0, vI a1, vI a2, vI a3] (wM kn ne fi se ma on ot ta po ti nu mo wa nx oT cF bg ed sF qu qd tr) (fun r w' => r = some (vI res.1) ∧ w' = (wM kn ne fi se res.2.1 res.2.2.1 res.2.2.2 ta po ti nu mo wa nx oT cF bg ed sF qu qd tr)) := by
  unfold s_X6_distance at hs
  refine Calls.of kX6_distance 0 [some (vR 0), some (vI a1), some (vI a2), some (vI a3)] rfl (Nat.le_of_ble_eq_true rfl) ?_
  refine go_aload_n (pc := 0) 0 dX6_distance_0 rfl rfl ?_
  refine go_iload_n (pc := 1) 1 dX6_distance_1 rfl rfl ?_
  refine go_iload_n (pc := 2) 2 dX6_distance_2 rfl rfl ?_
  obtain ⟨x1, hc2, hs⟩ := bnd hs
  refine go_callV (bc := 0) (bs := 0) (mc := 0) (ms := 0) (d := d + 2) (pc := 3) (a := 0) (ci := 6) [vI a1, vI a2] [] dX6_distance_3 kX6_isKnot mlX6_81 ivX6_isKnot rfl rfl rfl rfl (Nat.le_of_ble_eq_true rfl) rfl (c_X6_isKnot (d := d + 0) hc2) (fun r w' hq => ?_)
  obtain ⟨rfl, rfl⟩ := hq
  show Go mX6_distance (d + 3) false 0 0 6 [some (vR 0), some (vI a1), some (vI a2), some (vI a3)] [vI x1] (wM kn ne fi se ma on ot ta po ti nu mo wa nx oT cF bg ed sF qu qd tr) _
  refine go_if_eq (pc := 6) 18 dX6_distance_6 (by decide) (fun h3 => ?_) (fun h3 => ?_)
  · have hs := it_t h3 hs
    refine go_bipush (pc := 18) (-2 : Int32) dX6_distance_18 (by decide) ?_
    obtain rfl := Option.some.inj hs
    exact go_ireturn (st := []) (pc := 20) dX6_distance_20 rfl (vp_nar_int _) (fun h => by cases h) ⟨rfl, rfl⟩
  · have hs := it_f h3 hs
    refine go_aload_n (pc := 9) 0 dX6_distance_9 rfl rfl ?_
    refine go_iload_n (pc := 10) 1 dX6_distance_10 rfl rfl ?_
    refine go_iload_n (pc := 11) 3 dX6_distance_11 rfl rfl ?_
    obtain ⟨x4, hc5, hs⟩ := bnd hs
    refine go_callV (bc := 0) (bs := 0) (mc := 0) (ms := 0) (d := d + 2) (pc := 12) (a := 0) (ci := 6) [vI a1, vI a3] [] dX6_distance_12 kX6_isKnot mlX6_81 ivX6_isKnot rfl rfl rfl rfl (Nat.le_of_ble_eq_true rfl) rfl (c_X6_isKnot (d := d + 0) hc5) (fun r w' hq => ?_)
    obtain ⟨rfl, rfl⟩ := hq
    show Go mX6_distance (d + 3) false 0 0 15 [some (vR 0), some (vI a1), some (vI a2), some (vI a3)] [vI x4] (wM kn ne fi se ma on ot ta po ti nu mo wa nx oT cF bg ed sF qu qd tr) _
    refine go_if_ne (pc := 15) 21 dX6_distance_15 (by decide) (fun h6 => ?_) (fun h6 => ?_)
    · have hs := it_f h6 hs
      refine go_aload_n (pc := 21) 0 dX6_distance_21 rfl rfl ?_
      refine go_iload_n (pc := 22) 1 dX6_distance_22 rfl rfl ?_
      obtain ⟨x7, hc8, hs⟩ := bnd hs
      refine go_callV (bc := 0) (bs := 0) (mc := 0) (ms := 0) (d := d + 2) (pc := 23) (a := 0) (ci := 6) [vI a1] [] dX6_distance_23 kX6_layLines mlX6_109 ivX6_layLines rfl rfl rfl rfl (Nat.le_of_ble_eq_true rfl) rfl (c_X6_layLines (d := d + 1) hc8) (fun r w' hq => ?_)
      obtain ⟨rfl, rfl⟩ := hq
      show Go mX6_distance (d + 3) false 0 0 26 [some (vR 0), some (vI a1), some (vI a2), some (vI a3)] [] (wM kn ne fi se x7.1 x7.2.1 x7.2.2 ta po ti nu mo wa nx oT cF bg ed sF qu qd tr) _
      refine go_aload_n (pc := 26) 0 dX6_distance_26 rfl rfl ?_
      refine go_iload_n (pc := 27) 1 dX6_distance_27 rfl rfl ?_
      refine go_iload_n (pc := 28) 2 dX6_distance_28 rfl rfl ?_
      refine go_iload_n (pc := 29) 3 dX6_distance_29 rfl rfl ?_
      refine go_iconst (pc := 30) (-1 : Int32) dX6_distance_30 (by decide) ?_
      obtain ⟨x9, hc10, hs⟩ := bnd hs
      refine go_callV (bc := 0) (bs := 0) (mc := 0) (ms := 0) (d := d + 2) (pc := 31) (a := 0) (ci := 6) [vI a1, vI a2, vI a3, vI (-1 : Int32)] [] dX6_distance_31 kX6_distanceOf mlX6_173 ivX6_distanceOf rfl rfl rfl rfl (Nat.le_of_ble_eq_true rfl) rfl (c_X6_distanceOf (d := d + 2) hc10) (fun r w' hq => ?_)
      obtain ⟨rfl, rfl⟩ := hq
      show Go mX6_distance (d + 3) false 0 0 34 [some (vR 0), some (vI a1), some (vI a2), some (vI a3)] [vI x9] (wM kn ne fi se x7.1 x7.2.1 x7.2.2 ta po ti nu mo wa nx oT cF bg ed sF qu qd tr) _
      obtain rfl := Option.some.inj hs
      exact go_ireturn (st := []) (pc := 34) dX6_distance_34 rfl (vp_nar_int _) (fun h => by cases h) ⟨rfl, rfl⟩
    · have hs := it_t h6 hs
      refine go_bipush (pc := 18) (-2 : Int32) dX6_distance_18 (by decide) ?_
      obtain rfl := Option.some.inj hs
      exact go_ireturn (st := []) (pc := 20) dX6_distance_20 rfl (vp_nar_int _) (fun h => by cases h) ⟨rfl, rfl⟩
noncomputable def b_X6_round_19 (kn : (Nat → Int32)) (ma : Int32) (on : (Nat → Int32)) (ot : (Nat → Int32)) (y1 : Int32) (x : Int32 × Int32) : Option ((Int32 × Int32) ⊕ (Int32)) := if ma ≤ x.2 then (some (Sum.inr x.1)) else (chk x.2 45 (chk x.2 45 ((s_X6_distanceOf kn ma on ot y1 (on x.2.toNatClampNeg) (ot x.2.toNatClampNeg) x.2).bind (fun x9 => if x9 < 0 then (some (Sum.inl (x.1, x.2 + (1 : Int32)))) else (if x.1 < 0 then (some (Sum.inl (x9 + (1 : Int32), x.2 + (1 : Int32)))) else (if x.1 ≤ (x9 + (1 : Int32)) then (some (Sum.inl (x.1, x.2 + (1 : Int32)))) else (some (Sum.inl (x9 + (1 : Int32), x.2 + (1 : Int32))))))))))
noncomputable def s_X6_round (kn : (Nat → Int32)) (ne : (Nat → Int32)) (ma : Int32) (on : (Nat → Int32)) (ot : (Nat → Int32)) (a1 : Int32) : Option (Int32 × Int32 × (Nat → Int32) × (Nat → Int32)) := (s_X6_isNet a1).bind (fun x1 => if x1 = 0 then (some ((-2 : Int32), ma, on, ot)) else ((s_X6_layLines kn ne ma on ot a1).bind (fun x4 => (loop (b_X6_round_19 kn x4.1 x4.2.1 x4.2.2 a1) ((-1 : Int32), (0 : Int32))).bind (fun e14 => some (e14, x4.1, x4.2.1, x4.2.2)))))
set_option maxRecDepth 20000 in
theorem g_X6_round_19 {d : Nat} {Q : Option AV → List AC → Prop} {y1 : Int32} (x : Int32 × Int32) (r : Int32) (hl : loop (b_X6_round_19 kn ma on ot y1) x = some r) (hk : (fun r : Int32 => Go mX6_round (d + 2) false 0 0 79 [none, none, some (vI r), none, none] [] (wM kn ne fi se ma on ot ta po ti nu mo wa nx oT cF bg ed sF qu qd tr) Q) r) : (fun x : Int32 × Int32 => Go mX6_round (d + 2) false 0 0 19 [some (vR 0), some (vI y1), some (vI x.1), some (vI x.2), none] [] (wM kn ne fi se ma on ot ta po ti nu mo wa nx oT cF bg ed sF qu qd tr) Q) x := by
  refine loop_go (P := fun x : Int32 × Int32 => Go mX6_round (d + 2) false 0 0 19 [some (vR 0), some (vI y1), some (vI x.1), some (vI x.2), none] [] (wM kn ne fi se ma on ot ta po ti nu mo wa nx oT cF bg ed sF qu qd tr) Q) (K := fun r : Int32 => Go mX6_round (d + 2) false 0 0 79 [none, none, some (vI r), none, none] [] (wM kn ne fi se ma on ot ta po ti nu mo wa nx oT cF bg ed sF qu qd tr) Q) ?_ x r hl hk
  · intro x y hs hI hE
    unfold b_X6_round_19 at hs
    show Go mX6_round (d + 2) false 0 0 19 [some (vR 0), some (vI y1), some (vI x.1), some (vI x.2), none] [] (wM kn ne fi se ma on ot ta po ti nu mo wa nx oT cF bg ed sF qu qd tr) Q
    refine go_iload_n (pc := 19) 3 dX6_round_19 rfl rfl ?_
    refine go_aload_n (pc := 20) 0 dX6_round_20 rfl rfl ?_
    refine go_getfield (pc := 21) (v := vI ma) 0 6 4 dX6_round_21 flX6_105 rfl rfl ?_
    refine go_icmp_ge (pc := 24) 79 dX6_round_24 (by decide) (fun h6 => ?_) (fun h6 => ?_)
    · have hs := it_t h6 hs
      obtain rfl := Option.some.inj hs
      refine go_sub (lv' := [none, none, some (vI x.1), none, none]) ⟨rfl, trivial⟩ ?_
      exact hE _ rfl
    · have hs := it_f h6 hs
      refine go_aload_n (pc := 27) 0 dX6_round_27 rfl rfl ?_
      refine go_iload_n (pc := 28) 1 dX6_round_28 rfl rfl ?_
      refine go_aload_n (pc := 29) 0 dX6_round_29 rfl rfl ?_
      refine go_getfield (pc := 30) (v := vR 5) 0 6 5 dX6_round_30 flX6_22 rfl rfl ?_
      refine go_iload_n (pc := 33) 3 dX6_round_33 rfl rfl ?_
      obtain ⟨hi7, hs⟩ := chk_t hs
      refine go_iaload (pc := 34) 5 dX6_round_34 rfl hi7 ?_
      refine go_aload_n (pc := 35) 0 dX6_round_35 rfl rfl ?_
      refine go_getfield (pc := 36) (v := vR 6) 0 6 6 dX6_round_36 flX6_25 rfl rfl ?_
      refine go_iload_n (pc := 39) 3 dX6_round_39 rfl rfl ?_
      obtain ⟨hi8, hs⟩ := chk_t hs
      refine go_iaload (pc := 40) 6 dX6_round_40 rfl hi8 ?_
      refine go_iload_n (pc := 41) 3 dX6_round_41 rfl rfl ?_
      obtain ⟨x9, hc10, hs⟩ := bnd hs
      refine go_callV (bc := 0) (bs := 0) (mc := 0) (ms := 0) (d := d + 1) (pc := 42) (a := 0) (ci := 6) [vI y1, vI (on x.2.toNatClampNeg), vI (ot x.2.toNatClampNeg), vI x.2] [] dX6_round_42 kX6_distanceOf mlX6_173 ivX6_distanceOf rfl rfl rfl rfl (Nat.le_of_ble_eq_true rfl) rfl (c_X6_distanceOf (d := d + 1) hc10) (fun r w' hq => ?_)
      obtain ⟨rfl, rfl⟩ := hq
      show Go mX6_round (d + 2) false 0 0 45 [some (vR 0), some (vI y1), some (vI x.1), some (vI x.2), none] [vI x9] (wM kn ne fi se ma on ot ta po ti nu mo wa nx oT cF bg ed sF qu qd tr) Q
      refine go_istore (pc := 45) [some (vR 0), some (vI y1), some (vI x.1), some (vI x.2), some (vI x9)] dX6_round_45 (by decide) rfl ?_
      refine go_iload (pc := 47) dX6_round_47 rfl ?_
      refine go_if_lt (pc := 49) 71 dX6_round_49 (by decide) (fun h11 => ?_) (fun h11 => ?_)
      · have hs := it_t h11 hs
        refine go_iload_n (pc := 71) 2 dX6_round_71 rfl rfl ?_
        refine go_istore_n (pc := 72) 2 [some (vR 0), some (vI y1), some (vI x.1), some (vI x.2), some (vI x9)] dX6_round_72 rfl (by decide) rfl ?_
        refine go_iinc (pc := 73) (x.2 + (1 : Int32)) [some (vR 0), some (vI y1), some (vI x.1), some (vI (x.2 + (1 : Int32))), some (vI x9)] dX6_round_73 rfl rfl (by decide) rfl ?_
        refine go_goto (pc := 76) 19 dX6_round_76 (by decide) ?_
        obtain rfl := Option.some.inj hs
        refine go_sub (lv' := [some (vR 0), some (vI y1), some (vI x.1), some (vI (x.2 + (1 : Int32))), none]) ⟨rfl, ⟨rfl, ⟨rfl, ⟨rfl, trivial⟩⟩⟩⟩ ?_
        exact hI _ rfl
      · have hs := it_f h11 hs
        refine go_iload_n (pc := 52) 2 dX6_round_52 rfl rfl ?_
        refine go_if_lt (pc := 53) 64 dX6_round_53 (by decide) (fun h12 => ?_) (fun h12 => ?_)
        · have hs := it_t h12 hs
          refine go_iload (pc := 64) dX6_round_64 rfl ?_
          refine go_iconst (pc := 66) (1 : Int32) dX6_round_66 (by decide) ?_
          refine go_iadd (pc := 67) dX6_round_67 ?_
          refine go_goto (pc := 68) 72 dX6_round_68 (by decide) ?_
          refine go_istore_n (pc := 72) 2 [some (vR 0), some (vI y1), some (vI (x9 + (1 : Int32))), some (vI x.2), some (vI x9)] dX6_round_72 rfl (by decide) rfl ?_
          refine go_iinc (pc := 73) (x.2 + (1 : Int32)) [some (vR 0), some (vI y1), some (vI (x9 + (1 : Int32))), some (vI (x.2 + (1 : Int32))), some (vI x9)] dX6_round_73 rfl rfl (by decide) rfl ?_
          refine go_goto (pc := 76) 19 dX6_round_76 (by decide) ?_
          obtain rfl := Option.some.inj hs
          refine go_sub (lv' := [some (vR 0), some (vI y1), some (vI (x9 + (1 : Int32))), some (vI (x.2 + (1 : Int32))), none]) ⟨rfl, ⟨rfl, ⟨rfl, ⟨rfl, trivial⟩⟩⟩⟩ ?_
          exact hI _ rfl
        · have hs := it_f h12 hs
          refine go_iload (pc := 56) dX6_round_56 rfl ?_
          refine go_iconst (pc := 58) (1 : Int32) dX6_round_58 (by decide) ?_
          refine go_iadd (pc := 59) dX6_round_59 ?_
          refine go_iload_n (pc := 60) 2 dX6_round_60 rfl rfl ?_
          refine go_icmp_ge (pc := 61) 71 dX6_round_61 (by decide) (fun h13 => ?_) (fun h13 => ?_)
          · have hs := it_t h13 hs
            refine go_iload_n (pc := 71) 2 dX6_round_71 rfl rfl ?_
            refine go_istore_n (pc := 72) 2 [some (vR 0), some (vI y1), some (vI x.1), some (vI x.2), some (vI x9)] dX6_round_72 rfl (by decide) rfl ?_
            refine go_iinc (pc := 73) (x.2 + (1 : Int32)) [some (vR 0), some (vI y1), some (vI x.1), some (vI (x.2 + (1 : Int32))), some (vI x9)] dX6_round_73 rfl rfl (by decide) rfl ?_
            refine go_goto (pc := 76) 19 dX6_round_76 (by decide) ?_
            obtain rfl := Option.some.inj hs
            refine go_sub (lv' := [some (vR 0), some (vI y1), some (vI x.1), some (vI (x.2 + (1 : Int32))), none]) ⟨rfl, ⟨rfl, ⟨rfl, ⟨rfl, trivial⟩⟩⟩⟩ ?_
            exact hI _ rfl
          · have hs := it_f h13 hs
            refine go_iload (pc := 64) dX6_round_64 rfl ?_
            refine go_iconst (pc := 66) (1 : Int32) dX6_round_66 (by decide) ?_
            refine go_iadd (pc := 67) dX6_round_67 ?_
            refine go_goto (pc := 68) 72 dX6_round_68 (by decide) ?_
            refine go_istore_n (pc := 72) 2 [some (vR 0), some (vI y1), some (vI (x9 + (1 : Int32))), some (vI x.2), some (vI x9)] dX6_round_72 rfl (by decide) rfl ?_
            refine go_iinc (pc := 73) (x.2 + (1 : Int32)) [some (vR 0), some (vI y1), some (vI (x9 + (1 : Int32))), some (vI (x.2 + (1 : Int32))), some (vI x9)] dX6_round_73 rfl rfl (by decide) rfl ?_
            refine go_goto (pc := 76) 19 dX6_round_76 (by decide) ?_
            obtain rfl := Option.some.inj hs
            refine go_sub (lv' := [some (vR 0), some (vI y1), some (vI (x9 + (1 : Int32))), some (vI (x.2 + (1 : Int32))), none]) ⟨rfl, ⟨rfl, ⟨rfl, ⟨rfl, trivial⟩⟩⟩⟩ ?_
            exact hI _ rfl
set_option maxRecDepth 20000 in
theorem c_X6_round {d : Nat}  {a1 : Int32} {res : Int32 × Int32 × (Nat → Int32) × (Nat → Int32)} (hs : s_X6_round kn ne ma on ot a1 = some res) : Calls mX6_round (d + 2) false 0 0 [vR 0, vI a1] (wM kn ne fi se ma on ot ta po ti nu mo wa nx oT cF bg ed sF qu qd tr) (fun r w' => r = some (vI res.1) ∧ w' = (wM kn ne fi se res.2.1 res.2.2.1 res.2.2.2 ta po ti nu mo wa nx oT cF bg ed sF qu qd tr)) := by
  unfold s_X6_round at hs
  refine Calls.of kX6_round 3 [some (vR 0), some (vI a1), none, none, none] rfl (Nat.le_of_ble_eq_true rfl) ?_
  refine go_iload_n (pc := 0) 1 dX6_round_0 rfl rfl ?_
  obtain ⟨x1, hc2, hs⟩ := bnd hs
  refine go_callS (bc := 0) (bs := 0) (mc := 0) (ms := 0) (d := d + 1) (pc := 1) [vI a1] [] dX6_round_1 kX6_isNet mlX6_69 isX6_isNet rfl (Nat.le_of_ble_eq_true rfl) rfl (c_X6_isNet (d := d + 0) hc2) (fun r w' hq => ?_)
  obtain ⟨rfl, rfl⟩ := hq
  show Go mX6_round (d + 2) false 0 0 4 [some (vR 0), some (vI a1), none, none, none] [vI x1] (wM kn ne fi se ma on ot ta po ti nu mo wa nx oT cF bg ed sF qu qd tr) _
  refine go_if_ne (pc := 4) 10 dX6_round_4 (by decide) (fun h3 => ?_) (fun h3 => ?_)
  · have hs := it_f h3 hs
    refine go_aload_n (pc := 10) 0 dX6_round_10 rfl rfl ?_
    refine go_iload_n (pc := 11) 1 dX6_round_11 rfl rfl ?_
    obtain ⟨x4, hc5, hs⟩ := bnd hs
    refine go_callV (bc := 0) (bs := 0) (mc := 0) (ms := 0) (d := d + 1) (pc := 12) (a := 0) (ci := 6) [vI a1] [] dX6_round_12 kX6_layLines mlX6_109 ivX6_layLines rfl rfl rfl rfl (Nat.le_of_ble_eq_true rfl) rfl (c_X6_layLines (d := d + 0) hc5) (fun r w' hq => ?_)
    obtain ⟨rfl, rfl⟩ := hq
    show Go mX6_round (d + 2) false 0 0 15 [some (vR 0), some (vI a1), none, none, none] [] (wM kn ne fi se x4.1 x4.2.1 x4.2.2 ta po ti nu mo wa nx oT cF bg ed sF qu qd tr) _
    refine go_iconst (pc := 15) (-1 : Int32) dX6_round_15 (by decide) ?_
    refine go_istore_n (pc := 16) 2 [some (vR 0), some (vI a1), some (vI (-1 : Int32)), none, none] dX6_round_16 rfl (by decide) rfl ?_
    refine go_iconst (pc := 17) (0 : Int32) dX6_round_17 (by decide) ?_
    refine go_istore_n (pc := 18) 3 [some (vR 0), some (vI a1), some (vI (-1 : Int32)), some (vI (0 : Int32)), none] dX6_round_18 rfl (by decide) rfl ?_
    obtain ⟨e14, hl15, hs⟩ := bnd hs
    refine g_X6_round_19 (d := d) _ e14 hl15 ?_
    refine go_iload_n (pc := 79) 2 dX6_round_79 rfl rfl ?_
    obtain rfl := Option.some.inj hs
    exact go_ireturn (st := []) (pc := 80) dX6_round_80 rfl (vp_nar_int _) (fun h => by cases h) ⟨rfl, rfl⟩
  · have hs := it_t h3 hs
    refine go_bipush (pc := 7) (-2 : Int32) dX6_round_7 (by decide) ?_
    obtain rfl := Option.some.inj hs
    exact go_ireturn (st := []) (pc := 9) dX6_round_9 rfl (vp_nar_int _) (fun h => by cases h) ⟨rfl, rfl⟩
noncomputable def b_X6_oddOnes_5 (ma : Int32) (on : (Nat → Int32)) (ot : (Nat → Int32)) (y1 : Int64) (x : Int32 × Int32) : Option ((Int32 × Int32) ⊕ (Int32)) := if ma ≤ x.2 then (some (Sum.inr x.1)) else (if (lg_cmp ((y1 >>> (x.2.toInt64 &&& 63)) &&& (1 : Int64)) (1 : Int64)) = 0 then (chk x.2 45 (chk x.2 45 (lt' (x.1 ^^^ (((1 : Int32) <<< ((on x.2.toNatClampNeg) &&& 31)) ^^^ ((1 : Int32) <<< ((ot x.2.toNatClampNeg) &&& 31)))) (fun z5 => some (Sum.inl (z5, x.2 + (1 : Int32))))))) else (some (Sum.inl (x.1 ^^^ (0 : Int32), x.2 + (1 : Int32)))))
noncomputable def s_X6_oddOnes (ma : Int32) (on : (Nat → Int32)) (ot : (Nat → Int32)) (a1 : Int64) : Option (Int32) := (loop (b_X6_oddOnes_5 ma on ot a1) ((0 : Int32), (0 : Int32))).bind (fun e6 => some e6)
set_option maxRecDepth 20000 in
theorem g_X6_oddOnes_5 {d : Nat} {Q : Option AV → List AC → Prop} {y1 : Int64} (x : Int32 × Int32) (r : Int32) (hl : loop (b_X6_oddOnes_5 ma on ot y1) x = some r) (hk : (fun r : Int32 => Go mX6_oddOnes (d + 0) false 0 0 57 [none, none, none, some (vI r), none] [] (wM kn ne fi se ma on ot ta po ti nu mo wa nx oT cF bg ed sF qu qd tr) Q) r) : (fun x : Int32 × Int32 => Go mX6_oddOnes (d + 0) false 0 0 5 [some (vR 0), some (vL y1), none, some (vI x.1), some (vI x.2)] [] (wM kn ne fi se ma on ot ta po ti nu mo wa nx oT cF bg ed sF qu qd tr) Q) x := by
  refine loop_go (P := fun x : Int32 × Int32 => Go mX6_oddOnes (d + 0) false 0 0 5 [some (vR 0), some (vL y1), none, some (vI x.1), some (vI x.2)] [] (wM kn ne fi se ma on ot ta po ti nu mo wa nx oT cF bg ed sF qu qd tr) Q) (K := fun r : Int32 => Go mX6_oddOnes (d + 0) false 0 0 57 [none, none, none, some (vI r), none] [] (wM kn ne fi se ma on ot ta po ti nu mo wa nx oT cF bg ed sF qu qd tr) Q) ?_ x r hl hk
  · intro x y hs hI hE
    unfold b_X6_oddOnes_5 at hs
    show Go mX6_oddOnes (d + 0) false 0 0 5 [some (vR 0), some (vL y1), none, some (vI x.1), some (vI x.2)] [] (wM kn ne fi se ma on ot ta po ti nu mo wa nx oT cF bg ed sF qu qd tr) Q
    refine go_iload (pc := 5) dX6_oddOnes_5 rfl ?_
    refine go_aload_n (pc := 7) 0 dX6_oddOnes_7 rfl rfl ?_
    refine go_getfield (pc := 8) (v := vI ma) 0 6 4 dX6_oddOnes_8 flX6_105 rfl rfl ?_
    refine go_icmp_ge (pc := 11) 57 dX6_oddOnes_11 (by decide) (fun h1 => ?_) (fun h1 => ?_)
    · have hs := it_t h1 hs
      obtain rfl := Option.some.inj hs
      refine go_sub (lv' := [none, none, none, some (vI x.1), none]) ⟨rfl, trivial⟩ ?_
      exact hE _ rfl
    · have hs := it_f h1 hs
      refine go_iload_n (pc := 14) 3 dX6_oddOnes_14 rfl rfl ?_
      refine go_lload_n (pc := 15) 1 dX6_oddOnes_15 rfl rfl ?_
      refine go_iload (pc := 16) dX6_oddOnes_16 rfl ?_
      refine go_lshr (pc := 18) dX6_oddOnes_18 ?_
      refine go_lconst (pc := 19) (1 : Int64) dX6_oddOnes_19 (by decide) ?_
      refine go_land (pc := 20) dX6_oddOnes_20 ?_
      refine go_lconst (pc := 21) (1 : Int64) dX6_oddOnes_21 (by decide) ?_
      refine go_lcmp (pc := 22) dX6_oddOnes_22 ?_
      refine go_if_ne (pc := 23) 48 dX6_oddOnes_23 (by decide) (fun h2 => ?_) (fun h2 => ?_)
      · have hs := it_f h2 hs
        refine go_iconst (pc := 48) (0 : Int32) dX6_oddOnes_48 (by decide) ?_
        refine go_ixor (pc := 49) dX6_oddOnes_49 ?_
        refine go_istore_n (pc := 50) 3 [some (vR 0), some (vL y1), none, some (vI (x.1 ^^^ (0 : Int32))), some (vI x.2)] dX6_oddOnes_50 rfl (by decide) rfl ?_
        refine go_iinc (pc := 51) (x.2 + (1 : Int32)) [some (vR 0), some (vL y1), none, some (vI (x.1 ^^^ (0 : Int32))), some (vI (x.2 + (1 : Int32)))] dX6_oddOnes_51 rfl rfl (by decide) rfl ?_
        refine go_goto (pc := 54) 5 dX6_oddOnes_54 (by decide) ?_
        obtain rfl := Option.some.inj hs
        exact hI _ rfl
      · have hs := it_t h2 hs
        refine go_iconst (pc := 26) (1 : Int32) dX6_oddOnes_26 (by decide) ?_
        refine go_aload_n (pc := 27) 0 dX6_oddOnes_27 rfl rfl ?_
        refine go_getfield (pc := 28) (v := vR 5) 0 6 5 dX6_oddOnes_28 flX6_22 rfl rfl ?_
        refine go_iload (pc := 31) dX6_oddOnes_31 rfl ?_
        obtain ⟨hi3, hs⟩ := chk_t hs
        refine go_iaload (pc := 33) 5 dX6_oddOnes_33 rfl hi3 ?_
        refine go_ishl (pc := 34) dX6_oddOnes_34 ?_
        refine go_iconst (pc := 35) (1 : Int32) dX6_oddOnes_35 (by decide) ?_
        refine go_aload_n (pc := 36) 0 dX6_oddOnes_36 rfl rfl ?_
        refine go_getfield (pc := 37) (v := vR 6) 0 6 6 dX6_oddOnes_37 flX6_25 rfl rfl ?_
        refine go_iload (pc := 40) dX6_oddOnes_40 rfl ?_
        obtain ⟨hi4, hs⟩ := chk_t hs
        refine go_iaload (pc := 42) 6 dX6_oddOnes_42 rfl hi4 ?_
        refine go_ishl (pc := 43) dX6_oddOnes_43 ?_
        refine go_ixor (pc := 44) dX6_oddOnes_44 ?_
        refine go_goto (pc := 45) 49 dX6_oddOnes_45 (by decide) ?_
        refine go_ixor (pc := 49) dX6_oddOnes_49 ?_
        refine go_topi (fun z5 ez5 => ?_)
        have hs := lt_t ez5 hs
        refine go_istore_n (pc := 50) 3 [some (vR 0), some (vL y1), none, some (vI z5), some (vI x.2)] dX6_oddOnes_50 rfl (by decide) rfl ?_
        refine go_iinc (pc := 51) (x.2 + (1 : Int32)) [some (vR 0), some (vL y1), none, some (vI z5), some (vI (x.2 + (1 : Int32)))] dX6_oddOnes_51 rfl rfl (by decide) rfl ?_
        refine go_goto (pc := 54) 5 dX6_oddOnes_54 (by decide) ?_
        obtain rfl := Option.some.inj hs
        exact hI _ rfl
set_option maxRecDepth 20000 in
theorem c_X6_oddOnes {d : Nat}  {a1 : Int64} {res : Int32} (hs : s_X6_oddOnes ma on ot a1 = some res) : Calls mX6_oddOnes (d + 0) false 0 0 [vR 0, vL a1] (wM kn ne fi se ma on ot ta po ti nu mo wa nx oT cF bg ed sF qu qd tr) (fun r w' => r = some (vI res) ∧ w' = (wM kn ne fi se ma on ot ta po ti nu mo wa nx oT cF bg ed sF qu qd tr)) := by
  unfold s_X6_oddOnes at hs
  refine Calls.of kX6_oddOnes 2 [some (vR 0), some (vL a1), none, none, none] rfl (Nat.le_of_ble_eq_true rfl) ?_
  refine go_iconst (pc := 0) (0 : Int32) dX6_oddOnes_0 (by decide) ?_
  refine go_istore_n (pc := 1) 3 [some (vR 0), some (vL a1), none, some (vI (0 : Int32)), none] dX6_oddOnes_1 rfl (by decide) rfl ?_
  refine go_iconst (pc := 2) (0 : Int32) dX6_oddOnes_2 (by decide) ?_
  refine go_istore (pc := 3) [some (vR 0), some (vL a1), none, some (vI (0 : Int32)), some (vI (0 : Int32))] dX6_oddOnes_3 (by decide) rfl ?_
  obtain ⟨e6, hl7, hs⟩ := bnd hs
  refine g_X6_oddOnes_5 (d := d) _ e6 hl7 ?_
  refine go_iload_n (pc := 57) 3 dX6_oddOnes_57 rfl rfl ?_
  obtain rfl := Option.some.inj hs
  exact go_ireturn (st := []) (pc := 58) dX6_oddOnes_58 rfl (vp_nar_int _) (fun h => by cases h) ⟨rfl, rfl⟩
end
