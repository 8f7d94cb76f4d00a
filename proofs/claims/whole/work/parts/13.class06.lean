section
variable {cK : (Nat → Int32)} {cF : (Nat → Nat → Int32)} {ga : Int32} {gi : Int32} {gs : Int32} {oK : Int32} {cT : (Nat → Nat → Int32)} {ra : (Fin 2)} {rb : (Fin 2)} {cR : (Nat → Nat → Nat → Int64)} {cP : (Nat → Int64)} {cM : (Nat → Int64)} {ea : (Fin 2)} {eb : (Fin 2)} {cW : (Nat → Nat → Int64)} {aO : (Nat → Int32)} {aC : (Nat → Int32)} {aQ : (Nat → Int32)}
noncomputable def b_X3_fillTable_31 (cF : (Nat → Nat → Int32)) (oK : Int32) (p1 : (Fin 5)) (y2 : Int32) (y4 : Int32) (x : Int32 × Int32 × (Nat → Nat → Int32)) : Option ((Int32 × Int32 × (Nat → Nat → Int32)) ⊕ (Int32 × (Nat → Nat → Int32))) := if oK ≤ x.2.1 then (some (Sum.inr (x.1, x.2.2))) else ((s_X2_joins cF p1 y4 x.2.1).bind (fun x5 => if x5 = 0 then (chk y4 10 (chk x.2.1 10 (chk x.2.1 10 (chk y4 10 (some (Sum.inl (x.1, x.2.1 + (1 : Int32), va_up (va_up x.2.2 (fin10 y4.toNatClampNeg).1 (upd (x.2.2 (fin10 y4.toNatClampNeg).1) x.2.1.toNatClampNeg (0 : Int32))) (fin10 x.2.1.toNatClampNeg).1 (upd ((va_up x.2.2 (fin10 y4.toNatClampNeg).1 (upd (x.2.2 (fin10 y4.toNatClampNeg).1) x.2.1.toNatClampNeg (0 : Int32))) (fin10 x.2.1.toNatClampNeg).1) y4.toNatClampNeg (0 : Int32))))))))) else (if (31 : Int32) ≤ x.1 then (chk y4 10 (chk x.2.1 10 (chk x.2.1 10 (chk y4 10 (some (Sum.inl (x.1 + (1 : Int32), x.2.1 + (1 : Int32), va_up (va_up x.2.2 (fin10 y4.toNatClampNeg).1 (upd (x.2.2 (fin10 y4.toNatClampNeg).1) x.2.1.toNatClampNeg (1 : Int32))) (fin10 x.2.1.toNatClampNeg).1 (upd ((va_up x.2.2 (fin10 y4.toNatClampNeg).1 (upd (x.2.2 (fin10 y4.toNatClampNeg).1) x.2.1.toNatClampNeg (1 : Int32))) (fin10 x.2.1.toNatClampNeg).1) y4.toNatClampNeg (1 : Int32))))))))) else (if ((y2 >>> (x.1 &&& 31)) &&& (1 : Int32)) = (1 : Int32) then (chk y4 10 (chk x.2.1 10 (chk x.2.1 10 (chk y4 10 (some (Sum.inl (x.1 + (1 : Int32), x.2.1 + (1 : Int32), va_up (va_up x.2.2 (fin10 y4.toNatClampNeg).1 (upd (x.2.2 (fin10 y4.toNatClampNeg).1) x.2.1.toNatClampNeg (-1 : Int32))) (fin10 x.2.1.toNatClampNeg).1 (upd ((va_up x.2.2 (fin10 y4.toNatClampNeg).1 (upd (x.2.2 (fin10 y4.toNatClampNeg).1) x.2.1.toNatClampNeg (-1 : Int32))) (fin10 x.2.1.toNatClampNeg).1) y4.toNatClampNeg (-1 : Int32))))))))) else (chk y4 10 (chk x.2.1 10 (chk x.2.1 10 (chk y4 10 (some (Sum.inl (x.1 + (1 : Int32), x.2.1 + (1 : Int32), va_up (va_up x.2.2 (fin10 y4.toNatClampNeg).1 (upd (x.2.2 (fin10 y4.toNatClampNeg).1) x.2.1.toNatClampNeg (1 : Int32))) (fin10 x.2.1.toNatClampNeg).1 (upd ((va_up x.2.2 (fin10 y4.toNatClampNeg).1 (upd (x.2.2 (fin10 y4.toNatClampNeg).1) x.2.1.toNatClampNeg (1 : Int32))) (fin10 x.2.1.toNatClampNeg).1) y4.toNatClampNeg (1 : Int32)))))))))))))
noncomputable def b_X3_fillTable_5 (cF : (Nat → Nat → Int32)) (oK : Int32) (p1 : (Fin 5)) (y2 : Int32) (x : Int32 × Int32 × (Nat → Nat → Int32)) : Option ((Int32 × Int32 × (Nat → Nat → Int32)) ⊕ ((Nat → Nat → Int32))) := if oK ≤ x.2.1 then (some (Sum.inr x.2.2)) else (chk x.2.1 10 (chk x.2.1 10 ((loop (b_X3_fillTable_31 cF oK p1 y2 x.2.1) (x.1, x.2.1 + (1 : Int32), va_up x.2.2 (fin10 x.2.1.toNatClampNeg).1 (upd (x.2.2 (fin10 x.2.1.toNatClampNeg).1) x.2.1.toNatClampNeg (0 : Int32)))).bind (fun e26 => some (Sum.inl (e26.1, x.2.1 + (1 : Int32), e26.2))))))
noncomputable def s_X3_fillTable (cF : (Nat → Nat → Int32)) (oK : Int32) (cT : (Nat → Nat → Int32)) (p1 : (Fin 5)) (a2 : Int32) : Option ((Nat → Nat → Int32)) := (loop (b_X3_fillTable_5 cF oK p1 a2) ((0 : Int32), (0 : Int32), cT)).bind (fun e31 => some e31)
set_option maxRecDepth 20000 in
theorem g_X3_fillTable_31 {d : Nat} {p1 : (Fin 5)} {Q : Option AV → List AC → Prop} {y2 : Int32} {y4 : Int32}  (x0_ : Int32) (x1_ : Int32) (x2_ : (Nat → Nat → Int32)) (r : Int32 × (Nat → Nat → Int32)) (hl : loop (b_X3_fillTable_31 cF oK p1 y2 y4) (x0_, x1_, x2_) = some r) (hk : ∀ (r0_ : Int32) (r1_ : (Nat → Nat → Int32)), r = (r0_, r1_) → Go mX3_fillTable (d + 1) false 0 0 109 [some (vR 5), some (vR (pN p1.1)), some (vI y2), some (vI r0_), some (vI y4), none, none] [] (wC cK cF ga gi gs oK r1_ ra rb cR cP cM ea eb cW aO aC aQ) Q) : Go mX3_fillTable (d + 1) false 0 0 31 [some (vR 5), some (vR (pN p1.1)), some (vI y2), some (vI x0_), some (vI y4), some (vI x1_), none] [] (wC cK cF ga gi gs oK x2_ ra rb cR cP cM ea eb cW aO aC aQ) Q := by
  refine loop_go (P := fun x : Int32 × Int32 × (Nat → Nat → Int32) => ∀ (x0_ : Int32) (x1_ : Int32) (x2_ : (Nat → Nat → Int32)), x = (x0_, x1_, x2_) → Go mX3_fillTable (d + 1) false 0 0 31 [some (vR 5), some (vR (pN p1.1)), some (vI y2), some (vI x0_), some (vI y4), some (vI x1_), none] [] (wC cK cF ga gi gs oK x2_ ra rb cR cP cM ea eb cW aO aC aQ) Q) (K := fun r : Int32 × (Nat → Nat → Int32) => ∀ (r0_ : Int32) (r1_ : (Nat → Nat → Int32)), r = (r0_, r1_) → Go mX3_fillTable (d + 1) false 0 0 109 [some (vR 5), some (vR (pN p1.1)), some (vI y2), some (vI r0_), some (vI y4), none, none] [] (wC cK cF ga gi gs oK r1_ ra rb cR cP cM ea eb cW aO aC aQ) Q) ?_ (x0_, x1_, x2_) r hl hk x0_ x1_ x2_ rfl
  · intro x y hs hI hE x0_ x1_ x2_ hx
    subst hx
    unfold b_X3_fillTable_31 at hs
    try dsimp only at hs
    refine go_iload (pc := 31) dX3_fillTable_31 rfl ?_
    refine go_aload_n (pc := 33) 0 dX3_fillTable_33 rfl rfl ?_
    refine go_getfield (pc := 34) (v := vI oK) 5 3 0 dX3_fillTable_34 flX3_37 rfl rfl ?_
    refine go_icmp_ge (pc := 37) 109 dX3_fillTable_37 (by decide) (fun h4 => ?_) (fun h4 => ?_)
    · have hs := it_t h4 hs
      obtain rfl := Option.some.inj hs
      refine go_sub (lv' := [some (vR 5), some (vR (pN p1.1)), some (vI y2), some (vI x0_), some (vI y4), none, none]) ⟨rfl, ⟨rfl, ⟨rfl, ⟨rfl, ⟨rfl, trivial⟩⟩⟩⟩⟩ ?_
      exact (hE (x0_, x2_) rfl) x0_ x2_ rfl
    · have hs := it_f h4 hs
      refine go_iconst (pc := 40) (0 : Int32) dX3_fillTable_40 (by decide) ?_
      refine go_istore (pc := 41) [some (vR 5), some (vR (pN p1.1)), some (vI y2), some (vI x0_), some (vI y4), some (vI x1_), some (vI (0 : Int32))] dX3_fillTable_41 (by decide) rfl ?_
      refine go_aload_n (pc := 43) 1 dX3_fillTable_43 rfl rfl ?_
      refine go_iload (pc := 44) dX3_fillTable_44 rfl ?_
      refine go_iload (pc := 46) dX3_fillTable_46 rfl ?_
      obtain ⟨x5, hc6, hs⟩ := bnd hs
      refine go_callV (bc := 0) (bs := 0) (mc := 0) (ms := 0) (d := d + 0) (pc := 48) (a := (pN p1.1)) (ci := 2) [vI y4, vI x1_] [] dX3_fillTable_48 kX2_joins mlX3_65 ivX2_joins rfl rfl (wC_net p1) rfl (Nat.le_of_ble_eq_true rfl) rfl (c_X2_joins (d := d + 0) (res0 := x5) hc6) (fun r w' hq => ?_)
      obtain ⟨rfl, rfl⟩ := hq
      show Go mX3_fillTable (d + 1) false 0 0 51 [some (vR 5), some (vR (pN p1.1)), some (vI y2), some (vI x0_), some (vI y4), some (vI x1_), some (vI (0 : Int32))] [vI x5] (wC cK cF ga gi gs oK x2_ ra rb cR cP cM ea eb cW aO aC aQ) Q
      refine go_if_eq (pc := 51) 79 dX3_fillTable_51 (by decide) (fun h7 => ?_) (fun h7 => ?_)
      · have hs := it_t h7 hs
        refine go_aload_n (pc := 79) 0 dX3_fillTable_79 rfl rfl ?_
        refine go_getfield (pc := 80) (v := vR 6) 5 3 1 dX3_fillTable_80 flX3_11 rfl rfl ?_
        refine go_iload (pc := 83) dX3_fillTable_83 rfl ?_
        obtain ⟨hi8, hs⟩ := chk_t hs
        refine go_aaload (pc := 85) 6 3 dX3_fillTable_85 (by decide) rfl hi8 ?_
        show Go mX3_fillTable (d + 1) false 0 0 86 [some (vR 5), some (vR (pN p1.1)), some (vI y2), some (vI x0_), some (vI y4), some (vI x1_), some (vI (0 : Int32))] [vR (7 + (fin10 y4.toNatClampNeg).1)] (wC cK cF ga gi gs oK x2_ ra rb cR cP cM ea eb cW aO aC aQ) Q
        refine go_iload (pc := 86) dX3_fillTable_86 rfl ?_
        refine go_iload (pc := 88) dX3_fillTable_88 rfl ?_
        obtain ⟨hi9, hs⟩ := chk_t hs
        refine go_iastore (pc := 90) (7 + (fin10 y4.toNatClampNeg).1) dX3_fillTable_90 (wC_trow (fin10 y4.toNatClampNeg)) hi9 (go_w (wC_strow (fin10 y4.toNatClampNeg)) (show Go mX3_fillTable (d + 1) false 0 0 91 [some (vR 5), some (vR (pN p1.1)), some (vI y2), some (vI x0_), some (vI y4), some (vI x1_), some (vI (0 : Int32))] [] (wC cK cF ga gi gs oK (va_up x2_ (fin10 y4.toNatClampNeg).1 (upd (x2_ (fin10 y4.toNatClampNeg).1) x1_.toNatClampNeg (0 : Int32))) ra rb cR cP cM ea eb cW aO aC aQ) Q from ?_))
        refine go_aload_n (pc := 91) 0 dX3_fillTable_91 rfl rfl ?_
        refine go_getfield (pc := 92) (v := vR 6) 5 3 1 dX3_fillTable_92 flX3_11 rfl rfl ?_
        refine go_iload (pc := 95) dX3_fillTable_95 rfl ?_
        obtain ⟨hi10, hs⟩ := chk_t hs
        refine go_aaload (pc := 97) 6 3 dX3_fillTable_97 (by decide) rfl hi10 ?_
        show Go mX3_fillTable (d + 1) false 0 0 98 [some (vR 5), some (vR (pN p1.1)), some (vI y2), some (vI x0_), some (vI y4), some (vI x1_), some (vI (0 : Int32))] [vR (7 + (fin10 x1_.toNatClampNeg).1)] (wC cK cF ga gi gs oK (va_up x2_ (fin10 y4.toNatClampNeg).1 (upd (x2_ (fin10 y4.toNatClampNeg).1) x1_.toNatClampNeg (0 : Int32))) ra rb cR cP cM ea eb cW aO aC aQ) Q
        refine go_iload (pc := 98) dX3_fillTable_98 rfl ?_
        refine go_iload (pc := 100) dX3_fillTable_100 rfl ?_
        obtain ⟨hi11, hs⟩ := chk_t hs
        refine go_iastore (pc := 102) (7 + (fin10 x1_.toNatClampNeg).1) dX3_fillTable_102 (wC_trow (fin10 x1_.toNatClampNeg)) hi11 (go_w (wC_strow (fin10 x1_.toNatClampNeg)) (show Go mX3_fillTable (d + 1) false 0 0 103 [some (vR 5), some (vR (pN p1.1)), some (vI y2), some (vI x0_), some (vI y4), some (vI x1_), some (vI (0 : Int32))] [] (wC cK cF ga gi gs oK (va_up (va_up x2_ (fin10 y4.toNatClampNeg).1 (upd (x2_ (fin10 y4.toNatClampNeg).1) x1_.toNatClampNeg (0 : Int32))) (fin10 x1_.toNatClampNeg).1 (upd ((va_up x2_ (fin10 y4.toNatClampNeg).1 (upd (x2_ (fin10 y4.toNatClampNeg).1) x1_.toNatClampNeg (0 : Int32))) (fin10 x1_.toNatClampNeg).1) y4.toNatClampNeg (0 : Int32))) ra rb cR cP cM ea eb cW aO aC aQ) Q from ?_))
        refine go_iinc (pc := 103) (x1_ + (1 : Int32)) [some (vR 5), some (vR (pN p1.1)), some (vI y2), some (vI x0_), some (vI y4), some (vI (x1_ + (1 : Int32))), some (vI (0 : Int32))] dX3_fillTable_103 rfl (iinc_1 _) (by decide) rfl ?_
        refine go_goto (pc := 106) 31 dX3_fillTable_106 (by decide) ?_
        obtain rfl := Option.some.inj hs
        refine go_sub (lv' := [some (vR 5), some (vR (pN p1.1)), some (vI y2), some (vI x0_), some (vI y4), some (vI (x1_ + (1 : Int32))), none]) ⟨rfl, ⟨rfl, ⟨rfl, ⟨rfl, ⟨rfl, ⟨rfl, trivial⟩⟩⟩⟩⟩⟩ ?_
        exact hI (x0_, x1_ + (1 : Int32), va_up (va_up x2_ (fin10 y4.toNatClampNeg).1 (upd (x2_ (fin10 y4.toNatClampNeg).1) x1_.toNatClampNeg (0 : Int32))) (fin10 x1_.toNatClampNeg).1 (upd ((va_up x2_ (fin10 y4.toNatClampNeg).1 (upd (x2_ (fin10 y4.toNatClampNeg).1) x1_.toNatClampNeg (0 : Int32))) (fin10 x1_.toNatClampNeg).1) y4.toNatClampNeg (0 : Int32))) rfl x0_ (x1_ + (1 : Int32)) (va_up (va_up x2_ (fin10 y4.toNatClampNeg).1 (upd (x2_ (fin10 y4.toNatClampNeg).1) x1_.toNatClampNeg (0 : Int32))) (fin10 x1_.toNatClampNeg).1 (upd ((va_up x2_ (fin10 y4.toNatClampNeg).1 (upd (x2_ (fin10 y4.toNatClampNeg).1) x1_.toNatClampNeg (0 : Int32))) (fin10 x1_.toNatClampNeg).1) y4.toNatClampNeg (0 : Int32))) rfl
      · have hs := it_f h7 hs
        refine go_iload_n (pc := 54) 3 dX3_fillTable_54 rfl rfl ?_
        refine go_bipush (pc := 55) (31 : Int32) dX3_fillTable_55 (by decide) ?_
        refine go_icmp_ge (pc := 57) 73 dX3_fillTable_57 (by decide) (fun h12 => ?_) (fun h12 => ?_)
        · have hs := it_t h12 hs
          refine go_iconst (pc := 73) (1 : Int32) dX3_fillTable_73 (by decide) ?_
          refine go_istore (pc := 74) [some (vR 5), some (vR (pN p1.1)), some (vI y2), some (vI x0_), some (vI y4), some (vI x1_), some (vI (1 : Int32))] dX3_fillTable_74 (by decide) rfl ?_
          refine go_iinc (pc := 76) (x0_ + (1 : Int32)) [some (vR 5), some (vR (pN p1.1)), some (vI y2), some (vI (x0_ + (1 : Int32))), some (vI y4), some (vI x1_), some (vI (1 : Int32))] dX3_fillTable_76 rfl (iinc_1 _) (by decide) rfl ?_
          refine go_aload_n (pc := 79) 0 dX3_fillTable_79 rfl rfl ?_
          refine go_getfield (pc := 80) (v := vR 6) 5 3 1 dX3_fillTable_80 flX3_11 rfl rfl ?_
          refine go_iload (pc := 83) dX3_fillTable_83 rfl ?_
          obtain ⟨hi13, hs⟩ := chk_t hs
          refine go_aaload (pc := 85) 6 3 dX3_fillTable_85 (by decide) rfl hi13 ?_
          show Go mX3_fillTable (d + 1) false 0 0 86 [some (vR 5), some (vR (pN p1.1)), some (vI y2), some (vI (x0_ + (1 : Int32))), some (vI y4), some (vI x1_), some (vI (1 : Int32))] [vR (7 + (fin10 y4.toNatClampNeg).1)] (wC cK cF ga gi gs oK x2_ ra rb cR cP cM ea eb cW aO aC aQ) Q
          refine go_iload (pc := 86) dX3_fillTable_86 rfl ?_
          refine go_iload (pc := 88) dX3_fillTable_88 rfl ?_
          obtain ⟨hi14, hs⟩ := chk_t hs
          refine go_iastore (pc := 90) (7 + (fin10 y4.toNatClampNeg).1) dX3_fillTable_90 (wC_trow (fin10 y4.toNatClampNeg)) hi14 (go_w (wC_strow (fin10 y4.toNatClampNeg)) (show Go mX3_fillTable (d + 1) false 0 0 91 [some (vR 5), some (vR (pN p1.1)), some (vI y2), some (vI (x0_ + (1 : Int32))), some (vI y4), some (vI x1_), some (vI (1 : Int32))] [] (wC cK cF ga gi gs oK (va_up x2_ (fin10 y4.toNatClampNeg).1 (upd (x2_ (fin10 y4.toNatClampNeg).1) x1_.toNatClampNeg (1 : Int32))) ra rb cR cP cM ea eb cW aO aC aQ) Q from ?_))
          refine go_aload_n (pc := 91) 0 dX3_fillTable_91 rfl rfl ?_
          refine go_getfield (pc := 92) (v := vR 6) 5 3 1 dX3_fillTable_92 flX3_11 rfl rfl ?_
          refine go_iload (pc := 95) dX3_fillTable_95 rfl ?_
          obtain ⟨hi15, hs⟩ := chk_t hs
          refine go_aaload (pc := 97) 6 3 dX3_fillTable_97 (by decide) rfl hi15 ?_
          show Go mX3_fillTable (d + 1) false 0 0 98 [some (vR 5), some (vR (pN p1.1)), some (vI y2), some (vI (x0_ + (1 : Int32))), some (vI y4), some (vI x1_), some (vI (1 : Int32))] [vR (7 + (fin10 x1_.toNatClampNeg).1)] (wC cK cF ga gi gs oK (va_up x2_ (fin10 y4.toNatClampNeg).1 (upd (x2_ (fin10 y4.toNatClampNeg).1) x1_.toNatClampNeg (1 : Int32))) ra rb cR cP cM ea eb cW aO aC aQ) Q
          refine go_iload (pc := 98) dX3_fillTable_98 rfl ?_
          refine go_iload (pc := 100) dX3_fillTable_100 rfl ?_
          obtain ⟨hi16, hs⟩ := chk_t hs
          refine go_iastore (pc := 102) (7 + (fin10 x1_.toNatClampNeg).1) dX3_fillTable_102 (wC_trow (fin10 x1_.toNatClampNeg)) hi16 (go_w (wC_strow (fin10 x1_.toNatClampNeg)) (show Go mX3_fillTable (d + 1) false 0 0 103 [some (vR 5), some (vR (pN p1.1)), some (vI y2), some (vI (x0_ + (1 : Int32))), some (vI y4), some (vI x1_), some (vI (1 : Int32))] [] (wC cK cF ga gi gs oK (va_up (va_up x2_ (fin10 y4.toNatClampNeg).1 (upd (x2_ (fin10 y4.toNatClampNeg).1) x1_.toNatClampNeg (1 : Int32))) (fin10 x1_.toNatClampNeg).1 (upd ((va_up x2_ (fin10 y4.toNatClampNeg).1 (upd (x2_ (fin10 y4.toNatClampNeg).1) x1_.toNatClampNeg (1 : Int32))) (fin10 x1_.toNatClampNeg).1) y4.toNatClampNeg (1 : Int32))) ra rb cR cP cM ea eb cW aO aC aQ) Q from ?_))
          refine go_iinc (pc := 103) (x1_ + (1 : Int32)) [some (vR 5), some (vR (pN p1.1)), some (vI y2), some (vI (x0_ + (1 : Int32))), some (vI y4), some (vI (x1_ + (1 : Int32))), some (vI (1 : Int32))] dX3_fillTable_103 rfl (iinc_1 _) (by decide) rfl ?_
          refine go_goto (pc := 106) 31 dX3_fillTable_106 (by decide) ?_
          obtain rfl := Option.some.inj hs
          refine go_sub (lv' := [some (vR 5), some (vR (pN p1.1)), some (vI y2), some (vI (x0_ + (1 : Int32))), some (vI y4), some (vI (x1_ + (1 : Int32))), none]) ⟨rfl, ⟨rfl, ⟨rfl, ⟨rfl, ⟨rfl, ⟨rfl, trivial⟩⟩⟩⟩⟩⟩ ?_
          exact hI (x0_ + (1 : Int32), x1_ + (1 : Int32), va_up (va_up x2_ (fin10 y4.toNatClampNeg).1 (upd (x2_ (fin10 y4.toNatClampNeg).1) x1_.toNatClampNeg (1 : Int32))) (fin10 x1_.toNatClampNeg).1 (upd ((va_up x2_ (fin10 y4.toNatClampNeg).1 (upd (x2_ (fin10 y4.toNatClampNeg).1) x1_.toNatClampNeg (1 : Int32))) (fin10 x1_.toNatClampNeg).1) y4.toNatClampNeg (1 : Int32))) rfl (x0_ + (1 : Int32)) (x1_ + (1 : Int32)) (va_up (va_up x2_ (fin10 y4.toNatClampNeg).1 (upd (x2_ (fin10 y4.toNatClampNeg).1) x1_.toNatClampNeg (1 : Int32))) (fin10 x1_.toNatClampNeg).1 (upd ((va_up x2_ (fin10 y4.toNatClampNeg).1 (upd (x2_ (fin10 y4.toNatClampNeg).1) x1_.toNatClampNeg (1 : Int32))) (fin10 x1_.toNatClampNeg).1) y4.toNatClampNeg (1 : Int32))) rfl
        · have hs := it_f h12 hs
          refine go_iload_n (pc := 60) 2 dX3_fillTable_60 rfl rfl ?_
          refine go_iload_n (pc := 61) 3 dX3_fillTable_61 rfl rfl ?_
          refine go_ishr (pc := 62) dX3_fillTable_62 ?_
          refine go_iconst (pc := 63) (1 : Int32) dX3_fillTable_63 (by decide) ?_
          refine go_iand (pc := 64) dX3_fillTable_64 ?_
          refine go_iconst (pc := 65) (1 : Int32) dX3_fillTable_65 (by decide) ?_
          refine go_icmp_ne (pc := 66) 73 dX3_fillTable_66 (by decide) (fun h17 => ?_) (fun h17 => ?_)
          · have hs := it_f h17 hs
            refine go_iconst (pc := 73) (1 : Int32) dX3_fillTable_73 (by decide) ?_
            refine go_istore (pc := 74) [some (vR 5), some (vR (pN p1.1)), some (vI y2), some (vI x0_), some (vI y4), some (vI x1_), some (vI (1 : Int32))] dX3_fillTable_74 (by decide) rfl ?_
            refine go_iinc (pc := 76) (x0_ + (1 : Int32)) [some (vR 5), some (vR (pN p1.1)), some (vI y2), some (vI (x0_ + (1 : Int32))), some (vI y4), some (vI x1_), some (vI (1 : Int32))] dX3_fillTable_76 rfl (iinc_1 _) (by decide) rfl ?_
            refine go_aload_n (pc := 79) 0 dX3_fillTable_79 rfl rfl ?_
            refine go_getfield (pc := 80) (v := vR 6) 5 3 1 dX3_fillTable_80 flX3_11 rfl rfl ?_
            refine go_iload (pc := 83) dX3_fillTable_83 rfl ?_
            obtain ⟨hi18, hs⟩ := chk_t hs
            refine go_aaload (pc := 85) 6 3 dX3_fillTable_85 (by decide) rfl hi18 ?_
            show Go mX3_fillTable (d + 1) false 0 0 86 [some (vR 5), some (vR (pN p1.1)), some (vI y2), some (vI (x0_ + (1 : Int32))), some (vI y4), some (vI x1_), some (vI (1 : Int32))] [vR (7 + (fin10 y4.toNatClampNeg).1)] (wC cK cF ga gi gs oK x2_ ra rb cR cP cM ea eb cW aO aC aQ) Q
            refine go_iload (pc := 86) dX3_fillTable_86 rfl ?_
            refine go_iload (pc := 88) dX3_fillTable_88 rfl ?_
            obtain ⟨hi19, hs⟩ := chk_t hs
            refine go_iastore (pc := 90) (7 + (fin10 y4.toNatClampNeg).1) dX3_fillTable_90 (wC_trow (fin10 y4.toNatClampNeg)) hi19 (go_w (wC_strow (fin10 y4.toNatClampNeg)) (show Go mX3_fillTable (d + 1) false 0 0 91 [some (vR 5), some (vR (pN p1.1)), some (vI y2), some (vI (x0_ + (1 : Int32))), some (vI y4), some (vI x1_), some (vI (1 : Int32))] [] (wC cK cF ga gi gs oK (va_up x2_ (fin10 y4.toNatClampNeg).1 (upd (x2_ (fin10 y4.toNatClampNeg).1) x1_.toNatClampNeg (1 : Int32))) ra rb cR cP cM ea eb cW aO aC aQ) Q from ?_))
            refine go_aload_n (pc := 91) 0 dX3_fillTable_91 rfl rfl ?_
            refine go_getfield (pc := 92) (v := vR 6) 5 3 1 dX3_fillTable_92 flX3_11 rfl rfl ?_
            refine go_iload (pc := 95) dX3_fillTable_95 rfl ?_
            obtain ⟨hi20, hs⟩ := chk_t hs
            refine go_aaload (pc := 97) 6 3 dX3_fillTable_97 (by decide) rfl hi20 ?_
            show Go mX3_fillTable (d + 1) false 0 0 98 [some (vR 5), some (vR (pN p1.1)), some (vI y2), some (vI (x0_ + (1 : Int32))), some (vI y4), some (vI x1_), some (vI (1 : Int32))] [vR (7 + (fin10 x1_.toNatClampNeg).1)] (wC cK cF ga gi gs oK (va_up x2_ (fin10 y4.toNatClampNeg).1 (upd (x2_ (fin10 y4.toNatClampNeg).1) x1_.toNatClampNeg (1 : Int32))) ra rb cR cP cM ea eb cW aO aC aQ) Q
            refine go_iload (pc := 98) dX3_fillTable_98 rfl ?_
            refine go_iload (pc := 100) dX3_fillTable_100 rfl ?_
            obtain ⟨hi21, hs⟩ := chk_t hs
            refine go_iastore (pc := 102) (7 + (fin10 x1_.toNatClampNeg).1) dX3_fillTable_102 (wC_trow (fin10 x1_.toNatClampNeg)) hi21 (go_w (wC_strow (fin10 x1_.toNatClampNeg)) (show Go mX3_fillTable (d + 1) false 0 0 103 [some (vR 5), some (vR (pN p1.1)), some (vI y2), some (vI (x0_ + (1 : Int32))), some (vI y4), some (vI x1_), some (vI (1 : Int32))] [] (wC cK cF ga gi gs oK (va_up (va_up x2_ (fin10 y4.toNatClampNeg).1 (upd (x2_ (fin10 y4.toNatClampNeg).1) x1_.toNatClampNeg (1 : Int32))) (fin10 x1_.toNatClampNeg).1 (upd ((va_up x2_ (fin10 y4.toNatClampNeg).1 (upd (x2_ (fin10 y4.toNatClampNeg).1) x1_.toNatClampNeg (1 : Int32))) (fin10 x1_.toNatClampNeg).1) y4.toNatClampNeg (1 : Int32))) ra rb cR cP cM ea eb cW aO aC aQ) Q from ?_))
            refine go_iinc (pc := 103) (x1_ + (1 : Int32)) [some (vR 5), some (vR (pN p1.1)), some (vI y2), some (vI (x0_ + (1 : Int32))), some (vI y4), some (vI (x1_ + (1 : Int32))), some (vI (1 : Int32))] dX3_fillTable_103 rfl (iinc_1 _) (by decide) rfl ?_
            refine go_goto (pc := 106) 31 dX3_fillTable_106 (by decide) ?_
            obtain rfl := Option.some.inj hs
            refine go_sub (lv' := [some (vR 5), some (vR (pN p1.1)), some (vI y2), some (vI (x0_ + (1 : Int32))), some (vI y4), some (vI (x1_ + (1 : Int32))), none]) ⟨rfl, ⟨rfl, ⟨rfl, ⟨rfl, ⟨rfl, ⟨rfl, trivial⟩⟩⟩⟩⟩⟩ ?_
            exact hI (x0_ + (1 : Int32), x1_ + (1 : Int32), va_up (va_up x2_ (fin10 y4.toNatClampNeg).1 (upd (x2_ (fin10 y4.toNatClampNeg).1) x1_.toNatClampNeg (1 : Int32))) (fin10 x1_.toNatClampNeg).1 (upd ((va_up x2_ (fin10 y4.toNatClampNeg).1 (upd (x2_ (fin10 y4.toNatClampNeg).1) x1_.toNatClampNeg (1 : Int32))) (fin10 x1_.toNatClampNeg).1) y4.toNatClampNeg (1 : Int32))) rfl (x0_ + (1 : Int32)) (x1_ + (1 : Int32)) (va_up (va_up x2_ (fin10 y4.toNatClampNeg).1 (upd (x2_ (fin10 y4.toNatClampNeg).1) x1_.toNatClampNeg (1 : Int32))) (fin10 x1_.toNatClampNeg).1 (upd ((va_up x2_ (fin10 y4.toNatClampNeg).1 (upd (x2_ (fin10 y4.toNatClampNeg).1) x1_.toNatClampNeg (1 : Int32))) (fin10 x1_.toNatClampNeg).1) y4.toNatClampNeg (1 : Int32))) rfl
          · have hs := it_t h17 hs
            refine go_iconst (pc := 69) (-1 : Int32) dX3_fillTable_69 (by decide) ?_
            refine go_goto (pc := 70) 74 dX3_fillTable_70 (by decide) ?_
            refine go_istore (pc := 74) [some (vR 5), some (vR (pN p1.1)), some (vI y2), some (vI x0_), some (vI y4), some (vI x1_), some (vI (-1 : Int32))] dX3_fillTable_74 (by decide) rfl ?_
            refine go_iinc (pc := 76) (x0_ + (1 : Int32)) [some (vR 5), some (vR (pN p1.1)), some (vI y2), some (vI (x0_ + (1 : Int32))), some (vI y4), some (vI x1_), some (vI (-1 : Int32))] dX3_fillTable_76 rfl (iinc_1 _) (by decide) rfl ?_
            refine go_aload_n (pc := 79) 0 dX3_fillTable_79 rfl rfl ?_
            refine go_getfield (pc := 80) (v := vR 6) 5 3 1 dX3_fillTable_80 flX3_11 rfl rfl ?_
            refine go_iload (pc := 83) dX3_fillTable_83 rfl ?_
            obtain ⟨hi22, hs⟩ := chk_t hs
            refine go_aaload (pc := 85) 6 3 dX3_fillTable_85 (by decide) rfl hi22 ?_
            show Go mX3_fillTable (d + 1) false 0 0 86 [some (vR 5), some (vR (pN p1.1)), some (vI y2), some (vI (x0_ + (1 : Int32))), some (vI y4), some (vI x1_), some (vI (-1 : Int32))] [vR (7 + (fin10 y4.toNatClampNeg).1)] (wC cK cF ga gi gs oK x2_ ra rb cR cP cM ea eb cW aO aC aQ) Q
            refine go_iload (pc := 86) dX3_fillTable_86 rfl ?_
            refine go_iload (pc := 88) dX3_fillTable_88 rfl ?_
            obtain ⟨hi23, hs⟩ := chk_t hs
            refine go_iastore (pc := 90) (7 + (fin10 y4.toNatClampNeg).1) dX3_fillTable_90 (wC_trow (fin10 y4.toNatClampNeg)) hi23 (go_w (wC_strow (fin10 y4.toNatClampNeg)) (show Go mX3_fillTable (d + 1) false 0 0 91 [some (vR 5), some (vR (pN p1.1)), some (vI y2), some (vI (x0_ + (1 : Int32))), some (vI y4), some (vI x1_), some (vI (-1 : Int32))] [] (wC cK cF ga gi gs oK (va_up x2_ (fin10 y4.toNatClampNeg).1 (upd (x2_ (fin10 y4.toNatClampNeg).1) x1_.toNatClampNeg (-1 : Int32))) ra rb cR cP cM ea eb cW aO aC aQ) Q from ?_))
            refine go_aload_n (pc := 91) 0 dX3_fillTable_91 rfl rfl ?_
            refine go_getfield (pc := 92) (v := vR 6) 5 3 1 dX3_fillTable_92 flX3_11 rfl rfl ?_
            refine go_iload (pc := 95) dX3_fillTable_95 rfl ?_
            obtain ⟨hi24, hs⟩ := chk_t hs
            refine go_aaload (pc := 97) 6 3 dX3_fillTable_97 (by decide) rfl hi24 ?_
            show Go mX3_fillTable (d + 1) false 0 0 98 [some (vR 5), some (vR (pN p1.1)), some (vI y2), some (vI (x0_ + (1 : Int32))), some (vI y4), some (vI x1_), some (vI (-1 : Int32))] [vR (7 + (fin10 x1_.toNatClampNeg).1)] (wC cK cF ga gi gs oK (va_up x2_ (fin10 y4.toNatClampNeg).1 (upd (x2_ (fin10 y4.toNatClampNeg).1) x1_.toNatClampNeg (-1 : Int32))) ra rb cR cP cM ea eb cW aO aC aQ) Q
            refine go_iload (pc := 98) dX3_fillTable_98 rfl ?_
            refine go_iload (pc := 100) dX3_fillTable_100 rfl ?_
            obtain ⟨hi25, hs⟩ := chk_t hs
            refine go_iastore (pc := 102) (7 + (fin10 x1_.toNatClampNeg).1) dX3_fillTable_102 (wC_trow (fin10 x1_.toNatClampNeg)) hi25 (go_w (wC_strow (fin10 x1_.toNatClampNeg)) (show Go mX3_fillTable (d + 1) false 0 0 103 [some (vR 5), some (vR (pN p1.1)), some (vI y2), some (vI (x0_ + (1 : Int32))), some (vI y4), some (vI x1_), some (vI (-1 : Int32))] [] (wC cK cF ga gi gs oK (va_up (va_up x2_ (fin10 y4.toNatClampNeg).1 (upd (x2_ (fin10 y4.toNatClampNeg).1) x1_.toNatClampNeg (-1 : Int32))) (fin10 x1_.toNatClampNeg).1 (upd ((va_up x2_ (fin10 y4.toNatClampNeg).1 (upd (x2_ (fin10 y4.toNatClampNeg).1) x1_.toNatClampNeg (-1 : Int32))) (fin10 x1_.toNatClampNeg).1) y4.toNatClampNeg (-1 : Int32))) ra rb cR cP cM ea eb cW aO aC aQ) Q from ?_))
            refine go_iinc (pc := 103) (x1_ + (1 : Int32)) [some (vR 5), some (vR (pN p1.1)), some (vI y2), some (vI (x0_ + (1 : Int32))), some (vI y4), some (vI (x1_ + (1 : Int32))), some (vI (-1 : Int32))] dX3_fillTable_103 rfl (iinc_1 _) (by decide) rfl ?_
            refine go_goto (pc := 106) 31 dX3_fillTable_106 (by decide) ?_
            obtain rfl := Option.some.inj hs
            refine go_sub (lv' := [some (vR 5), some (vR (pN p1.1)), some (vI y2), some (vI (x0_ + (1 : Int32))), some (vI y4), some (vI (x1_ + (1 : Int32))), none]) ⟨rfl, ⟨rfl, ⟨rfl, ⟨rfl, ⟨rfl, ⟨rfl, trivial⟩⟩⟩⟩⟩⟩ ?_
            exact hI (x0_ + (1 : Int32), x1_ + (1 : Int32), va_up (va_up x2_ (fin10 y4.toNatClampNeg).1 (upd (x2_ (fin10 y4.toNatClampNeg).1) x1_.toNatClampNeg (-1 : Int32))) (fin10 x1_.toNatClampNeg).1 (upd ((va_up x2_ (fin10 y4.toNatClampNeg).1 (upd (x2_ (fin10 y4.toNatClampNeg).1) x1_.toNatClampNeg (-1 : Int32))) (fin10 x1_.toNatClampNeg).1) y4.toNatClampNeg (-1 : Int32))) rfl (x0_ + (1 : Int32)) (x1_ + (1 : Int32)) (va_up (va_up x2_ (fin10 y4.toNatClampNeg).1 (upd (x2_ (fin10 y4.toNatClampNeg).1) x1_.toNatClampNeg (-1 : Int32))) (fin10 x1_.toNatClampNeg).1 (upd ((va_up x2_ (fin10 y4.toNatClampNeg).1 (upd (x2_ (fin10 y4.toNatClampNeg).1) x1_.toNatClampNeg (-1 : Int32))) (fin10 x1_.toNatClampNeg).1) y4.toNatClampNeg (-1 : Int32))) rfl
set_option maxRecDepth 20000 in
theorem g_X3_fillTable_5 {d : Nat} {p1 : (Fin 5)} {Q : Option AV → List AC → Prop} {y2 : Int32}  (x0_ : Int32) (x1_ : Int32) (x2_ : (Nat → Nat → Int32)) (r : (Nat → Nat → Int32)) (hl : loop (b_X3_fillTable_5 cF oK p1 y2) (x0_, x1_, x2_) = some r) (hk : Go mX3_fillTable (d + 1) false 0 0 115 [none, none, none, none, none, none, none] [] (wC cK cF ga gi gs oK r ra rb cR cP cM ea eb cW aO aC aQ) Q) : Go mX3_fillTable (d + 1) false 0 0 5 [some (vR 5), some (vR (pN p1.1)), some (vI y2), some (vI x0_), some (vI x1_), none, none] [] (wC cK cF ga gi gs oK x2_ ra rb cR cP cM ea eb cW aO aC aQ) Q := by
  refine loop_go (P := fun x : Int32 × Int32 × (Nat → Nat → Int32) => ∀ (x0_ : Int32) (x1_ : Int32) (x2_ : (Nat → Nat → Int32)), x = (x0_, x1_, x2_) → Go mX3_fillTable (d + 1) false 0 0 5 [some (vR 5), some (vR (pN p1.1)), some (vI y2), some (vI x0_), some (vI x1_), none, none] [] (wC cK cF ga gi gs oK x2_ ra rb cR cP cM ea eb cW aO aC aQ) Q) (K := fun r : (Nat → Nat → Int32) => Go mX3_fillTable (d + 1) false 0 0 115 [none, none, none, none, none, none, none] [] (wC cK cF ga gi gs oK r ra rb cR cP cM ea eb cW aO aC aQ) Q) ?_ (x0_, x1_, x2_) r hl hk x0_ x1_ x2_ rfl
  · intro x y hs hI hE x0_ x1_ x2_ hx
    subst hx
    unfold b_X3_fillTable_5 at hs
    try dsimp only at hs
    refine go_iload (pc := 5) dX3_fillTable_5 rfl ?_
    refine go_aload_n (pc := 7) 0 dX3_fillTable_7 rfl rfl ?_
    refine go_getfield (pc := 8) (v := vI oK) 5 3 0 dX3_fillTable_8 flX3_37 rfl rfl ?_
    refine go_icmp_ge (pc := 11) 115 dX3_fillTable_11 (by decide) (fun h1 => ?_) (fun h1 => ?_)
    · have hs := it_t h1 hs
      obtain rfl := Option.some.inj hs
      refine go_sub (lv' := [none, none, none, none, none, none, none]) trivial ?_
      exact hE x2_ rfl
    · have hs := it_f h1 hs
      refine go_aload_n (pc := 14) 0 dX3_fillTable_14 rfl rfl ?_
      refine go_getfield (pc := 15) (v := vR 6) 5 3 1 dX3_fillTable_15 flX3_11 rfl rfl ?_
      refine go_iload (pc := 18) dX3_fillTable_18 rfl ?_
      obtain ⟨hi2, hs⟩ := chk_t hs
      refine go_aaload (pc := 20) 6 3 dX3_fillTable_20 (by decide) rfl hi2 ?_
      show Go mX3_fillTable (d + 1) false 0 0 21 [some (vR 5), some (vR (pN p1.1)), some (vI y2), some (vI x0_), some (vI x1_), none, none] [vR (7 + (fin10 x1_.toNatClampNeg).1)] (wC cK cF ga gi gs oK x2_ ra rb cR cP cM ea eb cW aO aC aQ) Q
      refine go_iload (pc := 21) dX3_fillTable_21 rfl ?_
      refine go_iconst (pc := 23) (0 : Int32) dX3_fillTable_23 (by decide) ?_
      obtain ⟨hi3, hs⟩ := chk_t hs
      refine go_iastore (pc := 24) (7 + (fin10 x1_.toNatClampNeg).1) dX3_fillTable_24 (wC_trow (fin10 x1_.toNatClampNeg)) hi3 (go_w (wC_strow (fin10 x1_.toNatClampNeg)) (show Go mX3_fillTable (d + 1) false 0 0 25 [some (vR 5), some (vR (pN p1.1)), some (vI y2), some (vI x0_), some (vI x1_), none, none] [] (wC cK cF ga gi gs oK (va_up x2_ (fin10 x1_.toNatClampNeg).1 (upd (x2_ (fin10 x1_.toNatClampNeg).1) x1_.toNatClampNeg (0 : Int32))) ra rb cR cP cM ea eb cW aO aC aQ) Q from ?_))
      refine go_iload (pc := 25) dX3_fillTable_25 rfl ?_
      refine go_iconst (pc := 27) (1 : Int32) dX3_fillTable_27 (by decide) ?_
      refine go_iadd (pc := 28) dX3_fillTable_28 ?_
      refine go_istore (pc := 29) [some (vR 5), some (vR (pN p1.1)), some (vI y2), some (vI x0_), some (vI x1_), some (vI (x1_ + (1 : Int32))), none] dX3_fillTable_29 (by decide) rfl ?_
      obtain ⟨e26, hl27, hs⟩ := bnd hs
      refine g_X3_fillTable_31 (d := d) x0_ (x1_ + (1 : Int32)) (va_up x2_ (fin10 x1_.toNatClampNeg).1 (upd (x2_ (fin10 x1_.toNatClampNeg).1) x1_.toNatClampNeg (0 : Int32))) e26 hl27 ?_
      intro v28 v29 hv30
      subst hv30
      try dsimp only at hs
      refine go_iinc (pc := 109) (x1_ + (1 : Int32)) [some (vR 5), some (vR (pN p1.1)), some (vI y2), some (vI v28), some (vI (x1_ + (1 : Int32))), none, none] dX3_fillTable_109 rfl (iinc_1 _) (by decide) rfl ?_
      refine go_goto (pc := 112) 5 dX3_fillTable_112 (by decide) ?_
      obtain rfl := Option.some.inj hs
      exact hI (v28, x1_ + (1 : Int32), v29) rfl v28 (x1_ + (1 : Int32)) v29 rfl
set_option maxRecDepth 20000 in
theorem c_X3_fillTable {d : Nat}  {p1 : (Fin 5)} {a2 : Int32} {res0 : (Nat → Nat → Int32)} (hs : s_X3_fillTable cF oK cT p1 a2 = some res0) : Calls mX3_fillTable (d + 1) false 0 0 [vR 5, vR (pN p1.1), vI a2] (wC cK cF ga gi gs oK cT ra rb cR cP cM ea eb cW aO aC aQ) (fun r w' => r = none ∧ w' = (wC cK cF ga gi gs oK res0 ra rb cR cP cM ea eb cW aO aC aQ)) := by
  unfold s_X3_fillTable at hs
  refine Calls.of kX3_fillTable 4 [some (vR 5), some (vR (pN p1.1)), some (vI a2), none, none, none, none] rfl (Nat.le_of_ble_eq_true rfl) ?_
  refine go_iconst (pc := 0) (0 : Int32) dX3_fillTable_0 (by decide) ?_
  refine go_istore_n (pc := 1) 3 [some (vR 5), some (vR (pN p1.1)), some (vI a2), some (vI (0 : Int32)), none, none, none] dX3_fillTable_1 rfl (by decide) rfl ?_
  refine go_iconst (pc := 2) (0 : Int32) dX3_fillTable_2 (by decide) ?_
  refine go_istore (pc := 3) [some (vR 5), some (vR (pN p1.1)), some (vI a2), some (vI (0 : Int32)), some (vI (0 : Int32)), none, none] dX3_fillTable_3 (by decide) rfl ?_
  obtain ⟨e31, hl32, hs⟩ := bnd hs
  refine g_X3_fillTable_5 (d := d) (0 : Int32) (0 : Int32) cT e31 hl32 ?_
  cases hs
  exact go_return (st := []) (pc := 115) dX3_fillTable_115 rfl (fun h => by cases h) ⟨rfl, rfl⟩
noncomputable def b_X3_addRow_3 (oK : Int32) (q1 : (Fin 2)) (r1 : (Fin 10)) (q2 : (Fin 2)) (r2 : (Fin 10)) (y3 : Int32) (x : Int32 × (Nat → Nat → Nat → Int64)) : Option ((Int32 × (Nat → Nat → Nat → Int64)) ⊕ ((Nat → Nat → Nat → Int64))) := if oK ≤ x.1 then (some (Sum.inr x.2)) else (chk x.1 10 (chk x.1 10 (chk x.1 10 (some (Sum.inl (x.1 + (1 : Int32), va_up x.2 q1.1 (va_up (x.2 q1.1) r1.1 (vp_updL (x.2 q1.1 r1.1) x.1.toNatClampNeg ((x.2 q1.1 r1.1 x.1.toNatClampNeg) + (y3.toInt64 * (x.2 q2.1 r2.1 x.1.toNatClampNeg)))))))))))
noncomputable def s_X3_addRow (oK : Int32) (cR : (Nat → Nat → Nat → Int64)) (q1 : (Fin 2)) (r1 : (Fin 10)) (q2 : (Fin 2)) (r2 : (Fin 10)) (a3 : Int32) : Option ((Nat → Nat → Nat → Int64)) := (loop (b_X3_addRow_3 oK q1 r1 q2 r2 a3) ((0 : Int32), cR)).bind (fun e5 => some e5)
set_option maxRecDepth 20000 in
theorem g_X3_addRow_3 {d : Nat} {q1 : (Fin 2)} {r1 : (Fin 10)} {q2 : (Fin 2)} {r2 : (Fin 10)} {Q : Option AV → List AC → Prop} {y3 : Int32}  (x0_ : Int32) (x1_ : (Nat → Nat → Nat → Int64)) (r : (Nat → Nat → Nat → Int64)) (hl : loop (b_X3_addRow_3 oK q1 r1 q2 r2 y3) (x0_, x1_) = some r) (hk : Go mX3_addRow (d + 0) false 0 0 32 [none, none, none, none, none] [] (wC cK cF ga gi gs oK cT ra rb r cP cM ea eb cW aO aC aQ) Q) : Go mX3_addRow (d + 0) false 0 0 3 [some (vR 5), some (vR (pO q1.1 + 1 + r1.1)), some (vR (pO q2.1 + 1 + r2.1)), some (vI y3), some (vI x0_)] [] (wC cK cF ga gi gs oK cT ra rb x1_ cP cM ea eb cW aO aC aQ) Q := by
  refine loop_go (P := fun x : Int32 × (Nat → Nat → Nat → Int64) => ∀ (x0_ : Int32) (x1_ : (Nat → Nat → Nat → Int64)), x = (x0_, x1_) → Go mX3_addRow (d + 0) false 0 0 3 [some (vR 5), some (vR (pO q1.1 + 1 + r1.1)), some (vR (pO q2.1 + 1 + r2.1)), some (vI y3), some (vI x0_)] [] (wC cK cF ga gi gs oK cT ra rb x1_ cP cM ea eb cW aO aC aQ) Q) (K := fun r : (Nat → Nat → Nat → Int64) => Go mX3_addRow (d + 0) false 0 0 32 [none, none, none, none, none] [] (wC cK cF ga gi gs oK cT ra rb r cP cM ea eb cW aO aC aQ) Q) ?_ (x0_, x1_) r hl hk x0_ x1_ rfl
  · intro x y hs hI hE x0_ x1_ hx
    subst hx
    unfold b_X3_addRow_3 at hs
    try dsimp only at hs
    refine go_iload (pc := 3) dX3_addRow_3 rfl ?_
    refine go_aload_n (pc := 5) 0 dX3_addRow_5 rfl rfl ?_
    refine go_getfield (pc := 6) (v := vI oK) 5 3 0 dX3_addRow_6 flX3_37 rfl rfl ?_
    refine go_icmp_ge (pc := 9) 32 dX3_addRow_9 (by decide) (fun h1 => ?_) (fun h1 => ?_)
    · have hs := it_t h1 hs
      obtain rfl := Option.some.inj hs
      refine go_sub (lv' := [none, none, none, none, none]) trivial ?_
      exact hE x1_ rfl
    · have hs := it_f h1 hs
      refine go_aload_n (pc := 12) 1 dX3_addRow_12 rfl rfl ?_
      refine go_iload (pc := 13) dX3_addRow_13 rfl ?_
      refine go_dup2 (pc := 15) dX3_addRow_15 rfl rfl ?_
      obtain ⟨hi2, hs⟩ := chk_t hs
      refine go_laload (pc := 16) (pO q1.1 + 1 + r1.1) dX3_addRow_16 (wC_row q1 r1) hi2 ?_
      refine go_iload_n (pc := 17) 3 dX3_addRow_17 rfl rfl ?_
      refine go_i2l (pc := 18) dX3_addRow_18 ?_
      refine go_aload_n (pc := 19) 2 dX3_addRow_19 rfl rfl ?_
      refine go_iload (pc := 20) dX3_addRow_20 rfl ?_
      obtain ⟨hi3, hs⟩ := chk_t hs
      refine go_laload (pc := 22) (pO q2.1 + 1 + r2.1) dX3_addRow_22 (wC_row q2 r2) hi3 ?_
      refine go_lmul (pc := 23) dX3_addRow_23 ?_
      refine go_ladd (pc := 24) dX3_addRow_24 ?_
      obtain ⟨hi4, hs⟩ := chk_t hs
      refine go_lastore (pc := 25) (pO q1.1 + 1 + r1.1) dX3_addRow_25 (wC_row q1 r1) hi4 (go_w (wC_srow q1 r1) (show Go mX3_addRow (d + 0) false 0 0 26 [some (vR 5), some (vR (pO q1.1 + 1 + r1.1)), some (vR (pO q2.1 + 1 + r2.1)), some (vI y3), some (vI x0_)] [] (wC cK cF ga gi gs oK cT ra rb (va_up x1_ q1.1 (va_up (x1_ q1.1) r1.1 (vp_updL (x1_ q1.1 r1.1) x0_.toNatClampNeg ((x1_ q1.1 r1.1 x0_.toNatClampNeg) + (y3.toInt64 * (x1_ q2.1 r2.1 x0_.toNatClampNeg)))))) cP cM ea eb cW aO aC aQ) Q from ?_))
      refine go_iinc (pc := 26) (x0_ + (1 : Int32)) [some (vR 5), some (vR (pO q1.1 + 1 + r1.1)), some (vR (pO q2.1 + 1 + r2.1)), some (vI y3), some (vI (x0_ + (1 : Int32)))] dX3_addRow_26 rfl (iinc_1 _) (by decide) rfl ?_
      refine go_goto (pc := 29) 3 dX3_addRow_29 (by decide) ?_
      obtain rfl := Option.some.inj hs
      exact hI (x0_ + (1 : Int32), va_up x1_ q1.1 (va_up (x1_ q1.1) r1.1 (vp_updL (x1_ q1.1 r1.1) x0_.toNatClampNeg ((x1_ q1.1 r1.1 x0_.toNatClampNeg) + (y3.toInt64 * (x1_ q2.1 r2.1 x0_.toNatClampNeg)))))) rfl (x0_ + (1 : Int32)) (va_up x1_ q1.1 (va_up (x1_ q1.1) r1.1 (vp_updL (x1_ q1.1 r1.1) x0_.toNatClampNeg ((x1_ q1.1 r1.1 x0_.toNatClampNeg) + (y3.toInt64 * (x1_ q2.1 r2.1 x0_.toNatClampNeg)))))) rfl
set_option maxRecDepth 20000 in
theorem c_X3_addRow {d : Nat}  {q1 : (Fin 2)} {r1 : (Fin 10)} {q2 : (Fin 2)} {r2 : (Fin 10)} {a3 : Int32} {res0 : (Nat → Nat → Nat → Int64)} (hs : s_X3_addRow oK cR q1 r1 q2 r2 a3 = some res0) : Calls mX3_addRow (d + 0) false 0 0 [vR 5, vR (pO q1.1 + 1 + r1.1), vR (pO q2.1 + 1 + r2.1), vI a3] (wC cK cF ga gi gs oK cT ra rb cR cP cM ea eb cW aO aC aQ) (fun r w' => r = none ∧ w' = (wC cK cF ga gi gs oK cT ra rb res0 cP cM ea eb cW aO aC aQ)) := by
  unfold s_X3_addRow at hs
  refine Calls.of kX3_addRow 1 [some (vR 5), some (vR (pO q1.1 + 1 + r1.1)), some (vR (pO q2.1 + 1 + r2.1)), some (vI a3), none] rfl (Nat.le_of_ble_eq_true rfl) ?_
  refine go_iconst (pc := 0) (0 : Int32) dX3_addRow_0 (by decide) ?_
  refine go_istore (pc := 1) [some (vR 5), some (vR (pO q1.1 + 1 + r1.1)), some (vR (pO q2.1 + 1 + r2.1)), some (vI a3), some (vI (0 : Int32))] dX3_addRow_1 (by decide) rfl ?_
  obtain ⟨e5, hl6, hs⟩ := bnd hs
  refine g_X3_addRow_3 (d := d) (0 : Int32) cR e5 hl6 ?_
  cases hs
  exact go_return (st := []) (pc := 32) dX3_addRow_32 rfl (fun h => by cases h) ⟨rfl, rfl⟩
noncomputable def b_X3_multiplyRows_25 (oK : Int32) (cT : (Nat → Nat → Int32)) (ra : (Fin 2)) (rb : (Fin 2)) (y3 : Int32) (x : Int32 × (Nat → Nat → Nat → Int64)) : Option ((Int32 × (Nat → Nat → Nat → Int64)) ⊕ ((Nat → Nat → Nat → Int64))) := if oK ≤ x.1 then (some (Sum.inr x.2)) else (chk y3 10 (chk x.1 10 (if (cT (fin10 y3.toNatClampNeg).1 x.1.toNatClampNeg) = 0 then (some (Sum.inl (x.1 + (1 : Int32), x.2))) else (chk y3 10 (chk x.1 10 (chk y3 10 (chk x.1 10 ((s_X3_addRow oK x.2 rb (fin10 y3.toNatClampNeg) ra (fin10 x.1.toNatClampNeg) (cT (fin10 y3.toNatClampNeg).1 x.1.toNatClampNeg)).bind (fun x11 => some (Sum.inl (x.1 + (1 : Int32), x11)))))))))))
noncomputable def b_X3_multiplyRows_4 (oK : Int32) (cT : (Nat → Nat → Int32)) (ra : (Fin 2)) (rb : (Fin 2)) (x : Int64 × Int32 × (Nat → Nat → Nat → Int64)) : Option ((Int64 × Int32 × (Nat → Nat → Nat → Int64)) ⊕ (Int64 × (Nat → Nat → Nat → Int64))) := if oK ≤ x.2.1 then (some (Sum.inr (x.1, x.2.2))) else (chk x.2.1 10 ((loop (b_X3_multiplyRows_25 oK cT ra rb x.2.1) ((0 : Int32), va_up x.2.2 rb.1 (va_up (x.2.2 rb.1) (fin10 x.2.1.toNatClampNeg).1 (fillJ 10 (x.2.2 rb.1 (fin10 x.2.1.toNatClampNeg).1) (0 : Int64))))).bind (fun e13 => chk x.2.1 10 (chk x.2.1 10 (lt' (x.1 + (e13 rb.1 (fin10 x.2.1.toNatClampNeg).1 x.2.1.toNatClampNeg)) (fun z18 => some (Sum.inl (z18, x.2.1 + (1 : Int32), e13))))))))
noncomputable def s_X3_multiplyRows (oK : Int32) (cT : (Nat → Nat → Int32)) (ra : (Fin 2)) (rb : (Fin 2)) (cR : (Nat → Nat → Nat → Int64)) : Option (Int64 × (Nat → Nat → Nat → Int64)) := (loop (b_X3_multiplyRows_4 oK cT ra rb) ((0 : Int64), (0 : Int32), cR)).bind (fun e19 => some (e19.1, e19.2))
set_option maxRecDepth 20000 in
theorem g_X3_multiplyRows_25 {d : Nat}  {Q : Option AV → List AC → Prop} {y1 : Int64} {y3 : Int32}  (x0_ : Int32) (x1_ : (Nat → Nat → Nat → Int64)) (r : (Nat → Nat → Nat → Int64)) (hl : loop (b_X3_multiplyRows_25 oK cT ra rb y3) (x0_, x1_) = some r) (hk : Go mX3_multiplyRows (d + 1) false 0 0 78 [some (vR 5), some (vL y1), none, some (vI y3), none] [] (wC cK cF ga gi gs oK cT ra rb r cP cM ea eb cW aO aC aQ) Q) : Go mX3_multiplyRows (d + 1) false 0 0 25 [some (vR 5), some (vL y1), none, some (vI y3), some (vI x0_)] [] (wC cK cF ga gi gs oK cT ra rb x1_ cP cM ea eb cW aO aC aQ) Q := by
  refine loop_go (P := fun x : Int32 × (Nat → Nat → Nat → Int64) => ∀ (x0_ : Int32) (x1_ : (Nat → Nat → Nat → Int64)), x = (x0_, x1_) → Go mX3_multiplyRows (d + 1) false 0 0 25 [some (vR 5), some (vL y1), none, some (vI y3), some (vI x0_)] [] (wC cK cF ga gi gs oK cT ra rb x1_ cP cM ea eb cW aO aC aQ) Q) (K := fun r : (Nat → Nat → Nat → Int64) => Go mX3_multiplyRows (d + 1) false 0 0 78 [some (vR 5), some (vL y1), none, some (vI y3), none] [] (wC cK cF ga gi gs oK cT ra rb r cP cM ea eb cW aO aC aQ) Q) ?_ (x0_, x1_) r hl hk x0_ x1_ rfl
  · intro x y hs hI hE x0_ x1_ hx
    subst hx
    unfold b_X3_multiplyRows_25 at hs
    try dsimp only at hs
    refine go_iload (pc := 25) dX3_multiplyRows_25 rfl ?_
    refine go_aload_n (pc := 27) 0 dX3_multiplyRows_27 rfl rfl ?_
    refine go_getfield (pc := 28) (v := vI oK) 5 3 0 dX3_multiplyRows_28 flX3_37 rfl rfl ?_
    refine go_icmp_ge (pc := 31) 78 dX3_multiplyRows_31 (by decide) (fun h3 => ?_) (fun h3 => ?_)
    · have hs := it_t h3 hs
      obtain rfl := Option.some.inj hs
      refine go_sub (lv' := [some (vR 5), some (vL y1), none, some (vI y3), none]) ⟨rfl, ⟨rfl, ⟨rfl, trivial⟩⟩⟩ ?_
      exact hE x1_ rfl
    · have hs := it_f h3 hs
      refine go_aload_n (pc := 34) 0 dX3_multiplyRows_34 rfl rfl ?_
      refine go_getfield (pc := 35) (v := vR 6) 5 3 1 dX3_multiplyRows_35 flX3_11 rfl rfl ?_
      refine go_iload_n (pc := 38) 3 dX3_multiplyRows_38 rfl rfl ?_
      obtain ⟨hi4, hs⟩ := chk_t hs
      refine go_aaload (pc := 39) 6 3 dX3_multiplyRows_39 (by decide) rfl hi4 ?_
      show Go mX3_multiplyRows (d + 1) false 0 0 40 [some (vR 5), some (vL y1), none, some (vI y3), some (vI x0_)] [vR (7 + (fin10 y3.toNatClampNeg).1)] (wC cK cF ga gi gs oK cT ra rb x1_ cP cM ea eb cW aO aC aQ) Q
      refine go_iload (pc := 40) dX3_multiplyRows_40 rfl ?_
      obtain ⟨hi5, hs⟩ := chk_t hs
      refine go_iaload (pc := 42) (7 + (fin10 y3.toNatClampNeg).1) dX3_multiplyRows_42 (wC_trow (fin10 y3.toNatClampNeg)) hi5 ?_
      refine go_if_eq (pc := 43) 72 dX3_multiplyRows_43 (by decide) (fun h6 => ?_) (fun h6 => ?_)
      · have hs := it_t h6 hs
        refine go_iinc (pc := 72) (x0_ + (1 : Int32)) [some (vR 5), some (vL y1), none, some (vI y3), some (vI (x0_ + (1 : Int32)))] dX3_multiplyRows_72 rfl (iinc_1 _) (by decide) rfl ?_
        refine go_goto (pc := 75) 25 dX3_multiplyRows_75 (by decide) ?_
        obtain rfl := Option.some.inj hs
        exact hI (x0_ + (1 : Int32), x1_) rfl (x0_ + (1 : Int32)) x1_ rfl
      · have hs := it_f h6 hs
        refine go_aload_n (pc := 46) 0 dX3_multiplyRows_46 rfl rfl ?_
        refine go_aload_n (pc := 47) 0 dX3_multiplyRows_47 rfl rfl ?_
        refine go_getfield (pc := 48) (v := vR (pO rb.1)) 5 3 3 dX3_multiplyRows_48 flX3_21 rfl rfl ?_
        refine go_iload_n (pc := 51) 3 dX3_multiplyRows_51 rfl rfl ?_
        obtain ⟨hi7, hs⟩ := chk_t hs
        refine go_aaload (pc := 52) (pO rb.1) 4 dX3_multiplyRows_52 (by decide) (wC_rows rb) hi7 ?_
        show Go mX3_multiplyRows (d + 1) false 0 0 53 [some (vR 5), some (vL y1), none, some (vI y3), some (vI x0_)] [vR (pO rb.1 + 1 + (fin10 y3.toNatClampNeg).1), vR 5] (wC cK cF ga gi gs oK cT ra rb x1_ cP cM ea eb cW aO aC aQ) Q
        refine go_aload_n (pc := 53) 0 dX3_multiplyRows_53 rfl rfl ?_
        refine go_getfield (pc := 54) (v := vR (pO ra.1)) 5 3 2 dX3_multiplyRows_54 flX3_18 rfl rfl ?_
        refine go_iload (pc := 57) dX3_multiplyRows_57 rfl ?_
        obtain ⟨hi8, hs⟩ := chk_t hs
        refine go_aaload (pc := 59) (pO ra.1) 4 dX3_multiplyRows_59 (by decide) (wC_rows ra) hi8 ?_
        show Go mX3_multiplyRows (d + 1) false 0 0 60 [some (vR 5), some (vL y1), none, some (vI y3), some (vI x0_)] [vR (pO ra.1 + 1 + (fin10 x0_.toNatClampNeg).1), vR (pO rb.1 + 1 + (fin10 y3.toNatClampNeg).1), vR 5] (wC cK cF ga gi gs oK cT ra rb x1_ cP cM ea eb cW aO aC aQ) Q
        refine go_aload_n (pc := 60) 0 dX3_multiplyRows_60 rfl rfl ?_
        refine go_getfield (pc := 61) (v := vR 6) 5 3 1 dX3_multiplyRows_61 flX3_11 rfl rfl ?_
        refine go_iload_n (pc := 64) 3 dX3_multiplyRows_64 rfl rfl ?_
        obtain ⟨hi9, hs⟩ := chk_t hs
        refine go_aaload (pc := 65) 6 3 dX3_multiplyRows_65 (by decide) rfl hi9 ?_
        show Go mX3_multiplyRows (d + 1) false 0 0 66 [some (vR 5), some (vL y1), none, some (vI y3), some (vI x0_)] [vR (7 + (fin10 y3.toNatClampNeg).1), vR (pO ra.1 + 1 + (fin10 x0_.toNatClampNeg).1), vR (pO rb.1 + 1 + (fin10 y3.toNatClampNeg).1), vR 5] (wC cK cF ga gi gs oK cT ra rb x1_ cP cM ea eb cW aO aC aQ) Q
        refine go_iload (pc := 66) dX3_multiplyRows_66 rfl ?_
        obtain ⟨hi10, hs⟩ := chk_t hs
        refine go_iaload (pc := 68) (7 + (fin10 y3.toNatClampNeg).1) dX3_multiplyRows_68 (wC_trow (fin10 y3.toNatClampNeg)) hi10 ?_
        obtain ⟨x11, hc12, hs⟩ := bnd hs
        refine go_callV (bc := 0) (bs := 0) (mc := 0) (ms := 0) (d := d + 0) (pc := 69) (a := 5) (ci := 3) [vR (pO rb.1 + 1 + (fin10 y3.toNatClampNeg).1), vR (pO ra.1 + 1 + (fin10 x0_.toNatClampNeg).1), vI (cT (fin10 y3.toNatClampNeg).1 x0_.toNatClampNeg)] [] dX3_multiplyRows_69 kX3_addRow mlX3_79 ivX3_addRow rfl rfl rfl rfl (Nat.le_of_ble_eq_true rfl) rfl (c_X3_addRow (d := d + 0) (res0 := x11) hc12) (fun r w' hq => ?_)
        obtain ⟨rfl, rfl⟩ := hq
        show Go mX3_multiplyRows (d + 1) false 0 0 72 [some (vR 5), some (vL y1), none, some (vI y3), some (vI x0_)] [] (wC cK cF ga gi gs oK cT ra rb x11 cP cM ea eb cW aO aC aQ) Q
        refine go_iinc (pc := 72) (x0_ + (1 : Int32)) [some (vR 5), some (vL y1), none, some (vI y3), some (vI (x0_ + (1 : Int32)))] dX3_multiplyRows_72 rfl (iinc_1 _) (by decide) rfl ?_
        refine go_goto (pc := 75) 25 dX3_multiplyRows_75 (by decide) ?_
        obtain rfl := Option.some.inj hs
        exact hI (x0_ + (1 : Int32), x11) rfl (x0_ + (1 : Int32)) x11 rfl
set_option maxRecDepth 20000 in
theorem g_X3_multiplyRows_4 {d : Nat}  {Q : Option AV → List AC → Prop}   (x0_ : Int64) (x1_ : Int32) (x2_ : (Nat → Nat → Nat → Int64)) (r : Int64 × (Nat → Nat → Nat → Int64)) (hl : loop (b_X3_multiplyRows_4 oK cT ra rb) (x0_, x1_, x2_) = some r) (hk : ∀ (r0_ : Int64) (r1_ : (Nat → Nat → Nat → Int64)), r = (r0_, r1_) → Go mX3_multiplyRows (d + 1) false 0 0 95 [none, some (vL r0_), none, none, none] [] (wC cK cF ga gi gs oK cT ra rb r1_ cP cM ea eb cW aO aC aQ) Q) : Go mX3_multiplyRows (d + 1) false 0 0 4 [some (vR 5), some (vL x0_), none, some (vI x1_), none] [] (wC cK cF ga gi gs oK cT ra rb x2_ cP cM ea eb cW aO aC aQ) Q := by
  refine loop_go (P := fun x : Int64 × Int32 × (Nat → Nat → Nat → Int64) => ∀ (x0_ : Int64) (x1_ : Int32) (x2_ : (Nat → Nat → Nat → Int64)), x = (x0_, x1_, x2_) → Go mX3_multiplyRows (d + 1) false 0 0 4 [some (vR 5), some (vL x0_), none, some (vI x1_), none] [] (wC cK cF ga gi gs oK cT ra rb x2_ cP cM ea eb cW aO aC aQ) Q) (K := fun r : Int64 × (Nat → Nat → Nat → Int64) => ∀ (r0_ : Int64) (r1_ : (Nat → Nat → Nat → Int64)), r = (r0_, r1_) → Go mX3_multiplyRows (d + 1) false 0 0 95 [none, some (vL r0_), none, none, none] [] (wC cK cF ga gi gs oK cT ra rb r1_ cP cM ea eb cW aO aC aQ) Q) ?_ (x0_, x1_, x2_) r hl hk x0_ x1_ x2_ rfl
  · intro x y hs hI hE x0_ x1_ x2_ hx
    subst hx
    unfold b_X3_multiplyRows_4 at hs
    try dsimp only at hs
    refine go_iload_n (pc := 4) 3 dX3_multiplyRows_4 rfl rfl ?_
    refine go_aload_n (pc := 5) 0 dX3_multiplyRows_5 rfl rfl ?_
    refine go_getfield (pc := 6) (v := vI oK) 5 3 0 dX3_multiplyRows_6 flX3_37 rfl rfl ?_
    refine go_icmp_ge (pc := 9) 95 dX3_multiplyRows_9 (by decide) (fun h1 => ?_) (fun h1 => ?_)
    · have hs := it_t h1 hs
      obtain rfl := Option.some.inj hs
      refine go_sub (lv' := [none, some (vL x0_), none, none, none]) ⟨rfl, trivial⟩ ?_
      exact (hE (x0_, x2_) rfl) x0_ x2_ rfl
    · have hs := it_f h1 hs
      refine go_aload_n (pc := 12) 0 dX3_multiplyRows_12 rfl rfl ?_
      refine go_getfield (pc := 13) (v := vR (pO rb.1)) 5 3 3 dX3_multiplyRows_13 flX3_21 rfl rfl ?_
      refine go_iload_n (pc := 16) 3 dX3_multiplyRows_16 rfl rfl ?_
      obtain ⟨hi2, hs⟩ := chk_t hs
      refine go_aaload (pc := 17) (pO rb.1) 4 dX3_multiplyRows_17 (by decide) (wC_rows rb) hi2 ?_
      show Go mX3_multiplyRows (d + 1) false 0 0 18 [some (vR 5), some (vL x0_), none, some (vI x1_), none] [vR (pO rb.1 + 1 + (fin10 x1_.toNatClampNeg).1)] (wC cK cF ga gi gs oK cT ra rb x2_ cP cM ea eb cW aO aC aQ) Q
      refine go_lconst (pc := 18) (0 : Int64) dX3_multiplyRows_18 (by decide) ?_
      refine go_callS (bc := 0) (bs := 0) (mc := 0) (ms := 0) (d := d + 0) (pc := 19) [vR (pO rb.1 + 1 + (fin10 x1_.toNatClampNeg).1), vL (0 : Int64)] [] dX3_multiplyRows_19 kJ7_fill_d0a16 mlX3_69 isJ7_fill_d0a16 rfl (Nat.le_of_ble_eq_true rfl) rfl (c_fillJ (d := d + 0) (wC_row rb (fin10 x1_.toNatClampNeg)) (by decide)) (fun r w' hq => ?_)
      obtain ⟨rfl, rfl⟩ := hq
      refine go_w (wC_srow rb (fin10 x1_.toNatClampNeg)) ?_
      show Go mX3_multiplyRows (d + 1) false 0 0 22 [some (vR 5), some (vL x0_), none, some (vI x1_), none] [] (wC cK cF ga gi gs oK cT ra rb (va_up x2_ rb.1 (va_up (x2_ rb.1) (fin10 x1_.toNatClampNeg).1 (fillJ 10 (x2_ rb.1 (fin10 x1_.toNatClampNeg).1) (0 : Int64)))) cP cM ea eb cW aO aC aQ) Q
      refine go_iconst (pc := 22) (0 : Int32) dX3_multiplyRows_22 (by decide) ?_
      refine go_istore (pc := 23) [some (vR 5), some (vL x0_), none, some (vI x1_), some (vI (0 : Int32))] dX3_multiplyRows_23 (by decide) rfl ?_
      obtain ⟨e13, hl14, hs⟩ := bnd hs
      refine g_X3_multiplyRows_25 (d := d) (0 : Int32) (va_up x2_ rb.1 (va_up (x2_ rb.1) (fin10 x1_.toNatClampNeg).1 (fillJ 10 (x2_ rb.1 (fin10 x1_.toNatClampNeg).1) (0 : Int64)))) e13 hl14 ?_
      refine go_lload_n (pc := 78) 1 dX3_multiplyRows_78 rfl rfl ?_
      refine go_aload_n (pc := 79) 0 dX3_multiplyRows_79 rfl rfl ?_
      refine go_getfield (pc := 80) (v := vR (pO rb.1)) 5 3 3 dX3_multiplyRows_80 flX3_21 rfl rfl ?_
      refine go_iload_n (pc := 83) 3 dX3_multiplyRows_83 rfl rfl ?_
      obtain ⟨hi16, hs⟩ := chk_t hs
      refine go_aaload (pc := 84) (pO rb.1) 4 dX3_multiplyRows_84 (by decide) (wC_rows rb) hi16 ?_
      show Go mX3_multiplyRows (d + 1) false 0 0 85 [some (vR 5), some (vL x0_), none, some (vI x1_), none] [vR (pO rb.1 + 1 + (fin10 x1_.toNatClampNeg).1), vL x0_] (wC cK cF ga gi gs oK cT ra rb e13 cP cM ea eb cW aO aC aQ) Q
      refine go_iload_n (pc := 85) 3 dX3_multiplyRows_85 rfl rfl ?_
      obtain ⟨hi17, hs⟩ := chk_t hs
      refine go_laload (pc := 86) (pO rb.1 + 1 + (fin10 x1_.toNatClampNeg).1) dX3_multiplyRows_86 (wC_row rb (fin10 x1_.toNatClampNeg)) hi17 ?_
      refine go_ladd (pc := 87) dX3_multiplyRows_87 ?_
      refine go_topl (fun z18 ez18 => ?_)
      have hs := lt_t ez18 hs
      refine go_lstore_n (pc := 88) 1 [some (vR 5), some (vL z18), none, some (vI x1_), none] dX3_multiplyRows_88 rfl (by decide) rfl ?_
      refine go_iinc (pc := 89) (x1_ + (1 : Int32)) [some (vR 5), some (vL z18), none, some (vI (x1_ + (1 : Int32))), none] dX3_multiplyRows_89 rfl (iinc_1 _) (by decide) rfl ?_
      refine go_goto (pc := 92) 4 dX3_multiplyRows_92 (by decide) ?_
      obtain rfl := Option.some.inj hs
      exact hI (z18, x1_ + (1 : Int32), e13) rfl z18 (x1_ + (1 : Int32)) e13 rfl
set_option maxRecDepth 20000 in
theorem c_X3_multiplyRows {d : Nat}   {res0 : Int64} {res1 : (Nat → Nat → Nat → Int64)} (hs : s_X3_multiplyRows oK cT ra rb cR = some (res0, res1)) : Calls mX3_multiplyRows (d + 1) false 0 0 [vR 5] (wC cK cF ga gi gs oK cT ra rb cR cP cM ea eb cW aO aC aQ) (fun r w' => r = some (vL res0) ∧ w' = (wC cK cF ga gi gs oK cT ra rb res1 cP cM ea eb cW aO aC aQ)) := by
  unfold s_X3_multiplyRows at hs
  refine Calls.of kX3_multiplyRows 4 [some (vR 5), none, none, none, none] rfl (Nat.le_of_ble_eq_true rfl) ?_
  refine go_lconst (pc := 0) (0 : Int64) dX3_multiplyRows_0 (by decide) ?_
  refine go_lstore_n (pc := 1) 1 [some (vR 5), some (vL (0 : Int64)), none, none, none] dX3_multiplyRows_1 rfl (by decide) rfl ?_
  refine go_iconst (pc := 2) (0 : Int32) dX3_multiplyRows_2 (by decide) ?_
  refine go_istore_n (pc := 3) 3 [some (vR 5), some (vL (0 : Int64)), none, some (vI (0 : Int32)), none] dX3_multiplyRows_3 rfl (by decide) rfl ?_
  obtain ⟨e19, hl20, hs⟩ := bnd hs
  refine g_X3_multiplyRows_4 (d := d) (0 : Int64) (0 : Int32) cR e19 hl20 ?_
  intro v21 v22 hv23
  subst hv23
  try dsimp only at hs
  refine go_lload_n (pc := 95) 1 dX3_multiplyRows_95 rfl rfl ?_
  cases hs
  exact go_lreturn (st := []) (pc := 96) dX3_multiplyRows_96 rfl (fun h => by cases h) ⟨rfl, rfl⟩
noncomputable def b_X3_findPolynomial_12 (oK : Int32) (ra : (Fin 2)) (x : Int32 × (Nat → Nat → Nat → Int64)) : Option ((Int32 × (Nat → Nat → Nat → Int64)) ⊕ ((Nat → Nat → Nat → Int64))) := if oK ≤ x.1 then (some (Sum.inr x.2)) else (chk x.1 10 (chk x.1 10 (chk x.1 10 (some (Sum.inl (x.1 + (1 : Int32), va_up (va_up x.2 ra.1 (va_up (x.2 ra.1) (fin10 x.1.toNatClampNeg).1 (fillJ 10 (x.2 ra.1 (fin10 x.1.toNatClampNeg).1) (0 : Int64)))) ra.1 (va_up ((va_up x.2 ra.1 (va_up (x.2 ra.1) (fin10 x.1.toNatClampNeg).1 (fillJ 10 (x.2 ra.1 (fin10 x.1.toNatClampNeg).1) (0 : Int64)))) ra.1) (fin10 x.1.toNatClampNeg).1 (vp_updL ((va_up x.2 ra.1 (va_up (x.2 ra.1) (fin10 x.1.toNatClampNeg).1 (fillJ 10 (x.2 ra.1 (fin10 x.1.toNatClampNeg).1) (0 : Int64)))) ra.1 (fin10 x.1.toNatClampNeg).1) x.1.toNatClampNeg (1 : Int64)))))))))
noncomputable def b_X3_findPolynomial_85 (oK : Int32) (rb : (Fin 2)) (y4 : Int64) (x : Int32 × (Nat → Nat → Nat → Int64)) : Option ((Int32 × (Nat → Nat → Nat → Int64)) ⊕ ((Nat → Nat → Nat → Int64))) := if oK ≤ x.1 then (some (Sum.inr x.2)) else (chk x.1 10 (chk x.1 10 (chk x.1 10 (some (Sum.inl (x.1 + (1 : Int32), va_up x.2 rb.1 (va_up (x.2 rb.1) (fin10 x.1.toNatClampNeg).1 (vp_updL (x.2 rb.1 (fin10 x.1.toNatClampNeg).1) x.1.toNatClampNeg ((x.2 rb.1 (fin10 x.1.toNatClampNeg).1 x.1.toNatClampNeg) + y4)))))))))
noncomputable def b_X3_findPolynomial_47 (oK : Int32) (cT : (Nat → Nat → Int32)) (x : Int32 × (Fin 2) × (Fin 2) × (Nat → Nat → Nat → Int64) × (Nat → Int64)) : Option ((Int32 × (Fin 2) × (Fin 2) × (Nat → Nat → Nat → Int64) × (Nat → Int64)) ⊕ ((Fin 2) × (Fin 2) × (Nat → Nat → Nat → Int64) × (Nat → Int64))) := if oK < x.1 then (some (Sum.inr (x.2.1, x.2.2.1, x.2.2.2.1, x.2.2.2.2))) else ((s_X3_multiplyRows oK cT x.2.1 x.2.2.1 x.2.2.2.1).bind (fun x10 => nezL x.1.toInt64 (chk (oK - x.1) 11 ((loop (b_X3_findPolynomial_85 oK x.2.2.1 ((-x10.1) / x.1.toInt64)) ((0 : Int32), x10.2)).bind (fun e18 => some (Sum.inl (x.1 + (1 : Int32), x.2.2.1, x.2.1, e18, vp_updL x.2.2.2.2 (oK - x.1).toNatClampNeg (((-x10.1) / x.1.toInt64) <<< (x.1.toInt64 &&& 63)))))))))
noncomputable def s_X3_findPolynomial (oK : Int32) (cT : (Nat → Nat → Int32)) (ra : (Fin 2)) (rb : (Fin 2)) (cR : (Nat → Nat → Nat → Int64)) (cP : (Nat → Int64)) : Option ((Fin 2) × (Fin 2) × (Nat → Nat → Nat → Int64) × (Nat → Int64)) := chk oK 11 ((loop (b_X3_findPolynomial_12 oK ra) ((0 : Int32), cR)).bind (fun e6 => (loop (b_X3_findPolynomial_47 oK cT) ((1 : Int32), ra, rb, e6, vp_updL cP oK.toNatClampNeg (1 : Int64))).bind (fun e21 => some (e21.1, e21.2.1, e21.2.2.1, e21.2.2.2))))
set_option maxRecDepth 20000 in
theorem g_X3_findPolynomial_12 {d : Nat}  {Q : Option AV → List AC → Prop}   (x0_ : Int32) (x1_ : (Nat → Nat → Nat → Int64)) (r : (Nat → Nat → Nat → Int64)) (hl : loop (b_X3_findPolynomial_12 oK ra) (x0_, x1_) = some r) (hk : Go mX3_findPolynomial (d + 2) false 0 0 45 [some (vR 5), none, none, none, none, none, none] [] (wC cK cF ga gi gs oK cT ra rb r cP cM ea eb cW aO aC aQ) Q) : Go mX3_findPolynomial (d + 2) false 0 0 12 [some (vR 5), some (vI x0_), none, none, none, none, none] [] (wC cK cF ga gi gs oK cT ra rb x1_ cP cM ea eb cW aO aC aQ) Q := by
  refine loop_go (P := fun x : Int32 × (Nat → Nat → Nat → Int64) => ∀ (x0_ : Int32) (x1_ : (Nat → Nat → Nat → Int64)), x = (x0_, x1_) → Go mX3_findPolynomial (d + 2) false 0 0 12 [some (vR 5), some (vI x0_), none, none, none, none, none] [] (wC cK cF ga gi gs oK cT ra rb x1_ cP cM ea eb cW aO aC aQ) Q) (K := fun r : (Nat → Nat → Nat → Int64) => Go mX3_findPolynomial (d + 2) false 0 0 45 [some (vR 5), none, none, none, none, none, none] [] (wC cK cF ga gi gs oK cT ra rb r cP cM ea eb cW aO aC aQ) Q) ?_ (x0_, x1_) r hl hk x0_ x1_ rfl
  · intro x y hs hI hE x0_ x1_ hx
    subst hx
    unfold b_X3_findPolynomial_12 at hs
    try dsimp only at hs
    refine go_iload_n (pc := 12) 1 dX3_findPolynomial_12 rfl rfl ?_
    refine go_aload_n (pc := 13) 0 dX3_findPolynomial_13 rfl rfl ?_
    refine go_getfield (pc := 14) (v := vI oK) 5 3 0 dX3_findPolynomial_14 flX3_37 rfl rfl ?_
    refine go_icmp_ge (pc := 17) 45 dX3_findPolynomial_17 (by decide) (fun h2 => ?_) (fun h2 => ?_)
    · have hs := it_t h2 hs
      obtain rfl := Option.some.inj hs
      refine go_sub (lv' := [some (vR 5), none, none, none, none, none, none]) ⟨rfl, trivial⟩ ?_
      exact hE x1_ rfl
    · have hs := it_f h2 hs
      refine go_aload_n (pc := 20) 0 dX3_findPolynomial_20 rfl rfl ?_
      refine go_getfield (pc := 21) (v := vR (pO ra.1)) 5 3 2 dX3_findPolynomial_21 flX3_18 rfl rfl ?_
      refine go_iload_n (pc := 24) 1 dX3_findPolynomial_24 rfl rfl ?_
      obtain ⟨hi3, hs⟩ := chk_t hs
      refine go_aaload (pc := 25) (pO ra.1) 4 dX3_findPolynomial_25 (by decide) (wC_rows ra) hi3 ?_
      show Go mX3_findPolynomial (d + 2) false 0 0 26 [some (vR 5), some (vI x0_), none, none, none, none, none] [vR (pO ra.1 + 1 + (fin10 x0_.toNatClampNeg).1)] (wC cK cF ga gi gs oK cT ra rb x1_ cP cM ea eb cW aO aC aQ) Q
      refine go_lconst (pc := 26) (0 : Int64) dX3_findPolynomial_26 (by decide) ?_
      refine go_callS (bc := 0) (bs := 0) (mc := 0) (ms := 0) (d := d + 1) (pc := 27) [vR (pO ra.1 + 1 + (fin10 x0_.toNatClampNeg).1), vL (0 : Int64)] [] dX3_findPolynomial_27 kJ7_fill_d0a16 mlX3_69 isJ7_fill_d0a16 rfl (Nat.le_of_ble_eq_true rfl) rfl (c_fillJ (d := d + 1) (wC_row ra (fin10 x0_.toNatClampNeg)) (by decide)) (fun r w' hq => ?_)
      obtain ⟨rfl, rfl⟩ := hq
      refine go_w (wC_srow ra (fin10 x0_.toNatClampNeg)) ?_
      show Go mX3_findPolynomial (d + 2) false 0 0 30 [some (vR 5), some (vI x0_), none, none, none, none, none] [] (wC cK cF ga gi gs oK cT ra rb (va_up x1_ ra.1 (va_up (x1_ ra.1) (fin10 x0_.toNatClampNeg).1 (fillJ 10 (x1_ ra.1 (fin10 x0_.toNatClampNeg).1) (0 : Int64)))) cP cM ea eb cW aO aC aQ) Q
      refine go_aload_n (pc := 30) 0 dX3_findPolynomial_30 rfl rfl ?_
      refine go_getfield (pc := 31) (v := vR (pO ra.1)) 5 3 2 dX3_findPolynomial_31 flX3_18 rfl rfl ?_
      refine go_iload_n (pc := 34) 1 dX3_findPolynomial_34 rfl rfl ?_
      obtain ⟨hi4, hs⟩ := chk_t hs
      refine go_aaload (pc := 35) (pO ra.1) 4 dX3_findPolynomial_35 (by decide) (wC_rows ra) hi4 ?_
      show Go mX3_findPolynomial (d + 2) false 0 0 36 [some (vR 5), some (vI x0_), none, none, none, none, none] [vR (pO ra.1 + 1 + (fin10 x0_.toNatClampNeg).1)] (wC cK cF ga gi gs oK cT ra rb (va_up x1_ ra.1 (va_up (x1_ ra.1) (fin10 x0_.toNatClampNeg).1 (fillJ 10 (x1_ ra.1 (fin10 x0_.toNatClampNeg).1) (0 : Int64)))) cP cM ea eb cW aO aC aQ) Q
      refine go_iload_n (pc := 36) 1 dX3_findPolynomial_36 rfl rfl ?_
      refine go_lconst (pc := 37) (1 : Int64) dX3_findPolynomial_37 (by decide) ?_
      obtain ⟨hi5, hs⟩ := chk_t hs
      refine go_lastore (pc := 38) (pO ra.1 + 1 + (fin10 x0_.toNatClampNeg).1) dX3_findPolynomial_38 (wC_row ra (fin10 x0_.toNatClampNeg)) hi5 (go_w (wC_srow ra (fin10 x0_.toNatClampNeg)) (show Go mX3_findPolynomial (d + 2) false 0 0 39 [some (vR 5), some (vI x0_), none, none, none, none, none] [] (wC cK cF ga gi gs oK cT ra rb (va_up (va_up x1_ ra.1 (va_up (x1_ ra.1) (fin10 x0_.toNatClampNeg).1 (fillJ 10 (x1_ ra.1 (fin10 x0_.toNatClampNeg).1) (0 : Int64)))) ra.1 (va_up ((va_up x1_ ra.1 (va_up (x1_ ra.1) (fin10 x0_.toNatClampNeg).1 (fillJ 10 (x1_ ra.1 (fin10 x0_.toNatClampNeg).1) (0 : Int64)))) ra.1) (fin10 x0_.toNatClampNeg).1 (vp_updL ((va_up x1_ ra.1 (va_up (x1_ ra.1) (fin10 x0_.toNatClampNeg).1 (fillJ 10 (x1_ ra.1 (fin10 x0_.toNatClampNeg).1) (0 : Int64)))) ra.1 (fin10 x0_.toNatClampNeg).1) x0_.toNatClampNeg (1 : Int64)))) cP cM ea eb cW aO aC aQ) Q from ?_))
      refine go_iinc (pc := 39) (x0_ + (1 : Int32)) [some (vR 5), some (vI (x0_ + (1 : Int32))), none, none, none, none, none] dX3_findPolynomial_39 rfl (iinc_1 _) (by decide) rfl ?_
      refine go_goto (pc := 42) 12 dX3_findPolynomial_42 (by decide) ?_
      obtain rfl := Option.some.inj hs
      exact hI (x0_ + (1 : Int32), va_up (va_up x1_ ra.1 (va_up (x1_ ra.1) (fin10 x0_.toNatClampNeg).1 (fillJ 10 (x1_ ra.1 (fin10 x0_.toNatClampNeg).1) (0 : Int64)))) ra.1 (va_up ((va_up x1_ ra.1 (va_up (x1_ ra.1) (fin10 x0_.toNatClampNeg).1 (fillJ 10 (x1_ ra.1 (fin10 x0_.toNatClampNeg).1) (0 : Int64)))) ra.1) (fin10 x0_.toNatClampNeg).1 (vp_updL ((va_up x1_ ra.1 (va_up (x1_ ra.1) (fin10 x0_.toNatClampNeg).1 (fillJ 10 (x1_ ra.1 (fin10 x0_.toNatClampNeg).1) (0 : Int64)))) ra.1 (fin10 x0_.toNatClampNeg).1) x0_.toNatClampNeg (1 : Int64)))) rfl (x0_ + (1 : Int32)) (va_up (va_up x1_ ra.1 (va_up (x1_ ra.1) (fin10 x0_.toNatClampNeg).1 (fillJ 10 (x1_ ra.1 (fin10 x0_.toNatClampNeg).1) (0 : Int64)))) ra.1 (va_up ((va_up x1_ ra.1 (va_up (x1_ ra.1) (fin10 x0_.toNatClampNeg).1 (fillJ 10 (x1_ ra.1 (fin10 x0_.toNatClampNeg).1) (0 : Int64)))) ra.1) (fin10 x0_.toNatClampNeg).1 (vp_updL ((va_up x1_ ra.1 (va_up (x1_ ra.1) (fin10 x0_.toNatClampNeg).1 (fillJ 10 (x1_ ra.1 (fin10 x0_.toNatClampNeg).1) (0 : Int64)))) ra.1 (fin10 x0_.toNatClampNeg).1) x0_.toNatClampNeg (1 : Int64)))) rfl
set_option maxRecDepth 20000 in
theorem g_X3_findPolynomial_85 {d : Nat}  {Q : Option AV → List AC → Prop} {y1 : Int32} {y4 : Int64}  (x0_ : Int32) (x1_ : (Nat → Nat → Nat → Int64)) (r : (Nat → Nat → Nat → Int64)) (hl : loop (b_X3_findPolynomial_85 oK rb y4) (x0_, x1_) = some r) (hk : Go mX3_findPolynomial (d + 2) false 0 0 115 [some (vR 5), some (vI y1), none, none, none, none, none] [] (wC cK cF ga gi gs oK cT ra rb r cP cM ea eb cW aO aC aQ) Q) : Go mX3_findPolynomial (d + 2) false 0 0 85 [some (vR 5), some (vI y1), none, none, some (vL y4), none, some (vI x0_)] [] (wC cK cF ga gi gs oK cT ra rb x1_ cP cM ea eb cW aO aC aQ) Q := by
  refine loop_go (P := fun x : Int32 × (Nat → Nat → Nat → Int64) => ∀ (x0_ : Int32) (x1_ : (Nat → Nat → Nat → Int64)), x = (x0_, x1_) → Go mX3_findPolynomial (d + 2) false 0 0 85 [some (vR 5), some (vI y1), none, none, some (vL y4), none, some (vI x0_)] [] (wC cK cF ga gi gs oK cT ra rb x1_ cP cM ea eb cW aO aC aQ) Q) (K := fun r : (Nat → Nat → Nat → Int64) => Go mX3_findPolynomial (d + 2) false 0 0 115 [some (vR 5), some (vI y1), none, none, none, none, none] [] (wC cK cF ga gi gs oK cT ra rb r cP cM ea eb cW aO aC aQ) Q) ?_ (x0_, x1_) r hl hk x0_ x1_ rfl
  · intro x y hs hI hE x0_ x1_ hx
    subst hx
    unfold b_X3_findPolynomial_85 at hs
    try dsimp only at hs
    refine go_iload (pc := 85) dX3_findPolynomial_85 rfl ?_
    refine go_aload_n (pc := 87) 0 dX3_findPolynomial_87 rfl rfl ?_
    refine go_getfield (pc := 88) (v := vI oK) 5 3 0 dX3_findPolynomial_88 flX3_37 rfl rfl ?_
    refine go_icmp_ge (pc := 91) 115 dX3_findPolynomial_91 (by decide) (fun h14 => ?_) (fun h14 => ?_)
    · have hs := it_t h14 hs
      obtain rfl := Option.some.inj hs
      refine go_sub (lv' := [some (vR 5), some (vI y1), none, none, none, none, none]) ⟨rfl, ⟨rfl, trivial⟩⟩ ?_
      exact hE x1_ rfl
    · have hs := it_f h14 hs
      refine go_aload_n (pc := 94) 0 dX3_findPolynomial_94 rfl rfl ?_
      refine go_getfield (pc := 95) (v := vR (pO rb.1)) 5 3 3 dX3_findPolynomial_95 flX3_21 rfl rfl ?_
      refine go_iload (pc := 98) dX3_findPolynomial_98 rfl ?_
      obtain ⟨hi15, hs⟩ := chk_t hs
      refine go_aaload (pc := 100) (pO rb.1) 4 dX3_findPolynomial_100 (by decide) (wC_rows rb) hi15 ?_
      show Go mX3_findPolynomial (d + 2) false 0 0 101 [some (vR 5), some (vI y1), none, none, some (vL y4), none, some (vI x0_)] [vR (pO rb.1 + 1 + (fin10 x0_.toNatClampNeg).1)] (wC cK cF ga gi gs oK cT ra rb x1_ cP cM ea eb cW aO aC aQ) Q
      refine go_iload (pc := 101) dX3_findPolynomial_101 rfl ?_
      refine go_dup2 (pc := 103) dX3_findPolynomial_103 rfl rfl ?_
      obtain ⟨hi16, hs⟩ := chk_t hs
      refine go_laload (pc := 104) (pO rb.1 + 1 + (fin10 x0_.toNatClampNeg).1) dX3_findPolynomial_104 (wC_row rb (fin10 x0_.toNatClampNeg)) hi16 ?_
      refine go_lload (pc := 105) dX3_findPolynomial_105 rfl ?_
      refine go_ladd (pc := 107) dX3_findPolynomial_107 ?_
      obtain ⟨hi17, hs⟩ := chk_t hs
      refine go_lastore (pc := 108) (pO rb.1 + 1 + (fin10 x0_.toNatClampNeg).1) dX3_findPolynomial_108 (wC_row rb (fin10 x0_.toNatClampNeg)) hi17 (go_w (wC_srow rb (fin10 x0_.toNatClampNeg)) (show Go mX3_findPolynomial (d + 2) false 0 0 109 [some (vR 5), some (vI y1), none, none, some (vL y4), none, some (vI x0_)] [] (wC cK cF ga gi gs oK cT ra rb (va_up x1_ rb.1 (va_up (x1_ rb.1) (fin10 x0_.toNatClampNeg).1 (vp_updL (x1_ rb.1 (fin10 x0_.toNatClampNeg).1) x0_.toNatClampNeg ((x1_ rb.1 (fin10 x0_.toNatClampNeg).1 x0_.toNatClampNeg) + y4)))) cP cM ea eb cW aO aC aQ) Q from ?_))
      refine go_iinc (pc := 109) (x0_ + (1 : Int32)) [some (vR 5), some (vI y1), none, none, some (vL y4), none, some (vI (x0_ + (1 : Int32)))] dX3_findPolynomial_109 rfl (iinc_1 _) (by decide) rfl ?_
      refine go_goto (pc := 112) 85 dX3_findPolynomial_112 (by decide) ?_
      obtain rfl := Option.some.inj hs
      exact hI (x0_ + (1 : Int32), va_up x1_ rb.1 (va_up (x1_ rb.1) (fin10 x0_.toNatClampNeg).1 (vp_updL (x1_ rb.1 (fin10 x0_.toNatClampNeg).1) x0_.toNatClampNeg ((x1_ rb.1 (fin10 x0_.toNatClampNeg).1 x0_.toNatClampNeg) + y4)))) rfl (x0_ + (1 : Int32)) (va_up x1_ rb.1 (va_up (x1_ rb.1) (fin10 x0_.toNatClampNeg).1 (vp_updL (x1_ rb.1 (fin10 x0_.toNatClampNeg).1) x0_.toNatClampNeg ((x1_ rb.1 (fin10 x0_.toNatClampNeg).1 x0_.toNatClampNeg) + y4)))) rfl
set_option maxRecDepth 20000 in
theorem g_X3_findPolynomial_47 {d : Nat}  {Q : Option AV → List AC → Prop}   (x0_ : Int32) (x1_ : (Fin 2)) (x2_ : (Fin 2)) (x3_ : (Nat → Nat → Nat → Int64)) (x4_ : (Nat → Int64)) (r : (Fin 2) × (Fin 2) × (Nat → Nat → Nat → Int64) × (Nat → Int64)) (hl : loop (b_X3_findPolynomial_47 oK cT) (x0_, x1_, x2_, x3_, x4_) = some r) (hk : ∀ (r0_ : (Fin 2)) (r1_ : (Fin 2)) (r2_ : (Nat → Nat → Nat → Int64)) (r3_ : (Nat → Int64)), r = (r0_, r1_, r2_, r3_) → Go mX3_findPolynomial (d + 2) false 0 0 141 [none, none, none, none, none, none, none] [] (wC cK cF ga gi gs oK cT r0_ r1_ r2_ r3_ cM ea eb cW aO aC aQ) Q) : Go mX3_findPolynomial (d + 2) false 0 0 47 [some (vR 5), some (vI x0_), none, none, none, none, none] [] (wC cK cF ga gi gs oK cT x1_ x2_ x3_ x4_ cM ea eb cW aO aC aQ) Q := by
  refine loop_go (P := fun x : Int32 × (Fin 2) × (Fin 2) × (Nat → Nat → Nat → Int64) × (Nat → Int64) => ∀ (x0_ : Int32) (x1_ : (Fin 2)) (x2_ : (Fin 2)) (x3_ : (Nat → Nat → Nat → Int64)) (x4_ : (Nat → Int64)), x = (x0_, x1_, x2_, x3_, x4_) → Go mX3_findPolynomial (d + 2) false 0 0 47 [some (vR 5), some (vI x0_), none, none, none, none, none] [] (wC cK cF ga gi gs oK cT x1_ x2_ x3_ x4_ cM ea eb cW aO aC aQ) Q) (K := fun r : (Fin 2) × (Fin 2) × (Nat → Nat → Nat → Int64) × (Nat → Int64) => ∀ (r0_ : (Fin 2)) (r1_ : (Fin 2)) (r2_ : (Nat → Nat → Nat → Int64)) (r3_ : (Nat → Int64)), r = (r0_, r1_, r2_, r3_) → Go mX3_findPolynomial (d + 2) false 0 0 141 [none, none, none, none, none, none, none] [] (wC cK cF ga gi gs oK cT r0_ r1_ r2_ r3_ cM ea eb cW aO aC aQ) Q) ?_ (x0_, x1_, x2_, x3_, x4_) r hl hk x0_ x1_ x2_ x3_ x4_ rfl
  · intro x y hs hI hE x0_ x1_ x2_ x3_ x4_ hx
    subst hx
    unfold b_X3_findPolynomial_47 at hs
    try dsimp only at hs
    refine go_iload_n (pc := 47) 1 dX3_findPolynomial_47 rfl rfl ?_
    refine go_aload_n (pc := 48) 0 dX3_findPolynomial_48 rfl rfl ?_
    refine go_getfield (pc := 49) (v := vI oK) 5 3 0 dX3_findPolynomial_49 flX3_37 rfl rfl ?_
    refine go_icmp_gt (pc := 52) 141 dX3_findPolynomial_52 (by decide) (fun h9 => ?_) (fun h9 => ?_)
    · have hs := it_t h9 hs
      obtain rfl := Option.some.inj hs
      refine go_sub (lv' := [none, none, none, none, none, none, none]) trivial ?_
      exact (hE (x1_, x2_, x3_, x4_) rfl) x1_ x2_ x3_ x4_ rfl
    · have hs := it_f h9 hs
      refine go_aload_n (pc := 55) 0 dX3_findPolynomial_55 rfl rfl ?_
      obtain ⟨x10, hc11, hs⟩ := bnd hs
      refine go_callV (bc := 0) (bs := 0) (mc := 0) (ms := 0) (d := d + 1) (pc := 56) (a := 5) (ci := 3) [] [] dX3_findPolynomial_56 kX3_multiplyRows mlX3_75 ivX3_multiplyRows rfl rfl rfl rfl (Nat.le_of_ble_eq_true rfl) rfl (c_X3_multiplyRows (d := d + 0) (res0 := x10.1) (res1 := x10.2) hc11) (fun r w' hq => ?_)
      obtain ⟨rfl, rfl⟩ := hq
      show Go mX3_findPolynomial (d + 2) false 0 0 59 [some (vR 5), some (vI x0_), none, none, none, none, none] [vL x10.1] (wC cK cF ga gi gs oK cT x1_ x2_ x10.2 x4_ cM ea eb cW aO aC aQ) Q
      refine go_lstore_n (pc := 59) 2 [some (vR 5), some (vI x0_), some (vL x10.1), none, none, none, none] dX3_findPolynomial_59 rfl (by decide) rfl ?_
      refine go_lload_n (pc := 60) 2 dX3_findPolynomial_60 rfl rfl ?_
      refine go_lneg (pc := 61) dX3_findPolynomial_61 ?_
      refine go_iload_n (pc := 62) 1 dX3_findPolynomial_62 rfl rfl ?_
      refine go_i2l (pc := 63) dX3_findPolynomial_63 ?_
      obtain ⟨hn12, hs⟩ := nezL_t hs
      refine go_ldiv (pc := 64) dX3_findPolynomial_64 hn12 ?_
      refine go_lstore (pc := 65) [some (vR 5), some (vI x0_), some (vL x10.1), none, some (vL ((-x10.1) / x0_.toInt64)), none, none] dX3_findPolynomial_65 (by decide) rfl ?_
      refine go_aload_n (pc := 67) 0 dX3_findPolynomial_67 rfl rfl ?_
      refine go_getfield (pc := 68) (v := vR 39) 5 3 4 dX3_findPolynomial_68 flX3_24 rfl rfl ?_
      refine go_aload_n (pc := 71) 0 dX3_findPolynomial_71 rfl rfl ?_
      refine go_getfield (pc := 72) (v := vI oK) 5 3 0 dX3_findPolynomial_72 flX3_37 rfl rfl ?_
      refine go_iload_n (pc := 75) 1 dX3_findPolynomial_75 rfl rfl ?_
      refine go_isub (pc := 76) dX3_findPolynomial_76 ?_
      refine go_lload (pc := 77) dX3_findPolynomial_77 rfl ?_
      refine go_iload_n (pc := 79) 1 dX3_findPolynomial_79 rfl rfl ?_
      refine go_lshl (pc := 80) dX3_findPolynomial_80 ?_
      obtain ⟨hi13, hs⟩ := chk_t hs
      refine go_lastore (pc := 81) 39 dX3_findPolynomial_81 rfl hi13 ((show Go mX3_findPolynomial (d + 2) false 0 0 82 [some (vR 5), some (vI x0_), some (vL x10.1), none, some (vL ((-x10.1) / x0_.toInt64)), none, none] [] (wC cK cF ga gi gs oK cT x1_ x2_ x10.2 (vp_updL x4_ (oK - x0_).toNatClampNeg (((-x10.1) / x0_.toInt64) <<< (x0_.toInt64 &&& 63))) cM ea eb cW aO aC aQ) Q from ?_))
      refine go_iconst (pc := 82) (0 : Int32) dX3_findPolynomial_82 (by decide) ?_
      refine go_istore (pc := 83) [some (vR 5), some (vI x0_), some (vL x10.1), none, some (vL ((-x10.1) / x0_.toInt64)), none, some (vI (0 : Int32))] dX3_findPolynomial_83 (by decide) rfl ?_
      refine go_sub (lv' := [some (vR 5), some (vI x0_), none, none, some (vL ((-x10.1) / x0_.toInt64)), none, some (vI (0 : Int32))]) ⟨rfl, ⟨rfl, ⟨rfl, ⟨rfl, trivial⟩⟩⟩⟩ ?_
      obtain ⟨e18, hl19, hs⟩ := bnd hs
      refine g_X3_findPolynomial_85 (d := d) (0 : Int32) x10.2 e18 hl19 ?_
      refine go_aload_n (pc := 115) 0 dX3_findPolynomial_115 rfl rfl ?_
      refine go_getfield (pc := 116) (v := vR (pO x1_.1)) 5 3 2 dX3_findPolynomial_116 flX3_18 rfl rfl ?_
      refine go_astore (pc := 119) [some (vR 5), some (vI x0_), none, none, none, none, some (vR (pO x1_.1))] dX3_findPolynomial_119 (by decide) rfl ?_
      refine go_aload_n (pc := 121) 0 dX3_findPolynomial_121 rfl rfl ?_
      refine go_aload_n (pc := 122) 0 dX3_findPolynomial_122 rfl rfl ?_
      refine go_getfield (pc := 123) (v := vR (pO x2_.1)) 5 3 3 dX3_findPolynomial_123 flX3_21 rfl rfl ?_
      refine go_putRA (pc := 126) 5 3 2 dX3_findPolynomial_126 fpX3_18 rfl (Nat.le_of_ble_eq_true rfl) ((show Go mX3_findPolynomial (d + 2) false 0 0 129 [some (vR 5), some (vI x0_), none, none, none, none, some (vR (pO x1_.1))] [] (wC cK cF ga gi gs oK cT x2_ x2_ e18 (vp_updL x4_ (oK - x0_).toNatClampNeg (((-x10.1) / x0_.toInt64) <<< (x0_.toInt64 &&& 63))) cM ea eb cW aO aC aQ) Q from ?_))
      refine go_aload_n (pc := 129) 0 dX3_findPolynomial_129 rfl rfl ?_
      refine go_aload (pc := 130) dX3_findPolynomial_130 rfl ?_
      refine go_putRA (pc := 132) 5 3 3 dX3_findPolynomial_132 fpX3_21 rfl (Nat.le_of_ble_eq_true rfl) ((show Go mX3_findPolynomial (d + 2) false 0 0 135 [some (vR 5), some (vI x0_), none, none, none, none, some (vR (pO x1_.1))] [] (wC cK cF ga gi gs oK cT x2_ x1_ e18 (vp_updL x4_ (oK - x0_).toNatClampNeg (((-x10.1) / x0_.toInt64) <<< (x0_.toInt64 &&& 63))) cM ea eb cW aO aC aQ) Q from ?_))
      refine go_iinc (pc := 135) (x0_ + (1 : Int32)) [some (vR 5), some (vI (x0_ + (1 : Int32))), none, none, none, none, some (vR (pO x1_.1))] dX3_findPolynomial_135 rfl (iinc_1 _) (by decide) rfl ?_
      refine go_goto (pc := 138) 47 dX3_findPolynomial_138 (by decide) ?_
      obtain rfl := Option.some.inj hs
      refine go_sub (lv' := [some (vR 5), some (vI (x0_ + (1 : Int32))), none, none, none, none, none]) ⟨rfl, ⟨rfl, trivial⟩⟩ ?_
      exact hI (x0_ + (1 : Int32), x2_, x1_, e18, vp_updL x4_ (oK - x0_).toNatClampNeg (((-x10.1) / x0_.toInt64) <<< (x0_.toInt64 &&& 63))) rfl (x0_ + (1 : Int32)) x2_ x1_ e18 (vp_updL x4_ (oK - x0_).toNatClampNeg (((-x10.1) / x0_.toInt64) <<< (x0_.toInt64 &&& 63))) rfl
set_option maxRecDepth 20000 in
theorem c_X3_findPolynomial {d : Nat}   {res0 : (Fin 2)} {res1 : (Fin 2)} {res2 : (Nat → Nat → Nat → Int64)} {res3 : (Nat → Int64)} (hs : s_X3_findPolynomial oK cT ra rb cR cP = some (res0, res1, res2, res3)) : Calls mX3_findPolynomial (d + 2) false 0 0 [vR 5] (wC cK cF ga gi gs oK cT ra rb cR cP cM ea eb cW aO aC aQ) (fun r w' => r = none ∧ w' = (wC cK cF ga gi gs oK cT res0 res1 res2 res3 cM ea eb cW aO aC aQ)) := by
  unfold s_X3_findPolynomial at hs
  refine Calls.of kX3_findPolynomial 6 [some (vR 5), none, none, none, none, none, none] rfl (Nat.le_of_ble_eq_true rfl) ?_
  refine go_aload_n (pc := 0) 0 dX3_findPolynomial_0 rfl rfl ?_
  refine go_getfield (pc := 1) (v := vR 39) 5 3 4 dX3_findPolynomial_1 flX3_24 rfl rfl ?_
  refine go_aload_n (pc := 4) 0 dX3_findPolynomial_4 rfl rfl ?_
  refine go_getfield (pc := 5) (v := vI oK) 5 3 0 dX3_findPolynomial_5 flX3_37 rfl rfl ?_
  refine go_lconst (pc := 8) (1 : Int64) dX3_findPolynomial_8 (by decide) ?_
  obtain ⟨hi1, hs⟩ := chk_t hs
  refine go_lastore (pc := 9) 39 dX3_findPolynomial_9 rfl hi1 ((show Go mX3_findPolynomial (d + 2) false 0 0 10 [some (vR 5), none, none, none, none, none, none] [] (wC cK cF ga gi gs oK cT ra rb cR (vp_updL cP oK.toNatClampNeg (1 : Int64)) cM ea eb cW aO aC aQ) _ from ?_))
  refine go_iconst (pc := 10) (0 : Int32) dX3_findPolynomial_10 (by decide) ?_
  refine go_istore_n (pc := 11) 1 [some (vR 5), some (vI (0 : Int32)), none, none, none, none, none] dX3_findPolynomial_11 rfl (by decide) rfl ?_
  obtain ⟨e6, hl7, hs⟩ := bnd hs
  refine g_X3_findPolynomial_12 (d := d) (0 : Int32) cR e6 hl7 ?_
  refine go_iconst (pc := 45) (1 : Int32) dX3_findPolynomial_45 (by decide) ?_
  refine go_istore_n (pc := 46) 1 [some (vR 5), some (vI (1 : Int32)), none, none, none, none, none] dX3_findPolynomial_46 rfl (by decide) rfl ?_
  obtain ⟨e21, hl22, hs⟩ := bnd hs
  refine g_X3_findPolynomial_47 (d := d) (1 : Int32) ra rb e6 (vp_updL cP oK.toNatClampNeg (1 : Int64)) e21 hl22 ?_
  intro v23 v24 v25 v26 hv27
  subst hv27
  try dsimp only at hs
  cases hs
  exact go_return (st := []) (pc := 141) dX3_findPolynomial_141 rfl (fun h => by cases h) ⟨rfl, rfl⟩
end
