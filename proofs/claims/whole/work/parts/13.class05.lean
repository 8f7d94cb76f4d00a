section
variable {cK : (Nat → Int32)} {cF : (Nat → Nat → Int32)} {ga : Int32} {gi : Int32} {gs : Int32} {oK : Int32} {cT : (Nat → Nat → Int32)} {ra : (Fin 2)} {rb : (Fin 2)} {cR : (Nat → Nat → Nat → Int64)} {cP : (Nat → Int64)} {cM : (Nat → Int64)} {ea : (Fin 2)} {eb : (Fin 2)} {cW : (Nat → Nat → Int64)} {aO : (Nat → Int32)} {aC : (Nat → Int32)} {aQ : (Nat → Int32)}
noncomputable def b_X2_shortestRound_16 (cK : (Nat → Int32)) (cF : (Nat → Nat → Int32)) (p0 : (Fin 5)) (y2 : Int32) (x : Int32 × Int32) : Option ((Int32 × Int32) ⊕ (Int32)) := if (cK p0.1) ≤ x.2 then (some (Sum.inr x.1)) else ((s_X2_joins cF p0 y2 x.2).bind (fun x3 => if x3 = 0 then (if (-1 : Int32) = (-1 : Int32) then (some (Sum.inl (x.1, x.2 + (1 : Int32)))) else (if x.1 = (-1 : Int32) then (some (Sum.inl ((-1 : Int32) + (1 : Int32), x.2 + (1 : Int32)))) else (if x.1 ≤ ((-1 : Int32) + (1 : Int32)) then (some (Sum.inl (x.1, x.2 + (1 : Int32)))) else (some (Sum.inl ((-1 : Int32) + (1 : Int32), x.2 + (1 : Int32))))))) else ((s_X2_fewestLines cK cF p0 y2 x.2 (0 : Int32)).bind (fun x9 => if x9 = (-1 : Int32) then (some (Sum.inl (x.1, x.2 + (1 : Int32)))) else (if x.1 = (-1 : Int32) then (some (Sum.inl (x9 + (1 : Int32), x.2 + (1 : Int32)))) else (if x.1 ≤ (x9 + (1 : Int32)) then (some (Sum.inl (x.1, x.2 + (1 : Int32)))) else (some (Sum.inl (x9 + (1 : Int32), x.2 + (1 : Int32))))))))))
noncomputable def b_X2_shortestRound_4 (cK : (Nat → Int32)) (cF : (Nat → Nat → Int32)) (p0 : (Fin 5)) (x : Int32 × Int32) : Option ((Int32 × Int32) ⊕ (Int32)) := if (cK p0.1) ≤ x.2 then (some (Sum.inr x.1)) else ((loop (b_X2_shortestRound_16 cK cF p0 x.2) (x.1, x.2 + (1 : Int32))).bind (fun e14 => some (Sum.inl (e14, x.2 + (1 : Int32)))))
noncomputable def s_X2_shortestRound (cK : (Nat → Int32)) (cF : (Nat → Nat → Int32)) (p0 : (Fin 5)) : Option (Int32) := (loop (b_X2_shortestRound_4 cK cF p0) ((-1 : Int32), (0 : Int32))).bind (fun e17 => some e17)
set_option maxRecDepth 20000 in
theorem g_X2_shortestRound_16 {d : Nat} {p0 : (Fin 5)} {Q : Option AV → List AC → Prop} {y2 : Int32}  (x0_ : Int32) (x1_ : Int32) (r : Int32) (hl : loop (b_X2_shortestRound_16 cK cF p0 y2) (x0_, x1_) = some r) (hk : Go mX2_shortestRound (d + 2) false 0 0 76 [some (vR (pN p0.1)), some (vI r), some (vI y2), none, none] [] (wC cK cF ga gi gs oK cT ra rb cR cP cM ea eb cW aO aC aQ) Q) : Go mX2_shortestRound (d + 2) false 0 0 16 [some (vR (pN p0.1)), some (vI x0_), some (vI y2), some (vI x1_), none] [] (wC cK cF ga gi gs oK cT ra rb cR cP cM ea eb cW aO aC aQ) Q := by
  refine loop_go (P := fun x : Int32 × Int32 => ∀ (x0_ : Int32) (x1_ : Int32), x = (x0_, x1_) → Go mX2_shortestRound (d + 2) false 0 0 16 [some (vR (pN p0.1)), some (vI x0_), some (vI y2), some (vI x1_), none] [] (wC cK cF ga gi gs oK cT ra rb cR cP cM ea eb cW aO aC aQ) Q) (K := fun r : Int32 => Go mX2_shortestRound (d + 2) false 0 0 76 [some (vR (pN p0.1)), some (vI r), some (vI y2), none, none] [] (wC cK cF ga gi gs oK cT ra rb cR cP cM ea eb cW aO aC aQ) Q) ?_ (x0_, x1_) r hl hk x0_ x1_ rfl
  · intro x y hs hI hE x0_ x1_ hx
    subst hx
    unfold b_X2_shortestRound_16 at hs
    try dsimp only at hs
    refine go_iload_n (pc := 16) 3 dX2_shortestRound_16 rfl rfl ?_
    refine go_aload_n (pc := 17) 0 dX2_shortestRound_17 rfl rfl ?_
    refine go_getfield (pc := 18) (v := vI (cK p0.1)) (pN p0.1) 2 0 dX2_shortestRound_18 flX2_9 (wC_net p0) rfl ?_
    refine go_icmp_ge (pc := 21) 76 dX2_shortestRound_21 (by decide) (fun h2 => ?_) (fun h2 => ?_)
    · have hs := it_t h2 hs
      obtain rfl := Option.some.inj hs
      refine go_sub (lv' := [some (vR (pN p0.1)), some (vI x0_), some (vI y2), none, none]) ⟨rfl, ⟨rfl, ⟨rfl, trivial⟩⟩⟩ ?_
      exact hE x0_ rfl
    · have hs := it_f h2 hs
      refine go_aload_n (pc := 24) 0 dX2_shortestRound_24 rfl rfl ?_
      refine go_iload_n (pc := 25) 2 dX2_shortestRound_25 rfl rfl ?_
      refine go_iload_n (pc := 26) 3 dX2_shortestRound_26 rfl rfl ?_
      obtain ⟨x3, hc4, hs⟩ := bnd hs
      refine go_callV (bc := 0) (bs := 0) (mc := 0) (ms := 0) (d := d + 1) (pc := 27) (a := (pN p0.1)) (ci := 2) [vI y2, vI x1_] [] dX2_shortestRound_27 kX2_joins mlX2_51 ivX2_joins rfl rfl (wC_net p0) rfl (Nat.le_of_ble_eq_true rfl) rfl (c_X2_joins (d := d + 1) (res0 := x3) hc4) (fun r w' hq => ?_)
      obtain ⟨rfl, rfl⟩ := hq
      show Go mX2_shortestRound (d + 2) false 0 0 30 [some (vR (pN p0.1)), some (vI x0_), some (vI y2), some (vI x1_), none] [vI x3] (wC cK cF ga gi gs oK cT ra rb cR cP cM ea eb cW aO aC aQ) Q
      refine go_if_eq (pc := 30) 43 dX2_shortestRound_30 (by decide) (fun h5 => ?_) (fun h5 => ?_)
      · have hs := it_t h5 hs
        refine go_iconst (pc := 43) (-1 : Int32) dX2_shortestRound_43 (by decide) ?_
        refine go_istore (pc := 44) [some (vR (pN p0.1)), some (vI x0_), some (vI y2), some (vI x1_), some (vI (-1 : Int32))] dX2_shortestRound_44 (by decide) rfl ?_
        refine go_iload (pc := 46) dX2_shortestRound_46 rfl ?_
        refine go_iconst (pc := 48) (-1 : Int32) dX2_shortestRound_48 (by decide) ?_
        refine go_icmp_eq (pc := 49) 70 dX2_shortestRound_49 (by decide) (fun h6 => ?_) (fun h6 => ?_)
        · have hs := it_t h6 hs
          refine go_iinc (pc := 70) (x1_ + (1 : Int32)) [some (vR (pN p0.1)), some (vI x0_), some (vI y2), some (vI (x1_ + (1 : Int32))), some (vI (-1 : Int32))] dX2_shortestRound_70 rfl (iinc_1 _) (by decide) rfl ?_
          refine go_goto (pc := 73) 16 dX2_shortestRound_73 (by decide) ?_
          obtain rfl := Option.some.inj hs
          refine go_sub (lv' := [some (vR (pN p0.1)), some (vI x0_), some (vI y2), some (vI (x1_ + (1 : Int32))), none]) ⟨rfl, ⟨rfl, ⟨rfl, ⟨rfl, trivial⟩⟩⟩⟩ ?_
          exact hI (x0_, x1_ + (1 : Int32)) rfl x0_ (x1_ + (1 : Int32)) rfl
        · have hs := it_f h6 hs
          refine go_iload_n (pc := 52) 1 dX2_shortestRound_52 rfl rfl ?_
          refine go_iconst (pc := 53) (-1 : Int32) dX2_shortestRound_53 (by decide) ?_
          refine go_icmp_eq (pc := 54) 65 dX2_shortestRound_54 (by decide) (fun h7 => ?_) (fun h7 => ?_)
          · have hs := it_t h7 hs
            refine go_iload (pc := 65) dX2_shortestRound_65 rfl ?_
            refine go_iconst (pc := 67) (1 : Int32) dX2_shortestRound_67 (by decide) ?_
            refine go_iadd (pc := 68) dX2_shortestRound_68 ?_
            refine go_istore_n (pc := 69) 1 [some (vR (pN p0.1)), some (vI ((-1 : Int32) + (1 : Int32))), some (vI y2), some (vI x1_), some (vI (-1 : Int32))] dX2_shortestRound_69 rfl (by decide) rfl ?_
            refine go_iinc (pc := 70) (x1_ + (1 : Int32)) [some (vR (pN p0.1)), some (vI ((-1 : Int32) + (1 : Int32))), some (vI y2), some (vI (x1_ + (1 : Int32))), some (vI (-1 : Int32))] dX2_shortestRound_70 rfl (iinc_1 _) (by decide) rfl ?_
            refine go_goto (pc := 73) 16 dX2_shortestRound_73 (by decide) ?_
            obtain rfl := Option.some.inj hs
            refine go_sub (lv' := [some (vR (pN p0.1)), some (vI ((-1 : Int32) + (1 : Int32))), some (vI y2), some (vI (x1_ + (1 : Int32))), none]) ⟨rfl, ⟨rfl, ⟨rfl, ⟨rfl, trivial⟩⟩⟩⟩ ?_
            exact hI ((-1 : Int32) + (1 : Int32), x1_ + (1 : Int32)) rfl ((-1 : Int32) + (1 : Int32)) (x1_ + (1 : Int32)) rfl
          · have hs := it_f h7 hs
            refine go_iload (pc := 57) dX2_shortestRound_57 rfl ?_
            refine go_iconst (pc := 59) (1 : Int32) dX2_shortestRound_59 (by decide) ?_
            refine go_iadd (pc := 60) dX2_shortestRound_60 ?_
            refine go_iload_n (pc := 61) 1 dX2_shortestRound_61 rfl rfl ?_
            refine go_icmp_ge (pc := 62) 70 dX2_shortestRound_62 (by decide) (fun h8 => ?_) (fun h8 => ?_)
            · have hs := it_t h8 hs
              refine go_iinc (pc := 70) (x1_ + (1 : Int32)) [some (vR (pN p0.1)), some (vI x0_), some (vI y2), some (vI (x1_ + (1 : Int32))), some (vI (-1 : Int32))] dX2_shortestRound_70 rfl (iinc_1 _) (by decide) rfl ?_
              refine go_goto (pc := 73) 16 dX2_shortestRound_73 (by decide) ?_
              obtain rfl := Option.some.inj hs
              refine go_sub (lv' := [some (vR (pN p0.1)), some (vI x0_), some (vI y2), some (vI (x1_ + (1 : Int32))), none]) ⟨rfl, ⟨rfl, ⟨rfl, ⟨rfl, trivial⟩⟩⟩⟩ ?_
              exact hI (x0_, x1_ + (1 : Int32)) rfl x0_ (x1_ + (1 : Int32)) rfl
            · have hs := it_f h8 hs
              refine go_iload (pc := 65) dX2_shortestRound_65 rfl ?_
              refine go_iconst (pc := 67) (1 : Int32) dX2_shortestRound_67 (by decide) ?_
              refine go_iadd (pc := 68) dX2_shortestRound_68 ?_
              refine go_istore_n (pc := 69) 1 [some (vR (pN p0.1)), some (vI ((-1 : Int32) + (1 : Int32))), some (vI y2), some (vI x1_), some (vI (-1 : Int32))] dX2_shortestRound_69 rfl (by decide) rfl ?_
              refine go_iinc (pc := 70) (x1_ + (1 : Int32)) [some (vR (pN p0.1)), some (vI ((-1 : Int32) + (1 : Int32))), some (vI y2), some (vI (x1_ + (1 : Int32))), some (vI (-1 : Int32))] dX2_shortestRound_70 rfl (iinc_1 _) (by decide) rfl ?_
              refine go_goto (pc := 73) 16 dX2_shortestRound_73 (by decide) ?_
              obtain rfl := Option.some.inj hs
              refine go_sub (lv' := [some (vR (pN p0.1)), some (vI ((-1 : Int32) + (1 : Int32))), some (vI y2), some (vI (x1_ + (1 : Int32))), none]) ⟨rfl, ⟨rfl, ⟨rfl, ⟨rfl, trivial⟩⟩⟩⟩ ?_
              exact hI ((-1 : Int32) + (1 : Int32), x1_ + (1 : Int32)) rfl ((-1 : Int32) + (1 : Int32)) (x1_ + (1 : Int32)) rfl
      · have hs := it_f h5 hs
        refine go_aload_n (pc := 33) 0 dX2_shortestRound_33 rfl rfl ?_
        refine go_iload_n (pc := 34) 2 dX2_shortestRound_34 rfl rfl ?_
        refine go_iload_n (pc := 35) 3 dX2_shortestRound_35 rfl rfl ?_
        refine go_iconst (pc := 36) (0 : Int32) dX2_shortestRound_36 (by decide) ?_
        obtain ⟨x9, hc10, hs⟩ := bnd hs
        refine go_callV (bc := 0) (bs := 0) (mc := 0) (ms := 0) (d := d + 1) (pc := 37) (a := (pN p0.1)) (ci := 2) [vI y2, vI x1_, vI (0 : Int32)] [] dX2_shortestRound_37 kX2_fewestLines mlX2_69 ivX2_fewestLines rfl rfl (wC_net p0) rfl (Nat.le_of_ble_eq_true rfl) rfl (c_X2_fewestLines (d := d + 0) (res0 := x9) hc10) (fun r w' hq => ?_)
        obtain ⟨rfl, rfl⟩ := hq
        show Go mX2_shortestRound (d + 2) false 0 0 40 [some (vR (pN p0.1)), some (vI x0_), some (vI y2), some (vI x1_), none] [vI x9] (wC cK cF ga gi gs oK cT ra rb cR cP cM ea eb cW aO aC aQ) Q
        refine go_goto (pc := 40) 44 dX2_shortestRound_40 (by decide) ?_
        refine go_istore (pc := 44) [some (vR (pN p0.1)), some (vI x0_), some (vI y2), some (vI x1_), some (vI x9)] dX2_shortestRound_44 (by decide) rfl ?_
        refine go_iload (pc := 46) dX2_shortestRound_46 rfl ?_
        refine go_iconst (pc := 48) (-1 : Int32) dX2_shortestRound_48 (by decide) ?_
        refine go_icmp_eq (pc := 49) 70 dX2_shortestRound_49 (by decide) (fun h11 => ?_) (fun h11 => ?_)
        · have hs := it_t h11 hs
          refine go_iinc (pc := 70) (x1_ + (1 : Int32)) [some (vR (pN p0.1)), some (vI x0_), some (vI y2), some (vI (x1_ + (1 : Int32))), some (vI x9)] dX2_shortestRound_70 rfl (iinc_1 _) (by decide) rfl ?_
          refine go_goto (pc := 73) 16 dX2_shortestRound_73 (by decide) ?_
          obtain rfl := Option.some.inj hs
          refine go_sub (lv' := [some (vR (pN p0.1)), some (vI x0_), some (vI y2), some (vI (x1_ + (1 : Int32))), none]) ⟨rfl, ⟨rfl, ⟨rfl, ⟨rfl, trivial⟩⟩⟩⟩ ?_
          exact hI (x0_, x1_ + (1 : Int32)) rfl x0_ (x1_ + (1 : Int32)) rfl
        · have hs := it_f h11 hs
          refine go_iload_n (pc := 52) 1 dX2_shortestRound_52 rfl rfl ?_
          refine go_iconst (pc := 53) (-1 : Int32) dX2_shortestRound_53 (by decide) ?_
          refine go_icmp_eq (pc := 54) 65 dX2_shortestRound_54 (by decide) (fun h12 => ?_) (fun h12 => ?_)
          · have hs := it_t h12 hs
            refine go_iload (pc := 65) dX2_shortestRound_65 rfl ?_
            refine go_iconst (pc := 67) (1 : Int32) dX2_shortestRound_67 (by decide) ?_
            refine go_iadd (pc := 68) dX2_shortestRound_68 ?_
            refine go_istore_n (pc := 69) 1 [some (vR (pN p0.1)), some (vI (x9 + (1 : Int32))), some (vI y2), some (vI x1_), some (vI x9)] dX2_shortestRound_69 rfl (by decide) rfl ?_
            refine go_iinc (pc := 70) (x1_ + (1 : Int32)) [some (vR (pN p0.1)), some (vI (x9 + (1 : Int32))), some (vI y2), some (vI (x1_ + (1 : Int32))), some (vI x9)] dX2_shortestRound_70 rfl (iinc_1 _) (by decide) rfl ?_
            refine go_goto (pc := 73) 16 dX2_shortestRound_73 (by decide) ?_
            obtain rfl := Option.some.inj hs
            refine go_sub (lv' := [some (vR (pN p0.1)), some (vI (x9 + (1 : Int32))), some (vI y2), some (vI (x1_ + (1 : Int32))), none]) ⟨rfl, ⟨rfl, ⟨rfl, ⟨rfl, trivial⟩⟩⟩⟩ ?_
            exact hI (x9 + (1 : Int32), x1_ + (1 : Int32)) rfl (x9 + (1 : Int32)) (x1_ + (1 : Int32)) rfl
          · have hs := it_f h12 hs
            refine go_iload (pc := 57) dX2_shortestRound_57 rfl ?_
            refine go_iconst (pc := 59) (1 : Int32) dX2_shortestRound_59 (by decide) ?_
            refine go_iadd (pc := 60) dX2_shortestRound_60 ?_
            refine go_iload_n (pc := 61) 1 dX2_shortestRound_61 rfl rfl ?_
            refine go_icmp_ge (pc := 62) 70 dX2_shortestRound_62 (by decide) (fun h13 => ?_) (fun h13 => ?_)
            · have hs := it_t h13 hs
              refine go_iinc (pc := 70) (x1_ + (1 : Int32)) [some (vR (pN p0.1)), some (vI x0_), some (vI y2), some (vI (x1_ + (1 : Int32))), some (vI x9)] dX2_shortestRound_70 rfl (iinc_1 _) (by decide) rfl ?_
              refine go_goto (pc := 73) 16 dX2_shortestRound_73 (by decide) ?_
              obtain rfl := Option.some.inj hs
              refine go_sub (lv' := [some (vR (pN p0.1)), some (vI x0_), some (vI y2), some (vI (x1_ + (1 : Int32))), none]) ⟨rfl, ⟨rfl, ⟨rfl, ⟨rfl, trivial⟩⟩⟩⟩ ?_
              exact hI (x0_, x1_ + (1 : Int32)) rfl x0_ (x1_ + (1 : Int32)) rfl
            · have hs := it_f h13 hs
              refine go_iload (pc := 65) dX2_shortestRound_65 rfl ?_
              refine go_iconst (pc := 67) (1 : Int32) dX2_shortestRound_67 (by decide) ?_
              refine go_iadd (pc := 68) dX2_shortestRound_68 ?_
              refine go_istore_n (pc := 69) 1 [some (vR (pN p0.1)), some (vI (x9 + (1 : Int32))), some (vI y2), some (vI x1_), some (vI x9)] dX2_shortestRound_69 rfl (by decide) rfl ?_
              refine go_iinc (pc := 70) (x1_ + (1 : Int32)) [some (vR (pN p0.1)), some (vI (x9 + (1 : Int32))), some (vI y2), some (vI (x1_ + (1 : Int32))), some (vI x9)] dX2_shortestRound_70 rfl (iinc_1 _) (by decide) rfl ?_
              refine go_goto (pc := 73) 16 dX2_shortestRound_73 (by decide) ?_
              obtain rfl := Option.some.inj hs
              refine go_sub (lv' := [some (vR (pN p0.1)), some (vI (x9 + (1 : Int32))), some (vI y2), some (vI (x1_ + (1 : Int32))), none]) ⟨rfl, ⟨rfl, ⟨rfl, ⟨rfl, trivial⟩⟩⟩⟩ ?_
              exact hI (x9 + (1 : Int32), x1_ + (1 : Int32)) rfl (x9 + (1 : Int32)) (x1_ + (1 : Int32)) rfl
set_option maxRecDepth 20000 in
theorem g_X2_shortestRound_4 {d : Nat} {p0 : (Fin 5)} {Q : Option AV → List AC → Prop}   (x0_ : Int32) (x1_ : Int32) (r : Int32) (hl : loop (b_X2_shortestRound_4 cK cF p0) (x0_, x1_) = some r) (hk : Go mX2_shortestRound (d + 2) false 0 0 82 [none, some (vI r), none, none, none] [] (wC cK cF ga gi gs oK cT ra rb cR cP cM ea eb cW aO aC aQ) Q) : Go mX2_shortestRound (d + 2) false 0 0 4 [some (vR (pN p0.1)), some (vI x0_), some (vI x1_), none, none] [] (wC cK cF ga gi gs oK cT ra rb cR cP cM ea eb cW aO aC aQ) Q := by
  refine loop_go (P := fun x : Int32 × Int32 => ∀ (x0_ : Int32) (x1_ : Int32), x = (x0_, x1_) → Go mX2_shortestRound (d + 2) false 0 0 4 [some (vR (pN p0.1)), some (vI x0_), some (vI x1_), none, none] [] (wC cK cF ga gi gs oK cT ra rb cR cP cM ea eb cW aO aC aQ) Q) (K := fun r : Int32 => Go mX2_shortestRound (d + 2) false 0 0 82 [none, some (vI r), none, none, none] [] (wC cK cF ga gi gs oK cT ra rb cR cP cM ea eb cW aO aC aQ) Q) ?_ (x0_, x1_) r hl hk x0_ x1_ rfl
  · intro x y hs hI hE x0_ x1_ hx
    subst hx
    unfold b_X2_shortestRound_4 at hs
    try dsimp only at hs
    refine go_iload_n (pc := 4) 2 dX2_shortestRound_4 rfl rfl ?_
    refine go_aload_n (pc := 5) 0 dX2_shortestRound_5 rfl rfl ?_
    refine go_getfield (pc := 6) (v := vI (cK p0.1)) (pN p0.1) 2 0 dX2_shortestRound_6 flX2_9 (wC_net p0) rfl ?_
    refine go_icmp_ge (pc := 9) 82 dX2_shortestRound_9 (by decide) (fun h1 => ?_) (fun h1 => ?_)
    · have hs := it_t h1 hs
      obtain rfl := Option.some.inj hs
      refine go_sub (lv' := [none, some (vI x0_), none, none, none]) ⟨rfl, trivial⟩ ?_
      exact hE x0_ rfl
    · have hs := it_f h1 hs
      refine go_iload_n (pc := 12) 2 dX2_shortestRound_12 rfl rfl ?_
      refine go_iconst (pc := 13) (1 : Int32) dX2_shortestRound_13 (by decide) ?_
      refine go_iadd (pc := 14) dX2_shortestRound_14 ?_
      refine go_istore_n (pc := 15) 3 [some (vR (pN p0.1)), some (vI x0_), some (vI x1_), some (vI (x1_ + (1 : Int32))), none] dX2_shortestRound_15 rfl (by decide) rfl ?_
      obtain ⟨e14, hl15, hs⟩ := bnd hs
      refine g_X2_shortestRound_16 (d := d) x0_ (x1_ + (1 : Int32)) e14 hl15 ?_
      refine go_iinc (pc := 76) (x1_ + (1 : Int32)) [some (vR (pN p0.1)), some (vI e14), some (vI (x1_ + (1 : Int32))), none, none] dX2_shortestRound_76 rfl (iinc_1 _) (by decide) rfl ?_
      refine go_goto (pc := 79) 4 dX2_shortestRound_79 (by decide) ?_
      obtain rfl := Option.some.inj hs
      exact hI (e14, x1_ + (1 : Int32)) rfl e14 (x1_ + (1 : Int32)) rfl
set_option maxRecDepth 20000 in
theorem c_X2_shortestRound {d : Nat}  {p0 : (Fin 5)} {res0 : Int32} (hs : s_X2_shortestRound cK cF p0 = some res0) : Calls mX2_shortestRound (d + 2) false 0 0 [vR (pN p0.1)] (wC cK cF ga gi gs oK cT ra rb cR cP cM ea eb cW aO aC aQ) (fun r w' => r = some (vI res0) ∧ w' = (wC cK cF ga gi gs oK cT ra rb cR cP cM ea eb cW aO aC aQ)) := by
  unfold s_X2_shortestRound at hs
  refine Calls.of kX2_shortestRound 4 [some (vR (pN p0.1)), none, none, none, none] rfl (Nat.le_of_ble_eq_true rfl) ?_
  refine go_iconst (pc := 0) (-1 : Int32) dX2_shortestRound_0 (by decide) ?_
  refine go_istore_n (pc := 1) 1 [some (vR (pN p0.1)), some (vI (-1 : Int32)), none, none, none] dX2_shortestRound_1 rfl (by decide) rfl ?_
  refine go_iconst (pc := 2) (0 : Int32) dX2_shortestRound_2 (by decide) ?_
  refine go_istore_n (pc := 3) 2 [some (vR (pN p0.1)), some (vI (-1 : Int32)), some (vI (0 : Int32)), none, none] dX2_shortestRound_3 rfl (by decide) rfl ?_
  obtain ⟨e17, hl18, hs⟩ := bnd hs
  refine g_X2_shortestRound_4 (d := d) (-1 : Int32) (0 : Int32) e17 hl18 ?_
  refine go_iload_n (pc := 82) 1 dX2_shortestRound_82 rfl rfl ?_
  cases hs
  exact go_ireturn (st := []) (pc := 83) dX2_shortestRound_83 rfl (vp_nar_int _) (fun h => by cases h) ⟨rfl, rfl⟩
noncomputable def b_X2_oddKnots_23 (cK : (Nat → Int32)) (cF : (Nat → Nat → Int32)) (p0 : (Fin 5)) (y1 : Int64) (y5 : Int32) (x : Int32 × Int32 × Int32) : Option ((Int32 × Int32 × Int32) ⊕ (Int32 × Int32)) := if (cK p0.1) ≤ x.2.2 then (some (Sum.inr (x.1, x.2.1))) else ((s_X2_joins cF p0 y5 x.2.2).bind (fun x3 => if x3 = 0 then (some (Sum.inl (x.1, x.2.1, x.2.2 + (1 : Int32)))) else (if (lg_cmp (((y1.toUInt64 >>> (x.2.1.toInt64.toUInt64 &&& Int64.toUInt64 63)).toInt64) &&& (1 : Int64)) (1 : Int64)) = 0 then (lt' (x.1 ^^^ (((1 : Int32) <<< (y5 &&& 31)) ||| ((1 : Int32) <<< (x.2.2 &&& 31)))) (fun z7 => some (Sum.inl (z7, x.2.1 + (1 : Int32), x.2.2 + (1 : Int32))))) else (some (Sum.inl (x.1, x.2.1 + (1 : Int32), x.2.2 + (1 : Int32)))))))
noncomputable def b_X2_oddKnots_8 (cK : (Nat → Int32)) (cF : (Nat → Nat → Int32)) (p0 : (Fin 5)) (y1 : Int64) (x : Int32 × Int32 × Int32) : Option ((Int32 × Int32 × Int32) ⊕ (Int32)) := if (cK p0.1) ≤ x.2.2 then (some (Sum.inr x.1)) else ((loop (b_X2_oddKnots_23 cK cF p0 y1 x.2.2) (x.1, x.2.1, x.2.2 + (1 : Int32))).bind (fun e8 => some (Sum.inl (e8.1, e8.2, x.2.2 + (1 : Int32)))))
noncomputable def s_X2_oddKnots (cK : (Nat → Int32)) (cF : (Nat → Nat → Int32)) (p0 : (Fin 5)) (a1 : Int64) : Option (Int32) := (loop (b_X2_oddKnots_8 cK cF p0 a1) ((0 : Int32), (0 : Int32), (0 : Int32))).bind (fun e13 => some e13)
set_option maxRecDepth 20000 in
theorem g_X2_oddKnots_23 {d : Nat} {p0 : (Fin 5)} {Q : Option AV → List AC → Prop} {y1 : Int64} {y5 : Int32}  (x0_ : Int32) (x1_ : Int32) (x2_ : Int32) (r : Int32 × Int32) (hl : loop (b_X2_oddKnots_23 cK cF p0 y1 y5) (x0_, x1_, x2_) = some r) (hk : ∀ (r0_ : Int32) (r1_ : Int32), r = (r0_, r1_) → Go mX2_oddKnots (d + 1) false 0 0 78 [some (vR (pN p0.1)), some (vL y1), none, some (vI r0_), some (vI r1_), some (vI y5), none] [] (wC cK cF ga gi gs oK cT ra rb cR cP cM ea eb cW aO aC aQ) Q) : Go mX2_oddKnots (d + 1) false 0 0 23 [some (vR (pN p0.1)), some (vL y1), none, some (vI x0_), some (vI x1_), some (vI y5), some (vI x2_)] [] (wC cK cF ga gi gs oK cT ra rb cR cP cM ea eb cW aO aC aQ) Q := by
  refine loop_go (P := fun x : Int32 × Int32 × Int32 => ∀ (x0_ : Int32) (x1_ : Int32) (x2_ : Int32), x = (x0_, x1_, x2_) → Go mX2_oddKnots (d + 1) false 0 0 23 [some (vR (pN p0.1)), some (vL y1), none, some (vI x0_), some (vI x1_), some (vI y5), some (vI x2_)] [] (wC cK cF ga gi gs oK cT ra rb cR cP cM ea eb cW aO aC aQ) Q) (K := fun r : Int32 × Int32 => ∀ (r0_ : Int32) (r1_ : Int32), r = (r0_, r1_) → Go mX2_oddKnots (d + 1) false 0 0 78 [some (vR (pN p0.1)), some (vL y1), none, some (vI r0_), some (vI r1_), some (vI y5), none] [] (wC cK cF ga gi gs oK cT ra rb cR cP cM ea eb cW aO aC aQ) Q) ?_ (x0_, x1_, x2_) r hl hk x0_ x1_ x2_ rfl
  · intro x y hs hI hE x0_ x1_ x2_ hx
    subst hx
    unfold b_X2_oddKnots_23 at hs
    try dsimp only at hs
    refine go_iload (pc := 23) dX2_oddKnots_23 rfl ?_
    refine go_aload_n (pc := 25) 0 dX2_oddKnots_25 rfl rfl ?_
    refine go_getfield (pc := 26) (v := vI (cK p0.1)) (pN p0.1) 2 0 dX2_oddKnots_26 flX2_9 (wC_net p0) rfl ?_
    refine go_icmp_ge (pc := 29) 78 dX2_oddKnots_29 (by decide) (fun h2 => ?_) (fun h2 => ?_)
    · have hs := it_t h2 hs
      obtain rfl := Option.some.inj hs
      refine go_sub (lv' := [some (vR (pN p0.1)), some (vL y1), none, some (vI x0_), some (vI x1_), some (vI y5), none]) ⟨rfl, ⟨rfl, ⟨rfl, ⟨rfl, ⟨rfl, trivial⟩⟩⟩⟩⟩ ?_
      exact (hE (x0_, x1_) rfl) x0_ x1_ rfl
    · have hs := it_f h2 hs
      refine go_aload_n (pc := 32) 0 dX2_oddKnots_32 rfl rfl ?_
      refine go_iload (pc := 33) dX2_oddKnots_33 rfl ?_
      refine go_iload (pc := 35) dX2_oddKnots_35 rfl ?_
      obtain ⟨x3, hc4, hs⟩ := bnd hs
      refine go_callV (bc := 0) (bs := 0) (mc := 0) (ms := 0) (d := d + 0) (pc := 37) (a := (pN p0.1)) (ci := 2) [vI y5, vI x2_] [] dX2_oddKnots_37 kX2_joins mlX2_51 ivX2_joins rfl rfl (wC_net p0) rfl (Nat.le_of_ble_eq_true rfl) rfl (c_X2_joins (d := d + 0) (res0 := x3) hc4) (fun r w' hq => ?_)
      obtain ⟨rfl, rfl⟩ := hq
      show Go mX2_oddKnots (d + 1) false 0 0 40 [some (vR (pN p0.1)), some (vL y1), none, some (vI x0_), some (vI x1_), some (vI y5), some (vI x2_)] [vI x3] (wC cK cF ga gi gs oK cT ra rb cR cP cM ea eb cW aO aC aQ) Q
      refine go_if_ne (pc := 40) 46 dX2_oddKnots_40 (by decide) (fun h5 => ?_) (fun h5 => ?_)
      · have hs := it_f h5 hs
        refine go_lload_n (pc := 46) 1 dX2_oddKnots_46 rfl rfl ?_
        refine go_iload (pc := 47) dX2_oddKnots_47 rfl ?_
        refine go_lushr (pc := 49) dX2_oddKnots_49 ?_
        refine go_lconst (pc := 50) (1 : Int64) dX2_oddKnots_50 (by decide) ?_
        refine go_land (pc := 51) dX2_oddKnots_51 ?_
        refine go_lconst (pc := 52) (1 : Int64) dX2_oddKnots_52 (by decide) ?_
        refine go_lcmp (pc := 53) dX2_oddKnots_53 ?_
        refine go_if_ne (pc := 54) 69 dX2_oddKnots_54 (by decide) (fun h6 => ?_) (fun h6 => ?_)
        · have hs := it_f h6 hs
          refine go_iinc (pc := 69) (x1_ + (1 : Int32)) [some (vR (pN p0.1)), some (vL y1), none, some (vI x0_), some (vI (x1_ + (1 : Int32))), some (vI y5), some (vI x2_)] dX2_oddKnots_69 rfl (iinc_1 _) (by decide) rfl ?_
          refine go_iinc (pc := 72) (x2_ + (1 : Int32)) [some (vR (pN p0.1)), some (vL y1), none, some (vI x0_), some (vI (x1_ + (1 : Int32))), some (vI y5), some (vI (x2_ + (1 : Int32)))] dX2_oddKnots_72 rfl (iinc_1 _) (by decide) rfl ?_
          refine go_goto (pc := 75) 23 dX2_oddKnots_75 (by decide) ?_
          obtain rfl := Option.some.inj hs
          exact hI (x0_, x1_ + (1 : Int32), x2_ + (1 : Int32)) rfl x0_ (x1_ + (1 : Int32)) (x2_ + (1 : Int32)) rfl
        · have hs := it_t h6 hs
          refine go_iload_n (pc := 57) 3 dX2_oddKnots_57 rfl rfl ?_
          refine go_iconst (pc := 58) (1 : Int32) dX2_oddKnots_58 (by decide) ?_
          refine go_iload (pc := 59) dX2_oddKnots_59 rfl ?_
          refine go_ishl (pc := 61) dX2_oddKnots_61 ?_
          refine go_iconst (pc := 62) (1 : Int32) dX2_oddKnots_62 (by decide) ?_
          refine go_iload (pc := 63) dX2_oddKnots_63 rfl ?_
          refine go_ishl (pc := 65) dX2_oddKnots_65 ?_
          refine go_ior (pc := 66) dX2_oddKnots_66 ?_
          refine go_ixor (pc := 67) dX2_oddKnots_67 ?_
          refine go_topi (fun z7 ez7 => ?_)
          have hs := lt_t ez7 hs
          refine go_istore_n (pc := 68) 3 [some (vR (pN p0.1)), some (vL y1), none, some (vI z7), some (vI x1_), some (vI y5), some (vI x2_)] dX2_oddKnots_68 rfl (by decide) rfl ?_
          refine go_iinc (pc := 69) (x1_ + (1 : Int32)) [some (vR (pN p0.1)), some (vL y1), none, some (vI z7), some (vI (x1_ + (1 : Int32))), some (vI y5), some (vI x2_)] dX2_oddKnots_69 rfl (iinc_1 _) (by decide) rfl ?_
          refine go_iinc (pc := 72) (x2_ + (1 : Int32)) [some (vR (pN p0.1)), some (vL y1), none, some (vI z7), some (vI (x1_ + (1 : Int32))), some (vI y5), some (vI (x2_ + (1 : Int32)))] dX2_oddKnots_72 rfl (iinc_1 _) (by decide) rfl ?_
          refine go_goto (pc := 75) 23 dX2_oddKnots_75 (by decide) ?_
          obtain rfl := Option.some.inj hs
          exact hI (z7, x1_ + (1 : Int32), x2_ + (1 : Int32)) rfl z7 (x1_ + (1 : Int32)) (x2_ + (1 : Int32)) rfl
      · have hs := it_t h5 hs
        refine go_goto (pc := 43) 72 dX2_oddKnots_43 (by decide) ?_
        refine go_iinc (pc := 72) (x2_ + (1 : Int32)) [some (vR (pN p0.1)), some (vL y1), none, some (vI x0_), some (vI x1_), some (vI y5), some (vI (x2_ + (1 : Int32)))] dX2_oddKnots_72 rfl (iinc_1 _) (by decide) rfl ?_
        refine go_goto (pc := 75) 23 dX2_oddKnots_75 (by decide) ?_
        obtain rfl := Option.some.inj hs
        exact hI (x0_, x1_, x2_ + (1 : Int32)) rfl x0_ x1_ (x2_ + (1 : Int32)) rfl
set_option maxRecDepth 20000 in
theorem g_X2_oddKnots_8 {d : Nat} {p0 : (Fin 5)} {Q : Option AV → List AC → Prop} {y1 : Int64}  (x0_ : Int32) (x1_ : Int32) (x2_ : Int32) (r : Int32) (hl : loop (b_X2_oddKnots_8 cK cF p0 y1) (x0_, x1_, x2_) = some r) (hk : Go mX2_oddKnots (d + 1) false 0 0 84 [none, none, none, some (vI r), none, none, none] [] (wC cK cF ga gi gs oK cT ra rb cR cP cM ea eb cW aO aC aQ) Q) : Go mX2_oddKnots (d + 1) false 0 0 8 [some (vR (pN p0.1)), some (vL y1), none, some (vI x0_), some (vI x1_), some (vI x2_), none] [] (wC cK cF ga gi gs oK cT ra rb cR cP cM ea eb cW aO aC aQ) Q := by
  refine loop_go (P := fun x : Int32 × Int32 × Int32 => ∀ (x0_ : Int32) (x1_ : Int32) (x2_ : Int32), x = (x0_, x1_, x2_) → Go mX2_oddKnots (d + 1) false 0 0 8 [some (vR (pN p0.1)), some (vL y1), none, some (vI x0_), some (vI x1_), some (vI x2_), none] [] (wC cK cF ga gi gs oK cT ra rb cR cP cM ea eb cW aO aC aQ) Q) (K := fun r : Int32 => Go mX2_oddKnots (d + 1) false 0 0 84 [none, none, none, some (vI r), none, none, none] [] (wC cK cF ga gi gs oK cT ra rb cR cP cM ea eb cW aO aC aQ) Q) ?_ (x0_, x1_, x2_) r hl hk x0_ x1_ x2_ rfl
  · intro x y hs hI hE x0_ x1_ x2_ hx
    subst hx
    unfold b_X2_oddKnots_8 at hs
    try dsimp only at hs
    refine go_iload (pc := 8) dX2_oddKnots_8 rfl ?_
    refine go_aload_n (pc := 10) 0 dX2_oddKnots_10 rfl rfl ?_
    refine go_getfield (pc := 11) (v := vI (cK p0.1)) (pN p0.1) 2 0 dX2_oddKnots_11 flX2_9 (wC_net p0) rfl ?_
    refine go_icmp_ge (pc := 14) 84 dX2_oddKnots_14 (by decide) (fun h1 => ?_) (fun h1 => ?_)
    · have hs := it_t h1 hs
      obtain rfl := Option.some.inj hs
      refine go_sub (lv' := [none, none, none, some (vI x0_), none, none, none]) ⟨rfl, trivial⟩ ?_
      exact hE x0_ rfl
    · have hs := it_f h1 hs
      refine go_iload (pc := 17) dX2_oddKnots_17 rfl ?_
      refine go_iconst (pc := 19) (1 : Int32) dX2_oddKnots_19 (by decide) ?_
      refine go_iadd (pc := 20) dX2_oddKnots_20 ?_
      refine go_istore (pc := 21) [some (vR (pN p0.1)), some (vL y1), none, some (vI x0_), some (vI x1_), some (vI x2_), some (vI (x2_ + (1 : Int32)))] dX2_oddKnots_21 (by decide) rfl ?_
      obtain ⟨e8, hl9, hs⟩ := bnd hs
      refine g_X2_oddKnots_23 (d := d) x0_ x1_ (x2_ + (1 : Int32)) e8 hl9 ?_
      intro v10 v11 hv12
      subst hv12
      try dsimp only at hs
      refine go_iinc (pc := 78) (x2_ + (1 : Int32)) [some (vR (pN p0.1)), some (vL y1), none, some (vI v10), some (vI v11), some (vI (x2_ + (1 : Int32))), none] dX2_oddKnots_78 rfl (iinc_1 _) (by decide) rfl ?_
      refine go_goto (pc := 81) 8 dX2_oddKnots_81 (by decide) ?_
      obtain rfl := Option.some.inj hs
      exact hI (v10, v11, x2_ + (1 : Int32)) rfl v10 v11 (x2_ + (1 : Int32)) rfl
set_option maxRecDepth 20000 in
theorem c_X2_oddKnots {d : Nat}  {p0 : (Fin 5)} {a1 : Int64} {res0 : Int32} (hs : s_X2_oddKnots cK cF p0 a1 = some res0) : Calls mX2_oddKnots (d + 1) false 0 0 [vR (pN p0.1), vL a1] (wC cK cF ga gi gs oK cT ra rb cR cP cM ea eb cW aO aC aQ) (fun r w' => r = some (vI res0) ∧ w' = (wC cK cF ga gi gs oK cT ra rb cR cP cM ea eb cW aO aC aQ)) := by
  unfold s_X2_oddKnots at hs
  refine Calls.of kX2_oddKnots 4 [some (vR (pN p0.1)), some (vL a1), none, none, none, none, none] rfl (Nat.le_of_ble_eq_true rfl) ?_
  refine go_iconst (pc := 0) (0 : Int32) dX2_oddKnots_0 (by decide) ?_
  refine go_istore_n (pc := 1) 3 [some (vR (pN p0.1)), some (vL a1), none, some (vI (0 : Int32)), none, none, none] dX2_oddKnots_1 rfl (by decide) rfl ?_
  refine go_iconst (pc := 2) (0 : Int32) dX2_oddKnots_2 (by decide) ?_
  refine go_istore (pc := 3) [some (vR (pN p0.1)), some (vL a1), none, some (vI (0 : Int32)), some (vI (0 : Int32)), none, none] dX2_oddKnots_3 (by decide) rfl ?_
  refine go_iconst (pc := 5) (0 : Int32) dX2_oddKnots_5 (by decide) ?_
  refine go_istore (pc := 6) [some (vR (pN p0.1)), some (vL a1), none, some (vI (0 : Int32)), some (vI (0 : Int32)), some (vI (0 : Int32)), none] dX2_oddKnots_6 (by decide) rfl ?_
  obtain ⟨e13, hl14, hs⟩ := bnd hs
  refine g_X2_oddKnots_8 (d := d) (0 : Int32) (0 : Int32) (0 : Int32) e13 hl14 ?_
  refine go_iload_n (pc := 84) 3 dX2_oddKnots_84 rfl rfl ?_
  cases hs
  exact go_ireturn (st := []) (pc := 85) dX2_oddKnots_85 rfl (vp_nar_int _) (fun h => by cases h) ⟨rfl, rfl⟩
noncomputable def b_X2_flipBack_30 (cK : (Nat → Int32)) (cF : (Nat → Nat → Int32)) (p0 : (Fin 5)) (y7 : Int32) (x : Int64 × Int32 × Int32 × Int32) : Option ((Int64 × Int32 × Int32 × Int32) ⊕ (Int64 × Int32 × Int32)) := if (cK p0.1) ≤ x.2.2.2 then (some (Sum.inr (x.1, x.2.1, x.2.2.1))) else ((s_X2_joins cF p0 y7 x.2.2.2).bind (fun x5 => if x5 = 0 then (some (Sum.inl (x.1, x.2.1, x.2.2.1, x.2.2.2 + (1 : Int32)))) else (lt' (((1 : Int32) <<< (y7 &&& 31)) ||| ((1 : Int32) <<< (x.2.2.2 &&& 31))) (fun z8 => if (x.2.1 &&& z8) = z8 then (some (Sum.inl (x.1 ^^^ ((1 : Int64) <<< (x.2.2.1.toInt64 &&& 63)), x.2.1 ^^^ z8, x.2.2.1 + (1 : Int32), x.2.2.2 + (1 : Int32)))) else (some (Sum.inl (x.1, x.2.1, x.2.2.1 + (1 : Int32), x.2.2.2 + (1 : Int32))))))))
noncomputable def b_X2_flipBack_15 (cK : (Nat → Int32)) (cF : (Nat → Nat → Int32)) (p0 : (Fin 5)) (x : Int64 × Int32 × Int32 × Int32) : Option ((Int64 × Int32 × Int32 × Int32) ⊕ (Int64)) := if (cK p0.1) ≤ x.2.2.2 then (some (Sum.inr x.1)) else ((loop (b_X2_flipBack_30 cK cF p0 x.2.2.2) (x.1, x.2.1, x.2.2.1, x.2.2.2 + (1 : Int32))).bind (fun e10 => some (Sum.inl (e10.1, e10.2.1, e10.2.2, x.2.2.2 + (1 : Int32)))))
noncomputable def s_X2_flipBack (cK : (Nat → Int32)) (cF : (Nat → Nat → Int32)) (p0 : (Fin 5)) (a1 : Int64) : Option (Int64) := (s_X2_oddKnots cK cF p0 a1).bind (fun x1 => (loop (b_X2_flipBack_15 cK cF p0) (a1, x1, (0 : Int32), (0 : Int32))).bind (fun e16 => some e16))
set_option maxRecDepth 20000 in
theorem g_X2_flipBack_30 {d : Nat} {p0 : (Fin 5)} {Q : Option AV → List AC → Prop} {y7 : Int32}  (x0_ : Int64) (x1_ : Int32) (x2_ : Int32) (x3_ : Int32) (r : Int64 × Int32 × Int32) (hl : loop (b_X2_flipBack_30 cK cF p0 y7) (x0_, x1_, x2_, x3_) = some r) (hk : ∀ (r0_ : Int64) (r1_ : Int32) (r2_ : Int32), r = (r0_, r1_, r2_) → Go mX2_flipBack (d + 2) false 0 0 97 [some (vR (pN p0.1)), none, none, some (vL r0_), none, some (vI r1_), some (vI r2_), some (vI y7), none, none] [] (wC cK cF ga gi gs oK cT ra rb cR cP cM ea eb cW aO aC aQ) Q) : Go mX2_flipBack (d + 2) false 0 0 30 [some (vR (pN p0.1)), none, none, some (vL x0_), none, some (vI x1_), some (vI x2_), some (vI y7), some (vI x3_), none] [] (wC cK cF ga gi gs oK cT ra rb cR cP cM ea eb cW aO aC aQ) Q := by
  refine loop_go (P := fun x : Int64 × Int32 × Int32 × Int32 => ∀ (x0_ : Int64) (x1_ : Int32) (x2_ : Int32) (x3_ : Int32), x = (x0_, x1_, x2_, x3_) → Go mX2_flipBack (d + 2) false 0 0 30 [some (vR (pN p0.1)), none, none, some (vL x0_), none, some (vI x1_), some (vI x2_), some (vI y7), some (vI x3_), none] [] (wC cK cF ga gi gs oK cT ra rb cR cP cM ea eb cW aO aC aQ) Q) (K := fun r : Int64 × Int32 × Int32 => ∀ (r0_ : Int64) (r1_ : Int32) (r2_ : Int32), r = (r0_, r1_, r2_) → Go mX2_flipBack (d + 2) false 0 0 97 [some (vR (pN p0.1)), none, none, some (vL r0_), none, some (vI r1_), some (vI r2_), some (vI y7), none, none] [] (wC cK cF ga gi gs oK cT ra rb cR cP cM ea eb cW aO aC aQ) Q) ?_ (x0_, x1_, x2_, x3_) r hl hk x0_ x1_ x2_ x3_ rfl
  · intro x y hs hI hE x0_ x1_ x2_ x3_ hx
    subst hx
    unfold b_X2_flipBack_30 at hs
    try dsimp only at hs
    refine go_iload (pc := 30) dX2_flipBack_30 rfl ?_
    refine go_aload_n (pc := 32) 0 dX2_flipBack_32 rfl rfl ?_
    refine go_getfield (pc := 33) (v := vI (cK p0.1)) (pN p0.1) 2 0 dX2_flipBack_33 flX2_9 (wC_net p0) rfl ?_
    refine go_icmp_ge (pc := 36) 97 dX2_flipBack_36 (by decide) (fun h4 => ?_) (fun h4 => ?_)
    · have hs := it_t h4 hs
      obtain rfl := Option.some.inj hs
      refine go_sub (lv' := [some (vR (pN p0.1)), none, none, some (vL x0_), none, some (vI x1_), some (vI x2_), some (vI y7), none, none]) ⟨rfl, ⟨rfl, ⟨rfl, ⟨rfl, ⟨rfl, trivial⟩⟩⟩⟩⟩ ?_
      exact (hE (x0_, x1_, x2_) rfl) x0_ x1_ x2_ rfl
    · have hs := it_f h4 hs
      refine go_aload_n (pc := 39) 0 dX2_flipBack_39 rfl rfl ?_
      refine go_iload (pc := 40) dX2_flipBack_40 rfl ?_
      refine go_iload (pc := 42) dX2_flipBack_42 rfl ?_
      obtain ⟨x5, hc6, hs⟩ := bnd hs
      refine go_callV (bc := 0) (bs := 0) (mc := 0) (ms := 0) (d := d + 1) (pc := 44) (a := (pN p0.1)) (ci := 2) [vI y7, vI x3_] [] dX2_flipBack_44 kX2_joins mlX2_51 ivX2_joins rfl rfl (wC_net p0) rfl (Nat.le_of_ble_eq_true rfl) rfl (c_X2_joins (d := d + 1) (res0 := x5) hc6) (fun r w' hq => ?_)
      obtain ⟨rfl, rfl⟩ := hq
      show Go mX2_flipBack (d + 2) false 0 0 47 [some (vR (pN p0.1)), none, none, some (vL x0_), none, some (vI x1_), some (vI x2_), some (vI y7), some (vI x3_), none] [vI x5] (wC cK cF ga gi gs oK cT ra rb cR cP cM ea eb cW aO aC aQ) Q
      refine go_if_ne (pc := 47) 53 dX2_flipBack_47 (by decide) (fun h7 => ?_) (fun h7 => ?_)
      · have hs := it_f h7 hs
        refine go_iconst (pc := 53) (1 : Int32) dX2_flipBack_53 (by decide) ?_
        refine go_iload (pc := 54) dX2_flipBack_54 rfl ?_
        refine go_ishl (pc := 56) dX2_flipBack_56 ?_
        refine go_iconst (pc := 57) (1 : Int32) dX2_flipBack_57 (by decide) ?_
        refine go_iload (pc := 58) dX2_flipBack_58 rfl ?_
        refine go_ishl (pc := 60) dX2_flipBack_60 ?_
        refine go_ior (pc := 61) dX2_flipBack_61 ?_
        refine go_topi (fun z8 ez8 => ?_)
        have hs := lt_t ez8 hs
        refine go_istore (pc := 62) [some (vR (pN p0.1)), none, none, some (vL x0_), none, some (vI x1_), some (vI x2_), some (vI y7), some (vI x3_), some (vI z8)] dX2_flipBack_62 (by decide) rfl ?_
        refine go_iload (pc := 64) dX2_flipBack_64 rfl ?_
        refine go_iload (pc := 66) dX2_flipBack_66 rfl ?_
        refine go_iand (pc := 68) dX2_flipBack_68 ?_
        refine go_iload (pc := 69) dX2_flipBack_69 rfl ?_
        refine go_icmp_ne (pc := 71) 88 dX2_flipBack_71 (by decide) (fun h9 => ?_) (fun h9 => ?_)
        · have hs := it_f h9 hs
          refine go_iinc (pc := 88) (x2_ + (1 : Int32)) [some (vR (pN p0.1)), none, none, some (vL x0_), none, some (vI x1_), some (vI (x2_ + (1 : Int32))), some (vI y7), some (vI x3_), some (vI z8)] dX2_flipBack_88 rfl (iinc_1 _) (by decide) rfl ?_
          refine go_iinc (pc := 91) (x3_ + (1 : Int32)) [some (vR (pN p0.1)), none, none, some (vL x0_), none, some (vI x1_), some (vI (x2_ + (1 : Int32))), some (vI y7), some (vI (x3_ + (1 : Int32))), some (vI z8)] dX2_flipBack_91 rfl (iinc_1 _) (by decide) rfl ?_
          refine go_goto (pc := 94) 30 dX2_flipBack_94 (by decide) ?_
          obtain rfl := Option.some.inj hs
          refine go_sub (lv' := [some (vR (pN p0.1)), none, none, some (vL x0_), none, some (vI x1_), some (vI (x2_ + (1 : Int32))), some (vI y7), some (vI (x3_ + (1 : Int32))), none]) ⟨rfl, ⟨rfl, ⟨rfl, ⟨rfl, ⟨rfl, ⟨rfl, trivial⟩⟩⟩⟩⟩⟩ ?_
          exact hI (x0_, x1_, x2_ + (1 : Int32), x3_ + (1 : Int32)) rfl x0_ x1_ (x2_ + (1 : Int32)) (x3_ + (1 : Int32)) rfl
        · have hs := it_t h9 hs
          refine go_iload (pc := 74) dX2_flipBack_74 rfl ?_
          refine go_iload (pc := 76) dX2_flipBack_76 rfl ?_
          refine go_ixor (pc := 78) dX2_flipBack_78 ?_
          refine go_istore (pc := 79) [some (vR (pN p0.1)), none, none, some (vL x0_), none, some (vI (x1_ ^^^ z8)), some (vI x2_), some (vI y7), some (vI x3_), some (vI z8)] dX2_flipBack_79 (by decide) rfl ?_
          refine go_lload_n (pc := 81) 3 dX2_flipBack_81 rfl rfl ?_
          refine go_lconst (pc := 82) (1 : Int64) dX2_flipBack_82 (by decide) ?_
          refine go_iload (pc := 83) dX2_flipBack_83 rfl ?_
          refine go_lshl (pc := 85) dX2_flipBack_85 ?_
          refine go_lxor (pc := 86) dX2_flipBack_86 ?_
          refine go_lstore_n (pc := 87) 3 [some (vR (pN p0.1)), none, none, some (vL (x0_ ^^^ ((1 : Int64) <<< (x2_.toInt64 &&& 63)))), none, some (vI (x1_ ^^^ z8)), some (vI x2_), some (vI y7), some (vI x3_), some (vI z8)] dX2_flipBack_87 rfl (by decide) rfl ?_
          refine go_iinc (pc := 88) (x2_ + (1 : Int32)) [some (vR (pN p0.1)), none, none, some (vL (x0_ ^^^ ((1 : Int64) <<< (x2_.toInt64 &&& 63)))), none, some (vI (x1_ ^^^ z8)), some (vI (x2_ + (1 : Int32))), some (vI y7), some (vI x3_), some (vI z8)] dX2_flipBack_88 rfl (iinc_1 _) (by decide) rfl ?_
          refine go_iinc (pc := 91) (x3_ + (1 : Int32)) [some (vR (pN p0.1)), none, none, some (vL (x0_ ^^^ ((1 : Int64) <<< (x2_.toInt64 &&& 63)))), none, some (vI (x1_ ^^^ z8)), some (vI (x2_ + (1 : Int32))), some (vI y7), some (vI (x3_ + (1 : Int32))), some (vI z8)] dX2_flipBack_91 rfl (iinc_1 _) (by decide) rfl ?_
          refine go_goto (pc := 94) 30 dX2_flipBack_94 (by decide) ?_
          obtain rfl := Option.some.inj hs
          refine go_sub (lv' := [some (vR (pN p0.1)), none, none, some (vL (x0_ ^^^ ((1 : Int64) <<< (x2_.toInt64 &&& 63)))), none, some (vI (x1_ ^^^ z8)), some (vI (x2_ + (1 : Int32))), some (vI y7), some (vI (x3_ + (1 : Int32))), none]) ⟨rfl, ⟨rfl, ⟨rfl, ⟨rfl, ⟨rfl, ⟨rfl, trivial⟩⟩⟩⟩⟩⟩ ?_
          exact hI (x0_ ^^^ ((1 : Int64) <<< (x2_.toInt64 &&& 63)), x1_ ^^^ z8, x2_ + (1 : Int32), x3_ + (1 : Int32)) rfl (x0_ ^^^ ((1 : Int64) <<< (x2_.toInt64 &&& 63))) (x1_ ^^^ z8) (x2_ + (1 : Int32)) (x3_ + (1 : Int32)) rfl
      · have hs := it_t h7 hs
        refine go_goto (pc := 50) 91 dX2_flipBack_50 (by decide) ?_
        refine go_iinc (pc := 91) (x3_ + (1 : Int32)) [some (vR (pN p0.1)), none, none, some (vL x0_), none, some (vI x1_), some (vI x2_), some (vI y7), some (vI (x3_ + (1 : Int32))), none] dX2_flipBack_91 rfl (iinc_1 _) (by decide) rfl ?_
        refine go_goto (pc := 94) 30 dX2_flipBack_94 (by decide) ?_
        obtain rfl := Option.some.inj hs
        exact hI (x0_, x1_, x2_, x3_ + (1 : Int32)) rfl x0_ x1_ x2_ (x3_ + (1 : Int32)) rfl
set_option maxRecDepth 20000 in
theorem g_X2_flipBack_15 {d : Nat} {p0 : (Fin 5)} {Q : Option AV → List AC → Prop}   (x0_ : Int64) (x1_ : Int32) (x2_ : Int32) (x3_ : Int32) (r : Int64) (hl : loop (b_X2_flipBack_15 cK cF p0) (x0_, x1_, x2_, x3_) = some r) (hk : Go mX2_flipBack (d + 2) false 0 0 103 [none, none, none, some (vL r), none, none, none, none, none, none] [] (wC cK cF ga gi gs oK cT ra rb cR cP cM ea eb cW aO aC aQ) Q) : Go mX2_flipBack (d + 2) false 0 0 15 [some (vR (pN p0.1)), none, none, some (vL x0_), none, some (vI x1_), some (vI x2_), some (vI x3_), none, none] [] (wC cK cF ga gi gs oK cT ra rb cR cP cM ea eb cW aO aC aQ) Q := by
  refine loop_go (P := fun x : Int64 × Int32 × Int32 × Int32 => ∀ (x0_ : Int64) (x1_ : Int32) (x2_ : Int32) (x3_ : Int32), x = (x0_, x1_, x2_, x3_) → Go mX2_flipBack (d + 2) false 0 0 15 [some (vR (pN p0.1)), none, none, some (vL x0_), none, some (vI x1_), some (vI x2_), some (vI x3_), none, none] [] (wC cK cF ga gi gs oK cT ra rb cR cP cM ea eb cW aO aC aQ) Q) (K := fun r : Int64 => Go mX2_flipBack (d + 2) false 0 0 103 [none, none, none, some (vL r), none, none, none, none, none, none] [] (wC cK cF ga gi gs oK cT ra rb cR cP cM ea eb cW aO aC aQ) Q) ?_ (x0_, x1_, x2_, x3_) r hl hk x0_ x1_ x2_ x3_ rfl
  · intro x y hs hI hE x0_ x1_ x2_ x3_ hx
    subst hx
    unfold b_X2_flipBack_15 at hs
    try dsimp only at hs
    refine go_iload (pc := 15) dX2_flipBack_15 rfl ?_
    refine go_aload_n (pc := 17) 0 dX2_flipBack_17 rfl rfl ?_
    refine go_getfield (pc := 18) (v := vI (cK p0.1)) (pN p0.1) 2 0 dX2_flipBack_18 flX2_9 (wC_net p0) rfl ?_
    refine go_icmp_ge (pc := 21) 103 dX2_flipBack_21 (by decide) (fun h3 => ?_) (fun h3 => ?_)
    · have hs := it_t h3 hs
      obtain rfl := Option.some.inj hs
      refine go_sub (lv' := [none, none, none, some (vL x0_), none, none, none, none, none, none]) ⟨rfl, trivial⟩ ?_
      exact hE x0_ rfl
    · have hs := it_f h3 hs
      refine go_iload (pc := 24) dX2_flipBack_24 rfl ?_
      refine go_iconst (pc := 26) (1 : Int32) dX2_flipBack_26 (by decide) ?_
      refine go_iadd (pc := 27) dX2_flipBack_27 ?_
      refine go_istore (pc := 28) [some (vR (pN p0.1)), none, none, some (vL x0_), none, some (vI x1_), some (vI x2_), some (vI x3_), some (vI (x3_ + (1 : Int32))), none] dX2_flipBack_28 (by decide) rfl ?_
      obtain ⟨e10, hl11, hs⟩ := bnd hs
      refine g_X2_flipBack_30 (d := d) x0_ x1_ x2_ (x3_ + (1 : Int32)) e10 hl11 ?_
      intro v12 v13 v14 hv15
      subst hv15
      try dsimp only at hs
      refine go_iinc (pc := 97) (x3_ + (1 : Int32)) [some (vR (pN p0.1)), none, none, some (vL v12), none, some (vI v13), some (vI v14), some (vI (x3_ + (1 : Int32))), none, none] dX2_flipBack_97 rfl (iinc_1 _) (by decide) rfl ?_
      refine go_goto (pc := 100) 15 dX2_flipBack_100 (by decide) ?_
      obtain rfl := Option.some.inj hs
      exact hI (v12, v13, v14, x3_ + (1 : Int32)) rfl v12 v13 v14 (x3_ + (1 : Int32)) rfl
set_option maxRecDepth 20000 in
theorem c_X2_flipBack {d : Nat}  {p0 : (Fin 5)} {a1 : Int64} {res0 : Int64} (hs : s_X2_flipBack cK cF p0 a1 = some res0) : Calls mX2_flipBack (d + 2) false 0 0 [vR (pN p0.1), vL a1] (wC cK cF ga gi gs oK cT ra rb cR cP cM ea eb cW aO aC aQ) (fun r w' => r = some (vL res0) ∧ w' = (wC cK cF ga gi gs oK cT ra rb cR cP cM ea eb cW aO aC aQ)) := by
  unfold s_X2_flipBack at hs
  refine Calls.of kX2_flipBack 7 [some (vR (pN p0.1)), some (vL a1), none, none, none, none, none, none, none, none] rfl (Nat.le_of_ble_eq_true rfl) ?_
  refine go_lload_n (pc := 0) 1 dX2_flipBack_0 rfl rfl ?_
  refine go_lstore_n (pc := 1) 3 [some (vR (pN p0.1)), some (vL a1), none, some (vL a1), none, none, none, none, none, none] dX2_flipBack_1 rfl (by decide) rfl ?_
  refine go_aload_n (pc := 2) 0 dX2_flipBack_2 rfl rfl ?_
  refine go_lload_n (pc := 3) 1 dX2_flipBack_3 rfl rfl ?_
  obtain ⟨x1, hc2, hs⟩ := bnd hs
  refine go_callV (bc := 0) (bs := 0) (mc := 0) (ms := 0) (d := d + 1) (pc := 4) (a := (pN p0.1)) (ci := 2) [vL a1] [] dX2_flipBack_4 kX2_oddKnots mlX2_73 ivX2_oddKnots rfl rfl (wC_net p0) rfl (Nat.le_of_ble_eq_true rfl) rfl (c_X2_oddKnots (d := d + 0) (res0 := x1) hc2) (fun r w' hq => ?_)
  obtain ⟨rfl, rfl⟩ := hq
  show Go mX2_flipBack (d + 2) false 0 0 7 [some (vR (pN p0.1)), some (vL a1), none, some (vL a1), none, none, none, none, none, none] [vI x1] (wC cK cF ga gi gs oK cT ra rb cR cP cM ea eb cW aO aC aQ) _
  refine go_istore (pc := 7) [some (vR (pN p0.1)), some (vL a1), none, some (vL a1), none, some (vI x1), none, none, none, none] dX2_flipBack_7 (by decide) rfl ?_
  refine go_iconst (pc := 9) (0 : Int32) dX2_flipBack_9 (by decide) ?_
  refine go_istore (pc := 10) [some (vR (pN p0.1)), some (vL a1), none, some (vL a1), none, some (vI x1), some (vI (0 : Int32)), none, none, none] dX2_flipBack_10 (by decide) rfl ?_
  refine go_iconst (pc := 12) (0 : Int32) dX2_flipBack_12 (by decide) ?_
  refine go_istore (pc := 13) [some (vR (pN p0.1)), some (vL a1), none, some (vL a1), none, some (vI x1), some (vI (0 : Int32)), some (vI (0 : Int32)), none, none] dX2_flipBack_13 (by decide) rfl ?_
  refine go_sub (lv' := [some (vR (pN p0.1)), none, none, some (vL a1), none, some (vI x1), some (vI (0 : Int32)), some (vI (0 : Int32)), none, none]) ⟨rfl, ⟨rfl, ⟨rfl, ⟨rfl, ⟨rfl, trivial⟩⟩⟩⟩⟩ ?_
  obtain ⟨e16, hl17, hs⟩ := bnd hs
  refine g_X2_flipBack_15 (d := d) a1 x1 (0 : Int32) (0 : Int32) e16 hl17 ?_
  refine go_lload_n (pc := 103) 3 dX2_flipBack_103 rfl rfl ?_
  cases hs
  exact go_lreturn (st := []) (pc := 104) dX2_flipBack_104 rfl (fun h => by cases h) ⟨rfl, rfl⟩
noncomputable def b_X2_addTo_15 (cK : (Nat → Int32)) (cF : (Nat → Nat → Int32)) (p0 : (Fin 5)) (x : Int64 × Int32) : Option ((Int64 × Int32) ⊕ (Int64)) := if (cK p0.1) ≤ x.2 then (some (Sum.inr x.1)) else (chk x.2 10 (some (Sum.inl (((31 : Int64) * x.1) + ((cF p0.1 x.2.toNatClampNeg).toInt64), x.2 + (1 : Int32)))))
noncomputable def s_X2_addTo (cK : (Nat → Int32)) (cF : (Nat → Nat → Int32)) (p0 : (Fin 5)) (a1 : Int64) : Option (Int64) := (loop (b_X2_addTo_15 cK cF p0) (((31 : Int64) * a1) + ((cK p0.1).toInt64), (0 : Int32))).bind (fun e3 => some e3)
set_option maxRecDepth 20000 in
theorem g_X2_addTo_15 {d : Nat} {p0 : (Fin 5)} {Q : Option AV → List AC → Prop}   (x0_ : Int64) (x1_ : Int32) (r : Int64) (hl : loop (b_X2_addTo_15 cK cF p0) (x0_, x1_) = some r) (hk : Go mX2_addTo (d + 0) false 0 0 45 [none, none, none, some (vL r), none, none] [] (wC cK cF ga gi gs oK cT ra rb cR cP cM ea eb cW aO aC aQ) Q) : Go mX2_addTo (d + 0) false 0 0 15 [some (vR (pN p0.1)), none, none, some (vL x0_), none, some (vI x1_)] [] (wC cK cF ga gi gs oK cT ra rb cR cP cM ea eb cW aO aC aQ) Q := by
  refine loop_go (P := fun x : Int64 × Int32 => ∀ (x0_ : Int64) (x1_ : Int32), x = (x0_, x1_) → Go mX2_addTo (d + 0) false 0 0 15 [some (vR (pN p0.1)), none, none, some (vL x0_), none, some (vI x1_)] [] (wC cK cF ga gi gs oK cT ra rb cR cP cM ea eb cW aO aC aQ) Q) (K := fun r : Int64 => Go mX2_addTo (d + 0) false 0 0 45 [none, none, none, some (vL r), none, none] [] (wC cK cF ga gi gs oK cT ra rb cR cP cM ea eb cW aO aC aQ) Q) ?_ (x0_, x1_) r hl hk x0_ x1_ rfl
  · intro x y hs hI hE x0_ x1_ hx
    subst hx
    unfold b_X2_addTo_15 at hs
    try dsimp only at hs
    refine go_iload (pc := 15) dX2_addTo_15 rfl ?_
    refine go_aload_n (pc := 17) 0 dX2_addTo_17 rfl rfl ?_
    refine go_getfield (pc := 18) (v := vI (cK p0.1)) (pN p0.1) 2 0 dX2_addTo_18 flX2_9 (wC_net p0) rfl ?_
    refine go_icmp_ge (pc := 21) 45 dX2_addTo_21 (by decide) (fun h1 => ?_) (fun h1 => ?_)
    · have hs := it_t h1 hs
      obtain rfl := Option.some.inj hs
      refine go_sub (lv' := [none, none, none, some (vL x0_), none, none]) ⟨rfl, trivial⟩ ?_
      exact hE x0_ rfl
    · have hs := it_f h1 hs
      refine go_ldc2 (pc := 24) (31 : Int64) dX2_addTo_24 kcX2_77 ?_
      refine go_lload_n (pc := 27) 3 dX2_addTo_27 rfl rfl ?_
      refine go_lmul (pc := 28) dX2_addTo_28 ?_
      refine go_aload_n (pc := 29) 0 dX2_addTo_29 rfl rfl ?_
      refine go_getfield (pc := 30) (v := vR (pN p0.1 + 1)) (pN p0.1) 2 1 dX2_addTo_30 flX2_15 (wC_net p0) rfl ?_
      refine go_iload (pc := 33) dX2_addTo_33 rfl ?_
      obtain ⟨hi2, hs⟩ := chk_t hs
      refine go_iaload (pc := 35) (pN p0.1 + 1) dX2_addTo_35 (wC_bes p0) hi2 ?_
      refine go_i2l (pc := 36) dX2_addTo_36 ?_
      refine go_ladd (pc := 37) dX2_addTo_37 ?_
      refine go_lstore_n (pc := 38) 3 [some (vR (pN p0.1)), none, none, some (vL (((31 : Int64) * x0_) + ((cF p0.1 x1_.toNatClampNeg).toInt64))), none, some (vI x1_)] dX2_addTo_38 rfl (by decide) rfl ?_
      refine go_iinc (pc := 39) (x1_ + (1 : Int32)) [some (vR (pN p0.1)), none, none, some (vL (((31 : Int64) * x0_) + ((cF p0.1 x1_.toNatClampNeg).toInt64))), none, some (vI (x1_ + (1 : Int32)))] dX2_addTo_39 rfl (iinc_1 _) (by decide) rfl ?_
      refine go_goto (pc := 42) 15 dX2_addTo_42 (by decide) ?_
      obtain rfl := Option.some.inj hs
      exact hI (((31 : Int64) * x0_) + ((cF p0.1 x1_.toNatClampNeg).toInt64), x1_ + (1 : Int32)) rfl (((31 : Int64) * x0_) + ((cF p0.1 x1_.toNatClampNeg).toInt64)) (x1_ + (1 : Int32)) rfl
set_option maxRecDepth 20000 in
theorem c_X2_addTo {d : Nat}  {p0 : (Fin 5)} {a1 : Int64} {res0 : Int64} (hs : s_X2_addTo cK cF p0 a1 = some res0) : Calls mX2_addTo (d + 0) false 0 0 [vR (pN p0.1), vL a1] (wC cK cF ga gi gs oK cT ra rb cR cP cM ea eb cW aO aC aQ) (fun r w' => r = some (vL res0) ∧ w' = (wC cK cF ga gi gs oK cT ra rb cR cP cM ea eb cW aO aC aQ)) := by
  unfold s_X2_addTo at hs
  refine Calls.of kX2_addTo 3 [some (vR (pN p0.1)), some (vL a1), none, none, none, none] rfl (Nat.le_of_ble_eq_true rfl) ?_
  refine go_ldc2 (pc := 0) (31 : Int64) dX2_addTo_0 kcX2_77 ?_
  refine go_lload_n (pc := 3) 1 dX2_addTo_3 rfl rfl ?_
  refine go_lmul (pc := 4) dX2_addTo_4 ?_
  refine go_aload_n (pc := 5) 0 dX2_addTo_5 rfl rfl ?_
  refine go_getfield (pc := 6) (v := vI (cK p0.1)) (pN p0.1) 2 0 dX2_addTo_6 flX2_9 (wC_net p0) rfl ?_
  refine go_i2l (pc := 9) dX2_addTo_9 ?_
  refine go_ladd (pc := 10) dX2_addTo_10 ?_
  refine go_lstore_n (pc := 11) 3 [some (vR (pN p0.1)), some (vL a1), none, some (vL (((31 : Int64) * a1) + ((cK p0.1).toInt64))), none, none] dX2_addTo_11 rfl (by decide) rfl ?_
  refine go_iconst (pc := 12) (0 : Int32) dX2_addTo_12 (by decide) ?_
  refine go_istore (pc := 13) [some (vR (pN p0.1)), some (vL a1), none, some (vL (((31 : Int64) * a1) + ((cK p0.1).toInt64))), none, some (vI (0 : Int32))] dX2_addTo_13 (by decide) rfl ?_
  refine go_sub (lv' := [some (vR (pN p0.1)), none, none, some (vL (((31 : Int64) * a1) + ((cK p0.1).toInt64))), none, some (vI (0 : Int32))]) ⟨rfl, ⟨rfl, ⟨rfl, trivial⟩⟩⟩ ?_
  obtain ⟨e3, hl4, hs⟩ := bnd hs
  refine g_X2_addTo_15 (d := d) (((31 : Int64) * a1) + ((cK p0.1).toInt64)) (0 : Int32) e3 hl4 ?_
  refine go_lload_n (pc := 45) 3 dX2_addTo_45 rfl rfl ?_
  cases hs
  exact go_lreturn (st := []) (pc := 46) dX2_addTo_46 rfl (fun h => by cases h) ⟨rfl, rfl⟩
end
