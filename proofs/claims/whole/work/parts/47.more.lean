/-! more, just -/
theorem s_read {cK : Nat → Int32} {cF : Nat → Nat → Int32} {p : Fin 5} {n s : Nat} {r : Nat → Nat} {ra rb : Fin 2} (hn : cK p.1 = nI n) (hg : Gr n r) (h3 : ∀ a, a < 10 → cF p.1 a = nI (r a)) (hs : s < 2 ^ 31) (hr : ra ≠ rb) (oK : Int32) (cT : Nat → Nat → Int32) (cR : Nat → Nat → Nat → Int64) (cP : Nat → Int64) : ∃ cT' ra' rb' cR' cP', s_X3_read cK cF oK cT ra rb cR cP p (nI s) = some (nI n, cT', ra', rb', cR', cP') ∧ ra' ≠ rb' ∧ ∀ k, k ≤ n → cP' (n - k) = polC (tb r n s) n k * lN (2 ^ k) := by
  obtain ⟨cT', e1, e2⟩ := s_fillTable (p := p) (s := s) cT hg h3 hs
  obtain ⟨ra', rb', cR', cP', e3, e4, e5⟩ := s_findPolynomial (n := n) (cT := cT') (t := tb r n s) hg.2.1 hr (fun i k hi hk => by rw [e2 i k hi hk, ti32_l (tb_or _ _ _ _ _)]) (fun i k hi hk => by rw [e2 i k hi hk, ti32_z (tb_or _ _ _ _ _)]) cR cP
  refine ⟨cT', ra', rb', cR', cP', ?_, e4, e5⟩
  unfold s_X3_read
  rw [hn, e1]
  simp only [Option.bind_some]
  rw [e3]
  rfl
theorem s_layOwn {kn ne : Nat → Int32} {k n s : Nat} {r : Nat → Nat} (hk : k < 4) (hn : kn k = nI n) (hg : Gr n r) (h3 : ∀ a, a < 10 → ne (10 * k + a) = nI (r a)) (hs : s < 2 ^ 31) (ma : Int32) (on ot : Nat → Int32) (ta po ti nu : Nat → Int64) : ∃ ma' on' ot' ta' po' ti' nu', s_X6_layOwn kn ne ma on ot ta po ti nu (nI k) (nI s) = some (ma', on', ot', ta', po', ti', nu') ∧ ∀ k, k ≤ n → nu' (n - k) = polC (tb r n s) n k := by
  obtain ⟨ma', on', ot', ta', e1, e2⟩ := s_layTable hk hn hg h3 hs ma on ot ta
  obtain ⟨po', ti', nu', e3, e4⟩ := s_layPolynomial (t := tb r n s) hg.2.1 e2 po ti nu
  refine ⟨ma', on', ot', ta', po', ti', nu', ?_, e4⟩
  unfold s_X6_layOwn
  rw [e1]
  simp only [Option.bind_some]
  rw [chk_in (vp_in_nI hk (by omega)), nI_clamp (by omega), hn, e3]
  rfl
theorem halves_or (x : Int32) : (s_X5_isHalves x = some 0 ∧ s_X6_in x (-40) 40 = some 0) ∨ (s_X5_isHalves x = some 1 ∧ s_X6_in x (-40) 40 = some 1) := by
  by_cases h1 : x < -40
  · left; exact ⟨by unfold s_X5_isHalves; rw [if_pos h1], in_lo h1⟩
  · by_cases h2 : 40 < x
    · left; exact ⟨by unfold s_X5_isHalves; rw [if_neg h1, if_pos h2], in_hi h2⟩
    · right; exact ⟨by unfold s_X5_isHalves; rw [if_neg h1, if_neg h2], in_yes h1 h2⟩
theorem pure_more {kn ne cK : Nat → Int32} {cF : Nat → Nat → Int32} {ra rb : Fin 2} (oK : Int32) (cT : Nat → Nat → Int32) (cR : Nat → Nat → Nat → Int64) (cP cM : Nat → Int64) (ma : Int32) (on ot : Nat → Int32) (ta po ti nu mo : Nat → Int64) (hr : ra ≠ rb) (inv : Inv kn ne cK cF) (a0 a1 a2 : Int32) : ∃ (v oK' : Int32) (cT' : Nat → Nat → Int32) (ra' rb' : Fin 2) (cR' : Nat → Nat → Nat → Int64) (cP' cM' : Nat → Int64) (ma' : Int32) (on' ot' : Nat → Int32) (ta' po' ti' nu' mo' : Nat → Int64), s_X5_more cK cF oK cT ra rb cR cP cM a0 a1 a2 = some (v, oK', cT', ra', rb', cR', cP', cM') ∧ s_X6_more kn ne ma on ot ta po ti nu mo a0 a1 a2 = some (v, ma', on', ot', ta', po', ti', nu', mo') ∧ ra' ≠ rb' := by
  have hbad : s_X5_more cK cF oK cT ra rb cR cP cM a0 a1 a2 = some (-2, oK, cT, ra, rb, cR, cP, cM) → s_X6_isAsked a0 a1 a2 = some 0 → ∃ (v oK' : Int32) (cT' : Nat → Nat → Int32) (ra' rb' : Fin 2) (cR' : Nat → Nat → Nat → Int64) (cP' cM' : Nat → Int64) (ma' : Int32) (on' ot' : Nat → Int32) (ta' po' ti' nu' mo' : Nat → Int64), s_X5_more cK cF oK cT ra rb cR cP cM a0 a1 a2 = some (v, oK', cT', ra', rb', cR', cP', cM') ∧ s_X6_more kn ne ma on ot ta po ti nu mo a0 a1 a2 = some (v, ma', on', ot', ta', po', ti', nu', mo') ∧ ra' ≠ rb' := fun h g => ⟨-2, oK, cT, ra, rb, cR, cP, cM, ma, on, ot, ta, po, ti, nu, mo, h, by unfold s_X6_more; rw [g]; rfl, hr⟩
  rcases net_or a0 with h | ⟨k, hk, rfl⟩
  · exact hbad (by unfold s_X5_more; rw [netAt_no h]; rfl) (by unfold s_X6_isAsked; rw [isNet_no h]; rfl)
  · obtain ⟨N, r, hi⟩ := id inv
    obtain ⟨hg, b1, b2, b3⟩ := hi k hk
    have hf : (fin5 k).1 = k := fin5_val (by omega)
    have b2' : cK (fin5 k).1 = nI (N k) := by rw [hf]; exact b2
    have b3' : ∀ a, a < 10 → cF (fin5 k).1 a = nI (r k a) := fun a ha => by rw [hf]; exact (b3 a ha).2
    rcases nn_or a1 with h | ⟨s, hs, rfl⟩
    · exact hbad (by unfold s_X5_more; rw [netAt_yes hk]; simp only [Option.bind_some, Option.elim_some]; rw [if_pos h]) (by unfold s_X6_isAsked; rw [isNet_yes hk]; simp only [Option.bind_some]; rw [if_neg (show ¬ ((1 : Int32) = 0) by decide), if_pos h])
    · rcases halves_or a2 with ⟨g1, g2⟩ | ⟨g1, g2⟩
      · exact hbad (by unfold s_X5_more; rw [netAt_yes hk]; simp only [Option.bind_some, Option.elim_some]; rw [if_neg (nI_pos hs), g1]; rfl) (by unfold s_X6_isAsked; rw [isNet_yes hk]; simp only [Option.bind_some]; rw [if_neg (show ¬ ((1 : Int32) = 0) by decide), if_neg (nI_pos hs), g2]; rfl)
      · obtain ⟨cT', ra', rb', cR', cP', e1, e2, e3⟩ := s_read (p := fin5 k) b2' hg b3' hs hr oK cT cR cP
        obtain ⟨cM', e4⟩ := s_countAbove (t := tb (r k) (N k) s) hg.1 hg.2.1 e3 cM a2
        obtain ⟨ma', on', ot', ta', po', ti', nu', e5, e6⟩ := s_layOwn (s := s) hk b1 hg (fun a ha => (b3 a ha).1) hs ma on ot ta po ti nu
        obtain ⟨mo', e7⟩ := s_aboveOf (t := tb (r k) (N k) s) hg.2.1 e6 mo a2
        refine ⟨nI (abv (mv (tb (r k) (N k) s) (N k) a2) (N k)), nI (N k), cT', ra', rb', cR', cP', cM', ma', on', ot', ta', po', ti', nu', mo', ?_, ?_, e2⟩
        · unfold s_X5_more
          rw [netAt_yes hk]
          simp only [Option.bind_some, Option.elim_some]
          rw [if_neg (nI_pos hs), g1]
          simp only [Option.bind_some]
          rw [if_neg (show ¬ ((1 : Int32) = 0) by decide), e1]
          simp only [Option.bind_some]
          rw [e4]
          rfl
        · unfold s_X6_more s_X6_isAsked
          rw [isNet_yes hk]
          simp only [Option.bind_some]
          rw [if_neg (show ¬ ((1 : Int32) = 0) by decide), if_neg (nI_pos hs), g2]
          simp only [Option.bind_some]
          rw [if_neg (show ¬ ((1 : Int32) = 0) by decide)]
          simp only [Option.bind_some]
          rw [if_neg (show ¬ ((1 : Int32) = 0) by decide), e5]
          simp only [Option.bind_some]
          rw [chk_in (vp_in_nI hk (by omega)), nI_clamp (by omega), b1, e7]
          rfl
theorem op_more (a0 : Int32) (a1 : Int32) (a2 : Int32) : OpI Sim mX5_more mX6_more [vI a0, vI a1, vI a2] := by
  rintro wc wm ⟨cK, cF, ga, gi, gs, oK, cT, ra, rb, cR, cP, cM, ea, eb, cW, aO, aC, aQ, kn, ne, fi, se, ma, on, ot, ta, po, ti, nu, mo, wa, nx, oT, cF', bg, ed, sF, qu, qd, tr, rfl, rfl, inv, h1, h2⟩
  obtain ⟨v, oK1, cT1, ra1, rb1, cR1, cP1, cM1, ma1, on1, ot1, ta1, po1, ti1, nu1, mo1, e1, e2, e3⟩ := pure_more oK cT cR cP cM ma on ot ta po ti nu mo h1 inv a0 a1 a2
  exact ⟨v, _, _, c_X5_more (d := 4) e1, c_X6_more (d := 4) e2, _, _, _, _, _, _, _, _, _, _, _, _, _, _, _, _, _, _, _, _, _, _, _, _, _, _, _, _, _, _, _, _, _, _, _, _, _, _, _, _, rfl, rfl, inv, e3, h2⟩
theorem pure_just {kn ne cK : Nat → Int32} {cF : Nat → Nat → Int32} {ra rb : Fin 2} (oK : Int32) (cT : Nat → Nat → Int32) (cR : Nat → Nat → Nat → Int64) (cP cM : Nat → Int64) (ma : Int32) (on ot : Nat → Int32) (ta po ti nu mo : Nat → Int64) (hr : ra ≠ rb) (inv : Inv kn ne cK cF) (a0 a1 a2 : Int32) : ∃ (v oK' : Int32) (cT' : Nat → Nat → Int32) (ra' rb' : Fin 2) (cR' : Nat → Nat → Nat → Int64) (cP' cM' : Nat → Int64) (ma' : Int32) (on' ot' : Nat → Int32) (ta' po' ti' nu' mo' : Nat → Int64), s_X5_just cK cF oK cT ra rb cR cP cM a0 a1 a2 = some (v, oK', cT', ra', rb', cR', cP', cM') ∧ s_X6_just kn ne ma on ot ta po ti nu mo a0 a1 a2 = some (v, ma', on', ot', ta', po', ti', nu', mo') ∧ ra' ≠ rb' := by
  have hbad : s_X5_just cK cF oK cT ra rb cR cP cM a0 a1 a2 = some (-2, oK, cT, ra, rb, cR, cP, cM) → s_X6_isAsked a0 a1 a2 = some 0 → ∃ (v oK' : Int32) (cT' : Nat → Nat → Int32) (ra' rb' : Fin 2) (cR' : Nat → Nat → Nat → Int64) (cP' cM' : Nat → Int64) (ma' : Int32) (on' ot' : Nat → Int32) (ta' po' ti' nu' mo' : Nat → Int64), s_X5_just cK cF oK cT ra rb cR cP cM a0 a1 a2 = some (v, oK', cT', ra', rb', cR', cP', cM') ∧ s_X6_just kn ne ma on ot ta po ti nu mo a0 a1 a2 = some (v, ma', on', ot', ta', po', ti', nu', mo') ∧ ra' ≠ rb' := fun h g => ⟨-2, oK, cT, ra, rb, cR, cP, cM, ma, on, ot, ta, po, ti, nu, mo, h, by unfold s_X6_just; rw [g]; rfl, hr⟩
  rcases net_or a0 with h | ⟨k, hk, rfl⟩
  · exact hbad (by unfold s_X5_just; rw [netAt_no h]; rfl) (by unfold s_X6_isAsked; rw [isNet_no h]; rfl)
  · obtain ⟨N, r, hi⟩ := id inv
    obtain ⟨hg, b1, b2, b3⟩ := hi k hk
    have hf : (fin5 k).1 = k := fin5_val (by omega)
    have b2' : cK (fin5 k).1 = nI (N k) := by rw [hf]; exact b2
    have b3' : ∀ a, a < 10 → cF (fin5 k).1 a = nI (r k a) := fun a ha => by rw [hf]; exact (b3 a ha).2
    rcases nn_or a1 with h | ⟨s, hs, rfl⟩
    · exact hbad (by unfold s_X5_just; rw [netAt_yes hk]; simp only [Option.bind_some, Option.elim_some]; rw [if_pos h]) (by unfold s_X6_isAsked; rw [isNet_yes hk]; simp only [Option.bind_some]; rw [if_neg (show ¬ ((1 : Int32) = 0) by decide), if_pos h])
    · rcases halves_or a2 with ⟨g1, g2⟩ | ⟨g1, g2⟩
      · exact hbad (by unfold s_X5_just; rw [netAt_yes hk]; simp only [Option.bind_some, Option.elim_some]; rw [if_neg (nI_pos hs), g1]; rfl) (by unfold s_X6_isAsked; rw [isNet_yes hk]; simp only [Option.bind_some]; rw [if_neg (show ¬ ((1 : Int32) = 0) by decide), if_neg (nI_pos hs), g2]; rfl)
      · obtain ⟨cT', ra', rb', cR', cP', e1, e2, e3⟩ := s_read (p := fin5 k) b2' hg b3' hs hr oK cT cR cP
        obtain ⟨cM', e4⟩ := s_countAt (t := tb (r k) (N k) s) hg.1 hg.2.1 e3 cM a2
        obtain ⟨ma', on', ot', ta', po', ti', nu', e5, e6⟩ := s_layOwn (s := s) hk b1 hg (fun a ha => (b3 a ha).1) hs ma on ot ta po ti nu
        obtain ⟨mo', e7⟩ := s_justOf (t := tb (r k) (N k) s) hg.2.1 e6 mo a2
        refine ⟨nI (zc (mv (tb (r k) (N k) s) (N k) a2) (N k)), nI (N k), cT', ra', rb', cR', cP', cM', ma', on', ot', ta', po', ti', nu', mo', ?_, ?_, e2⟩
        · unfold s_X5_just
          rw [netAt_yes hk]
          simp only [Option.bind_some, Option.elim_some]
          rw [if_neg (nI_pos hs), g1]
          simp only [Option.bind_some]
          rw [if_neg (show ¬ ((1 : Int32) = 0) by decide), e1]
          simp only [Option.bind_some]
          rw [e4]
          rfl
        · unfold s_X6_just s_X6_isAsked
          rw [isNet_yes hk]
          simp only [Option.bind_some]
          rw [if_neg (show ¬ ((1 : Int32) = 0) by decide), if_neg (nI_pos hs), g2]
          simp only [Option.bind_some]
          rw [if_neg (show ¬ ((1 : Int32) = 0) by decide)]
          simp only [Option.bind_some]
          rw [if_neg (show ¬ ((1 : Int32) = 0) by decide), e5]
          simp only [Option.bind_some]
          rw [chk_in (vp_in_nI hk (by omega)), nI_clamp (by omega), b1, e7]
          rfl
theorem op_just (a0 : Int32) (a1 : Int32) (a2 : Int32) : OpI Sim mX5_just mX6_just [vI a0, vI a1, vI a2] := by
  rintro wc wm ⟨cK, cF, ga, gi, gs, oK, cT, ra, rb, cR, cP, cM, ea, eb, cW, aO, aC, aQ, kn, ne, fi, se, ma, on, ot, ta, po, ti, nu, mo, wa, nx, oT, cF', bg, ed, sF, qu, qd, tr, rfl, rfl, inv, h1, h2⟩
  obtain ⟨v, oK1, cT1, ra1, rb1, cR1, cP1, cM1, ma1, on1, ot1, ta1, po1, ti1, nu1, mo1, e1, e2, e3⟩ := pure_just oK cT cR cP cM ma on ot ta po ti nu mo h1 inv a0 a1 a2
  exact ⟨v, _, _, c_X5_just (d := 4) e1, c_X6_just (d := 4) e2, _, _, _, _, _, _, _, _, _, _, _, _, _, _, _, _, _, _, _, _, _, _, _, _, _, _, _, _, _, _, _, _, _, _, _, _, _, _, _, _, rfl, rfl, inv, e3, h2⟩
