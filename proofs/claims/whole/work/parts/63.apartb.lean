/-! the reference's search, on -/
theorem RI_next {n w nx seen : Nat} {O : Nat → Nat → Bool} {Q : Nat → Nat} {sF qu : Nat → Int32} (h : RI n O Q w nx sF qu seen) (hnx : nx < w) (h1 : ∀ y, y < 20 → O (nd (Q nx)) (nd y) = true → seen.testBit y = true) (h2 : O (nd (Q nx)) 21 = false) : RI n O Q w (nx + 1) sF qu seen := by
  obtain ⟨g1, g2, g3, g4, g5, g6, g7, g8, g9⟩ := h
  refine ⟨g1, g2, g3, g4, g5, g6, by omega, fun k hk => ?_, fun k hk => ?_⟩
  · by_cases e : k = nx
    · rw [e]; exact h1
    · exact g8 k (by omega)
  · by_cases e : k = nx
    · rw [e]; exact h2
    · exact g9 k (by omega)
theorem om_init (sF : Nat → Int32) : ∃ sF', loop b_X6_oneMore_11 ((0 : Int32), sF) = some sF' ∧ ∀ x, x < 20 → sF' x = -2 :=
  loop_cnt (f := b_X6_oneMore_11) (fun i x => ∃ f, x = (nI i, f) ∧ ∀ c, c < i → f c = -2) 20 (fun f => ∀ c, c < 20 → f c = -2) (by
    rintro i x hi ⟨f, rfl, h⟩
    unfold b_X6_oneMore_11
    dsimp only
    rw [if_neg (by rw [show (20 : Int32) = nI 20 by decide]; exact nI_ge hi (by omega)), chk_in (vp_in_nI (by omega) (by omega)), nI_clamp (by omega), nI_1]
    refine ⟨_, rfl, _, rfl, fun c hc => ?_⟩
    by_cases q : c = i
    · rw [q, pk_us]
    · rw [pk_un q]; exact h c (by omega)) (by
    rintro x ⟨f, rfl, h⟩
    unfold b_X6_oneMore_11
    dsimp only
    rw [if_pos (by decide)]
    exact ⟨_, rfl, h⟩) 0 _ (by omega) ⟨sF, rfl, fun c hc => by omega⟩
theorem i2 : (2 : Int32) = nI 2 := by decide
theorem om_first {r : Nat → Nat} {n fr to k bg ed : Nat} {O : Nat → Nat → Bool} {oT cF sF qu : Nat → Int32} (h : FS (Bn r n fr to) O k) (hg : Gr n r) (hR : RM n O oT cF bg ed) (hf : fr < 2 ^ n) (hs : ∀ x, x < 20 → sF x = -2) : ∃ e, loop (b_X6_oneMore_41 (nI bg) (nI fr) (nI n)) ((0 : Int32), sF, qu, (0 : Int32)) = some e ∧ ∃ Q w seen sF' qu', e = (sF', qu', nI w) ∧ RI n O Q w 0 sF' qu' seen ∧ ∀ i, i < n → O 20 i = true → seen.testBit (2 * i) = true := by
  have hn := hg.2.1
  have h31 : 2 ^ n ≤ 2 ^ 10 := Nat.pow_le_pow_right (by omega) hn
  obtain ⟨r1, r2, r3, r4, r5⟩ := id hR
  refine loop_cnt (f := b_X6_oneMore_41 (nI bg) (nI fr) (nI n)) (fun v x => ∃ Q w seen sF' qu', x = (nI v, sF', qu', nI w) ∧ RI n O Q w 0 sF' qu' seen ∧ ∀ i, i < v → O 20 i = true → seen.testBit (2 * i) = true) n _ ?_ ?_ 0 _ (by omega) ⟨fun _ => 0, 0, 0, sF, qu, rfl, ⟨fun k hk => by omega, fun k k' hk => by omega, fun x hx => ⟨fun _ => Nat.zero_testBit x, fun _ => hs x hx⟩, fun x => by
      rw [Nat.zero_testBit]
      exact ⟨fun z => absurd z (by decide), fun ⟨k, hk, _⟩ => by omega⟩, fun k hk => by omega, by decide +kernel, by omega, fun k hk => by omega, fun k hk => by omega⟩, fun i hi => by omega⟩
  · rintro v x hv ⟨Q, w, seen, sF', qu', rfl, g1, g2⟩
    have hS := arc_S h hn hv
    have skip : O 20 v = false → ∃ y, (some (Sum.inl (nI (v + 1), sF', qu', nI w)) : Option ((Int32 × (Nat → Int32) × (Nat → Int32) × Int32) ⊕ ((Nat → Int32) × (Nat → Int32) × Int32))) = some (Sum.inl y) ∧ ∃ Q w seen sF' qu', y = (nI (v + 1), sF', qu', nI w) ∧ RI n O Q w 0 sF' qu' seen ∧ ∀ i, i < v + 1 → O 20 i = true → seen.testBit (2 * i) = true := by
      intro hno
      refine ⟨_, rfl, Q, w, seen, sF', qu', rfl, g1, fun i hi ho => ?_⟩
      by_cases e : i = v
      · rw [e, hno] at ho; exact absurd ho (by decide)
      · exact g2 i (by omega) ho
    unfold b_X6_oneMore_41
    dsimp only
    rw [if_neg (nI_ge hv (by omega)), nI_1, i2, pk_mul]
    by_cases q1 : fr.testBit v = true
    · rw [if_pos ((nI_bit (by omega) (by omega)).mpr q1)]
      by_cases q2 : bg.testBit v = true
      · rw [if_neg (fun z => (bit_zero (by omega) (by omega)).mp z q2)]
        exact skip (by rw [hS, ← (r3 v hv).1, q2, Bool.not_true, Bool.and_false])
      · have ho : O 20 v = true := by rw [hS, ← (r3 v hv).1, q1, Bool.eq_false_iff.mpr q2]; rfl
        obtain ⟨Q2, w2, seen2, sF2, qu2, e1, e2, e3, e4, e5, e6⟩ := s_see (x := 2 * v) (f := -1) hn g1 (by omega) (Or.inl ⟨rfl, by rw [nd_e]; exact ho⟩)
        rw [if_pos ((bit_zero (by omega) (by omega)).mpr q2), e1]
        simp only [Option.bind_some]
        refine ⟨_, rfl, Q2, w2, seen2, sF2, qu2, rfl, e2, fun i hi ho => ?_⟩
        by_cases e : i = v
        · rw [e]; exact e5
        · exact e6 _ (g2 i (by omega) ho)
    · rw [if_neg (fun z => q1 ((nI_bit (by omega) (by omega)).mp z))]
      exact skip (by rw [hS, Bool.eq_false_iff.mpr q1, Bool.false_and])
  · rintro x ⟨Q, w, seen, sF', qu', rfl, g1, g2⟩
    unfold b_X6_oneMore_41
    dsimp only
    rw [if_pos (nI_le (Nat.le_refl _) (by omega))]
    exact ⟨_, rfl, Q, w, seen, sF', qu', rfl, g1, g2⟩
theorem om_beside {ne : Nat → Int32} {r : Nat → Nat} {kk n fr to k bg ed v w nx seen : Nat} {O : Nat → Nat → Bool} {oT cF sF qu : Nat → Int32} {Q : Nat → Nat} (hk : kk < 4) (h3 : ∀ a, a < 10 → ne (10 * kk + a) = nI (r a)) (h : FS (Bn r n fr to) O k) (hg : Gr n r) (hR : RM n O oT cF bg ed) (hv : v < n) (hI : RI n O Q w nx sF qu seen) (hnx : nx < w) (hQ : Q nx = 2 * v + 1) : ∃ e, loop (b_X6_oneMore_238 ne oT (nI kk) (nI n) (nI v)) ((0 : Int32), sF, qu, nI w) = some e ∧ ∃ Q' w' seen' sF' qu', e = (sF', qu', nI w') ∧ RI n O Q' w' nx sF' qu' seen' ∧ nx < w' ∧ Q' nx = 2 * v + 1 ∧ subB seen seen' ∧ ∀ i, i < n → i ≠ v → O (10 + v) i = true → seen'.testBit (2 * i) = true := by
  have hn := hg.2.1
  obtain ⟨r1, r2, r3, r4, r5⟩ := id hR
  refine loop_cnt (f := b_X6_oneMore_238 ne oT (nI kk) (nI n) (nI v)) (fun j x => ∃ Q' w' seen' sF' qu', x = (nI j, sF', qu', nI w') ∧ RI n O Q' w' nx sF' qu' seen' ∧ nx < w' ∧ Q' nx = 2 * v + 1 ∧ subB seen seen' ∧ ∀ i, i < j → i ≠ v → O (10 + v) i = true → seen'.testBit (2 * i) = true) n _ ?_ ?_ 0 _ (by omega) ⟨Q, w, seen, sF, qu, rfl, hI, hnx, hQ, fun _ hb => hb, fun i hi => by omega⟩
  · rintro j x hj ⟨Q', w', seen', sF', qu', rfl, g1, g2, g3, g4, g5⟩
    have skip : (j ≠ v → O (10 + v) j = false) → ∃ y, (some (Sum.inl (nI (j + 1), sF', qu', nI w')) : Option ((Int32 × (Nat → Int32) × (Nat → Int32) × Int32) ⊕ ((Nat → Int32) × (Nat → Int32) × Int32))) = some (Sum.inl y) ∧ ∃ Q' w' seen' sF' qu', y = (nI (j + 1), sF', qu', nI w') ∧ RI n O Q' w' nx sF' qu' seen' ∧ nx < w' ∧ Q' nx = 2 * v + 1 ∧ subB seen seen' ∧ ∀ i, i < j + 1 → i ≠ v → O (10 + v) i = true → seen'.testBit (2 * i) = true := by
      intro hno
      refine ⟨_, rfl, Q', w', seen', sF', qu', rfl, g1, g2, g3, g4, fun i hi hiv ho => ?_⟩
      by_cases e : i = j
      · subst e
        rw [hno hiv] at ho; exact absurd ho (by decide)
      · exact g5 i (by omega) hiv ho
    unfold b_X6_oneMore_238
    dsimp only
    rw [if_neg (nI_ge hj (by omega)), s_has hk (by omega) (by omega) (Gr_lt hg v) (h3 v (by omega))]
    simp only [Option.bind_some]
    rw [nI_1, chk_in (vp_in_nI (by omega) (by omega)), nI_clamp (by omega), i2, pk_mul, pk_mul, nI_1]
    by_cases q1 : (r v).testBit j = true
    · have hjv : j ≠ v := fun z => by rw [z, hg.2.2.2.2.2] at q1; exact absurd q1 (by decide)
      have hl := arc_line h hn hv hj q1
      rw [if_neg (b2i_true q1)]
      by_cases q2 : oT v = nI j
      · rw [if_pos q2]
        exact skip (fun _ => by rw [hl, ((r5 v j hv hj hjv).1).mp q2]; rfl)
      · have ho : O (10 + v) j = true := by
          rw [hl]
          cases z : O j (10 + v)
          · rfl
          · exact absurd (((r5 v j hv hj hjv).1).mpr z) q2
        obtain ⟨Q2, w2, seen2, sF2, qu2, e1, e2, e3, e4, e5, e6⟩ := s_see (x := 2 * j) (f := nI (2 * v + 1)) hn g1 (by omega) (Or.inr ⟨nx, g2, by rw [g3], by rw [g3, nd_l, nd_e]; exact ho⟩)
        rw [if_neg q2, e1]
        simp only [Option.bind_some]
        refine ⟨_, rfl, Q2, w2, seen2, sF2, qu2, rfl, e2, by omega, by rw [e4 nx g2]; exact g3, fun b hb => e6 b (g4 b hb), fun i hi hiv ho => ?_⟩
        by_cases e : i = j
        · rw [e]; exact e5
        · exact e6 _ (g5 i (by omega) hiv ho)
    · rw [if_pos (b2i_false q1)]
      refine skip (fun hjv => ?_)
      cases z : O (10 + v) j
      · rfl
      · rcases arc_l h hg hv (by omega) z with c | ⟨c, -⟩ | ⟨-, -, c⟩
        · exact absurd c hjv
        · omega
        · exact absurd c q1
  · rintro x ⟨Q', w', seen', sF', qu', rfl, g1, g2, g3, g4, g5⟩
    unfold b_X6_oneMore_238
    dsimp only
    rw [if_pos (nI_le (Nat.le_refl _) (by omega))]
    exact ⟨_, rfl, Q', w', seen', sF', qu', rfl, g1, g2, g3, g4, g5⟩
theorem om_main {ne : Nat → Int32} {r : Nat → Nat} {kk n fr to k bg ed : Nat} {O : Nat → Nat → Bool} {oT cF : Nat → Int32} (hk : kk < 4) (h3 : ∀ a, a < 10 → ne (10 * kk + a) = nI (r a)) (h : FS (Bn r n fr to) O k) (hg : Gr n r) (hR : RM n O oT cF bg ed) (ht : to < 2 ^ n) : ∀ x, (∃ Q w nx seen sF qu, x = (nI nx, sF, qu, nI w) ∧ RI n O Q w nx sF qu seen ∧ ∀ i, i < n → O 20 i = true → seen.testBit (2 * i) = true) → ∃ e, loop (b_X6_oneMore_88 ne oT cF (nI bg) (nI ed) (nI kk) (nI to) (nI n)) x = some e ∧ ((∃ Q w seen sF qu, e = Sum.inr (sF, qu, nI w) ∧ RI n O Q w w sF qu seen ∧ ∀ i, i < n → O 20 i = true → seen.testBit (2 * i) = true) ∨ ∃ v Q w nx seen sF qu, e = Sum.inl (nI v, sF, qu, nI w) ∧ v < n ∧ O (10 + v) 21 = true ∧ nx < w ∧ Q nx = 2 * v + 1 ∧ RI n O Q w nx sF qu seen) := by
  have hn := hg.2.1
  have h31 : 2 ^ n ≤ 2 ^ 10 := Nat.pow_le_pow_right (by omega) hn
  obtain ⟨r1, r2, r3, r4, r5⟩ := id hR
  refine loop_spec (f := b_X6_oneMore_88 ne oT cF (nI bg) (nI ed) (nI kk) (nI to) (nI n)) _ (fun x => 21 - x.1.toNatClampNeg) _ ?_
  rintro x ⟨Q, w, nx, seen, sF, qu, rfl, hI, hC⟩
  have hw20 : w ≤ 20 := by
    have g1 := hI.2.2.2.2.2.1
    have g2 := popA_le seen 20
    omega
  have hnw := hI.2.2.2.2.2.2.1
  have goOn : ∀ Q' w' seen' sF' qu', RI n O Q' w' (nx + 1) sF' qu' seen' → subB seen seen' → nx < 20 → (∃ y, (some (Sum.inl (nI (nx + 1), sF', qu', nI w')) : Option ((Int32 × (Nat → Int32) × (Nat → Int32) × Int32) ⊕ ((Int32 × (Nat → Int32) × (Nat → Int32) × Int32) ⊕ ((Nat → Int32) × (Nat → Int32) × Int32)))) = some (Sum.inl y) ∧ (∃ Q w nx seen sF qu, y = (nI nx, sF, qu, nI w) ∧ RI n O Q w nx sF qu seen ∧ ∀ i, i < n → O 20 i = true → seen.testBit (2 * i) = true) ∧ 21 - y.1.toNatClampNeg < 21 - nx) := by
    intro Q' w' seen' sF' qu' g1 g2 g3
    refine ⟨_, rfl, ⟨Q', w', nx + 1, seen', sF', qu', rfl, g1, fun i hi ho => g2 _ (hC i hi ho)⟩, ?_⟩
    dsimp only
    rw [nI_clamp (by omega)]
    omega
  unfold b_X6_oneMore_88
  dsimp only
  by_cases q : w ≤ nx
  · right
    rw [if_pos (nI_le q (by omega))]
    have e : nx = w := by omega
    subst e
    exact ⟨_, rfl, Or.inl ⟨Q, nx, seen, sF, qu, rfl, hI, hC⟩⟩
  · have hnx : nx < w := by omega
    obtain ⟨c1, c2⟩ := hI.1 nx hnx
    rw [if_neg (nI_ge hnx (by omega)), chk_in (vp_in_nI (by omega) (by omega)), chk_in (vp_in_nI (by omega) (by omega)), nI_clamp (show nx < 2 ^ 31 by omega)]
    simp only [c2]
    rw [i2, nI_mod (by omega) (by omega) (by omega), pk_div (by omega) (by omega) (by omega), nI_1]
    rcases nd_or (Q nx) with ⟨v, hv⟩ | ⟨v, hv⟩
    · have hvn : v < n := by omega
      obtain ⟨u1, u2⟩ := s_isUsed h hg hR hvn
      obtain ⟨oe1, oe2⟩ := out_e h hn hvn
      have h21 : O v 21 = false := by
        cases z : O v 21
        · rfl
        · rcases arc_e h hg hvn (by omega) z with c | c | ⟨u, d1, d2, d3⟩ <;> omega
      left
      rw [hv, show 2 * v % 2 = 0 by omega, show 2 * v / 2 = v by omega, if_pos (by decide), u1]
      simp only [Option.bind_some]
      cases hu : O (10 + v) v
      · have ho : O v (10 + v) = true := by
          have := arc_in h hn hvn
          rw [hu] at this
          cases z : O v (10 + v)
          · rw [z] at this; exact absurd this (by decide)
          · rfl
        obtain ⟨Q2, w2, seen2, sF2, qu2, e1, e2, e3, e4, e5, e6⟩ := s_see (x := 2 * v + 1) (f := nI (2 * v)) hn hI (by omega) (Or.inr ⟨nx, hnx, by rw [hv], by rw [hv, nd_l, nd_e]; exact ho⟩)
        rw [if_pos (by decide), pk_mul, nI_1, e1]
        simp only [Option.bind_some]
        refine goOn Q2 w2 seen2 sF2 qu2 (RI_next e2 (by omega) (fun y hy hoy => ?_) ?_) e6 (by omega)
        · rw [e4 nx hnx, hv, nd_e] at hoy
          have := oe2 _ _ (by have := nd_lt hy; omega) (by omega) hoy ho
          have : y = 2 * v + 1 := nd_inj hy (by omega) (by rw [nd_l]; exact this)
          rw [this]; exact e5
        · rw [e4 nx hnx, hv, nd_e]; exact h21
      · rw [if_neg (by decide), chk_in (vp_in_nI (by omega) (by omega)), nI_clamp (by omega)]
        have fin0 : cF v = -1 → RI n O Q w (nx + 1) sF qu seen := by
          intro hcf
          refine RI_next hI hnx (fun y hy hoy => ?_) (by rw [hv, nd_e]; exact h21)
          rw [hv, nd_e] at hoy
          have hb : bg.testBit v = true := by
            cases z : bg.testBit v
            · obtain ⟨u, d1, d2, d3⟩ := u2 hu z
              rw [hcf] at d3
              exact absurd d3.symm (nI_ne_m1 (by omega))
            · rfl
          have h20 : O v 20 = true := by rw [← (r3 v hvn).1]; exact hb
          have := oe2 _ _ (by have := nd_lt hy; omega) (by omega) hoy h20
          have := nd_lt hy
          omega
        rcases (r4 v hvn).2 with c | ⟨u, d1, d2, d3⟩
        · rw [c, if_pos m1_lt]
          exact goOn Q w seen sF qu (fin0 c) (fun _ hb => hb) (by omega)
        · have ho : O v (10 + u) = true := ((r5 u v d1 hvn (fun z => d2 z.symm)).2).mp d3
          obtain ⟨Q2, w2, seen2, sF2, qu2, e1, e2, e3, e4, e5, e6⟩ := s_see (x := 2 * u + 1) (f := nI (2 * v)) hn hI (by omega) (Or.inr ⟨nx, hnx, by rw [hv], by rw [hv, nd_l, nd_e]; exact ho⟩)
          rw [d3, if_neg (nI_pos (by omega)), chk_in (vp_in_nI (by omega) (by omega)), pk_mul, pk_mul, nI_1, e1]
          simp only [Option.bind_some]
          refine goOn Q2 w2 seen2 sF2 qu2 (RI_next e2 (by omega) (fun y hy hoy => ?_) ?_) e6 (by omega)
          · rw [e4 nx hnx, hv, nd_e] at hoy
            have := oe2 _ _ (by have := nd_lt hy; omega) (by omega) hoy ho
            have : y = 2 * u + 1 := nd_inj hy (by omega) (by rw [nd_l]; exact this)
            rw [this]; exact e5
          · rw [e4 nx hnx, hv, nd_e]; exact h21
    · have hvn : v < n := by omega
      obtain ⟨u1, u2⟩ := s_isUsed h hg hR hvn
      have hT := arc_T h hn hvn
      rw [hv, show (2 * v + 1) % 2 = 1 by omega, show (2 * v + 1) / 2 = v by omega, if_neg (by decide), u1]
      simp only [Option.bind_some]
      have rest : O (10 + v) 21 = false → (∃ y, (if b2i (O (10 + v) v) = 0 then ((loop (b_X6_oneMore_238 ne oT (nI kk) (nI n) (nI v)) ((0 : Int32), sF, qu, nI w)).bind (fun e34 => some (Sum.inl (nI (nx + 1), e34.1, e34.2.1, e34.2.2)))) else ((s_X6_see sF qu (nI w) (nI 2 * nI v) ((nI 2 * nI v) + (1 : Int32))).bind (fun x40 => (loop (b_X6_oneMore_238 ne oT (nI kk) (nI n) (nI v)) ((0 : Int32), x40.1, x40.2.1, x40.2.2)).bind (fun e42 => some (Sum.inl (nI (nx + 1), e42.1, e42.2.1, e42.2.2))))) : Option ((Int32 × (Nat → Int32) × (Nat → Int32) × Int32) ⊕ ((Int32 × (Nat → Int32) × (Nat → Int32) × Int32) ⊕ ((Nat → Int32) × (Nat → Int32) × Int32)))) = some (Sum.inl y) ∧ (∃ Q w nx seen sF qu, y = (nI nx, sF, qu, nI w) ∧ RI n O Q w nx sF qu seen ∧ ∀ i, i < n → O 20 i = true → seen.testBit (2 * i) = true) ∧ 21 - y.1.toNatClampNeg < 21 - nx) := by
        intro h21
        have fin : ∀ Q2 w2 seen2 sF2 qu2, RI n O Q2 w2 nx sF2 qu2 seen2 → nx < w2 → Q2 nx = 2 * v + 1 → (O (10 + v) v = true → seen2.testBit (2 * v) = true) → (∀ i, i < n → i ≠ v → O (10 + v) i = true → seen2.testBit (2 * i) = true) → RI n O Q2 w2 (nx + 1) sF2 qu2 seen2 := by
          intro Q2 w2 seen2 sF2 qu2 k1 k2 k3 k4 k5
          refine RI_next k1 k2 (fun y hy hoy => ?_) (by rw [k3, nd_l]; exact h21)
          rw [k3, nd_l] at hoy
          have hy2 := nd_lt hy
          rcases arc_l h hg hvn (by omega) hoy with c | ⟨c, -⟩ | ⟨d1, d2, d3⟩
          · have : y = 2 * v := nd_inj hy (by omega) (by rw [nd_e]; exact c)
            rw [c] at hoy
            rw [this]; exact k4 hoy
          · omega
          · have e : y = 2 * nd y := nd_inj hy (by omega) (by rw [nd_e])
            rw [e]; exact k5 _ d1 d2 hoy
        cases hu : O (10 + v) v
        · rw [if_pos (by decide)]
          obtain ⟨e, e1, Q2, w2, seen2, sF2, qu2, rfl, e2, e3, e4, e5, e6⟩ := om_beside hk h3 h hg hR hvn hI hnx hv
          rw [e1]
          simp only [Option.bind_some]
          exact goOn Q2 w2 seen2 sF2 qu2 (fin _ _ _ _ _ e2 e3 e4 (fun z => by rw [hu] at z; exact absurd z (by decide)) e6) e5 (by omega)
        · rw [if_neg (by decide), pk_mul, nI_1]
          obtain ⟨Q1, w1, seen1, sF1, qu1, f1, f2, f3, f4, f5, f6⟩ := s_see (x := 2 * v) (f := nI (2 * v + 1)) hn hI (by omega) (Or.inr ⟨nx, hnx, by rw [hv], by rw [hv, nd_l, nd_e]; exact hu⟩)
          rw [f1]
          simp only [Option.bind_some]
          obtain ⟨e, e1, Q2, w2, seen2, sF2, qu2, rfl, e2, e3, e4, e5, e6⟩ := om_beside hk h3 h hg hR hvn f2 (by omega) (by rw [f4 nx hnx]; exact hv)
          rw [e1]
          simp only [Option.bind_some]
          exact goOn Q2 w2 seen2 sF2 qu2 (fin _ _ _ _ _ e2 e3 e4 (fun _ => e5 _ f5) e6) (fun b hb => e5 b (f6 b hb)) (by omega)
      by_cases q1 : to.testBit v = true
      · rw [if_pos ((nI_bit (by omega) (by omega)).mpr q1)]
        by_cases q2 : ed.testBit v = true
        · rw [if_neg (fun z => (bit_zero (by omega) (by omega)).mp z q2)]
          left
          exact rest (by rw [hT, ← (r3 v hvn).2, q2, Bool.not_true, Bool.and_false])
        · rw [if_pos ((bit_zero (by omega) (by omega)).mpr q2)]
          right
          exact ⟨_, rfl, Or.inr ⟨v, Q, w, nx, seen, sF, qu, rfl, hvn, by rw [hT, ← (r3 v hvn).2, q1, Bool.eq_false_iff.mpr q2]; rfl, hnx, hv, hI⟩⟩
      · rw [if_neg (fun z => q1 ((nI_bit (by omega) (by omega)).mp z))]
        left
        exact rest (by rw [hT, Bool.eq_false_iff.mpr q1, Bool.false_and])
