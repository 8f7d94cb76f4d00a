/-! number -/
theorem s_lineNumber {cF : Nat → Nat → Int32} {p : Fin 5} {n a b : Nat} {r : Nat → Nat} (hg : Gr n r) (h3 : ∀ a, a < 10 → cF p.1 a = nI (r a)) (hab : a < b) (hb : b < n) : s_X2_lineNumber cF p (nI a) (nI b) = some (nI ((allP r n a).length + (rowP r a b).length)) := by
  have h10 := hg.2.1
  have hrow : ∀ i, i < n → popA (r i >>> i) 10 = (rowP r i n).length := fun i hi => by
    rw [rowP_len, popS h10 (hg.2.2.1 i hi) (hg.2.2.2.2.2 i)]
  have hsh : ∀ x i, x < 1024 → x >>> i < 1024 := fun x i h => Nat.lt_of_le_of_lt (Nat.shiftRight_le x i) h
  have hl : loop (b_X2_lineNumber_5 cF p (nI a)) ((0 : Int32), (0 : Int32)) = some (nI (allP r n a).length) := by
    refine loop_for (f := b_X2_lineNumber_5 cF p (nI a)) (fun i => (nI (allP r n i).length, nI i)) a (fun i hi => ?_) ?_ 0 (by omega)
    · unfold b_X2_lineNumber_5
      dsimp only
      have hr := Gr_lt hg i
      rw [if_neg (nI_ge hi (by omega)), chk_in (vp_in_nI (by omega) (by omega)), nI_clamp (by omega), h3 i (by omega), nI_shr (by omega) (by omega), bc10 _ (hsh _ _ hr)]
      simp only [Option.bind_some]
      rw [nI_add, nI_1, hrow i (by omega), allP, List.length_append]
    · unfold b_X2_lineNumber_5
      dsimp only
      rw [if_pos (nI_le (Nat.le_refl _) (by omega))]
  have hr := Gr_lt hg a
  have hm : r a &&& (2 ^ b - 1) < 2 ^ b := by
    rw [Nat.and_two_pow_sub_one_eq_mod]; exact Nat.mod_lt _ (Nat.two_pow_pos b)
  have hm2 : r a &&& (2 ^ b - 1) < 1024 := Nat.lt_of_le_of_lt Nat.and_le_left hr
  unfold s_X2_lineNumber lt'
  rw [hl]
  simp only [Option.bind_some]
  rw [chk_in (vp_in_nI (by omega) (by omega)), nI_clamp (by omega), h3 a (by omega), two_m1 (by omega), nI_and, nI_shr (by omega) (by omega), bc10 _ (hsh _ _ hm2)]
  simp only [Option.bind_some]
  rw [nI_add, popS (n := b) (by omega) hm (by rw [Nat.testBit_and, hg.2.2.2.2.2]; rfl), rowP_len]
  congr 3
  refine sm_congr fun j hj => ?_
  rw [Nat.testBit_and, Nat.testBit_two_pow_sub_one]
  simp [hj]
theorem num_find {L A B : List (Nat × Nat)} {on ot : Nat → Int32} {lo hi : Nat} (hL : Lay L on ot) (h45 : L.length ≤ 45) (hlo : lo < 2 ^ 31) (hhi : hi < 2 ^ 31) (hs : ∀ x, x ∈ L → x.1 < 10 ∧ x.2 < 10) (e : L = A ++ (lo, hi) :: B) (hA : ∀ x, x ∈ A → x ≠ (lo, hi)) : loop (b_X6_number_54 (nI L.length) on ot (nI lo) (nI hi)) (0 : Int32) = some (Sum.inl (nI A.length)) := by
  have hlen : L.length = A.length + (B.length + 1) := by rw [e, List.length_append]; rfl
  refine loop_for (f := b_X6_number_54 (nI L.length) on ot (nI lo) (nI hi)) (fun i => nI i) A.length (fun i hi' => ?_) ?_ 0 (by omega)
  · have hi2 : i < L.length := by omega
    obtain ⟨o1, o2⟩ := hL i hi2
    have hel : L[i] = A[i] := by
      simp only [e]
      exact List.getElem_append_left hi'
    obtain ⟨s1, s2⟩ := hs L[i] (List.getElem_mem hi2)
    have hne := hA L[i] (by rw [hel]; exact List.getElem_mem hi')
    unfold b_X6_number_54
    rw [if_neg (nI_ge hi2 (by omega)), chk_in (vp_in_nI (by omega) (by omega)), chk_in (vp_in_nI (by omega) (by omega)), nI_clamp (by omega), o1, o2, nI_1]
    simp only [nI_eq (a := (L[i]).1) (b := lo) (by omega) hlo, nI_eq (a := (L[i]).2) (b := hi) (by omega) hhi]
    by_cases q1 : (L[i]).1 = lo
    · by_cases q2 : (L[i]).2 = hi
      · exact absurd (Prod.ext q1 q2) hne
      · rw [if_pos q1, if_neg q2]
    · rw [if_neg q1]
  · have hi2 : A.length < L.length := by omega
    obtain ⟨o1, o2⟩ := hL A.length hi2
    have hel : L[A.length] = (lo, hi) := by
      simp only [e]
      rw [List.getElem_append_right (Nat.le_refl _)]
      simp
    rw [hel] at o1 o2
    unfold b_X6_number_54
    rw [if_neg (nI_ge hi2 (by omega)), chk_in (vp_in_nI (by omega) (by omega)), chk_in (vp_in_nI (by omega) (by omega)), nI_clamp (by omega), o1, o2, if_pos rfl, if_pos rfl]
theorem num_none {L : List (Nat × Nat)} {on ot : Nat → Int32} {lo hi : Nat} (hL : Lay L on ot) (h45 : L.length ≤ 45) (hlo : lo < 2 ^ 31) (hhi : hi < 2 ^ 31) (hs : ∀ x, x ∈ L → x.1 < 10 ∧ x.2 < 10) (hA : ∀ x, x ∈ L → x ≠ (lo, hi)) : loop (b_X6_number_54 (nI L.length) on ot (nI lo) (nI hi)) (0 : Int32) = some (Sum.inr ()) := by
  refine loop_for (f := b_X6_number_54 (nI L.length) on ot (nI lo) (nI hi)) (fun i => nI i) L.length (fun i hi2 => ?_) ?_ 0 (by omega)
  · obtain ⟨o1, o2⟩ := hL i hi2
    obtain ⟨s1, s2⟩ := hs L[i] (List.getElem_mem hi2)
    have hne := hA L[i] (List.getElem_mem hi2)
    unfold b_X6_number_54
    rw [if_neg (nI_ge hi2 (by omega)), chk_in (vp_in_nI (by omega) (by omega)), chk_in (vp_in_nI (by omega) (by omega)), nI_clamp (by omega), o1, o2, nI_1]
    simp only [nI_eq (a := (L[i]).1) (b := lo) (by omega) hlo, nI_eq (a := (L[i]).2) (b := hi) (by omega) hhi]
    by_cases q1 : (L[i]).1 = lo
    · by_cases q2 : (L[i]).2 = hi
      · exact absurd (Prod.ext q1 q2) hne
      · rw [if_pos q1, if_neg q2]
    · rw [if_neg q1]
  · unfold b_X6_number_54
    rw [if_pos (nI_le (Nat.le_refl _) (by omega))]
theorem num_loop {n lo hi : Nat} {r : Nat → Nat} {on ot : Nat → Int32} (hg : Gr n r) (hL : Lay (linesP r n) on ot) (hab : lo < hi) (hb : hi < n) : loop (b_X6_number_54 (nI (linesP r n).length) on ot (nI lo) (nI hi)) (0 : Int32) = some (if (r lo).testBit hi = true then Sum.inl (nI ((allP r n lo).length + (rowP r lo hi).length)) else Sum.inr ()) := by
  have h10 := hg.2.1
  have hs : ∀ x, x ∈ linesP r n → x.1 < 10 ∧ x.2 < 10 := fun x hx => by
    have := lines_mem.mp hx
    omega
  by_cases q : (r lo).testBit hi = true
  · rw [if_pos q]
    obtain ⟨B, e⟩ := lines_split hab hb q
    have := num_find hL (lines_le hg) (by omega) (by omega) hs e (by
      intro x hx he
      rw [he, List.mem_append, allP_mem, rowP_mem] at hx
      rcases hx with h | h
      · have := h.1; dsimp only at this; omega
      · have := h.2.2.1; dsimp only at this; omega)
    rw [this, List.length_append]
  · rw [if_neg q]
    exact num_none hL (lines_le hg) (by omega) (by omega) hs (by
      intro x hx he
      rw [he, lines_mem] at hx
      exact q hx.2.2)
theorem pure_number {kn ne cK : Nat → Int32} {cF : Nat → Nat → Int32} (ma : Int32) (on ot : Nat → Int32) (inv : Inv kn ne cK cF) (a0 a1 a2 : Int32) : ∃ (v : Int32) (ma' : Int32) (on' ot' : Nat → Int32), s_X5_number cK cF a0 a1 a2 = some v ∧ s_X6_number kn ne ma on ot a0 a1 a2 = some (v, ma', on', ot') := by
  have hbad : s_X5_number cK cF a0 a1 a2 = some (-2) → s_X6_number kn ne ma on ot a0 a1 a2 = some (-2, ma, on, ot) → ∃ (v : Int32) (ma' : Int32) (on' ot' : Nat → Int32), s_X5_number cK cF a0 a1 a2 = some v ∧ s_X6_number kn ne ma on ot a0 a1 a2 = some (v, ma', on', ot') := fun h g => ⟨-2, ma, on, ot, h, g⟩
  rcases net_or a0 with h | ⟨k, hk, rfl⟩
  · exact hbad (by unfold s_X5_number; rw [netAt_no h]; rfl) (by unfold s_X6_number; rw [isKnot_nonet h]; rfl)
  · obtain ⟨N, r, hi⟩ := id inv
    obtain ⟨hg, b1, b2, b3⟩ := hi k hk
    have hf : (fin5 k).1 = k := fin5_val (by omega)
    have h10 := hg.2.1
    have h1 := hg.1
    have b2' : cK (fin5 k).1 = nI (N k) := by rw [hf]; exact b2
    rcases knot_or a1 h10 with h | ⟨a, ha, rfl⟩
    · exact hbad (by unfold s_X5_number; rw [netAt_yes hk]; simp only [Option.bind_some, Option.elim_some]; rw [unlike_no1 (hasKnot_no b2' h)]; rfl) (by unfold s_X6_number; rw [isKnot_no hk b1 h1 h10 h]; rfl)
    · rcases knot_or a2 h10 with h | ⟨b, hb, rfl⟩
      · exact hbad (by unfold s_X5_number; rw [netAt_yes hk]; simp only [Option.bind_some, Option.elim_some]; rw [unlike_no2 (hasKnot_yes b2' h10 ha) (hasKnot_no b2' h)]; rfl) (by unfold s_X6_number; rw [isKnot_yes hk b1 h10 ha, isKnot_no hk b1 h1 h10 h]; rfl)
      · by_cases hab : a = b
        · subst hab
          exact hbad (by unfold s_X5_number; rw [netAt_yes hk]; simp only [Option.bind_some, Option.elim_some]; rw [unlike_eq (hasKnot_yes b2' h10 ha)]; rfl) (by unfold s_X6_number; rw [isKnot_yes hk b1 h10 ha]; simp only [Option.bind_some]; rw [if_neg (show ¬ ((1 : Int32) = 0) by decide), if_neg (show ¬ ((1 : Int32) = 0) by decide), if_pos trivial])
        · have hne : ¬ nI a = nI b := fun z => hab ((nI_eq (by omega) (by omega)).mp z)
          obtain ⟨on', ot', l1, l2⟩ := s_layLines hk b1 hg (fun a ha => (b3 a ha).1) ma on ot
          have hc : ∀ a, a < 10 → cF (fin5 k).1 a = nI (r k a) := fun a ha => by rw [hf]; exact (b3 a ha).2
          unfold s_X5_number s_X6_number
          rw [netAt_yes hk, isKnot_yes hk b1 h10 ha, isKnot_yes hk b1 h10 hb]
          simp only [Option.bind_some, Option.elim_some]
          rw [unlike_yes (hasKnot_yes b2' h10 ha) (hasKnot_yes b2' h10 hb) hne, l1, s_joins (r := r k) (by omega) (by omega) (Gr_lt hg a) (hc a (by omega))]
          simp only [Option.bind_some]
          rw [if_neg (show ¬ ((1 : Int32) = 0) by decide), if_neg (show ¬ ((1 : Int32) = 0) by decide), if_neg hne, if_neg (show ¬ ((1 : Int32) = 0) by decide), nI_add]
          have hsym := hg.2.2.2.2.1 a b
          rcases Nat.lt_or_ge a b with q | q
          · rw [if_neg (nI_nlt (by omega) (by omega)), if_pos (nI_lt q (by omega)), if_neg (nI_ge q (by omega)), pk_sub (by omega), show a + b - a = b by omega, s_lineNumber hg hc q hb, num_loop hg l2 q hb]
            by_cases c : (r k a).testBit b = true
            · rw [if_neg (b2i_true c), if_pos c]
              exact ⟨_, _, _, _, rfl, rfl⟩
            · rw [if_pos (b2i_false c), if_neg c]
              exact ⟨_, _, _, _, rfl, rfl⟩
          · have q' : b < a := by omega
            rw [if_pos (nI_lt q' (by omega)), if_neg (nI_nlt q (by omega)), if_pos (nI_le q (by omega)), pk_sub (by omega), show a + b - b = a by omega, s_lineNumber hg hc q' ha, num_loop hg l2 q' ha, hsym]
            by_cases c : (r k b).testBit a = true
            · rw [if_neg (b2i_true c), if_pos c]
              exact ⟨_, _, _, _, rfl, rfl⟩
            · rw [if_pos (b2i_false c), if_neg c]
              exact ⟨_, _, _, _, rfl, rfl⟩
theorem op_number (a0 : Int32) (a1 : Int32) (a2 : Int32) : OpI Sim mX5_number mX6_number [vI a0, vI a1, vI a2] := by
  rintro wc wm ⟨cK, cF, ga, gi, gs, oK, cT, ra, rb, cR, cP, cM, ea, eb, cW, aO, aC, aQ, kn, ne, fi, se, ma, on, ot, ta, po, ti, nu, mo, wa, nx, oT, cF', bg, ed, sF, qu, qd, tr, rfl, rfl, inv, h1, h2⟩
  obtain ⟨v, ma1, on1, ot1, e1, e2⟩ := pure_number ma on ot inv a0 a1 a2
  exact ⟨v, _, _, c_X5_number (d := 5) e1, c_X6_number (d := 5) e2, _, _, _, _, _, _, _, _, _, _, _, _, _, _, _, _, _, _, _, _, _, _, _, _, _, _, _, _, _, _, _, _, _, _, _, _, _, _, _, _, rfl, rfl, inv, h1, h2⟩
