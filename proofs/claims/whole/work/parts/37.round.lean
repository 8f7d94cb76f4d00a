/-! round -/
theorem rowP_yes {r : Nat → Nat} {a b : Nat} (hab : a < b) (q : (r a).testBit b = true) : rowP r a (b + 1) = rowP r a b ++ [(a, b)] := by
  rw [rowP, if_pos (by simp [hab, q])]
theorem rowP_no {r : Nat → Nat} {a b : Nat} (q : ¬ (r a).testBit b = true) : rowP r a (b + 1) = rowP r a b := by
  rw [rowP, if_neg (by simp [q])]
noncomputable def dv (r : Nat → Nat) (n a b : Nat) : Int32 := @dite _ (∃ v, Dst r n a b v) (Classical.propDecidable _) (fun h => h.choose) (fun _ => 0)
theorem dv_eq {r : Nat → Nat} {n a b : Nat} {v : Int32} (h : Dst r n a b v) : v = dv r n a b := by
  unfold dv
  rw [dif_pos ⟨v, h⟩]
  exact Dst_one h (Exists.choose_spec (⟨v, h⟩ : ∃ v, Dst r n a b v))
def stepR (s x : Int32) : Int32 := if x = -1 then s else if s = -1 then x + 1 else if s ≤ x + 1 then s else x + 1
def RS (n : Nat) (s : Int32) : Prop := s = -1 ∨ ∃ m, m ≤ n ∧ s = nI m
theorem RS_step {r : Nat → Nat} {n a b : Nat} {s x : Int32} (hs : RS n s) (hx : Dst r n a b x) : RS n (stepR s x) := by
  unfold stepR
  by_cases q : x = -1
  · rw [if_pos q]; exact hs
  · rw [if_neg q]
    rcases hx with ⟨d, hd, rfl, -⟩ | ⟨h, -⟩
    · rw [nI_1]
      have h2 : RS n (nI (d + 1)) := Or.inr ⟨d + 1, by omega, rfl⟩
      by_cases q1 : s = -1
      · rw [if_pos q1]; exact h2
      · rw [if_neg q1]
        by_cases q2 : s ≤ nI (d + 1)
        · rw [if_pos q2]; exact hs
        · rw [if_neg q2]; exact h2
    · exact absurd h q
noncomputable def rndF (r : Nat → Nat) (n : Nat) (L : List (Nat × Nat)) : Int32 := L.foldl (fun s x => stepR s (dv (rB r x.1 x.2) n x.1 x.2)) (-1)
theorem rndF_snoc (r : Nat → Nat) (n : Nat) (L : List (Nat × Nat)) (a b : Nat) : rndF r n (L ++ [(a, b)]) = stepR (rndF r n L) (dv (rB r a b) n a b) := by
  unfold rndF
  rw [List.foldl_append]
  rfl
theorem m1_lt : (-1 : Int32) < 0 := by decide
theorem rnd_in {cK : Nat → Int32} {cF : Nat → Nat → Int32} {p : Fin 5} {n a : Nat} {r : Nat → Nat} (hn : cK p.1 = nI n) (hg : Gr n r) (h3 : ∀ a, a < 10 → cF p.1 a = nI (r a)) (ha : a < n) (L0 : List (Nat × Nat)) : loop (b_X2_shortestRound_16 cK cF p (nI a)) (rndF r n L0, nI (a + 1)) = some (rndF r n (L0 ++ rowP r a n)) := by
  have h10 := hg.2.1
  obtain ⟨e, he, rfl⟩ := loop_cnt (f := b_X2_shortestRound_16 cK cF p (nI a)) (fun b x => a < b ∧ x = (rndF r n (L0 ++ rowP r a b), nI b)) n (fun e => e = rndF r n (L0 ++ rowP r a n)) (by
    rintro b x hb ⟨hab, rfl⟩
    unfold b_X2_shortestRound_16
    dsimp only
    rw [hn, if_neg (nI_ge hb (by omega)), s_joins (by omega) (by omega) (Gr_lt hg a) (h3 a (by omega))]
    simp only [Option.bind_some]
    by_cases q : (r a).testBit b = true
    · obtain ⟨v, e1, e2⟩ := few_around (p := p) hn hg h3 ha hb (by omega)
      rw [if_neg (b2i_true q), e1, dv_eq e2]
      simp only [Option.bind_some]
      rw [rowP_yes hab q, ← List.append_assoc, rndF_snoc, nI_1]
      refine ⟨_, ?_, by omega, rfl⟩
      unfold stepR
      by_cases c1 : dv (rB r a b) n a b = -1
      · rw [if_pos c1, if_pos c1]
      · rw [if_neg c1, if_neg c1]
        by_cases c2 : rndF r n (L0 ++ rowP r a b) = -1
        · rw [if_pos c2, if_pos c2]
        · rw [if_neg c2, if_neg c2]
          by_cases c3 : rndF r n (L0 ++ rowP r a b) ≤ dv (rB r a b) n a b + 1
          · rw [if_pos c3, if_pos c3]
          · rw [if_neg c3, if_neg c3]
    · rw [if_pos (b2i_false q), if_pos trivial, rowP_no q, nI_1]
      exact ⟨_, rfl, by omega, rfl⟩) (by
    rintro x ⟨hab, rfl⟩
    unfold b_X2_shortestRound_16
    dsimp only
    rw [hn, if_pos (nI_le (Nat.le_refl _) (by omega))]
    exact ⟨_, rfl, rfl⟩) (a + 1) (rndF r n L0, nI (a + 1)) (by omega) ⟨by omega, by rw [rowP_none _ _ _ (Nat.le_refl _), List.append_nil]⟩
  exact he
theorem s_shortestRound {cK : Nat → Int32} {cF : Nat → Nat → Int32} {p : Fin 5} {n : Nat} {r : Nat → Nat} (hn : cK p.1 = nI n) (hg : Gr n r) (h3 : ∀ a, a < 10 → cF p.1 a = nI (r a)) : s_X2_shortestRound cK cF p = some (rndF r n (linesP r n)) := by
  have h10 := hg.2.1
  suffices h : loop (b_X2_shortestRound_4 cK cF p) ((-1 : Int32), (0 : Int32)) = some (rndF r n (linesP r n)) by unfold s_X2_shortestRound; rw [h]; rfl
  refine loop_for (f := b_X2_shortestRound_4 cK cF p) (fun i => (rndF r n (allP r n i), nI i)) n (fun i hi => ?_) ?_ 0 (by omega)
  · unfold b_X2_shortestRound_4
    dsimp only
    rw [hn, if_neg (nI_ge hi (by omega)), nI_1, rnd_in hn hg h3 hi]
    rfl
  · unfold b_X2_shortestRound_4
    dsimp only
    rw [hn, if_pos (nI_le (Nat.le_refl _) (by omega))]
    rfl
theorem take_snoc {L : List (Nat × Nat)} {l : Nat} (h : l < L.length) : L.take (l + 1) = L.take l ++ [L[l]] := by
  rw [List.take_append_getElem]
theorem s_round {kn ne : Nat → Int32} {k n : Nat} {r : Nat → Nat} (hk : k < 4) (hn : kn k = nI n) (hg : Gr n r) (on ot : Nat → Int32) (hL : Lay (linesP r n) on ot) : loop (b_X6_round_19 kn (nI (linesP r n).length) on ot (nI k)) ((-1 : Int32), (0 : Int32)) = some (rndF r n (linesP r n)) := by
  have h10 := hg.2.1
  have hle := lines_le hg
  obtain ⟨e, he, rfl⟩ := loop_cnt (f := b_X6_round_19 kn (nI (linesP r n).length) on ot (nI k)) (fun l x => x = (rndF r n ((linesP r n).take l), nI l) ∧ RS n (rndF r n ((linesP r n).take l))) (linesP r n).length (fun e => e = rndF r n (linesP r n)) (by
    rintro l x hl ⟨rfl, hrs⟩
    obtain ⟨o1, o2⟩ := hL l hl
    have hm := lines_mem.mp (List.getElem_mem hl)
    generalize hxy : (linesP r n)[l] = xy at o1 o2 hm
    obtain ⟨a, b⟩ := xy
    dsimp only at o1 o2 hm
    have hab : a ≠ b := by omega
    have ha : a < n := by omega
    obtain ⟨v, e1, e2⟩ := s_distanceOf (L := linesP r n) (r := rB r a b) (w := nI l) (a := a) (b := b) (fun j => j = l) hk hn (Gr_rB hg hab ha hm.2.1) hL hle lines_small (fun j hj => nI_eq (by omega) (by omega)) (fun y c => by
      rw [rB_bit hg hab, Bool.and_eq_true, lines_rows hg]
      constructor
      · rintro ⟨⟨j, hj, h⟩, h2⟩
        refine ⟨j, hj, fun z => ?_, h⟩
        subst z
        rw [Bool.not_eq_true', decide_eq_false_iff_not] at h2
        apply h2
        rcases h with h | h
        · rw [hxy] at h
          injection h with h5 h6
          exact Or.inl ⟨h5.symm, h6.symm⟩
        · rw [hxy] at h
          injection h with h5 h6
          exact Or.inr ⟨h6.symm, h5.symm⟩
      · rintro ⟨j, hj, h1, h⟩
        refine ⟨⟨j, hj, h⟩, ?_⟩
        rw [Bool.not_eq_true', decide_eq_false_iff_not]
        intro z
        apply h1
        apply lines_inj hj hl
        rw [hxy]
        have hjm := lines_mem.mp (List.getElem_mem hj)
        rcases h with h | h
        · rw [h] at hjm ⊢
          dsimp only at hjm
          rcases z with ⟨z1, z2⟩ | ⟨z1, z2⟩
          · rw [z1, z2]
          · omega
        · rw [h] at hjm ⊢
          dsimp only at hjm
          rcases z with ⟨z1, z2⟩ | ⟨z1, z2⟩
          · omega
          · rw [z1, z2]) ha hm.2.1
    have hst : rndF r n ((linesP r n).take (l + 1)) = stepR (rndF r n ((linesP r n).take l)) v := by
      rw [take_snoc hl, hxy, rndF_snoc, dv_eq e2]
    unfold b_X6_round_19
    dsimp only
    rw [if_neg (nI_ge hl (by omega)), chk_in (vp_in_nI (by omega) (by omega)), chk_in (vp_in_nI (by omega) (by omega)), nI_clamp (by omega), o1, o2, e1]
    simp only [Option.bind_some]
    rw [nI_1, hst]
    refine ⟨_, ?_, rfl, RS_step hrs e2⟩
    unfold stepR
    have c0 : v < 0 ↔ v = -1 := by
      rcases e2 with ⟨d, hd, rfl, -⟩ | ⟨rfl, -⟩
      · exact ⟨fun z => absurd z (nI_pos (by omega)), fun z => absurd z (nI_ne_m1 (by omega))⟩
      · exact ⟨fun _ => rfl, fun _ => m1_lt⟩
    have c1 : rndF r n ((linesP r n).take l) < 0 ↔ rndF r n ((linesP r n).take l) = -1 := by
      rcases hrs with h | ⟨m, hm, h⟩
      · rw [h]; exact ⟨fun _ => rfl, fun _ => m1_lt⟩
      · rw [h]; exact ⟨fun z => absurd z (nI_pos (by omega)), fun z => absurd z (nI_ne_m1 (by omega))⟩
    by_cases q1 : v = -1
    · rw [if_pos (c0.mpr q1), if_pos q1]
    · rw [if_neg (fun z => q1 (c0.mp z)), if_neg q1]
      by_cases q2 : rndF r n ((linesP r n).take l) = -1
      · rw [if_pos (c1.mpr q2), if_pos q2]
      · rw [if_neg (fun z => q2 (c1.mp z)), if_neg q2]
        by_cases q3 : rndF r n ((linesP r n).take l) ≤ v + 1
        · rw [if_pos q3, if_pos q3]
        · rw [if_neg q3, if_neg q3]) (by
    rintro x ⟨rfl, -⟩
    unfold b_X6_round_19
    dsimp only
    rw [if_pos (nI_le (Nat.le_refl _) (by omega)), List.take_length]
    exact ⟨_, rfl, rfl⟩) 0 ((-1 : Int32), (0 : Int32)) (by omega) ⟨rfl, Or.inl rfl⟩
  exact he
theorem pure_round {kn ne cK : Nat → Int32} {cF : Nat → Nat → Int32} (ma : Int32) (on ot : Nat → Int32) (inv : Inv kn ne cK cF) (a0 : Int32) : ∃ (v : Int32) (ma' : Int32) (on' ot' : Nat → Int32), s_X5_round cK cF a0 = some v ∧ s_X6_round kn ne ma on ot a0 = some (v, ma', on', ot') := by
  rcases net_or a0 with h | ⟨k, hk, rfl⟩
  · exact ⟨-2, ma, on, ot, by unfold s_X5_round; rw [netAt_no h]; rfl, by unfold s_X6_round; rw [isNet_no h]; rfl⟩
  · obtain ⟨N, r, hi⟩ := id inv
    obtain ⟨hg, b1, b2, b3⟩ := hi k hk
    have hf : (fin5 k).1 = k := fin5_val (by omega)
    obtain ⟨on', ot', l1, l2⟩ := s_layLines hk b1 hg (fun a ha => (b3 a ha).1) ma on ot
    refine ⟨rndF (r k) (N k) (linesP (r k) (N k)), nI (linesP (r k) (N k)).length, on', ot', ?_, ?_⟩
    · unfold s_X5_round
      rw [netAt_yes hk]
      simp only [Option.bind_some, Option.elim_some]
      rw [s_shortestRound (n := N k) (r := r k) (by rw [hf]; exact b2) hg (fun a ha => by rw [hf]; exact (b3 a ha).2)]
      rfl
    · unfold s_X6_round
      rw [isNet_yes hk]
      simp only [Option.bind_some]
      rw [if_neg (show ¬ ((1 : Int32) = 0) by decide), l1]
      simp only [Option.bind_some]
      rw [s_round (ne := ne) hk b1 hg on' ot' l2]
      rfl
theorem op_round (a0 : Int32) : OpI Sim mX5_round mX6_round [vI a0] := by
  rintro wc wm ⟨cK, cF, ga, gi, gs, oK, cT, ra, rb, cR, cP, cM, ea, eb, cW, aO, aC, aQ, kn, ne, fi, se, ma, on, ot, ta, po, ti, nu, mo, wa, nx, oT, cF', bg, ed, sF, qu, qd, tr, rfl, rfl, inv, h1, h2⟩
  obtain ⟨v, ma1, on1, ot1, e1, e2⟩ := pure_round ma on ot inv a0
  exact ⟨v, _, _, c_X5_round (d := 5) e1, c_X6_round (d := 6) e2, _, _, _, _, _, _, _, _, _, _, _, _, _, _, _, _, _, _, _, _, _, _, _, _, _, _, _, _, _, _, _, _, _, _, _, _, _, _, _, _, rfl, rfl, inv, h1, h2⟩
