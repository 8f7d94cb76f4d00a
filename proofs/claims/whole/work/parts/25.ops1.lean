/-! net -/
def clr (ne : Nat → Int32) (k i : Nat) : Nat → Int32 := fun j => if 10 * k ≤ j ∧ j < 10 * k + i then 0 else ne j
theorem clr_0 (ne : Nat → Int32) (k : Nat) : clr ne k 0 = ne := by
  funext j
  unfold clr
  rw [if_neg (by omega)]
theorem clr_s (ne : Nat → Int32) (k i : Nat) : upd (clr ne k i) (10 * k + i) 0 = clr ne k (i + 1) := by
  funext j
  unfold upd clr
  by_cases h : j = 10 * k + i
  · rw [if_pos h, if_pos (by omega)]
  · rw [if_neg h]
    by_cases h2 : 10 * k ≤ j ∧ j < 10 * k + i
    · rw [if_pos h2, if_pos (by omega)]
    · rw [if_neg h2, if_neg (by omega)]
theorem begin_loop {ne : Nat → Int32} {k : Nat} (hk : k < 4) : loop (b_X6_begin_9 (nI k)) ((0 : Int32), ne) = some (clr ne k 10) := by
  have h := loop_for (f := b_X6_begin_9 (nI k)) (fun i => (nI i, clr ne k i)) 10 (r := clr ne k 10) (fun i hi => by
    unfold b_X6_begin_9
    dsimp only
    rw [if_neg (by rw [i10]; exact nI_ge hi (by omega)), ix10, chk_in (vp_in_nI (by omega) (by omega)), nI_clamp (by omega), nI_1, clr_s]) (by
    unfold b_X6_begin_9
    dsimp only
    rw [if_pos (by rw [i10]; exact nI_le (Nat.le_refl _) (by omega))]) 0 (by omega)
  rw [clr_0] at h
  exact h
theorem s_begin {kn ne : Nat → Int32} {k : Nat} {x : Int32} (hk : k < 4) : s_X6_begin kn ne (nI k) x = some (upd kn k x, clr ne k 10) := by
  unfold s_X6_begin
  rw [chk_in (vp_in_nI hk (by omega)), begin_loop hk, nI_clamp (by omega)]
  rfl
theorem inv_net {kn ne cK : Nat → Int32} {cF : Nat → Nat → Int32} (h : Inv kn ne cK cF) {k n : Nat} {r1 : Nat → Nat} {ne' : Nat → Int32} {f' : Nat → Int32} (hk : k < 4) (hg : Gr n r1) (h1 : ∀ a, a < 10 → ne' (10 * k + a) = nI (r1 a) ∧ f' a = nI (r1 a)) (h2 : ∀ j, ¬ (10 * k ≤ j ∧ j < 10 * k + 10) → ne' j = ne j) : Inv (upd kn k (nI n)) ne' (va_up cK k (nI n)) (va_up cF k f') := by
  obtain ⟨N, r, h⟩ := h
  refine ⟨fun i => if i = k then n else N i, fun i => if i = k then r1 else r i, fun i hi => ?_⟩
  by_cases e : i = k
  · subst e
    simp only [if_true, upd, va_up]
    exact ⟨hg, trivial, trivial, h1⟩
  · obtain ⟨a1, a2, a3, a4⟩ := h i hi
    simp only [if_neg e, upd, va_up]
    refine ⟨a1, a2, a3, fun a ha => ⟨?_, (a4 a ha).2⟩⟩
    rw [h2 _ (by omega)]
    exact (a4 a ha).1
theorem Gr_zero {n : Nat} (h1 : 1 ≤ n) (h2 : n ≤ 10) : Gr n (fun _ => 0) := ⟨h1, h2, fun _ _ => Nat.two_pow_pos n, fun _ _ => rfl, fun _ _ => by rw [Nat.zero_testBit, Nat.zero_testBit], fun _ => Nat.zero_testBit _⟩
theorem pure_net {kn ne cK : Nat → Int32} {cF : Nat → Nat → Int32} (inv : Inv kn ne cK cF) (a0 a1 : Int32) : ∃ (v : Int32) (cK' : Nat → Int32) (cF' : Nat → Nat → Int32) (kn' ne' : Nat → Int32), s_X5_net cK cF a0 a1 = some (v, cK', cF') ∧ s_X6_net kn ne a0 a1 = some (v, kn', ne') ∧ Inv kn' ne' cK' cF' := by
  have hbad : (a0 < 0 ∨ nI 4 ≤ a0) → ∃ (v : Int32) (cK' : Nat → Int32) (cF' : Nat → Nat → Int32) (kn' ne' : Nat → Int32), s_X5_net cK cF a0 a1 = some (v, cK', cF') ∧ s_X6_net kn ne a0 a1 = some (v, kn', ne') ∧ Inv kn' ne' cK' cF' := fun h => ⟨-2, cK, cF, kn, ne, by unfold s_X5_net; rw [netAt_no h]; rfl, by unfold s_X6_net; rw [isNet_no h]; rfl, inv⟩
  rcases pk_ix a0 (n := 4) (by omega) with h | h | ⟨k, hk, rfl⟩
  · exact hbad (Or.inl h)
  · exact hbad (Or.inr h)
  · by_cases h1 : a1 < 1
    · refine ⟨-2, cK, cF, kn, ne, ?_, ?_, inv⟩
      · unfold s_X5_net s_X5_isKnotCount
        rw [netAt_yes hk, if_pos h1]; rfl
      · unfold s_X6_net
        rw [isNet_yes hk, in_lo h1]; rfl
    · by_cases h2 : 10 < a1
      · refine ⟨-2, cK, cF, kn, ne, ?_, ?_, inv⟩
        · unfold s_X5_net s_X5_isKnotCount
          rw [netAt_yes hk, if_neg h1, if_pos h2]; rfl
        · unfold s_X6_net
          rw [isNet_yes hk, in_hi h2]; rfl
      · obtain ⟨n, hn, rfl⟩ : ∃ n, n < 11 ∧ a1 = nI n := by
          rcases pk_ix a1 (n := 11) (by omega) with h | h | h
          · refine absurd ?_ h1
            rw [Int32.lt_iff_toInt_lt] at h ⊢
            have e : (1 : Int32).toInt = 1 := by decide
            have e0 : (0 : Int32).toInt = 0 := by decide
            omega
          · refine absurd ?_ h2
            rw [Int32.le_iff_toInt_le] at h
            rw [Int32.lt_iff_toInt_lt]
            have e : (nI 11).toInt = 11 := by decide
            have e0 : (10 : Int32).toInt = 10 := by decide
            omega
          · exact h
        have hn1 : 1 ≤ n := by
          rcases Nat.eq_zero_or_pos n with q | q
          · subst q; exact absurd (by decide) h1
          · exact q
        refine ⟨1, _, _, _, _, ?_, ?_, inv_net (r1 := fun _ => 0) (n := n) inv hk (Gr_zero hn1 (by omega)) (ne' := clr ne k 10) (f' := fillI 10 (cF k) 0) ?_ ?_⟩
        · unfold s_X5_net s_X5_isKnotCount
          rw [netAt_yes hk, if_neg h1, if_neg h2]
          show some ((1 : Int32), va_up cK (fin5 k).1 (nI n), va_up cF (fin5 k).1 (fillI 10 (cF (fin5 k).1) 0)) = _
          rw [fin5_val (by omega)]
        · unfold s_X6_net
          rw [isNet_yes hk, in_yes h1 h2, s_begin hk]
          rfl
        · intro a ha
          refine ⟨?_, ?_⟩
          · unfold clr
            rw [if_pos (by omega)]; rfl
          · unfold fillI
            rw [if_pos ha]; rfl
        · intro j hj
          unfold clr
          rw [if_neg hj]
theorem op_net (a0 a1 : Int32) : OpI Sim mX5_net mX6_net [vI a0, vI a1] := by
  rintro wc wm ⟨cK, cF, ga, gi, gs, oK, cT, ra, rb, cR, cP, cM, ea, eb, cW, aO, aC, aQ, kn, ne, fi, se, ma, on, ot, ta, po, ti, nu, mo, wa, nx, oT, cF', bg, ed, sF, qu, qd, tr, rfl, rfl, inv, h1, h2⟩
  obtain ⟨v, cK1, cF1, kn1, ne1, e1, e2, inv1⟩ := pure_net inv a0 a1
  exact ⟨v, _, _, c_X5_net (d := 6) e1, c_X6_net (d := 6) e2, _, _, _, _, _, _, _, _, _, _, _, _, _, _, _, _, _, _, _, _, _, _, _, _, _, _, _, _, _, _, _, _, _, _, _, _, _, _, _, _, rfl, rfl, inv1, h1, h2⟩
