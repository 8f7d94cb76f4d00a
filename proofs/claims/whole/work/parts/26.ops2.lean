/-! knots -/
theorem isKnot_yes {kn : Nat → Int32} {k n a : Nat} (hk : k < 4) (hn : kn k = nI n) (h10 : n ≤ 10) (ha : a < n) : s_X6_isKnot kn (nI k) (nI a) = some 1 := by
  unfold s_X6_isKnot
  rw [isNet_yes hk]
  simp only [Option.bind_some]
  rw [if_neg (by decide), chk_in (vp_in_nI hk (by omega)), nI_clamp (by omega), hn, show nI n - (1 : Int32) = nI (n - 1) by rw [i1]; exact pk_sub (by omega), in_yes (nI_pos (by omega)) (nI_nlt (by omega) (by omega))]
  rfl
theorem isKnot_no {kn : Nat → Int32} {k n : Nat} {x : Int32} (hk : k < 4) (hn : kn k = nI n) (h1 : 1 ≤ n) (h10 : n ≤ 10) (h : x < 0 ∨ nI n ≤ x) : s_X6_isKnot kn (nI k) x = some 0 := by
  unfold s_X6_isKnot
  rw [isNet_yes hk]
  simp only [Option.bind_some]
  rw [if_neg (by decide), chk_in (vp_in_nI hk (by omega)), nI_clamp (by omega), hn, show nI n - (1 : Int32) = nI (n - 1) by rw [i1]; exact pk_sub (by omega)]
  rcases h with h | h
  · rw [in_lo h]; rfl
  · rw [in_hi (by
      rw [Int32.le_iff_toInt_le, nI_toInt (by omega)] at h
      rw [Int32.lt_iff_toInt_lt, nI_toInt (by omega)]
      omega)]
    rfl
theorem isKnot_nonet {kn : Nat → Int32} {a x : Int32} (h : a < 0 ∨ nI 4 ≤ a) : s_X6_isKnot kn a x = some 0 := by
  unfold s_X6_isKnot
  rw [isNet_no h]
  rfl
theorem hasKnot_yes {cK : Nat → Int32} {p : Fin 5} {n a : Nat} (hn : cK p.1 = nI n) (h10 : n ≤ 10) (ha : a < n) : s_X2_hasKnot cK p (nI a) = some 1 := by
  unfold s_X2_hasKnot
  rw [if_neg (nI_pos (by omega)), hn, if_neg (nI_ge ha (by omega))]
theorem hasKnot_no {cK : Nat → Int32} {p : Fin 5} {n : Nat} {x : Int32} (hn : cK p.1 = nI n) (h : x < 0 ∨ nI n ≤ x) : s_X2_hasKnot cK p x = some 0 := by
  unfold s_X2_hasKnot
  by_cases h0 : x < 0
  · rw [if_pos h0]
  · rw [if_neg h0, hn, if_pos (h.resolve_left h0)]
theorem knot_or (x : Int32) {n : Nat} (hn : n ≤ 10) : (x < 0 ∨ nI n ≤ x) ∨ ∃ a, a < n ∧ x = nI a := by
  rcases pk_ix x (n := n) (by omega) with h | h | h
  · exact Or.inl (Or.inl h)
  · exact Or.inl (Or.inr h)
  · exact Or.inr h
theorem net_or (x : Int32) : (x < 0 ∨ nI 4 ≤ x) ∨ ∃ k, k < 4 ∧ x = nI k := knot_or x (n := 4) (by omega)
/-! near -/
theorem pure_near {kn ne cK : Nat → Int32} {cF : Nat → Nat → Int32} (inv : Inv kn ne cK cF) (a0 a1 : Int32) : ∃ v : Int32, s_X5_near cK cF a0 a1 = some v ∧ s_X6_near kn ne a0 a1 = some v := by
  rcases net_or a0 with h | ⟨k, hk, rfl⟩
  · refine ⟨-2, ?_, ?_⟩
    · unfold s_X5_near; rw [netAt_no h]; rfl
    · unfold s_X6_near; rw [isKnot_nonet h]; rfl
  · obtain ⟨N, r, hi⟩ := inv
    obtain ⟨hg, h1, h2, h3⟩ := hi k hk
    have hf : (fin5 k).1 = k := fin5_val (by omega)
    rcases knot_or a1 hg.2.1 with h | ⟨a, ha, rfl⟩
    · refine ⟨-2, ?_, ?_⟩
      · unfold s_X5_near; rw [netAt_yes hk]
        simp only [Option.bind_some, Option.elim_some]
        rw [hasKnot_no (by rw [hf]; exact h2) h]; rfl
      · unfold s_X6_near; rw [isKnot_no hk h1 hg.1 hg.2.1 h]; rfl
    · have h10 := hg.2.1
      refine ⟨nI (r k a), ?_, ?_⟩
      · unfold s_X5_near; rw [netAt_yes hk]
        simp only [Option.bind_some, Option.elim_some]
        rw [hasKnot_yes (by rw [hf]; exact h2) h10 ha]
        simp only [Option.bind_some]
        rw [if_neg (by decide), chk_in (vp_in_nI (by omega) (by omega)), nI_clamp (by omega), hf, (h3 a (by omega)).2]
      · unfold s_X6_near; rw [isKnot_yes hk h1 h10 ha]
        simp only [Option.bind_some]
        rw [if_neg (by decide), ix10, chk_in (vp_in_nI (by omega) (by omega)), nI_clamp (by omega), (h3 a (by omega)).1]
theorem op_near (a0 a1 : Int32) : OpI Sim mX5_near mX6_near [vI a0, vI a1] := by
  rintro wc wm ⟨cK, cF, ga, gi, gs, oK, cT, ra, rb, cR, cP, cM, ea, eb, cW, aO, aC, aQ, kn, ne, fi, se, ma, on, ot, ta, po, ti, nu, mo, wa, nx, oT, cF', bg, ed, sF, qu, qd, tr, rfl, rfl, inv, h1, h2⟩
  obtain ⟨v, e1, e2⟩ := pure_near inv a0 a1
  exact ⟨v, _, _, c_X5_near (d := 7) e1, c_X6_near (d := 5) e2, _, _, _, _, _, _, _, _, _, _, _, _, _, _, _, _, _, _, _, _, _, _, _, _, _, _, _, _, _, _, _, _, _, _, _, _, _, _, _, _, rfl, rfl, inv, h1, h2⟩
/-! digest -/
def dgst (r : Nat → Nat) (h : Int64) : Nat → Int64
  | 0 => h
  | i + 1 => 31 * dgst r h i + (nI (r i)).toInt64
theorem dg_model {kn ne : Nat → Int32} {k n : Nat} {r : Nat → Nat} (h : Int64) (hk : k < 4) (hn : kn k = nI n) (h10 : n ≤ 10) (h3 : ∀ a, a < 10 → ne (10 * k + a) = nI (r a)) : loop (b_X6_digest_28 kn ne (nI k)) (h, (0 : Int32)) = some (dgst r h n) := by
  refine loop_for (f := b_X6_digest_28 kn ne (nI k)) (fun i => (dgst r h i, nI i)) n (fun i hi => ?_) ?_ 0 (by omega)
  · unfold b_X6_digest_28 lt'
    dsimp only
    rw [chk_in (vp_in_nI hk (by omega)), nI_clamp (by omega), hn, if_neg (nI_ge hi (by omega)), ix10, chk_in (vp_in_nI (by omega) (by omega)), nI_clamp (by omega), h3 i (by omega), nI_1]
    rfl
  · unfold b_X6_digest_28 lt'
    dsimp only
    rw [chk_in (vp_in_nI hk (by omega)), nI_clamp (by omega), hn, if_pos (nI_le (Nat.le_refl _) (by omega))]
theorem dg_class {cK : Nat → Int32} {cF : Nat → Nat → Int32} {p : Fin 5} {n : Nat} {r : Nat → Nat} (h : Int64) (hn : cK p.1 = nI n) (h10 : n ≤ 10) (h3 : ∀ a, a < 10 → cF p.1 a = nI (r a)) : loop (b_X2_addTo_15 cK cF p) (h, (0 : Int32)) = some (dgst r h n) := by
  refine loop_for (f := b_X2_addTo_15 cK cF p) (fun i => (dgst r h i, nI i)) n (fun i hi => ?_) ?_ 0 (by omega)
  · unfold b_X2_addTo_15
    dsimp only
    rw [hn, if_neg (nI_ge hi (by omega)), chk_in (vp_in_nI (by omega) (by omega)), nI_clamp (by omega), h3 i (by omega), nI_1]
    rfl
  · unfold b_X2_addTo_15
    dsimp only
    rw [hn, if_pos (nI_le (Nat.le_refl _) (by omega))]
def dgs (N : Nat → Nat) (r : Nat → Nat → Nat) : Nat → Int64
  | 0 => 241
  | k + 1 => dgst (r k) (31 * dgs N r k + (nI (N k)).toInt64) (N k)
theorem pure_digest {kn ne cK : Nat → Int32} {cF : Nat → Nat → Int32} (inv : Inv kn ne cK cF) : ∃ v : Int64, s_X5_digest cK cF = some v ∧ s_X6_digest kn ne = some v := by
  obtain ⟨N, r, hi⟩ := inv
  refine ⟨dgs N r 4, ?_, ?_⟩
  · suffices h : loop (b_X5_digest_6 cK cF) ((241 : Int64), (0 : Int32)) = some (dgs N r 4) by unfold s_X5_digest; rw [h]; rfl
    refine loop_for (f := b_X5_digest_6 cK cF) (fun i => (dgs N r i, nI i)) 4 (r := dgs N r 4) (fun k hk => ?_) ?_ 0 (by omega)
    · obtain ⟨hg, h1, h2, h3⟩ := hi k hk
      unfold b_X5_digest_6 s_X2_addTo
      dsimp only
      rw [if_neg (by rw [show (4 : Int32) = nI 4 by decide]; exact nI_ge hk (by omega)), chk_in (vp_in_nI hk (by omega)), nI_clamp (by omega), fin5_val (by omega), dg_class (n := N k) (r := r k) _ (by rw [fin5_val (by omega)]; exact h2) hg.2.1 (fun a ha => by rw [fin5_val (by omega)]; exact (h3 a ha).2), h2, nI_1]
      rfl
    · unfold b_X5_digest_6
      dsimp only
      rw [if_pos (by decide)]
  · suffices h : loop (b_X6_digest_6 kn ne) ((241 : Int64), (0 : Int32)) = some (dgs N r 4) by unfold s_X6_digest; rw [h]; rfl
    refine loop_for (f := b_X6_digest_6 kn ne) (fun i => (dgs N r i, nI i)) 4 (r := dgs N r 4) (fun k hk => ?_) ?_ 0 (by omega)
    · obtain ⟨hg, h1, h2, h3⟩ := hi k hk
      unfold b_X6_digest_6
      dsimp only
      rw [if_neg (by rw [show (4 : Int32) = nI 4 by decide]; exact nI_ge hk (by omega)), chk_in (vp_in_nI hk (by omega)), nI_clamp (by omega), dg_model (n := N k) (r := r k) _ hk h1 hg.2.1 (fun a ha => (h3 a ha).1), h1, nI_1]
      rfl
    · unfold b_X6_digest_6
      dsimp only
      rw [if_pos (by decide)]
theorem op_digest : OpL Sim mX5_digest mX6_digest [] := by
  rintro wc wm ⟨cK, cF, ga, gi, gs, oK, cT, ra, rb, cR, cP, cM, ea, eb, cW, aO, aC, aQ, kn, ne, fi, se, ma, on, ot, ta, po, ti, nu, mo, wa, nx, oT, cF', bg, ed, sF, qu, qd, tr, rfl, rfl, inv, h1, h2⟩
  obtain ⟨v, e1, e2⟩ := pure_digest inv
  exact ⟨v, _, _, c_X5_digest (d := 7) e1, c_X6_digest (d := 8) e2, _, _, _, _, _, _, _, _, _, _, _, _, _, _, _, _, _, _, _, _, _, _, _, _, _, _, _, _, _, _, _, _, _, _, _, _, _, _, _, _, rfl, rfl, inv, h1, h2⟩
