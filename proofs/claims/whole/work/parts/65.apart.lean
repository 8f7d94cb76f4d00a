/-! one way more -/
def hw (g : Nat → Nat) (m i : Nat) : Nat := if i = 0 then 21 else if i ≤ m + 1 then nd (g (i - 1)) else 20
theorem hw_0 (g : Nat → Nat) (m : Nat) : hw g m 0 = 21 := rfl
theorem hw_s (g : Nat → Nat) {m i : Nat} (h : i ≤ m) : hw g m (i + 1) = nd (g i) := by
  unfold hw
  rw [if_neg (by omega), if_pos (by omega), show i + 1 - 1 = i by omega]
theorem hw_m (g : Nat → Nat) (m : Nat) : hw g m (m + 2) = 20 := by
  unfold hw
  rw [if_neg (by omega), if_neg (by omega)]
theorem hw_way {n m v : Nat} {O : Nat → Nat → Bool} {sF : Nat → Int32} {g : Nat → Nat} (hn : n ≤ 10) (hc : Cn n O sF g m) (h0 : g 0 = 2 * v + 1) (ho : O (10 + v) 21 = true) : Way O (hw g m) (m + 2) := by
  obtain ⟨c1, c2, c3, c4, c5, c6⟩ := hc
  have hlt : ∀ i, i ≤ m → nd (g i) < 20 := fun i hi => nd_lt (by have := c2 i hi; omega)
  have hval : ∀ i, i ≤ m + 2 → (i = 0 ∧ hw g m i = 21) ∨ (i = m + 2 ∧ hw g m i = 20) ∨ ∃ j, j ≤ m ∧ i = j + 1 ∧ hw g m i = nd (g j) := by
    intro i hi
    by_cases q : i = 0
    · exact Or.inl ⟨q, by rw [q]; rfl⟩
    · by_cases q2 : i = m + 2
      · exact Or.inr (Or.inl ⟨q2, by rw [q2]; exact hw_m g m⟩)
      · obtain ⟨j, rfl⟩ : ∃ j, i = j + 1 := ⟨i - 1, by omega⟩
        exact Or.inr (Or.inr ⟨j, by omega, rfl, hw_s g (by omega)⟩)
  refine ⟨fun i hi => ?_, fun i j hi hj he => ?_, fun i hi => ?_⟩
  · rcases hval i hi with ⟨-, e⟩ | ⟨-, e⟩ | ⟨j, e1, -, e⟩
    · rw [e]; omega
    · rw [e]; omega
    · rw [e]; have := hlt j e1; omega
  · rcases hval i hi with ⟨a1, e⟩ | ⟨a1, e⟩ | ⟨a, a1, a2, e⟩ <;> rcases hval j hj with ⟨b1, e'⟩ | ⟨b1, e'⟩ | ⟨b, b1, b2, e'⟩ <;> rw [e, e'] at he
    · omega
    · omega
    · have := hlt b b1; omega
    · omega
    · omega
    · have := hlt b b1; omega
    · have := hlt a a1; omega
    · have := hlt a a1; omega
    · have g1 := c2 a a1
      have g2 := c2 b b1
      have := nd_inj (by omega) (by omega) he
      have := c3 a b a1 b1 this
      omega
  · by_cases q : i = 0
    · rw [q, hw_0, hw_s g (Nat.zero_le m), h0, nd_l]; exact ho
    · obtain ⟨j, rfl⟩ : ∃ j, i = j + 1 := ⟨i - 1, by omega⟩
      by_cases q2 : j = m
      · rw [q2, hw_m, hw_s g (Nat.le_refl m)]; exact c6
      · rw [hw_s g (show j ≤ m by omega), hw_s g (show j + 1 ≤ m by omega)]
        exact (c4 j (by omega)).2
theorem hw_e {n m i j : Nat} {O : Nat → Nat → Bool} {sF : Nat → Int32} {g : Nat → Nat} (hn : n ≤ 10) (hc : Cn n O sF g m) (hi : i ≤ m + 2) (hj : j < 10) (h : j = hw g m i) : ∃ a, a ≤ m ∧ i = a + 1 ∧ g a = 2 * j := by
  by_cases q : i = 0
  · rw [q, hw_0] at h; omega
  · by_cases q2 : i = m + 2
    · rw [q2, hw_m] at h; omega
    · obtain ⟨a, rfl⟩ : ∃ a, i = a + 1 := ⟨i - 1, by omega⟩
      rw [hw_s g (by omega)] at h
      have := hc.2.1 a (by omega)
      exact ⟨a, by omega, rfl, nd_e' (by omega) hj h.symm⟩
theorem hw_l {n m i j : Nat} {O : Nat → Nat → Bool} {sF : Nat → Int32} {g : Nat → Nat} (hn : n ≤ 10) (hc : Cn n O sF g m) (hi : i ≤ m + 2) (hj : j < 10) (h : 10 + j = hw g m i) : ∃ a, a ≤ m ∧ i = a + 1 ∧ g a = 2 * j + 1 := by
  by_cases q : i = 0
  · rw [q, hw_0] at h; omega
  · by_cases q2 : i = m + 2
    · rw [q2, hw_m] at h; omega
    · obtain ⟨a, rfl⟩ : ∃ a, i = a + 1 := ⟨i - 1, by omega⟩
      rw [hw_s g (by omega)] at h
      have := hc.2.1 a (by omega)
      exact ⟨a, by omega, rfl, nd_l' (by omega) hj h.symm⟩
theorem lay_rm {r : Nat → Nat} {n fr to k m v bg ed : Nat} {O : Nat → Nat → Bool} {sF oT cF oT1 cF1 oT2 cF2 : Nat → Int32} {g : Nat → Nat} (h : FS (Bn r n fr to) O k) (hg : Gr n r) (hf : fr < 2 ^ n) (hR : RM n O oT cF bg ed) (hc : Cn n O sF g m) (hv : v < n) (h0 : g 0 = 2 * v + 1) (ho : O (10 + v) 21 = true) (a1 : ∀ u w, Adv g m 0 u w → oT2 u = nI w ∧ cF2 w = nI u) (a2 : ∀ u, (∀ w, ¬ Adv g m 0 u w) → oT2 u = oT1 u) (a3 : ∀ w, (∀ u, ¬ Adv g m 0 u w) → cF2 w = cF1 w) (b1 : ∀ u v, Rmv g m 0 u v → oT1 u = -1 ∧ cF1 v = -1) (b2 : ∀ u, (∀ v, ¬ Rmv g m 0 u v) → oT1 u = oT u) (b3 : ∀ v, (∀ u, ¬ Rmv g m 0 u v) → cF1 v = cF v) : FS (Bn r n fr to) (aug O (hw g m) (m + 2)) (k + 1) ∧ RM n (aug O (hw g m) (m + 2)) oT2 cF2 (bg ||| 2 ^ (g m / 2)) (ed ||| 2 ^ v) := by
  have hn := hg.2.1
  have hW := hw_way hn hc h0 ho
  have hF' := FS_aug h hW (hw_0 g m) (hw_m g m)
  obtain ⟨c1, c2, c3, c4, c5, c6⟩ := id hc
  obtain ⟨r1, r2, r3, r4, r5⟩ := hR
  -- steps of the way
  have stepO : ∀ i, 1 ≤ i → i ≤ m → O (nd (g i)) (nd (g (i - 1))) = true := by
    intro i hi1 hi2
    have := (c4 (i - 1) (by omega)).2
    rw [show i - 1 + 1 = i by omega] at this
    exact this
  have AdT : ∀ u w, Adv g m 0 u w → aug O (hw g m) (m + 2) w (10 + u) = true := by
    rintro u w ⟨i, d1, d2, d3, d4, d5⟩
    have := aug_t hW (i := i) (m + 2) (by omega) (Nat.le_refl _)
    rw [hw_s g d2, d3, nd_l] at this
    obtain ⟨i', rfl⟩ : ∃ i', i = i' + 1 := ⟨i - 1, by omega⟩
    rw [show i' + 1 - 1 = i' by omega] at d4
    rw [hw_s g (show i' ≤ m by omega), d4, nd_e] at this
    exact this
  have RmF : ∀ u w, Rmv g m 0 u w → aug O (hw g m) (m + 2) w (10 + u) = false ∧ O w (10 + u) = true := by
    rintro u w ⟨i, d1, d2, d3, d4, d5⟩
    have := aug_f hW (i := i) (m + 2) (by omega) (Nat.le_refl _)
    have h6 := stepO i (by omega) d2
    rw [hw_s g d2, d3, nd_e] at this
    rw [d3, nd_e, d4, nd_l] at h6
    obtain ⟨i', rfl⟩ : ∃ i', i = i' + 1 := ⟨i - 1, by omega⟩
    rw [show i' + 1 - 1 = i' by omega] at d4
    rw [hw_s g (show i' ≤ m by omega), d4, nd_l] at this
    exact ⟨this, h6⟩
  have same : ∀ u w, u < n → w < n → u ≠ w → ¬ Adv g m 0 u w → ¬ Rmv g m 0 u w → aug O (hw g m) (m + 2) w (10 + u) = O w (10 + u) := by
    intro u w hu hw' huw n1 n2
    refine aug_no _ (fun i hi z => ?_) (fun i hi z => ?_)
    · obtain ⟨a, e1, e2, e3⟩ := hw_e hn hc (by omega) (by omega) z.1
      obtain ⟨b, e4, e5, e6⟩ := hw_l hn hc (by omega) (by omega) z.2
      exact n2 ⟨a, by omega, e1, e3, by rw [show a - 1 = b by omega]; exact e6, huw⟩
    · obtain ⟨a, e1, e2, e3⟩ := hw_e hn hc (by omega) (by omega) z.1
      obtain ⟨b, e4, e5, e6⟩ := hw_l hn hc (by omega) (by omega) z.2
      exact n1 ⟨b, by omega, e4, e6, by rw [show b - 1 = a by omega]; exact e3, huw⟩
  have AdS : ∀ u w, Adv g m 0 u w → u < n ∧ w < n ∧ u ≠ w := by
    rintro u w ⟨i, d1, d2, d3, d4, d5⟩
    have e1 := c2 i d2
    have e2 := c2 (i - 1) (by omega)
    exact ⟨by omega, by omega, d5⟩
  have RmS : ∀ u w, Rmv g m 0 u w → u < n ∧ w < n ∧ u ≠ w := by
    rintro u w ⟨i, d1, d2, d3, d4, d5⟩
    have e1 := c2 i d2
    have e2 := c2 (i - 1) (by omega)
    exact ⟨by omega, by omega, d5⟩
  -- where the way begins
  have hgm := c2 m (Nat.le_refl m)
  have hnm : nd (g m) < n := out_S h hf (by have := nd_lt (show g m < 20 by omega); omega) c6
  have hgm2 : g m = 2 * nd (g m) := nd_e' (by omega) (by omega) rfl
  have hgd : g m / 2 = nd (g m) := by omega
  refine ⟨hF', Nat.or_lt_two_pow r1 (two_lt (by omega)), Nat.or_lt_two_pow r2 (two_lt hv), fun i hi => ⟨?_, ?_⟩, fun i hi => ⟨?_, ?_⟩, fun i j hi hj hji => ⟨⟨fun he => ?_, fun he => ?_⟩, ⟨fun he => ?_, fun he => ?_⟩⟩⟩
  · rw [Nat.testBit_or, hgd, Nat.testBit_two_pow]
    by_cases q : nd (g m) = i
    · have := aug_t hW (i := m + 1) (m + 2) (by omega) (Nat.le_refl _)
      rw [hw_s g (Nat.le_refl m), hw_m, q] at this
      rw [this, decide_eq_true q, Bool.or_true]
    · rw [decide_eq_false q, Bool.or_false, (r3 i hi).1]
      refine (aug_no _ (fun b hb z => ?_) (fun b hb z => ?_)).symm
      · have := hW.2.1 b (m + 2) (by omega) (Nat.le_refl _) (by rw [hw_m]; exact z.2.symm)
        omega
      · have := hW.2.1 (b + 1) (m + 2) (by omega) (Nat.le_refl _) (by rw [hw_m]; exact z.2.symm)
        have e : b = m + 1 := by omega
        rw [e, hw_s g (Nat.le_refl m)] at z
        exact q z.1.symm
  · rw [Nat.testBit_or, Nat.testBit_two_pow]
    by_cases q : v = i
    · have := aug_t hW (i := 0) (m + 2) (by omega) (Nat.le_refl _)
      rw [hw_0, hw_s g (Nat.zero_le m), h0, nd_l, q] at this
      rw [this, decide_eq_true q, Bool.or_true]
    · rw [decide_eq_false q, Bool.or_false, (r3 i hi).2]
      refine (aug_no _ (fun b hb z => ?_) (fun b hb z => ?_)).symm
      · have := hW.2.1 (b + 1) 0 (by omega) (by omega) (by rw [hw_0]; exact z.1.symm)
        omega
      · have := hW.2.1 b 0 (by omega) (by omega) (by rw [hw_0]; exact z.1.symm)
        rw [this, hw_s g (Nat.zero_le m), h0, nd_l] at z
        omega
  · by_cases q : ∃ w, Adv g m 0 i w
    · obtain ⟨w, q⟩ := q
      obtain ⟨s1, s2, s3⟩ := AdS i w q
      exact Or.inr ⟨w, s2, fun z => s3 z.symm, (a1 i w q).1⟩
    · rw [a2 i (fun w z => q ⟨w, z⟩)]
      by_cases q2 : ∃ v', Rmv g m 0 i v'
      · obtain ⟨v', q2⟩ := q2
        exact Or.inl (b1 i v' q2).1
      · rw [b2 i (fun w z => q2 ⟨w, z⟩)]
        exact (r4 i hi).1
  · by_cases q : ∃ u, Adv g m 0 u i
    · obtain ⟨u, q⟩ := q
      obtain ⟨s1, s2, s3⟩ := AdS u i q
      exact Or.inr ⟨u, s1, s3, (a1 u i q).2⟩
    · rw [a3 i (fun w z => q ⟨w, z⟩)]
      by_cases q2 : ∃ u, Rmv g m 0 u i
      · obtain ⟨u, q2⟩ := q2
        exact Or.inl (b1 u i q2).2
      · rw [b3 i (fun w z => q2 ⟨w, z⟩)]
        exact (r4 i hi).2
  · by_cases q : ∃ w, Adv g m 0 i w
    · obtain ⟨w, q⟩ := q
      obtain ⟨s1, s2, s3⟩ := AdS i w q
      rw [(a1 i w q).1, nI_eq (by omega) (by omega)] at he
      rw [← he]; exact AdT i w q
    · rw [a2 i (fun w z => q ⟨w, z⟩)] at he
      by_cases q2 : ∃ v', Rmv g m 0 i v'
      · obtain ⟨v', q2⟩ := q2
        rw [(b1 i v' q2).1] at he
        exact absurd he.symm (nI_ne_m1 (by omega))
      · rw [b2 i (fun w z => q2 ⟨w, z⟩)] at he
        rw [same i j hi hj (fun z => hji z.symm) (fun z => q ⟨j, z⟩) (fun z => q2 ⟨j, z⟩)]
        exact ((r5 i j hi hj hji).1).mp he
  · by_cases q : Adv g m 0 i j
    · exact (a1 i j q).1
    · by_cases q2 : Rmv g m 0 i j
      · rw [(RmF i j q2).1] at he; exact absurd he (by decide)
      · have hO := he
        rw [same i j hi hj (fun z => hji z.symm) q q2] at hO
        have hno : ∀ w, ¬ Adv g m 0 i w := by
          intro w z
          obtain ⟨s1, s2, s3⟩ := AdS i w z
          have := in_l hF' hn hi w j (by omega) (by omega) (AdT i w z) he
          rw [this] at z; exact q z
        have hno2 : ∀ v', ¬ Rmv g m 0 i v' := by
          intro v' z
          obtain ⟨s1, s2, s3⟩ := RmS i v' z
          have := in_l h hn hi v' j (by omega) (by omega) (RmF i v' z).2 hO
          rw [this] at z; exact q2 z
        rw [a2 i hno, b2 i hno2]
        exact ((r5 i j hi hj hji).1).mpr hO
  · by_cases q : ∃ u, Adv g m 0 u j
    · obtain ⟨u, q⟩ := q
      obtain ⟨s1, s2, s3⟩ := AdS u j q
      rw [(a1 u j q).2, nI_eq (by omega) (by omega)] at he
      rw [← he]; exact AdT u j q
    · rw [a3 j (fun w z => q ⟨w, z⟩)] at he
      by_cases q2 : ∃ u, Rmv g m 0 u j
      · obtain ⟨u, q2⟩ := q2
        rw [(b1 u j q2).2] at he
        exact absurd he.symm (nI_ne_m1 (by omega))
      · rw [b3 j (fun w z => q2 ⟨w, z⟩)] at he
        rw [same i j hi hj (fun z => hji z.symm) (fun z => q ⟨i, z⟩) (fun z => q2 ⟨i, z⟩)]
        exact ((r5 i j hi hj hji).2).mp he
  · by_cases q : Adv g m 0 i j
    · exact (a1 i j q).2
    · by_cases q2 : Rmv g m 0 i j
      · rw [(RmF i j q2).1] at he; exact absurd he (by decide)
      · have hO := he
        rw [same i j hi hj (fun z => hji z.symm) q q2] at hO
        have hno : ∀ u, ¬ Adv g m 0 u j := by
          intro u z
          obtain ⟨s1, s2, s3⟩ := AdS u j z
          have := (out_e hF' hn hj).2 (10 + u) (10 + i) (by omega) (by omega) (AdT u j z) he
          have e : u = i := by omega
          rw [e] at z; exact q z
        have hno2 : ∀ u, ¬ Rmv g m 0 u j := by
          intro u z
          obtain ⟨s1, s2, s3⟩ := RmS u j z
          have := (out_e h hn hj).2 (10 + u) (10 + i) (by omega) (by omega) (RmF u j z).2 hO
          have e : u = i := by omega
          rw [e] at z; exact q2 z
        rw [a3 j hno, b3 j hno2]
        exact ((r5 i j hi hj hji).2).mpr hO
theorem s_lay {r : Nat → Nat} {n fr to k v bg ed w nx seen : Nat} {O : Nat → Nat → Bool} {sF qu oT cF : Nat → Int32} {Q : Nat → Nat} (h : FS (Bn r n fr to) O k) (hg : Gr n r) (hf : fr < 2 ^ n) (hR : RM n O oT cF bg ed) (hI : RI n O Q w nx sF qu seen) (hv : v < n) (hnx : nx < w) (hQ : Q nx = 2 * v + 1) (ho : O (10 + v) 21 = true) (tr : Nat → Int32) : ∃ oT' cF' bg' ed' tr' O', s_X6_lay oT cF (nI bg) (nI ed) sF tr (nI (2 * v + 1)) = some (oT', cF', nI bg', nI ed', tr') ∧ FS (Bn r n fr to) O' (k + 1) ∧ RM n O' oT' cF' bg' ed' := by
  have hn := hg.2.1
  have hw20 : w ≤ 20 := by
    have g1 := hI.2.2.2.2.2.1
    have g2 := popA_le seen 20
    omega
  obtain ⟨m, g, d1, d2, d3, d4, d5, d6, d7⟩ := cn_ex hI nx hnx
  have hc : Cn n O sF g m := ⟨by omega, fun i hi => by
    obtain ⟨k', e1, e2⟩ := d3 i hi
    rw [e2]; exact (hI.1 k' (by omega)).1, d4, d5, d6, d7⟩
  have h0 : g 0 = 2 * v + 1 := by rw [d2, hQ]
  have hgm := hc.2.1 m (Nat.le_refl m)
  obtain ⟨tr', t1, t2⟩ := lay_tr hn hc tr
  obtain ⟨e1, f1, b1, b2, b3⟩ := lay_off (oT := oT) (cF := cF) h hg hc t2
  obtain ⟨e2, f2, a1, a2, a3⟩ := lay_on (oT := e1.1) (cF := e1.2) h hg hc t2
  obtain ⟨k1, k2⟩ := lay_rm h hg hf hR hc hv h0 ho a1 a2 a3 b1 b2 b3
  refine ⟨e2.1, e2.2, bg ||| 2 ^ (g m / 2), ed ||| 2 ^ v, tr', _, ?_, k1, k2⟩
  unfold s_X6_lay
  rw [← h0, t1]
  simp only [Option.bind_some]
  rw [nI_pred, chk_in (vp_in_nI (by omega) (by omega)), f1]
  simp only [Option.bind_some]
  rw [f2]
  simp only [Option.bind_some]
  rw [nI_clamp (by omega), t2 m (Nat.le_refl m), h0, i2, pk_div (by omega) (by omega) (by omega), pk_div (by omega) (by omega) (by omega), show (2 * v + 1) / 2 = v by omega, nI_two (by omega), nI_two (by omega), nI_or, nI_or]
def und (u : Nat) : Nat := if u < 10 then 2 * u else 2 * (u - 10) + 1
theorem nd_und {u : Nat} (h : u < 20) : nd (und u) = u := by
  unfold und
  by_cases q : u < 10
  · rw [if_pos q, nd_e]
  · rw [if_neg q, nd_l]; omega
theorem und_lt {u : Nat} (h : u < 20) : und u < 20 := by
  unfold und
  by_cases q : u < 10
  · rw [if_pos q]; omega
  · rw [if_neg q]; omega
theorem s_oneMore {kn ne : Nat → Int32} {r : Nat → Nat} {kk n fr to k bg ed : Nat} {O : Nat → Nat → Bool} {oT cF : Nat → Int32} (hk : kk < 4) (hkn : kn kk = nI n) (h3 : ∀ a, a < 10 → ne (10 * kk + a) = nI (r a)) (h : FS (Bn r n fr to) O k) (hg : Gr n r) (hR : RM n O oT cF bg ed) (hf : fr < 2 ^ n) (ht : to < 2 ^ n) (sF qu : Nat → Int32) (qd : Int32) (tr : Nat → Int32) : ∃ b oT' cF' bg' ed' sF' qu' qd' tr', s_X6_oneMore kn ne oT cF (nI bg) (nI ed) sF qu qd tr (nI kk) (nI fr) (nI to) = some (b, oT', cF', nI bg', nI ed', sF', qu', qd', tr') ∧ ((b = 0 ∧ ∃ c : Nat → Bool, c 20 = true ∧ c 21 = false ∧ ∀ u v, u < 22 → v < 22 → c u = true → O u v = true → c v = true) ∨ (b = 1 ∧ ∃ O', FS (Bn r n fr to) O' (k + 1) ∧ RM n O' oT' cF' bg' ed')) := by
  have hn := hg.2.1
  obtain ⟨sF0, z1, z2⟩ := om_init sF
  obtain ⟨e, e1, Q, w, seen, sF1, qu1, rfl, e2, e3⟩ := om_first (qu := qu) h hg hR hf z2
  obtain ⟨e', e4, e5⟩ := om_main (ne := ne) hk h3 h hg hR ht (nI 0, sF1, qu1, nI w) ⟨Q, w, 0, seen, sF1, qu1, rfl, e2, e3⟩
  have e4' : loop (b_X6_oneMore_88 ne oT cF (nI bg) (nI ed) (nI kk) (nI to) (nI n)) ((0 : Int32), sF1, qu1, nI w) = some e' := e4
  have hrun : s_X6_oneMore kn ne oT cF (nI bg) (nI ed) sF qu qd tr (nI kk) (nI fr) (nI to) = Sum.elim (fun e78 => (s_X6_lay oT cF (nI bg) (nI ed) e78.2.1 tr (((2 : Int32) * e78.1) + (1 : Int32))).bind (fun x87 => some ((1 : Int32), x87.1, x87.2.1, x87.2.2.1, x87.2.2.2.1, e78.2.1, e78.2.2.1, e78.2.2.2, x87.2.2.2.2))) (fun e83 => some ((0 : Int32), oT, cF, nI bg, nI ed, e83.1, e83.2.1, e83.2.2, tr)) e' := by
    unfold s_X6_oneMore
    rw [chk_in (vp_in_nI hk (by omega)), z1]
    simp only [Option.bind_some]
    rw [nI_clamp (by omega), hkn, e1]
    simp only [Option.bind_some]
    rw [e4']
    rfl
  rcases e5 with ⟨Q', w', seen', sF', qu', rfl, g1, g2⟩ | ⟨v, Q', w', nx, seen', sF', qu', rfl, g1, g2, g3, g4, g5⟩
  · refine ⟨0, oT, cF, bg, ed, sF', qu', nI w', tr, by rw [hrun]; rfl, Or.inl ⟨rfl, fun u => decide (u = 20) || (decide (u < 20) && seen'.testBit (und u)), by simp, by simp, fun u v hu hv h1 h2 => ?_⟩⟩
    rw [Bool.or_eq_true, Bool.and_eq_true, decide_eq_true_iff, decide_eq_true_iff] at h1 ⊢
    rcases h1 with h1 | ⟨h1, h1'⟩
    · subst h1
      have := out_S h hf hv h2
      right
      refine ⟨by omega, ?_⟩
      have := g2 v this h2
      unfold und
      rw [if_pos (by omega)]; exact this
    · obtain ⟨kq, q1, q2⟩ := (g1.2.2.2.1 (und u)).mp h1'
      by_cases c1 : v = 20
      · exact Or.inl c1
      · right
        by_cases c2 : v = 21
        · have := g1.2.2.2.2.2.2.2.2 kq q1
          rw [q2, nd_und h1] at this
          rw [c2, this] at h2
          exact absurd h2 (by decide)
        · refine ⟨by omega, g1.2.2.2.2.2.2.2.1 kq q1 (und v) (und_lt (by omega)) ?_⟩
          rw [q2, nd_und h1, nd_und (by omega)]; exact h2
  · obtain ⟨oT', cF', bg', ed', tr', O', l1, l2, l3⟩ := s_lay h hg hf hR g5 g1 g3 g4 g2 tr
    refine ⟨1, oT', cF', bg', ed', sF', qu', nI w', tr', ?_, Or.inr ⟨rfl, O', l2, l3⟩⟩
    rw [hrun]
    show (s_X6_lay oT cF (nI bg) (nI ed) sF' tr (((2 : Int32) * nI v) + (1 : Int32))).bind _ = _
    rw [i2, pk_mul, nI_1, l1]
    rfl
theorem ap_init (oT cF : Nat → Int32) : ∃ e, loop b_X6_apart_49 ((0 : Int32), oT, cF) = some e ∧ ∀ i, i < 10 → e.1 i = -1 ∧ e.2 i = -1 :=
  loop_cnt (f := b_X6_apart_49) (fun i x => ∃ o f, x = (nI i, o, f) ∧ ∀ c, c < i → o c = -1 ∧ f c = -1) 10 (fun e => ∀ c, c < 10 → e.1 c = -1 ∧ e.2 c = -1) (by
    rintro i x hi ⟨o, f, rfl, h⟩
    unfold b_X6_apart_49
    dsimp only
    rw [if_neg (by rw [i10]; exact nI_ge hi (by omega)), chk_in (vp_in_nI (by omega) (by omega)), chk_in (vp_in_nI (by omega) (by omega)), nI_clamp (by omega), nI_1]
    refine ⟨_, rfl, _, _, rfl, fun c hc => ?_⟩
    by_cases q : c = i
    · rw [q, pk_us, pk_us]; exact ⟨rfl, rfl⟩
    · rw [pk_un q, pk_un q]; exact h c (by omega)) (by
    rintro x ⟨o, f, rfl, h⟩
    unfold b_X6_apart_49
    dsimp only
    rw [if_pos (by decide)]
    exact ⟨_, rfl, h⟩) 0 _ (by omega) ⟨oT, cF, rfl, fun c hc => by omega⟩
theorem RM_0 {r : Nat → Nat} {n fr to : Nat} {oT cF : Nat → Int32} (hn : n ≤ 10) (h : ∀ i, i < 10 → oT i = -1 ∧ cF i = -1) : RM n (Bn r n fr to) oT cF 0 0 := by
  have hB : ∀ i j, j < n → Bn r n fr to j (10 + i) = decide (10 + i = 10 + j) := fun i j hj => Bn_e hj hn _
  refine ⟨Nat.two_pow_pos n, Nat.two_pow_pos n, fun i hi => ⟨?_, ?_⟩, fun i hi => ⟨Or.inl (h i (by omega)).1, Or.inl (h i (by omega)).2⟩, fun i j hi hj hji => ?_⟩
  · rw [Nat.zero_testBit, Bn_e hi hn, decide_eq_false (by omega)]
  · rw [Nat.zero_testBit, Bn_T]
  · rw [hB i j hj, decide_eq_false (by omega), (h i (by omega)).1, (h j (by omega)).2]
    exact ⟨⟨fun z => absurd z.symm (nI_ne_m1 (by omega)), fun z => absurd z (by decide)⟩, ⟨fun z => absurd z.symm (nI_ne_m1 (by omega)), fun z => absurd z (by decide)⟩⟩
theorem ap_loop {kn ne : Nat → Int32} {r : Nat → Nat} {kk n fr to : Nat} (hk : kk < 4) (hkn : kn kk = nI n) (h3 : ∀ a, a < 10 → ne (10 * kk + a) = nI (r a)) (hg : Gr n r) (hf : fr < 2 ^ n) (ht : to < 2 ^ n) (oT cF sF qu : Nat → Int32) (qd : Int32) (tr : Nat → Int32) (h0 : ∀ i, i < 10 → oT i = -1 ∧ cF i = -1) : ∃ k e, loop (b_X6_apart_91 kn ne (nI kk) (nI fr) (nI to)) ((0 : Int32), oT, cF, (0 : Int32), (0 : Int32), sF, qu, qd, tr) = some e ∧ e.1 = nI k ∧ MX (Bn r n fr to) n k := by
  have hn := hg.2.1
  have := loop_spec (f := b_X6_apart_91 kn ne (nI kk) (nI fr) (nI to)) (fun x => ∃ k O oT cF bg ed sF qu qd tr, x = (nI k, oT, cF, nI bg, nI ed, sF, qu, qd, tr) ∧ FS (Bn r n fr to) O k ∧ RM n O oT cF bg ed) (fun x => 11 - x.1.toNatClampNeg) (fun e => ∃ k, e.1 = nI k ∧ MX (Bn r n fr to) n k) (by
    rintro x ⟨k, O, oT, cF, bg, ed, sF, qu, qd, tr, rfl, hF, hR⟩
    have hle := FS_le hn hF
    obtain ⟨b, oT', cF', bg', ed', sF', qu', qd', tr', e1, e2⟩ := s_oneMore hk hkn h3 hF hg hR hf ht sF qu qd tr
    unfold b_X6_apart_91
    dsimp only
    rw [e1]
    simp only [Option.bind_some]
    rcases e2 with ⟨rfl, c, c1, c2, c3⟩ | ⟨rfl, O', f1, f2⟩
    · right
      rw [if_pos rfl]
      exact ⟨_, rfl, k, rfl, O, hF, Or.inr ⟨c, c1, c2, c3⟩⟩
    · left
      have hle' := FS_le hn f1
      rw [if_neg (show ¬ ((1 : Int32) = 0) by decide), nI_1]
      refine ⟨_, rfl, ⟨k + 1, O', oT', cF', bg', ed', sF', qu', qd', tr', rfl, f1, f2⟩, ?_⟩
      dsimp only
      rw [nI_clamp (by omega), nI_clamp (by omega)]
      omega) ((0 : Int32), oT, cF, (0 : Int32), (0 : Int32), sF, qu, qd, tr) ⟨0, Bn r n fr to, oT, cF, 0, 0, sF, qu, qd, tr, rfl, FS_0 hg, RM_0 hn h0⟩
  obtain ⟨e, he, k, h1, h2⟩ := this
  exact ⟨k, e, he, h1, h2⟩
theorem set_or {n : Nat} (h10 : n ≤ 10) {cK : Nat → Int32} {p : Fin 5} (hn : cK p.1 = nI n) (x : Int32) : (s_X2_hasSet cK p x = some 0 ∧ s_X6_in x 0 (nI (2 ^ n - 1)) = some 0) ∨ ∃ m, m < 2 ^ n ∧ x = nI m ∧ s_X2_hasSet cK p x = some 1 ∧ s_X6_in x 0 (nI (2 ^ n - 1)) = some 1 := by
  have h31 : 2 ^ n ≤ 2 ^ 10 := Nat.pow_le_pow_right (by omega) h10
  have hp0 : 0 < 2 ^ n := Nat.two_pow_pos n
  unfold s_X2_hasSet
  rcases nn_or x with h | ⟨m, hm, rfl⟩
  · left
    rw [if_pos h, in_lo h]; exact ⟨rfl, rfl⟩
  · rw [if_neg (nI_pos hm), hn, nI_shr hm (by omega), Nat.shiftRight_eq_div_pow]
    have hdiv : m / 2 ^ n < 2 ^ 31 := Nat.lt_of_le_of_lt (Nat.div_le_self _ _) hm
    by_cases q : m < 2 ^ n
    · right
      refine ⟨m, q, rfl, ?_, in_yes (nI_pos hm) (nI_nlt (by omega) (by omega))⟩
      rw [Nat.div_eq_of_lt q, if_pos (by decide)]
    · left
      have : 0 < m / 2 ^ n := Nat.div_pos (by omega) hp0
      rw [if_neg (nI_ne0 this hdiv), in_hi (nI_lt (by omega) hm)]
      exact ⟨rfl, rfl⟩
theorem pure_apart {kn ne cK : Nat → Int32} {cF : Nat → Nat → Int32} (aO aC aQ oT cf : Nat → Int32) (bg ed : Int32) (sF qu : Nat → Int32) (qd : Int32) (tr : Nat → Int32) (inv : Inv kn ne cK cF) (a0 a1 a2 : Int32) : ∃ (v : Int32) (aO' aC' aQ' oT' cf' : Nat → Int32) (bg' ed' : Int32) (sF' qu' : Nat → Int32) (qd' : Int32) (tr' : Nat → Int32), s_X5_apart cK cF aO aC aQ a0 a1 a2 = some (v, aO', aC', aQ') ∧ s_X6_apart kn ne oT cf bg ed sF qu qd tr a0 a1 a2 = some (v, oT', cf', bg', ed', sF', qu', qd', tr') := by
  have hbad : s_X5_apart cK cF aO aC aQ a0 a1 a2 = some (-2, aO, aC, aQ) → s_X6_apart kn ne oT cf bg ed sF qu qd tr a0 a1 a2 = some (-2, oT, cf, bg, ed, sF, qu, qd, tr) → ∃ (v : Int32) (aO' aC' aQ' oT' cf' : Nat → Int32) (bg' ed' : Int32) (sF' qu' : Nat → Int32) (qd' : Int32) (tr' : Nat → Int32), s_X5_apart cK cF aO aC aQ a0 a1 a2 = some (v, aO', aC', aQ') ∧ s_X6_apart kn ne oT cf bg ed sF qu qd tr a0 a1 a2 = some (v, oT', cf', bg', ed', sF', qu', qd', tr') := fun h g => ⟨-2, aO, aC, aQ, oT, cf, bg, ed, sF, qu, qd, tr, h, g⟩
  rcases net_or a0 with h | ⟨k, hk, rfl⟩
  · exact hbad (by unfold s_X5_apart; rw [netAt_no h]; rfl) (by unfold s_X6_apart; rw [isNet_no h]; rfl)
  · obtain ⟨N, r, hi⟩ := id inv
    obtain ⟨hg, b1, b2, b3⟩ := hi k hk
    have hf : (fin5 k).1 = k := fin5_val (by omega)
    have h10 := hg.2.1
    have b2' : cK (fin5 k).1 = nI (N k) := by rw [hf]; exact b2
    have b3' : ∀ a, a < 10 → cF (fin5 k).1 a = nI (r k a) := fun a ha => by rw [hf]; exact (b3 a ha).2
    have hX6 : s_X6_apart kn ne oT cf bg ed sF qu qd tr (nI k) a1 a2 = (s_X6_in a1 (0 : Int32) (nI (2 ^ N k - 1))).bind (fun x5 => if x5 = 0 then (some ((-2 : Int32), oT, cf, bg, ed, sF, qu, qd, tr)) else ((s_X6_in a2 (0 : Int32) (nI (2 ^ N k - 1))).bind (fun x9 => if x9 = 0 then (some ((-2 : Int32), oT, cf, bg, ed, sF, qu, qd, tr)) else ((loop (b_X6_apart_49) ((0 : Int32), oT, cf)).bind (fun e15 => (loop (b_X6_apart_91 kn ne (nI k) a1 a2) ((0 : Int32), e15.1, e15.2, (0 : Int32), (0 : Int32), sF, qu, qd, tr)).bind (fun e23 => some (e23.1, e23.2.1, e23.2.2.1, e23.2.2.2.1, e23.2.2.2.2.1, e23.2.2.2.2.2.1, e23.2.2.2.2.2.2.1, e23.2.2.2.2.2.2.2.1, e23.2.2.2.2.2.2.2.2)))))) ) := by
      unfold s_X6_apart
      rw [isNet_yes hk]
      simp only [Option.bind_some]
      rw [if_neg (show ¬ ((1 : Int32) = 0) by decide), chk_in (vp_in_nI hk (by omega)), nI_clamp (by omega), b1, two_m1 h10]
      have hck : vp_in (nI k) 4 := vp_in_nI hk (by omega)
      simp only [chk_in hck]
    rcases set_or h10 b2' a1 with ⟨s1, s2⟩ | ⟨fr, hfr, rfl, s1, s2⟩
    · exact hbad (by unfold s_X5_apart; rw [netAt_yes hk]; simp only [Option.bind_some, Option.elim_some]; rw [s1]; rfl) (by rw [hX6, s2]; rfl)
    · rcases set_or h10 b2' a2 with ⟨t1, t2⟩ | ⟨to, hto, rfl, t1, t2⟩
      · exact hbad (by unfold s_X5_apart; rw [netAt_yes hk]; simp only [Option.bind_some, Option.elim_some]; rw [s1, t1]; rfl) (by rw [hX6, s2, t2]; rfl)
      · obtain ⟨k1, aO', aC', aQ', e1, e2⟩ := s_most b2' hg b3' hfr hto aO aC aQ
        obtain ⟨ei, f1, f2⟩ := ap_init oT cf
        obtain ⟨k2, e, g1, g2, g3⟩ := ap_loop hk b1 (fun a ha => (b3 a ha).1) hg hfr hto ei.1 ei.2 sF qu qd tr f2
        have hkk := MX_one h10 e2 g3
        refine ⟨nI k1, aO', aC', aQ', e.2.1, e.2.2.1, e.2.2.2.1, e.2.2.2.2.1, e.2.2.2.2.2.1, e.2.2.2.2.2.2.1, e.2.2.2.2.2.2.2.1, e.2.2.2.2.2.2.2.2, ?_, ?_⟩
        · unfold s_X5_apart
          rw [netAt_yes hk]
          simp only [Option.bind_some, Option.elim_some]
          rw [s1, t1]
          simp only [Option.bind_some]
          rw [if_neg (show ¬ ((1 : Int32) = 0) by decide), if_neg (show ¬ ((1 : Int32) = 0) by decide), e1]
          rfl
        · rw [hX6, s2, t2]
          simp only [Option.bind_some]
          rw [if_neg (show ¬ ((1 : Int32) = 0) by decide), if_neg (show ¬ ((1 : Int32) = 0) by decide), f1]
          simp only [Option.bind_some]
          rw [g1]
          simp only [Option.bind_some]
          rw [g2, hkk]
theorem op_apart (a0 : Int32) (a1 : Int32) (a2 : Int32) : OpI Sim mX5_apart mX6_apart [vI a0, vI a1, vI a2] := by
  rintro wc wm ⟨cK, cF, ga, gi, gs, oK, cT, ra, rb, cR, cP, cM, ea, eb, cW, aO, aC, aQ, kn, ne, fi, se, ma, on, ot, ta, po, ti, nu, mo, wa, nx, oT, cF', bg, ed, sF, qu, qd, tr, rfl, rfl, inv, h1, h2⟩
  obtain ⟨v, aO1, aC1, aQ1, oT1, cf1, bg1, ed1, sF1, qu1, qd1, tr1, e1, e2⟩ := pure_apart aO aC aQ oT cF' bg ed sF qu qd tr inv a0 a1 a2
  exact ⟨v, _, _, c_X5_apart (d := 5) e1, c_X6_apart (d := 6) e2, _, _, _, _, _, _, _, _, _, _, _, _, _, _, _, _, _, _, _, _, _, _, _, _, _, _, _, _, _, _, _, _, _, _, _, _, _, _, _, _, rfl, rfl, inv, h1, h2⟩
