/-! longs as bits -/
theorem sh63 : ∀ b, b < 64 → (((nI b).toInt64 &&& 63).toBitVec.smod 64).toNat = b := by decide +kernel
theorem ush63 : ∀ b, b < 64 → (((nI b).toInt64.toUInt64 &&& Int64.toUInt64 63).toBitVec % 64).toNat = b := by decide +kernel
theorem lN_tn {n : Nat} (h : n < 2 ^ 64) : (lN n).toBitVec.toNat = n := Nat.mod_eq_of_lt h
theorem lN_shr {m b : Nat} (hm : m < 2 ^ 63) (hb : b < 64) : lN m >>> ((nI b).toInt64 &&& 63) = lN (m >>> b) := by
  apply Int64.toInt_inj.mp
  have h2 : m >>> b ≤ m := Nat.shiftRight_le _ _
  show ((lN m).toBitVec.sshiftRight (((nI b).toInt64 &&& 63).toBitVec.smod 64).toNat).toInt = _
  rw [sh63 b hb, BitVec.toInt_sshiftRight, pk_lT (by omega)]
  show (lN m).toInt >>> b = _
  rw [pk_lT hm]
  rfl
theorem lN_ushr (x : Int64) {b : Nat} (hb : b < 64) : ((x.toUInt64 >>> ((nI b).toInt64.toUInt64 &&& Int64.toUInt64 63)).toInt64).toBitVec.toNat = x.toBitVec.toNat >>> b := by
  have e : ((x.toUInt64 >>> ((nI b).toInt64.toUInt64 &&& Int64.toUInt64 63)).toInt64).toBitVec = x.toBitVec >>> b := by
    have := ush63 b hb
    rw (config := { occs := .pos [2] }) [← this]
    exact UInt64.toBitVec_shiftRight _ _
  rw [e, BitVec.toNat_ushiftRight]
theorem lN_ushrN {m b : Nat} (hm : m < 2 ^ 64) (hb : b < 64) : ((lN m).toUInt64 >>> ((nI b).toInt64.toUInt64 &&& Int64.toUInt64 63)).toInt64 = lN (m >>> b) := by
  apply Int64.toBitVec_inj.mp
  apply BitVec.eq_of_toNat_eq
  rw [lN_ushr _ hb, lN_tn hm, lN_tn (Nat.lt_of_le_of_lt (Nat.shiftRight_le _ _) hm)]
theorem lN_and1 {m : Nat} (hm : m < 2 ^ 64) : lN m &&& (1 : Int64) = lN (m % 2) := by
  apply Int64.toBitVec_inj.mp
  apply BitVec.eq_of_toNat_eq
  rw [Int64.toBitVec_and, BitVec.toNat_and, lN_tn hm, lN_tn (by omega), show (1 : Int64).toBitVec.toNat = 2 ^ 1 - 1 by decide, Nat.and_two_pow_sub_one_eq_mod]
theorem lN_xor (a b : Nat) : lN a ^^^ lN b = lN (a ^^^ b) := by
  apply Int64.toBitVec_inj.mp
  rw [Int64.toBitVec_xor]
  show BitVec.ofNat 64 a ^^^ BitVec.ofNat 64 b = BitVec.ofNat 64 (a ^^^ b)
  rw [BitVec.ofNat_xor]
theorem l1 : (1 : Int64) = lN 1 := by decide
theorem l0 : (0 : Int64) = lN 0 := by decide
theorem lN_two {b : Nat} (hb : b < 64) : (1 : Int64) <<< ((nI b).toInt64 &&& 63) = lN (2 ^ b) := by
  apply Int64.toBitVec_inj.mp
  apply BitVec.eq_of_toNat_eq
  have h2 : 2 ^ b < 2 ^ 64 := Nat.pow_lt_pow_right (by omega) hb
  show ((1 : Int64).toBitVec <<< (((nI b).toInt64 &&& 63).toBitVec.smod 64).toNat).toNat = _
  rw [sh63 b hb, BitVec.toNat_shiftLeft, lN_tn h2, show (1 : Int64).toBitVec.toNat = 1 by decide, Nat.shiftLeft_eq, Nat.one_mul, Nat.mod_eq_of_lt h2]
theorem lN_b1 {m b : Nat} (hm : m < 2 ^ 63) : lg_cmp (lN (m >>> b) &&& (1 : Int64)) (1 : Int64) = 0 ↔ m.testBit b = true := by
  have h2 : m >>> b ≤ m := Nat.shiftRight_le _ _
  rw [lg_cmp_eq, lN_and1 (by omega), l1, pk_lEQ (by omega) (by omega), bit_mod]
  cases m.testBit b <;> decide
/-! the lines by their numbers -/
def ln (r : Nat → Nat) (n l : Nat) : Nat × Nat := (linesP r n).getD l (0, 0)
theorem ln_get {r : Nat → Nat} {n l : Nat} (h : l < (linesP r n).length) : (linesP r n)[l] = ln r n l := by
  unfold ln
  rw [List.getD_eq_getElem?_getD, List.getElem?_eq_getElem h]
  rfl
theorem ln_lay {r : Nat → Nat} {n l : Nat} {on ot : Nat → Int32} (hL : Lay (linesP r n) on ot) (h : l < (linesP r n).length) : on l = nI (ln r n l).1 ∧ ot l = nI (ln r n l).2 := by
  have := hL l h
  rw [ln_get h] at this
  exact this
theorem ln_mem {r : Nat → Nat} {n l : Nat} (h : l < (linesP r n).length) : (ln r n l).1 < (ln r n l).2 ∧ (ln r n l).2 < n ∧ (r (ln r n l).1).testBit (ln r n l).2 = true := by
  have := lines_mem.mp (List.getElem_mem h)
  rw [ln_get h] at this
  exact this
def pos (r : Nat → Nat) (n a b : Nat) : Nat := (allP r n a).length + (rowP r a b).length
theorem pos_yes {r : Nat → Nat} {n a b : Nat} (hab : a < b) (hb : b < n) (q : (r a).testBit b = true) : pos r n a (b + 1) = pos r n a b + 1 ∧ pos r n a b < (linesP r n).length ∧ ln r n (pos r n a b) = (a, b) := by
  obtain ⟨B, e⟩ := lines_split hab hb q
  have h1 : pos r n a b = (allP r n a ++ rowP r a b).length := by unfold pos; rw [List.length_append]
  refine ⟨by unfold pos; rw [rowP_yes hab q, List.length_append]; rfl, ?_, ?_⟩
  · rw [h1, e, List.length_append (bs := (a, b) :: B)]
    simp
  · unfold ln
    rw [h1, e, List.getD_eq_getElem?_getD, List.getElem?_append_right (Nat.le_refl _)]
    simp
theorem pos_no {r : Nat → Nat} {n a b : Nat} (q : ¬ (r a).testBit b = true) : pos r n a (b + 1) = pos r n a b := by unfold pos; rw [rowP_no q]
theorem pos_first (r : Nat → Nat) (n a : Nat) : pos r n a (a + 1) = (allP r n a).length := by unfold pos; rw [rowP_none _ _ _ (Nat.le_refl _)]; rfl
theorem pos_last (r : Nat → Nat) (n a : Nat) : pos r n a n = (allP r n (a + 1)).length := by unfold pos; rw [allP, List.length_append]
theorem pos_le {r : Nat → Nat} {n a b : Nat} (ha : a < n) (hb : b ≤ n) : pos r n a b ≤ (linesP r n).length := by
  have h1 := allP_pre r (n := n) (a := a + 1) (by omega)
  rw [← pos_last] at h1
  obtain ⟨B, e⟩ := rowP_more r a b (n - b)
  rw [show b + (n - b) = n by omega] at e
  have h2 : pos r n a n = pos r n a b + B.length := by unfold pos; rw [e, List.length_append]; omega
  omega
/-! odd -/
theorem nI_xor0 (a : Nat) : nI a ^^^ (0 : Int32) = nI a := by rw [i0, nI_xor, Nat.xor_zero]
def ends (r : Nat → Nat) (n l : Nat) : Nat := 2 ^ (ln r n l).1 ^^^ 2 ^ (ln r n l).2
def oddN (r : Nat → Nat) (n w : Nat) : Nat → Nat
  | 0 => 0
  | l + 1 => if w.testBit l = true then oddN r n w l ^^^ ends r n l else oddN r n w l
theorem ends_lt {r : Nat → Nat} {n l : Nat} (h : l < (linesP r n).length) : ends r n l < 2 ^ n := by
  have := ln_mem h
  exact Nat.xor_lt_two_pow (two_lt (by omega)) (two_lt this.2.1)
theorem oddN_lt {r : Nat → Nat} {n w : Nat} : ∀ l, l ≤ (linesP r n).length → oddN r n w l < 2 ^ n
  | 0, _ => Nat.two_pow_pos n
  | l + 1, h => by
    have ih := oddN_lt (r := r) (n := n) (w := w) l (by omega)
    rw [oddN]
    by_cases q : w.testBit l = true
    · rw [if_pos q]; exact Nat.xor_lt_two_pow ih (ends_lt (by omega))
    · rw [if_neg q]; exact ih
theorem two_or {a b : Nat} (h : a ≠ b) : 2 ^ a ||| 2 ^ b = 2 ^ a ^^^ 2 ^ b := by
  apply Nat.eq_of_testBit_eq
  intro c
  rw [Nat.testBit_or, Nat.testBit_xor, Nat.testBit_two_pow, Nat.testBit_two_pow]
  by_cases q : a = c <;> by_cases q2 : b = c <;> simp [q, q2]
  exact absurd (q.trans q2.symm) h
theorem odd_in {cK : Nat → Int32} {cF : Nat → Nat → Int32} {p : Fin 5} {n a w : Nat} {r : Nat → Nat} (hn : cK p.1 = nI n) (hg : Gr n r) (h3 : ∀ a, a < 10 → cF p.1 a = nI (r a)) (hw : w < 2 ^ 63) (ha : a < n) : loop (b_X2_oddKnots_23 cK cF p (lN w) (nI a)) (nI (oddN r n w (pos r n a (a + 1))), nI (pos r n a (a + 1)), nI (a + 1)) = some (nI (oddN r n w (pos r n a n)), nI (pos r n a n)) := by
  have h10 := hg.2.1
  have hle := lines_le hg
  obtain ⟨e, he, rfl⟩ := loop_cnt (f := b_X2_oddKnots_23 cK cF p (lN w) (nI a)) (fun b x => a < b ∧ x = (nI (oddN r n w (pos r n a b)), nI (pos r n a b), nI b)) n (fun e => e = (nI (oddN r n w (pos r n a n)), nI (pos r n a n))) (by
    rintro b x hb ⟨hab, rfl⟩
    have hp := pos_le (r := r) ha (Nat.le_of_lt hb)
    unfold b_X2_oddKnots_23 lt'
    dsimp only
    rw [hn, if_neg (nI_ge hb (by omega)), s_joins (by omega) (by omega) (Gr_lt hg a) (h3 a (by omega)), lN_ushrN (by omega) (by omega), nI_two (by omega), nI_two (by omega), nI_or, two_or (by omega), nI_xor, nI_1, nI_1]
    simp only [Option.bind_some]
    by_cases q : (r a).testBit b = true
    · obtain ⟨p1, p2, p3⟩ := pos_yes hab hb q
      rw [if_neg (b2i_true q), p1, oddN]
      by_cases c : w.testBit (pos r n a b) = true
      · rw [if_pos ((lN_b1 hw).mpr c), if_pos c, ends, p3]
        exact ⟨_, rfl, by omega, rfl⟩
      · rw [if_neg (fun z => c ((lN_b1 hw).mp z)), if_neg c]
        exact ⟨_, rfl, by omega, rfl⟩
    · rw [if_pos (b2i_false q), pos_no q]
      exact ⟨_, rfl, by omega, rfl⟩) (by
    rintro x ⟨hab, rfl⟩
    unfold b_X2_oddKnots_23
    dsimp only
    rw [hn, if_pos (nI_le (Nat.le_refl _) (by omega))]
    exact ⟨_, rfl, rfl⟩) (a + 1) (nI (oddN r n w (pos r n a (a + 1))), nI (pos r n a (a + 1)), nI (a + 1)) (by omega) ⟨by omega, rfl⟩
  exact he
theorem s_oddKnots {cK : Nat → Int32} {cF : Nat → Nat → Int32} {p : Fin 5} {n w : Nat} {r : Nat → Nat} (hn : cK p.1 = nI n) (hg : Gr n r) (h3 : ∀ a, a < 10 → cF p.1 a = nI (r a)) (hw : w < 2 ^ 63) : s_X2_oddKnots cK cF p (lN w) = some (nI (oddN r n w (linesP r n).length)) := by
  have h10 := hg.2.1
  suffices h : loop (b_X2_oddKnots_8 cK cF p (lN w)) ((0 : Int32), (0 : Int32), (0 : Int32)) = some (nI (oddN r n w (linesP r n).length)) by unfold s_X2_oddKnots; rw [h]; rfl
  refine loop_for (f := b_X2_oddKnots_8 cK cF p (lN w)) (fun i => (nI (oddN r n w (allP r n i).length), nI (allP r n i).length, nI i)) n (fun i hi => ?_) ?_ 0 (by omega)
  · unfold b_X2_oddKnots_8
    dsimp only
    rw [hn, if_neg (nI_ge hi (by omega)), nI_1, ← pos_first, odd_in hn hg h3 hw hi, pos_last]
    rfl
  · unfold b_X2_oddKnots_8
    dsimp only
    rw [hn, if_pos (nI_le (Nat.le_refl _) (by omega))]
    rfl
theorem s_oddOnes {n w : Nat} {r : Nat → Nat} {on ot : Nat → Int32} (hg : Gr n r) (hL : Lay (linesP r n) on ot) (hw : w < 2 ^ 63) : s_X6_oddOnes (nI (linesP r n).length) on ot (lN w) = some (nI (oddN r n w (linesP r n).length)) := by
  have h10 := hg.2.1
  have hle := lines_le hg
  suffices h : loop (b_X6_oddOnes_5 (nI (linesP r n).length) on ot (lN w)) ((0 : Int32), (0 : Int32)) = some (nI (oddN r n w (linesP r n).length)) by unfold s_X6_oddOnes; rw [h]; rfl
  refine loop_for (f := b_X6_oddOnes_5 (nI (linesP r n).length) on ot (lN w)) (fun l => (nI (oddN r n w l), nI l)) (linesP r n).length (fun l hl => ?_) ?_ 0 (by omega)
  · obtain ⟨o1, o2⟩ := ln_lay hL hl
    obtain ⟨m1, m2, -⟩ := ln_mem hl
    unfold b_X6_oddOnes_5 lt'
    dsimp only
    rw [if_neg (nI_ge hl (by omega)), lN_shr hw (by omega), chk_in (vp_in_nI (by omega) (by omega)), chk_in (vp_in_nI (by omega) (by omega)), nI_clamp (by omega), o1, o2, nI_two (by omega), nI_two (by omega), nI_xor, nI_xor, nI_xor0, nI_1, oddN]
    by_cases c : w.testBit l = true
    · rw [if_pos ((lN_b1 hw).mpr c), if_pos c]
      rfl
    · rw [if_neg (fun z => c ((lN_b1 hw).mp z)), if_neg c]
  · unfold b_X6_oddOnes_5
    dsimp only
    rw [if_pos (nI_le (Nat.le_refl _) (by omega))]
/-- a word of a net: on both sides -/
theorem word_or {kn ne cK : Nat → Int32} {cF : Nat → Nat → Int32} {k n : Nat} {r : Nat → Nat} {p : Fin 5} (hk : k < 4) (hn : kn k = nI n) (hg : Gr n r) (h3 : ∀ a, a < 10 → ne (10 * k + a) = nI (r a)) (hcn : cK p.1 = nI n) (hc3 : ∀ a, a < 10 → cF p.1 a = nI (r a)) (ma : Int32) (on ot : Nat → Int32) (x : Int64) : ∃ on' ot', Lay (linesP r n) on' ot' ∧ ((s_X2_hasWord cK cF p x = some 0 ∧ s_X6_isWord kn ne ma on ot (nI k) x = some (0, nI (linesP r n).length, on', ot')) ∨ ∃ w, w < 2 ^ (linesP r n).length ∧ x = lN w ∧ s_X2_hasWord cK cF p x = some 1 ∧ s_X6_isWord kn ne ma on ot (nI k) x = some (1, nI (linesP r n).length, on', ot')) := by
  have hle := lines_le hg
  obtain ⟨on', ot', e1, e2⟩ := s_layLines hk hn hg h3 ma on ot
  refine ⟨on', ot', e2, ?_⟩
  unfold s_X2_hasWord s_X6_isWord
  rw [s_lineCount hcn hg hc3, ← lines_len hg, isNet_yes hk]
  simp only [Option.bind_some]
  rw [if_neg (show ¬ ((1 : Int32) = 0) by decide), e1]
  simp only [Option.bind_some]
  by_cases q : x < 0
  · left
    rw [if_pos ((lg_cmp_lt x 0).mpr q)]
    refine ⟨?_, rfl⟩
    rw [if_neg]
    intro z
    rw [lg_cmp_eq] at z
    have h1 := lN_ushr x (b := (linesP r n).length) (by omega)
    rw [z, show (0 : Int64).toBitVec.toNat = 0 by decide] at h1
    have h2 : 2 ^ 63 ≤ x.toBitVec.toNat := by
      rw [Int64.lt_iff_toInt_lt] at q
      have e0 : (0 : Int64).toInt = 0 := by decide
      rw [e0] at q
      have h4 : x.toInt = x.toBitVec.toInt := rfl
      rw [h4, BitVec.toInt_eq_toNat_cond] at q
      by_cases c : 2 * x.toBitVec.toNat < 2 ^ 64
      · rw [if_pos c] at q; omega
      · omega
    rw [Nat.shiftRight_eq_div_pow] at h1
    have h5 : 2 ^ (linesP r n).length ≤ 2 ^ 63 := Nat.pow_le_pow_right (by omega) (by omega)
    have h6 : 0 < x.toBitVec.toNat / 2 ^ (linesP r n).length := Nat.div_pos (by omega) (Nat.two_pow_pos _)
    omega
  · obtain ⟨w, hw, rfl⟩ := pk_lOf q
    have h2 : w >>> (linesP r n).length ≤ w := Nat.shiftRight_le _ _
    rw [if_neg (fun z => q ((lg_cmp_lt _ 0).mp z)), lN_ushrN (by omega) (by omega), lN_shr hw (by omega)]
    by_cases c : w < 2 ^ (linesP r n).length
    · right
      have e : w >>> (linesP r n).length = 0 := by rw [Nat.shiftRight_eq_div_pow, Nat.div_eq_of_lt c]
      rw [e, if_pos (by decide), if_pos (by decide)]
      exact ⟨w, c, rfl, rfl, rfl⟩
    · left
      have e : 0 < w >>> (linesP r n).length := by rw [Nat.shiftRight_eq_div_pow]; exact Nat.div_pos (by omega) (Nat.two_pow_pos _)
      have e2 : ¬ lg_cmp (lN (w >>> (linesP r n).length)) 0 = 0 := by
        rw [lg_cmp_eq, l0, pk_lEQ (by omega) (by omega)]; omega
      rw [if_neg e2, if_neg e2]
      exact ⟨rfl, rfl⟩
theorem pure_odd {kn ne cK : Nat → Int32} {cF : Nat → Nat → Int32} (ma : Int32) (on ot : Nat → Int32) (inv : Inv kn ne cK cF) (a0 : Int32) (x : Int64) : ∃ (v : Int32) (ma' : Int32) (on' ot' : Nat → Int32), s_X5_odd cK cF a0 x = some v ∧ s_X6_odd kn ne ma on ot a0 x = some (v, ma', on', ot') := by
  rcases net_or a0 with h | ⟨k, hk, rfl⟩
  · exact ⟨-2, ma, on, ot, by unfold s_X5_odd; rw [netAt_no h]; rfl, by unfold s_X6_odd s_X6_isWord; rw [isNet_no h]; rfl⟩
  · obtain ⟨N, r, hi⟩ := id inv
    obtain ⟨hg, b1, b2, b3⟩ := hi k hk
    have hf : (fin5 k).1 = k := fin5_val (by omega)
    have h10 := hg.2.1
    have h31 : 2 ^ N k ≤ 2 ^ 10 := Nat.pow_le_pow_right (by omega) h10
    have b2' : cK (fin5 k).1 = nI (N k) := by rw [hf]; exact b2
    have b3' : ∀ a, a < 10 → cF (fin5 k).1 a = nI (r k a) := fun a ha => by rw [hf]; exact (b3 a ha).2
    obtain ⟨on', ot', hL, h⟩ := word_or hk b1 hg (fun a ha => (b3 a ha).1) b2' b3' ma on ot x
    unfold s_X5_odd s_X6_odd
    rw [netAt_yes hk]
    simp only [Option.bind_some, Option.elim_some]
    rcases h with ⟨h1, h2⟩ | ⟨w, hw, rfl, h1, h2⟩
    · rw [h1, h2]
      exact ⟨_, _, _, _, rfl, rfl⟩
    · have hle := lines_le hg
      have hw63 : w < 2 ^ 63 := Nat.lt_of_lt_of_le hw (Nat.pow_le_pow_right (by omega) (by omega))
      have hol := oddN_lt (r := r k) (n := N k) (w := w) _ (Nat.le_refl _)
      rw [h1, h2]
      simp only [Option.bind_some]
      rw [if_neg (show ¬ ((1 : Int32) = 0) by decide), if_neg (show ¬ ((1 : Int32) = 0) by decide), s_oddKnots b2' hg b3' hw63, s_oddOnes hg hL hw63]
      simp only [Option.bind_some]
      rw [bc10 _ (by omega), s_bits (by omega)]
      exact ⟨_, _, _, _, rfl, rfl⟩
theorem op_odd (a0 : Int32) (a1 : Int64) : OpI Sim mX5_odd mX6_odd [vI a0, vL a1] := by
  rintro wc wm ⟨cK, cF, ga, gi, gs, oK, cT, ra, rb, cR, cP, cM, ea, eb, cW, aO, aC, aQ, kn, ne, fi, se, ma, on, ot, ta, po, ti, nu, mo, wa, nx, oT, cF', bg, ed, sF, qu, qd, tr, rfl, rfl, inv, h1, h2⟩
  obtain ⟨v, ma1, on1, ot1, e1, e2⟩ := pure_odd ma on ot inv a0 a1
  exact ⟨v, _, _, c_X5_odd (d := 4) e1, c_X6_odd (d := 5) e2, _, _, _, _, _, _, _, _, _, _, _, _, _, _, _, _, _, _, _, _, _, _, _, _, _, _, _, _, _, _, _, _, _, _, _, _, _, _, _, _, rfl, rfl, inv, h1, h2⟩
