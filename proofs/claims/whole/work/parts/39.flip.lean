/-! flipped: one pass, and the way that begins anew -/
abbrev both (r : Nat → Nat) (n o l : Nat) : Prop := o.testBit (ln r n l).1 = true ∧ o.testBit (ln r n l).2 = true
def FB (r : Nat → Nat) (n w o : Nat) : Nat → Nat × Nat
  | 0 => (w, o)
  | l + 1 => if both r n (FB r n w o l).2 l then ((FB r n w o l).1 ^^^ 2 ^ l, (FB r n w o l).2 ^^^ ends r n l) else FB r n w o l
theorem FB_lt {r : Nat → Nat} {n w o : Nat} (hw : w < 2 ^ 63) (ho : o < 2 ^ n) (hle : (linesP r n).length ≤ 45) : ∀ l, l ≤ (linesP r n).length → (FB r n w o l).1 < 2 ^ 63 ∧ (FB r n w o l).2 < 2 ^ n
  | 0, _ => ⟨hw, ho⟩
  | l + 1, h => by
    obtain ⟨h1, h2⟩ := FB_lt hw ho hle l (by omega)
    rw [FB]
    by_cases q : both r n (FB r n w o l).2 l
    · rw [if_pos q]
      exact ⟨Nat.xor_lt_two_pow h1 (two_lt (by omega)), Nat.xor_lt_two_pow h2 (ends_lt (by omega))⟩
    · rw [if_neg q]; exact ⟨h1, h2⟩
theorem ends_bit {r : Nat → Nat} {n l : Nat} (h : l < (linesP r n).length) (c : Nat) : (ends r n l).testBit c = decide (c = (ln r n l).1 ∨ c = (ln r n l).2) := by
  have hm := ln_mem h
  unfold ends
  rw [Nat.testBit_xor, Nat.testBit_two_pow, Nat.testBit_two_pow]
  by_cases q : c = (ln r n l).1
  · have : ¬ (ln r n l).2 = c := by omega
    simp [q]
    omega
  · have q' : ¬ (ln r n l).1 = c := fun z => q z.symm
    by_cases q2 : c = (ln r n l).2
    · have : (ln r n l).2 = c := q2.symm
      simp [q, q', this]
    · have : ¬ (ln r n l).2 = c := fun z => q2 z.symm
      simp [q, q', q2, this]
/-- what is odd never grows -/
theorem FB_sub {r : Nat → Nat} {n w o l : Nat} : ∀ d, l + d ≤ (linesP r n).length → subB (FB r n w o (l + d)).2 (FB r n w o l).2
  | 0, _ => fun _ h => h
  | d + 1, h => by
    have ih := FB_sub (r := r) (n := n) (w := w) (o := o) (l := l) d (by omega)
    rw [← Nat.add_assoc, FB]
    by_cases q : both r n (FB r n w o (l + d)).2 (l + d)
    · rw [if_pos q]
      intro c hc
      apply ih
      dsimp only at hc
      rw [Nat.testBit_xor, ends_bit (by omega)] at hc
      by_cases z : c = (ln r n (l + d)).1 ∨ c = (ln r n (l + d)).2
      · rcases z with z | z
        · rw [z]; exact q.1
        · rw [z]; exact q.2
      · rw [decide_eq_false z, Bool.xor_false] at hc; exact hc
    · rw [if_neg q]; exact ih
/-- a line that was passed over never comes up again -/
theorem FB_past {r : Nat → Nat} {n w o l j : Nat} (hj : j < l) (hl : l ≤ (linesP r n).length) : ¬ both r n (FB r n w o l).2 j := by
  intro hb
  have hs := FB_sub (r := r) (n := n) (w := w) (o := o) (l := j + 1) (l - (j + 1)) (by omega)
  rw [show j + 1 + (l - (j + 1)) = l by omega] at hs
  have hb1 : both r n (FB r n w o (j + 1)).2 j := ⟨hs _ hb.1, hs _ hb.2⟩
  rw [FB] at hb1
  by_cases q : both r n (FB r n w o j).2 j
  · rw [if_pos q] at hb1
    have h1 := hb1.1
    dsimp only at h1
    rw [Nat.testBit_xor, ends_bit (by omega), q.1] at h1
    simp at h1
  · rw [if_neg q] at hb1; exact q hb1
theorem odd_flip {r : Nat → Nat} {n w l : Nat} : ∀ i, oddN r n (w ^^^ 2 ^ l) i = if l < i then oddN r n w i ^^^ ends r n l else oddN r n w i
  | 0 => by rw [if_neg (by omega)]; rfl
  | i + 1 => by
    have ih := odd_flip (r := r) (n := n) (w := w) (l := l) i
    rw [oddN, oddN, ih, Nat.testBit_xor, Nat.testBit_two_pow]
    rcases Nat.lt_trichotomy l i with q | q | q
    · have h1 : ¬ l = i := by omega
      rw [if_pos q, if_pos (show l < i + 1 by omega), decide_eq_false h1, Bool.xor_false]
      by_cases c : w.testBit i = true
      · rw [if_pos c, if_pos c, Nat.xor_assoc, Nat.xor_assoc, Nat.xor_comm (ends r n l)]
      · rw [if_neg c, if_neg c]
    · subst q
      rw [if_neg (Nat.lt_irrefl l), if_pos (show l < l + 1 by omega), decide_eq_true rfl]
      by_cases c : w.testBit l = true
      · rw [c, if_neg (by decide), if_pos rfl, Nat.xor_assoc, Nat.xor_self, Nat.xor_zero]
      · rw [Bool.eq_false_iff.mpr c, if_pos (by decide), if_neg (by decide)]
    · have h1 : ¬ l = i := by omega
      rw [if_neg (show ¬ l < i by omega), if_neg (show ¬ l < i + 1 by omega), decide_eq_false h1, Bool.xor_false]
theorem FB_odd {r : Nat → Nat} {n w : Nat} : ∀ l, l ≤ (linesP r n).length → oddN r n (FB r n w (oddN r n w (linesP r n).length) l).1 (linesP r n).length = (FB r n w (oddN r n w (linesP r n).length) l).2
  | 0, _ => rfl
  | l + 1, h => by
    have ih := FB_odd (r := r) (n := n) (w := w) l (by omega)
    rw [FB]
    by_cases q : both r n (FB r n w (oddN r n w (linesP r n).length) l).2 l
    · rw [if_pos q]
      dsimp only
      rw [odd_flip, if_pos (by omega), ih]
    · rw [if_neg q]; exact ih
/-! the class -/
theorem both_iff {a b o : Nat} : o &&& (2 ^ a ||| 2 ^ b) = 2 ^ a ||| 2 ^ b ↔ o.testBit a = true ∧ o.testBit b = true := by
  constructor
  · intro h
    constructor
    · have h2 : (2 ^ a ||| 2 ^ b).testBit a = true := by rw [Nat.testBit_or, (two_bit a a).mpr rfl]; rfl
      rw [← h, Nat.testBit_and, Bool.and_eq_true] at h2
      exact h2.1
    · have h2 : (2 ^ a ||| 2 ^ b).testBit b = true := by rw [Nat.testBit_or, (two_bit b b).mpr rfl, Bool.or_true]
      rw [← h, Nat.testBit_and, Bool.and_eq_true] at h2
      exact h2.1
  · rintro ⟨h1, h2⟩
    apply Nat.eq_of_testBit_eq
    intro c
    rw [Nat.testBit_and, Nat.testBit_or, Nat.testBit_two_pow, Nat.testBit_two_pow]
    by_cases q : a = c
    · subst q; rw [h1]; rfl
    · by_cases q2 : b = c
      · subst q2; rw [h2]; rfl
      · simp [q, q2]
theorem nI_eq32 {a b : Nat} (ha : a < 2 ^ 31) (hb : b < 2 ^ 31) : nI a = nI b ↔ a = b := nI_eq ha hb
theorem flip_in {cK : Nat → Int32} {cF : Nat → Nat → Int32} {p : Fin 5} {n a w o : Nat} {r : Nat → Nat} (hn : cK p.1 = nI n) (hg : Gr n r) (h3 : ∀ a, a < 10 → cF p.1 a = nI (r a)) (hw : w < 2 ^ 63) (ho : o < 2 ^ n) (ha : a < n) : loop (b_X2_flipBack_30 cK cF p (nI a)) (lN (FB r n w o (pos r n a (a + 1))).1, nI (FB r n w o (pos r n a (a + 1))).2, nI (pos r n a (a + 1)), nI (a + 1)) = some (lN (FB r n w o (pos r n a n)).1, nI (FB r n w o (pos r n a n)).2, nI (pos r n a n)) := by
  have h10 := hg.2.1
  have hle := lines_le hg
  have h31 : 2 ^ n ≤ 2 ^ 10 := Nat.pow_le_pow_right (by omega) h10
  obtain ⟨e, he, rfl⟩ := loop_cnt (f := b_X2_flipBack_30 cK cF p (nI a)) (fun b x => a < b ∧ x = (lN (FB r n w o (pos r n a b)).1, nI (FB r n w o (pos r n a b)).2, nI (pos r n a b), nI b)) n (fun e => e = (lN (FB r n w o (pos r n a n)).1, nI (FB r n w o (pos r n a n)).2, nI (pos r n a n))) (by
    rintro b x hb ⟨hab, rfl⟩
    have hp := pos_le (r := r) ha (Nat.le_of_lt hb)
    obtain ⟨f1, f2⟩ := FB_lt hw ho hle (pos r n a b) hp
    have hor : 2 ^ a ||| 2 ^ b < 2 ^ n := Nat.or_lt_two_pow (two_lt ha) (two_lt hb)
    have hand : (FB r n w o (pos r n a b)).2 &&& (2 ^ a ||| 2 ^ b) ≤ 2 ^ a ||| 2 ^ b := Nat.and_le_right
    unfold b_X2_flipBack_30 lt'
    dsimp only
    rw [hn, if_neg (nI_ge hb (by omega)), s_joins (by omega) (by omega) (Gr_lt hg a) (h3 a (by omega)), nI_two (by omega), nI_two (by omega), nI_or, nI_and, nI_xor, lN_two (by omega), lN_xor, nI_1, nI_1]
    simp only [Option.bind_some]
    by_cases q : (r a).testBit b = true
    · obtain ⟨p1, p2, p3⟩ := pos_yes hab hb q
      rw [if_neg (b2i_true q), p1, FB]
      have hbo : both r n (FB r n w o (pos r n a b)).2 (pos r n a b) ↔ (FB r n w o (pos r n a b)).2 &&& (2 ^ a ||| 2 ^ b) = 2 ^ a ||| 2 ^ b := by
        rw [both_iff]; unfold both; rw [p3]
      by_cases c : both r n (FB r n w o (pos r n a b)).2 (pos r n a b)
      · rw [if_pos ((nI_eq (by omega) (by omega)).mpr (hbo.mp c)), if_pos c, ends, p3, two_or (by omega)]
        exact ⟨_, rfl, by omega, rfl⟩
      · rw [if_neg (fun z => c (hbo.mpr ((nI_eq (by omega) (by omega)).mp z))), if_neg c]
        exact ⟨_, rfl, by omega, rfl⟩
    · rw [if_pos (b2i_false q), pos_no q]
      exact ⟨_, rfl, by omega, rfl⟩) (by
    rintro x ⟨hab, rfl⟩
    unfold b_X2_flipBack_30
    dsimp only
    rw [hn, if_pos (nI_le (Nat.le_refl _) (by omega))]
    exact ⟨_, rfl, rfl⟩) (a + 1) (lN (FB r n w o (pos r n a (a + 1))).1, nI (FB r n w o (pos r n a (a + 1))).2, nI (pos r n a (a + 1)), nI (a + 1)) (by omega) ⟨by omega, rfl⟩
  exact he
theorem s_flipBack {cK : Nat → Int32} {cF : Nat → Nat → Int32} {p : Fin 5} {n w : Nat} {r : Nat → Nat} (hn : cK p.1 = nI n) (hg : Gr n r) (h3 : ∀ a, a < 10 → cF p.1 a = nI (r a)) (hw : w < 2 ^ 63) : s_X2_flipBack cK cF p (lN w) = some (lN (FB r n w (oddN r n w (linesP r n).length) (linesP r n).length).1) := by
  have h10 := hg.2.1
  have ho := oddN_lt (r := r) (n := n) (w := w) _ (Nat.le_refl _)
  unfold s_X2_flipBack
  rw [s_oddKnots hn hg h3 hw]
  simp only [Option.bind_some]
  suffices h : loop (b_X2_flipBack_15 cK cF p) (lN w, nI (oddN r n w (linesP r n).length), (0 : Int32), (0 : Int32)) = some (lN (FB r n w (oddN r n w (linesP r n).length) (linesP r n).length).1) by rw [h]; rfl
  refine loop_for (f := b_X2_flipBack_15 cK cF p) (fun i => (lN (FB r n w (oddN r n w (linesP r n).length) (allP r n i).length).1, nI (FB r n w (oddN r n w (linesP r n).length) (allP r n i).length).2, nI (allP r n i).length, nI i)) n (fun i hi => ?_) ?_ 0 (by omega)
  · unfold b_X2_flipBack_15
    dsimp only
    rw [hn, if_neg (nI_ge hi (by omega)), nI_1, ← pos_first, flip_in hn hg h3 hw ho hi, pos_last]
    rfl
  · unfold b_X2_flipBack_15
    dsimp only
    rw [hn, if_pos (nI_le (Nat.le_refl _) (by omega))]
    rfl
/-! the reference -/
theorem flip_scan {r : Nat → Nat} {n w o l : Nat} {on ot : Nat → Int32} (hg : Gr n r) (hL : Lay (linesP r n) on ot) (hw : w < 2 ^ 63) (ho : o < 2 ^ n) (hl : l ≤ (linesP r n).length) : ∀ k i, (linesP r n).length - i = k → i ≤ (linesP r n).length → (i ≤ l ∨ FB r n w o i = FB r n w o l) → ∃ e, loop (b_X6_flipped_38 (nI (linesP r n).length) on ot (nI (FB r n w o l).2)) (lN (FB r n w o l).1, (0 : Int32), nI i) = some e ∧ ((e = (lN (FB r n w o l).1, 0) ∧ FB r n w o (linesP r n).length = FB r n w o l) ∨ ∃ j, l ≤ j ∧ j < (linesP r n).length ∧ e = (lN (FB r n w o (j + 1)).1, 1)) := by
  have h10 := hg.2.1
  have hle := lines_le hg
  have h31 : 2 ^ n ≤ 2 ^ 10 := Nat.pow_le_pow_right (by omega) h10
  obtain ⟨f1, f2⟩ := FB_lt hw ho hle l hl
  intro k
  induction k with
  | zero =>
    intro i hk hi hor
    have e : i = (linesP r n).length := by omega
    subst e
    refine ⟨_, loop_inr (f := b_X6_flipped_38 (nI (linesP r n).length) on ot (nI (FB r n w o l).2)) (r := (lN (FB r n w o l).1, (0 : Int32))) ?_, Or.inl ⟨rfl, ?_⟩⟩
    · unfold b_X6_flipped_38
      dsimp only
      rw [if_pos (nI_le (Nat.le_refl _) (by omega))]
    · rcases hor with h | h
      · rw [show l = (linesP r n).length by omega]
      · exact h
  | succ k ih =>
    intro i hk hi hor
    have hi2 : i < (linesP r n).length := by omega
    obtain ⟨o1, o2⟩ := ln_lay hL hi2
    obtain ⟨m1, m2, -⟩ := ln_mem hi2
    by_cases c : both r n (FB r n w o l).2 i
    · have hli : l ≤ i := by
        rcases Nat.lt_or_ge i l with q | q
        · exact absurd c (FB_past q hl)
        · exact q
      have hfi : FB r n w o i = FB r n w o l := by
        rcases hor with h | h
        · rw [show i = l by omega]
        · exact h
      have hnext : FB r n w o (i + 1) = ((FB r n w o l).1 ^^^ 2 ^ i, (FB r n w o l).2 ^^^ ends r n i) := by
        rw [FB, hfi, if_pos c]
      have hstep : b_X6_flipped_38 (nI (linesP r n).length) on ot (nI (FB r n w o l).2) (lN (FB r n w o l).1, (0 : Int32), nI i) = some (Sum.inl (lN (FB r n w o (i + 1)).1, (1 : Int32), nI (i + 1))) := by
        unfold b_X6_flipped_38
        dsimp only
        rw [if_neg (nI_ge hi2 (by omega)), if_pos rfl, chk_in (vp_in_nI (by omega) (by omega)), chk_in (vp_in_nI (by omega) (by omega)), nI_clamp (by omega), o1, o2, if_pos ((nI_bit (by omega) (by omega)).mpr c.1), if_pos ((nI_bit (by omega) (by omega)).mpr c.2), lN_two (by omega), lN_xor, nI_1, hnext]
      rw [loop_inl hstep]
      refine ⟨_, loop_inr (f := b_X6_flipped_38 (nI (linesP r n).length) on ot (nI (FB r n w o l).2)) (r := (lN (FB r n w o (i + 1)).1, (1 : Int32))) ?_, Or.inr ⟨i, hli, hi2, rfl⟩⟩
      unfold b_X6_flipped_38
      dsimp only
      by_cases z : nI (linesP r n).length ≤ nI (i + 1)
      · rw [if_pos z]
      · rw [if_neg z, if_neg (show ¬ ((1 : Int32) = 0) by decide)]
    · have hstep : b_X6_flipped_38 (nI (linesP r n).length) on ot (nI (FB r n w o l).2) (lN (FB r n w o l).1, (0 : Int32), nI i) = some (Sum.inl (lN (FB r n w o l).1, (0 : Int32), nI (i + 1))) := by
        unfold b_X6_flipped_38
        dsimp only
        rw [if_neg (nI_ge hi2 (by omega)), if_pos rfl, chk_in (vp_in_nI (by omega) (by omega)), chk_in (vp_in_nI (by omega) (by omega)), nI_clamp (by omega), o1, o2, nI_1]
        by_cases c1 : (FB r n w o l).2.testBit (ln r n i).1 = true
        · have c2 : ¬ (FB r n w o l).2.testBit (ln r n i).2 = true := fun z => c ⟨c1, z⟩
          rw [if_pos ((nI_bit (by omega) (by omega)).mpr c1), if_neg (fun z => c2 ((nI_bit (by omega) (by omega)).mp z))]
        · rw [if_neg (fun z => c1 ((nI_bit (by omega) (by omega)).mp z))]
      rw [loop_inl hstep]
      refine ih (i + 1) (by omega) (by omega) ?_
      rcases Nat.lt_or_ge i l with q | q
      · left; omega
      · right
        have hfi : FB r n w o i = FB r n w o l := by
          rcases hor with h | h
          · rw [show i = l by omega]
          · exact h
        rw [FB, hfi, if_neg c]
theorem s_flipM {r : Nat → Nat} {n w : Nat} {on ot : Nat → Int32} (hg : Gr n r) (hL : Lay (linesP r n) on ot) (hw : w < 2 ^ 63) : ∀ k l, (linesP r n).length - l = k → l ≤ (linesP r n).length → loop (b_X6_flipped_19 (nI (linesP r n).length) on ot) (lN (FB r n w (oddN r n w (linesP r n).length) l).1, (1 : Int32)) = some (lN (FB r n w (oddN r n w (linesP r n).length) (linesP r n).length).1) := by
  have hle := lines_le hg
  have ho := oddN_lt (r := r) (n := n) (w := w) _ (Nat.le_refl _)
  intro k
  induction k using Nat.strongRecOn with
  | ind k ih =>
    intro l hk hl
    obtain ⟨f1, f2⟩ := FB_lt hw ho hle l hl
    obtain ⟨e, he, hor⟩ := flip_scan hg hL hw ho hl _ 0 rfl (by omega) (Or.inl (by omega))
    have hstep : b_X6_flipped_19 (nI (linesP r n).length) on ot (lN (FB r n w (oddN r n w (linesP r n).length) l).1, (1 : Int32)) = some (Sum.inl (e.1, e.2)) := by
      unfold b_X6_flipped_19
      dsimp only
      rw [if_neg (show ¬ ((1 : Int32) = 0) by decide), s_oddOnes hg hL f1, FB_odd l hl]
      simp only [Option.bind_some]
      rw [nI_0] at he
      rw [he]
      rfl
    rw [loop_inl hstep]
    rcases hor with ⟨rfl, h⟩ | ⟨j, h1, h2, rfl⟩
    · rw [h]
      exact loop_inr (by unfold b_X6_flipped_19; dsimp only; rw [if_pos rfl])
    · exact ih _ (by omega) (j + 1) rfl (by omega)
theorem pure_flipped {kn ne cK : Nat → Int32} {cF : Nat → Nat → Int32} (ma : Int32) (on ot : Nat → Int32) (inv : Inv kn ne cK cF) (a0 : Int32) (x : Int64) : ∃ (v : Int64) (ma' : Int32) (on' ot' : Nat → Int32), s_X5_flipped cK cF a0 x = some v ∧ s_X6_flipped kn ne ma on ot a0 x = some (v, ma', on', ot') := by
  rcases net_or a0 with h | ⟨k, hk, rfl⟩
  · exact ⟨-2, ma, on, ot, by unfold s_X5_flipped; rw [netAt_no h]; rfl, by unfold s_X6_flipped s_X6_isWord; rw [isNet_no h]; rfl⟩
  · obtain ⟨N, r, hi⟩ := id inv
    obtain ⟨hg, b1, b2, b3⟩ := hi k hk
    have hf : (fin5 k).1 = k := fin5_val (by omega)
    have b2' : cK (fin5 k).1 = nI (N k) := by rw [hf]; exact b2
    have b3' : ∀ a, a < 10 → cF (fin5 k).1 a = nI (r k a) := fun a ha => by rw [hf]; exact (b3 a ha).2
    obtain ⟨on', ot', hL, h⟩ := word_or hk b1 hg (fun a ha => (b3 a ha).1) b2' b3' ma on ot x
    unfold s_X5_flipped s_X6_flipped
    rw [netAt_yes hk]
    simp only [Option.bind_some, Option.elim_some]
    rcases h with ⟨h1, h2⟩ | ⟨w, hw, rfl, h1, h2⟩
    · rw [h1, h2]
      exact ⟨_, _, _, _, rfl, rfl⟩
    · have hle := lines_le hg
      have hw63 : w < 2 ^ 63 := Nat.lt_of_lt_of_le hw (Nat.pow_le_pow_right (by omega) (by omega))
      rw [h1, h2]
      simp only [Option.bind_some]
      have hm := s_flipM (w := w) hg hL hw63 _ 0 rfl (by omega)
      rw [FB] at hm
      rw [if_neg (show ¬ ((1 : Int32) = 0) by decide), if_neg (show ¬ ((1 : Int32) = 0) by decide), s_flipBack b2' hg b3' hw63, hm]
      exact ⟨_, _, _, _, rfl, rfl⟩
theorem op_flipped (a0 : Int32) (a1 : Int64) : OpL Sim mX5_flipped mX6_flipped [vI a0, vL a1] := by
  rintro wc wm ⟨cK, cF, ga, gi, gs, oK, cT, ra, rb, cR, cP, cM, ea, eb, cW, aO, aC, aQ, kn, ne, fi, se, ma, on, ot, ta, po, ti, nu, mo, wa, nx, oT, cF', bg, ed, sF, qu, qd, tr, rfl, rfl, inv, h1, h2⟩
  obtain ⟨v, ma1, on1, ot1, e1, e2⟩ := pure_flipped ma on ot inv a0 a1
  exact ⟨v, _, _, c_X5_flipped (d := 4) e1, c_X6_flipped (d := 5) e2, _, _, _, _, _, _, _, _, _, _, _, _, _, _, _, _, _, _, _, _, _, _, _, _, _, _, _, _, _, _, _, _, _, _, _, _, _, _, _, _, rfl, rfl, inv, h1, h2⟩
