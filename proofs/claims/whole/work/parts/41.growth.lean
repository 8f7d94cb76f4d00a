/-! growth -/
def outK (r : Nat → Nat) (n s : Nat) : Nat := sm n (fun v => (!s.testBit v && (orA r s n).testBit v).toNat)
def outL (r : Nat → Nat) (n s : Nat) : Nat := sm n (fun v => sm n (fun c => (s.testBit v && ((r v).testBit c && !s.testBit c)).toNat))
def out (y : Int32) (r : Nat → Nat) (n s : Nat) : Nat := if y = 0 then outK r n s else outL r n s
theorem toNat_le (b : Bool) : b.toNat ≤ 1 := by cases b <;> decide
theorem outK_le (r : Nat → Nat) (n s : Nat) : outK r n s ≤ n := by
  have := sm_le (f := fun v => (!s.testBit v && (orA r s n).testBit v).toNat) (c := 1) (n := n) (fun i _ => toNat_le _)
  unfold outK
  omega
theorem outL_le (r : Nat → Nat) (n s : Nat) : outL r n s ≤ n * n := by
  refine sm_le (fun i _ => ?_)
  have := sm_le (f := fun c => (s.testBit i && ((r i).testBit c && !s.testBit c)).toNat) (c := 1) (n := n) (fun i _ => toNat_le _)
  omega
theorem out_le {n : Nat} (h10 : n ≤ 10) (y : Int32) (r : Nat → Nat) (s : Nat) : out y r n s ≤ 100 := by
  unfold out
  by_cases q : y = 0
  · rw [if_pos q]; have := outK_le r n s; omega
  · rw [if_neg q]
    have h1 := outL_le r n s
    have h2 : n * n ≤ 10 * 10 := Nat.mul_le_mul h10 h10
    omega
theorem popN {m n : Nat} (hn : n ≤ 10) (hm : m < 2 ^ n) : popA m 10 = sm n (fun b => (m.testBit b).toNat) := by
  rw [popA_sm]
  exact sm_ext hn (fun b hb _ => by rw [bit_hi hm hb]; rfl)
theorem s_knotsOut {cK : Nat → Int32} {cF : Nat → Nat → Int32} {p : Fin 5} {n s : Nat} {r : Nat → Nat} (hn : cK p.1 = nI n) (hg : Gr n r) (h3 : ∀ a, a < 10 → cF p.1 a = nI (r a)) (hs : s < 2 ^ n) : s_X1_knotsOut cK cF p (nI s) = some (nI (outK r n s)) := by
  have h10 := hg.2.1
  have h31 : 2 ^ n ≤ 2 ^ 10 := Nat.pow_le_pow_right (by omega) h10
  have hol := orA_lt' hg s n
  have hal : andn (orA r s n) s < 2 ^ n := Nat.lt_of_le_of_lt (andn_le _ _) hol
  unfold s_X1_knotsOut
  rw [s_besideSet (by omega) hn hg h3]
  simp only [Option.bind_some]
  rw [nI_andn, bc10 _ (by omega)]
  simp only [Option.bind_some]
  rw [popN h10 hal]
  unfold outK
  congr 2
  refine sm_congr fun v _ => ?_
  rw [andn_bit _ _ (by omega), Bool.and_comm]
theorem s_linesOut {cK : Nat → Int32} {cF : Nat → Nat → Int32} {p : Fin 5} {n s : Nat} {r : Nat → Nat} (hn : cK p.1 = nI n) (hg : Gr n r) (h3 : ∀ a, a < 10 → cF p.1 a = nI (r a)) (hs : s < 2 ^ n) : s_X1_linesOut cK cF p (nI s) = some (nI (outL r n s)) := by
  have h10 := hg.2.1
  have h31 : 2 ^ n ≤ 2 ^ 10 := Nat.pow_le_pow_right (by omega) h10
  suffices h : loop (b_X1_linesOut_4 cK cF p (nI s)) ((0 : Int32), (0 : Int32)) = some (nI (outL r n s)) by unfold s_X1_linesOut; rw [h]; rfl
  refine loop_for (f := b_X1_linesOut_4 cK cF p (nI s)) (fun i => (nI (sm i (fun v => sm n (fun c => (s.testBit v && ((r v).testBit c && !s.testBit c)).toNat))), nI i)) n (fun i hi => ?_) ?_ 0 (by omega)
  · unfold b_X1_linesOut_4
    dsimp only
    rw [hn, if_neg (nI_ge hi (by omega)), nI_1, sm]
    by_cases q : s.testBit i = true
    · have hal : andn (r i) s < 2 ^ n := Nat.lt_of_le_of_lt (andn_le _ _) (hg.2.2.1 i hi)
      rw [if_pos ((nI_bit (by omega) (by omega)).mpr q), chk_in (vp_in_nI (by omega) (by omega)), nI_clamp (by omega), h3 i (by omega), nI_andn, bc10 _ (by omega)]
      simp only [Option.bind_some]
      rw [nI_add, popN h10 hal]
      congr 5
      refine sm_congr fun c _ => ?_
      have := hg.2.2.1 i hi
      rw [andn_bit _ _ (by omega), q, Bool.true_and]
    · rw [if_neg (fun z => q ((nI_bit (by omega) (by omega)).mp z))]
      rw [sm_congr (n := n) (f := fun c => (s.testBit i && ((r i).testBit c && !s.testBit c)).toNat) (g := fun _ => 0) (fun c _ => by rw [Bool.eq_false_iff.mpr q]; rfl), sm_zero]
      rfl
  · unfold b_X1_linesOut_4
    dsimp only
    rw [hn, if_pos (nI_le (Nat.le_refl _) (by omega))]
    rfl
theorem pop_pos {m n : Nat} (hn : n ≤ 10) (hm : m < 2 ^ n) : popA m 10 = 0 ↔ m = 0 := by
  constructor
  · intro h
    apply Nat.eq_of_testBit_eq
    intro b
    rw [Nat.zero_testBit]
    cases hb : m.testBit b
    · rfl
    · have h0 : subB 0 m := fun b hb => by rw [Nat.zero_testBit] at hb; cases hb
      have := pop_lt (b := b) h0 (Nat.zero_testBit b) hb 10 (by have := bit_lt hm hb; omega)
      omega
  · rintro rfl; decide
theorem and_lt {a b n : Nat} (h : b < 2 ^ n) : a &&& b < 2 ^ n := Nat.lt_of_le_of_lt Nat.and_le_right h
theorem s_outside {kn ne : Nat → Int32} {k n s : Nat} {r : Nat → Nat} (hk : k < 4) (hn : kn k = nI n) (hg : Gr n r) (h3 : ∀ a, a < 10 → ne (10 * k + a) = nI (r a)) (hs : s < 2 ^ n) (y : Int32) : s_X6_outside kn ne (nI k) (nI s) y = some (nI (out y r n s)) := by
  have h10 := hg.2.1
  have h31 : 2 ^ n ≤ 2 ^ 10 := Nat.pow_le_pow_right (by omega) h10
  have hand : ∀ v, r v &&& s < 2 ^ n := fun v => and_lt hs
  have hpl : ∀ v, popA (r v &&& s) 10 ≤ 10 := fun v => popA_le _ _
  have hi00 : (0 : Int32) ≤ 0 := by decide
  have hadd0 : ∀ a, nI a + (0 : Int32) = nI a := fun a => by rw [i0, nI_add]; rfl
  by_cases hy : y = 0
  · have hq : loop (b_X6_outside_6 kn ne (nI k) (nI s) y) ((0 : Int32), (0 : Int32)) = some (nI (sm n (fun v => if s.testBit v = true then 0 else if popA (r v &&& s) 10 = 0 then 0 else 1))) := by
      refine loop_for (f := b_X6_outside_6 kn ne (nI k) (nI s) y) (fun i => (nI (sm i (fun v => if s.testBit v = true then 0 else if popA (r v &&& s) 10 = 0 then 0 else 1)), nI i)) n (fun i hi => ?_) ?_ 0 (by omega)
      · unfold b_X6_outside_6
        dsimp only
        have h2 := hand i
        rw [chk_in (vp_in_nI hk (by omega)), nI_clamp (by omega), hn, if_neg (nI_ge hi (by omega)), if_pos hy, if_pos hi00, ix10, chk_in (vp_in_nI (by omega) (by omega)), nI_clamp (by omega), h3 i (by omega), nI_and, s_bits (by omega)]
        simp only [Option.bind_some]
        rw [if_pos hy, sm, nI_1, nI_1, hadd0]
        by_cases q : s.testBit i = true
        · rw [if_pos ((nI_bit (by omega) (by omega)).mpr q), if_pos q]
          rfl
        · rw [if_neg (fun z => q ((nI_bit (by omega) (by omega)).mp z)), if_neg q]
          have := hpl i
          by_cases c : popA (r i &&& s) 10 = 0
          · rw [if_pos (by rw [c]; decide), if_pos c]
            rfl
          · rw [if_neg (nI_nle (by omega) (by omega)), if_neg c]
      · unfold b_X6_outside_6
        dsimp only
        rw [chk_in (vp_in_nI hk (by omega)), nI_clamp (by omega), hn, if_pos (nI_le (Nat.le_refl _) (by omega))]
    unfold s_X6_outside out
    rw [hq, if_pos hy]
    simp only [Option.bind_some]
    unfold outK
    congr 2
    refine sm_congr fun v hv => ?_
    by_cases q : s.testBit v = true
    · rw [if_pos q, q]; rfl
    · rw [if_neg q, Bool.eq_false_iff.mpr q, Bool.not_false, Bool.true_and]
      by_cases c : popA (r v &&& s) 10 = 0
      · rw [if_pos c]
        have c2 := (pop_pos h10 (hand v)).mp c
        cases ho : (orA r s n).testBit v
        · rfl
        · obtain ⟨j, h1, h2, h4⟩ := (orA_bit v n).mp ho
          have : (r v &&& s).testBit j = true := by
            rw [Nat.testBit_and, h2, hg.2.2.2.2.1, h4]; rfl
          rw [c2, Nat.zero_testBit] at this; cases this
      · rw [if_neg c]
        have c2 : r v &&& s ≠ 0 := fun z => c ((pop_pos h10 (hand v)).mpr z)
        have h0 : subB 0 (r v &&& s) := fun b hb => by rw [Nat.zero_testBit] at hb; cases hb
        obtain ⟨j, -, h2⟩ := sub_ne h0 (fun z => c2 z.symm)
        rw [Nat.testBit_and, Bool.and_eq_true] at h2
        rw [(orA_bit v n).mpr ⟨j, bit_lt hs h2.2, h2.2, by rw [hg.2.2.2.2.1]; exact h2.1⟩]
        rfl
  · have hq : loop (b_X6_outside_6 kn ne (nI k) (nI s) y) ((0 : Int32), (0 : Int32)) = some (nI (sm n (fun v => if s.testBit v = true then 0 else popA (r v &&& s) 10))) := by
      refine loop_for (f := b_X6_outside_6 kn ne (nI k) (nI s) y) (fun i => (nI (sm i (fun v => if s.testBit v = true then 0 else popA (r v &&& s) 10)), nI i)) n (fun i hi => ?_) ?_ 0 (by omega)
      · unfold b_X6_outside_6
        dsimp only
        have h2 := hand i
        rw [chk_in (vp_in_nI hk (by omega)), nI_clamp (by omega), hn, if_neg (nI_ge hi (by omega)), if_neg hy, ix10, chk_in (vp_in_nI (by omega) (by omega)), nI_clamp (by omega), h3 i (by omega), nI_and, s_bits (by omega)]
        simp only [Option.bind_some]
        rw [if_neg hy, sm, nI_1, hadd0, nI_add]
        by_cases q : s.testBit i = true
        · rw [if_pos ((nI_bit (by omega) (by omega)).mpr q), if_pos q]
          rfl
        · rw [if_neg (fun z => q ((nI_bit (by omega) (by omega)).mp z)), if_neg q]
      · unfold b_X6_outside_6
        dsimp only
        rw [chk_in (vp_in_nI hk (by omega)), nI_clamp (by omega), hn, if_pos (nI_le (Nat.le_refl _) (by omega))]
    unfold s_X6_outside out
    rw [hq, if_neg hy]
    simp only [Option.bind_some]
    unfold outL
    rw [sm_comm]
    congr 2
    refine sm_congr fun v hv => ?_
    by_cases q : s.testBit v = true
    · rw [if_pos q, sm_congr (n := n) (g := fun _ => 0) (fun c _ => by rw [q]; simp), sm_zero]
    · rw [if_neg q, popN h10 (hand v)]
      refine sm_congr fun c _ => ?_
      rw [Nat.testBit_and, Bool.eq_false_iff.mpr q, hg.2.2.2.2.1 c v, Bool.not_false, Bool.and_true, Bool.and_comm]
def gS (y : Int32) (r : Nat → Nat) (n : Nat) : Nat → Nat
  | 0 => 0
  | i + 1 => if i + 1 = 1 then 0 else if 2 * popA i 10 ≤ n then (if gS y r n i = 0 then i else if out y r n (gS y r n i) * popA i 10 ≤ out y r n i * popA (gS y r n i) 10 then gS y r n i else i) else gS y r n i
theorem gS_step (y : Int32) (r : Nat → Nat) (n : Nat) {i : Nat} (h : 1 ≤ i) : gS y r n (i + 1) = if 2 * popA i 10 ≤ n then (if gS y r n i = 0 then i else if out y r n (gS y r n i) * popA i 10 ≤ out y r n i * popA (gS y r n i) 10 then gS y r n i else i) else gS y r n i := by
  rw [gS, if_neg (by omega)]
theorem gS_lt (y : Int32) (r : Nat → Nat) (n : Nat) : ∀ i, gS y r n i ≤ i
  | 0 => Nat.le_refl 0
  | i + 1 => by
    have ih := gS_lt y r n i
    rcases Nat.eq_zero_or_pos i with q | q
    · subst q; rw [gS, if_pos rfl]; omega
    · rw [gS_step _ _ _ q]
      by_cases c1 : 2 * popA i 10 ≤ n
      · rw [if_pos c1]
        by_cases c2 : gS y r n i = 0
        · rw [if_pos c2]; omega
        · rw [if_neg c2]
          by_cases c3 : out y r n (gS y r n i) * popA i 10 ≤ out y r n i * popA (gS y r n i) 10
          · rw [if_pos c3]; omega
          · rw [if_neg c3]; omega
      · rw [if_neg c1]; omega
theorem gS_lt' (y : Int32) (r : Nat → Nat) (n : Nat) : ∀ i, 1 ≤ i → gS y r n i < i
  | 0, h => by omega
  | i + 1, h => by
    have ih := gS_lt y r n i
    rcases Nat.eq_zero_or_pos i with q | q
    · subst q; rw [gS, if_pos rfl]; omega
    · rw [gS_step _ _ _ q]
      by_cases c1 : 2 * popA i 10 ≤ n
      · rw [if_pos c1]
        by_cases c2 : gS y r n i = 0
        · rw [if_pos c2]; omega
        · rw [if_neg c2]
          by_cases c3 : out y r n (gS y r n i) * popA i 10 ≤ out y r n i * popA (gS y r n i) 10
          · rw [if_pos c3]; omega
          · rw [if_neg c3]; omega
      · rw [if_neg c1]; omega
theorem gS_pos (y : Int32) (r : Nat → Nat) {n : Nat} (hn : 2 ≤ n) : ∀ d, gS y r n (2 + d) ≠ 0
  | 0 => by
    have h1 : gS y r n 1 = 0 := by rw [gS, if_pos rfl]
    have h2 : popA 1 10 = 1 := by decide
    rw [show 2 + 0 = 1 + 1 from rfl, gS_step _ _ _ (Nat.le_refl 1), h1, h2, if_pos (by omega), if_pos rfl]; decide
  | d + 1 => by
    have ih := gS_pos y r hn d
    rw [← Nat.add_assoc, gS_step _ _ _ (by omega)]
    by_cases c1 : 2 * popA (2 + d) 10 ≤ n
    · rw [if_pos c1, if_neg ih]
      by_cases c3 : out y r n (gS y r n (2 + d)) * popA (2 + d) 10 ≤ out y r n (2 + d) * popA (gS y r n (2 + d)) 10
      · rw [if_pos c3]; exact ih
      · rw [if_neg c3]; omega
    · rw [if_neg c1]; exact ih
def gT (y : Int32) (r : Nat → Nat) (n s : Nat) : Int32 × Int32 × Int32 := if s = 0 then (1, 0, 0) else (nI (out y r n s), nI (popA s 10), nI s)
theorem pop_one {m n : Nat} (hn : n ≤ 10) (hm : m < 2 ^ n) (h : 1 ≤ m) : 1 ≤ popA m 10 := by
  have := (pop_pos hn hm).mp
  rcases Nat.eq_zero_or_pos (popA m 10) with q | q
  · have := this q; omega
  · exact q
theorem mul_le100 {a b : Nat} (ha : a ≤ 100) (hb : b ≤ 10) : a * b < 2 ^ 31 := by
  have : a * b ≤ 100 * 10 := Nat.mul_le_mul ha hb
  omega
theorem s_seek {cK : Nat → Int32} {cF : Nat → Nat → Int32} {p : Fin 5} {n : Nat} {r : Nat → Nat} (hn : cK p.1 = nI n) (hg : Gr n r) (h3 : ∀ a, a < 10 → cF p.1 a = nI (r a)) (ga gi gs y : Int32) : s_X1_seek cK cF ga gi gs p y = some (gT y r n (gS y r n (2 ^ n))) := by
  have h10 := hg.2.1
  have h31 : 2 ^ n ≤ 2 ^ 10 := Nat.pow_le_pow_right (by omega) h10
  have h21 : 2 ^ 1 ≤ 2 ^ n := Nat.pow_le_pow_right (by omega) hg.1
  have e2 : nI n / (2 : Int32) = nI (n / 2) := by rw [show (2 : Int32) = nI 2 by decide, pk_div (by omega) (by omega) (by omega)]
  obtain ⟨e, he, rfl⟩ := loop_cnt (f := b_X1_seek_25 cK cF p y (nI (2 ^ n))) (fun i x => 1 ≤ i ∧ x = (nI i, gT y r n (gS y r n i))) (2 ^ n) (fun e => e = gT y r n (gS y r n (2 ^ n))) (by
    rintro i x hi ⟨h1, rfl⟩
    have hout := out_le h10 y r i
    have hpop := popA_le i 10
    have hpop1 := pop_one h10 hi h1
    have hgl := gS_lt' y r n i h1
    have hgout : (if y = 0 then (s_X1_knotsOut cK cF p (nI i)) else (s_X1_linesOut cK cF p (nI i))) = some (nI (out y r n i)) := by
      unfold out
      by_cases hy : y = 0
      · rw [if_pos hy, if_pos hy, s_knotsOut hn hg h3 hi]
      · rw [if_neg hy, if_neg hy, s_linesOut hn hg h3 hi]
    unfold b_X1_seek_25
    dsimp only
    rw [if_neg (nI_ge hi (by omega)), bc10 _ (by omega)]
    simp only [Option.bind_some]
    rw [hn, e2, gS_step _ _ _ h1, nI_1]
    by_cases c1 : 2 * popA i 10 ≤ n
    · rw [if_pos (nI_le (by omega) (by omega)), if_pos c1]
      have key : (if (gT y r n (gS y r n i)).1 * nI (popA i 10) ≤ nI (out y r n i) * (gT y r n (gS y r n i)).2.1 then (some (Sum.inl (nI (i + 1), (gT y r n (gS y r n i)).1, (gT y r n (gS y r n i)).2.1, (gT y r n (gS y r n i)).2.2))) else (some (Sum.inl (nI (i + 1), nI (out y r n i), nI (popA i 10), nI i)))) = (some (Sum.inl (nI (i + 1), gT y r n (if gS y r n i = 0 then i else if out y r n (gS y r n i) * popA i 10 ≤ out y r n i * popA (gS y r n i) 10 then gS y r n i else i))) : Option ((Int32 × Int32 × Int32 × Int32) ⊕ (Int32 × Int32 × Int32))) := by
        have hti : gT y r n i = (nI (out y r n i), nI (popA i 10), nI i) := by unfold gT; rw [if_neg (by omega)]
        by_cases c2 : gS y r n i = 0
        · have ht : gT y r n (gS y r n i) = (1, 0, 0) := by unfold gT; rw [if_pos c2]
          rw [ht, if_pos c2, hti]
          dsimp only
          rw [if_neg]
          rw [i1, i0, pk_mul, pk_mul, Nat.one_mul, Nat.mul_zero]
          exact nI_ge (by omega) (by omega)
        · have ht : gT y r n (gS y r n i) = (nI (out y r n (gS y r n i)), nI (popA (gS y r n i) 10), nI (gS y r n i)) := by unfold gT; rw [if_neg c2]
          rw [if_neg c2]
          have hb1 := mul_le100 (out_le h10 y r (gS y r n i)) hpop
          have hb2 := mul_le100 hout (popA_le (gS y r n i) 10)
          rw [ht]
          dsimp only
          rw [pk_mul, pk_mul]
          by_cases c3 : out y r n (gS y r n i) * popA i 10 ≤ out y r n i * popA (gS y r n i) 10
          · rw [if_pos (nI_le c3 hb2), if_pos c3, ht]
          · rw [if_neg (nI_ge (by omega) hb1), if_neg c3, hti]
      refine ⟨_, ?_, by omega, rfl⟩
      rw [← key]
      by_cases hy : y = 0
      · rw [if_pos hy] at hgout ⊢
        rw [hgout]
        rfl
      · rw [if_neg hy] at hgout ⊢
        rw [hgout]
        rfl
    · rw [if_neg (nI_ge (by omega) (by omega)), if_neg c1]
      exact ⟨_, rfl, by omega, rfl⟩) (by
    rintro x ⟨h1, rfl⟩
    unfold b_X1_seek_25
    dsimp only
    rw [if_pos (nI_le (Nat.le_refl _) (by omega))]
    exact ⟨_, rfl, rfl⟩) 1 ((1 : Int32), (1 : Int32), (0 : Int32), (0 : Int32)) (by omega) ⟨Nat.le_refl 1, rfl⟩
  unfold s_X1_seek
  rw [hn, nI_two (by omega), he]
  rfl
theorem s_growM {kn ne : Nat → Int32} {k n : Nat} {r : Nat → Nat} (hk : k < 4) (hn : kn k = nI n) (hg : Gr n r) (h3 : ∀ a, a < 10 → ne (10 * k + a) = nI (r a)) (y : Int32) : loop (b_X6_growth_25 kn ne (nI k) y) ((0 : Int32), (1 : Int32)) = some (nI (gS y r n (2 ^ n))) := by
  have h10 := hg.2.1
  have h31 : 2 ^ n ≤ 2 ^ 10 := Nat.pow_le_pow_right (by omega) h10
  have h21 : 2 ^ 1 ≤ 2 ^ n := Nat.pow_le_pow_right (by omega) hg.1
  obtain ⟨e, he, rfl⟩ := loop_cnt (f := b_X6_growth_25 kn ne (nI k) y) (fun i x => 1 ≤ i ∧ x = (nI (gS y r n i), nI i)) (2 ^ n) (fun e => e = nI (gS y r n (2 ^ n))) (by
    rintro i x hi ⟨h1, rfl⟩
    have hout := out_le h10 y r i
    have hpop := popA_le i 10
    have hgl := gS_lt' y r n i h1
    unfold b_X6_growth_25
    dsimp only
    rw [chk_in (vp_in_nI hk (by omega)), nI_clamp (by omega), hn, nI_two (by omega), if_neg (nI_ge hi (by omega)), s_bits (by omega)]
    simp only [Option.bind_some]
    rw [chk_in (vp_in_nI hk (by omega)), show (2 : Int32) = nI 2 by decide, pk_mul, gS_step _ _ _ h1, nI_1]
    by_cases c1 : 2 * popA i 10 ≤ n
    · rw [if_neg (nI_nlt c1 (by omega)), if_pos c1]
      by_cases c2 : gS y r n i = 0
      · rw [if_pos (by rw [c2]; decide), if_pos c2, if_neg (show ¬ ((1 : Int32) = 0) by decide)]
        exact ⟨_, rfl, by omega, rfl⟩
      · have hb1 := mul_le100 (out_le h10 y r (gS y r n i)) hpop
        have hb2 := mul_le100 hout (popA_le (gS y r n i) 10)
        rw [if_neg (nI_ne0 (by omega) (by omega)), if_neg c2, s_outside hk hn hg h3 hi, s_outside hk hn hg h3 (by omega), s_bits (by omega)]
        simp only [Option.bind_some]
        rw [pk_mul, pk_mul]
        by_cases c3 : out y r n (gS y r n i) * popA i 10 ≤ out y r n i * popA (gS y r n i) 10
        · rw [if_pos (nI_le c3 hb2), if_pos c3, if_pos trivial]
          exact ⟨_, rfl, by omega, rfl⟩
        · rw [if_neg (nI_ge (by omega) hb1), if_neg c3, if_neg (show ¬ ((1 : Int32) = 0) by decide)]
          exact ⟨_, rfl, by omega, rfl⟩
    · rw [if_pos (nI_lt (by omega) (by omega)), if_neg c1]
      exact ⟨_, rfl, by omega, rfl⟩) (by
    rintro x ⟨h1, rfl⟩
    unfold b_X6_growth_25
    dsimp only
    rw [chk_in (vp_in_nI hk (by omega)), nI_clamp (by omega), hn, nI_two (by omega), if_pos (nI_le (Nat.le_refl _) (by omega))]
    exact ⟨_, rfl, rfl⟩) 1 ((0 : Int32), (1 : Int32)) (by omega) ⟨Nat.le_refl 1, rfl⟩
  exact he
theorem pure_growth {kn ne cK : Nat → Int32} {cF : Nat → Nat → Int32} (ga gi gs : Int32) (inv : Inv kn ne cK cF) (a0 a1 a2 : Int32) : ∃ (v ga' gi' gs' : Int32), s_X5_growth cK cF ga gi gs a0 a1 a2 = some (v, ga', gi', gs') ∧ s_X6_growth kn ne a0 a1 a2 = some v := by
  rcases net_or a0 with h | ⟨k, hk, rfl⟩
  · exact ⟨-2, ga, gi, gs, by unfold s_X5_growth; rw [netAt_no h]; rfl, by unfold s_X6_growth; rw [isNet_no h]; rfl⟩
  · obtain ⟨N, r, hi⟩ := id inv
    obtain ⟨hg, b1, b2, b3⟩ := hi k hk
    have hf : (fin5 k).1 = k := fin5_val (by omega)
    have h10 := hg.2.1
    have h31 : 2 ^ N k ≤ 2 ^ 10 := Nat.pow_le_pow_right (by omega) h10
    have b2' : cK (fin5 k).1 = nI (N k) := by rw [hf]; exact b2
    have b3' : ∀ a, a < 10 → cF (fin5 k).1 a = nI (r k a) := fun a ha => by rw [hf]; exact (b3 a ha).2
    have b3m : ∀ a, a < 10 → ne (10 * k + a) = nI (r k a) := fun a ha => (b3 a ha).1
    unfold s_X5_growth s_X6_growth
    rw [netAt_yes hk, isNet_yes hk]
    simp only [Option.bind_some, Option.elim_some]
    rw [if_neg (show ¬ ((1 : Int32) = 0) by decide)]
    by_cases q1 : a2 < 0
    · rw [if_pos q1, in_lo q1]
      exact ⟨_, _, _, _, rfl, rfl⟩
    · rw [if_neg q1]
      by_cases q2 : a2 ≤ 2
      · have q3 : ¬ 2 < a2 := by
          rw [Int32.lt_iff_toInt_lt]; rw [Int32.le_iff_toInt_le] at q2; omega
        rw [if_pos q2, in_yes q1 q3, s_growM hk b1 hg b3m]
        simp only [Option.bind_some]
        rw [if_neg (show ¬ ((1 : Int32) = 0) by decide), b2']
        by_cases c : N k = 1
        · have hz : gS a1 (r k) (N k) (2 ^ N k) = 0 := by
            rw [c, show 2 ^ 1 = 1 + 1 from rfl, gS_step _ _ _ (Nat.le_refl 1), if_neg (by decide), gS, if_pos rfl]
          rw [if_pos (by rw [c]; rfl), hz, if_pos (by decide)]
          exact ⟨_, _, _, _, rfl, rfl⟩
        · have h1 := hg.1
          have h4 : 2 ^ 2 ≤ 2 ^ N k := Nat.pow_le_pow_right (by omega) (by omega)
          have hnz : gS a1 (r k) (N k) (2 ^ N k) ≠ 0 := by
            have := gS_pos a1 (r k) (n := N k) (by omega) (2 ^ N k - 2)
            rw [show 2 + (2 ^ N k - 2) = 2 ^ N k by omega] at this
            exact this
          have hgl := gS_lt' a1 (r k) (N k) (2 ^ N k) (by omega)
          rw [if_neg (by rw [i1]; exact fun z => c ((nI_eq (by omega) (by omega)).mp z)), s_seek b2' hg b3', if_neg (nI_ne0 (by omega) (by omega)), s_outside hk b1 hg b3m hgl, s_bits (by omega)]
          have ht : gT a1 (r k) (N k) (gS a1 (r k) (N k) (2 ^ N k)) = (nI (out a1 (r k) (N k) (gS a1 (r k) (N k) (2 ^ N k))), nI (popA (gS a1 (r k) (N k) (2 ^ N k)) 10), nI (gS a1 (r k) (N k) (2 ^ N k))) := by unfold gT; rw [if_neg hnz]
          rw [ht]
          simp only [Option.bind_some]
          by_cases e0 : a2 = 0
          · rw [if_pos e0, if_pos e0]
            exact ⟨_, _, _, _, rfl, rfl⟩
          · rw [if_neg e0, if_neg e0]
            by_cases e1 : a2 = 1
            · rw [if_pos e1, if_pos e1]
              exact ⟨_, _, _, _, rfl, rfl⟩
            · rw [if_neg e1, if_neg e1]
              exact ⟨_, _, _, _, rfl, rfl⟩
      · have q3 : 2 < a2 := by
          rw [Int32.lt_iff_toInt_lt]; rw [Int32.le_iff_toInt_le] at q2; omega
        rw [if_neg q2, in_hi q3]
        exact ⟨_, _, _, _, rfl, rfl⟩
theorem op_growth (a0 : Int32) (a1 : Int32) (a2 : Int32) : OpI Sim mX5_growth mX6_growth [vI a0, vI a1, vI a2] := by
  rintro wc wm ⟨cK, cF, ga, gi, gs, oK, cT, ra, rb, cR, cP, cM, ea, eb, cW, aO, aC, aQ, kn, ne, fi, se, ma, on, ot, ta, po, ti, nu, mo, wa, nx, oT, cF', bg, ed, sF, qu, qd, tr, rfl, rfl, inv, h1, h2⟩
  obtain ⟨v, ga1, gi1, gs1, e1, e2⟩ := pure_growth ga gi gs inv a0 a1 a2
  exact ⟨v, _, _, c_X5_growth (d := 5) e1, c_X6_growth (d := 6) e2, _, _, _, _, _, _, _, _, _, _, _, _, _, _, _, _, _, _, _, _, _, _, _, _, _, _, _, _, _, _, _, _, _, _, _, _, _, _, _, _, rfl, rfl, inv, h1, h2⟩
