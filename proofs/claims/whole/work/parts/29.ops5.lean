theorem s_evenDegree {cK : Nat → Int32} {cF : Nat → Nat → Int32} {p : Fin 5} {n : Nat} {r : Nat → Nat} (hn : cK p.1 = nI n) (hg : Gr n r) (h3 : ∀ a, a < 10 → cF p.1 a = nI (r a)) : s_X2_evenDegree cK cF p = some (evenA r n) := by
  have h10 := hg.2.1
  have hone := hg.1
  have hp : ∀ j, popA (r j) 10 < 2 ^ 31 := fun j => by have := popA_le (r j) 10; omega
  have hd0 := s_degree (p := p) (a := 0) (r := r) (by omega) (Gr_lt hg 0) (h3 0 (by omega))
  obtain ⟨e, he, hP⟩ := loop_spec (f := b_X2_evenDegree_2 cK cF p) (fun x => ∃ i, 1 ≤ i ∧ i ≤ n ∧ x = nI i ∧ ∀ j, j < i → popA (r j) 10 = popA (r 0) 10) (fun x => n - x.toNatClampNeg) (fun e => (e = .inl () ∧ ¬ ∀ j, j < n → popA (r j) 10 = popA (r 0) 10) ∨ (e = .inr () ∧ ∀ j, j < n → popA (r j) 10 = popA (r 0) 10)) (by
    rintro x ⟨i, hi1, hi2, rfl, hall⟩
    unfold b_X2_evenDegree_2
    by_cases hin : n ≤ i
    · have e : i = n := by omega
      subst e
      refine Or.inr ⟨_, ?_, Or.inr ⟨rfl, hall⟩⟩
      rw [hn, if_pos (nI_le (Nat.le_refl _) (by omega))]
    · rw [hn, if_neg (nI_ge (by omega) (by omega)), s_degree (by omega) (Gr_lt hg i) (h3 i (by omega)), show (0 : Int32) = nI 0 from rfl, hd0]
      simp only [Option.bind_some]
      by_cases hq : popA (r i) 10 = popA (r 0) 10
      · refine Or.inl ⟨nI (i + 1), ?_, ⟨i + 1, by omega, by omega, rfl, fun j hj => ?_⟩, ?_⟩
        · rw [if_pos (by rw [hq]), nI_1]
        · rcases Nat.lt_or_ge j i with q | q
          · exact hall j q
          · rw [show j = i by omega]; exact hq
        · show n - (nI (i + 1)).toNatClampNeg < n - (nI i).toNatClampNeg
          rw [nI_clamp (by omega), nI_clamp (by omega)]
          omega
      · refine Or.inr ⟨_, ?_, Or.inl ⟨rfl, fun z => hq (z i (by omega))⟩⟩
        rw [if_neg (fun z => hq ((nI_eq (hp _) (hp _)).mp z))]) (1 : Int32) ⟨1, Nat.le_refl 1, hone, rfl, fun j hj => by rw [show j = 0 by omega]⟩
  unfold s_X2_evenDegree
  rw [he]
  simp only [Option.bind_some]
  rcases hP with ⟨rfl, h⟩ | ⟨rfl, h⟩
  · simp only [Sum.elim_inl]
    unfold evenA
    rw [if_neg h]
  · simp only [Sum.elim_inr]
    rw [show (0 : Int32) = nI 0 from rfl, hd0]
    unfold evenA
    rw [if_pos h]
    rfl
theorem nI_or (a b : Nat) : nI a ||| nI b = nI (a ||| b) := by
  apply Int32.toBitVec_inj.mp
  show BitVec.ofNat 32 a ||| BitVec.ofNat 32 b = BitVec.ofNat 32 (a ||| b)
  exact (BitVec.ofNat_or ..).symm
theorem nI_and (a b : Nat) : nI a &&& nI b = nI (a &&& b) := by
  apply Int32.toBitVec_inj.mp
  show BitVec.ofNat 32 a &&& BitVec.ofNat 32 b = BitVec.ofNat 32 (a &&& b)
  exact (BitVec.ofNat_and ..).symm
/-- all neighbours of the knots below i that are in the set s -/
def orA (r : Nat → Nat) (s : Nat) : Nat → Nat
  | 0 => 0
  | i + 1 => orA r s i ||| (if s.testBit i = true then r i else 0)
theorem orA_lt {n : Nat} {r : Nat → Nat} (hg : Gr n r) (s : Nat) : ∀ i, orA r s i < 2 ^ 10
  | 0 => Nat.two_pow_pos 10
  | i + 1 => by
    refine Nat.or_lt_two_pow (orA_lt hg s i) ?_
    by_cases q : s.testBit i = true
    · rw [if_pos q]; exact Gr_lt hg i
    · rw [if_neg q]; exact Nat.two_pow_pos 10
theorem orA_bit {r : Nat → Nat} {s : Nat} (b : Nat) : ∀ i, (orA r s i).testBit b = true ↔ ∃ j, j < i ∧ s.testBit j = true ∧ (r j).testBit b = true
  | 0 => by
    constructor
    · intro h; rw [orA, Nat.zero_testBit] at h; cases h
    · rintro ⟨j, hj, -⟩; omega
  | i + 1 => by
    rw [orA, Nat.testBit_or, Bool.or_eq_true, orA_bit b i]
    constructor
    · rintro (⟨j, h1, h2, h3⟩ | h)
      · exact ⟨j, by omega, h2, h3⟩
      · by_cases q : s.testBit i = true
        · rw [if_pos q] at h; exact ⟨i, by omega, q, h⟩
        · rw [if_neg q, Nat.zero_testBit] at h; cases h
    · rintro ⟨j, h1, h2, h3⟩
      rcases Nat.lt_or_ge j i with q | q
      · exact Or.inl ⟨j, q, h2, h3⟩
      · have e : j = i := by omega
        subst e
        exact Or.inr (by rw [if_pos h2]; exact h3)
theorem s_besideSet {cK : Nat → Int32} {cF : Nat → Nat → Int32} {p : Fin 5} {n s : Nat} {r : Nat → Nat} (hs : s < 2 ^ 31) (hn : cK p.1 = nI n) (hg : Gr n r) (h3 : ∀ a, a < 10 → cF p.1 a = nI (r a)) : s_X2_besideSet cK cF p (nI s) = some (nI (orA r s n)) := by
  have h10 := hg.2.1
  suffices h : loop (b_X2_besideSet_4 cK cF p (nI s)) ((0 : Int32), (0 : Int32)) = some (nI (orA r s n)) by unfold s_X2_besideSet; rw [h]; rfl
  refine loop_for (f := b_X2_besideSet_4 cK cF p (nI s)) (fun i => (nI (orA r s i), nI i)) n (fun i hi => ?_) ?_ 0 (by omega)
  · unfold b_X2_besideSet_4
    dsimp only
    rw [hn, if_neg (nI_ge hi (by omega))]
    by_cases q : s.testBit i = true
    · rw [if_pos ((nI_bit hs (by omega)).mpr q), chk_in (vp_in_nI (by omega) (by omega)), nI_clamp (by omega), h3 i (by omega), nI_or, nI_1, orA, if_pos q]
    · rw [if_neg (fun z => q ((nI_bit hs (by omega)).mp z)), nI_1, orA, if_neg q, Nat.or_zero]
  · unfold b_X2_besideSet_4
    dsimp only
    rw [hn, if_pos (nI_le (Nat.le_refl _) (by omega))]
