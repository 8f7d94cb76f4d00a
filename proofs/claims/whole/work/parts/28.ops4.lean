/-! how many bits -/
def popA (m : Nat) : Nat → Nat
  | 0 => 0
  | i + 1 => popA m i + (m >>> i) % 2
theorem bc10 : ∀ m, m < 1024 → s_J6_bitCount_0f7a4 (nI m) = some (nI (popA m 10)) := by decide +kernel
theorem popA_le (m : Nat) : ∀ i, popA m i ≤ i
  | 0 => Nat.le_refl 0
  | i + 1 => by
    have := popA_le m i
    have h : (m >>> i) % 2 < 2 := Nat.mod_lt _ (by omega)
    show popA m i + (m >>> i) % 2 ≤ i + 1
    omega
theorem s_bits {m : Nat} (hm : m < 1024) : s_X6_bits (nI m) = some (nI (popA m 10)) := by
  suffices h : loop (b_X6_bits_4 (nI m)) ((0 : Int32), (0 : Int32)) = some (nI (popA m 10)) by unfold s_X6_bits; rw [h]; rfl
  refine loop_for (f := b_X6_bits_4 (nI m)) (fun i => (nI (popA m i), nI i)) 10 (fun i hi => ?_) ?_ 0 (by omega)
  · unfold b_X6_bits_4
    dsimp only
    have h2 : m >>> i < 1024 := Nat.lt_of_le_of_lt (Nat.shiftRight_le m i) hm
    rw [if_neg (by rw [i10]; exact nI_ge hi (by omega)), nI_shr (by omega) (by omega), nI_and1 (by omega), nI_add, nI_1]
    rfl
  · unfold b_X6_bits_4
    dsimp only
    rw [if_pos (by rw [i10]; exact nI_le (Nat.le_refl _) (by omega))]
def cntA (r : Nat → Nat) : Nat → Nat
  | 0 => 0
  | i + 1 => cntA r i + popA (r i) 10
theorem cntA_le (r : Nat → Nat) : ∀ i, cntA r i ≤ 10 * i
  | 0 => Nat.le_refl 0
  | i + 1 => by
    have h1 := cntA_le r i
    have h2 := popA_le (r i) 10
    show cntA r i + popA (r i) 10 ≤ 10 * (i + 1)
    omega
theorem s_lines {kn ne : Nat → Int32} {k n : Nat} {r : Nat → Nat} (hk : k < 4) (hn : kn k = nI n) (hg : Gr n r) (h3 : ∀ a, a < 10 → ne (10 * k + a) = nI (r a)) : s_X6_lines kn ne (nI k) = some (nI (cntA r n / 2)) := by
  have h10 := hg.2.1
  have hle := cntA_le r n
  suffices h : loop (b_X6_lines_4 kn ne (nI k)) ((0 : Int32), (0 : Int32)) = some (nI (cntA r n)) by
    unfold s_X6_lines
    rw [h]
    show some (nI (cntA r n) / (2 : Int32)) = _
    rw [show (2 : Int32) = nI 2 by decide, pk_div (by omega) (by omega) (by omega)]
  refine loop_for (f := b_X6_lines_4 kn ne (nI k)) (fun i => (nI (cntA r i), nI i)) n (fun i hi => ?_) ?_ 0 (by omega)
  · unfold b_X6_lines_4
    dsimp only
    rw [chk_in (vp_in_nI hk (by omega)), nI_clamp (by omega), hn, if_neg (nI_ge hi (by omega)), ix10, chk_in (vp_in_nI (by omega) (by omega)), nI_clamp (by omega), h3 i (by omega), s_bits (Gr_lt hg i)]
    simp only [Option.bind_some]
    rw [nI_add, nI_1]
    rfl
  · unfold b_X6_lines_4
    dsimp only
    rw [chk_in (vp_in_nI hk (by omega)), nI_clamp (by omega), hn, if_pos (nI_le (Nat.le_refl _) (by omega))]
theorem s_degree {cF : Nat → Nat → Int32} {p : Fin 5} {a : Nat} {r : Nat → Nat} (ha : a < 10) (hr : r a < 1024) (h : cF p.1 a = nI (r a)) : s_X2_degree cF p (nI a) = some (nI (popA (r a) 10)) := by
  unfold s_X2_degree
  rw [chk_in (vp_in_nI ha (by omega)), nI_clamp (by omega), h, bc10 _ hr]
  rfl
theorem s_lineCount {cK : Nat → Int32} {cF : Nat → Nat → Int32} {p : Fin 5} {n : Nat} {r : Nat → Nat} (hn : cK p.1 = nI n) (hg : Gr n r) (h3 : ∀ a, a < 10 → cF p.1 a = nI (r a)) : s_X2_lineCount cK cF p = some (nI (cntA r n / 2)) := by
  have h10 := hg.2.1
  have hle := cntA_le r n
  suffices h : loop (b_X2_lineCount_4 cK cF p) ((0 : Int32), (0 : Int32)) = some (nI (cntA r n)) by
    unfold s_X2_lineCount
    rw [h]
    show some (nI (cntA r n) / (2 : Int32)) = _
    rw [show (2 : Int32) = nI 2 by decide, pk_div (by omega) (by omega) (by omega)]
  refine loop_for (f := b_X2_lineCount_4 cK cF p) (fun i => (nI (cntA r i), nI i)) n (fun i hi => ?_) ?_ 0 (by omega)
  · unfold b_X2_lineCount_4
    dsimp only
    rw [hn, if_neg (nI_ge hi (by omega)), s_degree (by omega) (Gr_lt hg i) (h3 i (by omega))]
    simp only [Option.bind_some]
    rw [nI_add, nI_1]
    rfl
  · unfold b_X2_lineCount_4
    dsimp only
    rw [hn, if_pos (nI_le (Nat.le_refl _) (by omega))]
/-- the degree that all knots have, or -1 -/
def evenA (r : Nat → Nat) (i : Nat) : Int32 := if ∀ j, j < i → popA (r j) 10 = popA (r 0) 10 then nI (popA (r 0) 10) else -1
theorem nI_ne_m1 {a : Nat} (h : a < 2 ^ 31) : ¬ nI a = -1 := by
  intro q
  have h1 := nI_toInt h
  rw [q] at h1
  have h2 : (-1 : Int32).toInt = -1 := by decide
  omega
theorem s_degreeOf {kn ne : Nat → Int32} {k n : Nat} {r : Nat → Nat} (hk : k < 4) (hn : kn k = nI n) (hg : Gr n r) (h3 : ∀ a, a < 10 → ne (10 * k + a) = nI (r a)) : s_X6_degreeOf kn ne (nI k) = some (evenA r n) := by
  have h10 := hg.2.1
  have hone := hg.1
  have hp : ∀ j, popA (r j) 10 < 2 ^ 31 := fun j => by have := popA_le (r j) 10; omega
  suffices h : loop (b_X6_degreeOf_15 kn ne (nI k)) (nI (popA (r 0) 10), (1 : Int32)) = some (evenA r n) by
    unfold s_X6_degreeOf
    have e : (10 : Int32) * nI k = nI (10 * k) := by rw [i10, pk_mul]
    have h0 := h3 0 (by omega)
    rw [Nat.add_zero] at h0
    rw [e, chk_in (vp_in_nI (by omega) (by omega)), nI_clamp (by omega), h0, s_bits (Gr_lt hg 0)]
    simp only [Option.bind_some]
    rw [h]
    rfl
  have e1 : evenA r 1 = nI (popA (r 0) 10) := by
    unfold evenA
    rw [if_pos (fun j hj => by rw [show j = 0 by omega])]
  have hl := loop_for (f := b_X6_degreeOf_15 kn ne (nI k)) (fun i => (evenA r (i + 1), nI (i + 1))) (n - 1) (r := evenA r n) (fun i hi => ?_) ?_ 0 (by omega)
  · rw [e1] at hl
    exact hl
  · unfold b_X6_degreeOf_15
    dsimp only
    rw [chk_in (vp_in_nI hk (by omega)), nI_clamp (by omega), hn, if_neg (nI_ge (by omega) (by omega)), ix10, chk_in (vp_in_nI (by omega) (by omega)), nI_clamp (by omega), h3 (i + 1) (by omega), s_bits (Gr_lt hg (i + 1))]
    simp only [Option.bind_some]
    by_cases hall : ∀ j, j < i + 1 → popA (r j) 10 = popA (r 0) 10
    · have ea : evenA r (i + 1) = nI (popA (r 0) 10) := if_pos hall
      rw [ea]
      by_cases hq : popA (r (i + 1)) 10 = popA (r 0) 10
      · rw [if_pos (by rw [hq]), nI_1]
        have eb : evenA r (i + 1 + 1) = nI (popA (r 0) 10) := if_pos (fun j hj => by
          rcases Nat.lt_or_ge j (i + 1) with q | q
          · exact hall j q
          · rw [show j = i + 1 by omega]; exact hq)
        rw [eb]
      · rw [if_neg (fun z => hq ((nI_eq (hp _) (hp _)).mp z)), nI_1]
        have eb : evenA r (i + 1 + 1) = -1 := if_neg (fun z => hq (z (i + 1) (by omega)))
        rw [eb]
    · have ea : evenA r (i + 1) = -1 := if_neg hall
      rw [ea, if_neg (nI_ne_m1 (hp _)), nI_1]
      have eb : evenA r (i + 1 + 1) = -1 := if_neg (fun z => hall (fun j hj => z j (by omega)))
      rw [eb]
  · unfold b_X6_degreeOf_15
    dsimp only
    rw [show n - 1 + 1 = n by omega, chk_in (vp_in_nI hk (by omega)), nI_clamp (by omega), hn, if_pos (nI_le (Nat.le_refl _) (by omega))]
