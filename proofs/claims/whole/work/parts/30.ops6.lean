/-! sets of knots as bits: sizes, growing to the end -/
def subB (x y : Nat) : Prop := ∀ b, x.testBit b = true → y.testBit b = true
theorem bit_mod (m i : Nat) : (m >>> i) % 2 = (m.testBit i).toNat := by
  rw [Nat.testBit, Nat.and_comm, show (1 : Nat) = 2 ^ 1 - 1 from rfl, Nat.and_two_pow_sub_one_eq_mod]
  have h : m >>> i % 2 < 2 := Nat.mod_lt _ (by omega)
  rcases (show m >>> i % 2 = 0 ∨ m >>> i % 2 = 1 by omega) with q | q
  · simp [q]
  · simp [q]
theorem pop_sub {x y : Nat} (h : subB x y) : ∀ i, popA x i ≤ popA y i
  | 0 => Nat.le_refl _
  | i + 1 => by
    have h1 := pop_sub h i
    have h2 : (x.testBit i).toNat ≤ (y.testBit i).toNat := by
      have := h i
      cases hx : x.testBit i
      · simp
      · rw [this hx]; simp
    show popA x i + (x >>> i) % 2 ≤ popA y i + (y >>> i) % 2
    rw [bit_mod, bit_mod]
    omega
theorem pop_lt {x y b : Nat} (h : subB x y) (hx : x.testBit b = false) (hy : y.testBit b = true) : ∀ i, b < i → popA x i < popA y i
  | 0, h => by omega
  | i + 1, hb => by
    have h2 : (x.testBit i).toNat ≤ (y.testBit i).toNat := by
      have := h i
      cases hx : x.testBit i
      · simp
      · rw [this hx]; simp
    show popA x i + (x >>> i) % 2 < popA y i + (y >>> i) % 2
    rw [bit_mod, bit_mod]
    rcases Nat.lt_or_ge b i with q | q
    · have h1 := pop_lt h hx hy i q
      omega
    · have e : b = i := by omega
      subst e
      have h1 := pop_sub h b
      rw [hx, hy]
      simp
      omega
theorem bit_lt {x n b : Nat} (h : x < 2 ^ n) (hb : x.testBit b = true) : b < n := by
  rcases Nat.lt_or_ge b n with q | q
  · exact q
  · have h2 : x < 2 ^ b := Nat.lt_of_lt_of_le h (Nat.pow_le_pow_right (by omega) q)
    rw [Nat.testBit_lt_two_pow h2] at hb
    cases hb
theorem sub_eq {x y : Nat} (h1 : subB x y) (h2 : subB y x) : x = y := by
  apply Nat.eq_of_testBit_eq
  intro i
  have a := h1 i
  have b := h2 i
  cases hx : x.testBit i <;> cases hy : y.testBit i <;> simp_all
theorem sub_ne {x y : Nat} (h : subB x y) (hne : x ≠ y) : ∃ b, x.testBit b = false ∧ y.testBit b = true := by
  by_cases q : ∃ b, x.testBit b = false ∧ y.testBit b = true
  · exact q
  · refine absurd (sub_eq h fun b hb => ?_) hne
    cases hx : x.testBit b
    · exact absurd ⟨b, hx, hb⟩ q
    · rfl
def iter (f : Nat → Nat) : Nat → Nat → Nat
  | 0, x => x
  | i + 1, x => f (iter f i x)
/-- a set that only grows within n knots and begins with one is at its end behind n - 1 steps -/
theorem iter_fix {f : Nat → Nat} {n x : Nat} (hs : ∀ y, y < 2 ^ n → subB y (f y)) (hl : ∀ y, y < 2 ^ n → f y < 2 ^ n) (hx : x < 2 ^ n) {v : Nat} (hv : x.testBit v = true) {m : Nat} (hm : n ≤ m + 1) : f (iter f m x) = iter f m x := by
  have hlt : ∀ i, iter f i x < 2 ^ n := by
    intro i
    induction i with
    | zero => exact hx
    | succ i ih => exact hl _ ih
  have key : ∀ i, f (iter f i x) = iter f i x ∨ i + 1 ≤ popA (iter f i x) n := by
    intro i
    induction i with
    | zero =>
      right
      have h0 : subB 0 x := fun b hb => by rw [Nat.zero_testBit] at hb; cases hb
      have := pop_lt (b := v) h0 (Nat.zero_testBit v) hv n (bit_lt hx hv)
      show 1 ≤ popA x n
      omega
    | succ i ih =>
      rcases ih with ih | ih
      · left
        show f (f (iter f i x)) = f (iter f i x)
        rw [ih, ih]
      · by_cases q : f (iter f i x) = iter f i x
        · left
          show f (f (iter f i x)) = f (iter f i x)
          rw [q, q]
        · right
          obtain ⟨b, h1, h2⟩ := sub_ne (hs _ (hlt i)) (fun z => q z.symm)
          have := pop_lt (hs _ (hlt i)) h1 h2 n (bit_lt (hlt (i + 1)) h2)
          show i + 1 + 1 ≤ popA (f (iter f i x)) n
          omega
  rcases key m with q | q
  · exact q
  · by_cases e : f (iter f m x) = iter f m x
    · exact e
    · obtain ⟨b, h1, h2⟩ := sub_ne (hs _ (hlt m)) (fun z => e z.symm)
      have := pop_lt (hs _ (hlt m)) h1 h2 n (bit_lt (hlt (m + 1)) h2)
      have := popA_le (f (iter f m x)) n
      omega
/-! the part of a knot -/
def closed (r : Nat → Nat) (X : Nat) : Prop := ∀ j, X.testBit j = true → subB (r j) X
def Clo (r : Nat → Nat) (v X : Nat) : Prop := X.testBit v = true ∧ closed r X ∧ ∀ Y, Y.testBit v = true → closed r Y → subB X Y
theorem clo_one {r : Nat → Nat} {v X Y : Nat} (h1 : Clo r v X) (h2 : Clo r v Y) : X = Y := sub_eq (h1.2.2 Y h2.1 h2.2.1) (h2.2.2 X h1.1 h1.2.1)
def stepA (r : Nat → Nat) (n : Nat) (x : Nat) : Nat := x ||| orA r x n
theorem stepA_sub (r : Nat → Nat) (n x : Nat) : subB x (stepA r n x) := fun b hb => by
  unfold stepA; rw [Nat.testBit_or, hb]; rfl
theorem orA_lt' {n : Nat} {r : Nat → Nat} (hg : Gr n r) (s : Nat) : ∀ i, orA r s i < 2 ^ n
  | 0 => Nat.two_pow_pos n
  | i + 1 => by
    refine Nat.or_lt_two_pow (orA_lt' hg s i) ?_
    by_cases q : s.testBit i = true
    · rw [if_pos q]
      rcases Nat.lt_or_ge i n with z | z
      · exact hg.2.2.1 i z
      · rw [hg.2.2.2.1 i z]; exact Nat.two_pow_pos n
    · rw [if_neg q]; exact Nat.two_pow_pos n
theorem stepA_lt {n x : Nat} {r : Nat → Nat} (hg : Gr n r) (hx : x < 2 ^ n) : stepA r n x < 2 ^ n := Nat.or_lt_two_pow hx (orA_lt' hg x n)
theorem two_bit (v b : Nat) : (2 ^ v).testBit b = true ↔ v = b := by
  rw [Nat.testBit_two_pow]; simp
theorem stepA_min {n x v Y : Nat} {r : Nat → Nat} (hx : subB x Y) (hY : closed r Y) : subB (stepA r n x) Y := by
  intro b hb
  unfold stepA at hb
  rw [Nat.testBit_or, Bool.or_eq_true] at hb
  rcases hb with hb | hb
  · exact hx b hb
  · obtain ⟨j, -, h2, h3⟩ := (orA_bit b n).mp hb
    exact hY j (hx j h2) b h3
theorem stepA_clo {n x : Nat} {r : Nat → Nat} (hx : x < 2 ^ n) (h : stepA r n x = x) : closed r x := by
  intro j hj b hb
  rw [← h]
  unfold stepA
  rw [Nat.testBit_or, (orA_bit b n).mpr ⟨j, bit_lt hx hj, hj, hb⟩, Bool.or_true]
theorem two_lt {v n : Nat} (h : v < n) : 2 ^ v < 2 ^ n := Nat.pow_lt_pow_right (by omega) h
theorem iterA_lt {n x : Nat} {r : Nat → Nat} (hg : Gr n r) (hx : x < 2 ^ n) : ∀ i, iter (stepA r n) i x < 2 ^ n
  | 0 => hx
  | i + 1 => stepA_lt hg (iterA_lt hg hx i)
theorem iterA_clo {n v : Nat} {r : Nat → Nat} (hg : Gr n r) (hv : v < n) : Clo r v (iter (stepA r n) (n - 1) (2 ^ v)) := by
  refine ⟨?_, ?_, ?_⟩
  · have : ∀ i, (iter (stepA r n) i (2 ^ v)).testBit v = true := by
      intro i
      induction i with
      | zero => exact (two_bit v v).mpr rfl
      | succ i ih => exact stepA_sub r n _ v ih
    exact this _
  · exact stepA_clo (iterA_lt hg (two_lt hv) _) (iter_fix (fun y _ => stepA_sub r n y) (fun y hy => stepA_lt hg hy) (two_lt hv) ((two_bit v v).mpr rfl) (by omega))
  · intro Y h1 h2
    have : ∀ i, subB (iter (stepA r n) i (2 ^ v)) Y := by
      intro i
      induction i with
      | zero => intro b hb; rw [← (two_bit v b).mp hb]; exact h1
      | succ i ih => exact stepA_min (v := v) ih h2
    exact this _
theorem s_partOf {cK : Nat → Int32} {cF : Nat → Nat → Int32} {p : Fin 5} {n v : Nat} {r : Nat → Nat} (hv : v < n) (hn : cK p.1 = nI n) (hg : Gr n r) (h3 : ∀ a, a < 10 → cF p.1 a = nI (r a)) : s_X2_partOf cK cF p (nI v) = some (nI (iter (stepA r n) (n - 1) (2 ^ v))) := by
  have h10 := hg.2.1
  have h31 : 2 ^ n ≤ 2 ^ 10 := Nat.pow_le_pow_right (by omega) h10
  unfold s_X2_partOf
  rw [nI_two (by omega)]
  suffices h : loop (b_X2_partOf_6 cK cF p) (nI (2 ^ v), (1 : Int32)) = some (nI (iter (stepA r n) (n - 1) (2 ^ v))) by rw [h]; rfl
  refine loop_for (f := b_X2_partOf_6 cK cF p) (fun i => (nI (iter (stepA r n) i (2 ^ v)), nI (i + 1))) (n - 1) (fun i hi => ?_) ?_ 0 (by omega)
  · have hl := iterA_lt hg (two_lt hv) i
    unfold b_X2_partOf_6
    dsimp only
    rw [hn, if_neg (nI_ge (by omega) (by omega)), s_besideSet (by omega) hn hg h3]
    simp only [Option.bind_some]
    rw [nI_or, nI_1]
    rfl
  · unfold b_X2_partOf_6
    dsimp only
    rw [hn, if_pos (nI_le (by omega) (by omega))]
/-- one round of the other way to grow -/
def inA (r : Nat → Nat) (x : Nat) : Nat → Nat
  | 0 => x
  | a + 1 => inA r x a ||| (if (inA r x a).testBit a = true then r a else 0)
theorem inA_sub (r : Nat → Nat) (x : Nat) : ∀ a, subB x (inA r x a)
  | 0 => fun _ h => h
  | a + 1 => fun b hb => by
    rw [inA, Nat.testBit_or, inA_sub r x a b hb]; rfl
theorem inA_up (r : Nat → Nat) (x a : Nat) : ∀ c, a ≤ c → subB (inA r x a) (inA r x c) := by
  intro c hc
  induction c with
  | zero => rw [show a = 0 by omega]; exact fun _ h => h
  | succ c ih =>
    rcases Nat.lt_or_ge c a with q | q
    · rw [show a = c + 1 by omega]; exact fun _ h => h
    · intro b hb
      rw [inA, Nat.testBit_or, ih q b hb]; rfl
theorem inA_lt {n x : Nat} {r : Nat → Nat} (hg : Gr n r) (hx : x < 2 ^ n) : ∀ a, inA r x a < 2 ^ n
  | 0 => hx
  | a + 1 => by
    refine Nat.or_lt_two_pow (inA_lt hg hx a) ?_
    by_cases q : (inA r x a).testBit a = true
    · rw [if_pos q]
      rcases Nat.lt_or_ge a n with z | z
      · exact hg.2.2.1 a z
      · rw [hg.2.2.2.1 a z]; exact Nat.two_pow_pos n
    · rw [if_neg q]; exact Nat.two_pow_pos n
theorem inA_min {x Y : Nat} {r : Nat → Nat} (hx : subB x Y) (hY : closed r Y) : ∀ a, subB (inA r x a) Y
  | 0 => hx
  | a + 1 => fun b hb => by
    have ih := inA_min hx hY a
    rw [inA, Nat.testBit_or, Bool.or_eq_true] at hb
    rcases hb with hb | hb
    · exact ih b hb
    · by_cases q : (inA r x a).testBit a = true
      · rw [if_pos q] at hb; exact hY a (ih a q) b hb
      · rw [if_neg q, Nat.zero_testBit] at hb; cases hb
theorem inA_clo {n x : Nat} {r : Nat → Nat} (hx : x < 2 ^ n) (h : inA r x n = x) : closed r x := by
  intro j hj b hb
  have hjn := bit_lt hx hj
  have h1 : (inA r x (j + 1)).testBit b = true := by
    rw [inA, Nat.testBit_or, if_pos (inA_sub r x j j hj), hb, Bool.or_true]
  have h2 := inA_up r x (j + 1) n (by omega) b h1
  rw [h] at h2
  exact h2
theorem iterI_lt {n x : Nat} {r : Nat → Nat} (hg : Gr n r) (hx : x < 2 ^ n) : ∀ i, iter (fun y => inA r y n) i x < 2 ^ n
  | 0 => hx
  | i + 1 => inA_lt hg (iterI_lt hg hx i) n
theorem iterI_clo {n v : Nat} {r : Nat → Nat} (hg : Gr n r) (hv : v < n) : Clo r v (iter (fun y => inA r y n) n (2 ^ v)) := by
  refine ⟨?_, ?_, ?_⟩
  · have : ∀ i, (iter (fun y => inA r y n) i (2 ^ v)).testBit v = true := by
      intro i
      induction i with
      | zero => exact (two_bit v v).mpr rfl
      | succ i ih => exact inA_sub r _ n v ih
    exact this _
  · exact inA_clo (iterI_lt hg (two_lt hv) _) (iter_fix (f := fun y => inA r y n) (fun y _ => inA_sub r y n) (fun y hy => inA_lt hg hy n) (two_lt hv) ((two_bit v v).mpr rfl) (by omega))
  · intro Y h1 h2
    have : ∀ i, subB (iter (fun y => inA r y n) i (2 ^ v)) Y := by
      intro i
      induction i with
      | zero => intro b hb; rw [← (two_bit v b).mp hb]; exact h1
      | succ i ih => exact inA_min ih h2 n
    exact this _
theorem s_grown {kn ne : Nat → Int32} {k n v : Nat} {r : Nat → Nat} (hk : k < 4) (hv : v < n) (hn : kn k = nI n) (hg : Gr n r) (h3 : ∀ a, a < 10 → ne (10 * k + a) = nI (r a)) : s_X6_grown kn ne (nI k) (nI (2 ^ v)) = some (nI (iter (fun y => inA r y n) n (2 ^ v))) := by
  have h10 := hg.2.1
  have h31 : 2 ^ n ≤ 2 ^ 10 := Nat.pow_le_pow_right (by omega) h10
  have inner : ∀ y, y < 2 ^ n → loop (b_X6_grown_19 kn ne (nI k)) (nI y, (0 : Int32)) = some (nI (inA r y n)) := by
    intro y hy
    refine loop_for (f := b_X6_grown_19 kn ne (nI k)) (fun i => (nI (inA r y i), nI i)) n (fun i hi => ?_) ?_ 0 (by omega)
    · have hl := inA_lt hg hy i
      unfold b_X6_grown_19
      dsimp only
      rw [chk_in (vp_in_nI hk (by omega)), nI_clamp (by omega), hn, if_neg (nI_ge hi (by omega)), ix10]
      by_cases q : (inA r y i).testBit i = true
      · rw [if_pos ((nI_bit (by omega) (by omega)).mpr q), chk_in (vp_in_nI (by omega) (by omega)), nI_clamp (by omega), h3 i (by omega), nI_or, nI_1, inA, if_pos q]
      · rw [if_neg (fun z => q ((nI_bit (by omega) (by omega)).mp z)), i0, nI_or, nI_1, inA, if_neg q]
    · unfold b_X6_grown_19
      dsimp only
      rw [chk_in (vp_in_nI hk (by omega)), nI_clamp (by omega), hn, if_pos (nI_le (Nat.le_refl _) (by omega))]
  unfold s_X6_grown
  suffices h : loop (b_X6_grown_5 kn ne (nI k)) (nI (2 ^ v), (0 : Int32)) = some (nI (iter (fun y => inA r y n) n (2 ^ v))) by rw [h]; rfl
  refine loop_for (f := b_X6_grown_5 kn ne (nI k)) (fun i => (nI (iter (fun y => inA r y n) i (2 ^ v)), nI i)) n (fun i hi => ?_) ?_ 0 (by omega)
  · have hl := iterI_lt hg (two_lt hv) i
    unfold b_X6_grown_5
    dsimp only
    rw [chk_in (vp_in_nI hk (by omega)), nI_clamp (by omega), hn, if_neg (nI_ge hi (by omega)), inner _ hl]
    simp only [Option.bind_some]
    rw [nI_1]
    rfl
  · unfold b_X6_grown_5
    dsimp only
    rw [chk_in (vp_in_nI hk (by omega)), nI_clamp (by omega), hn, if_pos (nI_le (Nat.le_refl _) (by omega))]
/-- how many parts, and what is seen, of the knots below i -/
def partA (r : Nat → Nat) (n : Nat) : Nat → Nat × Nat
  | 0 => (0, 0)
  | i + 1 => if (partA r n i).2.testBit i = true then partA r n i else ((partA r n i).1 + 1, (partA r n i).2 ||| iter (stepA r n) (n - 1) (2 ^ i))
theorem partA_lt {n : Nat} {r : Nat → Nat} (hg : Gr n r) : ∀ i, i ≤ n → (partA r n i).2 < 2 ^ n
  | 0, _ => Nat.two_pow_pos n
  | i + 1, hi => by
    rw [partA]
    have := partA_lt hg i (by omega)
    by_cases q : (partA r n i).2.testBit i = true
    · rw [if_pos q]; exact this
    · rw [if_neg q]; exact Nat.or_lt_two_pow this (iterA_lt hg (two_lt (by omega)) _)
theorem bit_zero {m b : Nat} (hm : m < 2 ^ 31) (hb : b < 32) : ((nI m >>> (nI b &&& 31)) &&& 1) = 0 ↔ ¬ m.testBit b = true := by
  rw [← nI_bit hm hb]
  have h2 : m >>> b < 2 ^ 31 := Nat.lt_of_le_of_lt (Nat.shiftRight_le m b) hm
  rw [nI_shr hm hb, nI_and1 (by omega), i1, i0, nI_eq (by omega) (by omega), nI_eq (by omega) (by omega)]
  omega
theorem s_partCount {cK : Nat → Int32} {cF : Nat → Nat → Int32} {p : Fin 5} {n : Nat} {r : Nat → Nat} (hn : cK p.1 = nI n) (hg : Gr n r) (h3 : ∀ a, a < 10 → cF p.1 a = nI (r a)) : s_X2_partCount cK cF p = some (nI (partA r n n).1) := by
  have h10 := hg.2.1
  have h31 : 2 ^ n ≤ 2 ^ 10 := Nat.pow_le_pow_right (by omega) h10
  suffices h : loop (b_X2_partCount_6 cK cF p) ((0 : Int32), (0 : Int32), (0 : Int32)) = some (nI (partA r n n).1) by unfold s_X2_partCount; rw [h]; rfl
  refine loop_for (f := b_X2_partCount_6 cK cF p) (fun i => (nI (partA r n i).1, nI (partA r n i).2, nI i)) n (fun i hi => ?_) ?_ 0 (by omega)
  · have hl := partA_lt hg i (by omega)
    unfold b_X2_partCount_6
    dsimp only
    rw [hn, if_neg (nI_ge hi (by omega))]
    by_cases q : (partA r n i).2.testBit i = true
    · rw [if_neg (fun z => (bit_zero (by omega) (by omega)).mp z q), partA, if_pos q, nI_1]
    · rw [if_pos ((bit_zero (by omega) (by omega)).mpr q), s_partOf hi hn hg h3, partA, if_neg q]
      simp only [Option.bind_some]
      rw [nI_1, nI_1, nI_or]
  · unfold b_X2_partCount_6
    dsimp only
    rw [hn, if_pos (nI_le (Nat.le_refl _) (by omega))]
theorem s_parts {kn ne : Nat → Int32} {k n : Nat} {r : Nat → Nat} (hk : k < 4) (hn : kn k = nI n) (hg : Gr n r) (h3 : ∀ a, a < 10 → ne (10 * k + a) = nI (r a)) : s_X6_parts kn ne (nI k) = some (nI (partA r n n).1) := by
  have h10 := hg.2.1
  have h31 : 2 ^ n ≤ 2 ^ 10 := Nat.pow_le_pow_right (by omega) h10
  suffices h : loop (b_X6_parts_7 kn ne (nI k)) ((0 : Int32), (0 : Int32), (0 : Int32)) = some (nI (partA r n n).1) by unfold s_X6_parts; rw [h]; rfl
  refine loop_for (f := b_X6_parts_7 kn ne (nI k)) (fun i => (nI (partA r n i).1, nI (partA r n i).2, nI i)) n (fun i hi => ?_) ?_ 0 (by omega)
  · have hl := partA_lt hg i (by omega)
    unfold b_X6_parts_7
    dsimp only
    rw [chk_in (vp_in_nI hk (by omega)), nI_clamp (by omega), hn, if_neg (nI_ge hi (by omega)), nI_two (by omega)]
    by_cases q : (partA r n i).2.testBit i = true
    · rw [if_neg (fun z => (bit_zero (by omega) (by omega)).mp z q), partA, if_pos q, nI_1]
    · rw [if_pos ((bit_zero (by omega) (by omega)).mpr q), s_grown hk hi hn hg h3, partA, if_neg q, clo_one (iterI_clo hg hi) (iterA_clo hg hi)]
      simp only [Option.bind_some]
      rw [nI_1, nI_1, nI_or]
  · unfold b_X6_parts_7
    dsimp only
    rw [chk_in (vp_in_nI hk (by omega)), nI_clamp (by omega), hn, if_pos (nI_le (Nat.le_refl _) (by omega))]
theorem pure_about {kn ne cK : Nat → Int32} {cF : Nat → Nat → Int32} (inv : Inv kn ne cK cF) (a0 a1 : Int32) : ∃ v : Int32, s_X5_about cK cF a0 a1 = some v ∧ s_X6_about kn ne a0 a1 = some v := by
  rcases net_or a0 with h | ⟨k, hk, rfl⟩
  · refine ⟨-2, ?_, ?_⟩
    · unfold s_X5_about; rw [netAt_no h]; rfl
    · unfold s_X6_about; rw [isNet_no h]; rfl
  · obtain ⟨N, r, hi⟩ := inv
    obtain ⟨hg, h1, h2, h3⟩ := hi k hk
    have hf : (fin5 k).1 = k := fin5_val (by omega)
    have h2' : cK (fin5 k).1 = nI (N k) := by rw [hf]; exact h2
    have h3' : ∀ a, a < 10 → cF (fin5 k).1 a = nI (r k a) := fun a ha => by rw [hf]; exact (h3 a ha).2
    have h3m : ∀ a, a < 10 → ne (10 * k + a) = nI (r k a) := fun a ha => (h3 a ha).1
    have e1 := s_lineCount h2' hg h3'
    have e2 := s_lines hk h1 hg h3m
    have e3 := s_evenDegree h2' hg h3'
    have e4 := s_degreeOf hk h1 hg h3m
    have e5 := s_partCount h2' hg h3'
    have e6 := s_parts hk h1 hg h3m
    unfold s_X5_about s_X6_about
    rw [netAt_yes hk, isNet_yes hk]
    simp only [Option.bind_some, Option.elim_some]
    rw [if_neg (show ¬ ((1 : Int32) = 0) by decide), chk_in (vp_in_nI hk (by omega)), nI_clamp (by omega), h1, h2', e1, e2, e3, e4, e5, e6]
    by_cases q0 : a1 = 0
    · rw [if_pos q0]; exact ⟨_, rfl, rfl⟩
    · rw [if_neg q0]
      by_cases q1 : a1 = 1
      · rw [if_pos q1]; exact ⟨_, rfl, rfl⟩
      · rw [if_neg q1]
        by_cases q2 : a1 = 2
        · rw [if_pos q2]; exact ⟨_, rfl, rfl⟩
        · rw [if_neg q2]
          by_cases q3 : a1 = 3
          · rw [if_pos q3]; exact ⟨_, rfl, rfl⟩
          · rw [if_neg q3]; exact ⟨_, rfl, rfl⟩
theorem op_about (a0 : Int32) (a1 : Int32) : OpI Sim mX5_about mX6_about [vI a0, vI a1] := by
  rintro wc wm ⟨cK, cF, ga, gi, gs, oK, cT, ra, rb, cR, cP, cM, ea, eb, cW, aO, aC, aQ, kn, ne, fi, se, ma, on, ot, ta, po, ti, nu, mo, wa, nx, oT, cF', bg, ed, sF, qu, qd, tr, rfl, rfl, inv, h1, h2⟩
  obtain ⟨v, e1, e2⟩ := pure_about inv a0 a1
  exact ⟨v, _, _, c_X5_about (d := 5) e1, c_X6_about (d := 6) e2, _, _, _, _, _, _, _, _, _, _, _, _, _, _, _, _, _, _, _, _, _, _, _, _, _, _, _, _, _, _, _, _, _, _, _, _, _, _, _, _, rfl, rfl, inv, h1, h2⟩
