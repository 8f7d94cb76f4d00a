/-! turning the signs of all lines between a set and the rest -/
def sw (X i : Nat) : Int64 := if X.testBit i = true then -1 else 1
theorem sw_sq (X i : Nat) : sw X i * sw X i = 1 := by
  unfold sw
  by_cases h : X.testBit i = true
  · rw [if_pos h]; decide
  · rw [if_neg h]; decide
theorem rgs1 (a b c m t M : Int64) (h : b * b = 1) : a * c * m + a * b * t * (b * c * M) = a * c * (m + t * M) := by
  have : a * b * t * (b * c * M) = (b * b) * (a * c * (t * M)) := by grind
  rw [this, h]
  grind
theorem mulS_sw {t t' M M' : Nat → Nat → Int64} {X i j : Nat} : ∀ {n : Nat}, (∀ k, k < n → t' i k = sw X i * sw X k * t i k ∧ M' k j = sw X k * sw X j * M k j) → mulS t' M' i j n = sw X i * sw X j * mulS t M i j n
  | 0, _ => by rw [mulS, mulS, Int64.mul_zero]
  | n + 1, h => by
    rw [mulS, mulS, mulS_sw (n := n) (fun k hk => h k (by omega)), (h n (by omega)).1, (h n (by omega)).2]
    exact rgs1 _ _ _ _ _ _ (sw_sq X n)
theorem fl_sw {t t' : Nat → Nat → Int64} {X n : Nat} (ht : ∀ i k, i < n → k < n → t' i k = sw X i * sw X k * t i k) : ∀ k, (∀ i j, i < n → j < n → flM t' n k i j = sw X i * sw X j * flM t n k i j) ∧ polC t' n k = polC t n k := by
  have hA : ∀ k, (∀ i j, i < n → j < n → flM t' n k i j = sw X i * sw X j * flM t n k i j) → (∀ i j, i < n → j < n → flA t' n (flM t' n k) i j = sw X i * sw X j * flA t n (flM t n k) i j) ∧ polC t' n (k + 1) = polC t n (k + 1) := by
    intro k h
    have h1 : ∀ i j, i < n → j < n → flA t' n (flM t' n k) i j = sw X i * sw X j * flA t n (flM t n k) i j := fun i j hi hj => mulS_sw (fun q hq => ⟨ht i q hi hq, h q j hq hj⟩)
    refine ⟨h1, ?_⟩
    show flc t' n (flM t' n k) (k + 1) = flc t n (flM t n k) (k + 1)
    unfold flc
    rw [trS_congr (fun i hi => by rw [h1 i i hi hi, sw_sq, Int64.one_mul])]
  intro k
  induction k with
  | zero =>
    refine ⟨fun i j _ _ => ?_, rfl⟩
    show (if i = j then (1 : Int64) else 0) = sw X i * sw X j * (if i = j then (1 : Int64) else 0)
    by_cases q : i = j
    · rw [if_pos q, q, sw_sq, Int64.one_mul]
    · rw [if_neg q, Int64.mul_zero]
  | succ k ih =>
    obtain ⟨h3, h4⟩ := hA k ih.1
    refine ⟨fun i j hi hj => ?_, h4⟩
    show flA t' n (flM t' n k) i j + (if i = j then polC t' n (k + 1) else 0) = sw X i * sw X j * (flA t n (flM t n k) i j + (if i = j then polC t n (k + 1) else 0))
    rw [h3 i j hi hj, h4]
    by_cases q : i = j
    · rw [if_pos q, q, sw_sq, Int64.one_mul, Int64.one_mul]
    · rw [if_neg q, Int64.add_zero, Int64.add_zero]
theorem wid_sw {t t' : Nat → Nat → Int64} {X n : Nat} (ht : ∀ i k, i < n → k < n → t' i k = sw X i * sw X k * t i k) : wid t' n = wid t n := by
  have h1 : ∀ x, mv t' n x = mv t n x := by
    intro x
    funext j
    unfold mv
    refine SF_congr (fun i _ _ => ?_) j
    unfold pol
    rw [(fl_sw ht (n - i)).2]
  have h2 : inW t' n = inW t n := by
    funext c
    unfold inW
    rw [h1, h1]
  have h3 : isW t' n = isW t n := by
    funext c
    unfold isW
    rw [h2]
  exact congrArg (fun P : Nat → Prop => @dite Nat (∃ c, P c) (Classical.propDecidable _) (fun h => h.choose) (fun _ => 0)) h3
/-- which lines are between the set and the rest -/
def crs (r : Nat → Nat) (n X l : Nat) : Prop := X.testBit (ln r n l).1 ≠ X.testBit (ln r n l).2
noncomputable def cm (r : Nat → Nat) (n X : Nat) : Nat → Nat
  | 0 => 0
  | l + 1 => @ite _ (crs r n X l) (Classical.propDecidable _) (cm r n X l ||| 2 ^ l) (cm r n X l)
theorem cm_bit (r : Nat → Nat) (n X b : Nat) : ∀ l, (cm r n X l).testBit b = true ↔ b < l ∧ crs r n X b
  | 0 => by
    rw [cm, Nat.zero_testBit]
    exact ⟨fun h => absurd h (by decide), fun h => by omega⟩
  | l + 1 => by
    have ih := cm_bit r n X b l
    rw [cm]
    by_cases q : crs r n X l
    · rw [if_pos q, Nat.testBit_or, Bool.or_eq_true, ih, two_bit]
      constructor
      · rintro (⟨h1, h2⟩ | h)
        · exact ⟨by omega, h2⟩
        · rw [← h]; exact ⟨by omega, q⟩
      · rintro ⟨h1, h2⟩
        by_cases e : b = l
        · exact Or.inr e.symm
        · exact Or.inl ⟨by omega, h2⟩
    · rw [if_neg q, ih]
      constructor
      · rintro ⟨h1, h2⟩; exact ⟨by omega, h2⟩
      · rintro ⟨h1, h2⟩
        by_cases e : b = l
        · rw [e] at h2; exact absurd h2 q
        · exact ⟨by omega, h2⟩
theorem cm_lt (r : Nat → Nat) (n X l : Nat) : cm r n X l < 2 ^ l := lt_of_bits fun y hy => by
  cases h : (cm r n X l).testBit y
  · rfl
  · have := ((cm_bit r n X y l).mp h).1
    omega
theorem te_sw {r : Nat → Nat} {n s X i j : Nat} (h9 : (linesP r n).length ≤ 31) (hij : i < j) (hj : j < n) : te r n (s ^^^ cm r n X (linesP r n).length) i j = sw X i * sw X j * te r n s i j := by
  unfold te
  by_cases q : (r i).testBit j = true
  · obtain ⟨p1, p2, p3⟩ := pos_yes hij hj q
    rw [if_pos q, if_pos q, if_neg (show ¬ 31 ≤ pos r n i j by omega), if_neg (show ¬ 31 ≤ pos r n i j by omega), Nat.testBit_xor]
    have hc : (cm r n X (linesP r n).length).testBit (pos r n i j) = (X.testBit i != X.testBit j) := by
      apply Bool.eq_iff_iff.mpr
      rw [cm_bit]
      unfold crs
      rw [p3, bne_iff_ne]
      exact ⟨fun h => h.2, fun h => ⟨p2, h⟩⟩
    rw [hc]
    unfold sw
    cases X.testBit i <;> cases X.testBit j <;> cases s.testBit (pos r n i j) <;> decide
  · rw [if_neg q, if_neg q, Int64.mul_zero]
theorem tb_sw {r : Nat → Nat} {n s X : Nat} (h9 : (linesP r n).length ≤ 31) (i j : Nat) (hi : i < n) (hj : j < n) : tb r n (s ^^^ cm r n X (linesP r n).length) i j = sw X i * sw X j * tb r n s i j := by
  rcases Nat.lt_trichotomy i j with q | q | q
  · rw [tb_lt q, tb_lt q]; exact te_sw h9 q hj
  · subst q
    rw [tb_self, tb_self, Int64.mul_zero]
  · rw [tb_gt q, tb_gt q, te_sw h9 q hi]
    grind
theorem lt_bits {x y l : Nat} (h1 : x.testBit l = false) (h2 : y.testBit l = true) (h3 : ∀ j, l < j → x.testBit j = y.testBit j) : x < y := by
  have e : x / 2 ^ (l + 1) = y / 2 ^ (l + 1) := by
    rw [← Nat.shiftRight_eq_div_pow, ← Nat.shiftRight_eq_div_pow]
    apply Nat.eq_of_testBit_eq
    intro i
    rw [Nat.testBit_shiftRight, Nat.testBit_shiftRight]
    exact h3 _ (by omega)
  have hx : x % 2 ^ (l + 1) < 2 ^ l := lt_of_bits fun i hi => by
    rw [Nat.testBit_mod_two_pow]
    by_cases q : i = l
    · rw [q, h1, Bool.and_false]
    · rw [decide_eq_false (by omega), Bool.false_and]
  have hy : ¬ y % 2 ^ (l + 1) < 2 ^ l := by
    intro z
    have := bit_hi z (Nat.le_refl l)
    rw [Nat.testBit_mod_two_pow, h2, decide_eq_true (by omega)] at this
    cases this
  have dx := Nat.div_add_mod x (2 ^ (l + 1))
  have dy := Nat.div_add_mod y (2 ^ (l + 1))
  rw [e] at dx
  omega
/-- a line that is the highest between a set and the rest need not be turned -/
theorem sw_less {r : Nat → Nat} {n s X l : Nat} (h9 : (linesP r n).length ≤ 31) (hl : l < (linesP r n).length) (hs : s < 2 ^ (linesP r n).length) (hb : s.testBit l = true) (hX : crs r n X l) (hhi : ∀ l', l < l' → l' < (linesP r n).length → ¬ crs r n X l') : ∃ s', s' < s ∧ wid (tb r n s') n = wid (tb r n s) n := by
  refine ⟨s ^^^ cm r n X (linesP r n).length, ?_, wid_sw (X := X) (fun i k hi hk => tb_sw h9 i k hi hk)⟩
  refine lt_bits (l := l) ?_ hb (fun j hj => ?_)
  · rw [Nat.testBit_xor, hb, (cm_bit r n X l _).mpr ⟨hl, hX⟩]; rfl
  · have : (cm r n X (linesP r n).length).testBit j = false := by
      cases h : (cm r n X (linesP r n).length).testBit j
      · rfl
      · have h2 := (cm_bit r n X j _).mp h
        exact absurd h2.2 (hhi j hj h2.1)
    rw [Nat.testBit_xor, this, Bool.xor_false]
/-! the least of them all, and the least of those without a forest line -/
def br (W : Nat → Nat) : Nat → Nat × Nat
  | 0 => (0, W 0)
  | i + 1 => if W i < (br W i).2 then (i, W i) else br W i
def bcl (W : Nat → Nat) (F : Nat) : Nat → Nat × Nat
  | 0 => (0, 19)
  | i + 1 => if i &&& F = 0 then (if W i < (bcl W F i).2 then (i, W i) else bcl W F i) else bcl W F i
theorem br_min (W : Nat → Nat) : ∀ i s, s < i → (br W i).2 ≤ W s
  | 0, s, h => by omega
  | i + 1, s, h => by
    rw [br]
    by_cases q : W i < (br W i).2
    · rw [if_pos q]
      by_cases e : s = i
      · rw [e]; exact Nat.le_refl _
      · have := br_min W i s (by omega)
        dsimp only
        omega
    · rw [if_neg q]
      by_cases e : s = i
      · rw [e]; omega
      · exact br_min W i s (by omega)
theorem br_bcl {W : Nat → Nat} {F n : Nat} (h18 : ∀ s, W s ≤ 18) (hF : ∀ s, s < n → s &&& F ≠ 0 → ∃ s', s' < s ∧ W s' = W s) : ∀ i, 1 ≤ i → i ≤ n → bcl W F i = br W i
  | 0, h, _ => by omega
  | i + 1, _, hi => by
    rcases Nat.eq_zero_or_pos i with q | q
    · subst q
      have := h18 0
      have e1 : br W 0 = (0, W 0) := rfl
      have e2 : bcl W F 0 = (0, 19) := rfl
      rw [br, bcl, e1, e2, Nat.zero_and, if_pos rfl]
      dsimp only
      rw [if_pos (by omega), if_neg (by omega)]
    · have ih := br_bcl h18 hF i q (by omega)
      rw [br, bcl, ih]
      by_cases c : i &&& F = 0
      · rw [if_pos c]
      · rw [if_neg c]
        obtain ⟨s', h1, h2⟩ := hF i (by omega) c
        have := br_min W i s' h1
        rw [if_neg (by omega)]
