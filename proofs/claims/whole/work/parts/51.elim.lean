/-! elimination: tables whose diagonals outweigh their rows -/
def ab (x : Int) : Int := (x.natAbs : Int)
theorem ab_nn (x : Int) : 0 ≤ ab x := by unfold ab; omega
theorem ab_mul (x y : Int) : ab (x * y) = ab x * ab y := by unfold ab; rw [Int.natAbs_mul]; rfl
theorem ab_sub (x y : Int) : ab (x - y) ≤ ab x + ab y := by unfold ab; omega
theorem ab_add (x y : Int) : ab (x + y) ≤ ab x + ab y := by unfold ab; omega
theorem ab_of {x : Int} (h : 0 ≤ x) : ab x = x := by unfold ab; omega
theorem ab_sq (x : Int) : ab x * ab x = x * x := by
  rw [← ab_mul]
  apply ab_of
  rcases Int.le_total 0 x with h | h
  · exact Int.mul_nonneg h h
  · exact Int.mul_nonneg_of_nonpos_of_nonpos h h
theorem ab_z {x : Int} (h : ab x ≤ 0) : x = 0 := by unfold ab at h; omega
/-- what is off the diagonal in a row -/
def off (m : Nat) (B : Nat → Nat → Int) (i : Nat) : Int := sI m (fun j => if j = i then 0 else ab (B i j))
def SD (m : Nat) (B : Nat → Nat → Int) : Prop := (∀ i j, B i j = B j i) ∧ ∀ i, i < m → off m B i ≤ B i i
theorem dt_col {m : Nat} : ∀ {A : Nat → Nat → Int}, (∀ i, i ≤ m → A i 0 = 0) → dt (m + 1) A = 0 := by
  induction m with
  | zero =>
    intro A h
    rw [dt]
    refine sI_z fun j hj => ?_
    rw [show j = 0 by omega, h 0 (by omega), Int.mul_zero, Int.zero_mul]
  | succ m ih =>
    intro A h
    rw [dt]
    refine sI_z fun j hj => ?_
    cases j with
    | zero => rw [h 0 (by omega), Int.mul_zero, Int.zero_mul]
    | succ j =>
      rw [ih (A := mn A 0 (j + 1)) (fun i hi => by unfold mn; rw [skp_0, skp_lt (by omega)]; exact h _ (by omega)), Int.mul_zero]
def el (A : Nat → Nat → Int) (c : Nat) : Nat → Nat → Int := fun i j => if 1 ≤ i ∧ i < c + 1 then A 0 0 * A i j - A i 0 * A 0 j else A i j
def sc (A : Nat → Nat → Int) : Nat → Nat → Int := fun i j => A 0 0 * A (i + 1) (j + 1) - A (i + 1) 0 * A 0 (j + 1)
theorem dt_el {m : Nat} (A : Nat → Nat → Int) : ∀ c, c ≤ m → dt (m + 1) (el A c) = A 0 0 ^ c * dt (m + 1) A
  | 0, _ => by
    rw [Int.pow_zero, Int.one_mul]
    refine dt_congr fun i j _ _ => ?_
    unfold el
    rw [if_neg (by omega)]
  | c + 1, hc => by
    have ih := dt_el (m := m) A c (by omega)
    have e1 : el A (c + 1) = ru (el A c) (c + 1) (fun j => A 0 0 * A (c + 1) j + (-A (c + 1) 0) * A 0 j) := by
      funext i j
      unfold ru el
      by_cases q : i = c + 1
      · rw [if_pos q, if_pos (by omega), q]; grind
      · rw [if_neg q]
        by_cases q2 : 1 ≤ i ∧ i < c + 1
        · rw [if_pos (by omega), if_pos q2]
        · rw [if_neg (by omega), if_neg q2]
    have e2 : ru (el A c) (c + 1) (A (c + 1)) = el A c := by
      have := ru_self (el A c) (c + 1)
      have e3 : el A c (c + 1) = A (c + 1) := by funext j; unfold el; rw [if_neg (by omega)]
      rw [e3] at this
      exact this
    have e4 : dt (m + 1) (ru (el A c) (c + 1) (A 0)) = 0 := by
      refine dt_alike m _ 0 (c + 1) (by omega) hc (fun q _ => ?_)
      unfold ru el
      rw [if_neg (by omega), if_pos rfl, if_neg (by omega)]
    rw [e1, dt_lin (el A c) hc, e2, e4, ih, Int.pow_succ]
    grind
theorem dt_sc (m : Nat) (A : Nat → Nat → Int) : A 0 0 * dt m (sc A) = A 0 0 ^ m * dt (m + 1) A := by
  rw [← dt_el A m (Nat.le_refl m), dt, sI_first]
  have h1 : dt m (mn (el A m) 0 0) = dt m (sc A) := by
    refine dt_congr fun i j hi hj => ?_
    unfold mn el sc
    rw [skp_0, skp_0, if_pos (by omega)]
  have h2 : sI m (fun j => sg (j + 1) * el A m 0 (j + 1) * dt m (mn (el A m) 0 (j + 1))) = 0 := by
    refine sI_z fun j hj => ?_
    obtain ⟨m', rfl⟩ : ∃ m', m = m' + 1 := ⟨m - 1, by omega⟩
    rw [dt_col (A := mn (el A (m' + 1)) 0 (j + 1)) (fun i hi => by
      unfold mn el
      rw [skp_0, skp_lt (by omega), if_pos (by omega)]
      grind), Int.mul_zero]
  rw [h1, h2]
  have h3 : el A m 0 0 = A 0 0 := by unfold el; rw [if_neg (by omega)]
  rw [h3, sg]
  grind
theorem off_nn (m : Nat) (B : Nat → Nat → Int) (i : Nat) : 0 ≤ off m B i := sI_nn fun j _ => by
  by_cases q : j = i
  · rw [if_pos q]; exact Int.le_refl 0
  · rw [if_neg q]; exact ab_nn _
theorem SD_less {m : Nat} {B : Nat → Nat → Int} (h : SD (m + 1) B) : SD m B := by
  refine ⟨h.1, fun i hi => ?_⟩
  have h2 := h.2 i (by omega)
  unfold off at h2 ⊢
  rw [sI] at h2
  have : 0 ≤ (if m = i then 0 else ab (B i m)) := by
    by_cases q : m = i
    · rw [if_pos q]; exact Int.le_refl 0
    · rw [if_neg q]; exact ab_nn _
  omega
theorem SD_sc {m : Nat} {B : Nat → Nat → Int} (h : SD (m + 1) B) : SD m (sc B) := by
  obtain ⟨hs, hd⟩ := h
  refine ⟨fun i j => ?_, fun i hi => ?_⟩
  · unfold sc
    rw [hs (i + 1) (j + 1), hs (i + 1) 0, hs 0 (j + 1)]
    grind
  · have h0 := hd 0 (by omega)
    have h1 := hd (i + 1) (by omega)
    unfold off at h0 h1
    rw [sI_first] at h0 h1
    rw [if_pos rfl] at h0
    rw [if_neg (by omega)] at h1
    have e0 : sI m (fun j => if j + 1 = 0 then 0 else ab (B 0 (j + 1))) = sI m (fun j => if j = i then 0 else ab (B 0 (j + 1))) + ab (B 0 (i + 1)) := by
      have e1 : sI m (fun j => if j = i then ab (B 0 (i + 1)) else 0) = ab (B 0 (i + 1)) := by
        obtain ⟨m', rfl⟩ : ∃ m', m = m' + 1 := ⟨m - 1, by omega⟩
        rw [sI_skp _ (q := i) m' (by omega), if_pos rfl, sI_z (fun k _ => if_neg (skp_ne i k))]
        omega
      rw [← e1, ← sI_add]
      refine sI_congr fun j hj => ?_
      rw [if_neg (by omega)]
      by_cases q : j = i
      · rw [if_pos q, if_pos q, q]; omega
      · rw [if_neg q, if_neg q]; omega
    have e2 : sI m (fun j => if j + 1 = i + 1 then 0 else ab (B (i + 1) (j + 1))) = sI m (fun j => if j = i then 0 else ab (B (i + 1) (j + 1))) := by
      refine sI_congr fun j hj => ?_
      by_cases q : j = i
      · rw [if_pos (by omega), if_pos q]
      · rw [if_neg (by omega), if_neg q]
    rw [e0] at h0
    rw [e2] at h1
    have ha : 0 ≤ B 0 0 := by
      have g1 := sI_nn (n := m) (f := fun j => if j = i then 0 else ab (B 0 (j + 1))) (fun j _ => by
        by_cases q : j = i
        · rw [if_pos q]; exact Int.le_refl 0
        · rw [if_neg q]; exact ab_nn _)
      have g2 := ab_nn (B 0 (i + 1))
      omega
    have hle : off m (sc B) i ≤ B 0 0 * sI m (fun j => if j = i then 0 else ab (B (i + 1) (j + 1))) + ab (B (i + 1) 0) * sI m (fun j => if j = i then 0 else ab (B 0 (j + 1))) := by
      unfold off
      rw [← sI_mul, ← sI_mul, ← sI_add]
      refine sI_le fun j hj => ?_
      by_cases q : j = i
      · rw [if_pos q, if_pos q, if_pos q]; omega
      · rw [if_neg q, if_neg q, if_neg q]
        unfold sc
        have g1 := ab_sub (B 0 0 * B (i + 1) (j + 1)) (B (i + 1) 0 * B 0 (j + 1))
        rw [ab_mul, ab_mul, ab_of ha] at g1
        exact g1
    have hw : ab (B (i + 1) 0) = ab (B 0 (i + 1)) := by rw [hs]
    have hsq := ab_sq (B 0 (i + 1))
    have hsc : sc B i i = B 0 0 * B (i + 1) (i + 1) - B 0 (i + 1) * B 0 (i + 1) := by
      unfold sc
      rw [hs (i + 1) 0]
    rw [hsc, ← hsq]
    rw [hw] at hle h1
    generalize sI m (fun j => if j = i then 0 else ab (B (i + 1) (j + 1))) = S1 at hle h1
    generalize sI m (fun j => if j = i then 0 else ab (B 0 (j + 1))) = S2 at hle h0
    have hwn := ab_nn (B 0 (i + 1))
    generalize ab (B 0 (i + 1)) = w at hle h0 h1 hwn
    have k1 : B 0 0 * S1 ≤ B 0 0 * (B (i + 1) (i + 1) - w) := Int.mul_le_mul_of_nonneg_left (by omega) ha
    have k2 : w * S2 ≤ w * (B 0 0 - w) := Int.mul_le_mul_of_nonneg_left (by omega) hwn
    have k3 : B 0 0 * (B (i + 1) (i + 1) - w) + w * (B 0 0 - w) = B 0 0 * B (i + 1) (i + 1) - w * w := by grind
    omega
theorem SD_row0 {m : Nat} {B : Nat → Nat → Int} (h : SD (m + 1) B) (h0 : B 0 0 = 0) : dt (m + 1) B = 0 := by
  have h1 := h.2 0 (by omega)
  rw [h0] at h1
  have h2 : ∀ q, q < m + 1 → (if q = 0 then 0 else ab (B 0 q)) = 0 := sI_nz (fun j _ => by
    by_cases q : j = 0
    · rw [if_pos q]; exact Int.le_refl 0
    · rw [if_neg q]; exact ab_nn _) (by have := off_nn (m + 1) B 0; unfold off at this h1; omega)
  refine dt_zero (p := 0) (by omega) (fun q hq => ?_)
  by_cases e : q = 0
  · rw [e]; exact h0
  · have := h2 q (by omega)
    rw [if_neg e] at this
    exact ab_z (by omega)
theorem SD_diag {m : Nat} {B : Nat → Nat → Int} (h : SD m B) {i : Nat} (hi : i < m) : 0 ≤ B i i := by
  have h1 := h.2 i hi
  have h2 := off_nn m B i
  omega
theorem dt_nn : ∀ (m : Nat) (B : Nat → Nat → Int), SD m B → 0 ≤ dt m B
  | 0, _, _ => by rw [dt]; decide
  | m + 1, B, h => by
    have ih := dt_nn m (sc B) (SD_sc h)
    have ha := SD_diag h (i := 0) (by omega)
    by_cases h0 : B 0 0 = 0
    · rw [SD_row0 h h0]; exact Int.le_refl 0
    · have he := dt_sc m B
      have hp : 0 < B 0 0 ^ m := Int.pow_pos (by omega)
      have hl : 0 ≤ B 0 0 ^ m * dt (m + 1) B := by rw [← he]; exact Int.mul_nonneg ha ih
      rcases Int.lt_or_le (dt (m + 1) B) 0 with q | q
      · have := Int.mul_neg_of_pos_of_neg hp q
        omega
      · exact q
theorem dt_less : ∀ (m : Nat) (B : Nat → Nat → Int), SD (m + 1) B → dt (m + 1) B ≠ 0 → dt m B ≠ 0
  | 0, _, _, _ => by rw [dt]; decide
  | m + 1, B, h, hne => by
    have h0 : B 0 0 ≠ 0 := fun z => hne (SD_row0 h z)
    have he := dt_sc (m + 1) B
    have he2 := dt_sc m B
    have hp : B 0 0 ^ (m + 1) ≠ 0 := Int.pow_ne_zero h0
    have hp2 : B 0 0 ^ m ≠ 0 := Int.pow_ne_zero h0
    have h1 : dt (m + 1) (sc B) ≠ 0 := by
      intro z
      rw [z, Int.mul_zero] at he
      rcases Int.mul_eq_zero.mp he.symm with q | q
      · exact hp q
      · exact hne q
    have h2 := dt_less m (sc B) (SD_sc h) h1
    intro z
    rw [z, Int.mul_zero] at he2
    rcases Int.mul_eq_zero.mp he2 with q | q
    · exact h0 q
    · exact h2 q
/-- a table without one of its knots -/
theorem SD_mn {m : Nat} {B : Nat → Nat → Int} (h : SD (m + 1) B) {c : Nat} (hc : c ≤ m) : SD m (mn B c c) := by
  refine ⟨fun i j => h.1 _ _, fun i hi => ?_⟩
  have h2 := h.2 (skp c i) (by have := skp_le c i; omega)
  unfold off at h2 ⊢
  rw [sI_skp _ (q := c) m hc, if_neg (fun z => skp_ne c i z.symm)] at h2
  have e : sI m (fun j => if j = i then 0 else ab (mn B c c i j)) = sI m (fun j => if skp c j = skp c i then 0 else ab (B (skp c i) (skp c j))) := by
    refine sI_congr fun j hj => ?_
    by_cases q : j = i
    · rw [if_pos q, if_pos (by rw [q])]
    · rw [if_neg q, if_neg (fun z => q (skp_inj z))]; rfl
  rw [e]
  have := ab_nn (B (skp c i) c)
  show _ ≤ B (skp c i) (skp c i)
  omega
/-- how great a determinant can be -/
theorem dt_bd {R : Int} (hR : 0 ≤ R) : ∀ (m : Nat) (B : Nat → Nat → Int), (∀ i, i < m → sI m (fun j => ab (B i j)) ≤ R) → ab (dt m B) ≤ R ^ m
  | 0, _, _ => by rw [dt, Int.pow_zero]; decide
  | m + 1, B, h => by
    have hab : ∀ (f : Nat → Int) n, ab (sI n f) ≤ sI n (fun j => ab (f j)) := by
      intro f n
      induction n with
      | zero => exact Int.le_refl _
      | succ n ih =>
        rw [sI, sI]
        have := ab_add (sI n f) (f n)
        omega
    have hs : ∀ j, ab (sg j) = 1 := by
      intro j
      rcases sg_or j with q | q <;> rw [q] <;> decide
    rw [dt]
    refine Int.le_trans (hab _ _) ?_
    have h1 : sI (m + 1) (fun j => ab (sg j * B 0 j * dt m (mn B 0 j))) ≤ sI (m + 1) (fun j => R ^ m * ab (B 0 j)) := by
      refine sI_le fun j hj => ?_
      rw [ab_mul, ab_mul, hs, Int.one_mul, Int.mul_comm]
      refine Int.mul_le_mul_of_nonneg_right (dt_bd hR m (mn B 0 j) fun i hi => ?_) (ab_nn _)
      have h2 := h (i + 1) (by omega)
      rw [sI_skp _ (q := j) m (by omega)] at h2
      have h3 := ab_nn (B (i + 1) j)
      have e : sI m (fun k => ab (mn B 0 j i k)) = sI m (fun k => ab (B (i + 1) (skp j k))) := sI_congr fun k _ => by unfold mn; rw [skp_0]
      rw [e]
      omega
    rw [sI_mul] at h1
    refine Int.le_trans h1 ?_
    rw [Int.pow_succ]
    exact Int.mul_le_mul_of_nonneg_left (h 0 (by omega)) (Int.pow_nonneg hR)
