/-! sums of whole numbers, determinants -/
def sI : Nat → (Nat → Int) → Int
  | 0, _ => 0
  | n + 1, f => sI n f + f n
theorem sI_congr {f g : Nat → Int} : ∀ {n : Nat}, (∀ i, i < n → f i = g i) → sI n f = sI n g
  | 0, _ => rfl
  | n + 1, h => by rw [sI, sI, sI_congr (n := n) (fun i hi => h i (by omega)), h n (by omega)]
theorem sI_add (f g : Nat → Int) : ∀ n, sI n (fun i => f i + g i) = sI n f + sI n g
  | 0 => rfl
  | n + 1 => by rw [sI, sI, sI, sI_add f g n]; omega
theorem sI_sub (f g : Nat → Int) : ∀ n, sI n (fun i => f i - g i) = sI n f - sI n g
  | 0 => rfl
  | n + 1 => by rw [sI, sI, sI, sI_sub f g n]; omega
theorem sI_mul (c : Int) (f : Nat → Int) : ∀ n, sI n (fun i => c * f i) = c * sI n f
  | 0 => by rw [sI, sI, Int.mul_zero]
  | n + 1 => by rw [sI, sI, sI_mul c f n, Int.mul_add]
theorem sI_zero : ∀ n, sI n (fun _ => 0) = 0
  | 0 => rfl
  | n + 1 => by rw [sI, sI_zero n]; rfl
theorem sI_z {f : Nat → Int} {n : Nat} (h : ∀ i, i < n → f i = 0) : sI n f = 0 := by rw [sI_congr (g := fun _ => 0) h, sI_zero]
theorem sI_comm (f : Nat → Nat → Int) (m : Nat) : ∀ n, sI n (fun a => sI m (f a)) = sI m (fun b => sI n (fun a => f a b))
  | 0 => (sI_zero m).symm
  | n + 1 => by rw [sI, sI_comm f m n, ← sI_add]; rfl
theorem sI_le {f g : Nat → Int} : ∀ {n : Nat}, (∀ i, i < n → f i ≤ g i) → sI n f ≤ sI n g
  | 0, _ => Int.le_refl _
  | n + 1, h => by
    have h1 := sI_le (n := n) (fun i hi => h i (by omega))
    have h2 := h n (by omega)
    rw [sI, sI]; omega
theorem sI_nn {f : Nat → Int} {n : Nat} (h : ∀ i, i < n → 0 ≤ f i) : 0 ≤ sI n f := by
  have := sI_le (f := fun _ => 0) (g := f) h
  rw [sI_zero] at this; exact this
theorem sI_nz {f : Nat → Int} : ∀ {n : Nat}, (∀ i, i < n → 0 ≤ f i) → sI n f = 0 → ∀ i, i < n → f i = 0
  | 0, _, _, i, hi => by omega
  | n + 1, h, h0, i, hi => by
    have h1 := sI_nn (n := n) (fun i hi => h i (by omega))
    have h2 := h n (by omega)
    rw [sI] at h0
    by_cases q : i = n
    · rw [q]; omega
    · exact sI_nz (n := n) (fun i hi => h i (by omega)) (by omega) i (by omega)
theorem sI_first (f : Nat → Int) : ∀ n, sI (n + 1) f = f 0 + sI n (fun i => f (i + 1))
  | 0 => by rw [sI, sI, sI]; omega
  | n + 1 => by rw [sI, sI_first f n, sI]; omega
def skp (j k : Nat) : Nat := if k < j then k else k + 1
theorem skp_lt {j k : Nat} (h : k < j) : skp j k = k := if_pos h
theorem skp_ge {j k : Nat} (h : j ≤ k) : skp j k = k + 1 := if_neg (by omega)
theorem skp_0 (k : Nat) : skp 0 k = k + 1 := skp_ge (by omega)
theorem skp_ne (j k : Nat) : skp j k ≠ j := by
  unfold skp
  by_cases h : k < j
  · rw [if_pos h]; omega
  · rw [if_neg h]; omega
theorem skp_le (j k : Nat) : skp j k ≤ k + 1 := by
  unfold skp
  by_cases h : k < j
  · rw [if_pos h]; omega
  · rw [if_neg h]; omega
theorem skp_inj {j a b : Nat} (h : skp j a = skp j b) : a = b := by
  unfold skp at h
  by_cases h1 : a < j <;> by_cases h2 : b < j
  · rw [if_pos h1, if_pos h2] at h; exact h
  · rw [if_pos h1, if_neg h2] at h; omega
  · rw [if_neg h1, if_pos h2] at h; omega
  · rw [if_neg h1, if_neg h2] at h; omega
theorem sI_skp (f : Nat → Int) {q : Nat} : ∀ m, q ≤ m → sI (m + 1) f = f q + sI m (fun j => f (skp q j))
  | 0, h => by rw [show q = 0 by omega, sI, sI, sI]; omega
  | m + 1, h => by
    by_cases e : q = m + 1
    · subst e
      rw [sI, sI_congr (n := m + 1) (f := fun j => f (skp (m + 1) j)) (g := f) (fun i hi => by rw [skp_lt hi])]
      omega
    · have ih := sI_skp f (q := q) m (by omega)
      rw [sI, ih, sI, skp_ge (by omega)]
      omega
/-- pairs of unlike ones, taken either way -/
theorem sI_pairs (G : Nat → Nat → Int) (m : Nat) : sI (m + 1) (fun j => sI m (fun k => G j (skp j k))) = sI (m + 1) (fun q => sI m (fun k => G (skp q k) q)) := by
  have h1 : sI (m + 1) (fun j => sI m (fun k => G j (skp j k))) = sI (m + 1) (fun j => sI (m + 1) (G j)) - sI (m + 1) (fun j => G j j) := by
    rw [← sI_sub]
    refine sI_congr fun j hj => ?_
    rw [sI_skp (G j) (q := j) m (by omega)]; omega
  have h2 : sI (m + 1) (fun q => sI m (fun k => G (skp q k) q)) = sI (m + 1) (fun q => sI (m + 1) (fun j => G j q)) - sI (m + 1) (fun j => G j j) := by
    rw [← sI_sub]
    refine sI_congr fun q hq => ?_
    rw [sI_skp (fun j => G j q) (q := q) m (by omega)]; omega
  rw [h1, h2, sI_comm]
def sg : Nat → Int
  | 0 => 1
  | n + 1 => -sg n
theorem sg_add (a : Nat) : ∀ b, sg (a + b) = sg a * sg b
  | 0 => by rw [Nat.add_zero, sg, Int.mul_one]
  | b + 1 => by rw [← Nat.add_assoc, sg, sg_add a b, sg, Int.mul_neg]
theorem sg_sq (a : Nat) : sg a * sg a = 1 := by
  induction a with
  | zero => rfl
  | succ a ih => rw [sg, Int.neg_mul_neg, ih]
theorem sg_or (a : Nat) : sg a = 1 ∨ sg a = -1 := by
  induction a with
  | zero => exact Or.inl rfl
  | succ a ih => rw [sg]; omega
def mn (A : Nat → Nat → Int) (p q : Nat) : Nat → Nat → Int := fun i k => A (skp p i) (skp q k)
def dt : Nat → (Nat → Nat → Int) → Int
  | 0, _ => 1
  | m + 1, A => sI (m + 1) (fun j => sg j * A 0 j * dt m (mn A 0 j))
theorem dt_congr : ∀ {m : Nat} {A B : Nat → Nat → Int}, (∀ i j, i < m → j < m → A i j = B i j) → dt m A = dt m B
  | 0, _, _, _ => rfl
  | m + 1, A, B, h => by
    rw [dt, dt]
    refine sI_congr fun j hj => ?_
    rw [h 0 j (by omega) hj, dt_congr (m := m) (A := mn A 0 j) (B := mn B 0 j) (fun i k hi hk => h _ _ (by have := skp_le 0 i; omega) (by have := skp_le j k; omega))]
def usk (j q : Nat) : Nat := if q < j then q else q - 1
theorem usk_skp (j k : Nat) : usk j (skp j k) = k := by
  unfold usk skp
  by_cases h : k < j
  · rw [if_pos h, if_pos h]
  · rw [if_neg h, if_neg (by omega)]; omega
/-- Laplace along any row -/
theorem dt_row : ∀ (m : Nat) (A : Nat → Nat → Int) (p : Nat), p ≤ m → dt (m + 1) A = sI (m + 1) (fun q => sg (p + q) * A p q * dt m (mn A p q)) := by
  intro m
  induction m with
  | zero =>
    intro A p hp
    rw [show p = 0 by omega, dt]
    refine sI_congr fun q _ => ?_
    rw [Nat.zero_add]
  | succ m ih =>
    intro A p hp
    cases p with
    | zero =>
      rw [dt]
      refine sI_congr fun q _ => ?_
      rw [Nat.zero_add]
    | succ p =>
      have hL : dt (m + 1 + 1) A = sI (m + 1 + 1) (fun j => sI (m + 1) (fun k => (fun j q => sg j * A 0 j * (sg (p + usk j q) * A (p + 1) q * dt m (fun i c => A (skp p i + 1) (skp j (skp (usk j q) c))))) j (skp j k))) := by
        rw [dt]
        refine sI_congr fun j hj => ?_
        dsimp only
        rw [sI_mul, ih (mn A 0 j) p (by omega)]
        congr 1
        refine sI_congr fun k hk => ?_
        rw [usk_skp]
        have e1 : mn A 0 j p k = A (p + 1) (skp j k) := by unfold mn; rw [skp_0]
        have e2 : mn (mn A 0 j) p k = fun i c => A (skp p i + 1) (skp j (skp k c)) := by
          funext i c; unfold mn; rw [skp_0]
        rw [e1, e2]
      refine hL.trans ((sI_pairs (fun j q => sg j * A 0 j * (sg (p + usk j q) * A (p + 1) q * dt m (fun i c => A (skp p i + 1) (skp j (skp (usk j q) c))))) (m + 1)).trans ?_)
      refine sI_congr fun q hq => ?_
      rw [dt, ← sI_mul]
      refine sI_congr fun k hk => ?_
      have e1 : mn A (p + 1) q 0 k = A 0 (skp q k) := by unfold mn; rw [skp_lt (by omega)]
      have e2 : mn (mn A (p + 1) q) 0 k = fun i c => A (skp p i + 1) (skp (skp q k) (skp (usk (skp q k) q) c)) := by
        funext i c
        unfold mn
        have e3 : skp (p + 1) (skp 0 i) = skp p i + 1 := by
          rw [skp_0]
          unfold skp
          by_cases h : i < p
          · rw [if_pos h, if_pos (by omega)]
          · rw [if_neg h, if_neg (by omega)]
        have e4 : skp q (skp k c) = skp (skp q k) (skp (usk (skp q k) q) c) := by
          unfold usk
          by_cases h : k < q
          · rw [skp_lt h, if_neg (by omega)]
            unfold skp
            by_cases h1 : c < k
            · rw [if_pos h1, if_pos (by omega), if_pos (show c < q - 1 by omega), if_pos h1]
            · rw [if_neg h1]
              by_cases h2 : c + 1 < q
              · rw [if_pos h2, if_pos (show c < q - 1 by omega), if_neg h1]
              · rw [if_neg h2, if_neg (show ¬ c < q - 1 by omega), if_neg (show ¬ c + 1 < k by omega)]
          · rw [skp_ge (by omega : q ≤ k), if_pos (by omega)]
            unfold skp
            by_cases h1 : c < k
            · rw [if_pos h1]
              by_cases h2 : c < q
              · rw [if_pos h2, if_pos (by omega)]
              · rw [if_neg h2, if_pos (by omega)]
            · rw [if_neg h1, if_neg (show ¬ c + 1 < q by omega), if_neg (show ¬ c < q by omega), if_neg (show ¬ c + 1 < k + 1 by omega)]
        rw [e3, e4]
      rw [e1, e2]
      have hs : sg (skp q k) * sg (p + usk (skp q k) q) = sg (p + 1 + q) * sg k := by
        unfold usk
        by_cases h : k < q
        · obtain ⟨q', rfl⟩ : ∃ q', q = q' + 1 := ⟨q - 1, by omega⟩
          rw [skp_lt h, if_neg (by omega), show q' + 1 - 1 = q' by omega, show p + 1 + (q' + 1) = p + q' + 1 + 1 by omega, sg, sg, Int.neg_neg, Int.mul_comm]
        · rw [skp_ge (by omega : q ≤ k), if_pos (by omega), sg, show p + 1 + q = p + q + 1 by omega, sg]
          grind
      grind
theorem dt_zero {m : Nat} {A : Nat → Nat → Int} {p : Nat} (hp : p ≤ m) (h : ∀ q, q ≤ m → A p q = 0) : dt (m + 1) A = 0 := by
  rw [dt_row m A p hp]
  refine sI_z fun q hq => ?_
  rw [h q (by omega), Int.mul_zero, Int.zero_mul]
/-- two rows alike -/
theorem dt_alike : ∀ (m : Nat) (A : Nat → Nat → Int) (p p' : Nat), p < p' → p' ≤ m → (∀ q, q ≤ m → A p q = A p' q) → dt (m + 1) A = 0 := by
  intro m
  induction m with
  | zero => intro A p p' h1 h2; omega
  | succ m ih =>
    intro A p p' h1 h2 h
    by_cases hm : m = 0
    · subst hm
      have e1 : p = 0 := by omega
      have e2 : p' = 1 := by omega
      subst e1 e2
      have a0 := h 0 (by omega)
      have a1 := h 1 (by omega)
      simp only [dt, sI, mn, sg, skp]
      simp
      rw [a0, a1]
      grind
    · obtain ⟨c, hc1, hc2, hc3⟩ : ∃ c, c ≠ p ∧ c ≠ p' ∧ c ≤ m + 1 := by
        by_cases q0 : p = 0
        · by_cases q1 : p' = 1
          · exact ⟨2, by omega, by omega, by omega⟩
          · exact ⟨1, by omega, by omega, by omega⟩
        · exact ⟨0, by omega, by omega, by omega⟩
      rw [dt_row (m + 1) A c hc3]
      refine sI_z fun q hq => ?_
      have hu : ∀ x, x ≠ c → skp c (usk c x) = x := by
        intro x hx
        unfold skp usk
        by_cases h : x < c
        · rw [if_pos h, if_pos h]
        · rw [if_neg h, if_neg (by omega)]; omega
      have hlt : usk c p < usk c p' := by
        unfold usk
        by_cases h1 : p < c <;> by_cases h2 : p' < c
        · rw [if_pos h1, if_pos h2]; omega
        · rw [if_pos h1, if_neg h2]; omega
        · rw [if_neg h1, if_pos h2]; omega
        · rw [if_neg h1, if_neg h2]; omega
      have hle : usk c p' ≤ m := by
        unfold usk
        by_cases h1 : p' < c
        · rw [if_pos h1]; omega
        · rw [if_neg h1]; omega
      rw [ih (mn A c q) (usk c p) (usk c p') hlt hle (fun k hk => by
        unfold mn
        rw [hu p (fun z => hc1 z.symm), hu p' (fun z => hc2 z.symm)]
        exact h _ (by have := skp_le q k; omega)), Int.mul_zero]
def ru (A : Nat → Nat → Int) (p : Nat) (u : Nat → Int) : Nat → Nat → Int := fun i j => if i = p then u j else A i j
theorem mn_ru (A : Nat → Nat → Int) (p q : Nat) (u : Nat → Int) : mn (ru A p u) p q = mn A p q := by
  funext i k
  unfold mn ru
  rw [if_neg (skp_ne p i)]
theorem dt_ru {m : Nat} (A : Nat → Nat → Int) {p : Nat} (hp : p ≤ m) (u : Nat → Int) : dt (m + 1) (ru A p u) = sI (m + 1) (fun q => sg (p + q) * u q * dt m (mn A p q)) := by
  rw [dt_row m _ p hp]
  refine sI_congr fun q _ => ?_
  rw [mn_ru]
  unfold ru
  rw [if_pos rfl]
theorem ru_self (A : Nat → Nat → Int) (p : Nat) : ru A p (A p) = A := by
  funext i j
  unfold ru
  by_cases h : i = p
  · rw [if_pos h, h]
  · rw [if_neg h]
theorem dt_lin {m : Nat} (A : Nat → Nat → Int) {p : Nat} (hp : p ≤ m) (u v : Nat → Int) (c d : Int) : dt (m + 1) (ru A p (fun j => c * u j + d * v j)) = c * dt (m + 1) (ru A p u) + d * dt (m + 1) (ru A p v) := by
  rw [dt_ru A hp, dt_ru A hp, dt_ru A hp, ← sI_mul, ← sI_mul, ← sI_add]
  refine sI_congr fun q _ => ?_
  grind
/-- rows against the minors of a row -/
theorem dt_adj {m : Nat} (A : Nat → Nat → Int) {p p' : Nat} (hp : p ≤ m) (hp' : p' ≤ m) : sI (m + 1) (fun q => A p' q * (sg (p + q) * dt m (mn A p q))) = if p' = p then dt (m + 1) A else 0 := by
  have h1 : sI (m + 1) (fun q => A p' q * (sg (p + q) * dt m (mn A p q))) = dt (m + 1) (ru A p (A p')) := by
    rw [dt_ru A hp]
    refine sI_congr fun q _ => ?_
    grind
  rw [h1]
  by_cases h : p' = p
  · rw [if_pos h, h, ru_self]
  · rw [if_neg h]
    rcases Nat.lt_or_ge p p' with q | q
    · refine dt_alike m _ p p' q hp' (fun k _ => ?_)
      unfold ru
      rw [if_pos rfl, if_neg h]
    · refine dt_alike m _ p' p (by omega) hp (fun k _ => ?_)
      unfold ru
      rw [if_neg h, if_pos rfl]
