/-! the true polynomial moved -/
def SFZ (h : Int) (f : Nat → Int) : Nat → Nat → Nat → Int
  | 0, _, _ => 0
  | d + 1, i, 0 => SFZ h f d (i + 1) 0 * h + f i
  | d + 1, i, j + 1 => SFZ h f d (i + 1) (j + 1) * h + SFZ h f d (i + 1) j
theorem SFZ0 (h : Int) (f : Nat → Int) (i j : Nat) : SFZ h f 0 i j = 0 := by cases j <;> rfl
theorem SFZz (h : Int) (f : Nat → Int) (d i : Nat) : SFZ h f (d + 1) i 0 = SFZ h f d (i + 1) 0 * h + f i := rfl
theorem SFZs (h : Int) (f : Nat → Int) (d i j : Nat) : SFZ h f (d + 1) i (j + 1) = SFZ h f d (i + 1) (j + 1) * h + SFZ h f d (i + 1) j := rfl
theorem SF_o {h : Int64} {hz : Int} {f : Nat → Int64} {fz : Nat → Int} (hh : h = Int64.ofInt hz) : ∀ {d i : Nat}, (∀ i', i ≤ i' → i' < i + d → f i' = Int64.ofInt (fz i')) → ∀ j, SF h f d i j = Int64.ofInt (SFZ hz fz d i j)
  | 0, i, _, j => by rw [SF0, SFZ0]; exact oI_0
  | d + 1, i, hf, j => by
    have ih := SF_o (f := f) (fz := fz) hh (d := d) (i := i + 1) (fun i' h1 h2 => hf i' (by omega) (by omega))
    cases j with
    | zero => rw [SFz, SFZz, ih, hf i (Nat.le_refl _) (by omega), hh, oI_mul, oI_add]
    | succ j => rw [SFs, SFZs, ih, ih, hh, oI_mul, oI_add]
theorem SFZ_top {h : Int} {f : Nat → Int} : ∀ d i j, d ≤ j → SFZ h f d i j = 0
  | 0, i, j, _ => SFZ0 h f i j
  | d + 1, i, j, hj => by
    obtain ⟨j', rfl⟩ : ∃ j', j = j' + 1 := ⟨j - 1, by omega⟩
    rw [SFZs, SFZ_top d _ _ (by omega), SFZ_top d _ _ (by omega)]
    omega
theorem SFZ_ev (h : Int) (f : Nat → Int) (y : Int) : ∀ d i, evP (SFZ h f d i) d y = evP (fun k => f (i + k)) d (y + h)
  | 0, i => rfl
  | d + 1, i => by
    have ih := SFZ_ev h f y d (i + 1)
    have e1 : evP (SFZ h f (d + 1) i) (d + 1) y = h * evP (SFZ h f d (i + 1)) (d + 1) y + (f i + y * evP (SFZ h f d (i + 1)) d y) := by
      rw [evP_first, evP_first (SFZ h f d (i + 1)), SFZz]
      have e2 : evP (fun k => SFZ h f (d + 1) i (k + 1)) d y = h * evP (fun k => SFZ h f d (i + 1) (k + 1)) d y + evP (SFZ h f d (i + 1)) d y := by
        rw [← evP_cmul, ← evP_add]
        refine evP_congr (fun k _ => ?_) y
        rw [SFZs]
        grind
      rw [e2]
      grind
    have e3 : evP (SFZ h f d (i + 1)) (d + 1) y = evP (SFZ h f d (i + 1)) d y := by
      unfold evP
      rw [sI, SFZ_top d _ _ (Nat.le_refl d), Int.zero_mul, Int.add_zero]
    have e4 : evP (fun k => f (i + k)) (d + 1) (y + h) = f i + (y + h) * evP (fun k => f (i + 1 + k)) d (y + h) := by
      rw [evP_first, Nat.add_zero]
      congr 2
      refine evP_congr (fun k _ => ?_) (y + h)
      rw [show i + (k + 1) = i + 1 + k by omega]
    rw [e1, e3, ih, e4]
    grind
/-! scaling -/
def scl (c : Int) (A : Nat → Nat → Int) : Nat → Nat → Int := fun i j => c * A i j
theorem dt_scl (c : Int) : ∀ (m : Nat) (A : Nat → Nat → Int), dt m (scl c A) = c ^ m * dt m A
  | 0, _ => by rw [dt, dt, Int.pow_zero]; rfl
  | m + 1, A => by
    rw [dt, dt, ← sI_mul]
    refine sI_congr fun j _ => ?_
    have e : mn (scl c A) 0 j = scl c (mn A 0 j) := rfl
    rw [e, dt_scl c m, Int.pow_succ]
    unfold scl
    grind
theorem evP_scl (a : Nat → Int) (n : Nat) (c z : Int) : evP a n (c * z) = evP (fun k => a k * c ^ k) n z := by
  unfold evP
  refine sI_congr fun k _ => ?_
  rw [Int.mul_pow]
  grind
theorem cf_scl (c : Int) (n : Nat) (A : Nat → Nat → Int) {k : Nat} (hk : k ≤ n) : cf n (scl c A) k * c ^ k = c ^ n * cf n A k := by
  refine evP_same (n := n + 1) (a := fun k => cf n (scl c A) k * c ^ k) (b := fun k => c ^ n * cf n A k) (fun z _ => ?_) (by omega)
  rw [← evP_scl, evP_cmul, ← cf_ev, ← cf_ev, ← dt_scl]
  refine dt_congr fun i j _ _ => ?_
  unfold ch scl
  grind
theorem cf_two (n : Nat) (A : Nat → Nat → Int) {k : Nat} (hk : k ≤ n) : cf n (scl 2 A) k = cf n A k * 2 ^ (n - k) := by
  have h := cf_scl 2 n A hk
  have e : (2 : Int) ^ n = 2 ^ k * 2 ^ (n - k) := by rw [← Int.pow_add, show k + (n - k) = n by omega]
  rw [e] at h
  have hp : (2 : Int) ^ k ≠ 0 := Int.pow_ne_zero (by omega)
  refine Int.eq_of_mul_eq_mul_left hp ?_
  grind
theorem pow_m1 : ∀ k : Nat, (-1 : Int) ^ k = sg k
  | 0 => rfl
  | k + 1 => by rw [Int.pow_succ, pow_m1 k, sg]; omega
theorem cf_neg (n : Nat) (A : Nat → Nat → Int) {k : Nat} (hk : k ≤ n) : cf n (scl (-1) A) k = sg (n - k) * cf n A k := by
  have h := cf_scl (-1) n A hk
  rw [pow_m1, pow_m1] at h
  have e : sg n = sg k * sg (n - k) := by rw [← sg_add, show k + (n - k) = n by omega]
  rw [e] at h
  have h2 := sg_sq k
  have h3 : cf n (scl (-1) A) k * (sg k * sg k) = (sg k * sg k) * (sg (n - k) * cf n A k) := by grind
  rw [h2] at h3
  omega
theorem ch_ch (B : Nat → Nat → Int) (h y : Int) : ch B (y + h) = ch (ch B h) y := by
  funext i j
  unfold ch
  grind
theorem cf_move (n : Nat) (B : Nat → Nat → Int) (h : Int) {j : Nat} (hj : j ≤ n) : SFZ h (fun i => cf n B i * 2 ^ (n - i)) (n + 1) 0 j = cf n (ch (scl 2 B) h) j := by
  refine evP_same (n := n + 1) (fun y _ => ?_) (by omega)
  rw [SFZ_ev, ← cf_ev, ← ch_ch, cf_ev]
  refine evP_congr (fun k hk => ?_) (y + h)
  rw [Nat.zero_add, cf_two n B (by omega)]
/-! signs -/
theorem cs0 (f : Nat → Int64) (n : Nat) : cs f n 0 = (0, 0) := rfl
theorem cs_last {f : Nat → Int64} {n : Nat} (h : ∀ j, j ≤ n → ¬ f j < 0) : ∀ c, (cs f n c).1 = 0 ∧ ¬ (cs f n c).2 < 0
  | 0 => ⟨rfl, by rw [cs0]; decide⟩
  | c + 1 => by
    obtain ⟨h1, h2⟩ := cs_last h c
    have h3 := h (n - c) (by omega)
    rw [cs]
    by_cases q : f (n - c) = 0
    · rw [if_pos q]; exact ⟨h1, h2⟩
    · rw [if_neg q]
      refine ⟨?_, h3⟩
      dsimp only
      rw [h1]
      by_cases q2 : (cs f n c).2 = 0
      · rw [if_pos q2]
      · rw [if_neg q2, if_pos ⟨fun z => absurd z h2, fun z => absurd z h3⟩]
theorem abv_nn {f : Nat → Int64} {n : Nat} (h : ∀ j, j ≤ n → ¬ f j < 0) : abv f n = 0 := (cs_last h (n + 1)).1
/-- never more changes than there are steps between those that are not nothing -/
theorem cs_zc {f : Nat → Int64} {n z : Nat} (hn : ¬ f n = 0) (h0 : ∀ i, i < z → f i = 0) (hz : z ≤ n) : abv f n ≤ n - z := by
  have h1 : ∀ c, 1 ≤ c → (cs f n c).1 ≤ c - 1 := by
    intro c
    induction c with
    | zero => intro h; omega
    | succ c ih =>
      intro _
      rcases Nat.eq_zero_or_pos c with q | q
      · subst q
        rw [cs, if_neg (by rw [Nat.sub_zero]; exact hn)]
        rw [cs0]
        dsimp only
        rw [if_pos rfl]
        exact Nat.le_refl 0
      · have := ih q
        rw [cs]
        by_cases q1 : f (n - c) = 0
        · rw [if_pos q1]; omega
        · rw [if_neg q1]
          dsimp only
          by_cases q2 : (cs f n c).2 = 0
          · rw [if_pos q2]; omega
          · rw [if_neg q2]
            by_cases q3 : ((cs f n c).2 < 0 ↔ f (n - c) < 0)
            · rw [if_pos q3]; omega
            · rw [if_neg q3]; omega
  have h2 : ∀ d, d ≤ z → cs f n (n + 1 - z + d) = cs f n (n + 1 - z) := by
    intro d
    induction d with
    | zero => intro _; rfl
    | succ d ih =>
      intro hd
      rw [← Nat.add_assoc, cs, if_pos (h0 _ (by omega))]
      exact ih (by omega)
  unfold abv
  have h3 := h2 z (Nat.le_refl z)
  rw [show n + 1 - z + z = n + 1 by omega] at h3
  rw [h3]
  have := h1 (n + 1 - z) (by omega)
  omega
theorem abv_zc {f : Nat → Int64} {n : Nat} (hn : ¬ f n = 0) : abv f n + zc f n ≤ n := by
  obtain ⟨z, hz, e, h1, h2⟩ := zc_ex hn
  have := cs_zc hn h2 hz
  omega
/-- signs that go to and fro down to the nothings at the low end -/
theorem abv_alt {f : Nat → Int64} {n z : Nat} (hz : z ≤ n) (h0 : ∀ i, i < z → f i = 0) (hne : ∀ i, z ≤ i → i ≤ n → ¬ f i = 0) (hal : ∀ i, z ≤ i → i < n → ¬ (f (i + 1) < 0 ↔ f i < 0)) : abv f n + zc f n = n := by
  have hzc : zc f n = z := by
    rw [zc_least (hne z (Nat.le_refl z) hz) h0]
    by_cases q : n ≤ z
    · rw [if_pos q]; omega
    · rw [if_neg q]
  have h1 : ∀ c, 1 ≤ c → c ≤ n + 1 - z → (cs f n c).1 = c - 1 ∧ (cs f n c).2 = f (n - (c - 1)) := by
    intro c
    induction c with
    | zero => intro h; omega
    | succ c ih =>
      intro _ hc
      have hn := hne (n - c) (by omega) (by omega)
      rcases Nat.eq_zero_or_pos c with q | q
      · subst q
        rw [cs, if_neg hn]
        refine ⟨?_, rfl⟩
        rw [cs0]
        dsimp only
        rw [if_pos rfl]
      · obtain ⟨g1, g2⟩ := ih q (by omega)
        have g3 : ¬ (cs f n c).2 = 0 := by rw [g2]; exact hne _ (by omega) (by omega)
        have g4 := hal (n - c) (by omega) (by omega)
        rw [cs, if_neg hn]
        refine ⟨?_, rfl⟩
        dsimp only
        rw [if_neg g3, g2, show n - (c - 1) = n - c + 1 by omega, if_neg g4, g1]
        omega
  have h2 : ∀ d, d ≤ z → cs f n (n + 1 - z + d) = cs f n (n + 1 - z) := by
    intro d
    induction d with
    | zero => intro _; rfl
    | succ d ih =>
      intro hd
      rw [← Nat.add_assoc, cs, if_pos (h0 _ (by omega))]
      exact ih (by omega)
  unfold abv
  have h3 := h2 z (Nat.le_refl z)
  rw [show n + 1 - z + z = n + 1 by omega] at h3
  rw [h3, (h1 (n + 1 - z) (by omega) (Nat.le_refl _)).1, hzc]
  omega
