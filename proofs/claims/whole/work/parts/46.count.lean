/-! the reference's move -/
theorem SF_congr {h : Int64} {f g : Nat → Int64} : ∀ {d i : Nat}, (∀ i', i ≤ i' → i' < i + d → f i' = g i') → ∀ j, SF h f d i j = SF h g d i j
  | 0, i, _, j => by rw [SF0, SF0]
  | d + 1, i, hf, j => by
    have ih := SF_congr (h := h) (f := f) (g := g) (d := d) (i := i + 1) (fun i' h1 h2 => hf i' (by omega) (by omega))
    cases j with
    | zero => rw [SFz, SFz, ih, hf i (Nat.le_refl _) (by omega)]
    | succ j => rw [SFs, SFs, ih, ih]
theorem SF_top {h : Int64} {f : Nat → Int64} : ∀ d i, (∀ j, d ≤ j → SF h f d i j = 0) ∧ SF h f (d + 1) i d = f (i + d)
  | 0, i => ⟨fun j _ => SF0 h f i j, by rw [SFz, SF0, rg00, Nat.add_zero]⟩
  | d + 1, i => by
    obtain ⟨h1, h2⟩ := SF_top (h := h) (f := f) d (i + 1)
    have h3 : ∀ j, d + 1 ≤ j → SF h f (d + 1) i j = 0 := by
      intro j hj
      obtain ⟨j', rfl⟩ : ∃ j', j = j' + 1 := ⟨j - 1, by omega⟩
      rw [SFs, h1 _ (by omega), h1 _ (by omega), rg00]
    refine ⟨h3, ?_⟩
    have h4 : SF h f (d + 1) (i + 1) (d + 1) = 0 := by
      obtain ⟨g1, -⟩ := SF_top (h := h) (f := f) d (i + 1 + 1)
      rw [SFs, g1 _ (by omega), g1 _ (by omega), rg00]
    rw [SFs, h4, h2, rg00]
    congr 1
    omega
theorem mv0 {n : Nat} (h10 : n ≤ 10) (mo : Nat → Int64) : ∃ mo', loop (b_X6_move_2 (nI n)) ((0 : Int32), mo) = some mo' ∧ ∀ j, j ≤ n → mo' j = 0 :=
  loop_cnt (f := b_X6_move_2 (nI n)) (fun i x => ∃ f, x = (nI i, f) ∧ ∀ c, c < i → f c = 0) (n + 1) (fun f => ∀ j, j ≤ n → f j = 0) (by
    rintro i x hi ⟨f, rfl, h⟩
    unfold b_X6_move_2
    dsimp only
    rw [if_neg (nI_nlt (by omega) (by omega)), chk_in (vp_in_nI (by omega) (by omega)), nI_clamp (by omega), nI_1]
    refine ⟨_, rfl, _, rfl, fun c hc => ?_⟩
    by_cases q : c = i
    · rw [q, pk_uLs]
    · rw [pk_uLn q]; exact h c (by omega)) (by
    rintro x ⟨f, rfl, h⟩
    unfold b_X6_move_2
    dsimp only
    rw [if_pos (nI_lt (by omega) (by omega))]
    exact ⟨_, rfl, fun j hj => h j (by omega)⟩) 0 _ (by omega) ⟨mo, rfl, fun c hc => by omega⟩
def hn (h : Int64) (f : Nat → Int64) : Nat → Int64
  | 0 => f 0 * h + 0
  | j + 1 => f (j + 1) * h + f j
theorem mv33 {n : Nat} (h32 : Int32) (h10 : n ≤ 10) (f : Nat → Int64) : ∃ g, loop (b_X6_move_33 h32) (nI n, f) = some g ∧ ∀ j, j ≤ n → g j = hn h32.toInt64 f j := by
  refine loop_cnt (f := b_X6_move_33 h32) (fun c x => ∃ g, x = (nI (n + 1 - c) + (-1 : Int32), g) ∧ (∀ j, j < n + 1 - c → g j = f j) ∧ ∀ j, n + 1 - c ≤ j → j ≤ n → g j = hn h32.toInt64 f j) (n + 1) _ ?_ ?_ 0 _ (by omega) ⟨f, by rw [Nat.sub_zero, nI_dn], fun _ _ => rfl, fun j h1 h2 => by omega⟩
  · rintro c x hc ⟨g, rfl, g1, g2⟩
    obtain ⟨m, hm⟩ : ∃ m, n + 1 - c = m + 1 := ⟨n + 1 - c - 1, by omega⟩
    unfold b_X6_move_33
    dsimp only
    rw [hm, nI_dn, if_neg (nI_pos (by omega)), chk_in (vp_in_nI (by omega) (by omega)), chk_in (vp_in_nI (by omega) (by omega)), nI_clamp (by omega)]
    have fin : ∀ v, v = hn h32.toInt64 f m → ∃ y, (some (Sum.inl (nI m + (-1 : Int32), vp_updL g m v)) : Option ((Int32 × (Nat → Int64)) ⊕ (Nat → Int64))) = some (Sum.inl y) ∧ ∃ g, y = (nI (n + 1 - (c + 1)) + (-1 : Int32), g) ∧ (∀ j, j < n + 1 - (c + 1) → g j = f j) ∧ ∀ j, n + 1 - (c + 1) ≤ j → j ≤ n → g j = hn h32.toInt64 f j := by
      intro v hv
      refine ⟨_, rfl, _, by rw [show n + 1 - (c + 1) = m by omega], fun j hj => ?_, fun j h1 h2 => ?_⟩
      · rw [pk_uLn (by omega)]; exact g1 j (by omega)
      · by_cases q : j = m
        · rw [q, pk_uLs]; exact hv
        · rw [pk_uLn q]; exact g2 j (by omega) h2
    cases m with
    | zero =>
      rw [if_pos (by decide), g1 0 (by omega)]
      exact fin _ rfl
    | succ m =>
      rw [if_neg (nI_nle (by omega) (by omega)), nI_pred, chk_in (vp_in_nI (by omega) (by omega)), chk_in (vp_in_nI (by omega) (by omega)), nI_clamp (by omega), g1 (m + 1) (by omega), g1 m (by omega)]
      exact fin _ rfl
  · rintro x ⟨g, rfl, g1, g2⟩
    unfold b_X6_move_33
    dsimp only
    rw [Nat.sub_self, if_pos (by decide)]
    exact ⟨_, rfl, fun j hj => g2 j (by omega) hj⟩
theorem s_move {n : Nat} {nu : Nat → Int64} (h10 : n ≤ 10) (mo : Nat → Int64) (h32 : Int32) : ∃ mo', s_X6_move nu mo (nI n) h32 = some mo' ∧ ∀ j, j ≤ n → mo' j = SF h32.toInt64 (fun i => nu i * lN (2 ^ (n - i))) (n + 1) 0 j := by
  obtain ⟨m0, z1, z2⟩ := mv0 h10 mo
  have := loop_cnt (f := b_X6_move_25 nu (nI n) h32) (fun k x => ∃ g, x = (lN (2 ^ k), nI (n + 1 - k) + (-1 : Int32), g) ∧ ∀ j, j ≤ n → g j = SF h32.toInt64 (fun i => nu i * lN (2 ^ (n - i))) k (n + 1 - k) j) (n + 1) (fun g => ∀ j, j ≤ n → g j = SF h32.toInt64 (fun i => nu i * lN (2 ^ (n - i))) (n + 1) 0 j) ?_ ?_ 0 ((1 : Int64), nI n, m0) (by omega) ⟨m0, by rw [Nat.sub_zero, nI_dn]; rfl, fun j hj => by rw [SF0]; exact z2 j hj⟩
  · obtain ⟨mo', e1, e2⟩ := this
    refine ⟨mo', ?_, e2⟩
    unfold s_X6_move
    rw [z1]
    simp only [Option.bind_some]
    rw [e1]
    rfl
  · rintro k x hk ⟨g, rfl, g1⟩
    obtain ⟨m, hm⟩ : ∃ m, n + 1 - k = m + 1 := ⟨n + 1 - k - 1, by omega⟩
    obtain ⟨g', e1, e2⟩ := mv33 h32 h10 g
    have z0 : (0 : Int32).toNatClampNeg = 0 := by decide
    have hck0 : vp_in (0 : Int32) 11 := vp_in_nI (n := 0) (by omega) (by omega)
    unfold b_X6_move_25
    dsimp only
    rw [hm, nI_dn, if_neg (nI_pos (by omega)), e1]
    simp only [Option.bind_some, chk_in hck0]
    rw [chk_in (vp_in_nI (by omega) (by omega)), nI_clamp (by omega), z0]
    have h2 : lN (2 ^ k) * (2 : Int64) = lN (2 ^ (k + 1)) := by
      rw [show (2 : Int64) = lN 2 by decide, lN_mul, Nat.pow_succ]
    rw [h2]
    refine ⟨_, rfl, _, by rw [show n + 1 - (k + 1) = m by omega], fun j hj => ?_⟩
    rw [show n + 1 - (k + 1) = m by omega]
    rw [hm] at g1
    cases j with
    | zero =>
      rw [pk_uLs, e2 0 (by omega), hn, g1 0 (by omega), SFz, show n - m = k by omega, Int64.add_zero]
    | succ j =>
      rw [pk_uLn (by omega), e2 (j + 1) hj, hn, g1 (j + 1) hj, g1 j (by omega), SFs]
  · rintro x ⟨g, rfl, g1⟩
    unfold b_X6_move_25
    dsimp only
    rw [Nat.sub_self] at *
    rw [if_pos (by decide)]
    exact ⟨_, rfl, g1⟩
/-! how many are above, how many are just there -/
def pol (t : Nat → Nat → Int64) (n i : Nat) : Int64 := polC t n (n - i) * lN (2 ^ (n - i))
def mv (t : Nat → Nat → Int64) (n : Nat) (h : Int32) (j : Nat) : Int64 := SF h.toInt64 (pol t n) (n + 1) 0 j
theorem mv_top (t : Nat → Nat → Int64) (n : Nat) (h : Int32) : mv t n h n = 1 := by
  unfold mv
  rw [(SF_top n 0).2, Nat.zero_add]
  unfold pol
  rw [Nat.sub_self, polC]
  decide
def sgn (x : Int64) : Int32 := if x < 0 then -1 else if x = 0 then 0 else 1
theorem s_signum (a : Int64) : s_J13_signum_95d88 a = some (sgn a) := by
  unfold s_J13_signum_95d88 sgn
  congr 1
  have e63 : (63 : Int32) = nI 63 := by decide
  rw [e63]
  by_cases q : a < 0
  · rw [if_pos q]
    have h1 : a >>> ((nI 63).toInt64 &&& 63) = -1 := by
      apply Int64.toInt_inj.mp
      show (a.toBitVec.sshiftRight (((nI 63).toInt64 &&& 63).toBitVec.smod 64).toNat).toInt = _
      rw [sh63 63 (by omega), BitVec.toInt_sshiftRight]
      show a.toInt >>> 63 = _
      rw [Int.shiftRight_eq_div_pow, show (-1 : Int64).toInt = -1 by decide]
      rw [Int64.lt_iff_toInt_lt, show (0 : Int64).toInt = 0 by decide] at q
      have := a.le_toInt
      have e2 : ((2 ^ 63 : Nat) : Int) = 9223372036854775808 := by decide
      rw [e2]
      omega
    rw [h1]
    have h2 : ∀ x : Int64, (-1 : Int64) ||| x = -1 := by
      intro x
      apply Int64.toBitVec_inj.mp
      rw [Int64.toBitVec_or]
      show BitVec.allOnes 64 ||| _ = BitVec.allOnes 64
      exact BitVec.allOnes_or
    rw [h2]
    decide
  · rw [if_neg q]
    obtain ⟨k, hk, rfl⟩ := pk_lOf q
    by_cases q2 : k = 0
    · subst q2; decide
    · rw [if_neg (lN_ne0 (by omega) hk), lN_shr hk (by omega)]
      have h1 : k >>> 63 = 0 := by rw [Nat.shiftRight_eq_div_pow, Nat.div_eq_of_lt hk]
      have h2 : ((-lN k).toUInt64 >>> ((nI 63).toInt64.toUInt64 &&& Int64.toUInt64 63)).toInt64 = lN 1 := by
        apply Int64.toBitVec_inj.mp
        apply BitVec.eq_of_toNat_eq
        rw [lN_ushr _ (by omega), lN_tn (by omega), Int64.toBitVec_neg, BitVec.toNat_neg, lN_tn (by omega), Nat.mod_eq_of_lt (by omega), Nat.shiftRight_eq_div_pow]
        omega
      rw [h1, h2]
      decide
def cs (f : Nat → Int64) (n : Nat) : Nat → Nat × Int64
  | 0 => (0, 0)
  | c + 1 => if f (n - c) = 0 then cs f n c else ((cs f n c).1 + (if (cs f n c).2 = 0 then 0 else if ((cs f n c).2 < 0 ↔ f (n - c) < 0) then 0 else 1), f (n - c))
def abv (f : Nat → Int64) (n : Nat) : Nat := (cs f n (n + 1)).1
theorem cs_le (f : Nat → Int64) (n : Nat) : ∀ c, (cs f n c).1 ≤ c
  | 0 => Nat.le_refl 0
  | c + 1 => by
    have ih := cs_le f n c
    rw [cs]
    by_cases h1 : f (n - c) = 0
    · rw [if_pos h1]; omega
    · rw [if_neg h1]
      dsimp only
      by_cases h2 : (cs f n c).2 = 0
      · rw [if_pos h2]; omega
      · rw [if_neg h2]
        by_cases h3 : ((cs f n c).2 < 0 ↔ f (n - c) < 0)
        · rw [if_pos h3]; omega
        · rw [if_neg h3]; omega
theorem sgn_z (x : Int64) : sgn x = 0 ↔ x = 0 := by
  unfold sgn
  by_cases q : x < 0
  · rw [if_pos q]
    refine ⟨fun z => absurd z (by decide), fun z => ?_⟩
    rw [z] at q; exact absurd q (by decide)
  · rw [if_neg q]
    by_cases q2 : x = 0
    · rw [if_pos q2]; exact ⟨fun _ => q2, fun _ => rfl⟩
    · rw [if_neg q2]; exact ⟨fun z => absurd z (by decide), fun z => absurd z q2⟩
theorem sgn_neg {x y : Int64} (hx : ¬ x = 0) : sgn x = -sgn y ↔ ¬ y = 0 ∧ ¬ (y < 0 ↔ x < 0) := by
  unfold sgn
  by_cases a : x < 0
  · rw [if_pos a]
    by_cases b : y < 0
    · rw [if_pos b]
      exact ⟨fun z => absurd z (by decide), fun z => absurd (show (y < 0 ↔ x < 0) from ⟨fun _ => a, fun _ => b⟩) z.2⟩
    · rw [if_neg b]
      by_cases c : y = 0
      · rw [if_pos c]
        exact ⟨fun z => absurd z (by decide), fun z => absurd c z.1⟩
      · rw [if_neg c]
        exact ⟨fun _ => ⟨c, fun z => b (z.mpr a)⟩, fun _ => by decide⟩
  · rw [if_neg a, if_neg hx]
    by_cases b : y < 0
    · rw [if_pos b]
      refine ⟨fun _ => ⟨fun z => ?_, fun z => a (z.mp b)⟩, fun _ => by decide⟩
      rw [z] at b; exact absurd b (by decide)
    · rw [if_neg b]
      by_cases c : y = 0
      · rw [if_pos c]
        exact ⟨fun z => absurd z (by decide), fun z => absurd c z.1⟩
      · rw [if_neg c]
        exact ⟨fun z => absurd z (by decide), fun z => absurd (show (y < 0 ↔ x < 0) from ⟨fun q => absurd q b, fun q => absurd q a⟩) z.2⟩
theorem s_cntAbove {n : Nat} {cM f : Nat → Int64} (h10 : n ≤ 10) (h : ∀ j, j ≤ n → cM j = f j) : loop (b_X3_countAbove_15 cM) ((0 : Int32), (0 : Int32), nI n) = some (nI (abv f n)) := by
  obtain ⟨e, he, rfl⟩ := loop_cnt (f := b_X3_countAbove_15 cM) (fun c x => x = (nI (cs f n c).1, sgn (cs f n c).2, nI (n + 1 - c) + (-1 : Int32))) (n + 1) (fun e => e = nI (abv f n)) (by
    rintro c x hc rfl
    obtain ⟨m, hm⟩ : ∃ m, n + 1 - c = m + 1 := ⟨n + 1 - c - 1, by omega⟩
    have hnc : n - c = m := by omega
    unfold b_X3_countAbove_15
    dsimp only
    rw [hm, nI_dn, if_neg (nI_pos (by omega)), chk_in (vp_in_nI (by omega) (by omega)), nI_clamp (by omega), s_signum, h m (by omega), show n + 1 - (c + 1) = m by omega, cs, hnc]
    simp only [Option.bind_some]
    by_cases q : f m = 0
    · have q' := (sgn_z _).mpr q
      rw [if_pos q', if_pos q', if_pos q]
      exact ⟨_, rfl, rfl⟩
    · have q' : ¬ sgn (f m) = 0 := fun z => q ((sgn_z _).mp z)
      rw [if_neg q', if_neg q', if_neg q', if_neg q]
      by_cases q2 : sgn (f m) = -sgn (cs f n c).2
      · obtain ⟨h1, h2⟩ := (sgn_neg q).mp q2
        rw [if_pos q2, if_neg h1, if_neg h2, nI_1]
        exact ⟨_, rfl, rfl⟩
      · rw [if_neg q2]
        by_cases h1 : (cs f n c).2 = 0
        · rw [if_pos h1]
          exact ⟨_, rfl, rfl⟩
        · have h2 : ((cs f n c).2 < 0 ↔ f m < 0) := by
            by_cases h2 : ((cs f n c).2 < 0 ↔ f m < 0)
            · exact h2
            · exact absurd ((sgn_neg q).mpr ⟨h1, h2⟩) q2
          rw [if_neg h1, if_pos h2]
          exact ⟨_, rfl, rfl⟩) (by
    rintro x rfl
    unfold b_X3_countAbove_15
    dsimp only
    rw [Nat.sub_self, if_pos (by decide)]
    exact ⟨_, rfl, rfl⟩) 0 ((0 : Int32), (0 : Int32), nI n) (by omega) (by rw [Nat.sub_zero, nI_dn]; rfl)
  exact he
theorem s_abvM {n : Nat} {mo f : Nat → Int64} (h10 : n ≤ 10) (h : ∀ j, j ≤ n → mo j = f j) : loop (b_X6_aboveOf_14 mo) ((0 : Int32), (0 : Int64), nI n) = some (nI (abv f n)) := by
  obtain ⟨e, he, rfl⟩ := loop_cnt (f := b_X6_aboveOf_14 mo) (fun c x => x = (nI (cs f n c).1, (cs f n c).2, nI (n + 1 - c) + (-1 : Int32))) (n + 1) (fun e => e = nI (abv f n)) (by
    rintro c x hc rfl
    obtain ⟨m, hm⟩ : ∃ m, n + 1 - c = m + 1 := ⟨n + 1 - c - 1, by omega⟩
    have hnc : n - c = m := by omega
    have hck : vp_in (nI m) 11 := vp_in_nI (by omega) (by omega)
    have hadd0 : ∀ a, nI a + (0 : Int32) = nI a := fun a => by rw [i0, nI_add]; rfl
    have hge : ∀ x : Int64, (0 ≤ lg_cmp x 0) ↔ ¬ x < 0 := by
      intro x
      rw [lg_cmp_ge, Int64.le_iff_toInt_le, Int64.lt_iff_toInt_lt]
      omega
    unfold b_X6_aboveOf_14
    dsimp only
    rw [hm, nI_dn, if_neg (nI_pos (by omega))]
    simp only [chk_in hck, lg_cmp_eq, hge]
    rw [nI_clamp (by omega), h m (by omega), show n + 1 - (c + 1) = m by omega, cs, hnc, hadd0, nI_1]
    by_cases q : f m = 0
    · rw [if_pos q, if_pos q]
      exact ⟨_, rfl, rfl⟩
    · rw [if_neg q, if_neg q]
      by_cases h1 : (cs f n c).2 = 0
      · rw [if_pos h1, if_pos h1]
        exact ⟨_, rfl, rfl⟩
      · rw [if_neg h1, if_neg h1]
        have i01 : ¬ (0 : Int32) = 1 := by decide
        have i10 : ¬ (1 : Int32) = 0 := by decide
        by_cases a : (cs f n c).2 < 0
        · by_cases b : f m < 0
          · simp only [a, b, not_true, if_false, if_true]
            exact ⟨_, rfl, rfl⟩
          · simp only [a, b, not_true, not_false_iff, if_false, if_true, if_neg i10, iff_false]
            exact ⟨_, rfl, rfl⟩
        · by_cases b : f m < 0
          · simp only [a, b, not_true, not_false_iff, if_false, if_true, if_neg i01, iff_true]
            exact ⟨_, rfl, rfl⟩
          · simp only [a, b, not_true, not_false_iff, if_false, if_true]
            exact ⟨_, rfl, rfl⟩) (by
    rintro x rfl
    unfold b_X6_aboveOf_14
    dsimp only
    rw [Nat.sub_self, if_pos (by decide)]
    exact ⟨_, rfl, rfl⟩) 0 ((0 : Int32), (0 : Int64), nI n) (by omega) (by rw [Nat.sub_zero, nI_dn]; rfl)
  exact he
def zc (f : Nat → Int64) : Nat → Nat
  | 0 => 0
  | i + 1 => if zc f i = i ∧ f i = 0 then i + 1 else zc f i
theorem zc_least {f : Nat → Int64} {z : Nat} (h1 : ¬ f z = 0) (h2 : ∀ i, i < z → f i = 0) : ∀ i, zc f i = if i ≤ z then i else z
  | 0 => by rw [if_pos (by omega)]; rfl
  | i + 1 => by
    have ih := zc_least h1 h2 i
    rw [zc, ih]
    rcases Nat.lt_trichotomy i z with q | q | q
    · rw [if_pos (show i ≤ z by omega), if_pos ⟨rfl, h2 i q⟩, if_pos (show i + 1 ≤ z by omega)]
    · subst q
      rw [if_pos (Nat.le_refl i), if_neg (fun y => h1 y.2), if_neg (show ¬ i + 1 ≤ i by omega)]
    · rw [if_neg (show ¬ i ≤ z by omega), if_neg (by omega), if_neg (show ¬ i + 1 ≤ z by omega)]
theorem zc_ex {f : Nat → Int64} {n : Nat} (h : ¬ f n = 0) : ∃ z, z ≤ n ∧ zc f n = z ∧ ¬ f z = 0 ∧ ∀ i, i < z → f i = 0 := by
  obtain ⟨z, h1, h2⟩ := pk_least (fun z => ¬ f z = 0) ⟨n, h⟩
  have h3 : ∀ i, i < z → f i = 0 := fun i hi => Classical.byContradiction (h2 i hi)
  have hz : z ≤ n := by
    rcases Nat.lt_or_ge n z with q | q
    · exact absurd (h3 n q) h
    · exact q
  refine ⟨z, hz, ?_, h1, h3⟩
  rw [zc_least h1 h3]
  by_cases q : n ≤ z
  · rw [if_pos q]; omega
  · rw [if_neg q]
theorem s_cntAt {n : Nat} {cM f : Nat → Int64} (h10 : n ≤ 10) (hf : ¬ f n = 0) (h : ∀ j, j ≤ n → cM j = f j) : loop (b_X3_countAt_7 (nI n) cM) (0 : Int32) = some (nI (zc f n)) := by
  obtain ⟨z, hz, e, h1, h2⟩ := zc_ex hf
  rw [e]
  refine loop_for (f := b_X3_countAt_7 (nI n) cM) (fun i => nI i) z (fun i hi => ?_) ?_ 0 (by omega)
  · unfold b_X3_countAt_7
    rw [if_neg (nI_ge (by omega) (by omega)), chk_in (vp_in_nI (by omega) (by omega)), nI_clamp (by omega), h i (by omega), if_pos ((lg_cmp_eq _ _).mpr (h2 i hi)), nI_1]
  · unfold b_X3_countAt_7
    by_cases q : z = n
    · rw [if_pos (nI_le (by omega) (by omega))]
    · rw [if_neg (nI_ge (by omega) (by omega)), chk_in (vp_in_nI (by omega) (by omega)), nI_clamp (by omega), h z (by omega), if_neg (fun y => h1 ((lg_cmp_eq _ _).mp y))]
theorem s_justM {n : Nat} {mo f : Nat → Int64} (h10 : n ≤ 10) (hf : ¬ f n = 0) (h : ∀ j, j ≤ n → mo j = f j) : loop (b_X6_justOf_8 mo) (0 : Int32) = some (nI (zc f n)) := by
  obtain ⟨z, hz, e, h1, h2⟩ := zc_ex hf
  rw [e]
  refine loop_for (f := b_X6_justOf_8 mo) (fun i => nI i) z (fun i hi => ?_) ?_ 0 (by omega)
  · unfold b_X6_justOf_8
    rw [chk_in (vp_in_nI (by omega) (by omega)), nI_clamp (by omega), h i (by omega), if_pos ((lg_cmp_eq _ _).mpr (h2 i hi)), nI_1]
  · unfold b_X6_justOf_8
    rw [chk_in (vp_in_nI (by omega) (by omega)), nI_clamp (by omega), h z (by omega), if_neg (fun y => h1 ((lg_cmp_eq _ _).mp y))]
theorem one_ne : ¬ (1 : Int64) = 0 := by decide
theorem s_countAbove {n : Nat} {cP : Nat → Int64} {t : Nat → Nat → Int64} (h1 : 1 ≤ n) (h10 : n ≤ 10) (hP : ∀ k, k ≤ n → cP (n - k) = polC t n k * lN (2 ^ k)) (cM : Nat → Int64) (x : Int32) : ∃ cM', s_X3_countAbove (nI n) cP cM x = some (nI (abv (mv t n x) n), cM') := by
  obtain ⟨cM', e1, e2⟩ := s_moveBy (cP := cP) h1 h10 cM x
  refine ⟨cM', ?_⟩
  unfold s_X3_countAbove
  rw [e1]
  simp only [Option.bind_some]
  rw [s_cntAbove (f := mv t n x) h10 (fun j hj => by
    rw [e2 j hj]
    refine SF_congr (fun i' _ hi' => ?_) j
    have := hP (n - i') (by omega)
    rw [show n - (n - i') = i' by omega] at this
    exact this)]
  rfl
theorem s_countAt {n : Nat} {cP : Nat → Int64} {t : Nat → Nat → Int64} (h1 : 1 ≤ n) (h10 : n ≤ 10) (hP : ∀ k, k ≤ n → cP (n - k) = polC t n k * lN (2 ^ k)) (cM : Nat → Int64) (x : Int32) : ∃ cM', s_X3_countAt (nI n) cP cM x = some (nI (zc (mv t n x) n), cM') := by
  obtain ⟨cM', e1, e2⟩ := s_moveBy (cP := cP) h1 h10 cM x
  refine ⟨cM', ?_⟩
  unfold s_X3_countAt
  rw [e1]
  simp only [Option.bind_some]
  rw [s_cntAt (f := mv t n x) h10 (by rw [mv_top]; exact one_ne) (fun j hj => by
    rw [e2 j hj]
    refine SF_congr (fun i' _ hi' => ?_) j
    have := hP (n - i') (by omega)
    rw [show n - (n - i') = i' by omega] at this
    exact this)]
  rfl
theorem s_aboveOf {n : Nat} {nu : Nat → Int64} {t : Nat → Nat → Int64} (h10 : n ≤ 10) (hP : ∀ k, k ≤ n → nu (n - k) = polC t n k) (mo : Nat → Int64) (x : Int32) : ∃ mo', s_X6_aboveOf nu mo (nI n) x = some (nI (abv (mv t n x) n), mo') := by
  obtain ⟨mo', e1, e2⟩ := s_move (nu := nu) h10 mo x
  refine ⟨mo', ?_⟩
  unfold s_X6_aboveOf
  rw [e1]
  simp only [Option.bind_some]
  rw [s_abvM (f := mv t n x) h10 (fun j hj => by
    rw [e2 j hj]
    refine SF_congr (fun i' _ hi' => ?_) j
    have := hP (n - i') (by omega)
    rw [show n - (n - i') = i' by omega] at this
    unfold pol
    rw [this])]
  rfl
theorem s_justOf {n : Nat} {nu : Nat → Int64} {t : Nat → Nat → Int64} (h10 : n ≤ 10) (hP : ∀ k, k ≤ n → nu (n - k) = polC t n k) (mo : Nat → Int64) (x : Int32) : ∃ mo', s_X6_justOf nu mo (nI n) x = some (nI (zc (mv t n x) n), mo') := by
  obtain ⟨mo', e1, e2⟩ := s_move (nu := nu) h10 mo x
  refine ⟨mo', ?_⟩
  unfold s_X6_justOf
  rw [e1]
  simp only [Option.bind_some]
  rw [s_justM (f := mv t n x) h10 (by rw [mv_top]; exact one_ne) (fun j hj => by
    rw [e2 j hj]
    refine SF_congr (fun i' _ hi' => ?_) j
    have := hP (n - i') (by omega)
    rw [show n - (n - i') = i' by omega] at this
    unfold pol
    rw [this])]
  rfl
