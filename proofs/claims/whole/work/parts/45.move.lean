/-! the polynomial moved -/
def SF (h : Int64) (f : Nat → Int64) : Nat → Nat → Nat → Int64
  | 0, _, _ => 0
  | d + 1, i, 0 => SF h f d (i + 1) 0 * h + f i
  | d + 1, i, j + 1 => SF h f d (i + 1) (j + 1) * h + SF h f d (i + 1) j
def PS (h : Int64) (f : Nat → Int64) (n : Nat) : Nat → Int64
  | 0 => f n
  | d + 1 => f (n - (d + 1)) + h * PS h f n d
theorem rg1 (a h p : Int64) : a * h + p = p + h * a := by grind
theorem rg2 (a b h p : Int64) : (a + h * b) * h + (p + h * a) = a * h + p + h * (b * h + a) := by grind
theorem rg3 (a b c h : Int64) : (b + h * c) * h + (a + h * b) = b * h + a + h * (c * h + b) := by grind
theorem rg0 (h p : Int64) : 0 * h + p = p + h * (0 * h + 0) := by grind
theorem rg00 (h p : Int64) : 0 * h + p = p := by grind
theorem rg000 (h : Int64) : (0 : Int64) * h + 0 = 0 * h + 0 + h * (0 * h + 0) := by grind
theorem SF0 (h : Int64) (f : Nat → Int64) (i j : Nat) : SF h f 0 i j = 0 := by cases j <;> rfl
theorem SFz (h : Int64) (f : Nat → Int64) (d i : Nat) : SF h f (d + 1) i 0 = SF h f d (i + 1) 0 * h + f i := rfl
theorem SFs (h : Int64) (f : Nat → Int64) (d i j : Nat) : SF h f (d + 1) i (j + 1) = SF h f d (i + 1) (j + 1) * h + SF h f d (i + 1) j := rfl
theorem SF_ev {h : Int64} {f : Nat → Int64} {n : Nat} : ∀ d i, i + d = n → SF h f (d + 1) i 0 = PS h f n d
  | 0, i, hi => by rw [SFz, SF0, PS, show i = n by omega, rg00]
  | d + 1, i, hi => by
    rw [SFz, SF_ev (n := n) d (i + 1) (by omega), PS, show n - (d + 1) = i by omega, rg1]
theorem SF_q {h : Int64} {f g : Nat → Int64} {n : Nat} : ∀ d i, i + d = n → (∀ j, i ≤ j → j ≤ n → g j = PS h f n (n - j)) → ∀ j, SF h g (d + 1) i j = SF h f (d + 1) i j + h * SF h f (d + 1) i (j + 1)
  | 0, i, hi, hg, 0 => by
    have e : g i = f i := by rw [hg i (by omega) (by omega), show n - i = 0 by omega, PS, show i = n by omega]
    simp only [SFz, SFs, SF0, e]
    grind
  | 0, i, hi, hg, j + 1 => by
    simp only [SFs, SF0]
    grind
  | d + 1, i, hi, hg, 0 => by
    have ih := SF_q (h := h) (f := f) (g := g) d (i + 1) (by omega) (fun j h1 h2 => hg j (by omega) h2) 0
    have e : g i = f i + h * SF h f (d + 1) (i + 1) 0 := by
      rw [hg i (by omega) (by omega), show n - i = d + 1 by omega, PS, show n - (d + 1) = i by omega, SF_ev (n := n) d (i + 1) (by omega)]
    rw [SFz, ih, e, SFz, SFs]
    exact rg2 _ _ _ _
  | d + 1, i, hi, hg, j + 1 => by
    have ih := SF_q (h := h) (f := f) (g := g) d (i + 1) (by omega) (fun j h1 h2 => hg j (by omega) h2)
    rw [SFs, ih, ih, SFs, SFs]
    exact rg3 _ _ _ _
theorem SF_key {h : Int64} {f g : Nat → Int64} {n d i : Nat} (hi : i + 1 + d = n) (hg : ∀ j, i + 1 ≤ j → j ≤ n → g j = PS h f n (n - j)) (j : Nat) : SF h f (d + 2) i (j + 1) = SF h g (d + 1) (i + 1) j := by
  rw [SFs, SF_q d (i + 1) hi hg, rg1]
theorem nI_dn (m : Nat) : nI (m + 1) + (-1 : Int32) = nI m := pk_m1 m
theorem dn_lt {m i : Nat} (h : m ≤ i) (hi : i < 2 ^ 31) : nI m + (-1 : Int32) < nI i := by
  cases m with
  | zero =>
    have e : nI 0 + (-1 : Int32) = -1 := by decide
    rw [e, Int32.lt_iff_toInt_lt, nI_toInt hi]
    have e2 : (-1 : Int32).toInt = -1 := by decide
    omega
  | succ m => rw [nI_dn]; exact nI_lt (by omega) hi
theorem nI_p1 {n : Nat} (h : 1 ≤ n) : nI n - (1 : Int32) = nI (n - 1) := by rw [i1, pk_sub h]
/-! the class -/
theorem mv_in {n i : Nat} (h32 : Int32) (h10 : n ≤ 10) (hi : i < n) (f : Nat → Int64) : ∃ g, loop (b_X3_moveBy_36 h32 (nI i)) (nI n - (1 : Int32), f) = some g ∧ (∀ j, j < i → g j = f j) ∧ ∀ j, i ≤ j → j ≤ n → g j = PS h32.toInt64 f n (n - j) := by
  have := loop_cnt (f := b_X3_moveBy_36 h32 (nI i)) (fun c x => ∃ g, x = (nI (n - c) + (-1 : Int32), g) ∧ (∀ j, j < n - c → g j = f j) ∧ ∀ j, n - c ≤ j → j ≤ n → g j = PS h32.toInt64 f n (n - j)) (n - i) (fun g => (∀ j, j < i → g j = f j) ∧ ∀ j, i ≤ j → j ≤ n → g j = PS h32.toInt64 f n (n - j)) ?_ ?_ 0 (nI n - (1 : Int32), f) (by omega) ⟨f, by rw [nI_p1 (by omega), Nat.sub_zero, ← nI_dn (n - 1), show n - 1 + 1 = n by omega], fun j hj => rfl, fun j h1 h2 => by
      rw [show j = n by omega, Nat.sub_self, PS]⟩
  · exact this
  · rintro c x hc ⟨g, rfl, g1, g2⟩
    obtain ⟨m, hm⟩ : ∃ m, n - c = m + 1 := ⟨n - c - 1, by omega⟩
    unfold b_X3_moveBy_36
    dsimp only
    rw [hm, nI_dn, if_neg (nI_nlt (by omega) (by omega)), nI_1, chk_in (vp_in_nI (by omega) (by omega)), chk_in (vp_in_nI (by omega) (by omega)), chk_in (vp_in_nI (by omega) (by omega)), nI_clamp (by omega), nI_clamp (by omega)]
    refine ⟨_, rfl, _, by rw [show n - (c + 1) = m by omega], fun j hj => ?_, fun j h1 h2 => ?_⟩
    · rw [pk_uLn (by omega)]; exact g1 j (by omega)
    · by_cases q : j = m
      · subst q
        rw [pk_uLs, g1 j (by omega), g2 (j + 1) (by omega) (by omega), show n - j = (n - (j + 1)) + 1 by omega, PS, show n - (n - (j + 1) + 1) = j by omega]
      · rw [pk_uLn q]; exact g2 j (by omega) h2
  · rintro x ⟨g, rfl, g1, g2⟩
    unfold b_X3_moveBy_36
    dsimp only
    rw [show n - (n - i) = i by omega] at *
    rw [if_pos (dn_lt (Nat.le_refl _) (by omega))]
    exact ⟨_, rfl, g1, g2⟩
theorem s_moveBy {n : Nat} {cP : Nat → Int64} (h1 : 1 ≤ n) (h10 : n ≤ 10) (cM : Nat → Int64) (h32 : Int32) : ∃ cM', s_X3_moveBy (nI n) cP cM h32 = some cM' ∧ ∀ j, j ≤ n → cM' j = SF h32.toInt64 cP (n + 1) 0 j := by
  have := loop_cnt (f := b_X3_moveBy_21 (nI n) h32) (fun i x => ∃ g, x = (nI i, g) ∧ (∀ j, j < i → g j = SF h32.toInt64 cP (n + 1) 0 j) ∧ ∀ j, SF h32.toInt64 g (n + 1 - i) i j = SF h32.toInt64 cP (n + 1) 0 (i + j)) n (fun g => ∀ j, j ≤ n → g j = SF h32.toInt64 cP (n + 1) 0 j) ?_ ?_ 0 ((0 : Int32), va_cpy cP cM 0 0 (n + 1)) (by omega) ⟨_, rfl, fun j hj => by omega, fun j => ?_⟩
  · obtain ⟨cM', e1, e2⟩ := this
    refine ⟨cM', ?_, e2⟩
    unfold s_X3_moveBy
    rw [nI_1, nI_clamp (show n + 1 < 2 ^ 31 by omega)]
    have z0 : (0 : Int32).toNatClampNeg = 0 := by decide
    unfold cpk
    rw [if_neg (by
      rw [z0, nI_clamp (by omega)]
      rintro (h | h | h | h | h)
      · exact absurd h (by decide)
      · exact absurd h (by decide)
      · exact nI_pos (by omega) h
      · omega
      · omega)]
    show (loop (b_X3_moveBy_21 (nI n) h32) ((0 : Int32), va_cpy cP cM 0 0 (n + 1))).bind _ = _
    rw [e1]
    rfl
  · rintro i x hi ⟨g, rfl, g1, g2⟩
    obtain ⟨g', e1, e2, e3⟩ := mv_in h32 h10 hi g
    unfold b_X3_moveBy_21
    dsimp only
    rw [if_neg (nI_ge hi (by omega)), e1]
    simp only [Option.bind_some]
    rw [nI_1]
    obtain ⟨d, hd⟩ : ∃ d, i + 1 + d = n := ⟨n - (i + 1), by omega⟩
    refine ⟨_, rfl, g', rfl, fun j hj => ?_, fun j => ?_⟩
    · by_cases q : j = i
      · subst q
        rw [e3 j (Nat.le_refl _) (by omega), show n - j = d + 1 by omega, ← SF_ev (d + 1) j (by omega)]
        have := g2 0
        rw [show n + 1 - j = d + 1 + 1 by omega, Nat.add_zero] at this
        exact this
      · rw [e2 j (by omega)]; exact g1 j (by omega)
    · have := g2 (j + 1)
      rw [show n + 1 - i = d + 2 by omega, SF_key hd (fun j h1 h2 => e3 j (by omega) h2)] at this
      rw [show n + 1 - (i + 1) = d + 1 by omega, this]
      congr 1
      omega
  · rintro x ⟨g, rfl, g1, g2⟩
    unfold b_X3_moveBy_21
    dsimp only
    rw [if_pos (nI_le (Nat.le_refl _) (by omega))]
    refine ⟨_, rfl, fun j hj => ?_⟩
    by_cases q : j = n
    · subst q
      have := g2 0
      rw [show j + 1 - j = 0 + 1 by omega, SFz, SF0, rg00, Nat.add_zero] at this
      exact this
    · exact g1 j (by omega)
  · rw [Nat.zero_add, Nat.sub_zero]
    have hc : ∀ d i, i + d ≤ n + 1 → ∀ j, SF h32.toInt64 (va_cpy cP cM 0 0 (n + 1)) d i j = SF h32.toInt64 cP d i j := by
      intro d
      induction d with
      | zero => intro i _ j; rw [SF0, SF0]
      | succ d ih =>
        intro i hi j
        have hcp : va_cpy cP cM 0 0 (n + 1) i = cP i := by
          rw [pk_cpy_in (by omega) (by omega), Nat.zero_add, Nat.sub_zero]
        cases j with
        | zero => rw [SFz, SFz, ih (i + 1) (by omega), hcp]
        | succ j => rw [SFs, SFs, ih (i + 1) (by omega), ih (i + 1) (by omega)]
    exact hc (n + 1) 0 (by omega) j
