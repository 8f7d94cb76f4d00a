/-! the reference's polynomial -/
theorem lp_first (po : Nat → Int64) : ∃ po', loop b_X6_layPolynomial_2 ((0 : Int32), po) = some po' ∧ ∀ i j, i < 10 → j < 10 → po' (10 * i + j) = if i = j then 1 else 0 := by
  obtain ⟨po', h1, h2⟩ := loop_cnt (f := b_X6_layPolynomial_2) (fun x y => ∃ f, y = (nI x, f) ∧ ∀ c, c < x → f c = if c / 10 = c % 10 then 1 else 0) 100 (fun f => ∀ c, c < 100 → f c = if c / 10 = c % 10 then 1 else 0) (by
    rintro x y hx ⟨f, rfl, h⟩
    have hmod := Nat.mod_lt x (show 0 < 10 by omega)
    have hdiv := Nat.div_le_self x 10
    unfold b_X6_layPolynomial_2
    dsimp only
    rw [if_neg (by rw [show (100 : Int32) = nI 100 by decide]; exact nI_ge hx (by omega)), i10, nI_mod (by omega) (by omega) (by omega), pk_div (by omega) (by omega) (by omega), chk_in (vp_in_nI (by omega) (by omega)), chk_in (vp_in_nI (by omega) (by omega)), nI_clamp (by omega), nI_1]
    by_cases q : x / 10 = x % 10
    · rw [if_pos (by rw [q])]
      refine ⟨_, rfl, _, rfl, fun c hc => ?_⟩
      by_cases e : c = x
      · rw [e, pk_uLs, if_pos q]
      · rw [pk_uLn e]; exact h c (by omega)
    · rw [if_neg (fun z => q ((nI_eq (by omega) (by omega)).mp z))]
      refine ⟨_, rfl, _, rfl, fun c hc => ?_⟩
      by_cases e : c = x
      · rw [e, pk_uLs, if_neg q]
      · rw [pk_uLn e]; exact h c (by omega)) (by
    rintro y ⟨f, rfl, h⟩
    unfold b_X6_layPolynomial_2
    dsimp only
    rw [if_pos (by decide)]
    exact ⟨_, rfl, h⟩) 0 ((0 : Int32), po) (by omega) ⟨po, rfl, fun c hc => by omega⟩
  refine ⟨po', h1, fun i j hi hj => ?_⟩
  rw [h2 _ (by omega), show (10 * i + j) / 10 = i by omega, show (10 * i + j) % 10 = j by omega]
theorem lp_sum {ta po : Nat → Int64} {n i j : Nat} {t M : Nat → Nat → Int64} (h10 : n ≤ 10) (ht : ∀ i k, i < n → k < n → ta (10 * i + k) = t i k) (hM : ∀ k j, k < n → j < n → po (10 * k + j) = M k j) (hi : i < n) (hj : j < n) : loop (b_X6_layPolynomial_72 ta po (nI n) (nI i) (nI j)) ((0 : Int64), (0 : Int32)) = some (flA t n M i j) := by
  refine loop_for (f := b_X6_layPolynomial_72 ta po (nI n) (nI i) (nI j)) (fun k => (mulS t M i j k, nI k)) n (fun k hk => ?_) ?_ 0 (by omega)
  · unfold b_X6_layPolynomial_72 lt'
    dsimp only
    rw [if_neg (nI_ge hk (by omega)), ix10, ix10, chk_in (vp_in_nI (by omega) (by omega)), chk_in (vp_in_nI (by omega) (by omega)), nI_clamp (by omega), nI_clamp (by omega), ht i k hi hk, hM k j hk hj, nI_1]
    rfl
  · unfold b_X6_layPolynomial_72
    dsimp only
    rw [if_pos (nI_le (Nat.le_refl _) (by omega))]
    rfl
theorem lp_mul {ta po : Nat → Int64} {n : Nat} {t M : Nat → Nat → Int64} (h10 : n ≤ 10) (ht : ∀ i k, i < n → k < n → ta (10 * i + k) = t i k) (hM : ∀ k j, k < n → j < n → po (10 * k + j) = M k j) (ti : Nat → Int64) : ∃ ti', loop (b_X6_layPolynomial_52 ta po (nI n)) ((0 : Int32), ti) = some ti' ∧ ∀ i j, i < n → j < n → ti' (10 * i + j) = flA t n M i j := by
  refine loop_cnt (f := b_X6_layPolynomial_52 ta po (nI n)) (fun i x => ∃ f, x = (nI i, f) ∧ ∀ i' j, i' < i → j < n → f (10 * i' + j) = flA t n M i' j) n _ ?_ ?_ 0 _ (by omega) ⟨ti, rfl, fun i' j hi' => by omega⟩
  · rintro i x hi ⟨f, rfl, h⟩
    have := loop_cnt (f := b_X6_layPolynomial_60 ta po (nI n) (nI i)) (fun j x => ∃ f', x = (nI j, f') ∧ (∀ j', j' < j → f' (10 * i + j') = flA t n M i j') ∧ ∀ i' j, i' < i → j < n → f' (10 * i' + j) = flA t n M i' j) n (fun f' => ∀ i' j, i' < i + 1 → j < n → f' (10 * i' + j) = flA t n M i' j) (by
      rintro j y hj ⟨f', rfl, g1, g2⟩
      unfold b_X6_layPolynomial_60
      dsimp only
      rw [if_neg (nI_ge hj (by omega)), lp_sum h10 ht hM hi hj]
      simp only [Option.bind_some]
      rw [ix10, chk_in (vp_in_nI (by omega) (by omega)), nI_clamp (by omega), nI_1]
      refine ⟨_, rfl, _, rfl, fun j' hj' => ?_, fun i' j' hi' hj' => ?_⟩
      · by_cases q : j' = j
        · rw [q, pk_uLs]
        · rw [pk_uLn (by omega)]; exact g1 j' (by omega)
      · rw [pk_uLn (by omega)]; exact g2 i' j' hi' hj') (by
      rintro y ⟨f', rfl, g1, g2⟩
      unfold b_X6_layPolynomial_60
      dsimp only
      rw [if_pos (nI_le (Nat.le_refl _) (by omega))]
      refine ⟨_, rfl, fun i' j' hi' hj' => ?_⟩
      by_cases q : i' = i
      · rw [q]; exact g1 j' hj'
      · exact g2 i' j' (by omega) hj') 0 ((0 : Int32), f) (by omega) ⟨f, rfl, fun j' hj' => by omega, h⟩
    obtain ⟨f', e1, e2⟩ := this
    unfold b_X6_layPolynomial_52
    dsimp only
    rw [if_neg (nI_ge hi (by omega)), e1]
    simp only [Option.bind_some]
    rw [nI_1]
    exact ⟨_, rfl, f', rfl, e2⟩
  · rintro x ⟨f, rfl, h⟩
    unfold b_X6_layPolynomial_52
    dsimp only
    rw [if_pos (nI_le (Nat.le_refl _) (by omega))]
    exact ⟨_, rfl, h⟩
theorem lp_tr {ti : Nat → Int64} {n : Nat} {A : Nat → Nat → Int64} (h10 : n ≤ 10) (h : ∀ i j, i < n → j < n → ti (10 * i + j) = A i j) : loop (b_X6_layPolynomial_146 ti (nI n)) ((0 : Int64), (0 : Int32)) = some (trS A n) := by
  refine loop_for (f := b_X6_layPolynomial_146 ti (nI n)) (fun i => (trS A i, nI i)) n (fun i hi => ?_) ?_ 0 (by omega)
  · unfold b_X6_layPolynomial_146
    dsimp only
    rw [if_neg (nI_ge hi (by omega)), ix10, chk_in (vp_in_nI (by omega) (by omega)), nI_clamp (by omega), h i i hi hi, nI_1]
    rfl
  · unfold b_X6_layPolynomial_146
    dsimp only
    rw [if_pos (nI_le (Nat.le_refl _) (by omega))]
theorem lp_add {ti nu : Nat → Int64} {n k : Nat} {A : Nat → Nat → Int64} (h10 : n ≤ 10) (hk : k ≤ n) (h : ∀ i j, i < n → j < n → ti (10 * i + j) = A i j) (po : Nat → Int64) : ∃ po', loop (b_X6_layPolynomial_190 ti nu (nI n) (nI k)) ((0 : Int32), po) = some po' ∧ ∀ i j, i < n → j < n → po' (10 * i + j) = A i j + if i = j then nu (n - k) else 0 := by
  refine loop_cnt (f := b_X6_layPolynomial_190 ti nu (nI n) (nI k)) (fun i x => ∃ f, x = (nI i, f) ∧ ∀ i' j, i' < i → j < n → f (10 * i' + j) = A i' j + if i' = j then nu (n - k) else 0) n _ ?_ ?_ 0 _ (by omega) ⟨po, rfl, fun i' j hi' => by omega⟩
  · rintro i x hi ⟨f, rfl, hf⟩
    have := loop_cnt (f := b_X6_layPolynomial_199 ti nu (nI n) (nI k) (nI i)) (fun j x => ∃ f', x = (nI j, f') ∧ (∀ j', j' < j → f' (10 * i + j') = A i j' + if i = j' then nu (n - k) else 0) ∧ ∀ i' j, i' < i → j < n → f' (10 * i' + j) = A i' j + if i' = j then nu (n - k) else 0) n (fun f' => ∀ i' j, i' < i + 1 → j < n → f' (10 * i' + j) = A i' j + if i' = j then nu (n - k) else 0) (by
      rintro j y hj ⟨f', rfl, g1, g2⟩
      have hck1 : vp_in (nI (10 * i + j)) 100 := vp_in_nI (by omega) (by omega)
      have hck2 : vp_in (nI (n - k)) 11 := vp_in_nI (by omega) (by omega)
      unfold b_X6_layPolynomial_199
      dsimp only
      rw [if_neg (nI_ge hj (by omega)), ix10, pk_sub hk]
      simp only [chk_in hck1, chk_in hck2]
      rw [nI_clamp (by omega), nI_clamp (by omega), h i j hi hj, nI_1]
      have fin : ∀ v : Int64, v = A i j + (if i = j then nu (n - k) else 0) → ∃ y, (some (Sum.inl (nI (j + 1), vp_updL f' (10 * i + j) v)) : Option ((Int32 × (Nat → Int64)) ⊕ (Nat → Int64))) = some (Sum.inl y) ∧ ∃ f', y = (nI (j + 1), f') ∧ (∀ j', j' < j + 1 → f' (10 * i + j') = A i j' + if i = j' then nu (n - k) else 0) ∧ ∀ i' j, i' < i → j < n → f' (10 * i' + j) = A i' j + if i' = j then nu (n - k) else 0 := by
        intro v hv
        refine ⟨_, rfl, _, rfl, fun j' hj' => ?_, fun i' j' hi' hj' => ?_⟩
        · by_cases q : j' = j
          · rw [q, pk_uLs]; exact hv
          · rw [pk_uLn (by omega)]; exact g1 j' (by omega)
        · rw [pk_uLn (by omega)]; exact g2 i' j' hi' hj'
      by_cases q : i = j
      · rw [if_pos (by rw [q])]
        exact fin _ (by rw [if_pos q])
      · rw [if_neg (fun z => q ((nI_eq (by omega) (by omega)).mp z))]
        exact fin _ (by rw [if_neg q])) (by
      rintro y ⟨f', rfl, g1, g2⟩
      unfold b_X6_layPolynomial_199
      dsimp only
      rw [if_pos (nI_le (Nat.le_refl _) (by omega))]
      refine ⟨_, rfl, fun i' j' hi' hj' => ?_⟩
      by_cases q : i' = i
      · rw [q]; exact g1 j' hj'
      · exact g2 i' j' (by omega) hj') 0 ((0 : Int32), f) (by omega) ⟨f, rfl, fun j' hj' => by omega, hf⟩
    obtain ⟨f', e1, e2⟩ := this
    unfold b_X6_layPolynomial_190
    dsimp only
    rw [if_neg (nI_ge hi (by omega)), e1]
    simp only [Option.bind_some]
    rw [nI_1]
    exact ⟨_, rfl, f', rfl, e2⟩
  · rintro x ⟨f, rfl, hf⟩
    unfold b_X6_layPolynomial_190
    dsimp only
    rw [if_pos (nI_le (Nat.le_refl _) (by omega))]
    exact ⟨_, rfl, hf⟩
theorem s_layPolynomial {ta : Nat → Int64} {n : Nat} {t : Nat → Nat → Int64} (h10 : n ≤ 10) (ht : ∀ i k, i < n → k < n → ta (10 * i + k) = t i k) (po ti nu : Nat → Int64) : ∃ po' ti' nu', s_X6_layPolynomial ta po ti nu (nI n) = some (po', ti', nu') ∧ ∀ k, k ≤ n → nu' (n - k) = polC t n k := by
  obtain ⟨po0, z1, z2⟩ := lp_first po
  have := loop_cnt (f := b_X6_layPolynomial_45 ta (nI n)) (fun k x => ∃ po' ti' nu', x = (nI (k + 1), po', ti', nu') ∧ (∀ i j, i < n → j < n → po' (10 * i + j) = flM t n k i j) ∧ ∀ m, m ≤ k → nu' (n - m) = polC t n m) n (fun e => ∃ po' ti' nu', e = (po', ti', nu') ∧ ∀ m, m ≤ n → nu' (n - m) = polC t n m) ?_ ?_ 0 ((1 : Int32), po0, ti, vp_updL nu n (1 : Int64)) (by omega) ⟨po0, ti, _, rfl, fun i j hi hj => z2 i j (by omega) (by omega), fun m hm => by
      rw [show m = 0 by omega, Nat.sub_zero, pk_uLs]; rfl⟩
  · obtain ⟨e, he, po', ti', nu', rfl, h2⟩ := this
    refine ⟨po', ti', nu', ?_, h2⟩
    unfold s_X6_layPolynomial
    rw [z1]
    simp only [Option.bind_some]
    rw [chk_in (vp_in_nI (by omega) (by omega)), nI_clamp (by omega), he]
    rfl
  · rintro k x hk ⟨po', ti', nu', rfl, g2, g3⟩
    obtain ⟨ti2, e1, e2⟩ := lp_mul (M := flM t n k) h10 ht g2 ti'
    have hc : (-trS (flA t n (flM t n k)) n) / lN (k + 1) = polC t n (k + 1) := rfl
    obtain ⟨po2, e3, e4⟩ := lp_add (k := k + 1) (nu := vp_updL nu' (n - (k + 1)) (polC t n (k + 1))) h10 (by omega) e2 po'
    unfold b_X6_layPolynomial_45
    dsimp only
    rw [if_neg (nI_nlt (by omega) (by omega)), e1]
    simp only [Option.bind_some]
    rw [lp_tr h10 e2]
    simp only [Option.bind_some]
    rw [nI_l (by omega), nezL_in (lN_ne0 (by omega) (by omega)), pk_sub (by omega), chk_in (vp_in_nI (by omega) (by omega)), hc, nI_clamp (by omega), e3]
    simp only [Option.bind_some]
    rw [nI_1]
    refine ⟨_, rfl, _, _, _, rfl, fun i j hi hj => ?_, fun m hm => ?_⟩
    · rw [e4 i j hi hj, pk_uLs]
      rfl
    · by_cases q : m = k + 1
      · rw [q, pk_uLs]
      · rw [pk_uLn (by omega)]; exact g3 m (by omega)
  · rintro x ⟨po', ti', nu', rfl, g2, g3⟩
    unfold b_X6_layPolynomial_45
    dsimp only
    rw [if_pos (nI_lt (by omega) (by omega))]
    exact ⟨_, rfl, po', ti', nu', rfl, g3⟩
