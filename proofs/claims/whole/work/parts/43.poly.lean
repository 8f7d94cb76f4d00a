/-! the polynomial on both sides, in longs as they are -/
def mulS (t M : Nat → Nat → Int64) (i j : Nat) : Nat → Int64
  | 0 => 0
  | k + 1 => mulS t M i j k + t i k * M k j
theorem mulS_congr {t t' M M' : Nat → Nat → Int64} {i j : Nat} : ∀ {n : Nat}, (∀ k, k < n → t i k = t' i k ∧ M k j = M' k j) → mulS t M i j n = mulS t' M' i j n
  | 0, _ => rfl
  | n + 1, h => by rw [mulS, mulS, mulS_congr (n := n) (fun k hk => h k (by omega)), (h n (by omega)).1, (h n (by omega)).2]
def trS (A : Nat → Nat → Int64) : Nat → Int64
  | 0 => 0
  | i + 1 => trS A i + A i i
theorem trS_congr {A B : Nat → Nat → Int64} : ∀ {n : Nat}, (∀ i, i < n → A i i = B i i) → trS A n = trS B n
  | 0, _ => rfl
  | n + 1, h => by rw [trS, trS, trS_congr (n := n) (fun i hi => h i (by omega)), h n (by omega)]
def flA (t : Nat → Nat → Int64) (n : Nat) (M : Nat → Nat → Int64) : Nat → Nat → Int64 := fun i j => mulS t M i j n
def flc (t : Nat → Nat → Int64) (n : Nat) (M : Nat → Nat → Int64) (k : Nat) : Int64 := (-trS (flA t n M) n) / lN k
def flM (t : Nat → Nat → Int64) (n : Nat) : Nat → Nat → Nat → Int64
  | 0 => fun i j => if i = j then 1 else 0
  | k + 1 => fun i j => flA t n (flM t n k) i j + (if i = j then flc t n (flM t n k) (k + 1) else 0)
def polC (t : Nat → Nat → Int64) (n : Nat) : Nat → Int64
  | 0 => 1
  | k + 1 => flc t n (flM t n k) (k + 1)
theorem flA_congr {t M M' : Nat → Nat → Int64} {n i j : Nat} (h : ∀ k, k < n → M k j = M' k j) : flA t n M i j = flA t n M' i j := mulS_congr (fun k hk => ⟨rfl, h k hk⟩)
theorem shl_mulL (x : Int64) {b : Nat} (hb : b < 64) : x <<< ((nI b).toInt64 &&& 63) = x * lN (2 ^ b) := by
  apply Int64.toBitVec_inj.mp
  apply BitVec.eq_of_toNat_eq
  have h2 : 2 ^ b < 2 ^ 64 := Nat.pow_lt_pow_right (by omega) hb
  show (x.toBitVec <<< (((nI b).toInt64 &&& 63).toBitVec.smod 64).toNat).toNat = _
  rw [sh63 b hb, BitVec.toNat_shiftLeft, Int64.toBitVec_mul, BitVec.toNat_mul, lN_tn h2, Nat.shiftLeft_eq]
theorem va_up_id {α : Type} (f : Nat → α) (k : Nat) : va_up f k (f k) = f := by
  funext j
  unfold va_up
  by_cases c : j = k
  · rw [if_pos c, c]
  · rw [if_neg c]
/-! the class -/
theorem s_addRow {n : Nat} {q1 q2 : Fin 2} {r1 r2 : Fin 10} {y : Int32} (h10 : n ≤ 10) (hq : q1 ≠ q2) (cR : Nat → Nat → Nat → Int64) : ∃ G, s_X3_addRow (nI n) cR q1 r1 q2 r2 y = some (va_up cR q1.1 (va_up (cR q1.1) r1.1 G)) ∧ ∀ j, j < n → G j = cR q1.1 r1.1 j + y.toInt64 * cR q2.1 r2.1 j := by
  have hne : q2.1 ≠ q1.1 := fun z => hq (Fin.ext z.symm)
  obtain ⟨e, he, G, rfl, h⟩ := loop_cnt (f := b_X3_addRow_3 (nI n) q1 r1 q2 r2 y) (fun i x => ∃ G, x = (nI i, va_up cR q1.1 (va_up (cR q1.1) r1.1 G)) ∧ (∀ j, j < i → G j = cR q1.1 r1.1 j + y.toInt64 * cR q2.1 r2.1 j) ∧ ∀ j, i ≤ j → G j = cR q1.1 r1.1 j) n (fun e => ∃ G, e = va_up cR q1.1 (va_up (cR q1.1) r1.1 G) ∧ ∀ j, j < n → G j = cR q1.1 r1.1 j + y.toInt64 * cR q2.1 r2.1 j) (by
    rintro i x hi ⟨G, rfl, g1, g2⟩
    unfold b_X3_addRow_3
    dsimp only
    rw [if_neg (nI_ge hi (by omega)), chk_in (vp_in_nI (by omega) (by omega)), chk_in (vp_in_nI (by omega) (by omega)), chk_in (vp_in_nI (by omega) (by omega)), nI_clamp (by omega), va_up_self, va_up_self, va_up_ne _ _ hne, bx_uu, bx_uu, g2 i (Nat.le_refl _), nI_1]
    refine ⟨_, rfl, _, rfl, fun j hj => ?_, fun j hj => ?_⟩
    · by_cases q : j = i
      · rw [q, pk_uLs]
      · rw [pk_uLn q]; exact g1 j (by omega)
    · rw [pk_uLn (by omega)]; exact g2 j (by omega)) (by
    rintro x ⟨G, rfl, h, -⟩
    unfold b_X3_addRow_3
    dsimp only
    rw [if_pos (nI_le (Nat.le_refl _) (by omega))]
    exact ⟨_, rfl, G, rfl, h⟩) 0 ((0 : Int32), cR) (by omega) ⟨cR q1.1 r1.1, by rw [va_up_id, va_up_id]; rfl, fun j hj => by omega, fun _ _ => rfl⟩
  refine ⟨G, ?_, h⟩
  unfold s_X3_addRow
  rw [he]
  rfl
theorem mul_in {n i : Nat} {ra rb : Fin 2} {cT : Nat → Nat → Int32} {t : Nat → Nat → Int64} (h10 : n ≤ 10) (hr : ra ≠ rb) (hi : i < n) (ht : ∀ k, k < n → (cT i k).toInt64 = t i k) (hz : ∀ k, k < n → (cT i k = 0 ↔ t i k = 0)) (cR : Nat → Nat → Nat → Int64) (G0 : Nat → Int64) (h0 : ∀ j, j < n → G0 j = 0) : ∃ G, loop (b_X3_multiplyRows_25 (nI n) cT ra rb (nI i)) ((0 : Int32), va_up cR rb.1 (va_up (cR rb.1) i G0)) = some (va_up cR rb.1 (va_up (cR rb.1) i G)) ∧ ∀ j, j < n → G j = mulS t (cR ra.1) i j n := by
  have hne : ra.1 ≠ rb.1 := fun z => hr (Fin.ext z)
  have hrb : rb ≠ ra := fun z => hr z.symm
  obtain ⟨e, he, G, rfl, h⟩ := loop_cnt (f := b_X3_multiplyRows_25 (nI n) cT ra rb (nI i)) (fun k x => ∃ G, x = (nI k, va_up cR rb.1 (va_up (cR rb.1) i G)) ∧ ∀ j, j < n → G j = mulS t (cR ra.1) i j k) n (fun e => ∃ G, e = va_up cR rb.1 (va_up (cR rb.1) i G) ∧ ∀ j, j < n → G j = mulS t (cR ra.1) i j n) (by
    rintro k x hk ⟨G, rfl, g1⟩
    have hck1 : vp_in (nI i) 10 := vp_in_nI (by omega) (by omega)
    have hck2 : vp_in (nI k) 10 := vp_in_nI (by omega) (by omega)
    unfold b_X3_multiplyRows_25
    dsimp only
    rw [if_neg (nI_ge hk (by omega))]
    simp only [chk_in hck1, chk_in hck2]
    rw [nI_clamp (by omega), nI_clamp (by omega), nI_1, fin10_val (show i < 10 by omega)]
    by_cases q : cT i k = 0
    · rw [if_pos q]
      refine ⟨_, rfl, G, rfl, fun j hj => ?_⟩
      rw [mulS, (hz k hk).mp q, Int64.zero_mul, Int64.add_zero]
      exact g1 j hj
    · rw [if_neg q]
      obtain ⟨G2, e1, e2⟩ := s_addRow (n := n) (q1 := rb) (q2 := ra) (r1 := fin10 i) (r2 := fin10 k) (y := cT i k) h10 hrb (va_up cR rb.1 (va_up (cR rb.1) i G))
      rw [fin10_val (show i < 10 by omega), fin10_val (show k < 10 by omega), va_up_self, va_up_self, va_up_ne _ _ hne, bx_uu, bx_uu] at *
      rw [e1]
      simp only [Option.bind_some]
      refine ⟨_, rfl, G2, rfl, fun j hj => ?_⟩
      rw [e2 j hj, g1 j hj, ht k hk, mulS]) (by
    rintro x ⟨G, rfl, h⟩
    unfold b_X3_multiplyRows_25
    dsimp only
    rw [if_pos (nI_le (Nat.le_refl _) (by omega))]
    exact ⟨_, rfl, G, rfl, h⟩) 0 _ (by omega) ⟨G0, rfl, h0⟩
  exact ⟨G, he, h⟩
theorem s_multiplyRows {n : Nat} {ra rb : Fin 2} {cT : Nat → Nat → Int32} {t : Nat → Nat → Int64} (h10 : n ≤ 10) (hr : ra ≠ rb) (ht : ∀ i k, i < n → k < n → (cT i k).toInt64 = t i k) (hz : ∀ i k, i < n → k < n → (cT i k = 0 ↔ t i k = 0)) (cR : Nat → Nat → Nat → Int64) : ∃ R, s_X3_multiplyRows (nI n) cT ra rb cR = some (trS (flA t n (cR ra.1)) n, va_up cR rb.1 R) ∧ ∀ i j, i < n → j < n → R i j = flA t n (cR ra.1) i j := by
  have hne : ra.1 ≠ rb.1 := fun z => hr (Fin.ext z)
  obtain ⟨e, he, R, rfl, h⟩ := loop_cnt (f := b_X3_multiplyRows_4 (nI n) cT ra rb) (fun i x => ∃ R, x = (trS (flA t n (cR ra.1)) i, nI i, va_up cR rb.1 R) ∧ ∀ i' j, i' < i → j < n → R i' j = flA t n (cR ra.1) i' j) n (fun e => ∃ R, e = (trS (flA t n (cR ra.1)) n, va_up cR rb.1 R) ∧ ∀ i' j, i' < n → j < n → R i' j = flA t n (cR ra.1) i' j) (by
    rintro i x hi ⟨R, rfl, g1⟩
    obtain ⟨G, e1, e2⟩ := mul_in (ra := ra) (rb := rb) (cT := cT) (t := t) h10 hr hi (fun k hk => ht i k hi hk) (fun k hk => hz i k hi hk) (va_up cR rb.1 R) (fillJ 10 (R i) 0) (fun j hj => by unfold fillJ; rw [if_pos (by omega)])
    rw [va_up_self, va_up_ne _ _ hne, bx_uu, bx_uu] at *
    have hck1 : vp_in (nI i) 10 := vp_in_nI (by omega) (by omega)
    unfold b_X3_multiplyRows_4 lt'
    dsimp only
    rw [if_neg (nI_ge hi (by omega))]
    simp only [chk_in hck1]
    rw [nI_clamp (by omega), fin10_val (show i < 10 by omega), va_up_self, bx_uu, e1]
    simp only [Option.bind_some]
    rw [va_up_self, va_up_self, nI_1, e2 i hi]
    refine ⟨_, rfl, _, rfl, fun i' j hi' hj => ?_⟩
    by_cases q : i' = i
    · rw [q, va_up_self, e2 j hj]; rfl
    · rw [va_up_ne _ _ q]; exact g1 i' j (by omega) hj) (by
    rintro x ⟨R, rfl, h⟩
    unfold b_X3_multiplyRows_4
    dsimp only
    rw [if_pos (nI_le (Nat.le_refl _) (by omega))]
    exact ⟨_, rfl, R, rfl, h⟩) 0 ((0 : Int64), (0 : Int32), cR) (by omega) ⟨cR rb.1, by rw [va_up_id]; rfl, fun i' j hi' => by omega⟩
  refine ⟨R, ?_, h⟩
  unfold s_X3_multiplyRows
  rw [he]
  rfl
theorem fp_first {n : Nat} {ra : Fin 2} (h10 : n ≤ 10) (cR : Nat → Nat → Nat → Int64) : ∃ cR', loop (b_X3_findPolynomial_12 (nI n) ra) ((0 : Int32), cR) = some cR' ∧ ∀ i j, i < n → j < n → cR' ra.1 i j = if i = j then 1 else 0 :=
  loop_cnt (f := b_X3_findPolynomial_12 (nI n) ra) (fun i x => ∃ cR', x = (nI i, cR') ∧ ∀ i' j, i' < i → j < n → cR' ra.1 i' j = if i' = j then 1 else 0) n (fun cR' => ∀ i j, i < n → j < n → cR' ra.1 i j = if i = j then 1 else 0) (by
    rintro i x hi ⟨cR', rfl, g1⟩
    have hck1 : vp_in (nI i) 10 := vp_in_nI (by omega) (by omega)
    unfold b_X3_findPolynomial_12
    dsimp only
    rw [if_neg (nI_ge hi (by omega))]
    simp only [chk_in hck1]
    rw [nI_clamp (by omega), nI_1, fin10_val (show i < 10 by omega)]
    refine ⟨_, rfl, _, rfl, fun i' j hi' hj => ?_⟩
    rw [va_up_self, va_up_self, va_up_self, bx_uu]
    by_cases q : i' = i
    · rw [q, va_up_self]
      by_cases q2 : j = i
      · rw [q2, pk_uLs, if_pos rfl]
      · rw [pk_uLn q2, if_neg (fun z => q2 z.symm)]
        unfold fillJ; rw [if_pos (by omega)]
    · rw [va_up_ne _ _ q]; exact g1 i' j (by omega) hj) (by
    rintro x ⟨cR', rfl, h⟩
    unfold b_X3_findPolynomial_12
    dsimp only
    rw [if_pos (nI_le (Nat.le_refl _) (by omega))]
    exact ⟨_, rfl, h⟩) 0 _ (by omega) ⟨cR, rfl, fun i' j hi' => by omega⟩
theorem fp_diag {n : Nat} {rb : Fin 2} (h10 : n ≤ 10) (c : Int64) (cR : Nat → Nat → Nat → Int64) : ∃ cR', loop (b_X3_findPolynomial_85 (nI n) rb c) ((0 : Int32), cR) = some cR' ∧ ∀ i j, i < n → j < n → cR' rb.1 i j = cR rb.1 i j + if i = j then c else 0 := by
  refine loop_cnt (f := b_X3_findPolynomial_85 (nI n) rb c) (fun i x => ∃ cR', x = (nI i, cR') ∧ ∀ i' j, i' < n → j < n → cR' rb.1 i' j = cR rb.1 i' j + if i' = j ∧ i' < i then c else 0) n (fun cR' => ∀ i j, i < n → j < n → cR' rb.1 i j = cR rb.1 i j + if i = j then c else 0) ?_ ?_ 0 _ (by omega) ⟨cR, rfl, fun i' j hi' hj => by rw [if_neg (by omega), Int64.add_zero]⟩
  · rintro i x hi ⟨cR', rfl, g1⟩
    have hck1 : vp_in (nI i) 10 := vp_in_nI (by omega) (by omega)
    unfold b_X3_findPolynomial_85
    dsimp only
    rw [if_neg (nI_ge hi (by omega))]
    simp only [chk_in hck1]
    rw [nI_clamp (by omega), nI_1, fin10_val (show i < 10 by omega)]
    refine ⟨_, rfl, _, rfl, fun i' j hi' hj => ?_⟩
    rw [va_up_self]
    by_cases q : i' = i
    · subst q
      rw [va_up_self]
      by_cases q2 : j = i'
      · subst q2
        rw [pk_uLs, g1 j j hi' hj, if_neg (by omega), if_pos ⟨rfl, by omega⟩, Int64.add_zero]
      · rw [pk_uLn q2, g1 i' j hi' hj, if_neg (fun z => q2 z.1.symm), if_neg (fun z => q2 z.1.symm)]
    · rw [va_up_ne _ _ q, g1 i' j hi' hj]
      by_cases q2 : i' = j ∧ i' < i
      · rw [if_pos q2, if_pos ⟨q2.1, by omega⟩]
      · rw [if_neg q2, if_neg (fun z => q2 ⟨z.1, by omega⟩)]
  · rintro x ⟨cR', rfl, h⟩
    unfold b_X3_findPolynomial_85
    dsimp only
    rw [if_pos (nI_le (Nat.le_refl _) (by omega))]
    refine ⟨_, rfl, fun i j hi hj => ?_⟩
    rw [h i j hi hj]
    by_cases q : i = j
    · rw [if_pos ⟨q, hi⟩, if_pos q]
    · rw [if_neg (fun z => q z.1), if_neg q]
theorem lN_ne0 {k : Nat} (h0 : 0 < k) (h : k < 2 ^ 63) : ¬ lN k = 0 := by rw [l0, pk_lEQ h (by omega)]; omega
theorem s_findPolynomial {n : Nat} {ra rb : Fin 2} {cT : Nat → Nat → Int32} {t : Nat → Nat → Int64} (h10 : n ≤ 10) (hr : ra ≠ rb) (ht : ∀ i k, i < n → k < n → (cT i k).toInt64 = t i k) (hz : ∀ i k, i < n → k < n → (cT i k = 0 ↔ t i k = 0)) (cR : Nat → Nat → Nat → Int64) (cP : Nat → Int64) : ∃ ra' rb' cR' cP', s_X3_findPolynomial (nI n) cT ra rb cR cP = some (ra', rb', cR', cP') ∧ ra' ≠ rb' ∧ ∀ k, k ≤ n → cP' (n - k) = polC t n k * lN (2 ^ k) := by
  obtain ⟨cR0, z1, z2⟩ := fp_first (ra := ra) h10 cR
  have := loop_cnt (f := b_X3_findPolynomial_47 (nI n) cT) (fun k x => ∃ ra' rb' cR' cP', x = (nI (k + 1), ra', rb', cR', cP') ∧ ra' ≠ rb' ∧ (∀ i j, i < n → j < n → cR' ra'.1 i j = flM t n k i j) ∧ ∀ m, m ≤ k → cP' (n - m) = polC t n m * lN (2 ^ m)) n (fun e => ∃ ra' rb' cR' cP', e = (ra', rb', cR', cP') ∧ ra' ≠ rb' ∧ ∀ m, m ≤ n → cP' (n - m) = polC t n m * lN (2 ^ m)) ?_ ?_ 0 ((1 : Int32), ra, rb, cR0, vp_updL cP n (1 : Int64)) (by omega) ⟨ra, rb, cR0, _, rfl, hr, z2, fun m hm => by
      rw [show m = 0 by omega, Nat.sub_zero, pk_uLs]; rfl⟩
  · obtain ⟨e, he, ra', rb', cR', cP', rfl, h1, h2⟩ := this
    refine ⟨ra', rb', cR', cP', ?_, h1, h2⟩
    unfold s_X3_findPolynomial
    rw [chk_in (vp_in_nI (by omega) (by omega)), z1]
    simp only [Option.bind_some]
    rw [nI_clamp (by omega), he]
    rfl
  · rintro k x hk ⟨ra', rb', cR', cP', rfl, g1, g2, g3⟩
    obtain ⟨R, e1, e2⟩ := s_multiplyRows (n := n) (cT := cT) (t := t) h10 g1 ht hz cR'
    have hA : ∀ i j, i < n → j < n → flA t n (cR' ra'.1) i j = flA t n (flM t n k) i j := fun i j hi hj => flA_congr (fun m hm => g2 m j hm hj)
    have htr : trS (flA t n (cR' ra'.1)) n = trS (flA t n (flM t n k)) n := trS_congr (fun i hi => hA i i hi hi)
    have hc : (-trS (flA t n (cR' ra'.1)) n) / lN (k + 1) = polC t n (k + 1) := by rw [htr]; rfl
    obtain ⟨cR2, e3, e4⟩ := fp_diag (n := n) (rb := rb') h10 (polC t n (k + 1)) (va_up cR' rb'.1 R)
    unfold b_X3_findPolynomial_47
    dsimp only
    rw [if_neg (nI_nlt (by omega) (by omega)), e1]
    simp only [Option.bind_some]
    rw [shl_mulL _ (by omega), nI_l (by omega), nezL_in (lN_ne0 (by omega) (by omega)), pk_sub (by omega), chk_in (vp_in_nI (by omega) (by omega)), hc, e3]
    simp only [Option.bind_some]
    rw [nI_1, nI_clamp (by omega)]
    refine ⟨_, rfl, _, _, _, _, rfl, fun z => g1 z.symm, fun i j hi hj => ?_, fun m hm => ?_⟩
    · rw [e4 i j hi hj, va_up_self, e2 i j hi hj, hA i j hi hj]
      rfl
    · by_cases q : m = k + 1
      · rw [q, pk_uLs]
      · rw [pk_uLn (by omega)]; exact g3 m (by omega)
  · rintro x ⟨ra', rb', cR', cP', rfl, g1, g2, g3⟩
    unfold b_X3_findPolynomial_47
    dsimp only
    rw [if_pos (nI_lt (by omega) (by omega))]
    exact ⟨_, rfl, ra', rb', cR', cP', rfl, g1, g3⟩
