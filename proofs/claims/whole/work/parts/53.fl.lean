/-! the polynomial that both sides find is the true one -/
noncomputable def am (B : Nat → Nat → Int) (m p q : Nat) : Nat → Int := (dt_pol m (mn B p q) (mn idm p q)).choose
theorem am_ev (B : Nat → Nat → Int) (m p q : Nat) (y : Int) : dt m (mn (ch B y) p q) = evP (am B m p q) (m + 1) y := (dt_pol m (mn B p q) (mn idm p q)).choose_spec y
noncomputable def MM (B : Nat → Nat → Int) (m j q p : Nat) : Int := sg (p + q) * am B m p q j
theorem mm_rec (B : Nat → Nat → Int) {m p p' k : Nat} (hp : p ≤ m) (hp' : p' ≤ m) (hk : k < m + 2) : (if k < m + 1 then sI (m + 1) (fun q => B p' q * MM B m k q p) else 0) + (if k = 0 then 0 else MM B m (k - 1) p' p) = if p' = p then cf (m + 1) B k else 0 := by
  refine evP_same (n := m + 2) (a := fun k => (if k < m + 1 then sI (m + 1) (fun q => B p' q * MM B m k q p) else 0) + (if k = 0 then 0 else MM B m (k - 1) p' p)) (b := fun k => if p' = p then cf (m + 1) B k else 0) (fun y _ => ?_) hk
  rw [evP_add, evP_up (fun k => sI (m + 1) (fun q => B p' q * MM B m k q p)), evP_sh (fun k => MM B m k p' p), evP_sum (fun q k => B p' q * MM B m k q p)]
  have e1 : ∀ q, evP (fun k => MM B m k q p) (m + 1) y = sg (p + q) * dt m (mn (ch B y) p q) := by
    intro q
    rw [am_ev]
    exact evP_cmul _ _ _ _
  have e2 : sI (m + 1) (fun q => evP (fun k => B p' q * MM B m k q p) (m + 1) y) = sI (m + 1) (fun q => B p' q * (sg (p + q) * dt m (mn (ch B y) p q))) := by
    refine sI_congr fun q _ => ?_
    rw [evP_cmul, e1]
  have e3 : sI (m + 1) (fun q => y * idm p' q * (sg (p + q) * dt m (mn (ch B y) p q))) = y * (sg (p + p') * dt m (mn (ch B y) p p')) := by
    rw [sI_skp _ (q := p') m hp', sI_z (fun k _ => by
      unfold idm
      rw [if_neg (fun z => skp_ne p' k z.symm), Int.mul_zero, Int.zero_mul])]
    unfold idm
    rw [if_pos rfl]
    grind
  rw [e1]
  show sI (m + 1) (fun q => evP (fun k => B p' q * MM B m k q p) (m + 1) y) + _ = _
  rw [e2, ← e3, ← sI_add]
  have e4 := dt_adj (m := m) (ch B y) hp hp'
  have e5 : sI (m + 1) (fun q => B p' q * (sg (p + q) * dt m (mn (ch B y) p q)) + y * idm p' q * (sg (p + q) * dt m (mn (ch B y) p q))) = sI (m + 1) (fun q => ch B y p' q * (sg (p + q) * dt m (mn (ch B y) p q))) := by
    refine sI_congr fun q _ => ?_
    have : ch B y p' q = B p' q + y * idm p' q := rfl
    rw [this]
    grind
  rw [e5, e4]
  by_cases h : p' = p
  · simp only [if_pos h]
    exact cf_ev _ _ _
  · simp only [if_neg h]
    unfold evP
    rw [sI_z (fun k _ => Int.zero_mul _)]
theorem mm_tr (B : Nat → Nat → Int) {m j : Nat} (hj : j < m + 1) : sI (m + 1) (fun p => MM B m j p p) = ((j : Int) + 1) * cf (m + 1) B (j + 1) := by
  rw [cf_der B hj]
  refine sI_congr fun p _ => ?_
  unfold MM
  rw [sg_add, sg_sq, Int.one_mul]
  refine evP_same (n := m + 1) (fun y _ => ?_) hj
  rw [← am_ev, mn_ch, cf_ev]
theorem mm_0 (B : Nat → Nat → Int) {m p p' : Nat} (hp : p ≤ m) (hp' : p' ≤ m) : MM B m m p' p = if p' = p then 1 else 0 := by
  have := mm_rec B hp hp' (k := m + 1) (by omega)
  rw [if_neg (by omega), if_neg (by omega), show m + 1 - 1 = m by omega, Int.zero_add, cf_top] at this
  exact this
theorem mm_s (B : Nat → Nat → Int) {m p p' k : Nat} (hp : p ≤ m) (hp' : p' ≤ m) (hk : k + 1 ≤ m) : MM B m (m - (k + 1)) p' p = (if p' = p then cf (m + 1) B (m - k) else 0) - sI (m + 1) (fun q => B p' q * MM B m (m - k) q p) := by
  have := mm_rec B hp hp' (k := m - k) (by omega)
  rw [if_pos (by omega), if_neg (by omega), show m - k - 1 = m - (k + 1) by omega] at this
  omega
theorem sI_one (c : Int) : ∀ n : Nat, sI n (fun _ => c) = (n : Int) * c
  | 0 => by rw [sI]; simp
  | n + 1 => by rw [sI, sI_one c n]; push_cast; grind
theorem mm_t (B : Nat → Nat → Int) {m k : Nat} (hk : k ≤ m) : sI (m + 1) (fun p => sI (m + 1) (fun q => B p q * MM B m (m - k) q p)) = ((k : Int) + 1) * cf (m + 1) B (m - k) := by
  by_cases h : k = m
  · subst h
    have e : sI (k + 1) (fun p => sI (k + 1) (fun q => B p q * MM B k (k - k) q p)) = sI (k + 1) (fun _ => cf (k + 1) B 0) := by
      refine sI_congr fun p hp => ?_
      have := mm_rec B (m := k) (p := p) (p' := p) (by omega) (by omega) (k := 0) (by omega)
      rw [if_pos (by omega), if_pos rfl, if_pos rfl] at this
      rw [Nat.sub_self]
      omega
    rw [e, sI_one, Nat.sub_self]
    push_cast
    rfl
  · have e : sI (m + 1) (fun p => sI (m + 1) (fun q => B p q * MM B m (m - k) q p)) = sI (m + 1) (fun p => cf (m + 1) B (m - k) - MM B m (m - (k + 1)) p p) := by
      refine sI_congr fun p hp => ?_
      have := mm_s B (p := p) (p' := p) (k := k) (m := m) (by omega) (by omega) (by omega)
      rw [if_pos rfl] at this
      omega
    have e2 := mm_tr B (m := m) (j := m - (k + 1)) (by omega)
    rw [e, sI_sub, sI_one, e2, show m - (k + 1) + 1 = m - k by omega]
    have e3 : ((m - (k + 1) : Nat) : Int) = (m : Int) - k - 1 := by omega
    rw [e3]
    push_cast
    grind
/-! into longs -/
theorem oI_add (a b : Int) : Int64.ofInt a + Int64.ofInt b = Int64.ofInt (a + b) := (Int64.ofInt_add a b).symm
theorem oI_mul (a b : Int) : Int64.ofInt a * Int64.ofInt b = Int64.ofInt (a * b) := (Int64.ofInt_mul a b).symm
theorem oI_neg (a : Int) : -Int64.ofInt a = Int64.ofInt (-a) := (Int64.ofInt_neg a).symm
theorem oI_0 : (0 : Int64) = Int64.ofInt 0 := by decide
theorem oI_1 : (1 : Int64) = Int64.ofInt 1 := by decide
theorem oI_toInt {a : Int} (h1 : -2 ^ 63 < a) (h2 : a < 2 ^ 63) : (Int64.ofInt a).toInt = a := Int64.toInt_ofInt_of_le (by omega) (by omega)
theorem oI_lN (n : Nat) : lN n = Int64.ofInt (n : Int) := by
  unfold lN
  exact (Int64.ofInt_eq_ofNat).symm
theorem oI_div {k : Nat} {c : Int} (hk : 0 < k) (hk2 : k < 2 ^ 62) (h : ab ((k : Int) * c) < 2 ^ 63) : Int64.ofInt ((k : Int) * c) / lN k = Int64.ofInt c := by
  have hkc : ab c ≤ ab ((k : Int) * c) := by
    rw [ab_mul, ab_of (show (0 : Int) ≤ (k : Int) by omega)]
    have : 1 * ab c ≤ (k : Int) * ab c := Int.mul_le_mul_of_nonneg_right (by omega) (ab_nn c)
    omega
  have h3 : -2 ^ 63 < (k : Int) * c ∧ (k : Int) * c < 2 ^ 63 := by unfold ab at h; omega
  have h4 : -2 ^ 63 < c ∧ c < 2 ^ 63 := by unfold ab at h hkc; omega
  apply Int64.toInt_inj.mp
  rw [Int64.toInt_div, oI_toInt h3.1 h3.2, pk_lT (by omega), oI_toInt h4.1 h4.2, Int.mul_tdiv_cancel_left _ (by omega)]
  exact Int.bmod_eq_of_le (by omega) (by omega)
theorem mulS_o {t M : Nat → Nat → Int64} {T MZ : Nat → Nat → Int} {i j : Nat} : ∀ {n : Nat}, (∀ k, k < n → t i k = Int64.ofInt (T i k) ∧ M k j = Int64.ofInt (MZ k j)) → mulS t M i j n = Int64.ofInt (sI n (fun k => T i k * MZ k j))
  | 0, _ => by rw [mulS, sI]; exact oI_0
  | n + 1, h => by
    rw [mulS, sI, mulS_o (n := n) (fun k hk => h k (by omega)), (h n (by omega)).1, (h n (by omega)).2, oI_mul, oI_add]
theorem trS_o {A : Nat → Nat → Int64} {AZ : Nat → Nat → Int} : ∀ {n : Nat}, (∀ i, i < n → A i i = Int64.ofInt (AZ i i)) → trS A n = Int64.ofInt (sI n (fun i => AZ i i))
  | 0, _ => by rw [trS, sI]; exact oI_0
  | n + 1, h => by rw [trS, sI, trS_o (n := n) (fun i hi => h i (by omega)), h n (by omega), oI_add]
theorem sI_negf (f : Nat → Int) (n : Nat) : sI n (fun i => -f i) = -sI n f := by
  have := sI_mul (-1) f n
  rw [sI_congr (g := fun i => -1 * f i) (fun i _ => by omega), this]
  omega
/-- Faddeev and Le Verrier -/
theorem fl_true {t : Nat → Nat → Int64} {B : Nat → Nat → Int} {m : Nat} (ht : ∀ i k, i < m + 1 → k < m + 1 → t i k = Int64.ofInt (-B i k)) (hm : m + 1 ≤ 10) (hb : ∀ k, k ≤ m + 1 → ab (cf (m + 1) B k) ≤ 10 ^ 10) : ∀ k, k ≤ m → (∀ i j, i < m + 1 → j < m + 1 → flM t (m + 1) k i j = Int64.ofInt (MM B m (m - k) i j)) ∧ polC t (m + 1) (k + 1) = Int64.ofInt (cf (m + 1) B (m - k)) := by
  have hA : ∀ k, k ≤ m → (∀ i j, i < m + 1 → j < m + 1 → flM t (m + 1) k i j = Int64.ofInt (MM B m (m - k) i j)) → (∀ i j, i < m + 1 → j < m + 1 → flA t (m + 1) (flM t (m + 1) k) i j = Int64.ofInt (-sI (m + 1) (fun q => B i q * MM B m (m - k) q j))) ∧ polC t (m + 1) (k + 1) = Int64.ofInt (cf (m + 1) B (m - k)) := by
    intro k hk h
    have h1 : ∀ i j, i < m + 1 → j < m + 1 → flA t (m + 1) (flM t (m + 1) k) i j = Int64.ofInt (-sI (m + 1) (fun q => B i q * MM B m (m - k) q j)) := by
      intro i j hi hj
      unfold flA
      rw [mulS_o (T := fun i k => -B i k) (MZ := fun q j => MM B m (m - k) q j) (fun q hq => ⟨ht i q hi hq, h q j hq hj⟩), ← sI_negf]
      congr 1
      refine sI_congr fun q _ => ?_
      grind
    refine ⟨h1, ?_⟩
    show flc t (m + 1) (flM t (m + 1) k) (k + 1) = _
    unfold flc
    rw [trS_o (AZ := fun i j => -sI (m + 1) (fun q => B i q * MM B m (m - k) q j)) (fun i hi => h1 i i hi hi), oI_neg, sI_negf, Int.neg_neg, mm_t B hk]
    have hbb := hb (m - k) (by omega)
    have : ((k : Int) + 1) = ((k + 1 : Nat) : Int) := by push_cast; rfl
    rw [this]
    refine oI_div (by omega) (by omega) ?_
    rw [ab_mul, ab_of (by omega)]
    have h3 : ((k + 1 : Nat) : Int) * ab (cf (m + 1) B (m - k)) ≤ 10 * 10 ^ 10 := by
      have g1 : ((k + 1 : Nat) : Int) * ab (cf (m + 1) B (m - k)) ≤ 10 * ab (cf (m + 1) B (m - k)) := Int.mul_le_mul_of_nonneg_right (by omega) (ab_nn _)
      omega
    omega
  intro k
  induction k with
  | zero =>
    intro _
    have h0 : ∀ i j, i < m + 1 → j < m + 1 → flM t (m + 1) 0 i j = Int64.ofInt (MM B m (m - 0) i j) := by
      intro i j hi hj
      rw [Nat.sub_zero, mm_0 B (by omega) (by omega)]
      show (if i = j then (1 : Int64) else 0) = _
      by_cases q : i = j
      · rw [if_pos q, if_pos q]; exact oI_1
      · rw [if_neg q, if_neg q]; exact oI_0
    exact ⟨h0, (hA 0 (by omega) h0).2⟩
  | succ k ih =>
    intro hk
    obtain ⟨h1, h2⟩ := ih (by omega)
    obtain ⟨h3, -⟩ := hA k (by omega) h1
    have h4 : ∀ i j, i < m + 1 → j < m + 1 → flM t (m + 1) (k + 1) i j = Int64.ofInt (MM B m (m - (k + 1)) i j) := by
      intro i j hi hj
      rw [mm_s B (by omega) (by omega) hk]
      show flA t (m + 1) (flM t (m + 1) k) i j + (if i = j then polC t (m + 1) (k + 1) else 0) = _
      rw [h3 i j hi hj, h2]
      by_cases q : i = j
      · rw [if_pos q, if_pos q, oI_add]
        congr 1
        omega
      · rw [if_neg q, if_neg q, oI_0, oI_add]
        congr 1
        omega
    exact ⟨h4, (hA (k + 1) hk h4).2⟩
theorem polC_true {t : Nat → Nat → Int64} {B : Nat → Nat → Int} {n : Nat} (h1 : 1 ≤ n) (hn : n ≤ 10) (ht : ∀ i k, i < n → k < n → t i k = Int64.ofInt (-B i k)) (hb : ∀ k, k ≤ n → ab (cf n B k) ≤ 10 ^ 10) (k : Nat) (hk : k ≤ n) : polC t n k = Int64.ofInt (cf n B (n - k)) := by
  obtain ⟨m, rfl⟩ : ∃ m, n = m + 1 := ⟨n - 1, by omega⟩
  cases k with
  | zero => rw [Nat.sub_zero, cf_top]; exact oI_1
  | succ k =>
    rw [(fl_true ht hn hb k (by omega)).2]
    congr 2
    omega
