/-! polynomials of whole numbers, by their values -/
def evP (a : Nat → Int) (n : Nat) (y : Int) : Int := sI n (fun j => a j * y ^ j)
theorem evP_first (a : Nat → Int) (n : Nat) (y : Int) : evP a (n + 1) y = a 0 + y * evP (fun k => a (k + 1)) n y := by
  unfold evP
  rw [sI_first, Int.pow_zero, Int.mul_one, ← sI_mul]
  congr 1
  refine sI_congr fun k _ => ?_
  rw [Int.pow_succ]
  grind
theorem evP_add (a b : Nat → Int) (n : Nat) (y : Int) : evP (fun k => a k + b k) n y = evP a n y + evP b n y := by
  unfold evP
  rw [← sI_add]
  refine sI_congr fun k _ => ?_
  rw [Int.add_mul]
theorem evP_cmul (c : Int) (a : Nat → Int) (n : Nat) (y : Int) : evP (fun k => c * a k) n y = c * evP a n y := by
  unfold evP
  rw [← sI_mul]
  refine sI_congr fun k _ => ?_
  rw [Int.mul_assoc]
theorem evP_sum (F : Nat → Nat → Int) (c n : Nat) (y : Int) : evP (fun k => sI c (fun j => F j k)) n y = sI c (fun j => evP (F j) n y) := by
  unfold evP
  rw [sI_comm]
  refine sI_congr fun k _ => ?_
  rw [Int.mul_comm, ← sI_mul]
  refine sI_congr fun j _ => ?_
  rw [Int.mul_comm]
theorem evP_up (a : Nat → Int) (n : Nat) (y : Int) : evP (fun k => if k < n then a k else 0) (n + 1) y = evP a n y := by
  unfold evP
  rw [sI]
  dsimp only
  rw [if_neg (by omega), Int.zero_mul, Int.add_zero]
  refine sI_congr fun k hk => ?_
  rw [if_pos hk]
theorem evP_sh (a : Nat → Int) (n : Nat) (y : Int) : evP (fun k => if k = 0 then 0 else a (k - 1)) (n + 1) y = y * evP a n y := by
  rw [evP_first, if_pos rfl, Int.zero_add]
  congr 1
theorem evP_lin (a : Nat → Int) (n : Nat) (α β y : Int) : evP (fun k => α * (if k < n then a k else 0) + β * (if k = 0 then 0 else a (k - 1))) (n + 1) y = (α + y * β) * evP a n y := by
  rw [evP_add, evP_cmul, evP_cmul, evP_up, evP_sh]
  grind
theorem dvd_all {x : Int} (h : ∀ t : Int, 1 ≤ t → t ∣ x) : x = 0 := by
  have h1 := h (ab x + 1) (by have := ab_nn x; omega)
  obtain ⟨c, hc⟩ := h1
  by_cases q : c = 0
  · rw [q, Int.mul_zero] at hc; exact hc
  · have h2 : ab x = (ab x + 1) * ab c := by
      have h3 : ab x = ab ((ab x + 1) * c) := by rw [← hc]
      rw [ab_mul, ab_of (show 0 ≤ ab x + 1 by have := ab_nn x; omega)] at h3
      exact h3
    have h4 : 1 ≤ ab c := by
      have := ab_nn c
      rcases Int.lt_or_le 0 (ab c) with z | z
      · omega
      · exact absurd (ab_z z) q
    have h5 : (ab x + 1) * 1 ≤ (ab x + 1) * ab c := Int.mul_le_mul_of_nonneg_left h4 (by have := ab_nn x; omega)
    omega
theorem evP_none : ∀ (n : Nat) (a : Nat → Int), (∀ y : Int, 1 ≤ y → evP a n y = 0) → ∀ k, k < n → a k = 0
  | 0, _, _, k, hk => by omega
  | n + 1, a, h, k, hk => by
    have h0 : a 0 = 0 := dvd_all (fun t ht => by
      have := h t ht
      rw [evP_first] at this
      exact ⟨-evP (fun k => a (k + 1)) n t, by rw [Int.mul_neg]; omega⟩)
    have h1 : ∀ y : Int, 1 ≤ y → evP (fun k => a (k + 1)) n y = 0 := by
      intro y hy
      have := h y hy
      rw [evP_first, h0, Int.zero_add] at this
      rcases Int.mul_eq_zero.mp this with q | q
      · omega
      · exact q
    cases k with
    | zero => exact h0
    | succ k => exact evP_none n _ h1 k (by omega)
theorem evP_same {n : Nat} {a b : Nat → Int} (h : ∀ y : Int, 1 ≤ y → evP a n y = evP b n y) {k : Nat} (hk : k < n) : a k = b k := by
  have := evP_none n (fun k => a k + (-1) * b k) (fun y hy => by rw [evP_add, evP_cmul, h y hy]; omega) k hk
  omega
theorem evP_congr {n : Nat} {a b : Nat → Int} (h : ∀ k, k < n → a k = b k) (y : Int) : evP a n y = evP b n y := sI_congr fun k hk => by rw [h k hk]
/-- a determinant whose rows go on evenly -/
theorem dt_pol : ∀ (m : Nat) (u v : Nat → Nat → Int), ∃ a, ∀ y, dt m (fun i j => u i j + y * v i j) = evP a (m + 1) y
  | 0, _, _ => ⟨fun _ => 1, fun y => by rw [dt, evP, sI, sI, Int.pow_zero]; rfl⟩
  | m + 1, u, v => by
    have hex : ∃ F : Nat → Nat → Int, ∀ j y, dt m (fun i k => mn u 0 j i k + y * mn v 0 j i k) = evP (F j) (m + 1) y :=
      ⟨fun j => (dt_pol m (mn u 0 j) (mn v 0 j)).choose, fun j => (dt_pol m (mn u 0 j) (mn v 0 j)).choose_spec⟩
    obtain ⟨F, hF⟩ := hex
    refine ⟨fun k => sI (m + 1) (fun j => (sg j * u 0 j) * (if k < m + 1 then F j k else 0) + (sg j * v 0 j) * (if k = 0 then 0 else F j (k - 1))), fun y => ?_⟩
    rw [dt, evP_sum (fun j k => (sg j * u 0 j) * (if k < m + 1 then F j k else 0) + (sg j * v 0 j) * (if k = 0 then 0 else F j (k - 1)))]
    refine sI_congr fun j hj => ?_
    have e : mn (fun i j => u i j + y * v i j) 0 j = fun i k => mn u 0 j i k + y * mn v 0 j i k := rfl
    rw [evP_lin, e, hF]
    grind
def idm (i j : Nat) : Int := if i = j then 1 else 0
def ch (B : Nat → Nat → Int) (y : Int) : Nat → Nat → Int := fun i j => B i j + y * idm i j
noncomputable def cf (n : Nat) (B : Nat → Nat → Int) : Nat → Int := (dt_pol n B idm).choose
theorem cf_ev (n : Nat) (B : Nat → Nat → Int) (y : Int) : dt n (ch B y) = evP (cf n B) (n + 1) y := (dt_pol n B idm).choose_spec y
theorem idm_skp (c i j : Nat) : idm (skp c i) (skp c j) = idm i j := by
  unfold idm
  by_cases q : i = j
  · rw [if_pos q, if_pos (by rw [q])]
  · rw [if_neg q, if_neg (fun z => q (skp_inj z))]
theorem mn_ch (B : Nat → Nat → Int) (c : Nat) (y : Int) : mn (ch B y) c c = ch (mn B c c) y := by
  funext i j
  unfold mn ch
  rw [idm_skp]
theorem dt_mod (t : Int) : ∀ (m : Nat) (A A' : Nat → Nat → Int), (∀ i j, t ∣ A i j - A' i j) → t ∣ dt m A - dt m A'
  | 0, _, _, _ => by rw [dt, dt]; exact ⟨0, by omega⟩
  | m + 1, A, A', h => by
    have hs : ∀ (n : Nat) (f : Nat → Int), (∀ i, t ∣ f i) → t ∣ sI n f := by
      intro n f hf
      induction n with
      | zero => exact ⟨0, by rw [sI, Int.mul_zero]⟩
      | succ n ih => rw [sI]; exact Int.dvd_add ih (hf n)
    rw [dt, dt, ← sI_sub]
    refine hs _ _ fun j => ?_
    obtain ⟨c1, h1⟩ := h 0 j
    obtain ⟨c2, h2⟩ := dt_mod t m (mn A 0 j) (mn A' 0 j) (fun i k => h _ _)
    refine ⟨sg j * c1 * dt m (mn A 0 j) + sg j * A' 0 j * c2, ?_⟩
    have e1 : A 0 j = A' 0 j + t * c1 := by omega
    have e2 : dt m (mn A 0 j) = dt m (mn A' 0 j) + t * c2 := by omega
    rw [e1, e2]
    grind
def hm (B : Nat → Nat → Int) (y t : Int) (c : Nat) : Nat → Nat → Int := fun i j => B i j + (if i < c then y + t else y) * idm i j
theorem hm_step {m : Nat} (B : Nat → Nat → Int) (y t : Int) {c : Nat} (hc : c ≤ m) : dt (m + 1) (hm B y t (c + 1)) = dt (m + 1) (hm B y t c) + t * dt m (mn (hm B y t c) c c) := by
  have e1 : hm B y t (c + 1) = ru (hm B y t c) c (fun j => 1 * hm B y t c c j + t * idm c j) := by
    funext i j
    unfold ru hm
    by_cases q : i = c
    · rw [if_pos q, if_pos (by omega), if_neg (by omega), q]; grind
    · rw [if_neg q]
      by_cases q2 : i < c
      · rw [if_pos (by omega), if_pos q2]
      · rw [if_neg (by omega), if_neg q2]
  have e2 : dt (m + 1) (ru (hm B y t c) c (fun j => idm c j)) = dt m (mn (hm B y t c) c c) := by
    rw [dt_ru _ hc, sI_skp _ (q := c) m hc, sI_z (fun k _ => by
      unfold idm
      rw [if_neg (fun z => skp_ne c k z.symm), Int.mul_zero, Int.zero_mul])]
    unfold idm
    rw [if_pos rfl, sg_add, sg_sq]
    omega
  rw [e1, dt_lin _ hc, e2]
  have e3 : ru (hm B y t c) c (fun j => hm B y t c c j) = hm B y t c := ru_self _ _
  rw [e3]
  omega
theorem dt_step {m : Nat} (B : Nat → Nat → Int) (y t : Int) : t * t ∣ dt (m + 1) (ch B (y + t)) - dt (m + 1) (ch B y) - t * sI (m + 1) (fun c => dt m (ch (mn B c c) y)) := by
  have key : ∀ c, c ≤ m + 1 → t * t ∣ dt (m + 1) (hm B y t c) - dt (m + 1) (ch B y) - t * sI c (fun c => dt m (ch (mn B c c) y)) := by
    intro c
    induction c with
    | zero =>
      intro _
      have e : hm B y t 0 = ch B y := by
        funext i j; unfold hm ch; rw [if_neg (by omega)]
      rw [e, sI]
      exact ⟨0, by omega⟩
    | succ c ih =>
      intro hc
      obtain ⟨c1, h1⟩ := ih (by omega)
      obtain ⟨c2, h2⟩ := dt_mod t m (mn (hm B y t c) c c) (ch (mn B c c) y) (fun i j => by
        unfold mn hm ch
        rw [idm_skp]
        by_cases q : skp c i < c
        · rw [if_pos q]; exact ⟨idm i j, by grind⟩
        · rw [if_neg q]; exact ⟨0, by dsimp only; omega⟩)
      rw [hm_step B y t (by omega), sI]
      refine ⟨c1 + c2, ?_⟩
      have e2 : dt m (mn (hm B y t c) c c) = dt m (ch (mn B c c) y) + t * c2 := by omega
      rw [e2]
      grind
  have := key (m + 1) (Nat.le_refl _)
  have e : dt (m + 1) (hm B y t (m + 1)) = dt (m + 1) (ch B (y + t)) := dt_congr fun i j hi _ => by
    unfold hm ch; rw [if_pos hi]
  rw [e] at this
  exact this
theorem pow_step (y t : Int) : ∀ k : Nat, t * t ∣ (y + t) ^ (k + 1) - y ^ (k + 1) - t * (((k : Int) + 1) * y ^ k)
  | 0 => ⟨0, by simp only [Int.pow_succ, Int.pow_zero]; push_cast; omega⟩
  | k + 1 => by
    obtain ⟨c, hc⟩ := pow_step y t k
    refine ⟨c * (y + t) + ((k : Int) + 1) * y ^ k, ?_⟩
    have e : (y + t) ^ (k + 1) = y ^ (k + 1) + t * (((k : Int) + 1) * y ^ k) + t * t * c := by omega
    rw [Int.pow_succ (y + t) (k + 1), e, Int.pow_succ y (k + 1), Int.pow_succ y k]
    push_cast
    grind
theorem evP_step (a : Nat → Int) (y t : Int) : ∀ n, t * t ∣ evP a (n + 1) (y + t) - evP a (n + 1) y - t * evP (fun k => ((k : Int) + 1) * a (k + 1)) n y
  | 0 => ⟨0, by unfold evP; simp only [sI, Int.pow_zero]; omega⟩
  | n + 1 => by
    obtain ⟨c1, h1⟩ := evP_step a y t n
    obtain ⟨c2, h2⟩ := pow_step y t n
    unfold evP at h1 ⊢
    show t * t ∣ (sI (n + 1) (fun j => a j * (y + t) ^ j) + a (n + 1) * (y + t) ^ (n + 1)) - (sI (n + 1) (fun j => a j * y ^ j) + a (n + 1) * y ^ (n + 1)) - t * (sI n (fun k => ((k : Int) + 1) * a (k + 1) * y ^ k) + ((n : Int) + 1) * a (n + 1) * y ^ n)
    refine ⟨c1 + a (n + 1) * c2, ?_⟩
    have e : (y + t) ^ (n + 1) = y ^ (n + 1) + t * (((n : Int) + 1) * y ^ n) + t * t * c2 := by omega
    rw [e]
    grind
/-- the derivative: one knot taken out -/
theorem cf_der {m : Nat} (B : Nat → Nat → Int) {k : Nat} (hk : k < m + 1) : ((k : Int) + 1) * cf (m + 1) B (k + 1) = sI (m + 1) (fun c => cf m (mn B c c) k) := by
  have h : ∀ y : Int, 1 ≤ y → evP (fun k => ((k : Int) + 1) * cf (m + 1) B (k + 1)) (m + 1) y = evP (fun k => sI (m + 1) (fun c => cf m (mn B c c) k)) (m + 1) y := by
    intro y _
    rw [evP_sum (fun c k => cf m (mn B c c) k)]
    have e1 : sI (m + 1) (fun c => evP (cf m (mn B c c)) (m + 1) y) = sI (m + 1) (fun c => dt m (ch (mn B c c) y)) := sI_congr fun c _ => (cf_ev m (mn B c c) y).symm
    have e0 : sI (m + 1) (fun j => evP ((fun c k => cf m (mn B c c) k) j) (m + 1) y) = sI (m + 1) (fun c => evP (cf m (mn B c c)) (m + 1) y) := rfl
    rw [e0, e1]
    have := dvd_all (x := evP (fun k => ((k : Int) + 1) * cf (m + 1) B (k + 1)) (m + 1) y - sI (m + 1) (fun c => dt m (ch (mn B c c) y))) (fun t ht => by
      obtain ⟨c1, h1⟩ := dt_step (m := m) B y t
      obtain ⟨c2, h2⟩ := evP_step (cf (m + 1) B) y t (m + 1)
      rw [← cf_ev, ← cf_ev] at h2
      have h3 : t * (evP (fun k => ((k : Int) + 1) * cf (m + 1) B (k + 1)) (m + 1) y - sI (m + 1) (fun c => dt m (ch (mn B c c) y))) = t * (t * (c1 - c2)) := by grind
      exact ⟨c1 - c2, Int.eq_of_mul_eq_mul_left (by omega) h3⟩)
    omega
  exact evP_same h hk
theorem cf_top : ∀ (n : Nat) (B : Nat → Nat → Int), cf n B n = 1
  | 0, B => by
    have := cf_ev 0 B 1
    rw [dt, evP, sI, sI, Int.pow_zero] at this
    omega
  | n + 1, B => by
    have h := cf_der B (m := n) (k := n) (by omega)
    have e : sI (n + 1) (fun c => cf n (mn B c c) n) = sI (n + 1) (fun _ => 1) := sI_congr fun c _ => cf_top n _
    have e2 : ∀ n : Nat, sI n (fun _ => 1) = (n : Int) := by
      intro n
      induction n with
      | zero => rfl
      | succ n ih => rw [sI, ih]; push_cast; rfl
    rw [e, e2] at h
    have h2 : ((n : Int) + 1) * cf (n + 1) B (n + 1) = ((n : Int) + 1) * 1 := by rw [h]; push_cast; omega
    exact Int.eq_of_mul_eq_mul_left (by omega) h2
theorem cf_zero (n : Nat) (B : Nat → Nat → Int) : cf n B 0 = dt n B := by
  have := cf_ev n B 0
  rw [evP_first, Int.zero_mul, Int.add_zero] at this
  rw [← this]
  refine dt_congr fun i j _ _ => ?_
  unfold ch
  omega
theorem cf_nn : ∀ (n : Nat) (B : Nat → Nat → Int), SD n B → ∀ k, k ≤ n → 0 ≤ cf n B k
  | 0, B, h, k, hk => by rw [show k = 0 by omega, cf_zero]; exact dt_nn 0 B h
  | n + 1, B, h, 0, _ => by rw [cf_zero]; exact dt_nn _ B h
  | n + 1, B, h, k + 1, hk => by
    have h1 := cf_der B (m := n) (k := k) (by omega)
    have h2 : 0 ≤ sI (n + 1) (fun c => cf n (mn B c c) k) := sI_nn fun c hc => cf_nn n (mn B c c) (SD_mn h (by omega)) k (by omega)
    rw [← h1] at h2
    rcases Int.lt_or_le (cf (n + 1) B (k + 1)) 0 with q | q
    · have := Int.mul_neg_of_pos_of_neg (show (0 : Int) < (k : Int) + 1 by omega) q
      omega
    · exact q
theorem cf_gap : ∀ (n : Nat) (B : Nat → Nat → Int), SD n B → ∀ k, k + 1 ≤ n → cf n B (k + 1) = 0 → cf n B k = 0
  | 0, _, _, k, hk, _ => by omega
  | n + 1, B, h, 0, _, h0 => by
    have h1 := cf_der B (m := n) (k := 0) (by omega)
    rw [h0, Int.mul_zero] at h1
    have h2 := sI_nz (f := fun c => cf n (mn B c c) 0) (n := n + 1) (fun c hc => cf_nn n _ (SD_mn h (by omega)) 0 (by omega)) h1.symm n (by omega)
    rw [cf_zero] at h2 ⊢
    have e : dt n (mn B n n) = dt n B := dt_congr fun i j hi hj => by unfold mn; rw [skp_lt hi, skp_lt hj]
    rw [e] at h2
    by_cases q : dt (n + 1) B = 0
    · exact q
    · exact absurd h2 (dt_less n B h q)
  | n + 1, B, h, k + 1, hk, h0 => by
    have h1 := cf_der B (m := n) (k := k + 1) (by omega)
    rw [h0, Int.mul_zero] at h1
    have h2 := sI_nz (f := fun c => cf n (mn B c c) (k + 1)) (n := n + 1) (fun c hc => cf_nn n _ (SD_mn h (by omega)) (k + 1) (by omega)) h1.symm
    have h3 := cf_der B (m := n) (k := k) (by omega)
    rw [sI_z (fun c hc => cf_gap n (mn B c c) (SD_mn h (by omega)) k (by omega) (h2 c hc))] at h3
    rcases Int.mul_eq_zero.mp h3 with q | q
    · omega
    · exact q
theorem cf_bd {R : Int} : ∀ (n : Nat) (B : Nat → Nat → Int), (n : Int) ≤ R → (∀ i, i < n → sI n (fun j => ab (B i j)) ≤ R) → ∀ k, k ≤ n → ab (cf n B k) ≤ R ^ n
  | n, B, hn, h, 0, _ => by rw [cf_zero]; exact dt_bd (by omega) n B h
  | 0, B, hn, h, k + 1, hk => by omega
  | n + 1, B, hn, h, k + 1, hk => by
    have hR : 0 ≤ R := by omega
    have h1 := cf_der B (m := n) (k := k) (by omega)
    have hab : ∀ (f : Nat → Int) n, ab (sI n f) ≤ sI n (fun j => ab (f j)) := by
      intro f n
      induction n with
      | zero => exact Int.le_refl _
      | succ n ih =>
        rw [sI, sI]
        have := ab_add (sI n f) (f n)
        omega
    have h2 := hab (fun c => cf n (mn B c c) k) (n + 1)
    have h3 : sI (n + 1) (fun c => ab (cf n (mn B c c) k)) ≤ sI (n + 1) (fun _ => R ^ n * 1) := sI_le fun c hc => by
      rw [Int.mul_one]
      refine cf_bd n (mn B c c) (by omega) (fun i hi => ?_) k (by omega)
      have h4 := h (skp c i) (by have := skp_le c i; omega)
      rw [sI_skp _ (q := c) n (by omega)] at h4
      have h5 := ab_nn (B (skp c i) c)
      have e : sI n (fun j => ab (mn B c c i j)) = sI n (fun j => ab (B (skp c i) (skp c j))) := rfl
      rw [e]
      omega
    have e2 : ∀ n : Nat, sI n (fun _ => 1) = (n : Int) := by
      intro n
      induction n with
      | zero => rfl
      | succ n ih => rw [sI, ih]; push_cast; rfl
    rw [sI_mul, e2] at h3
    have h6 : R ^ n * ((n + 1 : Nat) : Int) ≤ R ^ n * R := Int.mul_le_mul_of_nonneg_left hn (Int.pow_nonneg hR)
    rw [← h1, ab_mul, ab_of (show (0 : Int) ≤ (k : Int) + 1 by omega)] at h2
    have h7 : 1 * ab (cf (n + 1) B (k + 1)) ≤ ((k : Int) + 1) * ab (cf (n + 1) B (k + 1)) := Int.mul_le_mul_of_nonneg_right (by omega) (ab_nn _)
    rw [Int.pow_succ]
    omega
