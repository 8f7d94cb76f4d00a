/-! no own number is beyond 18 halves -/
def NB (n : Nat) (B : Nat → Nat → Int) : Prop := (∀ i j, B i j = B j i) ∧ (∀ i, B i i = 0) ∧ ∀ i j, ab (B i j) ≤ 1
theorem NB_neg {n : Nat} {B : Nat → Nat → Int} (h : NB n B) : NB n (scl (-1) B) := by
  refine ⟨fun i j => by unfold scl; rw [h.1 i j], fun i => by unfold scl; rw [h.2.1 i]; rfl, fun i j => ?_⟩
  unfold scl
  rw [ab_mul, show ab (-1) = 1 by decide, Int.one_mul]
  exact h.2.2 i j
theorem SD_18 {n : Nat} {B : Nat → Nat → Int} (hn : n ≤ 10) (h : NB n B) : SD n (ch (scl 2 B) 18) := by
  obtain ⟨h1, h2, h3⟩ := h
  have hid : ∀ i j, idm i j = idm j i := fun i j => by
    unfold idm
    by_cases q : i = j
    · rw [if_pos q, if_pos q.symm]
    · rw [if_neg q, if_neg (fun z => q z.symm)]
  refine ⟨fun i j => by unfold ch scl; rw [h1 i j, hid i j], fun i hi => ?_⟩
  have e1 : ch (scl 2 B) 18 i i = 18 := by
    unfold ch scl idm
    rw [h2 i, if_pos rfl]; rfl
  rw [e1]
  unfold off
  obtain ⟨m, rfl⟩ : ∃ m, n = m + 1 := ⟨n - 1, by omega⟩
  rw [sI_skp _ (q := i) m (by omega), if_pos rfl]
  have e2 : sI m (fun j => if skp i j = i then 0 else ab (ch (scl 2 B) 18 i (skp i j))) ≤ sI m (fun _ => 2) := by
    refine sI_le fun j _ => ?_
    rw [if_neg (skp_ne i j)]
    have e3 : ch (scl 2 B) 18 i (skp i j) = 2 * B i (skp i j) := by
      unfold ch scl idm
      rw [if_neg (fun z => skp_ne i j z.symm)]; omega
    rw [e3, ab_mul, show ab 2 = 2 by decide]
    have := h3 i (skp i j)
    omega
  rw [sI_one] at e2
  omega
theorem row_18 {n : Nat} {B : Nat → Nat → Int} (hn : n ≤ 10) (h : NB n B) (i : Nat) (hi : i < n) : sI n (fun j => ab (ch (scl 2 B) 18 i j)) ≤ 38 := by
  have h1 := (SD_18 hn h).2 i hi
  unfold off at h1
  obtain ⟨m, rfl⟩ : ∃ m, n = m + 1 := ⟨n - 1, by omega⟩
  rw [sI_skp _ (q := i) m (by omega), if_pos rfl] at h1
  rw [sI_skp _ (q := i) m (by omega)]
  have e1 : ch (scl 2 B) 18 i i = 18 := by
    unfold ch scl idm
    rw [h.2.1 i, if_pos rfl]; rfl
  have e2 : sI m (fun j => if skp i j = i then 0 else ab (ch (scl 2 B) 18 i (skp i j))) = sI m (fun j => ab (ch (scl 2 B) 18 i (skp i j))) := sI_congr fun j _ => if_neg (skp_ne i j)
  rw [e2, e1] at h1
  rw [e1, show ab 18 = 18 by decide]
  omega
theorem p38 : ∀ n, n < 11 → (38 : Int) ^ n < 2 ^ 63 := by decide +kernel
theorem p10 : ∀ n, n < 11 → (10 : Int) ^ n ≤ 10 ^ 10 := by decide +kernel
theorem cf_18 {n : Nat} {B : Nat → Nat → Int} (hn : n ≤ 10) (h : NB n B) {k : Nat} (hk : k ≤ n) : ab (cf n (ch (scl 2 B) 18) k) < 2 ^ 63 := by
  have h1 := cf_bd (R := 38) n (ch (scl 2 B) 18) (by omega) (row_18 hn h) k hk
  have h2 := p38 n (by omega)
  omega
theorem cf_10 {n : Nat} {B : Nat → Nat → Int} (hn : n ≤ 10) (h : NB n B) {k : Nat} (hk : k ≤ n) : ab (cf n B k) ≤ 10 ^ 10 := by
  have h1 := cf_bd (R := 10) n B (by omega) (fun i hi => by
    have e : sI n (fun j => ab (B i j)) ≤ sI n (fun _ => 1) := sI_le fun j _ => h.2.2 i j
    rw [sI_one] at e
    omega) k hk
  have h2 := p10 n (by omega)
  omega
theorem mv_true {t : Nat → Nat → Int64} {B : Nat → Nat → Int} {n : Nat} (h1 : 1 ≤ n) (hn : n ≤ 10) (hB : NB n B) (ht : ∀ i k, i < n → k < n → t i k = Int64.ofInt (-B i k)) (h : Int32) (hz : Int) (hh : h.toInt64 = Int64.ofInt hz) {j : Nat} (hj : j ≤ n) : mv t n h j = Int64.ofInt (cf n (ch (scl 2 B) hz) j) := by
  unfold mv
  rw [← cf_move n B hz hj]
  refine SF_o hh (fun i _ hi => ?_) j
  unfold pol
  rw [polC_true h1 hn ht (fun k hk => cf_10 hn hB hk) (n - i) (by omega), oI_lN, oI_mul, show n - (n - i) = i by omega]
  congr 2
theorem oI_neg_iff {a : Int} (h : ab a < 2 ^ 63) : Int64.ofInt a < 0 ↔ a < 0 := by
  rw [Int64.lt_iff_toInt_lt, oI_toInt (by unfold ab at h; omega) (by unfold ab at h; omega), show (0 : Int64).toInt = 0 by decide]
theorem oI_z_iff {a : Int} (h : ab a < 2 ^ 63) : Int64.ofInt a = 0 ↔ a = 0 := by
  rw [← Int64.toInt_inj, oI_toInt (by unfold ab at h; omega) (by unfold ab at h; omega), show (0 : Int64).toInt = 0 by decide]
theorem own_ok {t : Nat → Nat → Int64} {B : Nat → Nat → Int} {n : Nat} (h1 : 1 ≤ n) (hn : n ≤ 10) (hB : NB n B) (ht : ∀ i k, i < n → k < n → t i k = Int64.ofInt (-B i k)) : abv (mv t n 18) n = 0 ∧ abv (mv t n (-18)) n + zc (mv t n (-18)) n = n := by
  constructor
  · refine abv_nn fun j hj => ?_
    rw [mv_true h1 hn hB ht 18 18 (by decide) hj, oI_neg_iff (cf_18 hn hB hj)]
    have := cf_nn n _ (SD_18 hn hB) j hj
    omega
  · have hB' := NB_neg hB
    have hf : ∀ j, j ≤ n → mv t n (-18) j = Int64.ofInt (sg (n - j) * cf n (ch (scl 2 (scl (-1) B)) 18) j) := by
      intro j hj
      rw [mv_true h1 hn hB ht (-18) (-18) (by decide) hj, ← cf_neg n _ hj]
      congr 2
      funext i k
      unfold ch scl
      grind
    have hab : ∀ j, j ≤ n → ab (sg (n - j) * cf n (ch (scl 2 (scl (-1) B)) 18) j) < 2 ^ 63 := by
      intro j hj
      have h3 : ab (sg (n - j)) = 1 := by rcases sg_or (n - j) with q | q <;> rw [q] <;> decide
      rw [ab_mul, h3, Int.one_mul]
      exact cf_18 hn hB' hj
    have hsne : ∀ k, sg k ≠ 0 := fun k => by rcases sg_or k with q | q <;> rw [q] <;> decide
    have hfz : ∀ j, j ≤ n → (mv t n (-18) j = 0 ↔ cf n (ch (scl 2 (scl (-1) B)) 18) j = 0) := by
      intro j hj
      rw [hf j hj, oI_z_iff (hab j hj)]
      constructor
      · intro z
        rcases Int.mul_eq_zero.mp z with q | q
        · exact absurd q (hsne _)
        · exact q
      · intro z; rw [z, Int.mul_zero]
    obtain ⟨z, hz, -, h3, h4⟩ := zc_ex (f := mv t n (-18)) (n := n) (by rw [mv_top]; exact one_ne)
    have hup : ∀ d, z + d ≤ n → cf n (ch (scl 2 (scl (-1) B)) 18) (z + d) ≠ 0 := by
      intro d
      induction d with
      | zero => intro hd hq; exact h3 ((hfz z hz).mpr hq)
      | succ d ih => intro hd hq; exact ih (by omega) (cf_gap n _ (SD_18 hn hB') (z + d) (by omega) hq)
    have hne : ∀ i, z ≤ i → i ≤ n → cf n (ch (scl 2 (scl (-1) B)) 18) i ≠ 0 := by
      intro i hi hin
      have := hup (i - z) (by omega)
      rw [show z + (i - z) = i by omega] at this
      exact this
    refine abv_alt hz h4 (fun i hi hin q => hne i hi hin ((hfz i hin).mp q)) (fun i hi hin => ?_)
    have p1 := cf_nn n _ (SD_18 hn hB') i (by omega)
    have p2 := cf_nn n _ (SD_18 hn hB') (i + 1) (by omega)
    have q1 := hne i hi (by omega)
    have q2 := hne (i + 1) (by omega) (by omega)
    rw [hf i (by omega), hf (i + 1) (by omega), oI_neg_iff (hab i (by omega)), oI_neg_iff (hab (i + 1) (by omega)), show n - i = n - (i + 1) + 1 by omega, sg]
    rcases sg_or (n - (i + 1)) with q | q
    · rw [q]; omega
    · rw [q]; omega
/-! the table of a net -/
def tZ (r : Nat → Nat) (n s : Nat) : Nat → Nat → Int := fun i j => -(tb r n s i j).toInt
theorem tZ_nb (r : Nat → Nat) (n s : Nat) : NB n (tZ r n s) := by
  refine ⟨fun i j => by unfold tZ; rw [tb_sym], fun i => by unfold tZ; rw [tb_self]; decide, fun i j => ?_⟩
  unfold tZ
  rcases tb_or r n s i j with h | h | h <;> rw [h] <;> decide
theorem tZ_o (r : Nat → Nat) (n s i j : Nat) : tb r n s i j = Int64.ofInt (-tZ r n s i j) := by
  unfold tZ
  rw [Int.neg_neg, Int64.ofInt_toInt]
theorem tb_ok {n : Nat} {r : Nat → Nat} (hg : Gr n r) (s : Nat) : abv (mv (tb r n s) n 18) n = 0 ∧ abv (mv (tb r n s) n (-18)) n + zc (mv (tb r n s) n (-18)) n = n := own_ok hg.1 hg.2.1 (tZ_nb r n s) (fun i k _ _ => tZ_o r n s i k)
