/-! flows, by the arcs that are still open -/
def deO (O : Nat → Nat → Bool) (w : Nat) : Nat := sm 22 (fun v => (O w v).toNat)
def FS (B O : Nat → Nat → Bool) (k : Nat) : Prop := (∀ u v, u < 22 → v < 22 → (O u v).toNat + (O v u).toNat = (B u v).toNat + (B v u).toNat) ∧ (∀ u v, ¬ (O u v = true ∧ O v u = true)) ∧ (∀ w, w < 20 → deO O w = deO B w) ∧ deO O 20 + k = deO B 20
def inC (c : Nat → Bool) (O : Nat → Nat → Bool) : Nat := sm 22 (fun u => sm 22 (fun v => (c u && c v && O u v).toNat))
def outC (c : Nat → Bool) (O : Nat → Nat → Bool) : Nat := sm 22 (fun u => sm 22 (fun v => (c u && !c v && O u v).toNat))
def allC (c : Nat → Bool) (O : Nat → Nat → Bool) : Nat := sm 22 (fun u => if c u = true then deO O u else 0)
theorem allC_eq (c : Nat → Bool) (O : Nat → Nat → Bool) : allC c O = inC c O + outC c O := by
  unfold allC inC outC
  rw [← sm_add]
  refine sm_congr fun u _ => ?_
  rw [← sm_add]
  by_cases q : c u = true
  · rw [if_pos q]
    unfold deO
    refine sm_congr fun v _ => ?_
    rw [q]
    cases c v <;> cases O u v <;> rfl
  · rw [if_neg q, sm_congr (n := 22) (g := fun _ => 0) (fun v _ => by rw [Bool.eq_false_iff.mpr q]; rfl), sm_zero]
theorem inC_eq {B O : Nat → Nat → Bool} {k : Nat} (h : FS B O k) (c : Nat → Bool) : inC c O = inC c B := by
  have key : ∀ P : Nat → Nat → Bool, inC c P + inC c P = sm 22 (fun u => sm 22 (fun v => if (c u && c v) = true then (P u v).toNat + (P v u).toNat else 0)) := by
    intro P
    have e1 : inC c P = sm 22 (fun u => sm 22 (fun v => (c v && c u && P v u).toNat)) := by
      unfold inC
      rw [sm_comm]
    rw (config := { occs := .pos [2] }) [e1]
    unfold inC
    rw [← sm_add]
    refine sm_congr fun u _ => ?_
    rw [← sm_add]
    refine sm_congr fun v _ => ?_
    cases c u <;> cases c v <;> cases P u v <;> cases P v u <;> rfl
  have e : inC c O + inC c O = inC c B + inC c B := by
    rw [key, key]
    refine sm_congr fun u hu => sm_congr fun v hv => ?_
    rw [h.1 u v hu hv]
  omega
theorem allC_k {B O : Nat → Nat → Bool} {k : Nat} (h : FS B O k) {c : Nat → Bool} (cS : c 20 = true) (cT : c 21 = false) : allC c O + k = allC c B := by
  unfold allC
  have e1 : ∀ P : Nat → Nat → Bool, sm 22 (fun u => if c u = true then deO P u else 0) = sm 20 (fun u => if c u = true then deO P u else 0) + deO P 20 := by
    intro P
    show sm 20 (fun u => if c u = true then deO P u else 0) + (if c 20 = true then deO P 20 else 0) + (if c 21 = true then deO P 21 else 0) = _
    rw [cS, cT, if_pos rfl, if_neg (by decide)]
    rfl
  rw [e1, e1]
  have e2 : sm 20 (fun u => if c u = true then deO O u else 0) = sm 20 (fun u => if c u = true then deO B u else 0) := sm_congr fun u hu => by rw [h.2.2.1 u hu]
  have := h.2.2.2
  omega
theorem FS_out {B O : Nat → Nat → Bool} {k : Nat} (h : FS B O k) {c : Nat → Bool} (cS : c 20 = true) (cT : c 21 = false) : outC c O + k = outC c B := by
  have h1 := allC_k h cS cT
  rw [allC_eq, allC_eq, inC_eq h] at h1
  omega
/-- no flow is greater than one whose open arcs don't lead to the end -/
theorem FS_cut {B O1 O2 : Nat → Nat → Bool} {k1 k2 : Nat} (h1 : FS B O1 k1) (h2 : FS B O2 k2) (c : Nat → Bool) (cS : c 20 = true) (cT : c 21 = false) (hc : ∀ u v, u < 22 → v < 22 → c u = true → O2 u v = true → c v = true) : k1 ≤ k2 := by
  have g1 := FS_out h1 cS cT
  have g2 := FS_out h2 cS cT
  have g3 : outC c O2 = 0 := by
    unfold outC
    rw [sm_congr (n := 22) (g := fun _ => 0) (fun u hu => by
      rw [sm_congr (n := 22) (g := fun _ => 0) (fun v hv => by
        cases q : c u
        · rfl
        · cases q2 : O2 u v
          · rw [Bool.and_false]; rfl
          · rw [hc u v hu hv q q2]; rfl), sm_zero]), sm_zero]
  omega
/-! one arc turned -/
def fl (O : Nat → Nat → Bool) (u v : Nat) : Nat → Nat → Bool := fun a b => if a = u ∧ b = v then false else if a = v ∧ b = u then true else O a b
theorem sm_one {f g : Nat → Nat} {v : Nat} (hv : f v = g v + 1) (h : ∀ i, i ≠ v → f i = g i) : ∀ {n : Nat}, v < n → sm n f = sm n g + 1
  | 0, hn => by omega
  | n + 1, hn => by
    rw [sm, sm]
    by_cases q : v = n
    · subst q
      rw [sm_congr (n := v) (fun i hi => h i (by omega)), hv]
      omega
    · rw [sm_one hv h (n := n) (by omega), h n (by omega)]
      omega
theorem fl_p {O : Nat → Nat → Bool} {u v : Nat} (huv : u ≠ v) (hu : u < 22) (hv : v < 22) (h1 : O u v = true) (h2 : O v u = false) (w : Nat) : deO (fl O u v) w + (if w = u then 1 else 0) = deO O w + (if w = v then 1 else 0) := by
  unfold deO
  by_cases q : w = u
  · subst q
    rw [if_pos rfl, if_neg huv]
    have := sm_one (f := fun b => (O w b).toNat) (g := fun b => (fl O w v w b).toNat) (v := v) (by
      unfold fl
      rw [if_pos ⟨rfl, rfl⟩, h1]; rfl) (fun i hi => by
      unfold fl
      rw [if_neg (fun z => hi z.2), if_neg (fun z => huv z.1)]) hv
    omega
  · rw [if_neg q]
    by_cases q2 : w = v
    · subst q2
      rw [if_pos rfl]
      have := sm_one (f := fun b => (fl O u w w b).toNat) (g := fun b => (O w b).toNat) (v := u) (by
        unfold fl
        rw [if_neg (fun z => q z.1), if_pos ⟨rfl, rfl⟩, h2]; rfl) (fun i hi => by
        unfold fl
        rw [if_neg (fun z => q z.1), if_neg (fun z => hi z.2)]) hu
      omega
    · rw [if_neg q2]
      congr 1
      refine sm_congr fun b _ => ?_
      unfold fl
      rw [if_neg (fun z => q z.1), if_neg (fun z => q2 z.1)]
def aug (O : Nat → Nat → Bool) (h : Nat → Nat) : Nat → Nat → Nat → Bool
  | 0 => O
  | j + 1 => fl (aug O h j) (h (j + 1)) (h j)
theorem aug_no {O : Nat → Nat → Bool} {h : Nat → Nat} {a b : Nat} : ∀ j, (∀ i, i < j → ¬ (a = h (i + 1) ∧ b = h i)) → (∀ i, i < j → ¬ (a = h i ∧ b = h (i + 1))) → aug O h j a b = O a b
  | 0, _, _ => rfl
  | j + 1, h1, h2 => by
    rw [aug]
    unfold fl
    rw [if_neg (h1 j (by omega)), if_neg (h2 j (by omega))]
    exact aug_no j (fun i hi => h1 i (by omega)) (fun i hi => h2 i (by omega))
/-- a way, told from its end on -/
def Way (O : Nat → Nat → Bool) (h : Nat → Nat) (m : Nat) : Prop := (∀ i, i ≤ m → h i < 22) ∧ (∀ i j, i ≤ m → j ≤ m → h i = h j → i = j) ∧ ∀ i, i < m → O (h (i + 1)) (h i) = true
theorem aug_open {O : Nat → Nat → Bool} {h : Nat → Nat} {m j : Nat} (hw : Way O h m) (hj : j < m) : aug O h j (h (j + 1)) (h j) = true := by
  rw [aug_no j (fun i hi z => by have := hw.2.1 _ _ (by omega) (by omega) z.1; omega) (fun i hi z => by have := hw.2.1 _ _ (by omega) (by omega) z.1; omega)]
  exact hw.2.2 j hj
theorem aug_f {O : Nat → Nat → Bool} {h : Nat → Nat} {m i : Nat} (hw : Way O h m) : ∀ j, i < j → j ≤ m → aug O h j (h (i + 1)) (h i) = false
  | 0, h1, _ => by omega
  | j + 1, h1, h2 => by
    rw [aug]
    unfold fl
    by_cases q : i = j
    · subst q; rw [if_pos ⟨rfl, rfl⟩]
    · rw [if_neg (fun z => q (hw.2.1 _ _ (by omega) (by omega) z.2)), if_neg (fun z => by have := hw.2.1 _ _ (by omega) (by omega) z.2; omega)]
      exact aug_f hw j (by omega) (by omega)
theorem aug_t {O : Nat → Nat → Bool} {h : Nat → Nat} {m i : Nat} (hw : Way O h m) : ∀ j, i < j → j ≤ m → aug O h j (h i) (h (i + 1)) = true
  | 0, h1, _ => by omega
  | j + 1, h1, h2 => by
    rw [aug]
    unfold fl
    by_cases q : i = j
    · subst q
      rw [if_neg (fun z => by have := hw.2.1 _ _ (by omega) (by omega) z.1; omega), if_pos ⟨rfl, rfl⟩]
    · rw [if_neg (fun z => by have := hw.2.1 _ _ (by omega) (by omega) z.1; have := hw.2.1 _ _ (by omega) (by omega) z.2; omega), if_neg (fun z => q (hw.2.1 _ _ (by omega) (by omega) z.1))]
      exact aug_t hw j (by omega) (by omega)
theorem aug_FS {B O : Nat → Nat → Bool} {k : Nat} {h : Nat → Nat} {m : Nat} (hF : FS B O k) (hw : Way O h m) : ∀ j, j ≤ m → (∀ u v, u < 22 → v < 22 → (aug O h j u v).toNat + (aug O h j v u).toNat = (B u v).toNat + (B v u).toNat) ∧ (∀ u v, ¬ (aug O h j u v = true ∧ aug O h j v u = true)) ∧ ∀ w, deO (aug O h j) w + (if w = h j then 1 else 0) = deO O w + (if w = h 0 then 1 else 0)
  | 0, _ => ⟨hF.1, hF.2.1, fun w => rfl⟩
  | j + 1, hj => by
    obtain ⟨h1, h2, h3⟩ := aug_FS hF hw j (by omega)
    have ho := aug_open hw (j := j) (by omega)
    have hno : aug O h j (h j) (h (j + 1)) = false := by
      cases q : aug O h j (h j) (h (j + 1))
      · rfl
      · exact absurd ⟨ho, q⟩ (h2 _ _)
    have hne : h (j + 1) ≠ h j := fun z => by have := hw.2.1 _ _ (by omega) (by omega) z; omega
    refine ⟨fun u v hu hv => ?_, fun u v => ?_, fun w => ?_⟩
    · rw [← h1 u v hu hv, aug]
      unfold fl
      by_cases a1 : u = h (j + 1) ∧ v = h j
      · obtain ⟨rfl, rfl⟩ := a1
        rw [if_pos ⟨rfl, rfl⟩, if_neg (fun z => hne z.2), if_pos ⟨rfl, rfl⟩, ho, hno]; rfl
      · by_cases a2 : u = h j ∧ v = h (j + 1)
        · obtain ⟨rfl, rfl⟩ := a2
          rw [if_neg (fun z => hne z.2), if_pos ⟨rfl, rfl⟩, if_pos ⟨rfl, rfl⟩, ho, hno]; rfl
        · rw [if_neg a1, if_neg a2, if_neg (fun z => a2 ⟨z.2, z.1⟩), if_neg (fun z => a1 ⟨z.2, z.1⟩)]
    · rw [aug]
      unfold fl
      by_cases a1 : u = h (j + 1) ∧ v = h j
      · rw [if_pos a1]; exact fun z => absurd z.1 (by decide)
      · by_cases a2 : u = h j ∧ v = h (j + 1)
        · rw [if_pos (⟨a2.2, a2.1⟩ : v = h (j + 1) ∧ u = h j)]; exact fun z => absurd z.2 (by decide)
        · rw [if_neg a1, if_neg a2, if_neg (fun z => a2 ⟨z.2, z.1⟩), if_neg (fun z => a1 ⟨z.2, z.1⟩)]
          exact h2 u v
    · have h4 := fl_p hne (hw.1 _ (by omega)) (hw.1 _ (by omega)) ho hno w
      have h5 := h3 w
      rw [aug]
      omega
theorem FS_aug {B O : Nat → Nat → Bool} {k : Nat} {h : Nat → Nat} {m : Nat} (hF : FS B O k) (hw : Way O h m) (h0 : h 0 = 21) (hm : h m = 20) : FS B (aug O h m) (k + 1) := by
  obtain ⟨h1, h2, h3⟩ := aug_FS hF hw m (Nat.le_refl m)
  refine ⟨h1, h2, fun w hw' => ?_, ?_⟩
  · have := h3 w
    rw [h0, hm, if_neg (by omega), if_neg (by omega)] at this
    rw [← hF.2.2.1 w hw']
    omega
  · have := h3 20
    rw [h0, hm, if_pos rfl, if_neg (by omega)] at this
    have := hF.2.2.2
    omega
/-! the arcs of a net: enter i is i, leave i is 10 + i, the start is 20, the end 21 -/
def Bn (r : Nat → Nat) (n fr to u v : Nat) : Bool := if u = 20 then decide (v < 10) && fr.testBit v else if u < 10 then decide (u < n) && decide (v = 10 + u) else if u < 20 then decide (u - 10 < n) && ((decide (v < 10) && (r (u - 10)).testBit v) || (decide (v = 21) && to.testBit (u - 10))) else false
theorem Bn_S (r : Nat → Nat) (n fr to v : Nat) : Bn r n fr to 20 v = (decide (v < 10) && fr.testBit v) := rfl
theorem Bn_e {r : Nat → Nat} {n fr to i : Nat} (hi : i < n) (hn : n ≤ 10) (v : Nat) : Bn r n fr to i v = decide (v = 10 + i) := by
  unfold Bn
  rw [if_neg (by omega), if_pos (by omega), decide_eq_true hi, Bool.true_and]
theorem Bn_l {r : Nat → Nat} {n fr to i : Nat} (hi : i < n) (hn : n ≤ 10) (v : Nat) : Bn r n fr to (10 + i) v = ((decide (v < 10) && (r i).testBit v) || (decide (v = 21) && to.testBit i)) := by
  unfold Bn
  rw [if_neg (by omega), if_neg (by omega), if_pos (by omega), show 10 + i - 10 = i by omega, decide_eq_true hi, Bool.true_and]
theorem Bn_T (r : Nat → Nat) (n fr to v : Nat) : Bn r n fr to 21 v = false := rfl
theorem Bn_x {r : Nat → Nat} {n fr to u : Nat} (hu : u < 20) (hu2 : n ≤ u) (hu3 : u < 10 ∨ 10 + n ≤ u) (v : Nat) : Bn r n fr to u v = false := by
  unfold Bn
  rw [if_neg (by omega)]
  rcases hu3 with q | q
  · rw [if_pos q, decide_eq_false (by omega), Bool.false_and]
  · by_cases q2 : u < 10
    · rw [if_pos q2, decide_eq_false (by omega), Bool.false_and]
    · rw [if_neg q2, if_pos hu, decide_eq_false (by omega), Bool.false_and]
theorem FS_le {r : Nat → Nat} {n fr to k : Nat} {O : Nat → Nat → Bool} (hn : n ≤ 10) (h : FS (Bn r n fr to) O k) : k ≤ n := by
  have h1 := FS_out h (c := fun u => decide (u = 20) || decide (u < 10)) (by decide) (by decide)
  have h2 : outC (fun u => decide (u = 20) || decide (u < 10)) (Bn r n fr to) ≤ sm 22 (fun u => (decide (u < n)).toNat) := by
    unfold outC
    refine sm_mono fun u hu => ?_
    by_cases q : u < n
    · have e : sm 22 (fun v => ((decide (u = 20) || decide (u < 10)) && !(decide (v = 20) || decide (v < 10)) && Bn r n fr to u v).toNat) ≤ sm 22 (fun v => (decide (v = 10 + u)).toNat) := by
        refine sm_mono fun v _ => ?_
        rw [Bn_e q hn]
        cases decide (v = 10 + u)
        · rw [Bool.and_false]; exact Nat.le_refl 0
        · exact toNat_le _
      have e2 : ∀ u, u < 10 → sm 22 (fun v => (decide (v = 10 + u)).toNat) = 1 := by decide +kernel
      rw [e2 u (by omega)] at e
      rw [decide_eq_true q]
      exact e
    · have e : sm 22 (fun v => ((decide (u = 20) || decide (u < 10)) && !(decide (v = 20) || decide (v < 10)) && Bn r n fr to u v).toNat) = sm 22 (fun _ => 0) := by
        refine sm_congr fun v _ => ?_
        by_cases q2 : u = 20
        · subst q2
          rw [Bn_S]
          by_cases q3 : v < 10
          · rw [decide_eq_true q3, Bool.or_true, Bool.not_true, Bool.and_false, Bool.false_and]; rfl
          · rw [decide_eq_false q3, Bool.false_and, Bool.and_false]; rfl
        · by_cases q3 : u < 10
          · rw [Bn_x (by omega) (by omega) (Or.inl q3), Bool.and_false]; rfl
          · rw [decide_eq_false q2, decide_eq_false q3]; rfl
      rw [e, sm_zero]
      exact Nat.zero_le _
  have h3 : ∀ n, n < 11 → sm 22 (fun u => (decide (u < n)).toNat) = n := by decide +kernel
  rw [h3 n (by omega)] at h2
  omega
