/-! what an open arc is -/
theorem sm_none {f : Nat → Bool} : ∀ {n : Nat}, sm n (fun v => (f v).toNat) = 0 → ∀ v, v < n → f v = false
  | 0, _, v, hv => by omega
  | n + 1, h, v, hv => by
    rw [sm] at h
    by_cases q : v = n
    · rw [q]
      cases hf : f n
      · rfl
      · rw [hf] at h
        have : true.toNat = 1 := rfl
        omega
    · exact sm_none (n := n) (by omega) v (by omega)
theorem sm_uni {f : Nat → Bool} : ∀ {n : Nat}, sm n (fun v => (f v).toNat) = 1 → (∃ v, v < n ∧ f v = true) ∧ ∀ v v', v < n → v' < n → f v = true → f v' = true → v = v'
  | 0, h => by rw [sm] at h; omega
  | n + 1, h => by
    rw [sm] at h
    cases hf : f n
    · have e : false.toNat = 0 := rfl
      rw [hf, e] at h
      obtain ⟨⟨v, h1, h2⟩, h3⟩ := sm_uni (n := n) (by omega)
      refine ⟨⟨v, by omega, h2⟩, fun a b ha hb fa fb => ?_⟩
      have qa : a ≠ n := fun z => by rw [z, hf] at fa; exact absurd fa (by decide)
      have qb : b ≠ n := fun z => by rw [z, hf] at fb; exact absurd fb (by decide)
      exact h3 a b (by omega) (by omega) fa fb
    · have e : true.toNat = 1 := rfl
      rw [hf, e] at h
      have h0 := sm_none (f := f) (n := n) (by omega)
      refine ⟨⟨n, by omega, hf⟩, fun a b ha hb fa fb => ?_⟩
      have qa : ¬ a < n := fun z => by rw [h0 a z] at fa; exact absurd fa (by decide)
      have qb : ¬ b < n := fun z => by rw [h0 b z] at fb; exact absurd fb (by decide)
      omega
theorem FS_arc {B O : Nat → Nat → Bool} {k u v : Nat} (h : FS B O k) (hu : u < 22) (hv : v < 22) (ho : O u v = true) : B u v = true ∨ B v u = true := by
  have := h.1 u v hu hv
  rw [ho] at this
  cases h1 : B u v
  · cases h2 : B v u
    · rw [h1, h2] at this
      have e1 : true.toNat = 1 := rfl
      have e2 : false.toNat = 0 := rfl
      omega
    · exact Or.inr rfl
  · exact Or.inl rfl
theorem FS_or {B O : Nat → Nat → Bool} {k u v : Nat} (h : FS B O k) (hu : u < 22) (hv : v < 22) (hb : B u v = true) : O u v = true ∨ O v u = true := by
  have := h.1 u v hu hv
  rw [hb] at this
  cases h1 : O u v
  · cases h2 : O v u
    · rw [h1, h2] at this
      have e1 : true.toNat = 1 := rfl
      have e2 : false.toNat = 0 := rfl
      omega
    · exact Or.inr rfl
  · exact Or.inl rfl
theorem one_e : ∀ u, u < 10 → sm 22 (fun v => (decide (v = 10 + u)).toNat) = 1 := by decide +kernel
theorem one_l : ∀ u, u < 10 → sm 22 (fun v => (decide (v = u)).toNat) = 1 := by decide +kernel
theorem out_e {r : Nat → Nat} {n fr to k i : Nat} {O : Nat → Nat → Bool} (h : FS (Bn r n fr to) O k) (hn : n ≤ 10) (hi : i < n) : (∃ v, v < 22 ∧ O i v = true) ∧ ∀ v v', v < 22 → v' < 22 → O i v = true → O i v' = true → v = v' := by
  have h1 := h.2.2.1 i (by omega)
  have h2 : deO (Bn r n fr to) i = 1 := by
    unfold deO
    rw [sm_congr (n := 22) (g := fun v => (decide (v = 10 + i)).toNat) (fun v _ => by rw [Bn_e hi hn])]
    exact one_e i (by omega)
  rw [h2] at h1
  exact sm_uni h1
theorem in_l {r : Nat → Nat} {n fr to k i : Nat} {O : Nat → Nat → Bool} (h : FS (Bn r n fr to) O k) (hn : n ≤ 10) (hi : i < n) : ∀ v v', v < 22 → v' < 22 → O v (10 + i) = true → O v' (10 + i) = true → v = v' := by
  have hB : ∀ v, v < 22 → Bn r n fr to v (10 + i) = decide (v = i) := by
    intro v hv
    by_cases q0 : v = 20
    · subst q0
      rw [Bn_S, decide_eq_false (by omega), Bool.false_and, decide_eq_false (by omega)]
    · by_cases q1 : v < 10
      · by_cases q2 : v < n
        · rw [Bn_e q2 hn]
          exact decide_eq_decide.mpr (by omega)
        · rw [Bn_x (by omega) (by omega) (Or.inl q1), decide_eq_false (by omega)]
      · unfold Bn
        rw [if_neg q0, if_neg q1]
        by_cases q2 : v < 20
        · rw [if_pos q2, decide_eq_false (show ¬ 10 + i < 10 by omega), decide_eq_false (show ¬ 10 + i = 21 by omega), Bool.false_and, Bool.false_and, Bool.or_false, Bool.and_false, decide_eq_false (by omega)]
        · rw [if_neg q2, decide_eq_false (by omega)]
  have h1 : sm 22 (fun v => (O (10 + i) v).toNat) + sm 22 (fun v => (O v (10 + i)).toNat) = sm 22 (fun v => (Bn r n fr to (10 + i) v).toNat) + sm 22 (fun v => (Bn r n fr to v (10 + i)).toNat) := by
    rw [← sm_add, ← sm_add]
    exact sm_congr fun v hv => h.1 (10 + i) v (by omega) hv
  have h2 := h.2.2.1 (10 + i) (by omega)
  unfold deO at h2
  have h3 : sm 22 (fun v => (Bn r n fr to v (10 + i)).toNat) = 1 := by
    rw [sm_congr (n := 22) (g := fun v => (decide (v = i)).toNat) (fun v hv => by rw [hB v hv])]
    exact one_l i (by omega)
  have h4 : sm 22 (fun v => (O v (10 + i)).toNat) = 1 := by omega
  exact (sm_uni h4).2
/-- the ends of an open arc -/
theorem arc_e {r : Nat → Nat} {n fr to k i v : Nat} {O : Nat → Nat → Bool} (h : FS (Bn r n fr to) O k) (hg : Gr n r) (hi : i < n) (hv : v < 22) (ho : O i v = true) : v = 10 + i ∨ v = 20 ∨ ∃ u, u < n ∧ u ≠ i ∧ v = 10 + u := by
  have hn := hg.2.1
  rcases FS_arc h (by omega) hv ho with q | q
  · rw [Bn_e hi hn, decide_eq_true_iff] at q
    exact Or.inl q
  · by_cases q0 : v = 20
    · exact Or.inr (Or.inl q0)
    · by_cases q1 : v < 10
      · by_cases q2 : v < n
        · rw [Bn_e q2 hn, decide_eq_true_iff] at q; omega
        · rw [Bn_x (by omega) (by omega) (Or.inl q1)] at q; exact absurd q (by decide)
      · by_cases q2 : v < 10 + n
        · obtain ⟨u, rfl⟩ : ∃ u, v = 10 + u := ⟨v - 10, by omega⟩
          right; right
          refine ⟨u, by omega, fun z => ?_, rfl⟩
          rw [z] at q
          rw [Bn_l hi hn, hg.2.2.2.2.2, Bool.and_false, Bool.false_or, decide_eq_false (by omega), Bool.false_and] at q
          exact absurd q (by decide)
        · by_cases q3 : v < 20
          · rw [Bn_x q3 (by omega) (Or.inr (by omega))] at q; exact absurd q (by decide)
          · rw [show v = 21 by omega, Bn_T] at q; exact absurd q (by decide)
theorem arc_l {r : Nat → Nat} {n fr to k i v : Nat} {O : Nat → Nat → Bool} (h : FS (Bn r n fr to) O k) (hg : Gr n r) (hi : i < n) (hv : v < 22) (ho : O (10 + i) v = true) : v = i ∨ (v = 21 ∧ to.testBit i = true) ∨ (v < n ∧ v ≠ i ∧ (r i).testBit v = true) := by
  have hn := hg.2.1
  rcases FS_arc h (by omega) hv ho with q | q
  · rw [Bn_l hi hn, Bool.or_eq_true, Bool.and_eq_true, Bool.and_eq_true, decide_eq_true_iff, decide_eq_true_iff] at q
    rcases q with ⟨q1, q2⟩ | ⟨q1, q2⟩
    · right; right
      refine ⟨bit_lt (hg.2.2.1 i hi) q2, fun z => ?_, q2⟩
      rw [z, hg.2.2.2.2.2] at q2; exact absurd q2 (by decide)
    · exact Or.inr (Or.inl ⟨q1, q2⟩)
  · by_cases q0 : v = 20
    · subst q0
      rw [Bn_S, decide_eq_false (by omega), Bool.false_and] at q; exact absurd q (by decide)
    · by_cases q1 : v < 10
      · by_cases q2 : v < n
        · rw [Bn_e q2 hn, decide_eq_true_iff] at q
          left; omega
        · rw [Bn_x (by omega) (by omega) (Or.inl q1)] at q; exact absurd q (by decide)
      · unfold Bn at q
        rw [if_neg q0, if_neg q1] at q
        by_cases q2 : v < 20
        · rw [if_pos q2, decide_eq_false (show ¬ 10 + i < 10 by omega), decide_eq_false (show ¬ 10 + i = 21 by omega), Bool.false_and, Bool.false_and, Bool.or_false, Bool.and_false] at q; exact absurd q (by decide)
        · rw [if_neg q2] at q; exact absurd q (by decide)
theorem arc_S {r : Nat → Nat} {n fr to k i : Nat} {O : Nat → Nat → Bool} (h : FS (Bn r n fr to) O k) (hn : n ≤ 10) (hi : i < n) : O 20 i = (fr.testBit i && !O i 20) := by
  have h1 := h.1 20 i (by omega) (by omega)
  rw [Bn_S, Bn_e hi hn, decide_eq_true (show i < 10 by omega), decide_eq_false (show ¬ 20 = 10 + i by omega), Bool.true_and] at h1
  revert h1
  cases O 20 i <;> cases O i 20 <;> cases fr.testBit i <;> decide
theorem arc_T {r : Nat → Nat} {n fr to k i : Nat} {O : Nat → Nat → Bool} (h : FS (Bn r n fr to) O k) (hn : n ≤ 10) (hi : i < n) : O (10 + i) 21 = (to.testBit i && !O 21 (10 + i)) := by
  have h1 := h.1 (10 + i) 21 (by omega) (by omega)
  rw [Bn_l hi hn, Bn_T, decide_eq_false (show ¬ 21 < 10 by omega), Bool.false_and, Bool.false_or, decide_eq_true rfl, Bool.true_and] at h1
  revert h1
  cases O (10 + i) 21 <;> cases O 21 (10 + i) <;> cases to.testBit i <;> decide
theorem arc_in {r : Nat → Nat} {n fr to k i : Nat} {O : Nat → Nat → Bool} (h : FS (Bn r n fr to) O k) (hn : n ≤ 10) (hi : i < n) : O (10 + i) i = !O i (10 + i) := by
  have h2 := FS_or h (u := i) (v := 10 + i) (by omega) (by omega) (by rw [Bn_e hi hn, decide_eq_true rfl])
  have h3 := h.2.1 i (10 + i)
  revert h2 h3
  cases O (10 + i) i <;> cases O i (10 + i) <;> simp
theorem arc_line {r : Nat → Nat} {n fr to k i j : Nat} {O : Nat → Nat → Bool} (h : FS (Bn r n fr to) O k) (hn : n ≤ 10) (hi : i < n) (hj : j < n) (hb : (r i).testBit j = true) : O (10 + i) j = !O j (10 + i) := by
  have h2 := FS_or h (u := 10 + i) (v := j) (by omega) (by omega) (by rw [Bn_l hi hn, hb, decide_eq_true (show j < 10 by omega)]; rfl)
  have h3 := h.2.1 j (10 + i)
  revert h2 h3
  cases O (10 + i) j <;> cases O j (10 + i) <;> simp
/-! the reference's ways as open arcs -/
def RM (n : Nat) (O : Nat → Nat → Bool) (oT cF : Nat → Int32) (bg ed : Nat) : Prop :=
  bg < 2 ^ n ∧ ed < 2 ^ n ∧ (∀ i, i < n → bg.testBit i = O i 20 ∧ ed.testBit i = O 21 (10 + i)) ∧ (∀ i, i < n → (oT i = -1 ∨ ∃ j, j < n ∧ j ≠ i ∧ oT i = nI j) ∧ (cF i = -1 ∨ ∃ j, j < n ∧ j ≠ i ∧ cF i = nI j)) ∧ ∀ i j, i < n → j < n → j ≠ i → (oT i = nI j ↔ O j (10 + i) = true) ∧ (cF j = nI i ↔ O j (10 + i) = true)
theorem s_isUsed {r : Nat → Nat} {n fr to k i bg ed : Nat} {O : Nat → Nat → Bool} {oT cF : Nat → Int32} (h : FS (Bn r n fr to) O k) (hg : Gr n r) (hR : RM n O oT cF bg ed) (hi : i < n) : s_X6_isUsed cF (nI bg) (nI i) = some (b2i (O (10 + i) i)) ∧ (O (10 + i) i = true → bg.testBit i = false → ∃ u, u < n ∧ u ≠ i ∧ cF i = nI u) := by
  have hn := hg.2.1
  have h31 : 2 ^ n ≤ 2 ^ 10 := Nat.pow_le_pow_right (by omega) hn
  obtain ⟨r1, r2, r3, r4, r5⟩ := hR
  obtain ⟨e1, e2⟩ := out_e h hn hi
  have hin := arc_in h hn hi
  have hex : O (10 + i) i = true → bg.testBit i = false → ∃ u, u < n ∧ u ≠ i ∧ cF i = nI u := by
    intro ho hb
    obtain ⟨v, v1, v2⟩ := e1
    rcases arc_e h hg hi v1 v2 with q | q | ⟨u, q1, q2, q3⟩
    · rw [q] at v2
      exact absurd ⟨v2, ho⟩ (h.2.1 i (10 + i))
    · rw [q, ← (r3 i hi).1, hb] at v2; exact absurd v2 (by decide)
    · rw [q3] at v2
      exact ⟨u, q1, q2, ((r5 u i q1 hi (fun z => q2 z.symm)).2).mpr v2⟩
  refine ⟨?_, hex⟩
  unfold s_X6_isUsed
  by_cases q : bg.testBit i = true
  · rw [if_pos ((nI_bit (by omega) (by omega)).mpr q)]
    have h20 : O i 20 = true := by rw [← (r3 i hi).1]; exact q
    have : O i (10 + i) = false := by
      cases z : O i (10 + i)
      · rfl
      · have := e2 _ _ (by omega) (by omega) h20 z; omega
    rw [hin, this]; rfl
  · rw [if_neg (fun z => q ((nI_bit (by omega) (by omega)).mp z)), chk_in (vp_in_nI (by omega) (by omega)), nI_clamp (by omega)]
    rcases (r4 i hi).2 with c | ⟨u, c1, c2, c3⟩
    · rw [c, if_pos m1_lt]
      have : O (10 + i) i = false := by
        cases z : O (10 + i) i
        · rfl
        · obtain ⟨u, u1, u2, u3⟩ := hex z (Bool.eq_false_iff.mpr q)
          rw [c] at u3
          exact absurd u3.symm (nI_ne_m1 (by omega))
      rw [this]; rfl
    · rw [c3, if_neg (nI_pos (by omega))]
      have hu : O i (10 + u) = true := ((r5 u i c1 hi (fun z => c2 z.symm)).2).mp c3
      have : O i (10 + i) = false := by
        cases z : O i (10 + i)
        · rfl
        · have := e2 _ _ (by omega) (by omega) hu z; omega
      rw [hin, this]; rfl
/-! the reference's search -/
def nd (x : Nat) : Nat := if x % 2 = 0 then x / 2 else 10 + x / 2
theorem nd_e (i : Nat) : nd (2 * i) = i := by
  unfold nd
  rw [if_pos (by omega)]; omega
theorem nd_l (i : Nat) : nd (2 * i + 1) = 10 + i := by
  unfold nd
  rw [if_neg (by omega)]; omega
theorem nd_or (x : Nat) : (∃ i, x = 2 * i) ∨ ∃ i, x = 2 * i + 1 := by
  rcases Nat.mod_two_eq_zero_or_one x with q | q
  · exact Or.inl ⟨x / 2, by omega⟩
  · exact Or.inr ⟨x / 2, by omega⟩
theorem nd_inj {x y : Nat} (hx : x < 20) (hy : y < 20) (h : nd x = nd y) : x = y := by
  rcases nd_or x with ⟨i, rfl⟩ | ⟨i, rfl⟩ <;> rcases nd_or y with ⟨j, rfl⟩ | ⟨j, rfl⟩ <;> simp only [nd_e, nd_l] at h <;> omega
theorem nd_lt {x : Nat} (hx : x < 20) : nd x < 20 := by
  rcases nd_or x with ⟨i, rfl⟩ | ⟨i, rfl⟩
  · rw [nd_e]; omega
  · rw [nd_l]; omega
def RI (n : Nat) (O : Nat → Nat → Bool) (Q : Nat → Nat) (w nx : Nat) (sF qu : Nat → Int32) (seen : Nat) : Prop :=
  (∀ k, k < w → Q k < 2 * n ∧ qu k = nI (Q k)) ∧ (∀ k k', k < w → k' < w → Q k = Q k' → k = k') ∧ (∀ x, x < 20 → (sF x = -2 ↔ seen.testBit x = false)) ∧ (∀ x, seen.testBit x = true ↔ ∃ k, k < w ∧ Q k = x) ∧ (∀ k, k < w → (sF (Q k) = -1 ∧ O 20 (nd (Q k)) = true) ∨ ∃ k', k' < k ∧ sF (Q k) = nI (Q k') ∧ O (nd (Q k')) (nd (Q k)) = true) ∧ popA seen 20 = w ∧ nx ≤ w ∧ (∀ k, k < nx → ∀ y, y < 20 → O (nd (Q k)) (nd y) = true → seen.testBit y = true) ∧ ∀ k, k < nx → O (nd (Q k)) 21 = false
theorem nI_ne_m2 {a : Nat} (h : a < 2 ^ 31) : ¬ nI a = -2 := by
  intro q
  have h1 := nI_toInt h
  rw [q] at h1
  have h2 : (-2 : Int32).toInt = -2 := by decide
  omega
theorem s_see {n w nx seen x : Nat} {O : Nat → Nat → Bool} {Q : Nat → Nat} {sF qu : Nat → Int32} {f : Int32} (hn : n ≤ 10) (h : RI n O Q w nx sF qu seen) (hx : x < 2 * n) (hf : (f = -1 ∧ O 20 (nd x) = true) ∨ ∃ k', k' < w ∧ f = nI (Q k') ∧ O (nd (Q k')) (nd x) = true) : ∃ Q' w' seen' sF' qu', s_X6_see sF qu (nI w) (nI x) f = some (sF', qu', nI w') ∧ RI n O Q' w' nx sF' qu' seen' ∧ w ≤ w' ∧ (∀ k, k < w → Q' k = Q k) ∧ seen'.testBit x = true ∧ subB seen seen' := by
  obtain ⟨h1, h2, h3, h4, h5, h6, h7, h8, h9⟩ := id h
  unfold s_X6_see
  rw [chk_in (vp_in_nI (by omega) (by omega)), chk_in (vp_in_nI (by omega) (by omega)), nI_clamp (show x < 2 ^ 31 by omega)]
  cases hs : seen.testBit x
  · have hp := pop_add (x := seen) (i := x) (m := 20) (by omega) hs
    have hple := popA_le (seen ||| 2 ^ x) 20
    rw [if_pos ((h3 x (by omega)).mpr hs), chk_in (vp_in_nI (show w < 20 by omega) (by omega)), nI_clamp (show w < 2 ^ 31 by omega), nI_1]
    have hQ : ∀ k, k < w → Q k ≠ x := by
      intro k hk z
      have := (h4 x).mpr ⟨k, hk, z⟩
      rw [hs] at this
      exact absurd this (by decide)
    have hfne : ¬ f = -2 := by
      rcases hf with ⟨c, -⟩ | ⟨k', c1, c2, -⟩
      · rw [c]; decide
      · rw [c2]; exact nI_ne_m2 (by have := (h1 k' c1).1; omega)
    refine ⟨fun k => if k = w then x else Q k, w + 1, seen ||| 2 ^ x, _, _, rfl, ⟨fun k hk => ?_, fun k k' g1 g2 g3 => ?_, fun y hy => ?_, fun y => ?_, fun k hk => ?_, by omega, by omega, fun k hk y hy g => ?_, fun k hk => ?_⟩, by omega, fun k hk => if_neg (by omega), ?_, fun b hb => ?_⟩
    · dsimp only
      by_cases q : k = w
      · rw [if_pos q, q, pk_us]; exact ⟨hx, rfl⟩
      · rw [if_neg q, pk_un q]; exact h1 k (by omega)
    · dsimp only at g3
      by_cases q : k = w
      · by_cases q' : k' = w
        · omega
        · rw [if_pos q, if_neg q'] at g3
          exact absurd g3.symm (hQ k' (by omega))
      · by_cases q' : k' = w
        · rw [if_neg q, if_pos q'] at g3
          exact absurd g3 (hQ k (by omega))
        · rw [if_neg q, if_neg q'] at g3
          exact h2 k k' (by omega) (by omega) g3
    · rw [Nat.testBit_or, Nat.testBit_two_pow]
      by_cases q : y = x
      · subst q
        rw [pk_us, decide_eq_true rfl, Bool.or_true]
        exact ⟨fun z => absurd z hfne, fun z => absurd z (by decide)⟩
      · rw [pk_un q, decide_eq_false (fun z => q z.symm), Bool.or_false]
        exact h3 y hy
    · rw [Nat.testBit_or, Bool.or_eq_true, h4, two_bit]
      constructor
      · rintro (⟨k, g1, g2⟩ | g)
        · exact ⟨k, by omega, by dsimp only; rw [if_neg (by omega)]; exact g2⟩
        · exact ⟨w, by omega, by dsimp only; rw [if_pos rfl]; exact g⟩
      · rintro ⟨k, g1, g2⟩
        dsimp only at g2
        by_cases q : k = w
        · rw [if_pos q] at g2; exact Or.inr g2
        · rw [if_neg q] at g2; exact Or.inl ⟨k, by omega, g2⟩
    · dsimp only
      by_cases q : k = w
      · rw [if_pos q, pk_us]
        rcases hf with c | ⟨k', c1, c2, c3⟩
        · exact Or.inl c
        · refine Or.inr ⟨k', by omega, ?_⟩
          rw [if_neg (by omega)]; exact ⟨c2, c3⟩
      · rw [if_neg q, pk_un (hQ k (by omega))]
        rcases h5 k (by omega) with c | ⟨k', c1, c2, c3⟩
        · exact Or.inl c
        · refine Or.inr ⟨k', c1, ?_⟩
          rw [if_neg (by omega)]; exact ⟨c2, c3⟩
    · dsimp only at g
      rw [if_neg (by omega)] at g
      rw [Nat.testBit_or, h8 k hk y hy g]; rfl
    · dsimp only
      rw [if_neg (by omega)]
      exact h9 k hk
    · rw [Nat.testBit_or, (two_bit x x).mpr rfl, Bool.or_true]
    · rw [Nat.testBit_or, hb]; rfl
  · rw [if_neg (fun z => by rw [(h3 x (by omega)).mp z] at hs; exact absurd hs (by decide))]
    exact ⟨Q, w, seen, sF, qu, rfl, h, Nat.le_refl w, fun _ _ => rfl, hs, fun _ hb => hb⟩
