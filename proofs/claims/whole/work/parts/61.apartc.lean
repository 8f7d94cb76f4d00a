/-! the class's search -/
def mkO (o : Nat → Nat) : Nat → Nat → Bool := fun u v => decide (u < 22) && (o u).testBit v
def OM (aO : Nat → Int32) (o : Nat → Nat) : Prop := ∀ u, u < 22 → aO u = nI (o u) ∧ o u < 2 ^ 22
theorem mO_lt {o : Nat → Nat} {aO : Nat → Int32} (h : OM aO o) {u v : Nat} (hb : mkO o u v = true) : u < 22 ∧ v < 22 ∧ (o u).testBit v = true := by
  unfold mkO at hb
  rw [Bool.and_eq_true, decide_eq_true_iff] at hb
  exact ⟨hb.1, bit_lt (h u hb.1).2 hb.2, hb.2⟩
def BI (O : Nat → Nat → Bool) (Q : Nat → Nat) (w nx seen : Nat) (aC aQ : Nat → Int32) : Prop :=
  1 ≤ w ∧ Q 0 = 20 ∧ (∀ k, k < w → Q k < 22 ∧ aQ k = nI (Q k)) ∧ (∀ k k', k < w → k' < w → Q k = Q k' → k = k') ∧ (∀ v, seen.testBit v = true ↔ ∃ k, k < w ∧ Q k = v) ∧ (∀ k, 1 ≤ k → k < w → ∃ k', k' < k ∧ aC (Q k) = nI (Q k') ∧ O (Q k') (Q k) = true) ∧ popA seen 22 = w ∧ seen < 2 ^ 22 ∧ ∀ k, k < nx → ∀ v, O (Q k) v = true → seen.testBit v = true
theorem pop_add {x i m : Nat} (hi : i < m) (h : x.testBit i = false) : popA (x ||| 2 ^ i) m = popA x m + 1 := by
  rw [popA_sm, popA_sm]
  refine sm_one (v := i) ?_ (fun j hj => ?_) hi
  · rw [Nat.testBit_or, h, Nat.testBit_two_pow, decide_eq_true rfl]; rfl
  · rw [Nat.testBit_or, Nat.testBit_two_pow, decide_eq_false (fun z => hj z.symm), Bool.or_false]
theorem BI_add {O : Nat → Nat → Bool} {Q : Nat → Nat} {w nx seen i kp : Nat} {aC aQ : Nat → Int32} (h : BI O Q w nx seen aC aQ) (hi : i < 22) (hs : seen.testBit i = false) (hk : kp < w) (hnw : nx ≤ w) (hO : O (Q kp) i = true) : w < 22 ∧ BI O (fun k => if k = w then i else Q k) (w + 1) nx (seen ||| 2 ^ i) (upd aC i (nI (Q kp))) (upd aQ w (nI i)) := by
  obtain ⟨h1, h2, h3, h4, h5, h6, h7, h8, h9⟩ := h
  have hp := pop_add hi hs
  have hple := popA_le (seen ||| 2 ^ i) 22
  have hQ : ∀ k, k < w → Q k ≠ i := by
    intro k hk z
    have := (h5 i).mpr ⟨k, hk, z⟩
    rw [hs] at this
    exact absurd this (by decide)
  refine ⟨by omega, by omega, ?_, fun k hk' => ?_, fun k k' g1 g2 g3 => ?_, fun v => ?_, fun k g1 g2 => ?_, by omega, Nat.or_lt_two_pow h8 (two_lt hi), fun k g1 v g2 => ?_⟩
  · dsimp only; rw [if_neg (by omega)]; exact h2
  · dsimp only
    by_cases q : k = w
    · rw [if_pos q]; exact ⟨hi, by rw [q, pk_us]⟩
    · rw [if_neg q, pk_un q]; exact h3 k (by omega)
  · dsimp only at g3
    by_cases q : k = w
    · by_cases q' : k' = w
      · omega
      · rw [if_pos q, if_neg q'] at g3
        exact absurd g3.symm (hQ k' (by omega))
    · by_cases q' : k' = w
      · rw [if_neg q, if_pos q'] at g3
        exact absurd g3 (hQ k (by omega))
      · rw [if_neg q, if_neg q'] at g3
        exact h4 k k' (by omega) (by omega) g3
  · rw [Nat.testBit_or, Bool.or_eq_true, h5, two_bit]
    constructor
    · rintro (⟨k, g1, g2⟩ | g)
      · exact ⟨k, by omega, by dsimp only; rw [if_neg (by omega)]; exact g2⟩
      · exact ⟨w, by omega, by dsimp only; rw [if_pos rfl]; exact g⟩
    · rintro ⟨k, g1, g2⟩
      dsimp only at g2
      by_cases q : k = w
      · rw [if_pos q] at g2; exact Or.inr g2
      · rw [if_neg q] at g2; exact Or.inl ⟨k, by omega, g2⟩
  · dsimp only
    by_cases q : k = w
    · refine ⟨kp, by omega, ?_⟩
      rw [if_pos q, pk_us, if_neg (by omega)]
      exact ⟨rfl, hO⟩
    · obtain ⟨k', c1, c2, c3⟩ := h6 k g1 (by omega)
      refine ⟨k', c1, ?_⟩
      rw [if_neg q, if_neg (by omega), pk_un (hQ k (by omega))]
      exact ⟨c2, c3⟩
  · dsimp only at g2
    rw [Nat.testBit_or, Bool.or_eq_true]
    left
    rw [if_neg (by omega)] at g2
    exact h9 k g1 v g2
def sn (seen fresh i : Nat) : Nat := seen ||| (fresh % 2 ^ i)
theorem sn_bit (seen fresh i v : Nat) : (sn seen fresh i).testBit v = (seen.testBit v || (decide (v < i) && fresh.testBit v)) := by
  unfold sn
  rw [Nat.testBit_or, Nat.testBit_mod_two_pow]
theorem fw_in {o : Nat → Nat} {aO : Nat → Int32} {Q : Nat → Nat} {w nx seen : Nat} {aC aQ : Nat → Int32} (hM : OM aO o) (hB : BI (mkO o) Q w nx seen aC aQ) (hnx : nx < w) : ∃ e, loop (b_X0_findWay_55 (nI (Q nx)) (nI (andn (o (Q nx)) seen))) (nI w, (0 : Int32), aC, aQ) = some e ∧ ∃ Q' w' aC' aQ', e = (nI w', aC', aQ') ∧ nx < w' ∧ BI (mkO o) Q' w' (nx + 1) (seen ||| andn (o (Q nx)) seen) aC' aQ' := by
  have hpl : Q nx < 22 := (hB.2.2.1 nx hnx).1
  have hol := (hM (Q nx) hpl).2
  have hfl : andn (o (Q nx)) seen < 2 ^ 22 := Nat.lt_of_le_of_lt (andn_le _ _) hol
  have hfb : ∀ v, (andn (o (Q nx)) seen).testBit v = ((o (Q nx)).testBit v && !seen.testBit v) := fun v => andn_bit _ _ (by omega)
  refine loop_cnt (f := b_X0_findWay_55 (nI (Q nx)) (nI (andn (o (Q nx)) seen))) (fun i x => ∃ Q' w' aC' aQ', x = (nI w', nI i, aC', aQ') ∧ nx < w' ∧ Q' nx = Q nx ∧ BI (mkO o) Q' w' nx (sn seen (andn (o (Q nx)) seen) i) aC' aQ') 22 _ ?_ ?_ 0 _ (by omega) ⟨Q, w, aC, aQ, rfl, hnx, rfl, by
    have : sn seen (andn (o (Q nx)) seen) 0 = seen := by
      unfold sn
      rw [Nat.pow_zero, Nat.mod_one, Nat.or_zero]
    rw [this]; exact hB⟩
  · rintro i x hi ⟨Q', w', aC', aQ', rfl, g1, g2, g3⟩
    unfold b_X0_findWay_55
    dsimp only
    rw [if_neg (by rw [show (22 : Int32) = nI 22 by decide]; exact nI_ge hi (by omega)), nI_1]
    by_cases q : (andn (o (Q nx)) seen).testBit i = true
    · have hq := q
      rw [hfb, Bool.and_eq_true, Bool.not_eq_true'] at hq
      have hs : (sn seen (andn (o (Q nx)) seen) i).testBit i = false := by
        rw [sn_bit, hq.2, decide_eq_false (by omega)]; rfl
      obtain ⟨c1, c2⟩ := BI_add g3 hi hs (kp := nx) g1 (by omega) (by
        unfold mkO
        rw [g2, decide_eq_true hpl, hq.1]; rfl)
      have hsn : sn seen (andn (o (Q nx)) seen) i ||| 2 ^ i = sn seen (andn (o (Q nx)) seen) (i + 1) := by
        apply Nat.eq_of_testBit_eq
        intro v
        rw [Nat.testBit_or, sn_bit, sn_bit, Nat.testBit_two_pow]
        by_cases e : i = v
        · subst e
          rw [q, decide_eq_true rfl, decide_eq_true (show i < i + 1 by omega)]
          simp
        · rw [decide_eq_false e, Bool.or_false, decide_eq_decide.mpr (show v < i ↔ v < i + 1 by omega)]
      rw [hsn, g2] at c2
      rw [if_pos ((nI_bit (by omega) (by omega)).mpr q), if_neg (by rw [show (22 : Int32) = nI 22 by decide]; exact nI_ge c1 (by omega)), chk_in (vp_in_nI (by omega) (by omega)), chk_in (vp_in_nI (by omega) (by omega)), nI_clamp (by omega), nI_clamp (by omega), nI_1]
      refine ⟨_, rfl, _, _, _, _, rfl, by omega, ?_, c2⟩
      rw [if_neg (by omega)]; exact g2
    · have hsn : sn seen (andn (o (Q nx)) seen) i = sn seen (andn (o (Q nx)) seen) (i + 1) := by
        apply Nat.eq_of_testBit_eq
        intro v
        rw [sn_bit, sn_bit]
        by_cases e : v = i
        · subst e
          rw [Bool.eq_false_iff.mpr q, Bool.and_false, Bool.and_false]
        · rw [decide_eq_decide.mpr (show v < i ↔ v < i + 1 by omega)]
      rw [if_neg (fun z => q ((nI_bit (by omega) (by omega)).mp z))]
      rw [hsn] at g3
      exact ⟨_, rfl, Q', w', aC', aQ', rfl, g1, g2, g3⟩
  · rintro x ⟨Q', w', aC', aQ', rfl, g1, g2, g3⟩
    have hsn : sn seen (andn (o (Q nx)) seen) 22 = seen ||| andn (o (Q nx)) seen := by
      unfold sn
      rw [Nat.mod_eq_of_lt hfl]
    rw [hsn] at g3
    unfold b_X0_findWay_55
    dsimp only
    rw [if_pos (by decide)]
    refine ⟨_, rfl, Q', w', aC', aQ', rfl, g1, ?_⟩
    obtain ⟨h1, h2, h3, h4, h5, h6, h7, h8, h9⟩ := g3
    refine ⟨h1, h2, h3, h4, h5, h6, h7, h8, fun k hk v hv => ?_⟩
    by_cases e : k = nx
    · subst e
      rw [g2] at hv
      unfold mkO at hv
      rw [Bool.and_eq_true] at hv
      rw [Nat.testBit_or, hfb, hv.2]
      cases seen.testBit v <;> rfl
    · exact h9 k (by omega) v hv
/-- what the search tells: either nothing beyond, or where each place was come from -/
def Tree (O : Nat → Nat → Bool) (Q : Nat → Nat) (w : Nat) (aC : Nat → Int32) : Prop := Q 0 = 20 ∧ w ≤ 22 ∧ (∀ k, k < w → Q k < 22) ∧ (∀ k k', k < w → k' < w → Q k = Q k' → k = k') ∧ ∀ k, 1 ≤ k → k < w → ∃ k', k' < k ∧ aC (Q k) = nI (Q k') ∧ O (Q k') (Q k) = true
theorem s_findWay {o : Nat → Nat} {aO : Nat → Int32} (hM : OM aO o) (aC aQ : Nat → Int32) : ∃ b aC' aQ', s_X0_findWay aO aC aQ = some (b, aC', aQ') ∧ ((b = 0 ∧ ∃ c : Nat → Bool, c 20 = true ∧ c 21 = false ∧ ∀ u v, u < 22 → v < 22 → c u = true → mkO o u v = true → c v = true) ∨ (b = 1 ∧ ∃ Q w kE, kE < w ∧ Q kE = 21 ∧ Tree (mkO o) Q w aC')) := by
  have := loop_spec (f := b_X0_findWay_15 aO) (fun x => ∃ Q w nx seen aC aQ, x = (nI seen, nI w, nI nx, aC, aQ) ∧ nx ≤ w ∧ BI (mkO o) Q w nx seen aC aQ) (fun x => 23 - x.2.2.1.toNatClampNeg) (fun e => ∃ Q w seen aC aQ, e = (nI seen, aC, aQ) ∧ BI (mkO o) Q w w seen aC aQ) (by
    rintro x ⟨Q, w, nx, seen, aC, aQ, rfl, hnw, hB⟩
    have hw22 : w ≤ 22 := by
      have h1 := hB.2.2.2.2.2.2.1
      have h2 := popA_le seen 22
      omega
    unfold b_X0_findWay_15 lt'
    dsimp only
    by_cases q : w ≤ nx
    · right
      rw [if_pos (nI_le q (by omega))]
      have e : nx = w := by omega
      subst e
      exact ⟨_, rfl, Q, nx, seen, aC, aQ, rfl, hB⟩
    · left
      obtain ⟨c1, c2⟩ := hB.2.2.1 nx (by omega)
      obtain ⟨e, e1, Q', w', aC', aQ', rfl, e2, e3⟩ := fw_in hM hB (by omega)
      have hs := hB.2.2.2.2.2.2.2.1
      rw [if_neg (nI_ge (by omega) (by omega)), if_neg (by rw [show (22 : Int32) = nI 22 by decide]; exact nI_ge (by omega) (by omega)), chk_in (vp_in_nI (by omega) (by omega)), nI_clamp (show nx < 2 ^ 31 by omega), c2, chk_in (vp_in_nI (by omega) (by omega)), nI_clamp (show Q nx < 2 ^ 31 by omega), (hM (Q nx) c1).1, nI_andn, e1]
      simp only [Option.bind_some]
      rw [nI_or, nI_1]
      refine ⟨_, rfl, ⟨Q', w', nx + 1, _, aC', aQ', rfl, by omega, e3⟩, ?_⟩
      dsimp only
      rw [nI_clamp (by omega)]
      omega) (nI (2 ^ 20), nI 1, nI 0, aC, upd aQ 0 (nI 20)) ⟨fun _ => 20, 1, 0, 2 ^ 20, aC, upd aQ 0 (nI 20), rfl, by omega, Nat.le_refl 1, rfl, fun k hk => ⟨by dsimp only; omega, by rw [show k = 0 by omega, pk_us]⟩, fun k k' _ _ _ => by omega, fun v => by
        rw [two_bit]
        exact ⟨fun z => ⟨0, by omega, z⟩, fun ⟨_, _, z⟩ => z⟩, fun k h1 h2 => by omega, by decide +kernel, by decide, fun k hk => by omega⟩
  obtain ⟨e, he, Q, w, seen, aC', aQ', rfl, hB⟩ := this
  have z0 : (0 : Int32).toNatClampNeg = 0 := by decide
  have hs := hB.2.2.2.2.2.2.2.1
  have hw22 : w ≤ 22 := by
    have h1 := hB.2.2.2.2.2.2.1
    have h2 := popA_le seen 22
    omega
  have hrun : s_X0_findWay aO aC aQ = if ((nI seen >>> ((21 : Int32) &&& 31)) &&& (1 : Int32)) = (1 : Int32) then some ((1 : Int32), aC', aQ') else some ((0 : Int32), aC', aQ') := by
    unfold s_X0_findWay
    have hck0 : vp_in (0 : Int32) 22 := vp_in_nI (n := 0) (by omega) (by omega)
    rw [chk_in hck0, z0]
    have he' : loop (b_X0_findWay_15 aO) ((1048576 : Int32), (1 : Int32), (0 : Int32), aC, upd aQ 0 (20 : Int32)) = some (nI seen, aC', aQ') := he
    rw [he']
    rfl
  have hbit := nI_bit (m := seen) (b := 21) (by omega) (by omega)
  have e21 : (21 : Int32) = nI 21 := by decide
  rw [hrun, e21]
  by_cases q : seen.testBit 21 = true
  · rw [if_pos (hbit.mpr q)]
    obtain ⟨kE, g1, g2⟩ := (hB.2.2.2.2.1 21).mp q
    exact ⟨_, _, _, rfl, Or.inr ⟨rfl, Q, w, kE, g1, g2, hB.2.1, hw22, fun k hk => (hB.2.2.1 k hk).1, hB.2.2.2.1, hB.2.2.2.2.2.1⟩⟩
  · rw [if_neg (fun z => q (hbit.mp z))]
    refine ⟨_, _, _, rfl, Or.inl ⟨rfl, fun v => seen.testBit v, ?_, Bool.eq_false_iff.mpr q, fun u v hu hv h1 h2 => ?_⟩⟩
    · exact (hB.2.2.2.2.1 20).mpr ⟨0, hB.1, hB.2.1⟩
    · obtain ⟨k, g1, rfl⟩ := (hB.2.2.2.2.1 u).mp h1
      exact hB.2.2.2.2.2.2.2.2 k g1 v h2
theorem way_ex {O : Nat → Nat → Bool} {Q : Nat → Nat} {w : Nat} {aC : Nat → Int32} (hT : Tree O Q w aC) : ∀ k, k < w → ∃ (m : Nat) (h : Nat → Nat), m ≤ k ∧ h 0 = Q k ∧ h m = 20 ∧ (∀ i, i ≤ m → ∃ k', k' ≤ k ∧ h i = Q k' ∧ (1 ≤ i → k' < k)) ∧ (∀ i, i < m → aC (h i) = nI (h (i + 1)) ∧ O (h (i + 1)) (h i) = true) ∧ ∀ i j, i ≤ m → j ≤ m → h i = h j → i = j := by
  intro k
  induction k using Nat.strongRecOn with
  | ind k ih =>
    intro hk
    by_cases q : k = 0
    · subst q
      exact ⟨0, fun _ => 20, Nat.le_refl 0, hT.1.symm, rfl, fun i hi => ⟨0, Nat.le_refl 0, hT.1.symm, fun z => by omega⟩, fun i hi => by omega, fun i j h1 h2 _ => by omega⟩
    · obtain ⟨k', c1, c2, c3⟩ := hT.2.2.2.2 k (by omega) hk
      obtain ⟨m, h, d1, d2, d3, d4, d5, d6⟩ := ih k' c1 (by omega)
      have hold : ∀ i, i ≤ m → h i ≠ Q k := by
        intro i hi z
        obtain ⟨k2, e1, e2, -⟩ := d4 i hi
        have := hT.2.2.2.1 k2 k (by omega) hk (by rw [← e2, z])
        omega
      refine ⟨m + 1, fun i => if i = 0 then Q k else h (i - 1), by omega, rfl, ?_, fun i hi => ?_, fun i hi => ?_, fun i j h1 h2 h3 => ?_⟩
      · show (if m + 1 = 0 then Q k else h (m + 1 - 1)) = 20
        rw [if_neg (by omega), show m + 1 - 1 = m by omega]; exact d3
      · by_cases e : i = 0
        · exact ⟨k, Nat.le_refl k, if_pos e, fun z => by omega⟩
        · obtain ⟨k2, e1, e2, -⟩ := d4 (i - 1) (by omega)
          exact ⟨k2, by omega, by dsimp only; rw [if_neg e]; exact e2, fun _ => by omega⟩
      · dsimp only
        rw [if_neg (show ¬ i + 1 = 0 by omega), show i + 1 - 1 = i by omega]
        by_cases e : i = 0
        · subst e
          rw [if_pos rfl, d2]
          exact ⟨c2, c3⟩
        · rw [if_neg e]
          have := d5 (i - 1) (by omega)
          rw [show i - 1 + 1 = i by omega] at this
          exact this
      · dsimp only at h3
        by_cases e : i = 0
        · by_cases e' : j = 0
          · omega
          · rw [if_pos e, if_neg e'] at h3
            exact absurd h3.symm (hold _ (by omega))
        · by_cases e' : j = 0
          · rw [if_neg e, if_pos e'] at h3
            exact absurd h3 (hold _ (by omega))
          · rw [if_neg e, if_neg e'] at h3
            have := d6 _ _ (by omega) (by omega) h3
            omega
theorem s_takeWay {o : Nat → Nat} {aO aC : Nat → Int32} {Q : Nat → Nat} {w kE : Nat} (hM : OM aO o) (hT : Tree (mkO o) Q w aC) (hk : kE < w) (hE : Q kE = 21) : ∃ (aO' : Nat → Int32) (o' h : Nat → Nat) (m : Nat), s_X0_takeWay aO aC = some aO' ∧ OM aO' o' ∧ Way (mkO o) h m ∧ h 0 = 21 ∧ h m = 20 ∧ mkO o' = aug (mkO o) h m := by
  obtain ⟨m, h, d1, d2, d3, d4, d5, d6⟩ := way_ex hT kE hk
  have hlt : ∀ i, i ≤ m → h i < 22 := by
    intro i hi
    obtain ⟨k', e1, e2, -⟩ := d4 i hi
    rw [e2]; exact hT.2.2.1 k' (by omega)
  have hw22 := hT.2.1
  have hway : Way (mkO o) h m := ⟨hlt, d6, fun i hi => (d5 i hi).2⟩
  have := loop_cnt (f := b_X0_takeWay_5 aC) (fun j x => ∃ aO' o', x = (nI (h j), nI j, aO') ∧ OM aO' o' ∧ mkO o' = aug (mkO o) h j) m (fun aO' => ∃ o', OM aO' o' ∧ mkO o' = aug (mkO o) h m) (by
    rintro j x hj ⟨aO', o', rfl, g1, g2⟩
    have hj0 := hlt j (by omega)
    have hj1 := hlt (j + 1) (by omega)
    have hne : h j ≠ h (j + 1) := fun z => by have := d6 _ _ (by omega) (by omega) z; omega
    have hn20 : h j ≠ 20 := fun z => by have := d6 _ _ (by omega) (by omega) (z.trans d3.symm); omega
    unfold b_X0_takeWay_5
    dsimp only
    rw [if_neg (by rw [show (22 : Int32) = nI 22 by decide]; exact nI_ge (by omega) (by omega)), if_neg (by rw [show (20 : Int32) = nI 20 by decide]; exact fun z => hn20 ((nI_eq (by omega) (by omega)).mp z)), nI_clamp (show h j < 2 ^ 31 by omega), (d5 j hj).1]
    have hck1 : vp_in (nI (h j)) 22 := vp_in_nI hj0 (by omega)
    have hck2 : vp_in (nI (h (j + 1))) 22 := vp_in_nI hj1 (by omega)
    simp only [chk_in hck1, chk_in hck2]
    rw [nI_clamp (show h (j + 1) < 2 ^ 31 by omega), nI_two (by omega), nI_two (by omega), (g1 _ hj1).1, nI_andn, pk_un hne, (g1 _ hj0).1, nI_or, nI_1]
    refine ⟨_, rfl, _, fun u => if u = h j then o' (h j) ||| 2 ^ h (j + 1) else if u = h (j + 1) then andn (o' (h (j + 1))) (2 ^ h j) else o' u, rfl, fun u hu => ?_, ?_⟩
    · dsimp only
      by_cases q1 : u = h j
      · rw [if_pos q1, q1, pk_us]
        exact ⟨rfl, Nat.or_lt_two_pow (g1 _ hj0).2 (two_lt hj1)⟩
      · rw [if_neg q1, pk_un q1]
        by_cases q2 : u = h (j + 1)
        · rw [if_pos q2, q2, pk_us]
          exact ⟨rfl, Nat.lt_of_le_of_lt (andn_le _ _) (g1 _ hj1).2⟩
        · rw [if_neg q2, pk_un q2]
          exact g1 u hu
    · rw [aug, ← g2]
      funext a b
      unfold fl mkO
      dsimp only
      by_cases q1 : a = h j
      · subst q1
        rw [if_pos rfl, if_neg (fun z : h j = h (j + 1) ∧ b = h j => hne z.1), Nat.testBit_or, Nat.testBit_two_pow, decide_eq_true hj0, Bool.true_and, Bool.true_and]
        by_cases q3 : b = h (j + 1)
        · rw [if_pos ⟨rfl, q3⟩, decide_eq_true q3.symm, Bool.or_true]
        · rw [if_neg (fun z => q3 z.2), decide_eq_false (fun z => q3 z.symm), Bool.or_false]
      · rw [if_neg q1]
        by_cases q2 : a = h (j + 1)
        · subst q2
          have := (g1 _ hj1).2
          rw [if_pos rfl, andn_bit _ _ (by omega), Nat.testBit_two_pow, decide_eq_true hj1, Bool.true_and, Bool.true_and, if_neg (fun z : h (j + 1) = h j ∧ b = h (j + 1) => hne z.1.symm)]
          by_cases q3 : b = h j
          · rw [if_pos ⟨rfl, q3⟩, decide_eq_true q3.symm, Bool.not_true, Bool.and_false]
          · rw [if_neg (fun z => q3 z.2), decide_eq_false (fun z => q3 z.symm), Bool.not_false, Bool.and_true]
        · rw [if_neg q2, if_neg (fun z => q2 z.1), if_neg (fun z => q1 z.1)]) (by
    rintro x ⟨aO', o', rfl, g1, g2⟩
    unfold b_X0_takeWay_5
    dsimp only
    rw [if_neg (by rw [show (22 : Int32) = nI 22 by decide]; exact nI_ge (by omega) (by omega)), if_pos (by rw [d3]; decide)]
    exact ⟨_, rfl, o', g1, g2⟩) 0 ((21 : Int32), (0 : Int32), aO) (by omega) ⟨aO, o, by rw [d2, hE]; rfl, hM, rfl⟩
  obtain ⟨aO', e1, o', e2, e3⟩ := this
  refine ⟨aO', o', h, m, ?_, e2, hway, by rw [d2, hE], d3, e3⟩
  unfold s_X0_takeWay
  rw [e1]
  rfl
/-! the class: all of it -/
def o0 (r : Nat → Nat) (n fr to c u : Nat) : Nat := if u = 20 then fr else if u < 10 then (if u < c then 2 ^ (10 + u) else 0) else if u < 20 then (if u - 10 < c then r (u - 10) ||| (if to.testBit (u - 10) = true then 2 ^ 21 else 0) else 0) else 0
theorem o0_bit {r : Nat → Nat} {n fr to : Nat} (hg : Gr n r) (hf : fr < 2 ^ n) : mkO (o0 r n fr to n) = Bn r n fr to := by
  have h10 := hg.2.1
  funext u v
  unfold mkO o0 Bn
  by_cases q0 : u = 20
  · subst q0
    rw [if_pos rfl, if_pos rfl]
    by_cases q : v < 10
    · rw [decide_eq_true q]; rfl
    · rw [bit_hi hf (by omega), Bool.and_false, Bool.and_false]
  · rw [if_neg q0, if_neg q0]
    by_cases q1 : u < 10
    · rw [if_pos q1, if_pos q1, decide_eq_true (show u < 22 by omega), Bool.true_and]
      by_cases q2 : u < n
      · rw [if_pos q2, Nat.testBit_two_pow, decide_eq_true q2, Bool.true_and]
        exact decide_eq_decide.mpr ⟨Eq.symm, Eq.symm⟩
      · rw [if_neg q2, Nat.zero_testBit, decide_eq_false q2, Bool.false_and]
    · rw [if_neg q1, if_neg q1]
      by_cases q2 : u < 20
      · rw [if_pos q2, if_pos q2, decide_eq_true (show u < 22 by omega), Bool.true_and]
        by_cases q3 : u - 10 < n
        · rw [if_pos q3, decide_eq_true q3, Bool.true_and, Nat.testBit_or]
          congr 1
          · by_cases q : v < 10
            · rw [decide_eq_true q, Bool.true_and]
            · rw [bit_hi (hg.2.2.1 _ q3) (by omega), Bool.and_false]
          · cases to.testBit (u - 10)
            · rw [if_neg (by decide), Nat.zero_testBit, Bool.and_false]
            · rw [if_pos rfl, Nat.testBit_two_pow, Bool.and_true]
              exact decide_eq_decide.mpr ⟨Eq.symm, Eq.symm⟩
        · rw [if_neg q3, Nat.zero_testBit, decide_eq_false q3, Bool.false_and]
      · rw [if_neg q2, if_neg q2, Nat.zero_testBit, Bool.and_false]
theorem Bn_two {r : Nat → Nat} {n fr to : Nat} (hg : Gr n r) (u v : Nat) : ¬ (Bn r n fr to u v = true ∧ Bn r n fr to v u = true) := by
  have h10 := hg.2.1
  have key : ∀ u v, u < 10 → Bn r n fr to u v = true → Bn r n fr to v u = true → False := by
    intro u v hu h1 h2
    by_cases q : u < n
    · rw [Bn_e q h10, decide_eq_true_iff] at h1
      subst h1
      rw [Bn_l q h10, hg.2.2.2.2.2, Bool.and_false, Bool.false_or, decide_eq_false (by omega), Bool.false_and] at h2
      exact absurd h2 (by decide)
    · rw [Bn_x (by omega) (by omega) (Or.inl hu)] at h1
      exact absurd h1 (by decide)
  have key2 : ∀ u v, ¬ u < 10 → Bn r n fr to u v = true → v < 10 ∨ v = 21 := by
    intro u v hu h1
    by_cases q : u = 20
    · subst q
      rw [Bn_S, Bool.and_eq_true, decide_eq_true_iff] at h1
      exact Or.inl h1.1
    · unfold Bn at h1
      rw [if_neg q, if_neg hu] at h1
      by_cases q2 : u < 20
      · rw [if_pos q2, Bool.and_eq_true, Bool.or_eq_true, Bool.and_eq_true, Bool.and_eq_true, decide_eq_true_iff, decide_eq_true_iff] at h1
        rcases h1.2 with z | z
        · exact Or.inl z.1
        · exact Or.inr (of_decide_eq_true z.1)
      · rw [if_neg q2] at h1; exact absurd h1 (by decide)
  rintro ⟨h1, h2⟩
  by_cases hu : u < 10
  · exact key u v hu h1 h2
  · rcases key2 u v hu h1 with q | q
    · exact key v u q h2 h1
    · rw [q, Bn_T] at h2; exact absurd h2 (by decide)
theorem FS_0 {r : Nat → Nat} {n fr to : Nat} (hg : Gr n r) : FS (Bn r n fr to) (Bn r n fr to) 0 := ⟨fun _ _ _ _ => rfl, Bn_two hg, fun _ _ => rfl, rfl⟩
theorem s_openArcs {cK : Nat → Int32} {cF : Nat → Nat → Int32} {p : Fin 5} {n fr to : Nat} {r : Nat → Nat} (hn : cK p.1 = nI n) (hg : Gr n r) (h3 : ∀ a, a < 10 → cF p.1 a = nI (r a)) (hf : fr < 2 ^ n) (ht : to < 2 ^ n) (aO : Nat → Int32) : ∃ aO', s_X0_openArcs cK cF aO p (nI fr) (nI to) = some aO' ∧ OM aO' (o0 r n fr to n) := by
  have h10 := hg.2.1
  have h31 : 2 ^ n ≤ 2 ^ 10 := Nat.pow_le_pow_right (by omega) h10
  have hol : ∀ u, u < 22 → o0 r n fr to n u < 2 ^ 22 := by
    intro u hu
    unfold o0
    by_cases q0 : u = 20
    · rw [if_pos q0]; omega
    · rw [if_neg q0]
      by_cases q1 : u < 10
      · rw [if_pos q1]
        by_cases q2 : u < n
        · rw [if_pos q2]; exact two_lt (by omega)
        · rw [if_neg q2]; decide
      · rw [if_neg q1]
        by_cases q2 : u < 20
        · rw [if_pos q2]
          by_cases q3 : u - 10 < n
          · rw [if_pos q3]
            have h5 := Gr_lt hg (u - 10)
            refine Nat.or_lt_two_pow (by omega) ?_
            by_cases q4 : to.testBit (u - 10) = true
            · rw [if_pos q4]; decide
            · rw [if_neg q4]; decide
          · rw [if_neg q3]; decide
        · rw [if_neg q2]; decide
  have := loop_cnt (f := b_X0_openArcs_19 cK cF p (nI to)) (fun i x => ∃ f, x = (nI i, f) ∧ ∀ u, u < 22 → f u = nI (o0 r n fr to i u)) n (fun f => ∀ u, u < 22 → f u = nI (o0 r n fr to n u)) (by
    rintro i x hi ⟨f, rfl, h⟩
    have hb : ((nI to >>> (nI i &&& 31)) &&& (1 : Int32)) <<< ((21 : Int32) &&& 31) = nI (if to.testBit i = true then 2 ^ 21 else 0) := by
      have hsh : to >>> i ≤ to := Nat.shiftRight_le _ _
      rw [nI_shr (by omega) (by omega), nI_and1 (by omega), bit_mod, show (21 : Int32) = nI 21 by decide]
      cases to.testBit i
      · rw [if_neg (by decide)]; decide
      · rw [if_pos rfl]; decide
    unfold b_X0_openArcs_19
    dsimp only
    rw [hn, if_neg (nI_ge hi (by omega)), i10, nI_add, chk_in (vp_in_nI (by omega) (by omega)), chk_in (vp_in_nI (by omega) (by omega)), chk_in (vp_in_nI (by omega) (by omega)), nI_clamp (show i < 2 ^ 31 by omega), nI_clamp (show 10 + i < 2 ^ 31 by omega), nI_two (by omega), h3 i (by omega), hb, nI_or, nI_1]
    refine ⟨_, rfl, _, rfl, fun u hu => ?_⟩
    by_cases q1 : u = 10 + i
    · rw [q1, pk_us]
      unfold o0
      rw [if_neg (show ¬ 10 + i = 20 by omega), if_neg (show ¬ 10 + i < 10 by omega), if_pos (show 10 + i < 20 by omega), if_pos (show 10 + i - 10 < i + 1 by omega), show 10 + i - 10 = i by omega]
    · rw [pk_un q1]
      by_cases q2 : u = i
      · rw [q2, pk_us]
        unfold o0
        rw [if_neg (show ¬ i = 20 by omega), if_pos (show i < 10 by omega), if_pos (show i < i + 1 by omega)]
      · rw [pk_un q2, h u hu]
        unfold o0
        by_cases q0 : u = 20
        · rw [if_pos q0, if_pos q0]
        · rw [if_neg q0, if_neg q0]
          by_cases c1 : u < 10
          · rw [if_pos c1, if_pos c1]
            by_cases c2 : u < i
            · rw [if_pos c2, if_pos (by omega)]
            · rw [if_neg c2, if_neg (by omega)]
          · rw [if_neg c1, if_neg c1]
            by_cases c3 : u < 20
            · rw [if_pos c3, if_pos c3]
              by_cases c2 : u - 10 < i
              · rw [if_pos c2, if_pos (show u - 10 < i + 1 by omega)]
              · rw [if_neg c2, if_neg (show ¬ u - 10 < i + 1 by omega)]
            · rw [if_neg c3, if_neg c3]) (by
    rintro x ⟨f, rfl, h⟩
    unfold b_X0_openArcs_19
    dsimp only
    rw [hn, if_pos (nI_le (Nat.le_refl _) (by omega))]
    exact ⟨_, rfl, h⟩) 0 ((0 : Int32), upd (fillI 22 aO (0 : Int32)) 20 (nI fr)) (by omega) ⟨_, rfl, fun u hu => by
      by_cases q0 : u = 20
      · rw [q0, pk_us]; rfl
      · rw [pk_un q0]
        unfold fillI o0
        rw [if_pos hu, if_neg q0, if_neg (show ¬ u < 0 by omega), if_neg (show ¬ u - 10 < 0 by omega)]
        by_cases c1 : u < 10
        · rw [if_pos c1]; rfl
        · rw [if_neg c1]
          by_cases c3 : u < 20
          · rw [if_pos c3]; rfl
          · rw [if_neg c3]; rfl⟩
  obtain ⟨f, e1, e2⟩ := this
  refine ⟨f, ?_, fun u hu => ⟨e2 u hu, hol u hu⟩⟩
  have z20 : (20 : Int32).toNatClampNeg = 20 := by decide
  have hck : vp_in (20 : Int32) 22 := vp_in_nI (n := 20) (by omega) (by omega)
  unfold s_X0_openArcs
  rw [chk_in hck, z20, e1]
  rfl
/-- the greatest flow -/
def MX (B : Nat → Nat → Bool) (n k : Nat) : Prop := ∃ O, FS B O k ∧ (k = n ∨ ∃ c : Nat → Bool, c 20 = true ∧ c 21 = false ∧ ∀ u v, u < 22 → v < 22 → c u = true → O u v = true → c v = true)
theorem MX_one {r : Nat → Nat} {n fr to k1 k2 : Nat} (hn : n ≤ 10) (h1 : MX (Bn r n fr to) n k1) (h2 : MX (Bn r n fr to) n k2) : k1 = k2 := by
  have key : ∀ k1 k2, MX (Bn r n fr to) n k1 → MX (Bn r n fr to) n k2 → k1 ≤ k2 := by
    rintro k1 k2 ⟨O1, f1, -⟩ ⟨O2, f2, g2⟩
    rcases g2 with g | ⟨c, c1, c2, c3⟩
    · rw [g]; exact FS_le hn f1
    · exact FS_cut f1 f2 c c1 c2 c3
  have := key k1 k2 h1 h2
  have := key k2 k1 h2 h1
  omega
theorem s_most {cK : Nat → Int32} {cF : Nat → Nat → Int32} {p : Fin 5} {n fr to : Nat} {r : Nat → Nat} (hn : cK p.1 = nI n) (hg : Gr n r) (h3 : ∀ a, a < 10 → cF p.1 a = nI (r a)) (hf : fr < 2 ^ n) (ht : to < 2 ^ n) (aO aC aQ : Nat → Int32) : ∃ k aO' aC' aQ', s_X0_most cK cF aO aC aQ p (nI fr) (nI to) = some (nI k, aO', aC', aQ') ∧ MX (Bn r n fr to) n k := by
  have h10 := hg.2.1
  obtain ⟨a1, e1, e2⟩ := s_openArcs (aO := aO) hn hg h3 hf ht
  have := loop_spec (f := b_X0_most_10 cK p) (fun x => ∃ k aO aC aQ o, x = (nI k, aO, aC, aQ) ∧ OM aO o ∧ FS (Bn r n fr to) (mkO o) k) (fun x => 11 - x.1.toNatClampNeg) (fun e => ∃ k aO aC aQ, e = (nI k, aO, aC, aQ) ∧ MX (Bn r n fr to) n k) (by
    rintro x ⟨k, aO, aC, aQ, o, rfl, hM, hF⟩
    have hk := FS_le h10 hF
    unfold b_X0_most_10
    dsimp only
    rw [hn]
    by_cases q : n ≤ k
    · right
      rw [if_pos (nI_le q (by omega))]
      exact ⟨_, rfl, k, aO, aC, aQ, rfl, mkO o, hF, Or.inl (by omega)⟩
    · rw [if_neg (nI_ge (by omega) (by omega))]
      obtain ⟨b, aC', aQ', f1, f2⟩ := s_findWay hM aC aQ
      rw [f1]
      simp only [Option.bind_some]
      rcases f2 with ⟨rfl, c, c1, c2, c3⟩ | ⟨rfl, Q, w, kE, g1, g2, g3⟩
      · right
        rw [if_pos rfl]
        exact ⟨_, rfl, k, aO, aC', aQ', rfl, mkO o, hF, Or.inr ⟨c, c1, c2, c3⟩⟩
      · left
        obtain ⟨aO2, o2, h, m, k1, k2, k3, k4, k5, k6⟩ := s_takeWay hM g3 g1 g2
        rw [if_neg (show ¬ ((1 : Int32) = 0) by decide), k1]
        simp only [Option.bind_some]
        rw [nI_1]
        refine ⟨_, rfl, ⟨k + 1, aO2, aC', aQ', o2, rfl, k2, ?_⟩, ?_⟩
        · rw [k6]; exact FS_aug hF k3 k4 k5
        · dsimp only
          rw [nI_clamp (by omega), nI_clamp (by omega)]
          omega) ((0 : Int32), a1, aC, aQ) ⟨0, a1, aC, aQ, _, rfl, e2, by rw [o0_bit hg hf]; exact FS_0 hg⟩
  obtain ⟨e, he, k, aO', aC', aQ', rfl, hX⟩ := this
  refine ⟨k, aO', aC', aQ', ?_, hX⟩
  unfold s_X0_most
  rw [e1]
  simp only [Option.bind_some]
  rw [he]
  rfl
