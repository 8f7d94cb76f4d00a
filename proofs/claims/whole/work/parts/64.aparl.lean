/-! the way that the reference lays -/
def Cn (n : Nat) (O : Nat → Nat → Bool) (sF : Nat → Int32) (g : Nat → Nat) (m : Nat) : Prop := m < 20 ∧ (∀ i, i ≤ m → g i < 2 * n) ∧ (∀ i j, i ≤ m → j ≤ m → g i = g j → i = j) ∧ (∀ i, i < m → sF (g i) = nI (g (i + 1)) ∧ O (nd (g (i + 1))) (nd (g i)) = true) ∧ sF (g m) = -1 ∧ O 20 (nd (g m)) = true
theorem cn_ex {n w nx seen : Nat} {O : Nat → Nat → Bool} {Q : Nat → Nat} {sF qu : Nat → Int32} (h : RI n O Q w nx sF qu seen) : ∀ k, k < w → ∃ (m : Nat) (g : Nat → Nat), m ≤ k ∧ g 0 = Q k ∧ (∀ i, i ≤ m → ∃ k', k' ≤ k ∧ g i = Q k') ∧ (∀ i j, i ≤ m → j ≤ m → g i = g j → i = j) ∧ (∀ i, i < m → sF (g i) = nI (g (i + 1)) ∧ O (nd (g (i + 1))) (nd (g i)) = true) ∧ sF (g m) = -1 ∧ O 20 (nd (g m)) = true := by
  obtain ⟨h1, h2, h3, h4, h5, h6, h7, h8, h9⟩ := h
  intro k
  induction k using Nat.strongRecOn with
  | ind k ih =>
    intro hk
    rcases h5 k hk with ⟨c1, c2⟩ | ⟨k', c1, c2, c3⟩
    · exact ⟨0, fun _ => Q k, by omega, rfl, fun i _ => ⟨k, Nat.le_refl k, rfl⟩, fun i j hi hj _ => by omega, fun i hi => by omega, c1, c2⟩
    · obtain ⟨m, g, d1, d2, d3, d4, d5, d6, d7⟩ := ih k' c1 (by omega)
      have hold : ∀ i, i ≤ m → g i ≠ Q k := by
        intro i hi z
        obtain ⟨k2, e1, e2⟩ := d3 i hi
        have := h2 k2 k (by omega) hk (by rw [← e2, z])
        omega
      have em : (if m + 1 = 0 then Q k else g (m + 1 - 1)) = g m := by rw [if_neg (by omega), show m + 1 - 1 = m by omega]
      refine ⟨m + 1, fun i => if i = 0 then Q k else g (i - 1), by omega, rfl, fun i hi => ?_, fun i j e1 e2 e3 => ?_, fun i hi => ?_, ?_, ?_⟩
      · by_cases e : i = 0
        · exact ⟨k, Nat.le_refl k, if_pos e⟩
        · obtain ⟨k2, e1, e2⟩ := d3 (i - 1) (by omega)
          exact ⟨k2, by omega, by dsimp only; rw [if_neg e]; exact e2⟩
      · dsimp only at e3
        by_cases e : i = 0
        · by_cases e' : j = 0
          · omega
          · rw [if_pos e, if_neg e'] at e3
            exact absurd e3.symm (hold _ (by omega))
        · by_cases e' : j = 0
          · rw [if_neg e, if_pos e'] at e3
            exact absurd e3 (hold _ (by omega))
          · rw [if_neg e, if_neg e'] at e3
            have := d4 _ _ (by omega) (by omega) e3
            omega
      · dsimp only
        rw [if_neg (show ¬ i + 1 = 0 by omega), show i + 1 - 1 = i by omega]
        by_cases e : i = 0
        · subst e
          rw [if_pos rfl, d2]
          exact ⟨c2, c3⟩
        · rw [if_neg e]
          have := d5 (i - 1) (by omega)
          rw [show i - 1 + 1 = i by omega] at this
          exact this
      · dsimp only; rw [em]; exact d6
      · dsimp only; rw [em]; exact d7
theorem lay_tr {n m : Nat} {O : Nat → Nat → Bool} {sF : Nat → Int32} {g : Nat → Nat} (hn : n ≤ 10) (h : Cn n O sF g m) (tr : Nat → Int32) : ∃ tr', loop (b_X6_lay_4 sF) ((0 : Int32), nI (g 0), tr) = some (nI (m + 1), tr') ∧ ∀ i, i ≤ m → tr' i = nI (g i) := by
  obtain ⟨h1, h2, h3, h4, h5, h6⟩ := h
  obtain ⟨e, he, tr', rfl, ht⟩ := loop_cnt (f := b_X6_lay_4 sF) (fun j x => ∃ tr', x = (nI j, (if j ≤ m then nI (g j) else -1), tr') ∧ ∀ i, i < j → tr' i = nI (g i)) (m + 1) (fun e => ∃ tr', e = (nI (m + 1), tr') ∧ ∀ i, i < m + 1 → tr' i = nI (g i)) (by
    rintro j x hj ⟨tr', rfl, ht⟩
    have hgj := h2 j (by omega)
    unfold b_X6_lay_4
    dsimp only
    rw [if_pos (show j ≤ m by omega), if_neg (nI_pos (by omega)), chk_in (vp_in_nI (by omega) (by omega)), chk_in (vp_in_nI (by omega) (by omega)), nI_clamp (by omega), nI_clamp (by omega), nI_1]
    refine ⟨_, rfl, upd tr' j (nI (g j)), ?_, fun i hi => ?_⟩
    · by_cases q : j + 1 ≤ m
      · rw [if_pos q, (h4 j (by omega)).1]
      · rw [if_neg q, show j = m by omega, h5]
    · by_cases q : i = j
      · rw [q, pk_us]
      · rw [pk_un q]; exact ht i (by omega)) (by
    rintro x ⟨tr', rfl, ht⟩
    unfold b_X6_lay_4
    dsimp only
    rw [if_neg (show ¬ m + 1 ≤ m by omega), if_pos m1_lt]
    exact ⟨_, rfl, tr', rfl, ht⟩) 0 ((0 : Int32), nI (g 0), tr) (by omega) ⟨tr, by rw [if_pos (Nat.zero_le m)]; rfl, fun i hi => by omega⟩
  exact ⟨tr', he, fun i hi => ht i (by omega)⟩
theorem out_S {r : Nat → Nat} {n fr to k z : Nat} {O : Nat → Nat → Bool} (h : FS (Bn r n fr to) O k) (hf : fr < 2 ^ n) (hz : z < 22) (ho : O 20 z = true) : z < n := by
  rcases FS_arc h (by omega) hz ho with q | q
  · rw [Bn_S, Bool.and_eq_true] at q
    exact bit_lt hf q.2
  · unfold Bn at q
    by_cases q0 : z = 20
    · rw [if_pos q0, decide_eq_false (by omega), Bool.false_and] at q; exact absurd q (by decide)
    · rw [if_neg q0] at q
      by_cases q1 : z < 10
      · rw [if_pos q1, decide_eq_false (show ¬ 20 = 10 + z by omega), Bool.and_false] at q; exact absurd q (by decide)
      · rw [if_neg q1] at q
        by_cases q2 : z < 20
        · rw [if_pos q2, decide_eq_false (show ¬ 20 < 10 by omega), decide_eq_false (show ¬ 20 = 21 by omega), Bool.false_and, Bool.false_and, Bool.or_false, Bool.and_false] at q; exact absurd q (by decide)
        · rw [if_neg q2] at q; exact absurd q (by decide)
theorem nd_e' {x j : Nat} (hx : x < 20) (hj : j < 10) (h : nd x = j) : x = 2 * j := nd_inj hx (by omega) (by rw [nd_e]; exact h)
theorem nd_l' {x j : Nat} (hx : x < 20) (hj : j < 10) (h : nd x = 10 + j) : x = 2 * j + 1 := nd_inj hx (by omega) (by rw [nd_l]; exact h)
/-- steps go to and fro between entering and leaving -/
theorem cn_par {r : Nat → Nat} {n fr to k m : Nat} {O : Nat → Nat → Bool} {sF : Nat → Int32} {g : Nat → Nat} (h : FS (Bn r n fr to) O k) (hg : Gr n r) (hc : Cn n O sF g m) {i : Nat} (h1 : 1 ≤ i) (hi : i ≤ m) : (∀ v, g i = 2 * v → ∃ u, u < n ∧ g (i - 1) = 2 * u + 1) ∧ ∀ u, g i = 2 * u + 1 → ∃ w, w < n ∧ g (i - 1) = 2 * w := by
  have hn := hg.2.1
  obtain ⟨c1, c2, c3, c4, c5, c6⟩ := hc
  have ho := (c4 (i - 1) (by omega)).2
  rw [show i - 1 + 1 = i by omega] at ho
  have g1 := c2 i hi
  have g0 := c2 (i - 1) (by omega)
  have hl := nd_lt (show g (i - 1) < 20 by omega)
  constructor
  · intro v hv
    rw [hv, nd_e] at ho
    rcases arc_e h hg (by omega) (by omega) ho with q | q | ⟨u, q1, q2, q3⟩
    · exact ⟨v, by omega, nd_l' (by omega) (by omega) q⟩
    · omega
    · exact ⟨u, q1, nd_l' (by omega) (by omega) q3⟩
  · intro u hu
    rw [hu, nd_l] at ho
    rcases arc_l h hg (by omega) (by omega) ho with q | ⟨q, -⟩ | ⟨q1, q2, q3⟩
    · exact ⟨u, by omega, nd_e' (by omega) (by omega) q⟩
    · omega
    · exact ⟨nd (g (i - 1)), q1, nd_e' (by omega) (by omega) rfl⟩
def Rmv (g : Nat → Nat) (m c u v : Nat) : Prop := ∃ i, c < i ∧ i ≤ m ∧ g i = 2 * v ∧ g (i - 1) = 2 * u + 1 ∧ u ≠ v
def Adv (g : Nat → Nat) (m c u w : Nat) : Prop := ∃ i, c < i ∧ i ≤ m ∧ g i = 2 * u + 1 ∧ g (i - 1) = 2 * w ∧ u ≠ w
theorem lay_off {r : Nat → Nat} {n fr to k m : Nat} {O : Nat → Nat → Bool} {sF tr oT cF : Nat → Int32} {g : Nat → Nat} (h : FS (Bn r n fr to) O k) (hg : Gr n r) (hc : Cn n O sF g m) (ht : ∀ i, i ≤ m → tr i = nI (g i)) : ∃ e, loop (b_X6_lay_67 tr) (nI m, oT, cF) = some e ∧ (∀ u v, Rmv g m 0 u v → e.1 u = -1 ∧ e.2 v = -1) ∧ (∀ u, (∀ v, ¬ Rmv g m 0 u v) → e.1 u = oT u) ∧ ∀ v, (∀ u, ¬ Rmv g m 0 u v) → e.2 v = cF v := by
  have hn := hg.2.1
  obtain ⟨c1, c2, c3, c4, c5, c6⟩ := id hc
  refine loop_cnt (f := b_X6_lay_67 tr) (fun d x => ∃ o f, x = (nI (m - d), o, f) ∧ (∀ u v, Rmv g m (m - d) u v → o u = -1 ∧ f v = -1) ∧ (∀ u, (∀ v, ¬ Rmv g m (m - d) u v) → o u = oT u) ∧ ∀ v, (∀ u, ¬ Rmv g m (m - d) u v) → f v = cF v) m _ ?_ ?_ 0 _ (by omega) ⟨oT, cF, rfl, fun u v ⟨i, h1, h2, _⟩ => by omega, fun _ _ => rfl, fun _ _ => rfl⟩
  · rintro d x hd ⟨o, f, rfl, k1, k2, k3⟩
    obtain ⟨c, hcd⟩ : ∃ c, m - d = c + 1 := ⟨m - d - 1, by omega⟩
    have hgc := c2 (c + 1) (by omega)
    have hgp := c2 c (by omega)
    obtain ⟨p1, p2⟩ := cn_par h hg hc (i := c + 1) (by omega) (by omega)
    rw [show c + 1 - 1 = c by omega] at p1 p2
    rw [hcd] at k1 k2 k3
    have hdc : m - (d + 1) = c := by omega
    have skip : (∀ u v, g (c + 1) = 2 * v → g c = 2 * u + 1 → u = v) → ∃ y, (some (Sum.inl (nI c, o, f)) : Option ((Int32 × (Nat → Int32) × (Nat → Int32)) ⊕ ((Nat → Int32) × (Nat → Int32)))) = some (Sum.inl y) ∧ ∃ o f, y = (nI (m - (d + 1)), o, f) ∧ (∀ u v, Rmv g m (m - (d + 1)) u v → o u = -1 ∧ f v = -1) ∧ (∀ u, (∀ v, ¬ Rmv g m (m - (d + 1)) u v) → o u = oT u) ∧ ∀ v, (∀ u, ¬ Rmv g m (m - (d + 1)) u v) → f v = cF v := by
      intro hs
      have hiff : ∀ u v, Rmv g m c u v ↔ Rmv g m (c + 1) u v := by
        intro u v
        constructor
        · rintro ⟨i, a1, a2, a3, a4, a5⟩
          by_cases e : i = c + 1
          · subst e
            exact absurd (hs u v a3 a4) a5
          · exact ⟨i, by omega, a2, a3, a4, a5⟩
        · rintro ⟨i, a1, a2, a3⟩
          exact ⟨i, by omega, a2, a3⟩
      rw [hdc]
      refine ⟨_, rfl, o, f, rfl, fun u v hr => k1 u v ((hiff u v).mp hr), fun u hr => k2 u (fun v z => hr v ((hiff u v).mpr z)), fun v hr => k3 v (fun u z => hr u ((hiff u v).mpr z))⟩
    unfold b_X6_lay_67
    dsimp only
    rw [hcd, if_neg (nI_nle (by omega) (by omega)), nI_pred, nI_dn, chk_in (vp_in_nI (by omega) (by omega)), chk_in (vp_in_nI (by omega) (by omega)), nI_clamp (show c + 1 < 2 ^ 31 by omega), nI_clamp (show c < 2 ^ 31 by omega), ht (c + 1) (by omega), ht c (by omega), i2, nI_mod (by omega) (by omega) (by omega), pk_div (by omega) (by omega) (by omega), pk_div (by omega) (by omega) (by omega)]
    by_cases q1 : g (c + 1) / 2 = g c / 2
    · rw [if_pos (by rw [q1])]
      exact skip (fun u v e1 e2 => by omega)
    · rw [if_neg (fun z => q1 ((nI_eq (by omega) (by omega)).mp z))]
      rcases nd_or (g (c + 1)) with ⟨v, hv⟩ | ⟨u, hu⟩
      · obtain ⟨u, hun, hu⟩ := p1 v hv
        have huv : u ≠ v := by omega
        rw [if_pos (by rw [hv, show 2 * v % 2 = 0 by omega]; decide), hv, hu, show (2 * u + 1) / 2 = u by omega, show 2 * v / 2 = v by omega, chk_in (vp_in_nI (by omega) (by omega)), chk_in (vp_in_nI (by omega) (by omega)), nI_clamp (show u < 2 ^ 31 by omega), nI_clamp (show v < 2 ^ 31 by omega)]
        have hnew : Rmv g m c u v := ⟨c + 1, by omega, by omega, hv, by rw [show c + 1 - 1 = c by omega]; exact hu, huv⟩
        rw [hdc]
        refine ⟨_, rfl, _, _, rfl, fun u' v' hr => ?_, fun u' hr => ?_, fun v' hr => ?_⟩
        · obtain ⟨i, a1, a2, a3, a4, a5⟩ := hr
          by_cases e : i = c + 1
          · subst e
            rw [show c + 1 - 1 = c by omega] at a4
            have e1 : u' = u := by omega
            have e2 : v' = v := by omega
            rw [e1, e2, pk_us, pk_us]; exact ⟨rfl, rfl⟩
          · obtain ⟨b1, b2⟩ := k1 u' v' ⟨i, by omega, a2, a3, a4, a5⟩
            constructor
            · by_cases z : u' = u
              · rw [z, pk_us]
              · rw [pk_un z]; exact b1
            · by_cases z : v' = v
              · rw [z, pk_us]
              · rw [pk_un z]; exact b2
        · have z : u' ≠ u := fun z => hr v (by rw [z]; exact hnew)
          rw [pk_un z]
          exact k2 u' (fun v' ⟨i, a1, a2⟩ => hr v' ⟨i, by omega, a2⟩)
        · have z : v' ≠ v := fun z => hr u (by rw [z]; exact hnew)
          rw [pk_un z]
          exact k3 v' (fun u' ⟨i, a1, a2⟩ => hr u' ⟨i, by omega, a2⟩)
      · rw [if_neg (by rw [hu, show (2 * u + 1) % 2 = 1 by omega]; decide)]
        exact skip (fun u' v' e1 e2 => by omega)
  · rintro x ⟨o, f, rfl, k1, k2, k3⟩
    rw [Nat.sub_self] at *
    unfold b_X6_lay_67
    dsimp only
    rw [if_pos (by decide)]
    exact ⟨_, rfl, k1, k2, k3⟩
theorem lay_on {r : Nat → Nat} {n fr to k m : Nat} {O : Nat → Nat → Bool} {sF tr oT cF : Nat → Int32} {g : Nat → Nat} (h : FS (Bn r n fr to) O k) (hg : Gr n r) (hc : Cn n O sF g m) (ht : ∀ i, i ≤ m → tr i = nI (g i)) : ∃ e, loop (b_X6_lay_137 tr) (nI m, oT, cF) = some e ∧ (∀ u w, Adv g m 0 u w → e.1 u = nI w ∧ e.2 w = nI u) ∧ (∀ u, (∀ w, ¬ Adv g m 0 u w) → e.1 u = oT u) ∧ ∀ w, (∀ u, ¬ Adv g m 0 u w) → e.2 w = cF w := by
  have hn := hg.2.1
  obtain ⟨c1, c2, c3, c4, c5, c6⟩ := id hc
  refine loop_cnt (f := b_X6_lay_137 tr) (fun d x => ∃ o f, x = (nI (m - d), o, f) ∧ (∀ u w, Adv g m (m - d) u w → o u = nI w ∧ f w = nI u) ∧ (∀ u, (∀ w, ¬ Adv g m (m - d) u w) → o u = oT u) ∧ ∀ w, (∀ u, ¬ Adv g m (m - d) u w) → f w = cF w) m _ ?_ ?_ 0 _ (by omega) ⟨oT, cF, rfl, fun u v ⟨i, h1, h2, _⟩ => by omega, fun _ _ => rfl, fun _ _ => rfl⟩
  · rintro d x hd ⟨o, f, rfl, k1, k2, k3⟩
    obtain ⟨c, hcd⟩ : ∃ c, m - d = c + 1 := ⟨m - d - 1, by omega⟩
    have hgc := c2 (c + 1) (by omega)
    have hgp := c2 c (by omega)
    obtain ⟨p1, p2⟩ := cn_par h hg hc (i := c + 1) (by omega) (by omega)
    rw [show c + 1 - 1 = c by omega] at p1 p2
    rw [hcd] at k1 k2 k3
    have hdc : m - (d + 1) = c := by omega
    have skip : (∀ u w, g (c + 1) = 2 * u + 1 → g c = 2 * w → u = w) → ∃ y, (some (Sum.inl (nI c, o, f)) : Option ((Int32 × (Nat → Int32) × (Nat → Int32)) ⊕ ((Nat → Int32) × (Nat → Int32)))) = some (Sum.inl y) ∧ ∃ o f, y = (nI (m - (d + 1)), o, f) ∧ (∀ u w, Adv g m (m - (d + 1)) u w → o u = nI w ∧ f w = nI u) ∧ (∀ u, (∀ w, ¬ Adv g m (m - (d + 1)) u w) → o u = oT u) ∧ ∀ w, (∀ u, ¬ Adv g m (m - (d + 1)) u w) → f w = cF w := by
      intro hs
      have hiff : ∀ u v, Adv g m c u v ↔ Adv g m (c + 1) u v := by
        intro u v
        constructor
        · rintro ⟨i, a1, a2, a3, a4, a5⟩
          by_cases e : i = c + 1
          · subst e
            exact absurd (hs u v a3 a4) a5
          · exact ⟨i, by omega, a2, a3, a4, a5⟩
        · rintro ⟨i, a1, a2, a3⟩
          exact ⟨i, by omega, a2, a3⟩
      rw [hdc]
      refine ⟨_, rfl, o, f, rfl, fun u v hr => k1 u v ((hiff u v).mp hr), fun u hr => k2 u (fun v z => hr v ((hiff u v).mpr z)), fun v hr => k3 v (fun u z => hr u ((hiff u v).mpr z))⟩
    unfold b_X6_lay_137
    dsimp only
    rw [hcd, if_neg (nI_nle (by omega) (by omega)), nI_pred, nI_dn, chk_in (vp_in_nI (by omega) (by omega)), chk_in (vp_in_nI (by omega) (by omega)), nI_clamp (show c + 1 < 2 ^ 31 by omega), nI_clamp (show c < 2 ^ 31 by omega), ht (c + 1) (by omega), ht c (by omega), i2, nI_mod (by omega) (by omega) (by omega), pk_div (by omega) (by omega) (by omega), pk_div (by omega) (by omega) (by omega)]
    by_cases q1 : g (c + 1) / 2 = g c / 2
    · rw [if_pos (by rw [q1])]
      exact skip (fun u v e1 e2 => by omega)
    · rw [if_neg (fun z => q1 ((nI_eq (by omega) (by omega)).mp z))]
      rcases nd_or (g (c + 1)) with ⟨v, hv⟩ | ⟨u, hu⟩
      · rw [if_neg (by rw [hv, show 2 * v % 2 = 0 by omega]; decide)]
        exact skip (fun u' v' e1 e2 => by omega)
      · obtain ⟨w, hwn, hw⟩ := p2 u hu
        have huw : u ≠ w := by omega
        rw [if_pos (by rw [hu, show (2 * u + 1) % 2 = 1 by omega]; decide), hu, hw, show (2 * u + 1) / 2 = u by omega, show 2 * w / 2 = w by omega, chk_in (vp_in_nI (by omega) (by omega)), chk_in (vp_in_nI (by omega) (by omega)), nI_clamp (show u < 2 ^ 31 by omega), nI_clamp (show w < 2 ^ 31 by omega)]
        have hnew : Adv g m c u w := ⟨c + 1, by omega, by omega, hu, by rw [show c + 1 - 1 = c by omega]; exact hw, huw⟩
        rw [hdc]
        refine ⟨_, rfl, _, _, rfl, fun u' w' hr => ?_, fun u' hr => ?_, fun w' hr => ?_⟩
        · obtain ⟨i, a1, a2, a3, a4, a5⟩ := hr
          by_cases e : i = c + 1
          · subst e
            rw [show c + 1 - 1 = c by omega] at a4
            have e1 : u' = u := by omega
            have e2 : w' = w := by omega
            rw [e1, e2, pk_us, pk_us]; exact ⟨rfl, rfl⟩
          · obtain ⟨b1, b2⟩ := k1 u' w' ⟨i, by omega, a2, a3, a4, a5⟩
            have z1 : u' ≠ u := fun z => e (c3 i (c + 1) a2 (by omega) (by rw [a3, hu, z]))
            have z2 : w' ≠ w := fun z => by
              have := c3 (i - 1) c (by omega) (by omega) (by rw [a4, hw, z])
              omega
            rw [pk_un z1, pk_un z2]
            exact ⟨b1, b2⟩
        · have z : u' ≠ u := fun z => hr w (by rw [z]; exact hnew)
          rw [pk_un z]
          exact k2 u' (fun v' ⟨i, a1, a2⟩ => hr v' ⟨i, by omega, a2⟩)
        · have z : w' ≠ w := fun z => hr u (by rw [z]; exact hnew)
          rw [pk_un z]
          exact k3 w' (fun u' ⟨i, a1, a2⟩ => hr u' ⟨i, by omega, a2⟩)
  · rintro x ⟨o, f, rfl, k1, k2, k3⟩
    rw [Nat.sub_self] at *
    unfold b_X6_lay_137
    dsimp only
    rw [if_pos (by decide)]
    exact ⟨_, rfl, k1, k2, k3⟩
