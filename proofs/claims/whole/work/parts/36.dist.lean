/-! distances: balls around a knot -/
theorem rowP_nodup (r : Nat → Nat) (a : Nat) : ∀ b, (rowP r a b).Nodup
  | 0 => List.nodup_nil
  | b + 1 => by
    rw [rowP]
    by_cases q : (decide (a < b) && (r a).testBit b) = true
    · rw [if_pos q]
      refine List.nodup_append.mpr ⟨rowP_nodup r a b, List.pairwise_singleton _ _, fun x hx y hy e => ?_⟩
      rw [List.mem_singleton] at hy
      rw [e, hy, rowP_mem] at hx
      have := hx.2.2.1
      dsimp only at this
      omega
    · rw [if_neg q]; exact rowP_nodup r a b
theorem allP_nodup (r : Nat → Nat) (n : Nat) : ∀ a, (allP r n a).Nodup
  | 0 => List.nodup_nil
  | a + 1 => by
    rw [allP]
    refine List.nodup_append.mpr ⟨allP_nodup r n a, rowP_nodup r a n, fun x hx y hy e => ?_⟩
    rw [← e, rowP_mem] at hy
    rw [allP_mem] at hx
    omega
theorem lines_inj {r : Nat → Nat} {n i j : Nat} (hi : i < (linesP r n).length) (hj : j < (linesP r n).length) (h : (linesP r n)[i] = (linesP r n)[j]) : i = j := by
  have hp := List.pairwise_iff_getElem.mp (allP_nodup r n n)
  rcases Nat.lt_trichotomy i j with q | q | q
  · exact absurd h (hp i j hi hj q)
  · exact q
  · exact absurd h.symm (hp j i hj hi q)
/-- a net without one of its lines -/
def rB (r : Nat → Nat) (a b : Nat) : Nat → Nat := fun x => if x = a then andn (r a) (2 ^ b) else if x = b then andn (r b) (2 ^ a) else r x
theorem rB_bit {n : Nat} {r : Nat → Nat} (hg : Gr n r) {a b : Nat} (hab : a ≠ b) (x c : Nat) : (rB r a b x).testBit c = ((r x).testBit c && !decide ((x = a ∧ c = b) ∨ (x = b ∧ c = a))) := by
  have ha := Gr_lt hg a
  have hb := Gr_lt hg b
  have hba : ¬ b = a := fun q => hab q.symm
  unfold rB
  by_cases q : x = a
  · subst q
    rw [if_pos rfl, andn_bit _ _ (by omega), Nat.testBit_two_pow]
    congr 2
    apply decide_eq_decide.mpr
    constructor
    · intro h; exact Or.inl ⟨rfl, h.symm⟩
    · rintro (⟨_, h⟩ | ⟨h, _⟩)
      · exact h.symm
      · exact absurd h hab
  · rw [if_neg q]
    by_cases q2 : x = b
    · subst q2
      rw [if_pos rfl, andn_bit _ _ (by omega), Nat.testBit_two_pow]
      congr 2
      apply decide_eq_decide.mpr
      constructor
      · intro h; exact Or.inr ⟨rfl, h.symm⟩
      · rintro (⟨h, _⟩ | ⟨_, h⟩)
        · exact absurd h q
        · exact h.symm
    · rw [if_neg q2]; simp [q, q2]
theorem Gr_rB {n : Nat} {r : Nat → Nat} (hg : Gr n r) {a b : Nat} (hab : a ≠ b) (ha : a < n) (hb : b < n) : Gr n (rB r a b) := by
  refine ⟨hg.1, hg.2.1, fun x hx => lt_of_bits fun y hy => ?_, fun x hx => ?_, fun x y => ?_, fun x => ?_⟩
  · rw [rB_bit hg hab, bit_hi (hg.2.2.1 x hx) hy]; rfl
  · unfold rB; rw [if_neg (by omega), if_neg (by omega)]; exact hg.2.2.2.1 x hx
  · rw [rB_bit hg hab, rB_bit hg hab, hg.2.2.2.2.1 x y]
    congr 2
    apply decide_eq_decide.mpr
    constructor
    · rintro (⟨p, q⟩ | ⟨p, q⟩)
      · exact Or.inr ⟨q, p⟩
      · exact Or.inl ⟨q, p⟩
    · rintro (⟨p, q⟩ | ⟨p, q⟩)
      · exact Or.inr ⟨q, p⟩
      · exact Or.inl ⟨q, p⟩
  · rw [rB_bit hg hab, hg.2.2.2.2.2]; rfl
/-- what both sides answer -/
def Dst (r : Nat → Nat) (n a b : Nat) (v : Int32) : Prop := (∃ d, d < n ∧ v = nI d ∧ (iter (stepA r n) d (2 ^ a)).testBit b = true ∧ ∀ e, e < d → ¬ (iter (stepA r n) e (2 ^ a)).testBit b = true) ∨ (v = -1 ∧ ∀ d, ¬ (iter (stepA r n) d (2 ^ a)).testBit b = true)
theorem Dst_one {r : Nat → Nat} {n a b : Nat} {v w : Int32} (h1 : Dst r n a b v) (h2 : Dst r n a b w) : v = w := by
  rcases h1 with ⟨d, -, rfl, h3, h4⟩ | ⟨rfl, h3⟩
  · rcases h2 with ⟨e, -, rfl, h5, h6⟩ | ⟨rfl, h5⟩
    · rcases Nat.lt_trichotomy d e with q | q | q
      · exact absurd h3 (h6 d q)
      · rw [q]
      · exact absurd h5 (h4 e q)
    · exact absurd h3 (h5 d)
  · rcases h2 with ⟨e, -, rfl, h5, h6⟩ | ⟨rfl, h5⟩
    · exact absurd h5 (h3 e)
    · rfl
theorem ball_fix {r : Nat → Nat} {n a : Nat} (hg : Gr n r) (ha : a < n) : ∀ d, iter (stepA r n) (n - 1 + d) (2 ^ a) = iter (stepA r n) (n - 1) (2 ^ a)
  | 0 => rfl
  | d + 1 => by
    rw [← Nat.add_assoc, iter, ball_fix hg ha d]
    exact iter_fix (fun y _ => stepA_sub r n y) (fun y hy => stepA_lt hg hy) (two_lt ha) ((two_bit a a).mpr rfl) (by omega)
theorem ball_up (r : Nat → Nat) (n a d : Nat) : ∀ e, subB (iter (stepA r n) d (2 ^ a)) (iter (stepA r n) (d + e) (2 ^ a))
  | 0 => fun _ h => h
  | e + 1 => fun b hb => by
    rw [← Nat.add_assoc, iter]
    exact stepA_sub r n _ b (ball_up r n a d e b hb)
theorem ball_no {r : Nat → Nat} {n a b : Nat} (hg : Gr n r) (ha : a < n) (h : ¬ (iter (stepA r n) (n - 1) (2 ^ a)).testBit b = true) : ∀ d, ¬ (iter (stepA r n) d (2 ^ a)).testBit b = true := by
  intro d hd
  have := ball_up r n a d (n - 1) b hd
  rw [Nat.add_comm, ball_fix hg ha] at this
  exact h this
/-- the reference: one step along the lines -/
theorem dist_step {L : List (Nat × Nat)} {on ot : Nat → Int32} {n x : Nat} {r : Nat → Nat} {w : Int32} (ex : Nat → Prop) (hg : Gr n r) (hL : Lay L on ot) (h45 : L.length ≤ 45) (hs : ∀ y, y ∈ L → y.1 < n ∧ y.2 < n) (hw : ∀ l, l < L.length → (nI l = w ↔ ex l)) (hr : ∀ y c, (r y).testBit c = true ↔ ∃ l, ∃ h : l < L.length, ¬ ex l ∧ (L[l] = (y, c) ∨ L[l] = (c, y))) (hx : x < 2 ^ n) : loop (b_X6_distanceOf_39 (nI L.length) on ot w (nI x)) (nI x, (0 : Int32)) = some (nI (stepA r n x)) := by
  have h10 := hg.2.1
  have h31 : 2 ^ n ≤ 2 ^ 10 := Nat.pow_le_pow_right (by omega) h10
  obtain ⟨e, he, rfl⟩ := loop_cnt (f := b_X6_distanceOf_39 (nI L.length) on ot w (nI x)) (fun i s => ∃ m, s = (nI m, nI i) ∧ m < 2 ^ n ∧ ∀ c, m.testBit c = true ↔ (x.testBit c = true ∨ ∃ l, ∃ h : l < L.length, l < i ∧ ¬ ex l ∧ ((x.testBit (L[l]).1 = true ∧ c = (L[l]).2) ∨ (x.testBit (L[l]).2 = true ∧ c = (L[l]).1)))) L.length (fun e => e = nI (stepA r n x)) (by
    rintro i s hi ⟨m, rfl, hm, hb⟩
    obtain ⟨o1, o2⟩ := hL i hi
    obtain ⟨s1, s2⟩ := hs _ (List.getElem_mem hi)
    have hnext : ∀ (m' : Nat), m' < 2 ^ n → (∀ c, m'.testBit c = true ↔ (m.testBit c = true ∨ (¬ ex i ∧ ((x.testBit (L[i]).1 = true ∧ c = (L[i]).2) ∨ (x.testBit (L[i]).2 = true ∧ c = (L[i]).1))))) → ∃ y, some (Sum.inl (nI m', nI (i + 1))) = (some (Sum.inl y) : Option ((Int32 × Int32) ⊕ Int32)) ∧ ∃ m, y = (nI m, nI (i + 1)) ∧ m < 2 ^ n ∧ ∀ c, m.testBit c = true ↔ (x.testBit c = true ∨ ∃ l, ∃ h : l < L.length, l < i + 1 ∧ ¬ ex l ∧ ((x.testBit (L[l]).1 = true ∧ c = (L[l]).2) ∨ (x.testBit (L[l]).2 = true ∧ c = (L[l]).1))) := by
      intro m' hm' hb'
      refine ⟨_, rfl, m', rfl, hm', fun c => ?_⟩
      rw [hb', hb]
      constructor
      · rintro ((h | ⟨l, hl, h1, h2⟩) | h)
        · exact Or.inl h
        · exact Or.inr ⟨l, hl, by omega, h2⟩
        · exact Or.inr ⟨i, hi, by omega, h⟩
      · rintro (h | ⟨l, hl, h1, h2⟩)
        · exact Or.inl (Or.inl h)
        · by_cases e : l = i
          · subst e; exact Or.inr h2
          · exact Or.inl (Or.inr ⟨l, hl, by omega, h2⟩)
    unfold b_X6_distanceOf_39 lt'
    dsimp only
    rw [if_neg (nI_ge hi (by omega))]
    by_cases q : ex i
    · rw [if_pos ((hw i hi).mpr q), nI_1]
      refine hnext m hm (fun c => ⟨fun h => Or.inl h, fun h => ?_⟩)
      rcases h with h | h
      · exact h
      · exact absurd q h.1
    · have hck : vp_in (nI i) 45 := vp_in_nI (by omega) (by omega)
      simp only [chk_in hck]
      rw [if_neg (fun z => q ((hw i hi).mp z)), nI_clamp (by omega), o1, o2, nI_two (by omega), nI_two (by omega), nI_1, i0, nI_or, nI_or, nI_or, nI_or, nI_or, nI_or]
      simp only [nI_bit (m := x) (b := (L[i]).1) (by omega) (by omega), nI_bit (m := x) (b := (L[i]).2) (by omega) (by omega)]
      by_cases q1 : x.testBit (L[i]).1 = true
      · rw [if_pos q1]
        by_cases q2 : x.testBit (L[i]).2 = true
        · rw [if_pos q2]
          refine hnext _ (Nat.or_lt_two_pow (Nat.or_lt_two_pow hm (two_lt s2)) (two_lt s1)) (fun c => ?_)
          rw [Nat.testBit_or, Nat.testBit_or, Bool.or_eq_true, Bool.or_eq_true, two_bit, two_bit]
          constructor
          · rintro ((h | h) | h)
            · exact Or.inl h
            · exact Or.inr ⟨q, Or.inl ⟨q1, h.symm⟩⟩
            · exact Or.inr ⟨q, Or.inr ⟨q2, h.symm⟩⟩
          · rintro (h | ⟨-, ⟨-, h⟩ | ⟨-, h⟩⟩)
            · exact Or.inl (Or.inl h)
            · exact Or.inl (Or.inr h.symm)
            · exact Or.inr h.symm
        · rw [if_neg q2]
          refine hnext _ (Nat.or_lt_two_pow (Nat.or_lt_two_pow hm (two_lt s2)) (Nat.two_pow_pos n)) (fun c => ?_)
          rw [Nat.or_zero, Nat.testBit_or, Bool.or_eq_true, two_bit]
          constructor
          · rintro (h | h)
            · exact Or.inl h
            · exact Or.inr ⟨q, Or.inl ⟨q1, h.symm⟩⟩
          · rintro (h | ⟨-, ⟨-, h⟩ | ⟨z, h⟩⟩)
            · exact Or.inl h
            · exact Or.inr h.symm
            · exact absurd z q2
      · rw [if_neg q1]
        by_cases q2 : x.testBit (L[i]).2 = true
        · rw [if_pos q2]
          refine hnext _ (Nat.or_lt_two_pow (Nat.or_lt_two_pow hm (Nat.two_pow_pos n)) (two_lt s1)) (fun c => ?_)
          rw [Nat.or_zero, Nat.testBit_or, Bool.or_eq_true, two_bit]
          constructor
          · rintro (h | h)
            · exact Or.inl h
            · exact Or.inr ⟨q, Or.inr ⟨q2, h.symm⟩⟩
          · rintro (h | ⟨-, ⟨z, h⟩ | ⟨-, h⟩⟩)
            · exact Or.inl h
            · exact absurd z q1
            · exact Or.inr h.symm
        · rw [if_neg q2]
          refine hnext _ (Nat.or_lt_two_pow (Nat.or_lt_two_pow hm (Nat.two_pow_pos n)) (Nat.two_pow_pos n)) (fun c => ?_)
          rw [Nat.or_zero, Nat.or_zero]
          constructor
          · exact fun h => Or.inl h
          · rintro (h | ⟨-, ⟨z, h⟩ | ⟨z, h⟩⟩)
            · exact h
            · exact absurd z q1
            · exact absurd z q2) (by
    rintro s ⟨m, rfl, hm, hb⟩
    unfold b_X6_distanceOf_39
    dsimp only
    rw [if_pos (nI_le (Nat.le_refl _) (by omega))]
    refine ⟨_, rfl, ?_⟩
    congr 1
    apply Nat.eq_of_testBit_eq
    intro c
    apply Bool.eq_iff_iff.mpr
    unfold stepA
    rw [hb c, Nat.testBit_or, Bool.or_eq_true, orA_bit]
    constructor
    · rintro (h | ⟨l, hl, -, h1, h2⟩)
      · exact Or.inl h
      · right
        obtain ⟨s1, s2⟩ := hs _ (List.getElem_mem hl)
        rcases h2 with ⟨h3, h4⟩ | ⟨h3, h4⟩
        · exact ⟨_, s1, h3, (hr _ _).mpr ⟨l, hl, h1, Or.inl (Prod.ext rfl h4.symm)⟩⟩
        · exact ⟨_, s2, h3, (hr _ _).mpr ⟨l, hl, h1, Or.inr (Prod.ext h4.symm rfl)⟩⟩
    · rintro (h | ⟨j, h1, h2, h3⟩)
      · exact Or.inl h
      · right
        obtain ⟨l, hl, h4, h5⟩ := (hr _ _).mp h3
        refine ⟨l, hl, hl, h4, ?_⟩
        rcases h5 with h5 | h5
        · left; rw [h5]; exact ⟨h2, rfl⟩
        · right; rw [h5]; exact ⟨h2, rfl⟩) 0 (nI x, (0 : Int32)) (by omega) ⟨x, rfl, hx, fun c => ⟨fun h => Or.inl h, fun h => by
      rcases h with h | ⟨l, hl, h1, h2⟩
      · exact h
      · omega⟩⟩
  exact he
theorem s_distanceOf {kn on ot : Nat → Int32} {k n a b : Nat} {L : List (Nat × Nat)} {r : Nat → Nat} {w : Int32} (ex : Nat → Prop) (hk : k < 4) (hn : kn k = nI n) (hg : Gr n r) (hL : Lay L on ot) (h45 : L.length ≤ 45) (hs : ∀ y, y ∈ L → y.1 < n ∧ y.2 < n) (hw : ∀ l, l < L.length → (nI l = w ↔ ex l)) (hr : ∀ y c, (r y).testBit c = true ↔ ∃ l, ∃ h : l < L.length, ¬ ex l ∧ (L[l] = (y, c) ∨ L[l] = (c, y))) (ha : a < n) (hb : b < n) : ∃ v, s_X6_distanceOf kn (nI L.length) on ot (nI k) (nI a) (nI b) w = some v ∧ Dst r n a b v := by
  have h10 := hg.2.1
  have h31 : 2 ^ n ≤ 2 ^ 10 := Nat.pow_le_pow_right (by omega) h10
  have hlt := iterA_lt hg (two_lt ha)
  obtain ⟨e, he, hq⟩ := loop_spec (f := b_X6_distanceOf_8 kn (nI L.length) on ot (nI k) (nI b) w) (fun s => ∃ d, d ≤ n + 1 ∧ s = (nI (iter (stepA r n) d (2 ^ a)), nI d) ∧ ∀ e, e < d → ¬ (iter (stepA r n) e (2 ^ a)).testBit b = true) (fun s => n + 1 - s.2.toNatClampNeg) (fun e => ∃ v, Sum.elim (fun v => some v) (fun _ => some (-1 : Int32)) e = some v ∧ Dst r n a b v) (by
    rintro s ⟨d, hd, rfl, hno⟩
    have hl := hlt d
    unfold b_X6_distanceOf_8
    dsimp only
    rw [chk_in (vp_in_nI hk (by omega)), nI_clamp (by omega), nI_clamp (by omega), hn]
    by_cases q : d = n + 1
    · right
      rw [if_pos (nI_lt (by omega) (by omega))]
      exact ⟨_, rfl, _, rfl, Or.inr ⟨rfl, ball_no hg ha (hno _ (by omega))⟩⟩
    · rw [if_neg (nI_nlt (by omega) (by omega))]
      by_cases c : (iter (stepA r n) d (2 ^ a)).testBit b = true
      · right
        rw [if_pos ((nI_bit (by omega) (by omega)).mpr c)]
        refine ⟨_, rfl, _, rfl, Or.inl ⟨d, ?_, rfl, c, hno⟩⟩
        rcases Nat.lt_or_ge d n with z | z
        · exact z
        · have : d = n - 1 + (d - (n - 1)) := by omega
          rw [this, ball_fix hg ha] at c
          exact absurd c (hno _ (by omega))
      · left
        rw [if_neg (fun z => c ((nI_bit (by omega) (by omega)).mp z)), dist_step ex hg hL h45 hs hw hr hl]
        simp only [Option.bind_some]
        refine ⟨_, rfl, ⟨d + 1, by omega, by rw [nI_1]; rfl, fun e he => ?_⟩, ?_⟩
        · by_cases z : e = d
          · rw [z]; exact c
          · exact hno e (by omega)
        · dsimp only
          rw [nI_1, nI_clamp (by omega)]
          omega) (nI (2 ^ a), (0 : Int32)) ⟨0, by omega, rfl, fun e h => by omega⟩
  obtain ⟨v, hv, hd⟩ := hq
  refine ⟨v, ?_, hd⟩
  unfold s_X6_distanceOf
  rw [nI_two (by omega), he]
  exact hv
/-- the class: the edge of the ball -/
theorem few_loop {cK : Nat → Int32} {cF : Nat → Nat → Int32} {p : Fin 5} {n a b : Nat} {r r' : Nat → Nat} (hn : cK p.1 = nI n) (hg : Gr n r) (hg' : Gr n r') (h3 : ∀ a, a < 10 → cF p.1 a = nI (r a)) (hsub : ∀ j c, j ≠ a → j ≠ b → (r j).testBit c = (r' j).testBit c) (ha : a < n) (hb : b < n) (hab : a ≠ b) : ∃ e, loop (b_X2_fewestLines_42 cK cF p (nI b)) (nI (2 ^ a), nI (r' a), (1 : Int32)) = some e ∧ ∃ v, Sum.elim (fun v => some v) (fun _ => some (-1 : Int32)) e = some v ∧ Dst r' n a b v := by
  have h10 := hg.2.1
  have h31 : 2 ^ n ≤ 2 ^ 10 := Nat.pow_le_pow_right (by omega) h10
  have hlt := iterA_lt hg' (two_lt ha)
  have hself : ∀ d, (iter (stepA r' n) d (2 ^ a)).testBit a = true := fun d => by
    have := ball_up r' n a 0 d a ((two_bit a a).mpr rfl)
    rw [Nat.zero_add] at this
    exact this
  refine loop_spec (f := b_X2_fewestLines_42 cK cF p (nI b)) (fun s => ∃ d m, d + 1 ≤ n ∧ s = (nI (iter (stepA r' n) d (2 ^ a)), nI m, nI (d + 1)) ∧ m < 2 ^ n ∧ (∀ c, m.testBit c = true ↔ ((iter (stepA r' n) (d + 1) (2 ^ a)).testBit c = true ∧ ¬ (iter (stepA r' n) d (2 ^ a)).testBit c = true)) ∧ ∀ e, e < d + 1 → ¬ (iter (stepA r' n) e (2 ^ a)).testBit b = true) (fun s => n + 1 - s.2.2.toNatClampNeg) _ ?_ _ ⟨0, r' a, by omega, rfl, hg'.2.2.1 a ha, fun c => ?_, fun e he => ?_⟩
  · rintro s ⟨d, m, hd, rfl, hm, hmb, hno⟩
    have hl := hlt d
    have hl1 := hlt (d + 1)
    unfold b_X2_fewestLines_42
    dsimp only
    rw [hn, nI_clamp (by omega)]
    by_cases q : d + 1 = n
    · right
      rw [if_pos (nI_le (by omega) (by omega))]
      exact ⟨_, rfl, _, rfl, Or.inr ⟨rfl, ball_no hg' ha (hno _ (by omega))⟩⟩
    · rw [if_neg (nI_ge (by omega) (by omega))]
      by_cases c : m.testBit b = true
      · right
        rw [if_pos ((nI_bit (by omega) (by omega)).mpr c)]
        exact ⟨_, rfl, _, rfl, Or.inl ⟨d + 1, by omega, rfl, ((hmb b).mp c).1, hno⟩⟩
      · left
        have hnb : ¬ (iter (stepA r' n) (d + 1) (2 ^ a)).testBit b = true := fun z => c ((hmb b).mpr ⟨z, hno d (by omega)⟩)
        have hor : iter (stepA r' n) d (2 ^ a) ||| m = iter (stepA r' n) (d + 1) (2 ^ a) := by
          apply Nat.eq_of_testBit_eq
          intro c
          apply Bool.eq_iff_iff.mpr
          rw [Nat.testBit_or, Bool.or_eq_true, hmb c]
          constructor
          · rintro (h | h)
            · exact stepA_sub r' n _ c h
            · exact h.1
          · intro h
            by_cases z : (iter (stepA r' n) d (2 ^ a)).testBit c = true
            · exact Or.inl z
            · exact Or.inr ⟨h, z⟩
        rw [if_neg (fun z => c ((nI_bit (by omega) (by omega)).mp z)), s_besideSet (by omega) hn hg h3]
        simp only [Option.bind_some]
        rw [nI_or, hor, nI_andn]
        have hol := orA_lt' hg m n
        refine ⟨_, rfl, ⟨d + 1, _, by omega, by rw [nI_1], Nat.lt_of_le_of_lt (andn_le _ _) hol, fun c => ?_, fun e he => ?_⟩, ?_⟩
        · rw [andn_bit _ _ (by omega), Bool.and_eq_true, orA_bit]
          have hx : iter (stepA r' n) (d + 1 + 1) (2 ^ a) = iter (stepA r' n) (d + 1) (2 ^ a) ||| orA r' (iter (stepA r' n) (d + 1) (2 ^ a)) n := rfl
          rw [hx, Nat.testBit_or, Bool.or_eq_true, orA_bit]
          constructor
          · rintro ⟨⟨j, h1, h2, h4⟩, h5⟩
            have h6 := (hmb j).mp h2
            have hja : j ≠ a := fun z => h6.2 (by rw [z]; exact hself d)
            have hjb : j ≠ b := fun z => hnb (by rw [← z]; exact h6.1)
            rw [hsub j c hja hjb] at h4
            refine ⟨Or.inr ⟨j, h1, h6.1, h4⟩, ?_⟩
            intro z; rw [z] at h5; exact absurd h5 (by decide)
          · rintro ⟨h1 | ⟨j, h1, h2, h4⟩, h5⟩
            · exact absurd h1 h5
            · have hjd : ¬ (iter (stepA r' n) d (2 ^ a)).testBit j = true := by
                intro z
                apply h5
                show (iter (stepA r' n) d (2 ^ a) ||| orA r' (iter (stepA r' n) d (2 ^ a)) n).testBit c = true
                rw [Nat.testBit_or, (orA_bit c n).mpr ⟨j, h1, z, h4⟩, Bool.or_true]
              have hja : j ≠ a := fun z => hjd (by rw [z]; exact hself d)
              have hjb : j ≠ b := fun z => hnb (by rw [← z]; exact h2)
              rw [← hsub j c hja hjb] at h4
              refine ⟨⟨j, h1, (hmb j).mpr ⟨h2, hjd⟩, h4⟩, ?_⟩
              rw [Bool.eq_false_iff.mpr h5]; rfl
        · by_cases z : e = d + 1
          · rw [z]; exact hnb
          · exact hno e (by omega)
        · dsimp only
          rw [nI_1, nI_clamp (by omega)]
          omega
  · have hx : iter (stepA r' n) (0 + 1) (2 ^ a) = 2 ^ a ||| orA r' (2 ^ a) n := rfl
    rw [hx, Nat.testBit_or, Bool.or_eq_true, orA_bit]
    show _ ↔ _ ∧ ¬ (2 ^ a).testBit c = true
    rw [two_bit]
    constructor
    · intro h
      refine ⟨Or.inr ⟨a, ha, (two_bit a a).mpr rfl, h⟩, fun z => ?_⟩
      rw [← z, hg'.2.2.2.2.2] at h
      exact absurd h (by decide)
    · rintro ⟨h | ⟨j, h1, h2, h4⟩, h5⟩
      · exact absurd h h5
      · rw [two_bit] at h2; rw [h2]; exact h4
  · rw [show e = 0 by omega]
    intro z
    exact hab ((two_bit a b).mp z)
theorem Dst_self (r : Nat → Nat) {n a : Nat} (ha : a < n) : Dst r n a a 0 := Or.inl ⟨0, by omega, rfl, (two_bit a a).mpr rfl, fun e h => by omega⟩
theorem few_direct {cK : Nat → Int32} {cF : Nat → Nat → Int32} {p : Fin 5} {n a b : Nat} {r : Nat → Nat} (hn : cK p.1 = nI n) (hg : Gr n r) (h3 : ∀ a, a < 10 → cF p.1 a = nI (r a)) (ha : a < n) (hb : b < n) : ∃ v, s_X2_fewestLines cK cF p (nI a) (nI b) (1 : Int32) = some v ∧ Dst r n a b v := by
  have h10 := hg.2.1
  unfold s_X2_fewestLines
  by_cases q : a = b
  · subst q
    rw [if_pos rfl]
    exact ⟨_, rfl, Dst_self r ha⟩
  · rw [if_neg (fun z => q ((nI_eq (by omega) (by omega)).mp z)), if_neg (show ¬ ((1 : Int32) = 0) by decide), chk_in (vp_in_nI (by omega) (by omega)), nI_clamp (by omega), h3 a (by omega), nI_two (by omega)]
    obtain ⟨e, he, v, h1, h2⟩ := few_loop (p := p) hn hg hg h3 (fun _ _ _ _ => rfl) ha hb q
    rw [he]
    exact ⟨v, h1, h2⟩
theorem few_around {cK : Nat → Int32} {cF : Nat → Nat → Int32} {p : Fin 5} {n a b : Nat} {r : Nat → Nat} (hn : cK p.1 = nI n) (hg : Gr n r) (h3 : ∀ a, a < 10 → cF p.1 a = nI (r a)) (ha : a < n) (hb : b < n) (hab : a ≠ b) : ∃ v, s_X2_fewestLines cK cF p (nI a) (nI b) (0 : Int32) = some v ∧ Dst (rB r a b) n a b v := by
  have h10 := hg.2.1
  unfold s_X2_fewestLines lt'
  rw [if_neg (fun z => hab ((nI_eq (by omega) (by omega)).mp z)), if_pos rfl, chk_in (vp_in_nI (by omega) (by omega)), nI_clamp (by omega), h3 a (by omega), nI_two (by omega), nI_two (by omega), nI_andn]
  obtain ⟨e, he, v, h1, h2⟩ := few_loop (p := p) (r' := rB r a b) hn hg (Gr_rB hg hab ha hb) h3 (fun j c h4 h5 => by unfold rB; rw [if_neg h4, if_neg h5]) ha hb hab
  have e2 : rB r a b a = andn (r a) (2 ^ b) := by unfold rB; rw [if_pos rfl]
  rw [e2] at he
  dsimp only
  rw [he]
  exact ⟨v, h1, h2⟩
theorem lines_rows {n : Nat} {r : Nat → Nat} (hg : Gr n r) (y c : Nat) : (r y).testBit c = true ↔ ∃ l, ∃ h : l < (linesP r n).length, ((linesP r n)[l] = (y, c) ∨ (linesP r n)[l] = (c, y)) := by
  constructor
  · intro h
    have hy : y < n := by
      rcases Nat.lt_or_ge y n with q | q
      · exact q
      · rw [hg.2.2.2.1 y q, Nat.zero_testBit] at h; cases h
    have hc := bit_lt (hg.2.2.1 y hy) h
    rcases Nat.lt_trichotomy y c with q | q | q
    · obtain ⟨l, hl, e⟩ := List.getElem_of_mem (lines_mem.mpr (show (y, c).1 < (y, c).2 ∧ _ from ⟨q, hc, h⟩))
      exact ⟨l, hl, Or.inl e⟩
    · rw [q, hg.2.2.2.2.2] at h; cases h
    · rw [hg.2.2.2.2.1] at h
      obtain ⟨l, hl, e⟩ := List.getElem_of_mem (lines_mem.mpr (show (c, y).1 < (c, y).2 ∧ _ from ⟨q, hy, h⟩))
      exact ⟨l, hl, Or.inr e⟩
  · rintro ⟨l, hl, h | h⟩
    · have := lines_mem.mp (List.getElem_mem hl)
      rw [h] at this
      exact this.2.2
    · have := lines_mem.mp (List.getElem_mem hl)
      rw [h] at this
      rw [hg.2.2.2.2.1]; exact this.2.2
theorem lines_small {n : Nat} {r : Nat → Nat} : ∀ y, y ∈ linesP r n → y.1 < n ∧ y.2 < n := fun y hy => by
  have := lines_mem.mp hy
  omega
theorem pure_distance {kn ne cK : Nat → Int32} {cF : Nat → Nat → Int32} (ma : Int32) (on ot : Nat → Int32) (inv : Inv kn ne cK cF) (a0 a1 a2 : Int32) : ∃ (v : Int32) (ma' : Int32) (on' ot' : Nat → Int32), s_X5_distance cK cF a0 a1 a2 = some v ∧ s_X6_distance kn ne ma on ot a0 a1 a2 = some (v, ma', on', ot') := by
  have hbad : s_X5_distance cK cF a0 a1 a2 = some (-2) → s_X6_distance kn ne ma on ot a0 a1 a2 = some (-2, ma, on, ot) → ∃ (v : Int32) (ma' : Int32) (on' ot' : Nat → Int32), s_X5_distance cK cF a0 a1 a2 = some v ∧ s_X6_distance kn ne ma on ot a0 a1 a2 = some (v, ma', on', ot') := fun h g => ⟨-2, ma, on, ot, h, g⟩
  rcases net_or a0 with h | ⟨k, hk, rfl⟩
  · exact hbad (by unfold s_X5_distance; rw [netAt_no h]; rfl) (by unfold s_X6_distance; rw [isKnot_nonet h]; rfl)
  · obtain ⟨N, r, hi⟩ := id inv
    obtain ⟨hg, b1, b2, b3⟩ := hi k hk
    have hf : (fin5 k).1 = k := fin5_val (by omega)
    have h10 := hg.2.1
    have h1 := hg.1
    have hle := lines_le hg
    have b2' : cK (fin5 k).1 = nI (N k) := by rw [hf]; exact b2
    rcases knot_or a1 h10 with h | ⟨a, ha, rfl⟩
    · exact hbad (by unfold s_X5_distance s_X2_hasKnots; rw [netAt_yes hk]; simp only [Option.bind_some, Option.elim_some]; rw [hasKnot_no b2' h]; rfl) (by unfold s_X6_distance; rw [isKnot_no hk b1 h1 h10 h]; rfl)
    · rcases knot_or a2 h10 with h | ⟨b, hb, rfl⟩
      · exact hbad (by unfold s_X5_distance s_X2_hasKnots; rw [netAt_yes hk]; simp only [Option.bind_some, Option.elim_some]; rw [hasKnot_yes b2' h10 ha, hasKnot_no b2' h]; rfl) (by unfold s_X6_distance; rw [isKnot_yes hk b1 h10 ha, isKnot_no hk b1 h1 h10 h]; rfl)
      · obtain ⟨on', ot', l1, l2⟩ := s_layLines hk b1 hg (fun a ha => (b3 a ha).1) ma on ot
        obtain ⟨v, e1, e2⟩ := few_direct (p := fin5 k) (cF := cF) b2' hg (fun a ha => by rw [hf]; exact (b3 a ha).2) ha hb
        obtain ⟨v', e3, e4⟩ := s_distanceOf (w := (-1 : Int32)) (fun _ => False) hk b1 hg l2 hle lines_small (fun l hl => ⟨fun z => nI_ne_m1 (by omega) z, False.elim⟩) (fun y c => by
          rw [lines_rows hg]
          constructor
          · rintro ⟨l, hl, h⟩; exact ⟨l, hl, id, h⟩
          · rintro ⟨l, hl, -, h⟩; exact ⟨l, hl, h⟩) ha hb
        rw [Dst_one e4 e2] at e3
        refine ⟨v, nI (linesP (r k) (N k)).length, on', ot', ?_, ?_⟩
        · unfold s_X5_distance s_X2_hasKnots
          rw [netAt_yes hk]
          simp only [Option.bind_some, Option.elim_some]
          rw [hasKnot_yes b2' h10 ha, hasKnot_yes b2' h10 hb]
          simp only [Option.bind_some]
          rw [if_neg (show ¬ ((1 : Int32) = 0) by decide), if_neg (show ¬ ((1 : Int32) = 0) by decide)]
          simp only [Option.bind_some]
          rw [if_neg (show ¬ ((1 : Int32) = 0) by decide), e1]
          rfl
        · unfold s_X6_distance
          rw [isKnot_yes hk b1 h10 ha, isKnot_yes hk b1 h10 hb]
          simp only [Option.bind_some]
          rw [if_neg (show ¬ ((1 : Int32) = 0) by decide), if_neg (show ¬ ((1 : Int32) = 0) by decide), l1]
          simp only [Option.bind_some]
          rw [e3]
          rfl
theorem op_distance (a0 : Int32) (a1 : Int32) (a2 : Int32) : OpI Sim mX5_distance mX6_distance [vI a0, vI a1, vI a2] := by
  rintro wc wm ⟨cK, cF, ga, gi, gs, oK, cT, ra, rb, cR, cP, cM, ea, eb, cW, aO, aC, aQ, kn, ne, fi, se, ma, on, ot, ta, po, ti, nu, mo, wa, nx, oT, cF', bg, ed, sF, qu, qd, tr, rfl, rfl, inv, h1, h2⟩
  obtain ⟨v, ma1, on1, ot1, e1, e2⟩ := pure_distance ma on ot inv a0 a1 a2
  exact ⟨v, _, _, c_X5_distance (d := 6) e1, c_X6_distance (d := 5) e2, _, _, _, _, _, _, _, _, _, _, _, _, _, _, _, _, _, _, _, _, _, _, _, _, _, _, _, _, _, _, _, _, _, _, _, _, _, _, _, _, rfl, rfl, inv, h1, h2⟩
