/-! the table of a net with its signs -/
def te (r : Nat → Nat) (n s i j : Nat) : Int64 := if (r i).testBit j = true then (if 31 ≤ pos r n i j then 1 else if s.testBit (pos r n i j) = true then -1 else 1) else 0
def tb (r : Nat → Nat) (n s i j : Nat) : Int64 := if i < j then te r n s i j else if j < i then te r n s j i else 0
/-- the class's entry for it -/
def ti32 (x : Int64) : Int32 := if x = 0 then 0 else if x = 1 then 1 else -1
theorem ti32_0 : ti32 0 = 0 := by decide
theorem ti32_1 : ti32 1 = 1 := by decide
theorem ti32_m : ti32 (-1) = -1 := by decide
theorem te_or (r : Nat → Nat) (n s i j : Nat) : te r n s i j = 0 ∨ te r n s i j = 1 ∨ te r n s i j = -1 := by
  unfold te
  by_cases h1 : (r i).testBit j = true
  · rw [if_pos h1]
    by_cases h2 : 31 ≤ pos r n i j
    · rw [if_pos h2]; exact Or.inr (Or.inl rfl)
    · rw [if_neg h2]
      by_cases h3 : s.testBit (pos r n i j) = true
      · rw [if_pos h3]; exact Or.inr (Or.inr rfl)
      · rw [if_neg h3]; exact Or.inr (Or.inl rfl)
  · rw [if_neg h1]; exact Or.inl rfl
theorem tb_or (r : Nat → Nat) (n s i j : Nat) : tb r n s i j = 0 ∨ tb r n s i j = 1 ∨ tb r n s i j = -1 := by
  unfold tb
  by_cases h : i < j
  · rw [if_pos h]; exact te_or r n s i j
  · rw [if_neg h]
    by_cases h2 : j < i
    · rw [if_pos h2]; exact te_or r n s j i
    · rw [if_neg h2]; exact Or.inl rfl
theorem ti32_l {x : Int64} (h : x = 0 ∨ x = 1 ∨ x = -1) : (ti32 x).toInt64 = x := by
  rcases h with rfl | rfl | rfl <;> decide
theorem ti32_z {x : Int64} (h : x = 0 ∨ x = 1 ∨ x = -1) : ti32 x = 0 ↔ x = 0 := by
  rcases h with rfl | rfl | rfl <;> decide
theorem tb_sym (r : Nat → Nat) (n s i j : Nat) : tb r n s i j = tb r n s j i := by
  unfold tb
  rcases Nat.lt_trichotomy i j with h | h | h
  · rw [if_pos h, if_neg (by omega), if_pos h]
  · subst h; rfl
  · rw [if_neg (by omega), if_pos h, if_pos h]
theorem tb_lt {r : Nat → Nat} {n s i j : Nat} (h : i < j) : tb r n s i j = te r n s i j := if_pos h
theorem tb_gt {r : Nat → Nat} {n s i j : Nat} (h : i < j) : tb r n s j i = te r n s i j := by rw [tb_sym]; exact if_pos h
theorem tb_self (r : Nat → Nat) (n s i : Nat) : tb r n s i i = 0 := by unfold tb; rw [if_neg (by omega), if_neg (by omega)]
/-- the entries that the class has filled: both knots below a, or one below and the other in row a up to b -/
def Fil (r : Nat → Nat) (n s a b : Nat) (cT : Nat → Nat → Int32) : Prop := ∀ i j, i < n → j < n → (i < a ∨ j < a ∨ (i = a ∧ j < b) ∨ (j = a ∧ i < b)) → cT i j = ti32 (tb r n s i j)
theorem fill_put {r : Nat → Nat} {n s a b : Nat} {cT : Nat → Nat → Int32} (h10 : n ≤ 10) (hab : a < b) (hb : b < n) (hF : Fil r n s a b cT) : Fil r n s a (b + 1) (va_up (va_up cT (fin10 a).1 (upd (cT (fin10 a).1) b (ti32 (te r n s a b)))) (fin10 b).1 (upd ((va_up cT (fin10 a).1 (upd (cT (fin10 a).1) b (ti32 (te r n s a b)))) (fin10 b).1) a (ti32 (te r n s a b)))) := by
  rw [fin10_val (show a < 10 by omega), fin10_val (show b < 10 by omega)]
  intro i j hi hj h
  by_cases e1 : i = b
  · subst e1
    rw [va_up_self]
    by_cases e2 : j = a
    · subst e2; rw [pk_us, tb_gt hab]
    · rw [pk_un e2, va_up_ne _ _ (by omega)]
      exact hF i j hi hj (by omega)
  · rw [va_up_ne _ _ e1]
    by_cases e2 : i = a
    · subst e2
      rw [va_up_self]
      by_cases e3 : j = b
      · subst e3; rw [pk_us, tb_lt hab]
      · rw [pk_un e3]; exact hF i j hi hj (by omega)
    · rw [va_up_ne _ _ e2]
      exact hF i j hi hj (by omega)
theorem fill_in {cF : Nat → Nat → Int32} {p : Fin 5} {n a s : Nat} {r : Nat → Nat} {cT : Nat → Nat → Int32} (hg : Gr n r) (h3 : ∀ a, a < 10 → cF p.1 a = nI (r a)) (hs : s < 2 ^ 31) (ha : a < n) (hF : Fil r n s a (a + 1) cT) : ∃ cT', loop (b_X3_fillTable_31 cF (nI n) p (nI s) (nI a)) (nI (pos r n a (a + 1)), nI (a + 1), cT) = some (nI (pos r n a n), cT') ∧ Fil r n s a n cT' := by
  have h10 := hg.2.1
  have hle := lines_le hg
  obtain ⟨e, he, cT', rfl, h⟩ := loop_cnt (f := b_X3_fillTable_31 cF (nI n) p (nI s) (nI a)) (fun b x => a < b ∧ ∃ cT', x = (nI (pos r n a b), nI b, cT') ∧ Fil r n s a b cT') n (fun e => ∃ cT', e = (nI (pos r n a n), cT') ∧ Fil r n s a n cT') (by
    rintro b x hb ⟨hab, cT', rfl, hf⟩
    have hp := pos_le (r := r) ha (Nat.le_of_lt hb)
    have hput := fill_put h10 hab hb hf
    have hck1 : vp_in (nI a) 10 := vp_in_nI (by omega) (by omega)
    have hck2 : vp_in (nI b) 10 := vp_in_nI (by omega) (by omega)
    unfold b_X3_fillTable_31
    dsimp only
    rw [if_neg (nI_ge hb (by omega)), s_joins (by omega) (by omega) (Gr_lt hg a) (h3 a (by omega))]
    simp only [Option.bind_some, chk_in hck1, chk_in hck2]
    rw [nI_clamp (by omega), nI_clamp (by omega), nI_1, nI_1]
    by_cases q : (r a).testBit b = true
    · obtain ⟨p1, p2, p3⟩ := pos_yes hab hb q
      rw [if_neg (b2i_true q), p1]
      by_cases c1 : 31 ≤ pos r n a b
      · have ht : ti32 (te r n s a b) = 1 := by unfold te; rw [if_pos q, if_pos c1]; decide
        rw [ht] at hput
        rw [if_pos (by rw [show (31 : Int32) = nI 31 by decide]; exact nI_le c1 (by omega))]
        exact ⟨_, rfl, by omega, _, rfl, hput⟩
      · rw [if_neg (by rw [show (31 : Int32) = nI 31 by decide]; exact nI_ge (by omega) (by omega))]
        by_cases c2 : s.testBit (pos r n a b) = true
        · have ht : ti32 (te r n s a b) = -1 := by unfold te; rw [if_pos q, if_neg c1, if_pos c2]; decide
          rw [ht] at hput
          rw [if_pos ((nI_bit hs (by omega)).mpr c2)]
          exact ⟨_, rfl, by omega, _, rfl, hput⟩
        · have ht : ti32 (te r n s a b) = 1 := by unfold te; rw [if_pos q, if_neg c1, if_neg c2]; decide
          rw [ht] at hput
          rw [if_neg (fun z => c2 ((nI_bit hs (by omega)).mp z))]
          exact ⟨_, rfl, by omega, _, rfl, hput⟩
    · have ht : ti32 (te r n s a b) = 0 := by unfold te; rw [if_neg q]; decide
      rw [ht] at hput
      rw [if_pos (b2i_false q), pos_no q]
      exact ⟨_, rfl, by omega, _, rfl, hput⟩) (by
    rintro x ⟨hab, cT', rfl, h⟩
    unfold b_X3_fillTable_31
    dsimp only
    rw [if_pos (nI_le (Nat.le_refl _) (by omega))]
    exact ⟨_, rfl, cT', rfl, h⟩) (a + 1) (nI (pos r n a (a + 1)), nI (a + 1), cT) (by omega) ⟨by omega, cT, rfl, hF⟩
  exact ⟨cT', he, h⟩
theorem s_fillTable {cF : Nat → Nat → Int32} {p : Fin 5} {n s : Nat} {r : Nat → Nat} (cT : Nat → Nat → Int32) (hg : Gr n r) (h3 : ∀ a, a < 10 → cF p.1 a = nI (r a)) (hs : s < 2 ^ 31) : ∃ cT', s_X3_fillTable cF (nI n) cT p (nI s) = some cT' ∧ ∀ i j, i < n → j < n → cT' i j = ti32 (tb r n s i j) := by
  have h10 := hg.2.1
  obtain ⟨e, he, h⟩ := loop_cnt (f := b_X3_fillTable_5 cF (nI n) p (nI s)) (fun a x => ∃ cT', x = (nI (allP r n a).length, nI a, cT') ∧ Fil r n s a 0 cT') n (fun e => ∀ i j, i < n → j < n → e i j = ti32 (tb r n s i j)) (by
    rintro a x ha ⟨cT', rfl, hf⟩
    have hf2 : Fil r n s a (a + 1) (va_up cT' (fin10 a).1 (upd (cT' (fin10 a).1) a 0)) := by
      rw [fin10_val (by omega)]
      intro i j hi hj h
      by_cases e1 : i = a
      · subst e1
        rw [va_up_self]
        by_cases e2 : j = i
        · subst e2; rw [pk_us, tb_self]; rfl
        · rw [pk_un e2]; exact hf i j hi hj (by omega)
      · rw [va_up_ne _ _ e1]; exact hf i j hi hj (by omega)
    obtain ⟨cT2, e1, e2⟩ := fill_in hg h3 hs ha hf2
    unfold b_X3_fillTable_5
    dsimp only
    rw [if_neg (nI_ge ha (by omega)), chk_in (vp_in_nI (by omega) (by omega)), chk_in (vp_in_nI (by omega) (by omega)), nI_clamp (by omega), nI_1, ← pos_first, e1]
    simp only [Option.bind_some]
    rw [pos_last]
    refine ⟨_, rfl, cT2, rfl, fun i j hi hj h => e2 i j hi hj (by omega)⟩) (by
    rintro x ⟨cT', rfl, h⟩
    unfold b_X3_fillTable_5
    dsimp only
    rw [if_pos (nI_le (Nat.le_refl _) (by omega))]
    exact ⟨_, rfl, fun i j hi hj => h i j hi hj (by omega)⟩) 0 ((0 : Int32), (0 : Int32), cT) (by omega) ⟨cT, rfl, fun i j hi hj h => by omega⟩
  refine ⟨e, ?_, h⟩
  unfold s_X3_fillTable
  rw [he]
  rfl
/-! the reference's table -/
theorem tb_row {n s i j : Nat} {r : Nat → Nat} (hg : Gr n r) (hi : i < n) (hj : j < n) : (∃ l, l < (linesP r n).length ∧ (ln r n l = (i, j) ∨ ln r n l = (j, i)) ∧ tb r n s i j = (if 31 ≤ l then 1 else if s.testBit l = true then -1 else 1)) ∨ ((∀ l, l < (linesP r n).length → ¬ (ln r n l = (i, j) ∨ ln r n l = (j, i))) ∧ tb r n s i j = 0) := by
  have key : ∀ i j, i < j → j < n → (∃ l, l < (linesP r n).length ∧ (ln r n l = (i, j) ∨ ln r n l = (j, i)) ∧ te r n s i j = (if 31 ≤ l then 1 else if s.testBit l = true then -1 else 1)) ∨ ((∀ l, l < (linesP r n).length → ¬ (ln r n l = (i, j) ∨ ln r n l = (j, i))) ∧ te r n s i j = 0) := by
    intro i j hij hj
    by_cases q : (r i).testBit j = true
    · obtain ⟨p1, p2, p3⟩ := pos_yes hij hj q
      left
      refine ⟨pos r n i j, p2, Or.inl p3, ?_⟩
      unfold te; rw [if_pos q]
    · right
      refine ⟨fun l hl h => ?_, by unfold te; rw [if_neg q]⟩
      have hm := ln_mem hl
      rcases h with h | h
      · rw [h] at hm; exact q hm.2.2
      · rw [h] at hm; dsimp only at hm; omega
  rcases Nat.lt_trichotomy i j with q | q | q
  · rw [tb_lt q]; exact key i j q hj
  · subst q
    right
    refine ⟨fun l hl h => ?_, tb_self _ _ _ _⟩
    have hm := ln_mem hl
    rcases h with h | h <;> rw [h] at hm <;> dsimp only at hm <;> omega
  · rw [tb_gt q]
    rcases key j i q hi with ⟨l, h1, h2, h3⟩ | ⟨h1, h2⟩
    · exact Or.inl ⟨l, h1, h2.symm, h3⟩
    · exact Or.inr ⟨fun l hl h => h1 l hl h.symm, h2⟩
theorem ln_inj {r : Nat → Nat} {n i j : Nat} (hi : i < (linesP r n).length) (hj : j < (linesP r n).length) (h : ln r n i = ln r n j) : i = j := lines_inj hi hj (by rw [ln_get hi, ln_get hj, h])
theorem lt_zero (ta : Nat → Int64) : ∃ ta', loop b_X6_layTable_7 ((0 : Int32), ta) = some ta' ∧ ∀ x, x < 100 → ta' x = 0 :=
  loop_cnt (f := b_X6_layTable_7) (fun i x => ∃ f, x = (nI i, f) ∧ ∀ c, c < i → f c = 0) 100 (fun f => ∀ c, c < 100 → f c = 0) (by
    rintro i x hi ⟨f, rfl, h⟩
    unfold b_X6_layTable_7
    dsimp only
    rw [if_neg (by rw [show (100 : Int32) = nI 100 by decide]; exact nI_ge hi (by omega)), chk_in (vp_in_nI (by omega) (by omega)), nI_clamp (by omega), nI_1]
    refine ⟨_, rfl, _, rfl, fun c hc => ?_⟩
    by_cases q : c = i
    · rw [q, pk_uLs]
    · rw [pk_uLn q]; exact h c (by omega)) (by
    rintro x ⟨f, rfl, h⟩
    unfold b_X6_layTable_7
    dsimp only
    rw [if_pos (by decide)]
    exact ⟨_, rfl, h⟩) 0 _ (by omega) ⟨ta, rfl, fun c hc => by omega⟩
theorem s_layTable {kn ne : Nat → Int32} {k n s : Nat} {r : Nat → Nat} (hk : k < 4) (hn : kn k = nI n) (hg : Gr n r) (h3 : ∀ a, a < 10 → ne (10 * k + a) = nI (r a)) (hs : s < 2 ^ 31) (ma : Int32) (on ot : Nat → Int32) (ta : Nat → Int64) : ∃ ma' on' ot' ta', s_X6_layTable kn ne ma on ot ta (nI k) (nI s) = some (ma', on', ot', ta') ∧ ∀ i j, i < n → j < n → ta' (10 * i + j) = tb r n s i j := by
  have h10 := hg.2.1
  have hle := lines_le hg
  obtain ⟨on', ot', l1, l2⟩ := s_layLines hk hn hg h3 ma on ot
  obtain ⟨ta0, z1, z2⟩ := lt_zero ta
  obtain ⟨ta', e1, e2⟩ := loop_cnt (f := b_X6_layTable_28 (nI (linesP r n).length) on' ot' (nI s)) (fun l x => ∃ f, x = (nI l, f) ∧ ∀ i j, i < n → j < n → ((∃ m, m < l ∧ (ln r n m = (i, j) ∨ ln r n m = (j, i)) ∧ f (10 * i + j) = (if 31 ≤ m then 1 else if s.testBit m = true then -1 else 1)) ∨ ((∀ m, m < l → ¬ (ln r n m = (i, j) ∨ ln r n m = (j, i))) ∧ f (10 * i + j) = 0))) (linesP r n).length (fun f => ∀ i j, i < n → j < n → f (10 * i + j) = tb r n s i j) (by
    rintro l x hl ⟨f, rfl, h⟩
    obtain ⟨o1, o2⟩ := ln_lay l2 hl
    obtain ⟨m1, m2, -⟩ := ln_mem hl
    have hck : vp_in (nI l) 45 := vp_in_nI (by omega) (by omega)
    have fin : ∀ v : Int64, v = (if 31 ≤ l then 1 else if s.testBit l = true then -1 else 1) → ∃ y, (some (Sum.inl (nI (l + 1), vp_updL (vp_updL f (10 * (ln r n l).1 + (ln r n l).2) v) (10 * (ln r n l).2 + (ln r n l).1) v)) : Option ((Int32 × (Nat → Int64)) ⊕ (Nat → Int64))) = some (Sum.inl y) ∧ ∃ f, y = (nI (l + 1), f) ∧ ∀ i j, i < n → j < n → ((∃ m, m < l + 1 ∧ (ln r n m = (i, j) ∨ ln r n m = (j, i)) ∧ f (10 * i + j) = (if 31 ≤ m then 1 else if s.testBit m = true then -1 else 1)) ∨ ((∀ m, m < l + 1 → ¬ (ln r n m = (i, j) ∨ ln r n m = (j, i))) ∧ f (10 * i + j) = 0)) := by
      intro v hv
      refine ⟨_, rfl, _, rfl, fun i j hi hj => ?_⟩
      by_cases q : ln r n l = (i, j) ∨ ln r n l = (j, i)
      · left
        refine ⟨l, by omega, q, ?_⟩
        rw [← hv]
        rcases q with q | q
        · rw [q]
          by_cases c : 10 * i + j = 10 * j + i
          · rw [c, pk_uLs]
          · rw [pk_uLn c, pk_uLs]
        · rw [q, pk_uLs]
      · have n1 : ¬ 10 * i + j = 10 * (ln r n l).2 + (ln r n l).1 := fun z => q (Or.inr (Prod.ext (by omega) (by omega)))
        have n2 : ¬ 10 * i + j = 10 * (ln r n l).1 + (ln r n l).2 := fun z => q (Or.inl (Prod.ext (by omega) (by omega)))
        rw [pk_uLn n1, pk_uLn n2]
        rcases h i j hi hj with ⟨m, h1, h2, h3⟩ | ⟨h1, h2⟩
        · exact Or.inl ⟨m, by omega, h2, h3⟩
        · refine Or.inr ⟨fun m hm z => ?_, h2⟩
          by_cases e : m = l
          · rw [e] at z; exact q z
          · exact h1 m (by omega) z
    unfold b_X6_layTable_28
    dsimp only
    rw [if_neg (nI_ge hl (by omega)), nI_clamp (by omega), o1, o2, ix10, ix10]
    have hck1 : vp_in (nI (10 * (ln r n l).1 + (ln r n l).2)) 100 := vp_in_nI (by omega) (by omega)
    have hck2 : vp_in (nI (10 * (ln r n l).2 + (ln r n l).1)) 100 := vp_in_nI (by omega) (by omega)
    simp only [chk_in hck, chk_in hck1, chk_in hck2]
    rw [nI_clamp (by omega), nI_clamp (by omega), nI_1]
    by_cases c1 : 31 ≤ l
    · rw [if_pos (by rw [show (31 : Int32) = nI 31 by decide]; exact nI_le c1 (by omega))]
      exact fin 1 (by rw [if_pos c1])
    · rw [if_neg (by rw [show (31 : Int32) = nI 31 by decide]; exact nI_ge (by omega) (by omega))]
      by_cases c2 : s.testBit l = true
      · rw [if_pos ((nI_bit hs (by omega)).mpr c2)]
        exact fin (-1) (by rw [if_neg c1, if_pos c2])
      · rw [if_neg (fun z => c2 ((nI_bit hs (by omega)).mp z))]
        exact fin 1 (by rw [if_neg c1, if_neg c2])) (by
    rintro x ⟨f, rfl, h⟩
    unfold b_X6_layTable_28
    dsimp only
    rw [if_pos (nI_le (Nat.le_refl _) (by omega))]
    refine ⟨_, rfl, fun i j hi hj => ?_⟩
    rcases tb_row (s := s) hg hi hj with ⟨l, h1, h2, h3⟩ | ⟨h1, h2⟩
    · rcases h i j hi hj with ⟨m, g1, g2, g3⟩ | ⟨g1, g2⟩
      · rw [g3, h3]
        have hml : ln r n m = ln r n l := by
          have q1 := ln_mem h1
          have q2 := ln_mem g1
          rcases h2 with h2 | h2 <;> rcases g2 with g2 | g2 <;> rw [h2] at q1 ⊢ <;> rw [g2] at q2 ⊢ <;> dsimp only at q1 q2 <;> omega
        rw [ln_inj g1 h1 hml]
      · exact absurd h2 (g1 l h1)
    · rcases h i j hi hj with ⟨m, g1, g2, g3⟩ | ⟨g1, g2⟩
      · exact absurd g2 (h1 m g1)
      · rw [g2, h2]) 0 ((0 : Int32), ta0) (by omega) ⟨ta0, rfl, fun i j hi hj => Or.inr ⟨fun m hm => by omega, z2 _ (by omega)⟩⟩
  refine ⟨nI (linesP r n).length, on', ot', ta', ?_, e2⟩
  unfold s_X6_layTable
  rw [l1]
  simp only [Option.bind_some]
  rw [z1]
  simp only [Option.bind_some]
  rw [e1]
  rfl
