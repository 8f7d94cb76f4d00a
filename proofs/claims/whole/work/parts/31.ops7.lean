/-! a counted loop by an invariant -/
theorem loop_cnt {α β : Type} {f : α → Option (α ⊕ β)} (P : Nat → α → Prop) (n : Nat) (Q : β → Prop) (h1 : ∀ i x, i < n → P i x → ∃ y, f x = some (.inl y) ∧ P (i + 1) y) (h2 : ∀ x, P n x → ∃ r, f x = some (.inr r) ∧ Q r) : ∀ i x, i ≤ n → P i x → ∃ r, loop f x = some r ∧ Q r := by
  intro i x hi
  induction hk : n - i generalizing i x with
  | zero =>
    intro hp
    have : i = n := by omega
    subst this
    obtain ⟨r, e, q⟩ := h2 x hp
    exact ⟨r, loop_inr e, q⟩
  | succ k ih =>
    intro hp
    obtain ⟨y, e, q⟩ := h1 i x (by omega) hp
    rw [loop_inl e]
    exact ih (i + 1) y (by omega) (by omega) q
theorem nI_mod {a n : Nat} (ha : a < 2 ^ 31) (h0 : 0 < n) (hn : n < 2 ^ 31) : nI a - nI a / nI n * nI n = nI (a % n) := by
  have h : a / n * n ≤ a := Nat.div_mul_le_self a n
  rw [pk_div ha h0 hn, pk_mul, pk_sub h]
  congr 1
  have := Nat.div_add_mod a n
  rw [Nat.mul_comm] at this
  omega
/-! what a new net does -/
theorem inv_set {kn ne cK : Nat → Int32} {cF : Nat → Nat → Int32} (h : Inv kn ne cK cF) {k n : Nat} {r1 : Nat → Nat} {kn' ne' cK' : Nat → Int32} {cF' : Nat → Nat → Int32} (hg : Gr n r1) (hkn : kn' k = nI n) (hkn2 : ∀ j, j ≠ k → kn' j = kn j) (hck : cK' k = nI n) (hck2 : ∀ j, j < 4 → j ≠ k → cK' j = cK j) (hne : ∀ a, a < 10 → ne' (10 * k + a) = nI (r1 a)) (hne2 : ∀ j, ¬ (10 * k ≤ j ∧ j < 10 * k + 10) → ne' j = ne j) (hcf : ∀ a, a < 10 → cF' k a = nI (r1 a)) (hcf2 : ∀ j, j < 4 → j ≠ k → cF' j = cF j) : Inv kn' ne' cK' cF' := by
  obtain ⟨N, r, h⟩ := h
  refine ⟨fun i => if i = k then n else N i, fun i => if i = k then r1 else r i, fun i hi => ?_⟩
  by_cases e : i = k
  · subst e
    simp only [if_true]
    exact ⟨hg, hkn, hck, fun a ha => ⟨hne a ha, hcf a ha⟩⟩
  · obtain ⟨a1, a2, a3, a4⟩ := h i hi
    simp only [if_neg e]
    refine ⟨a1, by rw [hkn2 i e]; exact a2, by rw [hck2 i hi e]; exact a3, fun a ha => ⟨?_, ?_⟩⟩
    · rw [hne2 _ (by omega)]
      exact (a4 a ha).1
    · rw [hcf2 i hi e]
      exact (a4 a ha).2
/-! lines put in -/
def jn (r : Nat → Nat) (a b : Nat) : Nat → Nat := fun x => if x = b then (if b = a then r a ||| 2 ^ b else r b) ||| 2 ^ a else if x = a then r a ||| 2 ^ b else r x
theorem jn_bit {r : Nat → Nat} {a b : Nat} (hab : a ≠ b) (x y : Nat) : (jn r a b x).testBit y = ((r x).testBit y || decide ((x = a ∧ y = b) ∨ (x = b ∧ y = a))) := by
  have hba : ¬ b = a := fun q => hab q.symm
  unfold jn
  rw [if_neg hba]
  by_cases h2 : x = b
  · subst h2
    rw [if_pos rfl, Nat.testBit_or, Nat.testBit_two_pow]
    congr 1
    by_cases h3 : a = y
    · subst h3; simp
    · have : ¬ y = a := fun q => h3 q.symm
      simp [h3, this, hba]
  · rw [if_neg h2]
    by_cases h1 : x = a
    · subst h1
      rw [if_pos rfl, Nat.testBit_or, Nat.testBit_two_pow]
      congr 1
      by_cases h3 : b = y
      · subst h3; simp
      · have : ¬ y = b := fun q => h3 q.symm
        simp [h3, this, hab]
    · rw [if_neg h1]
      simp [h1, h2]
theorem Gr_jn {n a b : Nat} {r : Nat → Nat} (h : Gr n r) (ha : a < n) (hb : b < n) (hab : a ≠ b) : Gr n (jn r a b) := by
  obtain ⟨h1, h2, h3, h4, h5, h6⟩ := h
  have hba : ¬ b = a := fun q => hab q.symm
  refine ⟨h1, h2, fun x hx => ?_, fun x hx => ?_, fun x y => ?_, fun x => ?_⟩
  · unfold jn
    rw [if_neg hba]
    by_cases q2 : x = b
    · rw [if_pos q2]; exact Nat.or_lt_two_pow (h3 b hb) (two_lt ha)
    · rw [if_neg q2]
      by_cases q : x = a
      · rw [if_pos q]; exact Nat.or_lt_two_pow (h3 a ha) (two_lt hb)
      · rw [if_neg q]; exact h3 x hx
  · unfold jn
    rw [if_neg (by omega), if_neg (by omega)]
    exact h4 x hx
  · rw [jn_bit hab, jn_bit hab, h5 x y]
    congr 1
    apply decide_eq_decide.mpr
    constructor
    · rintro (⟨p, q⟩ | ⟨p, q⟩)
      · exact Or.inr ⟨q, p⟩
      · exact Or.inl ⟨q, p⟩
    · rintro (⟨p, q⟩ | ⟨p, q⟩)
      · exact Or.inr ⟨q, p⟩
      · exact Or.inl ⟨q, p⟩
  · rw [jn_bit hab, h6 x]
    have : ¬ ((x = a ∧ x = b) ∨ (x = b ∧ x = a)) := by
      rintro (⟨p, q⟩ | ⟨p, q⟩)
      · exact hab (p.symm.trans q)
      · exact hab (q.symm.trans p)
    simp [this]
theorem s_join {cF : Nat → Nat → Int32} {p : Fin 5} {a b : Nat} {r : Nat → Nat} (ha : a < 10) (hb : b < 10) (h : ∀ x, x < 10 → cF p.1 x = nI (r x)) : ∃ f, s_X2_join cF p (nI a) (nI b) = some (va_up cF p.1 f) ∧ ∀ x, x < 10 → f x = nI (jn r a b x) := by
  refine ⟨upd (upd (cF p.1) a (cF p.1 a ||| nI (2 ^ b))) b ((upd (cF p.1) a (cF p.1 a ||| nI (2 ^ b))) b ||| nI (2 ^ a)), ?_, ?_⟩
  · unfold s_X2_join
    rw [chk_in (vp_in_nI (by omega) (by omega)), chk_in (vp_in_nI (by omega) (by omega)), chk_in (vp_in_nI (by omega) (by omega)), chk_in (vp_in_nI (by omega) (by omega)), nI_clamp (by omega), nI_clamp (by omega), nI_two (by omega), nI_two (by omega), bx_uu, va_up_self]
  · intro x hx
    rw [h a ha]
    unfold jn upd
    by_cases q2 : x = b
    · subst q2
      rw [if_pos rfl, if_pos rfl]
      by_cases q3 : x = a
      · rw [if_pos q3, if_pos q3, nI_or, nI_or]
      · rw [if_neg q3, if_neg q3, h x hx, nI_or]
    · rw [if_neg q2, if_neg q2]
      by_cases q1 : x = a
      · rw [if_pos q1, if_pos q1, nI_or]
      · rw [if_neg q1, if_neg q1, h x hx]
theorem s_put {ne : Nat → Int32} {k a b : Nat} {r : Nat → Nat} (hk : k < 4) (ha : a < 10) (hb : b < 10) (h : ∀ x, x < 10 → ne (10 * k + x) = nI (r x)) : ∃ ne', s_X6_put ne (nI k) (nI a) (nI b) = some ne' ∧ (∀ x, x < 10 → ne' (10 * k + x) = nI (jn r a b x)) ∧ ∀ j, ¬ (10 * k ≤ j ∧ j < 10 * k + 10) → ne' j = ne j := by
  refine ⟨upd (upd ne (10 * k + a) (ne (10 * k + a) ||| nI (2 ^ b))) (10 * k + b) ((upd ne (10 * k + a) (ne (10 * k + a) ||| nI (2 ^ b))) (10 * k + b) ||| nI (2 ^ a)), ?_, ?_, ?_⟩
  · unfold s_X6_put
    rw [ix10, ix10, chk_in (vp_in_nI (by omega) (by omega)), chk_in (vp_in_nI (by omega) (by omega)), chk_in (vp_in_nI (by omega) (by omega)), chk_in (vp_in_nI (by omega) (by omega)), nI_clamp (by omega), nI_clamp (by omega), nI_two (by omega), nI_two (by omega)]
  · intro x hx
    rw [h a ha]
    unfold jn upd
    by_cases q2 : x = b
    · subst q2
      rw [if_pos rfl, if_pos rfl]
      by_cases q3 : x = a
      · rw [if_pos (by omega), if_pos q3, nI_or, nI_or]
      · rw [if_neg (by omega), if_neg q3, h x hx, nI_or]
    · rw [if_neg (by omega), if_neg q2]
      by_cases q1 : x = a
      · rw [if_pos (by omega), if_pos q1, nI_or]
      · rw [if_neg (by omega), if_neg q1, h x hx]
  · intro j hj
    unfold upd
    rw [if_neg (by omega), if_neg (by omega)]
/-! ring -/
def inR (n s : Nat) (r : Nat → Nat) : Nat → Nat → Nat
  | 0 => r
  | i + 1 => jn (inR n s r i) i ((i + s) % n)
def outR (n st : Nat) : Nat → Nat → Nat
  | 0 => fun _ => 0
  | s + 1 => if st.testBit s = true then inR n (s + 1) (outR n st s) n else outR n st s
theorem ring_ne {n s i : Nat} (hs : 1 ≤ s) (h2 : s ≤ n / 2) (hi : i < n) : i ≠ (i + s) % n := by
  rcases Nat.lt_or_ge (i + s) n with q | q
  · rw [Nat.mod_eq_of_lt q]; omega
  · rw [Nat.mod_eq_sub_mod q, Nat.mod_eq_of_lt (by omega)]; omega
theorem inR_gr {n s : Nat} {r : Nat → Nat} (hg : Gr n r) (hs : 1 ≤ s) (h2 : s ≤ n / 2) : ∀ i, i ≤ n → Gr n (inR n s r i)
  | 0, _ => hg
  | i + 1, hi => Gr_jn (inR_gr hg hs h2 i (by omega)) (by omega) (Nat.mod_lt _ (by omega)) (ring_ne hs h2 (by omega))
theorem outR_gr {n st : Nat} (h1 : 1 ≤ n) (h10 : n ≤ 10) : ∀ s, s ≤ n / 2 → Gr n (outR n st s)
  | 0, _ => Gr_zero h1 h10
  | s + 1, hs => by
    rw [outR]
    have ih := outR_gr (st := st) h1 h10 s (by omega)
    by_cases q : st.testBit s = true
    · rw [if_pos q]; exact inR_gr ih (by omega) hs n (Nat.le_refl _)
    · rw [if_neg q]; exact ih
theorem ringC_in {cF : Nat → Nat → Int32} {p : Fin 5} {n s : Nat} {r : Nat → Nat} {F : Nat → Int32} (h10 : n ≤ 10) (hs : s ≤ 10) (hF : ∀ a, a < 10 → F a = nI (r a)) : ∃ F', loop (b_X2_becomeRing_30 p (nI n) (nI s)) ((0 : Int32), va_up cF p.1 F) = some (va_up cF p.1 F') ∧ ∀ a, a < 10 → F' a = nI (inR n s r n a) := by
  obtain ⟨e, he, F', rfl, h⟩ := loop_cnt (f := b_X2_becomeRing_30 p (nI n) (nI s)) (fun i x => ∃ F', x = (nI i, va_up cF p.1 F') ∧ ∀ a, a < 10 → F' a = nI (inR n s r i a)) n (fun e => ∃ F', e = va_up cF p.1 F' ∧ ∀ a, a < 10 → F' a = nI (inR n s r n a)) (by
    rintro i x hi ⟨F', rfl, h⟩
    unfold b_X2_becomeRing_30
    dsimp only
    obtain ⟨f, e1, e2⟩ := s_join (cF := va_up cF p.1 F') (p := p) (a := i) (b := (i + s) % n) (r := inR n s r i) (by omega) (by have := Nat.mod_lt (i + s) (show 0 < n by omega); omega) (fun x hx => by rw [va_up_self]; exact h x hx)
    rw [if_neg (nI_ge hi (by omega)), nez_in (by rw [i0]; exact fun q => by rw [nI_eq (by omega) (by omega)] at q; omega), nI_add, nI_mod (by omega) (by omega) (by omega), e1]
    simp only [Option.bind_some]
    refine ⟨_, rfl, f, ?_, e2⟩
    rw [nI_1, bx_uu]) (by
    rintro x ⟨F', rfl, h⟩
    unfold b_X2_becomeRing_30
    dsimp only
    rw [if_pos (nI_le (Nat.le_refl _) (by omega))]
    exact ⟨_, rfl, F', rfl, h⟩) 0 _ (by omega) ⟨F, rfl, hF⟩
  exact ⟨F', he, h⟩
theorem ringC {cF : Nat → Nat → Int32} {p : Fin 5} {n st : Nat} {F : Nat → Int32} (h10 : n ≤ 10) (hst : st < 2 ^ 31) (hF : ∀ a, a < 10 → F a = nI 0) : ∃ F', loop (b_X2_becomeRing_7 p (nI n) (nI st)) ((1 : Int32), va_up cF p.1 F) = some (va_up cF p.1 F') ∧ ∀ a, a < 10 → F' a = nI (outR n st (n / 2) a) := by
  have e2 : nI n / (2 : Int32) = nI (n / 2) := by rw [show (2 : Int32) = nI 2 by decide, pk_div (by omega) (by omega) (by omega)]
  obtain ⟨e, he, F', rfl, h⟩ := loop_cnt (f := b_X2_becomeRing_7 p (nI n) (nI st)) (fun i x => ∃ F', x = (nI (i + 1), va_up cF p.1 F') ∧ ∀ a, a < 10 → F' a = nI (outR n st i a)) (n / 2) (fun e => ∃ F', e = va_up cF p.1 F' ∧ ∀ a, a < 10 → F' a = nI (outR n st (n / 2) a)) (by
    rintro i x hi ⟨F', rfl, h⟩
    unfold b_X2_becomeRing_7
    dsimp only
    rw [e2, if_neg (nI_nlt (by omega) (by omega)), i1, pk_sub (by omega), show i + 1 - 1 = i by omega, ← i1]
    by_cases q : st.testBit i = true
    · rw [if_neg (fun z => (bit_zero hst (by omega)).mp z q)]
      obtain ⟨F2, f1, f2⟩ := ringC_in (cF := cF) (p := p) (n := n) (s := i + 1) (r := outR n st i) (F := F') h10 (by omega) h
      rw [f1]
      simp only [Option.bind_some]
      refine ⟨_, rfl, F2, by rw [nI_1], fun a ha => ?_⟩
      rw [outR, if_pos q]; exact f2 a ha
    · rw [if_pos ((bit_zero hst (by omega)).mpr q)]
      refine ⟨_, rfl, F', by rw [nI_1], fun a ha => ?_⟩
      rw [outR, if_neg q]; exact h a ha) (by
    rintro x ⟨F', rfl, h⟩
    unfold b_X2_becomeRing_7
    dsimp only
    rw [e2, if_pos (nI_lt (by omega) (by omega))]
    exact ⟨_, rfl, F', rfl, h⟩) 0 _ (by omega) ⟨F, rfl, hF⟩
  exact ⟨F', he, h⟩
theorem ringM_in {ne : Nat → Int32} {k n s st : Nat} {r : Nat → Nat} (hk : k < 4) (h10 : n ≤ 10) (h1 : 1 ≤ n) (hst : st < 2 ^ 31) (hs : s + 1 ≤ 10) (hF : ∀ a, a < 10 → ne (10 * k + a) = nI (r a)) : ∃ ne', loop (b_X6_ring_55 (nI k) (nI n) (nI st) (nI (s + 1))) ((0 : Int32), ne) = some ne' ∧ (∀ a, a < 10 → ne' (10 * k + a) = nI ((if st.testBit s = true then inR n (s + 1) r n else r) a)) ∧ ∀ j, ¬ (10 * k ≤ j ∧ j < 10 * k + 10) → ne' j = ne j := by
  have e3 : nI (s + 1) - (1 : Int32) = nI s := by rw [i1, pk_sub (by omega)]; rfl
  by_cases q : st.testBit s = true
  · obtain ⟨e, he, h⟩ := loop_cnt (f := b_X6_ring_55 (nI k) (nI n) (nI st) (nI (s + 1))) (fun i x => ∃ ne', x = (nI i, ne') ∧ (∀ a, a < 10 → ne' (10 * k + a) = nI (inR n (s + 1) r i a)) ∧ ∀ j, ¬ (10 * k ≤ j ∧ j < 10 * k + 10) → ne' j = ne j) n (fun ne' => (∀ a, a < 10 → ne' (10 * k + a) = nI (inR n (s + 1) r n a)) ∧ ∀ j, ¬ (10 * k ≤ j ∧ j < 10 * k + 10) → ne' j = ne j) (by
      rintro i x hi ⟨F', rfl, h, h9⟩
      unfold b_X6_ring_55
      dsimp only
      obtain ⟨f, g1, g2, g3⟩ := s_put (ne := F') (k := k) (a := i) (b := (i + (s + 1)) % n) (r := inR n (s + 1) r i) hk (by omega) (by have := Nat.mod_lt (i + (s + 1)) (show 0 < n by omega); omega) h
      rw [if_neg (nI_ge hi (by omega)), e3, if_pos ((nI_bit hst (by omega)).mpr q), nez_in (by rw [i0]; exact fun q => by rw [nI_eq (by omega) (by omega)] at q; omega), nI_add, nI_mod (by omega) (by omega) (by omega), g1]
      simp only [Option.bind_some]
      refine ⟨_, rfl, f, by rw [nI_1], g2, fun j hj => by rw [g3 j hj, h9 j hj]⟩) (by
      rintro x ⟨F', rfl, h, h9⟩
      unfold b_X6_ring_55
      dsimp only
      rw [if_pos (nI_le (Nat.le_refl _) (by omega))]
      exact ⟨_, rfl, h, h9⟩) 0 _ (by omega) ⟨ne, rfl, hF, fun _ _ => rfl⟩
    refine ⟨e, he, ?_⟩
    rw [if_pos q]; exact h
  · refine ⟨ne, loop_inr ?_, ?_⟩
    · unfold b_X6_ring_55
      dsimp only
      rw [if_neg (by rw [i0]; exact nI_ge (by omega) (by omega)), e3, if_neg (fun z => q ((nI_bit hst (by omega)).mp z))]
    · rw [if_neg q]; exact ⟨hF, fun _ _ => rfl⟩
theorem ringM {ne : Nat → Int32} {k n st : Nat} (hk : k < 4) (h10 : n ≤ 10) (h1 : 1 ≤ n) (hst : st < 2 ^ 31) (hF : ∀ a, a < 10 → ne (10 * k + a) = nI 0) : ∃ ne', loop (b_X6_ring_44 (nI k) (nI n) (nI st)) ((1 : Int32), ne) = some ne' ∧ (∀ a, a < 10 → ne' (10 * k + a) = nI (outR n st (n / 2) a)) ∧ ∀ j, ¬ (10 * k ≤ j ∧ j < 10 * k + 10) → ne' j = ne j := by
  have e2 : nI n / (2 : Int32) = nI (n / 2) := by rw [show (2 : Int32) = nI 2 by decide, pk_div (by omega) (by omega) (by omega)]
  exact loop_cnt (f := b_X6_ring_44 (nI k) (nI n) (nI st)) (fun i x => ∃ ne', x = (nI (i + 1), ne') ∧ (∀ a, a < 10 → ne' (10 * k + a) = nI (outR n st i a)) ∧ ∀ j, ¬ (10 * k ≤ j ∧ j < 10 * k + 10) → ne' j = ne j) (n / 2) (fun ne' => (∀ a, a < 10 → ne' (10 * k + a) = nI (outR n st (n / 2) a)) ∧ ∀ j, ¬ (10 * k ≤ j ∧ j < 10 * k + 10) → ne' j = ne j) (by
    rintro i x hi ⟨F', rfl, h, h9⟩
    unfold b_X6_ring_44
    dsimp only
    obtain ⟨F2, f1, f2, f3⟩ := ringM_in (ne := F') (s := i) (r := outR n st i) hk h10 h1 hst (by omega) h
    rw [e2, if_neg (nI_nlt (by omega) (by omega)), f1]
    simp only [Option.bind_some]
    exact ⟨_, rfl, F2, by rw [nI_1], f2, fun j hj => by rw [f3 j hj, h9 j hj]⟩) (by
    rintro x ⟨F', rfl, h, h9⟩
    unfold b_X6_ring_44
    dsimp only
    rw [e2, if_pos (nI_lt (by omega) (by omega))]
    exact ⟨_, rfl, h, h9⟩) 0 _ (by omega) ⟨ne, rfl, hF, fun _ _ => rfl⟩
theorem kc_or (x : Int32) : (x < 1 ∨ (¬ x < 1 ∧ 10 < x)) ∨ ∃ n, 1 ≤ n ∧ n ≤ 10 ∧ x = nI n ∧ ¬ x < 1 ∧ ¬ 10 < x := by
  by_cases h1 : x < 1
  · exact Or.inl (Or.inl h1)
  · by_cases h2 : 10 < x
    · exact Or.inl (Or.inr ⟨h1, h2⟩)
    · right
      obtain ⟨n, hn, rfl⟩ : ∃ n, n < 11 ∧ x = nI n := by
        rcases pk_ix x (n := 11) (by omega) with h | h | h
        · refine absurd ?_ h1
          rw [Int32.lt_iff_toInt_lt] at h ⊢
          have e : (1 : Int32).toInt = 1 := by decide
          have e0 : (0 : Int32).toInt = 0 := by decide
          omega
        · refine absurd ?_ h2
          rw [Int32.le_iff_toInt_le] at h
          rw [Int32.lt_iff_toInt_lt]
          have e : (nI 11).toInt = 11 := by decide
          have e0 : (10 : Int32).toInt = 10 := by decide
          omega
        · exact h
      have hn1 : 1 ≤ n := by
        rcases Nat.eq_zero_or_pos n with q | q
        · subst q; exact absurd (by decide) h1
        · exact q
      exact ⟨n, hn1, by omega, rfl, h1, h2⟩
theorem nn_or (x : Int32) : x < 0 ∨ ∃ m, m < 2 ^ 31 ∧ x = nI m := by
  by_cases h : x < 0
  · exact Or.inl h
  · right
    refine ⟨x.toNatClampNeg, ?_, ?_⟩
    · have := x.toInt_lt
      rw [Int32.toNatClampNeg]
      omega
    · apply Int32.toInt_inj.mp
      have hx := x.toInt_lt
      rw [Int32.lt_iff_toInt_lt] at h
      have e0 : (0 : Int32).toInt = 0 := by decide
      rw [nI_toInt (by rw [Int32.toNatClampNeg]; omega), Int32.toNatClampNeg]
      omega
theorem pure_ring {kn ne cK : Nat → Int32} {cF : Nat → Nat → Int32} (inv : Inv kn ne cK cF) (a0 a1 a2 : Int32) : ∃ (v : Int32) (cK' : Nat → Int32) (cF' : Nat → Nat → Int32) (kn' ne' : Nat → Int32), s_X5_ring cK cF a0 a1 a2 = some (v, cK', cF') ∧ s_X6_ring kn ne a0 a1 a2 = some (v, kn', ne') ∧ Inv kn' ne' cK' cF' := by
  have hbad : s_X5_ring cK cF a0 a1 a2 = some (-2, cK, cF) → s_X6_ring kn ne a0 a1 a2 = some (-2, kn, ne) → ∃ (v : Int32) (cK' : Nat → Int32) (cF' : Nat → Nat → Int32) (kn' ne' : Nat → Int32), s_X5_ring cK cF a0 a1 a2 = some (v, cK', cF') ∧ s_X6_ring kn ne a0 a1 a2 = some (v, kn', ne') ∧ Inv kn' ne' cK' cF' := fun h g => ⟨-2, cK, cF, kn, ne, h, g, inv⟩
  rcases net_or a0 with h | ⟨k, hk, rfl⟩
  · exact hbad (by unfold s_X5_ring; rw [netAt_no h]; rfl) (by unfold s_X6_ring; rw [isNet_no h]; rfl)
  · rcases kc_or a1 with (h | ⟨h, h'⟩) | ⟨n, h1, h10, rfl, g1, g2⟩
    · exact hbad (by unfold s_X5_ring s_X5_isKnotCount; rw [netAt_yes hk, if_pos h]; rfl) (by unfold s_X6_ring; rw [isNet_yes hk, in_lo h]; rfl)
    · exact hbad (by unfold s_X5_ring s_X5_isKnotCount; rw [netAt_yes hk, if_neg h, if_pos h']; rfl) (by unfold s_X6_ring; rw [isNet_yes hk, in_hi h']; rfl)
    · have e2 : nI n / (2 : Int32) = nI (n / 2) := by rw [show (2 : Int32) = nI 2 by decide, pk_div (by omega) (by omega) (by omega)]
      have hf : (fin5 k).1 = k := fin5_val (by omega)
      have hp : 2 ^ (n / 2) ≤ 2 ^ 5 := Nat.pow_le_pow_right (by omega) (by omega)
      have hp0 : 0 < 2 ^ (n / 2) := Nat.two_pow_pos _
      unfold s_X5_ring s_X6_ring s_X5_isKnotCount
      rw [netAt_yes hk, if_neg g1, if_neg g2, isNet_yes hk, in_yes g1 g2]
      simp only [Option.bind_some, Option.elim_some]
      rw [if_neg (by decide), if_neg (show ¬ ((1 : Int32) = 0) by decide), if_neg (show ¬ ((1 : Int32) = 0) by decide), e2, nI_two (by omega), i1, pk_sub (by omega), ← i1]
      rcases nn_or a2 with h | ⟨m, hm, rfl⟩
      · rw [if_pos h, in_lo h]
        exact ⟨-2, cK, cF, kn, ne, rfl, rfl, inv⟩
      · rw [if_neg (nI_pos hm), nI_shr hm (by omega), Nat.shiftRight_eq_div_pow, i0]
        have hdiv : m / 2 ^ (n / 2) < 2 ^ 31 := Nat.lt_of_le_of_lt (Nat.div_le_self _ _) hm
        by_cases q : m < 2 ^ (n / 2)
        · rw [if_pos (by rw [Nat.div_eq_of_lt q]), ← i0, in_yes (nI_pos hm) (nI_nlt (by omega) (by omega))]
          simp only [Option.bind_some]
          rw [if_neg (show ¬ ((1 : Int32) = 0) by decide), s_begin hk]
          unfold s_X2_becomeRing s_X2_startWith
          simp only [Option.bind_some]
          obtain ⟨F', c1, c2⟩ := ringC (cF := cF) (p := fin5 k) (n := n) (st := m) (F := fillI 10 (cF (fin5 k).1) 0) h10 hm (fun a ha => by unfold fillI; rw [if_pos ha]; rfl)
          obtain ⟨ne', m1, m2, m3⟩ := ringM (ne := clr ne k 10) (n := n) (st := m) hk h10 h1 hm (fun a ha => by unfold clr; rw [if_pos (by omega)]; rfl)
          have hg := outR_gr (st := m) h1 h10 (n / 2) (Nat.le_refl _)
          rw [c1, m1]
          simp only [Option.bind_some]
          rw [s_lineCount (n := n) (r := outR n m (n / 2)) (va_up_self _ _ _) hg (fun a ha => by rw [va_up_self]; exact c2 a ha), s_lines (n := n) (r := outR n m (n / 2)) hk (by unfold upd; rw [if_pos rfl]) hg m2]
          refine ⟨_, _, _, _, _, rfl, rfl, inv_set inv (k := k) hg ?_ ?_ ?_ ?_ m2 ?_ ?_ ?_⟩
          · unfold upd; rw [if_pos rfl]
          · intro j hj; unfold upd; rw [if_neg hj]
          · rw [hf, va_up_self]
          · intro j _ hj; rw [hf]; unfold va_up; rw [if_neg hj]
          · intro j hj; rw [m3 j hj]; unfold clr; rw [if_neg hj]
          · intro a ha; rw [hf, va_up_self]; exact c2 a ha
          · intro j _ hj; rw [hf]; unfold va_up; rw [if_neg hj]
        · rw [if_neg (by
              rw [nI_eq hdiv (by omega)]
              have := (Nat.le_div_iff_mul_le hp0 (x := 1) (y := m)).mpr (by omega)
              omega), ← i0, in_hi (nI_lt (by omega) hm)]
          exact ⟨-2, cK, cF, kn, ne, rfl, rfl, inv⟩
theorem op_ring (a0 : Int32) (a1 : Int32) (a2 : Int32) : OpI Sim mX5_ring mX6_ring [vI a0, vI a1, vI a2] := by
  rintro wc wm ⟨cK, cF, ga, gi, gs, oK, cT, ra, rb, cR, cP, cM, ea, eb, cW, aO, aC, aQ, kn, ne, fi, se, ma, on, ot, ta, po, ti, nu, mo, wa, nx, oT, cF', bg, ed, sF, qu, qd, tr, rfl, rfl, inv, h1, h2⟩
  obtain ⟨v, cK1, cF1, kn1, ne1, e1, e2, inv1⟩ := pure_ring inv a0 a1 a2
  exact ⟨v, _, _, c_X5_ring (d := 5) e1, c_X6_ring (d := 6) e2, _, _, _, _, _, _, _, _, _, _, _, _, _, _, _, _, _, _, _, _, _, _, _, _, _, _, _, _, _, _, _, _, _, _, _, _, _, _, _, _, rfl, rfl, inv1, h1, h2⟩
