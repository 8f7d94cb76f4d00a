/-! line -/
theorem nI_xor (a b : Nat) : nI a ^^^ nI b = nI (a ^^^ b) := by
  apply Int32.toBitVec_inj.mp
  show BitVec.ofNat 32 a ^^^ BitVec.ofNat 32 b = BitVec.ofNat 32 (a ^^^ b)
  exact (BitVec.ofNat_xor ..).symm
theorem nI_two {b : Nat} (hb : b < 31) : (1 : Int32) <<< (nI b &&& 31) = nI (2 ^ b) := by
  have h : 1 * 2 ^ b < 2 ^ 32 := by
    have : 2 ^ b < 2 ^ 31 := Nat.pow_lt_pow_right (by omega) hb
    omega
  rw [i1, nI_shl (by omega) h, Nat.one_shiftLeft]
def flp (r : Nat → Nat) (a b : Nat) : Nat → Nat := fun x => if x = a then r a ^^^ 2 ^ b else if x = b then r b ^^^ 2 ^ a else r x
theorem flp_bit {r : Nat → Nat} {a b : Nat} (hab : a ≠ b) (x y : Nat) : (flp r a b x).testBit y = ((r x).testBit y ^^ decide ((x = a ∧ y = b) ∨ (x = b ∧ y = a))) := by
  unfold flp
  by_cases h1 : x = a
  · subst h1
    rw [if_pos rfl, Nat.testBit_xor, Nat.testBit_two_pow]
    congr 1
    by_cases h2 : b = y
    · subst h2; simp
    · have : ¬ y = b := fun q => h2 q.symm
      simp [h2, this, hab]
  · rw [if_neg h1]
    by_cases h2 : x = b
    · subst h2
      rw [if_pos rfl, Nat.testBit_xor, Nat.testBit_two_pow]
      congr 1
      by_cases h3 : a = y
      · subst h3; simp
      · have : ¬ y = a := fun q => h3 q.symm
        simp [h3, this, h1]
    · rw [if_neg h2]
      simp [h1, h2]
theorem Gr_flp {n a b : Nat} {r : Nat → Nat} (h : Gr n r) (ha : a < n) (hb : b < n) (hab : a ≠ b) : Gr n (flp r a b) := by
  obtain ⟨h1, h2, h3, h4, h5, h6⟩ := h
  refine ⟨h1, h2, fun x hx => ?_, fun x hx => ?_, fun x y => ?_, fun x => ?_⟩
  · unfold flp
    have pa : 2 ^ a < 2 ^ n := Nat.pow_lt_pow_right (by omega) ha
    have pb : 2 ^ b < 2 ^ n := Nat.pow_lt_pow_right (by omega) hb
    by_cases q : x = a
    · rw [if_pos q]; exact Nat.xor_lt_two_pow (h3 a ha) pb
    · rw [if_neg q]
      by_cases q2 : x = b
      · rw [if_pos q2]; exact Nat.xor_lt_two_pow (h3 b hb) pa
      · rw [if_neg q2]; exact h3 x hx
  · unfold flp
    rw [if_neg (by omega), if_neg (by omega)]
    exact h4 x hx
  · rw [flp_bit hab, flp_bit hab, h5 x y]
    congr 1
    apply decide_eq_decide.mpr
    constructor
    · rintro (⟨p, q⟩ | ⟨p, q⟩)
      · exact Or.inr ⟨q, p⟩
      · exact Or.inl ⟨q, p⟩
    · rintro (⟨p, q⟩ | ⟨p, q⟩)
      · exact Or.inr ⟨q, p⟩
      · exact Or.inl ⟨q, p⟩
  · rw [flp_bit hab, h6 x]
    have : ¬ ((x = a ∧ x = b) ∨ (x = b ∧ x = a)) := by
      rintro (⟨p, q⟩ | ⟨p, q⟩)
      · exact hab (p.symm.trans q)
      · exact hab (q.symm.trans p)
    simp [this]
def b2i (b : Bool) : Int32 := if b = true then 1 else 0
theorem s_has {ne : Nat → Int32} {k a b : Nat} {r : Nat → Nat} (hk : k < 4) (ha : a < 10) (hb : b < 32) (hr : r a < 1024) (h : ne (10 * k + a) = nI (r a)) : s_X6_has ne (nI k) (nI a) (nI b) = some (b2i ((r a).testBit b)) := by
  unfold s_X6_has b2i
  rw [ix10, chk_in (vp_in_nI (by omega) (by omega)), nI_clamp (by omega), h]
  by_cases q : (r a).testBit b = true
  · rw [if_pos ((nI_bit (by omega) hb).mpr q), if_pos q]
  · rw [if_neg (fun z => q ((nI_bit (by omega) hb).mp z)), if_neg q]
theorem s_joins {cF : Nat → Nat → Int32} {p : Fin 5} {a b : Nat} {r : Nat → Nat} (ha : a < 10) (hb : b < 32) (hr : r a < 1024) (h : cF p.1 a = nI (r a)) : s_X2_joins cF p (nI a) (nI b) = some (b2i ((r a).testBit b)) := by
  unfold s_X2_joins b2i
  rw [chk_in (vp_in_nI (by omega) (by omega)), nI_clamp (by omega), h]
  by_cases q : (r a).testBit b = true
  · rw [if_pos ((nI_bit (by omega) hb).mpr q), if_pos q]
  · rw [if_neg (fun z => q ((nI_bit (by omega) hb).mp z)), if_neg q]
theorem s_change {cF : Nat → Nat → Int32} {p : Fin 5} {a b : Nat} {r : Nat → Nat} (ha : a < 10) (hb : b < 10) (hab : a ≠ b) (h : ∀ x, x < 10 → cF p.1 x = nI (r x)) : ∃ f, s_X2_change cF p (nI a) (nI b) = some (va_up cF p.1 f) ∧ ∀ x, x < 10 → f x = nI (flp r a b x) := by
  refine ⟨upd (upd (cF p.1) a (cF p.1 a ^^^ nI (2 ^ b))) b ((upd (cF p.1) a (cF p.1 a ^^^ nI (2 ^ b))) b ^^^ nI (2 ^ a)), ?_, ?_⟩
  · unfold s_X2_change
    rw [chk_in (vp_in_nI (by omega) (by omega)), chk_in (vp_in_nI (by omega) (by omega)), chk_in (vp_in_nI (by omega) (by omega)), chk_in (vp_in_nI (by omega) (by omega)), nI_clamp (by omega), nI_clamp (by omega), nI_two (by omega), nI_two (by omega), bx_uu, va_up_self]
  · intro x hx
    rw [h a ha]
    unfold flp upd
    have hba : ¬ b = a := fun q => hab q.symm
    by_cases q2 : x = b
    · subst q2
      rw [if_pos rfl, if_neg hba, if_neg hba, if_pos rfl, h x hx, nI_xor]
    · rw [if_neg q2]
      by_cases q1 : x = a
      · rw [if_pos q1, if_pos q1, nI_xor]
      · rw [if_neg q1, if_neg q1, if_neg q2, h x hx]
theorem inv_row {kn ne cK : Nat → Int32} {cF : Nat → Nat → Int32} {N : Nat → Nat} {r : Nat → Nat → Nat} (h : ∀ k, k < 4 → Gr (N k) (r k) ∧ kn k = nI (N k) ∧ cK k = nI (N k) ∧ ∀ a, a < 10 → ne (10 * k + a) = nI (r k a) ∧ cF k a = nI (r k a)) {k : Nat} {r1 : Nat → Nat} {ne' : Nat → Int32} {f' : Nat → Int32} (hk : k < 4) (hg : Gr (N k) r1) (h1 : ∀ a, a < 10 → ne' (10 * k + a) = nI (r1 a) ∧ f' a = nI (r1 a)) (h2 : ∀ j, ¬ (10 * k ≤ j ∧ j < 10 * k + 10) → ne' j = ne j) : Inv kn ne' cK (va_up cF k f') := by
  refine ⟨N, fun i => if i = k then r1 else r i, fun i hi => ?_⟩
  obtain ⟨a1, a2, a3, a4⟩ := h i hi
  by_cases e : i = k
  · subst e
    simp only [if_true, va_up]
    exact ⟨hg, a2, a3, h1⟩
  · simp only [if_neg e, va_up]
    refine ⟨a1, a2, a3, fun a ha => ⟨?_, (a4 a ha).2⟩⟩
    rw [h2 _ (by omega)]
    exact (a4 a ha).1
theorem unlike_no1 {cK : Nat → Int32} {p : Fin 5} {x y : Int32} (h : s_X2_hasKnot cK p x = some 0) : s_X2_hasUnlikeKnots cK p x y = some 0 := by
  unfold s_X2_hasUnlikeKnots s_X2_hasKnots
  rw [h]; rfl
theorem unlike_no2 {cK : Nat → Int32} {p : Fin 5} {x y : Int32} (h0 : s_X2_hasKnot cK p x = some 1) (h : s_X2_hasKnot cK p y = some 0) : s_X2_hasUnlikeKnots cK p x y = some 0 := by
  unfold s_X2_hasUnlikeKnots s_X2_hasKnots
  rw [h0]
  simp only [Option.bind_some]
  rw [if_neg (by decide), h]; rfl
theorem unlike_eq {cK : Nat → Int32} {p : Fin 5} {x : Int32} (h0 : s_X2_hasKnot cK p x = some 1) : s_X2_hasUnlikeKnots cK p x x = some 0 := by
  unfold s_X2_hasUnlikeKnots s_X2_hasKnots
  simp [h0, show ¬ ((1 : Int32) = 0) by decide]
theorem unlike_yes {cK : Nat → Int32} {p : Fin 5} {x y : Int32} (h0 : s_X2_hasKnot cK p x = some 1) (h : s_X2_hasKnot cK p y = some 1) (hxy : ¬ x = y) : s_X2_hasUnlikeKnots cK p x y = some 1 := by
  unfold s_X2_hasUnlikeKnots s_X2_hasKnots
  rw [h0]
  simp only [Option.bind_some]
  rw [if_neg (by decide), h]
  simp only [Option.bind_some]
  rw [if_neg (by decide)]
  simp only [Option.bind_some]
  rw [if_neg (by decide), if_neg hxy]
theorem pure_line {kn ne cK : Nat → Int32} {cF : Nat → Nat → Int32} (inv : Inv kn ne cK cF) (a0 a1 a2 a3 : Int32) : ∃ (v : Int32) (cF' : Nat → Nat → Int32) (ne' : Nat → Int32), s_X5_line cK cF a0 a1 a2 a3 = some (v, cF') ∧ s_X6_line kn ne a0 a1 a2 a3 = some (v, ne') ∧ Inv kn ne' cK cF' := by
  rcases net_or a0 with h | ⟨k, hk, rfl⟩
  · refine ⟨-2, cF, ne, ?_, ?_, inv⟩
    · unfold s_X5_line; rw [netAt_no h]; rfl
    · unfold s_X6_line; rw [isKnot_nonet h]; rfl
  · obtain ⟨N, r, hi⟩ := id inv
    obtain ⟨hg, h1, h2, h3⟩ := hi k hk
    have hf : (fin5 k).1 = k := fin5_val (by omega)
    have h10 := hg.2.1
    have hc : cK (fin5 k).1 = nI (N k) := by rw [hf]; exact h2
    have C : s_X5_line cK cF (nI k) a1 a2 a3 = (s_X2_hasUnlikeKnots cK (fin5 k) a1 a2).bind (fun x4 => if x4 = 0 then (some ((-2 : Int32), cF)) else ((s_X2_joins cF (fin5 k) a1 a2).bind (fun x7 => if x7 = a3 then (some ((-3 : Int32), cF)) else ((s_X2_change cF (fin5 k) a1 a2).bind (fun x10 => some ((1 : Int32), x10)))))) := by
      unfold s_X5_line; rw [netAt_yes hk]; rfl
    rcases knot_or a1 h10 with h | ⟨a, ha, rfl⟩
    · refine ⟨-2, cF, ne, ?_, ?_, inv⟩
      · rw [C, unlike_no1 (hasKnot_no hc h)]; rfl
      · unfold s_X6_line; rw [isKnot_no hk h1 hg.1 h10 h]; rfl
    · rcases knot_or a2 h10 with h | ⟨b, hb, rfl⟩
      · refine ⟨-2, cF, ne, ?_, ?_, inv⟩
        · rw [C, unlike_no2 (hasKnot_yes hc h10 ha) (hasKnot_no hc h)]; rfl
        · unfold s_X6_line; rw [isKnot_yes hk h1 h10 ha, isKnot_no hk h1 hg.1 h10 h]; rfl
      · by_cases hab : a = b
        · subst hab
          refine ⟨-2, cF, ne, ?_, ?_, inv⟩
          · rw [C, unlike_eq (hasKnot_yes hc h10 ha)]; rfl
          · unfold s_X6_line; rw [isKnot_yes hk h1 h10 ha]
            simp [show ¬ ((1 : Int32) = 0) by decide]
        · have hne : ¬ nI a = nI b := fun q => hab ((nI_eq (by omega) (by omega)).mp q)
          have hra := Gr_lt hg a
          rw [C, unlike_yes (hasKnot_yes hc h10 ha) (hasKnot_yes hc h10 hb) hne]
          unfold s_X6_line
          rw [isKnot_yes hk h1 h10 ha, isKnot_yes hk h1 h10 hb]
          simp only [Option.bind_some]
          rw [if_neg (by decide), if_neg (by decide), if_neg (by decide), if_neg hne, s_has (r := r k) hk (by omega) (by omega) hra (h3 a (by omega)).1, s_joins (r := r k) (by omega) (by omega) hra (by rw [hf]; exact (h3 a (by omega)).2)]
          simp only [Option.bind_some]
          by_cases hv : b2i ((r k a).testBit b) = a3
          · rw [if_pos hv, if_pos hv]
            exact ⟨-3, cF, ne, rfl, rfl, inv⟩
          · rw [if_neg hv, if_neg hv]
            obtain ⟨f, e1, e2⟩ := s_change (cF := cF) (p := fin5 k) (a := a) (b := b) (r := r k) (by omega) (by omega) hab (fun x hx => by rw [hf]; exact (h3 x hx).2)
            rw [e1, ix10, ix10, chk_in (vp_in_nI (by omega) (by omega)), chk_in (vp_in_nI (by omega) (by omega)), chk_in (vp_in_nI (by omega) (by omega)), chk_in (vp_in_nI (by omega) (by omega)), nI_clamp (by omega), nI_clamp (by omega), nI_two (by omega), nI_two (by omega), hf]
            refine ⟨1, _, _, rfl, rfl, inv_row hi hk (Gr_flp hg ha hb hab) (fun x hx => ⟨?_, e2 x hx⟩) (fun j hj => ?_)⟩
            · unfold upd flp
              by_cases q2 : x = b
              · subst q2
                have hba : ¬ x = a := fun q => hab q.symm
                rw [if_pos rfl, if_neg (by omega), if_neg hba, if_pos rfl, (h3 x hx).1, nI_xor]
              · rw [if_neg (by omega), if_neg q2]
                by_cases q1 : x = a
                · subst q1
                  rw [if_pos rfl, if_pos rfl, (h3 x hx).1, nI_xor]
                · rw [if_neg (by omega), if_neg q1, (h3 x hx).1]
            · unfold upd
              rw [if_neg (by omega), if_neg (by omega)]
theorem op_line (a0 a1 a2 a3 : Int32) : OpI Sim mX5_line mX6_line [vI a0, vI a1, vI a2, vI a3] := by
  rintro wc wm ⟨cK, cF, ga, gi, gs, oK, cT, ra, rb, cR, cP, cM, ea, eb, cW, aO, aC, aQ, kn, ne, fi, se, ma, on, ot, ta, po, ti, nu, mo, wa, nx, oT, cF', bg, ed, sF, qu, qd, tr, rfl, rfl, inv, h1, h2⟩
  obtain ⟨v, cF1, ne1, e1, e2, inv1⟩ := pure_line inv a0 a1 a2 a3
  exact ⟨v, _, _, c_X5_line (d := 5) e1, c_X6_line (d := 5) e2, _, _, _, _, _, _, _, _, _, _, _, _, _, _, _, _, _, _, _, _, _, _, _, _, _, _, _, _, _, _, _, _, _, _, _, _, _, _, _, _, rfl, rfl, inv1, h1, h2⟩
