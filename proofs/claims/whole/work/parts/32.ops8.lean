/-! turned -/
theorem im1 : (-1 : Int32) = nI 4294967295 := by decide
def andn (a b : Nat) : Nat := a &&& (b ^^^ 4294967295)
theorem nI_andn (a b : Nat) : nI a &&& (nI b ^^^ (-1 : Int32)) = nI (andn a b) := by
  rw [im1, nI_xor, nI_and]
  rfl
theorem andn_bit {a : Nat} (b i : Nat) (h : a < 2 ^ 32) : (andn a b).testBit i = (a.testBit i && !b.testBit i) := by
  unfold andn
  rw [Nat.testBit_and, Nat.testBit_xor, show 4294967295 = 2 ^ 32 - 1 by decide, Nat.testBit_two_pow_sub_one]
  by_cases q : i < 32
  · simp [q]
  · have h2 : a < 2 ^ i := Nat.lt_of_lt_of_le h (Nat.pow_le_pow_right (by omega) (by omega))
    rw [Nat.testBit_lt_two_pow h2]; simp
theorem andn_le (a b : Nat) : andn a b ≤ a := Nat.and_le_left
def trA (n : Nat) (r : Nat → Nat) (v : Nat) : Nat := andn (andn (2 ^ n - 1) (r v)) (2 ^ v)
theorem trA_lt (n : Nat) (r : Nat → Nat) (v : Nat) : trA n r v < 2 ^ n := by
  have h1 := andn_le (andn (2 ^ n - 1) (r v)) (2 ^ v)
  have h2 := andn_le (2 ^ n - 1) (r v)
  have h3 : 0 < 2 ^ n := Nat.two_pow_pos n
  unfold trA
  omega
theorem trA_bit {n : Nat} (h10 : n ≤ 10) (r : Nat → Nat) (v b : Nat) : (trA n r v).testBit b = (decide (b < n) && !(r v).testBit b && !decide (v = b)) := by
  have h3 : 2 ^ n ≤ 2 ^ 10 := Nat.pow_le_pow_right (by omega) h10
  have h2 := andn_le (2 ^ n - 1) (r v)
  unfold trA
  rw [andn_bit _ _ (by omega), andn_bit _ _ (by omega), Nat.testBit_two_pow_sub_one, Nat.testBit_two_pow]
theorem Gr_tr {n : Nat} {r : Nat → Nat} (h : Gr n r) : Gr n (fun v => if v < n then trA n r v else 0) := by
  obtain ⟨h1, h2, h3, h4, h5, h6⟩ := h
  have key : ∀ a b, (if a < n then trA n r a else 0).testBit b = (decide (a < n) && decide (b < n) && !(r a).testBit b && !decide (a = b)) := by
    intro a b
    by_cases q : a < n
    · rw [if_pos q, trA_bit h2]; simp [q]
    · rw [if_neg q, Nat.zero_testBit]; simp [q]
  refine ⟨h1, h2, fun a ha => ?_, fun a ha => ?_, fun a b => ?_, fun a => ?_⟩
  · show (if a < n then trA n r a else 0) < 2 ^ n
    rw [if_pos ha]; exact trA_lt n r a
  · show (if a < n then trA n r a else 0) = 0
    rw [if_neg (by omega)]
  · show (if a < n then trA n r a else 0).testBit b = (if b < n then trA n r b else 0).testBit a
    rw [key, key, h5 a b, Bool.and_comm (decide (a < n)) (decide (b < n))]
    congr 2
    exact decide_eq_decide.mpr ⟨Eq.symm, Eq.symm⟩
  · show (if a < n then trA n r a else 0).testBit a = false
    rw [key]; simp
theorem two_m1 {n : Nat} (h : n ≤ 10) : ((1 : Int32) <<< (nI n &&& 31)) - 1 = nI (2 ^ n - 1) := by
  rw [nI_two (by omega), i1, pk_sub (Nat.two_pow_pos n)]
theorem s_becomeTurned {cK : Nat → Int32} {cF : Nat → Nat → Int32} {p : Fin 5} {n : Nat} {r : Nat → Nat} (hp : p.1 ≠ 4) (hn : cK p.1 = nI n) (h10 : n ≤ 10) (h3 : ∀ a, a < 10 → cF p.1 a = nI (r a)) : ∃ F, s_X2_becomeTurned cK cF (4 : Fin 5) p = some (va_up cK 4 (nI n), va_up cF 4 F) ∧ ∀ a, a < 10 → F a = nI (if a < n then trA n r a else 0) := by
  obtain ⟨e, he, F', rfl, h⟩ := loop_cnt (f := b_X2_becomeTurned_19 (va_up cK 4 (nI n)) (4 : Fin 5) p (nI (2 ^ n - 1))) (fun i x => ∃ F', x = (nI i, va_up cF 4 F') ∧ ∀ a, a < 10 → F' a = nI (if a < i then trA n r a else 0)) n (fun e => ∃ F', e = va_up cF 4 F' ∧ ∀ a, a < 10 → F' a = nI (if a < n then trA n r a else 0)) (by
    rintro i x hi ⟨F', rfl, h⟩
    unfold b_X2_becomeTurned_19
    dsimp only
    rw [show ((4 : Fin 5).1) = 4 from rfl, va_up_self, va_up_self, if_neg (nI_ge hi (by omega)), chk_in (vp_in_nI (by omega) (by omega)), chk_in (vp_in_nI (by omega) (by omega)), nI_clamp (by omega), va_up_ne _ _ hp, h3 i (by omega), nI_andn, nI_two (by omega), nI_andn, nI_1, bx_uu]
    refine ⟨_, rfl, _, rfl, fun a ha => ?_⟩
    unfold upd
    by_cases q : a = i
    · subst q
      rw [if_pos rfl, if_pos (by omega)]; rfl
    · rw [if_neg q, h a ha]
      by_cases q2 : a < i
      · rw [if_pos q2, if_pos (by omega)]
      · rw [if_neg q2, if_neg (by omega)]) (by
    rintro x ⟨F', rfl, h⟩
    unfold b_X2_becomeTurned_19
    dsimp only
    rw [show ((4 : Fin 5).1) = 4 from rfl, va_up_self, if_pos (nI_le (Nat.le_refl _) (by omega))]
    exact ⟨_, rfl, F', rfl, h⟩) 0 ((0 : Int32), va_up cF 4 (fillI 10 (cF 4) 0)) (by omega) ⟨_, rfl, fun a ha => by unfold fillI; rw [if_pos ha, if_neg (by omega)]; rfl⟩
  refine ⟨F', ?_, h⟩
  unfold s_X2_becomeTurned s_X2_startWith
  simp only [Option.bind_some]
  rw [show ((4 : Fin 5).1) = 4 from rfl, hn, va_up_self, two_m1 h10, he]
  rfl
theorem s_becomeCopy {cK : Nat → Int32} {cF : Nat → Nat → Int32} {p q : Fin 5} {r : Nat → Nat} (h3 : ∀ a, a < 10 → cF q.1 a = nI (r a)) : ∃ F, s_X2_becomeCopy cK cF p q = some (va_up cK p.1 (cK q.1), va_up cF p.1 F) ∧ ∀ a, a < 10 → F a = nI (r a) := by
  refine ⟨_, rfl, fun a ha => ?_⟩
  show va_cpy (cF q.1) (cF p.1) 0 0 10 a = _
  rw [pk_cpy_in (by omega) (by omega), Nat.zero_add, Nat.sub_zero]
  exact h3 a ha
theorem turn_first {ne fi : Nat → Int32} {k : Nat} (hk : k < 4) : ∃ fi', loop (b_X6_turned_27 ne (nI k)) ((0 : Int32), fi) = some fi' ∧ ∀ a, a < 10 → fi' a = ne (10 * k + a) :=
  loop_cnt (f := b_X6_turned_27 ne (nI k)) (fun i x => ∃ f, x = (nI i, f) ∧ ∀ a, a < i → f a = ne (10 * k + a)) 10 (fun f => ∀ a, a < 10 → f a = ne (10 * k + a)) (by
    rintro i x hi ⟨f, rfl, h⟩
    unfold b_X6_turned_27
    dsimp only
    rw [if_neg (by rw [i10]; exact nI_ge hi (by omega)), ix10, chk_in (vp_in_nI (by omega) (by omega)), chk_in (vp_in_nI (by omega) (by omega)), nI_clamp (by omega), nI_clamp (by omega), nI_1]
    refine ⟨_, rfl, _, rfl, fun a ha => ?_⟩
    unfold upd
    by_cases q : a = i
    · rw [if_pos q, q]
    · rw [if_neg q]; exact h a (by omega)) (by
    rintro x ⟨f, rfl, h⟩
    unfold b_X6_turned_27
    dsimp only
    rw [if_pos (by decide)]
    exact ⟨_, rfl, h⟩) 0 _ (by omega) ⟨fi, rfl, fun a ha => by omega⟩
theorem turn_model {ne fi : Nat → Int32} {k n : Nat} {r : Nat → Nat} (hk : k < 4) (h10 : n ≤ 10) (hfi : ∀ a, a < 10 → fi a = nI (r a)) : ∃ ne', loop (b_X6_turned_68 fi (nI k) (nI n)) ((0 : Int32), clr ne k 10) = some ne' ∧ (∀ a, a < 10 → ne' (10 * k + a) = nI (if a < n then trA n r a else 0)) ∧ ∀ j, ¬ (10 * k ≤ j ∧ j < 10 * k + 10) → ne' j = ne j :=
  loop_cnt (f := b_X6_turned_68 fi (nI k) (nI n)) (fun i x => ∃ f, x = (nI i, f) ∧ (∀ a, a < 10 → f (10 * k + a) = nI (if a < i then trA n r a else 0)) ∧ ∀ j, ¬ (10 * k ≤ j ∧ j < 10 * k + 10) → f j = ne j) n (fun f => (∀ a, a < 10 → f (10 * k + a) = nI (if a < n then trA n r a else 0)) ∧ ∀ j, ¬ (10 * k ≤ j ∧ j < 10 * k + 10) → f j = ne j) (by
    rintro i x hi ⟨f, rfl, h, h9⟩
    unfold b_X6_turned_68
    dsimp only
    rw [if_neg (nI_ge hi (by omega)), ix10, chk_in (vp_in_nI (by omega) (by omega)), chk_in (vp_in_nI (by omega) (by omega)), nI_clamp (by omega), nI_clamp (by omega), nI_1, two_m1 h10, hfi i (by omega), nI_andn, nI_two (by omega), nI_andn]
    refine ⟨_, rfl, _, rfl, fun a ha => ?_, fun j hj => ?_⟩
    · unfold upd
      by_cases q : a = i
      · subst q
        rw [if_pos rfl, if_pos (by omega)]; rfl
      · rw [if_neg (by omega), h a ha]
        by_cases q2 : a < i
        · rw [if_pos q2, if_pos (by omega)]
        · rw [if_neg q2, if_neg (by omega)]
    · unfold upd
      rw [if_neg (by omega)]
      exact h9 j hj) (by
    rintro x ⟨f, rfl, h, h9⟩
    unfold b_X6_turned_68
    dsimp only
    rw [if_pos (nI_le (Nat.le_refl _) (by omega))]
    exact ⟨_, rfl, h, h9⟩) 0 _ (by omega) ⟨clr ne k 10, rfl, fun a ha => by unfold clr; rw [if_pos (by omega), if_neg (by omega)]; rfl, fun j hj => by unfold clr; rw [if_neg hj]⟩
theorem pure_turned {kn ne cK : Nat → Int32} {cF : Nat → Nat → Int32} (fi : Nat → Int32) (inv : Inv kn ne cK cF) (a0 a1 : Int32) : ∃ (v : Int32) (cK' : Nat → Int32) (cF' : Nat → Nat → Int32) (kn' ne' fi' : Nat → Int32), s_X5_turned cK cF a0 a1 = some (v, cK', cF') ∧ s_X6_turned kn ne fi a0 a1 = some (v, kn', ne', fi') ∧ Inv kn' ne' cK' cF' := by
  rcases net_or a0 with h | ⟨k, hk, rfl⟩
  · refine ⟨-2, cK, cF, kn, ne, fi, ?_, ?_, inv⟩
    · unfold s_X5_turned; rw [netAt_no h]
      rcases net_or a1 with h' | ⟨k', hk', rfl⟩
      · rw [netAt_no h']; rfl
      · rw [netAt_yes hk']; rfl
    · unfold s_X6_turned; rw [isNet_no h]; rfl
  · rcases net_or a1 with h | ⟨g, hgo, rfl⟩
    · refine ⟨-2, cK, cF, kn, ne, fi, ?_, ?_, inv⟩
      · unfold s_X5_turned; rw [netAt_yes hk, netAt_no h]; rfl
      · unfold s_X6_turned; rw [isNet_yes hk, isNet_no h]; rfl
    · obtain ⟨N, r, hi⟩ := id inv
      obtain ⟨hg, h1, h2, h3⟩ := hi k hk
      have hf : (fin5 k).1 = k := fin5_val (by omega)
      have hf2 : (fin5 g).1 = g := fin5_val (by omega)
      have h10 := hg.2.1
      obtain ⟨F, c1, c2⟩ := s_becomeTurned (cK := cK) (cF := cF) (p := fin5 k) (n := N k) (r := r k) (by omega) (by rw [hf]; exact h2) h10 (fun a ha => by rw [hf]; exact (h3 a ha).2)
      obtain ⟨F2, c3, c4⟩ := s_becomeCopy (cK := va_up cK 4 (nI (N k))) (cF := va_up cF 4 F) (p := fin5 g) (q := (4 : Fin 5)) (r := fun a => if a < N k then trA (N k) (r k) a else 0) (fun a ha => by rw [show ((4 : Fin 5).1) = 4 from rfl, va_up_self]; exact c2 a ha)
      obtain ⟨fi', m1, m2⟩ := turn_first (ne := ne) (fi := fi) hk
      obtain ⟨ne', m3, m4, m5⟩ := turn_model (ne := ne) (fi := fi') (k := g) (n := N k) (r := r k) hgo h10 (fun a ha => by rw [m2 a ha]; exact (h3 a ha).1)
      have hgr := Gr_tr hg
      unfold s_X5_turned s_X6_turned
      rw [netAt_yes hk, netAt_yes hgo, isNet_yes hk, isNet_yes hgo]
      simp only [Option.bind_some, Option.elim_some]
      rw [if_neg (show ¬ ((1 : Int32) = 0) by decide), if_neg (show ¬ ((1 : Int32) = 0) by decide), chk_in (vp_in_nI hk (by omega)), nI_clamp (by omega), m1, h1, c1]
      simp only [Option.bind_some]
      rw [c3, s_begin hgo]
      simp only [Option.bind_some]
      rw [m3]
      simp only [Option.bind_some]
      rw [s_lineCount (n := N k) (r := fun a => if a < N k then trA (N k) (r k) a else 0) (by rw [va_up_self]; exact va_up_self _ _ _) hgr (fun a ha => by rw [va_up_self]; exact c4 a ha), s_lines (n := N k) (r := fun a => if a < N k then trA (N k) (r k) a else 0) hgo (by unfold upd; rw [if_pos rfl]) hgr m4]
      refine ⟨_, _, _, _, _, _, rfl, rfl, inv_set inv (k := g) hgr ?_ ?_ ?_ ?_ m4 m5 ?_ ?_⟩
      · unfold upd; rw [if_pos rfl]
      · intro j hj; unfold upd; rw [if_neg hj]
      · rw [hf2, va_up_self]; exact va_up_self _ _ _
      · intro j h4 hj; rw [hf2, va_up_ne _ _ hj, va_up_ne _ _ (by omega)]
      · intro a ha; rw [hf2, va_up_self]; exact c4 a ha
      · intro j h4 hj; rw [hf2, va_up_ne _ _ hj, va_up_ne _ _ (by omega)]
theorem op_turned (a0 : Int32) (a1 : Int32) : OpI Sim mX5_turned mX6_turned [vI a0, vI a1] := by
  rintro wc wm ⟨cK, cF, ga, gi, gs, oK, cT, ra, rb, cR, cP, cM, ea, eb, cW, aO, aC, aQ, kn, ne, fi, se, ma, on, ot, ta, po, ti, nu, mo, wa, nx, oT, cF', bg, ed, sF, qu, qd, tr, rfl, rfl, inv, h1, h2⟩
  obtain ⟨v, cK1, cF1, kn1, ne1, fi1, e1, e2, inv1⟩ := pure_turned fi inv a0 a1
  exact ⟨v, _, _, c_X5_turned (d := 5) e1, c_X6_turned (d := 6) e2, _, _, _, _, _, _, _, _, _, _, _, _, _, _, _, _, _, _, _, _, _, _, _, _, _, _, _, _, _, _, _, _, _, _, _, _, _, _, _, _, rfl, rfl, inv1, h1, h2⟩
