/-! second -/
def xs (c : Nat) : Int32 := (-20 : Int32) + nI c
theorem xs_1 (c : Nat) : xs c + 1 = xs (c + 1) := by
  unfold xs
  rw [Int32.add_assoc, nI_1]
theorem xs_18 : ∀ c, c < 39 → (18 ≤ xs c ↔ c = 38) := by decide +kernel
theorem xs_38 : xs 38 = 18 := by decide
theorem abv_le (f : Nat → Int64) (n : Nat) : abv f n ≤ n + 1 := cs_le f n (n + 1)
def isS (t : Nat → Nat → Int64) (n c : Nat) : Prop := abv (mv t n (xs c)) n ≤ 1 ∧ ∀ d, d < c → ¬ abv (mv t n (xs d)) n ≤ 1
theorem isS_ex {t : Nat → Nat → Int64} {n : Nat} (h : abv (mv t n 18) n = 0) : ∃ c, c ≤ 38 ∧ isS t n c := by
  obtain ⟨c, h1, h2⟩ := pk_least (fun c => abv (mv t n (xs c)) n ≤ 1) ⟨38, by rw [xs_38, h]; omega⟩
  refine ⟨c, ?_, h1, h2⟩
  rcases Nat.lt_or_ge 38 c with q | q
  · exact absurd (by rw [xs_38, h]; omega) (h2 38 q)
  · exact q
theorem s_secondC {n : Nat} {cP : Nat → Int64} {t : Nat → Nat → Int64} {c : Nat} (h1 : 1 ≤ n) (h10 : n ≤ 10) (hP : ∀ k, k ≤ n → cP (n - k) = polC t n k * lN (2 ^ k)) (cM : Nat → Int64) (hc : c ≤ 38) (hS : isS t n c) : ∃ e cM', loop (b_X5_second_25 (nI n) cP) ((-20 : Int32), cM) = some e ∧ (e = Sum.inl (xs c, cM') ∨ (xs c = 18 ∧ e = Sum.inr cM')) := by
  have := loop_cnt (f := b_X5_second_25 (nI n) cP) (fun d x => ∃ cM, x = (xs d, cM)) c (fun e => ∃ cM', e = Sum.inl (xs c, cM') ∨ (xs c = 18 ∧ e = Sum.inr cM')) (by
    rintro d x hd ⟨cM, rfl⟩
    obtain ⟨cM', e⟩ := s_countAbove (t := t) h1 h10 hP cM (xs d)
    have hab := abv_le (mv t n (xs d)) n
    have hgt := hS.2 d hd
    unfold b_X5_second_25
    dsimp only
    rw [if_neg (fun z => by have := (xs_18 d (by omega)).mp z; omega), e]
    simp only [Option.bind_some]
    rw [if_pos (by rw [i1]; exact nI_lt (by omega) (by omega)), xs_1]
    exact ⟨_, rfl, _, rfl⟩) (by
    rintro x ⟨cM, rfl⟩
    unfold b_X5_second_25
    dsimp only
    by_cases q : c = 38
    · rw [if_pos ((xs_18 c (by omega)).mpr q)]
      exact ⟨_, rfl, cM, Or.inr ⟨by rw [q]; exact xs_38, rfl⟩⟩
    · obtain ⟨cM', e⟩ := s_countAbove (t := t) h1 h10 hP cM (xs c)
      have hle := hS.1
      rw [if_neg (fun z => q ((xs_18 c (by omega)).mp z)), e]
      simp only [Option.bind_some]
      rw [if_neg (by rw [i1]; exact nI_nlt (by omega) (by omega))]
      exact ⟨_, rfl, cM', Or.inl rfl⟩) 0 ((-20 : Int32), cM) (by omega) ⟨cM, rfl⟩
  obtain ⟨e, he, cM', h⟩ := this
  exact ⟨e, cM', he, h⟩
theorem s_secondM {kn : Nat → Int32} {k n : Nat} {nu : Nat → Int64} {t : Nat → Nat → Int64} {c : Nat} (hk : k < 4) (hn : kn k = nI n) (h10 : n ≤ 10) (hP : ∀ k, k ≤ n → nu (n - k) = polC t n k) (mo : Nat → Int64) (hS : isS t n c) : ∃ mo', loop (b_X6_second_19 kn nu (nI k)) ((-20 : Int32), mo) = some (xs c, mo') := by
  have := loop_cnt (f := b_X6_second_19 kn nu (nI k)) (fun d x => ∃ mo, x = (xs d, mo)) c (fun e => ∃ mo', e = (xs c, mo')) (by
    rintro d x hd ⟨mo, rfl⟩
    obtain ⟨mo', e⟩ := s_aboveOf (t := t) h10 hP mo (xs d)
    have hab := abv_le (mv t n (xs d)) n
    have hgt := hS.2 d hd
    unfold b_X6_second_19
    dsimp only
    rw [chk_in (vp_in_nI hk (by omega)), nI_clamp (by omega), hn, e]
    simp only [Option.bind_some]
    rw [if_neg (by rw [i1]; exact nI_ge (by omega) (by omega)), xs_1]
    exact ⟨_, rfl, _, rfl⟩) (by
    rintro x ⟨mo, rfl⟩
    obtain ⟨mo', e⟩ := s_aboveOf (t := t) h10 hP mo (xs c)
    have hle := hS.1
    unfold b_X6_second_19
    dsimp only
    rw [chk_in (vp_in_nI hk (by omega)), nI_clamp (by omega), hn, e]
    simp only [Option.bind_some]
    rw [if_pos (by rw [i1]; exact nI_le (by omega) (by omega))]
    exact ⟨_, rfl, mo', rfl⟩) 0 ((-20 : Int32), mo) (by omega) ⟨mo, rfl⟩
  obtain ⟨e, he, mo', rfl⟩ := this
  exact ⟨mo', he⟩
theorem pure_second {kn ne cK : Nat → Int32} {cF : Nat → Nat → Int32} {ra rb : Fin 2} (oK : Int32) (cT : Nat → Nat → Int32) (cR : Nat → Nat → Nat → Int64) (cP cM : Nat → Int64) (ma : Int32) (on ot : Nat → Int32) (ta po ti nu mo : Nat → Int64) (hr : ra ≠ rb) (inv : Inv kn ne cK cF) (a0 : Int32) : ∃ (v oK' : Int32) (cT' : Nat → Nat → Int32) (ra' rb' : Fin 2) (cR' : Nat → Nat → Nat → Int64) (cP' cM' : Nat → Int64) (ma' : Int32) (on' ot' : Nat → Int32) (ta' po' ti' nu' mo' : Nat → Int64), s_X5_second cK cF oK cT ra rb cR cP cM a0 = some (v, oK', cT', ra', rb', cR', cP', cM') ∧ s_X6_second kn ne ma on ot ta po ti nu mo a0 = some (v, ma', on', ot', ta', po', ti', nu', mo') ∧ ra' ≠ rb' := by
  rcases net_or a0 with h | ⟨k, hk, rfl⟩
  · exact ⟨-2, oK, cT, ra, rb, cR, cP, cM, ma, on, ot, ta, po, ti, nu, mo, by unfold s_X5_second; rw [netAt_no h]; rfl, by unfold s_X6_second; rw [isNet_no h]; rfl, hr⟩
  · obtain ⟨N, r, hi⟩ := id inv
    obtain ⟨hg, b1, b2, b3⟩ := hi k hk
    have hf : (fin5 k).1 = k := fin5_val (by omega)
    have b2' : cK (fin5 k).1 = nI (N k) := by rw [hf]; exact b2
    have b3' : ∀ a, a < 10 → cF (fin5 k).1 a = nI (r k a) := fun a ha => by rw [hf]; exact (b3 a ha).2
    obtain ⟨cT', ra', rb', cR', cP', e1, e2, e3⟩ := s_read (p := fin5 k) (s := 0) b2' hg b3' (by omega) hr oK cT cR cP
    obtain ⟨ma', on', ot', ta', po', ti', nu', e5, e6⟩ := s_layOwn (s := 0) hk b1 hg (fun a ha => (b3 a ha).1) (by omega) ma on ot ta po ti nu
    obtain ⟨c, hc, hS⟩ := isS_ex (tb_ok hg 0).1
    obtain ⟨e, cM', e7, e8⟩ := s_secondC hg.1 hg.2.1 e3 cM hc hS
    obtain ⟨mo', e9⟩ := s_secondM hk b1 hg.2.1 e6 mo hS
    refine ⟨xs c, nI (N k), cT', ra', rb', cR', cP', cM', ma', on', ot', ta', po', ti', nu', mo', ?_, ?_, e2⟩
    · unfold s_X5_second
      rw [netAt_yes hk]
      simp only [Option.bind_some, Option.elim_some]
      rw [i0, e1]
      simp only [Option.bind_some]
      rw [e7]
      simp only [Option.bind_some]
      rcases e8 with rfl | ⟨h18, rfl⟩
      · rfl
      · rw [h18]; rfl
    · unfold s_X6_second
      rw [isNet_yes hk]
      simp only [Option.bind_some]
      rw [if_neg (show ¬ ((1 : Int32) = 0) by decide), i0, e5]
      simp only [Option.bind_some]
      rw [e9]
      rfl
theorem op_second (a0 : Int32) : OpI Sim mX5_second mX6_second [vI a0] := by
  rintro wc wm ⟨cK, cF, ga, gi, gs, oK, cT, ra, rb, cR, cP, cM, ea, eb, cW, aO, aC, aQ, kn, ne, fi, se, ma, on, ot, ta, po, ti, nu, mo, wa, nx, oT, cF', bg, ed, sF, qu, qd, tr, rfl, rfl, inv, h1, h2⟩
  obtain ⟨v, oK1, cT1, ra1, rb1, cR1, cP1, cM1, ma1, on1, ot1, ta1, po1, ti1, nu1, mo1, e1, e2, e3⟩ := pure_second oK cT cR cP cM ma on ot ta po ti nu mo h1 inv a0
  exact ⟨v, _, _, c_X5_second (d := 4) e1, c_X6_second (d := 4) e2, _, _, _, _, _, _, _, _, _, _, _, _, _, _, _, _, _, _, _, _, _, _, _, _, _, _, _, _, _, _, _, _, _, _, _, _, _, _, _, _, rfl, rfl, inv, e3, h2⟩
/-! span -/
def inW (t : Nat → Nat → Int64) (n c : Nat) : Prop := abv (mv t n (nI c)) n = 0 ∧ abv (mv t n (-nI c)) n + zc (mv t n (-nI c)) n = n
def isW (t : Nat → Nat → Int64) (n c : Nat) : Prop := inW t n c ∧ ∀ d, d < c → ¬ inW t n d
noncomputable def wid (t : Nat → Nat → Int64) (n : Nat) : Nat := @dite _ (∃ c, isW t n c) (Classical.propDecidable _) (fun h => h.choose) (fun _ => 0)
theorem isW_one {t : Nat → Nat → Int64} {n c d : Nat} (h1 : isW t n c) (h2 : isW t n d) : c = d := by
  rcases Nat.lt_trichotomy c d with q | q | q
  · exact absurd h1.1 (h2.2 c q)
  · exact q
  · exact absurd h2.1 (h1.2 d q)
theorem wid_eq {t : Nat → Nat → Int64} {n c : Nat} (h : isW t n c) : c = wid t n := by
  unfold wid
  rw [dif_pos ⟨c, h⟩]
  exact isW_one h (Exists.choose_spec (⟨c, h⟩ : ∃ c, isW t n c))
theorem wid_is {t : Nat → Nat → Int64} {n : Nat} (h : abv (mv t n 18) n = 0 ∧ abv (mv t n (-18)) n + zc (mv t n (-18)) n = n) : isW t n (wid t n) ∧ wid t n ≤ 18 := by
  have e18 : nI 18 = 18 := by decide
  have h18 : inW t n 18 := by unfold inW; rw [e18]; exact h
  obtain ⟨c, h1, h2⟩ := pk_least (fun c => inW t n c) ⟨18, h18⟩
  have hw : isW t n c := ⟨h1, h2⟩
  rw [← wid_eq hw]
  refine ⟨hw, ?_⟩
  rcases Nat.lt_or_ge 18 c with q | q
  · exact absurd h18 (h2 18 q)
  · exact q
theorem zc_le {t : Nat → Nat → Int64} {n : Nat} (x : Int32) : abv (mv t n x) n + zc (mv t n x) n ≤ n := abv_zc (by rw [mv_top]; exact one_ne)
theorem s_countBelow {n : Nat} {cP : Nat → Int64} {t : Nat → Nat → Int64} (h1 : 1 ≤ n) (h10 : n ≤ 10) (hP : ∀ k, k ≤ n → cP (n - k) = polC t n k * lN (2 ^ k)) (cM : Nat → Int64) (x : Int32) : ∃ cM', s_X3_countBelow (nI n) cP cM x = some (nI (n - abv (mv t n x) n - zc (mv t n x) n), cM') := by
  obtain ⟨cM1, e1⟩ := s_countAbove (t := t) h1 h10 hP cM x
  obtain ⟨cM2, e2⟩ := s_countAt (t := t) h1 h10 hP cM1 x
  have hz := zc_le (t := t) (n := n) x
  refine ⟨cM2, ?_⟩
  unfold s_X3_countBelow
  rw [e1]
  simp only [Option.bind_some]
  rw [e2]
  simp only [Option.bind_some]
  rw [pk_sub (by omega), pk_sub (by omega)]
theorem s_width {n : Nat} {cP : Nat → Int64} {t : Nat → Nat → Int64} (h1 : 1 ≤ n) (h10 : n ≤ 10) (hP : ∀ k, k ≤ n → cP (n - k) = polC t n k * lN (2 ^ k)) (hok : abv (mv t n 18) n = 0 ∧ abv (mv t n (-18)) n + zc (mv t n (-18)) n = n) (cM : Nat → Int64) : ∃ cM', s_X3_width (nI n) cP cM = some (nI (wid t n), cM') := by
  obtain ⟨hw, hle⟩ := wid_is hok
  have := loop_cnt (f := b_X3_width_2 (nI n) cP) (fun d x => ∃ cM, x = (nI d, cM)) (wid t n) (fun e => ∃ cM', e = Sum.inl (nI (wid t n), cM') ∨ (wid t n = 18 ∧ e = Sum.inr cM')) (by
    rintro d x hd ⟨cM, rfl⟩
    obtain ⟨cM1, e1⟩ := s_countAbove (t := t) h1 h10 hP cM (nI d)
    obtain ⟨cM2, e2⟩ := s_countBelow (t := t) h1 h10 hP cM1 (-nI d)
    have hno := hw.2 d hd
    have hab := abv_le (mv t n (nI d)) n
    have hz := zc_le (t := t) (n := n) (-nI d)
    unfold b_X3_width_2
    dsimp only
    rw [if_neg (by rw [show (18 : Int32) = nI 18 by decide]; exact nI_ge (by omega) (by omega)), e1]
    simp only [Option.bind_some]
    rw [nI_1, e2]
    simp only [Option.bind_some]
    by_cases q : abv (mv t n (nI d)) n = 0
    · rw [if_pos (by rw [q]; decide), if_neg (nI_ne0 (by
        rcases Nat.eq_zero_or_pos (n - abv (mv t n (-nI d)) n - zc (mv t n (-nI d)) n) with z | z
        · exact absurd ⟨q, by omega⟩ hno
        · exact z) (by omega))]
      exact ⟨_, rfl, _, rfl⟩
    · rw [if_neg (nI_ne0 (by omega) (by omega))]
      exact ⟨_, rfl, _, rfl⟩) (by
    rintro x ⟨cM, rfl⟩
    unfold b_X3_width_2
    dsimp only
    by_cases q : wid t n = 18
    · rw [if_pos (by rw [show (18 : Int32) = nI 18 by decide]; exact nI_le (by omega) (by omega))]
      exact ⟨_, rfl, cM, Or.inr ⟨q, rfl⟩⟩
    · obtain ⟨cM1, e1⟩ := s_countAbove (t := t) h1 h10 hP cM (nI (wid t n))
      obtain ⟨cM2, e2⟩ := s_countBelow (t := t) h1 h10 hP cM1 (-nI (wid t n))
      obtain ⟨w1, w2⟩ := hw.1
      have w3 : n - abv (mv t n (-nI (wid t n))) n - zc (mv t n (-nI (wid t n))) n = 0 := by omega
      rw [if_neg (by rw [show (18 : Int32) = nI 18 by decide]; exact nI_ge (by omega) (by omega)), e1, w1]
      simp only [Option.bind_some]
      rw [if_pos (by decide), e2, w3]
      simp only [Option.bind_some]
      rw [if_pos (by decide)]
      exact ⟨_, rfl, cM2, Or.inl rfl⟩) 0 ((0 : Int32), cM) (by omega) ⟨cM, rfl⟩
  obtain ⟨e, he, cM', h⟩ := this
  refine ⟨cM', ?_⟩
  unfold s_X3_width
  rw [he]
  rcases h with rfl | ⟨h18, rfl⟩
  · rfl
  · rw [h18]; rfl
theorem s_spanOf {kn ne : Nat → Int32} {k n s : Nat} {r : Nat → Nat} (hk : k < 4) (hn : kn k = nI n) (hg : Gr n r) (h3 : ∀ a, a < 10 → ne (10 * k + a) = nI (r a)) (hs : s < 2 ^ 31) (ma : Int32) (on ot : Nat → Int32) (ta po ti nu mo : Nat → Int64) : ∃ ma' on' ot' ta' po' ti' nu' mo', s_X6_spanOf kn ne ma on ot ta po ti nu mo (nI k) (nI s) = some (nI (wid (tb r n s) n), ma', on', ot', ta', po', ti', nu', mo') := by
  have h10 := hg.2.1
  obtain ⟨ma', on', ot', ta', po', ti', nu', e5, hP⟩ := s_layOwn (s := s) hk hn hg h3 hs ma on ot ta po ti nu
  obtain ⟨hw, hle⟩ := wid_is (tb_ok hg s)
  have := loop_cnt (f := b_X6_spanOf_16 nu' (nI n)) (fun d x => ∃ mo, x = (nI d, mo)) (wid (tb r n s) n) (fun e => ∃ mo', e = (nI (wid (tb r n s) n), mo')) (by
    rintro d x hd ⟨mo, rfl⟩
    obtain ⟨mo1, e1⟩ := s_aboveOf (t := tb r n s) h10 hP mo (nI d)
    obtain ⟨mo2, e2⟩ := s_aboveOf (t := tb r n s) h10 hP mo1 (-nI d)
    obtain ⟨mo3, e3⟩ := s_justOf (t := tb r n s) h10 hP mo2 (-nI d)
    have hno := hw.2 d hd
    have hab := abv_le (mv (tb r n s) n (nI d)) n
    have hz := zc_le (t := tb r n s) (n := n) (-nI d)
    unfold b_X6_spanOf_16
    dsimp only
    rw [e1]
    simp only [Option.bind_some]
    rw [nI_1, e2]
    simp only [Option.bind_some]
    rw [e3]
    simp only [Option.bind_some]
    by_cases q : abv (mv (tb r n s) n (nI d)) n = 0
    · rw [if_neg (by rw [q]; decide), nI_add, if_neg (nI_ge (by
        rcases Nat.lt_or_ge (abv (mv (tb r n s) n (-nI d)) n + zc (mv (tb r n s) n (-nI d)) n) n with z | z
        · exact z
        · exact absurd ⟨q, by omega⟩ hno) (by omega))]
      exact ⟨_, rfl, _, rfl⟩
    · rw [if_pos (by rw [i0]; exact nI_lt (by omega) (by omega))]
      exact ⟨_, rfl, _, rfl⟩) (by
    rintro x ⟨mo, rfl⟩
    obtain ⟨mo1, e1⟩ := s_aboveOf (t := tb r n s) h10 hP mo (nI (wid (tb r n s) n))
    obtain ⟨mo2, e2⟩ := s_aboveOf (t := tb r n s) h10 hP mo1 (-nI (wid (tb r n s) n))
    obtain ⟨mo3, e3⟩ := s_justOf (t := tb r n s) h10 hP mo2 (-nI (wid (tb r n s) n))
    obtain ⟨w1, w2⟩ := hw.1
    unfold b_X6_spanOf_16
    dsimp only
    rw [e1, w1]
    simp only [Option.bind_some]
    rw [if_neg (by decide), e2]
    simp only [Option.bind_some]
    rw [e3]
    simp only [Option.bind_some]
    rw [nI_add, w2, if_pos (nI_le (Nat.le_refl _) (by omega))]
    exact ⟨_, rfl, mo3, rfl⟩) 0 ((0 : Int32), mo) (by omega) ⟨mo, rfl⟩
  obtain ⟨e, he, mo', rfl⟩ := this
  refine ⟨ma', on', ot', ta', po', ti', nu', mo', ?_⟩
  unfold s_X6_spanOf
  rw [e5]
  simp only [Option.bind_some]
  rw [chk_in (vp_in_nI hk (by omega)), nI_clamp (by omega), hn, he]
  rfl
theorem nn_le {m : Nat} (h : m < 2 ^ 31) : (0 : Int32) ≤ nI m := nI_pos' h
theorem pure_span {kn ne cK : Nat → Int32} {cF : Nat → Nat → Int32} {ra rb : Fin 2} (oK : Int32) (cT : Nat → Nat → Int32) (cR : Nat → Nat → Nat → Int64) (cP cM : Nat → Int64) (ma : Int32) (on ot : Nat → Int32) (ta po ti nu mo : Nat → Int64) (hr : ra ≠ rb) (inv : Inv kn ne cK cF) (a0 a1 : Int32) : ∃ (v oK' : Int32) (cT' : Nat → Nat → Int32) (ra' rb' : Fin 2) (cR' : Nat → Nat → Nat → Int64) (cP' cM' : Nat → Int64) (ma' : Int32) (on' ot' : Nat → Int32) (ta' po' ti' nu' mo' : Nat → Int64), s_X5_span cK cF oK cT ra rb cR cP cM a0 a1 = some (v, oK', cT', ra', rb', cR', cP', cM') ∧ s_X6_span kn ne ma on ot ta po ti nu mo a0 a1 = some (v, ma', on', ot', ta', po', ti', nu', mo') ∧ ra' ≠ rb' := by
  rcases net_or a0 with h | ⟨k, hk, rfl⟩
  · exact ⟨-2, oK, cT, ra, rb, cR, cP, cM, ma, on, ot, ta, po, ti, nu, mo, by unfold s_X5_span; rw [netAt_no h]; rfl, by unfold s_X6_span; rw [isNet_no h]; rfl, hr⟩
  · rcases nn_or a1 with h | ⟨s, hs, rfl⟩
    · refine ⟨-2, oK, cT, ra, rb, cR, cP, cM, ma, on, ot, ta, po, ti, nu, mo, ?_, ?_, hr⟩
      · unfold s_X5_span
        rw [netAt_yes hk]
        simp only [Option.bind_some, Option.elim_some]
        rw [if_neg (by rw [Int32.le_iff_toInt_le]; rw [Int32.lt_iff_toInt_lt] at h; omega)]
      · unfold s_X6_span
        rw [isNet_yes hk]
        simp only [Option.bind_some]
        rw [if_neg (show ¬ ((1 : Int32) = 0) by decide), if_pos h]
    · obtain ⟨N, r, hi⟩ := id inv
      obtain ⟨hg, b1, b2, b3⟩ := hi k hk
      have hf : (fin5 k).1 = k := fin5_val (by omega)
      have b2' : cK (fin5 k).1 = nI (N k) := by rw [hf]; exact b2
      have b3' : ∀ a, a < 10 → cF (fin5 k).1 a = nI (r k a) := fun a ha => by rw [hf]; exact (b3 a ha).2
      obtain ⟨cT', ra', rb', cR', cP', e1, e2, e3⟩ := s_read (p := fin5 k) b2' hg b3' hs hr oK cT cR cP
      obtain ⟨cM', e4⟩ := s_width hg.1 hg.2.1 e3 (tb_ok hg s) cM
      obtain ⟨ma', on', ot', ta', po', ti', nu', mo', e5⟩ := s_spanOf (s := s) hk b1 hg (fun a ha => (b3 a ha).1) hs ma on ot ta po ti nu mo
      refine ⟨nI (wid (tb (r k) (N k) s) (N k)), nI (N k), cT', ra', rb', cR', cP', cM', ma', on', ot', ta', po', ti', nu', mo', ?_, ?_, e2⟩
      · unfold s_X5_span
        rw [netAt_yes hk]
        simp only [Option.bind_some, Option.elim_some]
        rw [if_pos (nn_le hs), e1]
        simp only [Option.bind_some]
        rw [e4]
        rfl
      · unfold s_X6_span
        rw [isNet_yes hk]
        simp only [Option.bind_some]
        rw [if_neg (show ¬ ((1 : Int32) = 0) by decide), if_neg (nI_pos hs), e5]
        rfl
theorem op_span (a0 : Int32) (a1 : Int32) : OpI Sim mX5_span mX6_span [vI a0, vI a1] := by
  rintro wc wm ⟨cK, cF, ga, gi, gs, oK, cT, ra, rb, cR, cP, cM, ea, eb, cW, aO, aC, aQ, kn, ne, fi, se, ma, on, ot, ta, po, ti, nu, mo, wa, nx, oT, cF', bg, ed, sF, qu, qd, tr, rfl, rfl, inv, h1, h2⟩
  obtain ⟨v, oK1, cT1, ra1, rb1, cR1, cP1, cM1, ma1, on1, ot1, ta1, po1, ti1, nu1, mo1, e1, e2, e3⟩ := pure_span oK cT cR cP cM ma on ot ta po ti nu mo h1 inv a0 a1
  exact ⟨v, _, _, c_X5_span (d := 3) e1, c_X6_span (d := 3) e2, _, _, _, _, _, _, _, _, _, _, _, _, _, _, _, _, _, _, _, _, _, _, _, _, _, _, _, _, _, _, _, _, _, _, _, _, _, _, _, _, rfl, rfl, inv, e3, h2⟩
