/-! the forest of the highest lines -/
theorem ball_in {h : Nat → Nat} {n a X : Nat} (hX : closed h X) (ha : X.testBit a = true) : ∀ d, subB (iter (stepA h n) d (2 ^ a)) X
  | 0 => fun b hb => by
    have : (2 ^ a).testBit b = true := hb
    rw [two_bit] at this
    rw [← this]; exact ha
  | d + 1 => stepA_min (v := a) (ball_in hX ha d) hX
theorem conn_same {h : Nat → Nat} {n a b d X : Nat} (hg : Gr n h) (ha : a < n) (hb : (iter (stepA h n) d (2 ^ a)).testBit b = true) (hX : closed h X) : X.testBit a = X.testBit b := by
  have h10 := hg.2.1
  have h31 : 2 ^ n ≤ 2 ^ 10 := Nat.pow_le_pow_right (by omega) h10
  have hc : closed h (andn (2 ^ n - 1) X) := by
    intro j hj c hc
    rw [andn_bit _ _ (by omega), Nat.testBit_two_pow_sub_one, Bool.and_eq_true, decide_eq_true_iff] at hj ⊢
    refine ⟨bit_lt (hg.2.2.1 j hj.1) hc, ?_⟩
    cases hx : X.testBit c
    · rfl
    · have h1 := hX c hx j (by rw [hg.2.2.2.2.1]; exact hc)
      rw [h1] at hj
      exact absurd hj.2 (by decide)
  cases hxa : X.testBit a
  · have h1 : (andn (2 ^ n - 1) X).testBit a = true := by
      rw [andn_bit _ _ (by omega), Nat.testBit_two_pow_sub_one, hxa, decide_eq_true ha]; rfl
    have h2 := ball_in (n := n) hc h1 d b hb
    rw [andn_bit _ _ (by omega), Bool.and_eq_true] at h2
    cases hxb : X.testBit b
    · rfl
    · rw [hxb] at h2; exact absurd h2.2 (by decide)
  · exact (ball_in (n := n) hX hxa d b hb).symm
def FI (r : Nat → Nat) (n l : Nat) (h : Nat → Nat) (Fm : Nat) : Prop := Gr n h ∧ (∀ l', l ≤ l' → l' < (linesP r n).length → ∀ X, closed h X → X.testBit (ln r n l').1 = X.testBit (ln r n l').2) ∧ Fm < 2 ^ (linesP r n).length ∧ ∀ f, Fm.testBit f = true → f < (linesP r n).length ∧ ∃ X, crs r n X f ∧ ∀ l', f < l' → l' < (linesP r n).length → ¬ crs r n X l'
theorem FI_conn {r h : Nat → Nat} {n l Fm a b d : Nat} (hF : FI r n (l + 1) h Fm) (hl : ln r n l = (a, b)) (ha : a < n) (hb : (iter (stepA h n) d (2 ^ a)).testBit b = true) : FI r n l h Fm := by
  obtain ⟨h1, h2, h3, h4⟩ := hF
  refine ⟨h1, fun l' g1 g2 X hX => ?_, h3, h4⟩
  by_cases e : l' = l
  · rw [e, hl]; exact conn_same h1 ha hb hX
  · exact h2 l' (by omega) g2 X hX
theorem flp_closed {h : Nat → Nat} {a b X : Nat} (hab : a ≠ b) (hn : (h a).testBit b = false) (hn2 : (h b).testBit a = false) (hX : closed (flp h a b) X) : closed h X ∧ X.testBit a = X.testBit b := by
  have hup : ∀ j c, (h j).testBit c = true → (flp h a b j).testBit c = true := by
    intro j c hc
    rw [flp_bit hab, hc]
    have : ¬ ((j = a ∧ c = b) ∨ (j = b ∧ c = a)) := by
      rintro (⟨rfl, rfl⟩ | ⟨rfl, rfl⟩)
      · rw [hn] at hc; exact absurd hc (by decide)
      · rw [hn2] at hc; exact absurd hc (by decide)
    rw [decide_eq_false this]; rfl
  refine ⟨fun j hj c hc => hX j hj c (hup j c hc), ?_⟩
  have e1 : (flp h a b a).testBit b = true := by rw [flp_bit hab, hn, decide_eq_true (Or.inl ⟨rfl, rfl⟩)]; rfl
  have e2 : (flp h a b b).testBit a = true := by rw [flp_bit hab, hn2, decide_eq_true (Or.inr ⟨rfl, rfl⟩)]; rfl
  cases hxa : X.testBit a
  · cases hxb : X.testBit b
    · rfl
    · rw [hX b hxb a e2] at hxa; exact absurd hxa (by decide)
  · exact (hX a hxa b e1).symm
theorem FI_new {r h : Nat → Nat} {n l Fm a b : Nat} (hF : FI r n (l + 1) h Fm) (hlt : l < (linesP r n).length) (hl : ln r n l = (a, b)) (ha : a < n) (hb : b < n) (hab : a ≠ b) (hno : ∀ d, ¬ (iter (stepA h n) d (2 ^ a)).testBit b = true) : FI r n l (flp h a b) (Fm ||| 2 ^ l) := by
  obtain ⟨h1, h2, h3, h4⟩ := hF
  have hn : (h a).testBit b = false := by
    cases q : (h a).testBit b
    · rfl
    · refine absurd ?_ (hno 1)
      show (2 ^ a ||| orA h (2 ^ a) n).testBit b = true
      rw [Nat.testBit_or, (orA_bit b n).mpr ⟨a, ha, (two_bit a a).mpr rfl, q⟩, Bool.or_true]
  have hn2 : (h b).testBit a = false := by rw [h1.2.2.2.2.1]; exact hn
  refine ⟨Gr_flp h1 ha hb hab, fun l' g1 g2 X hX => ?_, Nat.or_lt_two_pow h3 (two_lt hlt), fun f hf => ?_⟩
  · obtain ⟨c1, c2⟩ := flp_closed hab hn hn2 hX
    by_cases e : l' = l
    · rw [e, hl]; exact c2
    · exact h2 l' (by omega) g2 X c1
  · rw [Nat.testBit_or, Bool.or_eq_true, two_bit] at hf
    rcases hf with hf | hf
    · exact h4 f hf
    · subst hf
      obtain ⟨c1, c2, -⟩ := iterA_clo h1 ha
      refine ⟨hlt, iter (stepA h n) (n - 1) (2 ^ a), ?_, fun l' g1 g2 hc => ?_⟩
      · unfold crs
        rw [hl]
        dsimp only
        rw [c1, Bool.eq_false_iff.mpr (hno (n - 1))]
        decide
      · exact hc (h2 l' (by omega) g2 _ c2)
theorem lf_in {cK : Nat → Int32} {cF : Nat → Nat → Int32} {p : Fin 5} {n a Fm : Nat} {r h : Nat → Nat} {F : Nat → Int32} (hp : p.1 ≠ 4) (hg : Gr n r) (h9 : (linesP r n).length ≤ 9) (h3 : ∀ a, a < 10 → cF p.1 a = nI (r a)) (ha : a < n) (hF : ∀ x, x < 10 → F x = nI (h x)) (hI : FI r n (pos r n a n) h Fm) : ∃ e, loop (b_X5_lateForest_39 (va_up cK 4 (nI n)) p (nI a)) (nI Fm, nI (pos r n a n), nI (n - 1), va_up cF 4 F) = some e ∧ ∃ Fm' h' F', e = (nI Fm', nI (pos r n a (a + 1)), va_up cF 4 F') ∧ (∀ x, x < 10 → F' x = nI (h' x)) ∧ FI r n (pos r n a (a + 1)) h' Fm' := by
  have h10 := hg.2.1
  refine loop_cnt (f := b_X5_lateForest_39 (va_up cK 4 (nI n)) p (nI a)) (fun c x => ∃ Fm' h' F', x = (nI Fm', nI (pos r n a (n - c)), nI (n - 1 - c), va_up cF 4 F') ∧ (∀ x, x < 10 → F' x = nI (h' x)) ∧ FI r n (pos r n a (n - c)) h' Fm') (n - 1 - a) _ ?_ ?_ 0 _ (by omega) ⟨Fm, h, F, rfl, hF, hI⟩
  · rintro c x hc ⟨Fm', h', F', rfl, g1, g2⟩
    obtain ⟨b, hb⟩ : ∃ b, n - 1 - c = b + 1 := ⟨n - 1 - c - 1, by omega⟩
    have hnc : n - c = b + 1 + 1 := by omega
    have hbn : b + 1 < n := by omega
    have hp2 := pos_le (r := r) ha (show b + 1 + 1 ≤ n by omega)
    rw [hnc] at g2
    unfold b_X5_lateForest_39
    dsimp only
    rw [hb, hnc, if_neg (nI_ge (by omega) (by omega)), s_joins (r := r) (by omega) (by omega) (Gr_lt hg a) (by rw [va_up_ne _ _ hp]; exact h3 a (by omega)), nI_dn]
    simp only [Option.bind_some]
    rw [show n - (c + 1) = b + 1 by omega, show n - 1 - (c + 1) = b by omega]
    by_cases q : (r a).testBit (b + 1) = true
    · obtain ⟨p1, p2, p3⟩ := pos_yes (show a < b + 1 by omega) hbn q
      rw [if_neg (b2i_true q), p1, nI_dn]
      rw [p1] at g2
      obtain ⟨v, e1, e2⟩ := few_direct (cK := va_up cK 4 (nI n)) (cF := va_up cF 4 F') (p := (4 : Fin 5)) (n := n) (r := h') (va_up_self _ _ _) g2.1 (fun x hx => by rw [show ((4 : Fin 5).1) = 4 from rfl, va_up_self]; exact g1 x hx) ha hbn
      rw [e1]
      simp only [Option.bind_some]
      rcases e2 with ⟨d, hd, rfl, hd2, -⟩ | ⟨rfl, hno⟩
      · rw [if_neg (nI_ne_m1 (by omega))]
        exact ⟨_, rfl, Fm', h', F', rfl, g1, FI_conn g2 p3 ha hd2⟩
      · obtain ⟨f, c1, c2⟩ := s_change (cF := va_up cF 4 F') (p := (4 : Fin 5)) (a := a) (b := b + 1) (r := h') (by omega) (by omega) (by omega) (fun x hx => by rw [show ((4 : Fin 5).1) = 4 from rfl, va_up_self]; exact g1 x hx)
        rw [show ((4 : Fin 5).1) = 4 from rfl, bx_uu] at c1
        rw [if_pos rfl, c1]
        simp only [Option.bind_some]
        rw [nI_two (by omega), nI_or]
        exact ⟨_, rfl, _, flp h' a (b + 1), f, rfl, c2, FI_new g2 p2 p3 ha hbn (by omega) hno⟩
    · rw [if_pos (b2i_false q), pos_no q]
      rw [pos_no q] at g2
      exact ⟨_, rfl, Fm', h', F', rfl, g1, g2⟩
  · rintro x ⟨Fm', h', F', rfl, g1, g2⟩
    rw [show n - (n - 1 - a) = a + 1 by omega] at *
    unfold b_X5_lateForest_39
    dsimp only
    rw [show n - 1 - (n - 1 - a) = a by omega, if_pos (nI_le (Nat.le_refl _) (by omega))]
    exact ⟨_, rfl, Fm', h', F', rfl, g1, g2⟩
theorem FI_start {n : Nat} {r : Nat → Nat} (hg : Gr n r) : FI r n (linesP r n).length (fun _ => 0) 0 := ⟨Gr_zero hg.1 hg.2.1, fun l' h1 h2 => by omega, Nat.two_pow_pos _, fun f hf => by rw [Nat.zero_testBit] at hf; exact absurd hf (by decide)⟩
theorem s_lateForest {cK : Nat → Int32} {cF : Nat → Nat → Int32} {p : Fin 5} {n : Nat} {r : Nat → Nat} (hp : p.1 ≠ 4) (hn : cK p.1 = nI n) (hg : Gr n r) (h9 : (linesP r n).length ≤ 9) (h3 : ∀ a, a < 10 → cF p.1 a = nI (r a)) : ∃ Fm F, s_X5_lateForest cK cF p = some (nI Fm, va_up cK 4 (nI n), va_up cF 4 F) ∧ Fm < 2 ^ (linesP r n).length ∧ ∀ f, Fm.testBit f = true → f < (linesP r n).length ∧ ∃ X, crs r n X f ∧ ∀ l', f < l' → l' < (linesP r n).length → ¬ crs r n X l' := by
  have h10 := hg.2.1
  have h1 := hg.1
  have := loop_cnt (f := b_X5_lateForest_26 (va_up cK 4 (nI n)) p) (fun c x => ∃ Fm h F, x = (nI Fm, nI (allP r n (n - c)).length, nI (n - c) + (-1 : Int32), va_up cF 4 F) ∧ (∀ x, x < 10 → F x = nI (h x)) ∧ FI r n (allP r n (n - c)).length h Fm) n (fun e => ∃ Fm F h, e = (nI Fm, va_up cF 4 F) ∧ FI r n 0 h Fm) (by
    rintro c x hc ⟨Fm, h, F, rfl, g1, g2⟩
    obtain ⟨a, ha⟩ : ∃ a, n - c = a + 1 := ⟨n - c - 1, by omega⟩
    rw [ha, ← pos_last] at g2
    obtain ⟨e, e1, Fm', h', F', rfl, e2, e3⟩ := lf_in (cK := cK) (cF := cF) hp hg h9 h3 (show a < n by omega) g1 g2
    unfold b_X5_lateForest_26
    dsimp only
    rw [ha, nI_dn, if_neg (nI_pos (by omega)), va_up_ne _ _ hp, hn, nI_p1 h1, ← pos_last, e1]
    simp only [Option.bind_some]
    rw [pos_first] at e3 ⊢
    rw [show n - (c + 1) = a by omega]
    exact ⟨_, rfl, Fm', h', F', rfl, e2, e3⟩) (by
    rintro x ⟨Fm, h, F, rfl, g1, g2⟩
    rw [Nat.sub_self] at *
    unfold b_X5_lateForest_26
    dsimp only
    rw [if_pos (by decide)]
    exact ⟨_, rfl, Fm, F, h, rfl, g2⟩) 0 ((0 : Int32), nI (linesP r n).length, nI n - (1 : Int32), va_up cF 4 (fillI 10 (cF 4) 0)) (by omega) ⟨0, fun _ => 0, fillI 10 (cF 4) 0, by
      rw [Nat.sub_zero, nI_p1 h1, ← nI_dn (n - 1), show n - 1 + 1 = n by omega]
      rfl, fun x hx => by unfold fillI; rw [if_pos hx]; rfl, FI_start hg⟩
  obtain ⟨e, he, Fm, F, h, rfl, g1, g2, g3, g4⟩ := this
  refine ⟨Fm, F, ?_, g3, g4⟩
  unfold s_X5_lateForest s_X2_startWith
  simp only [Option.bind_some]
  rw [show ((4 : Fin 5).1) = 4 from rfl, hn, s_lineCount (n := n) (r := r) (by rw [va_up_ne _ _ hp]; exact hn) hg (fun a ha => by rw [va_up_ne _ _ hp]; exact h3 a ha), ← lines_len hg]
  simp only [Option.bind_some]
  rw [va_up_ne _ _ hp, hn, he]
  rfl
/-! best -/
theorem bcl_le {W : Nat → Nat} {F : Nat} (h18 : ∀ s, W s ≤ 18) : ∀ i, (bcl W F i).1 ≤ i ∧ (bcl W F i).2 ≤ 19
  | 0 => ⟨Nat.le_refl 0, Nat.le_refl 19⟩
  | i + 1 => by
    obtain ⟨h1, h2⟩ := bcl_le (F := F) h18 i
    have := h18 i
    rw [bcl]
    by_cases q : i &&& F = 0
    · rw [if_pos q]
      by_cases q2 : W i < (bcl W F i).2
      · rw [if_pos q2]; exact ⟨by dsimp only; omega, by dsimp only; omega⟩
      · rw [if_neg q2]; exact ⟨by omega, h2⟩
    · rw [if_neg q]; exact ⟨by omega, h2⟩
theorem br_le {W : Nat → Nat} (h18 : ∀ s, W s ≤ 18) : ∀ i, (br W i).1 ≤ i ∧ (br W i).2 ≤ 18
  | 0 => ⟨Nat.le_refl 0, h18 0⟩
  | i + 1 => by
    obtain ⟨h1, h2⟩ := br_le h18 i
    have := h18 i
    rw [br]
    by_cases q2 : W i < (br W i).2
    · rw [if_pos q2]; exact ⟨by dsimp only; omega, by dsimp only; omega⟩
    · rw [if_neg q2]; exact ⟨by omega, h2⟩
theorem s_leastLoop {cK : Nat → Int32} {cF : Nat → Nat → Int32} {p : Fin 5} {n Fm L : Nat} {r : Nat → Nat} {ra rb : Fin 2} (hn : cK p.1 = nI n) (hg : Gr n r) (h3 : ∀ a, a < 10 → cF p.1 a = nI (r a)) (hr : ra ≠ rb) (hL : L ≤ 9) (hFm : Fm < 2 ^ 9) (oK : Int32) (cT : Nat → Nat → Int32) (cR : Nat → Nat → Nat → Int64) (cP cM : Nat → Int64) : ∃ oK' cT' ra' rb' cR' cP' cM', ra' ≠ rb' ∧ loop (b_X5_leastSigning_23 cK cF p (nI Fm) (nI (2 ^ L))) ((0 : Int32), (19 : Int32), (0 : Int32), oK, cT, ra, rb, cR, cP, cM) = some (nI (bcl (fun s => wid (tb r n s) n) Fm (2 ^ L)).1, oK', cT', ra', rb', cR', cP', cM') := by
  have h18 : ∀ s, wid (tb r n s) n ≤ 18 := fun s => (wid_is (tb_ok hg s)).2
  have hLp : 2 ^ L ≤ 2 ^ 9 := Nat.pow_le_pow_right (by omega) hL
  have := loop_cnt (f := b_X5_leastSigning_23 cK cF p (nI Fm) (nI (2 ^ L))) (fun i x => ∃ oK cT ra rb cR cP cM, ra ≠ rb ∧ x = (nI (bcl (fun s => wid (tb r n s) n) Fm i).1, nI (bcl (fun s => wid (tb r n s) n) Fm i).2, nI i, oK, cT, ra, rb, cR, cP, cM)) (2 ^ L) (fun e => ∃ oK' cT' ra' rb' cR' cP' cM', ra' ≠ rb' ∧ e = (nI (bcl (fun s => wid (tb r n s) n) Fm (2 ^ L)).1, oK', cT', ra', rb', cR', cP', cM')) (by
    rintro i x hi ⟨oK, cT, ra, rb, cR, cP, cM, hr, rfl⟩
    obtain ⟨hb1, hb2⟩ := bcl_le (F := Fm) h18 i
    have hand : i &&& Fm ≤ i := Nat.and_le_left
    have hw := h18 i
    unfold b_X5_leastSigning_23
    dsimp only
    rw [if_neg (nI_ge hi (by omega)), nI_and, nI_1, bcl]
    by_cases q : i &&& Fm = 0
    · obtain ⟨cT', ra', rb', cR', cP', e1, e2, e3⟩ := s_read (p := p) (s := i) hn hg h3 (by omega) hr oK cT cR cP
      obtain ⟨cM', e4⟩ := s_width hg.1 hg.2.1 e3 (tb_ok hg i) cM
      rw [if_pos (by rw [q]; decide), if_pos q, e1]
      simp only [Option.bind_some]
      rw [e4]
      simp only [Option.bind_some]
      by_cases q2 : wid (tb r n i) n < (bcl (fun s => wid (tb r n s) n) Fm i).2
      · rw [if_neg (nI_ge q2 (by omega)), if_pos q2]
        exact ⟨_, rfl, _, _, _, _, _, _, _, e2, rfl⟩
      · rw [if_pos (nI_le (by omega) (by omega)), if_neg q2]
        exact ⟨_, rfl, _, _, _, _, _, _, _, e2, rfl⟩
    · rw [if_neg (nI_ne0 (by omega) (by omega)), if_neg q]
      exact ⟨_, rfl, _, _, _, _, _, _, _, hr, rfl⟩) (by
    rintro x ⟨oK, cT, ra, rb, cR, cP, cM, hr, rfl⟩
    unfold b_X5_leastSigning_23
    dsimp only
    rw [if_pos (nI_le (Nat.le_refl _) (by omega))]
    exact ⟨_, rfl, _, _, _, _, _, _, _, hr, rfl⟩) 0 ((0 : Int32), (19 : Int32), (0 : Int32), oK, cT, ra, rb, cR, cP, cM) (Nat.zero_le _) ⟨oK, cT, ra, rb, cR, cP, cM, hr, rfl⟩
  obtain ⟨e, he, oK', cT', ra', rb', cR', cP', cM', h1, rfl⟩ := this
  exact ⟨oK', cT', ra', rb', cR', cP', cM', h1, he⟩
theorem s_bestLoop {kn ne : Nat → Int32} {k n L : Nat} {r : Nat → Nat} (hk : k < 4) (hn : kn k = nI n) (hg : Gr n r) (h3 : ∀ a, a < 10 → ne (10 * k + a) = nI (r a)) (hL : L ≤ 9) (ma : Int32) (on ot : Nat → Int32) (ta po ti nu mo : Nat → Int64) : ∃ ma' on' ot' ta' po' ti' nu' mo', loop (b_X6_best_38 kn ne (nI k) (nI L)) ((0 : Int32), nI (wid (tb r n 0) n), (1 : Int32), ma, on, ot, ta, po, ti, nu, mo) = some (nI (br (fun s => wid (tb r n s) n) (2 ^ L)).1, ma', on', ot', ta', po', ti', nu', mo') := by
  have h18 : ∀ s, wid (tb r n s) n ≤ 18 := fun s => (wid_is (tb_ok hg s)).2
  have hLp : 2 ^ L ≤ 2 ^ 9 := Nat.pow_le_pow_right (by omega) hL
  have hLp0 : 0 < 2 ^ L := Nat.two_pow_pos L
  have := loop_cnt (f := b_X6_best_38 kn ne (nI k) (nI L)) (fun i x => ∃ ma on ot ta po ti nu mo, x = (nI (br (fun s => wid (tb r n s) n) i).1, nI (br (fun s => wid (tb r n s) n) i).2, nI i, ma, on, ot, ta, po, ti, nu, mo)) (2 ^ L) (fun e => ∃ ma' on' ot' ta' po' ti' nu' mo', e = (nI (br (fun s => wid (tb r n s) n) (2 ^ L)).1, ma', on', ot', ta', po', ti', nu', mo')) (by
    rintro i x hi ⟨ma, on, ot, ta, po, ti, nu, mo, rfl⟩
    obtain ⟨hb1, hb2⟩ := br_le h18 i
    have hw := h18 i
    obtain ⟨ma', on', ot', ta', po', ti', nu', mo', e1⟩ := s_spanOf (s := i) hk hn hg h3 (by omega) ma on ot ta po ti nu mo
    unfold b_X6_best_38
    dsimp only
    rw [nI_two (by omega), if_neg (nI_ge hi (by omega)), e1]
    simp only [Option.bind_some]
    rw [nI_1, br]
    by_cases q2 : wid (tb r n i) n < (br (fun s => wid (tb r n s) n) i).2
    · rw [if_neg (nI_ge q2 (by omega)), if_pos q2]
      exact ⟨_, rfl, _, _, _, _, _, _, _, _, rfl⟩
    · rw [if_pos (nI_le (by omega) (by omega)), if_neg q2]
      exact ⟨_, rfl, _, _, _, _, _, _, _, _, rfl⟩) (by
    rintro x ⟨ma, on, ot, ta, po, ti, nu, mo, rfl⟩
    unfold b_X6_best_38
    dsimp only
    rw [nI_two (by omega), if_pos (nI_le (Nat.le_refl _) (by omega))]
    exact ⟨_, rfl, _, _, _, _, _, _, _, _, rfl⟩) 1 ((0 : Int32), nI (wid (tb r n 0) n), (1 : Int32), ma, on, ot, ta, po, ti, nu, mo) (by omega) ⟨ma, on, ot, ta, po, ti, nu, mo, by
      have e1 : br (fun s => wid (tb r n s) n) 1 = (0, wid (tb r n 0) n) := by
        have e0 : br (fun s => wid (tb r n s) n) 0 = (0, wid (tb r n 0) n) := rfl
        rw [br, e0]
        dsimp only
        rw [if_neg (Nat.lt_irrefl _)]
      rw [e1]
      rfl⟩
  obtain ⟨e, he, ma', on', ot', ta', po', ti', nu', mo', rfl⟩ := this
  exact ⟨ma', on', ot', ta', po', ti', nu', mo', he⟩
theorem inv_spare {kn ne cK : Nat → Int32} {cF : Nat → Nat → Int32} (h : Inv kn ne cK cF) (x : Int32) (F : Nat → Int32) : Inv kn ne (va_up cK 4 x) (va_up cF 4 F) := by
  obtain ⟨N, r, hi⟩ := h
  refine ⟨N, r, fun k hk => ?_⟩
  obtain ⟨a1, a2, a3, a4⟩ := hi k hk
  rw [va_up_ne _ _ (by omega), va_up_ne _ _ (by omega)]
  exact ⟨a1, a2, a3, a4⟩
theorem pure_best {kn ne cK : Nat → Int32} {cF : Nat → Nat → Int32} {ra rb : Fin 2} (oK : Int32) (cT : Nat → Nat → Int32) (cR : Nat → Nat → Nat → Int64) (cP cM : Nat → Int64) (ma : Int32) (on ot : Nat → Int32) (ta po ti nu mo : Nat → Int64) (hr : ra ≠ rb) (inv : Inv kn ne cK cF) (a0 : Int32) : ∃ (v : Int32) (cK' : Nat → Int32) (cF' : Nat → Nat → Int32) (oK' : Int32) (cT' : Nat → Nat → Int32) (ra' rb' : Fin 2) (cR' : Nat → Nat → Nat → Int64) (cP' cM' : Nat → Int64) (ma' : Int32) (on' ot' : Nat → Int32) (ta' po' ti' nu' mo' : Nat → Int64), s_X5_best cK cF oK cT ra rb cR cP cM a0 = some (v, cK', cF', oK', cT', ra', rb', cR', cP', cM') ∧ s_X6_best kn ne ma on ot ta po ti nu mo a0 = some (v, ma', on', ot', ta', po', ti', nu', mo') ∧ Inv kn ne cK' cF' ∧ ra' ≠ rb' := by
  rcases net_or a0 with h | ⟨k, hk, rfl⟩
  · exact ⟨-2, cK, cF, oK, cT, ra, rb, cR, cP, cM, ma, on, ot, ta, po, ti, nu, mo, by unfold s_X5_best; rw [netAt_no h]; rfl, by unfold s_X6_best; rw [isNet_no h]; rfl, inv, hr⟩
  · obtain ⟨N, r, hi⟩ := id inv
    obtain ⟨hg, b1, b2, b3⟩ := hi k hk
    have hf : (fin5 k).1 = k := fin5_val (by omega)
    have b2' : cK (fin5 k).1 = nI (N k) := by rw [hf]; exact b2
    have b3' : ∀ a, a < 10 → cF (fin5 k).1 a = nI (r k a) := fun a ha => by rw [hf]; exact (b3 a ha).2
    have b3m : ∀ a, a < 10 → ne (10 * k + a) = nI (r k a) := fun a ha => (b3 a ha).1
    have h45 := lines_le hg
    unfold s_X5_best s_X6_best
    rw [netAt_yes hk, isNet_yes hk]
    simp only [Option.bind_some, Option.elim_some]
    rw [if_neg (show ¬ ((1 : Int32) = 0) by decide), s_lineCount b2' hg b3', s_lines hk b1 hg b3m, ← lines_len hg]
    simp only [Option.bind_some]
    by_cases h9 : (linesP (r k) (N k)).length ≤ 9
    · have hp : (fin5 k).1 ≠ 4 := by omega
      obtain ⟨Fm, F, f1, f2, f3⟩ := s_lateForest (cK := cK) (cF := cF) hp b2' hg h9 b3'
      have hLp : 2 ^ (linesP (r k) (N k)).length ≤ 2 ^ 9 := Nat.pow_le_pow_right (by omega) h9
      have hLp0 : 0 < 2 ^ (linesP (r k) (N k)).length := Nat.two_pow_pos _
      obtain ⟨oK', cT', ra', rb', cR', cP', cM', g1, g2⟩ := s_leastLoop (cK := va_up cK 4 (nI (N k))) (cF := va_up cF 4 F) (p := fin5 k) (n := N k) (Fm := Fm) (L := (linesP (r k) (N k)).length) (r := r k) (by rw [va_up_ne _ _ hp]; exact b2') hg (fun a ha => by rw [va_up_ne _ _ hp]; exact b3' a ha) hr h9 (by omega) oK cT cR cP cM
      obtain ⟨ma1, on1, ot1, ta1, po1, ti1, nu1, mo1, k1⟩ := s_spanOf (s := 0) hk b1 hg b3m (by omega) ma on ot ta po ti nu mo
      obtain ⟨ma', on', ot', ta', po', ti', nu', mo', k2⟩ := s_bestLoop (L := (linesP (r k) (N k)).length) hk b1 hg b3m h9 ma1 on1 ot1 ta1 po1 ti1 nu1 mo1
      have hsame : bcl (fun s => wid (tb (r k) (N k) s) (N k)) Fm (2 ^ (linesP (r k) (N k)).length) = br (fun s => wid (tb (r k) (N k) s) (N k)) (2 ^ (linesP (r k) (N k)).length) := by
        refine br_bcl (n := 2 ^ (linesP (r k) (N k)).length) (fun s => (wid_is (tb_ok hg s)).2) (fun s hs hne => ?_) _ (by omega) (Nat.le_refl _)
        have h0 : subB 0 (s &&& Fm) := fun b hb => by rw [Nat.zero_testBit] at hb; exact absurd hb (by decide)
        obtain ⟨l, -, hl⟩ := sub_ne h0 (fun z => hne z.symm)
        rw [Nat.testBit_and, Bool.and_eq_true] at hl
        obtain ⟨c1, X, c2, c3⟩ := f3 l hl.2
        exact sw_less (by omega) c1 hs hl.1 c2 c3
      refine ⟨nI (br (fun s => wid (tb (r k) (N k) s) (N k)) (2 ^ (linesP (r k) (N k)).length)).1, va_up cK 4 (nI (N k)), va_up cF 4 F, oK', cT', ra', rb', cR', cP', cM', ma', on', ot', ta', po', ti', nu', mo', ?_, ?_, inv_spare inv _ _, g1⟩
      · rw [if_pos (by rw [show (9 : Int32) = nI 9 by decide]; exact nI_le h9 (by omega))]
        unfold s_X5_leastSigning
        rw [f1]
        simp only [Option.bind_some]
        rw [s_lineCount (n := N k) (r := r k) (by rw [va_up_ne _ _ hp]; exact b2') hg (fun a ha => by rw [va_up_ne _ _ hp]; exact b3' a ha), ← lines_len hg]
        simp only [Option.bind_some]
        rw [nI_two (by omega), g2, hsame]
        rfl
      · rw [if_pos (by rw [show (9 : Int32) = nI 9 by decide]; exact nI_le h9 (by omega)), i0, k1]
        simp only [Option.bind_some]
        rw [← i0, k2]
        rfl
    · have hn9 : ¬ nI (linesP (r k) (N k)).length ≤ (9 : Int32) := by rw [show (9 : Int32) = nI 9 by decide]; exact nI_ge (by omega) (by omega)
      rw [if_neg hn9, if_neg hn9]
      exact ⟨_, _, _, _, _, _, _, _, _, _, _, _, _, _, _, _, _, _, rfl, rfl, inv, hr⟩
theorem op_best (a0 : Int32) : OpI Sim mX5_best mX6_best [vI a0] := by
  rintro wc wm ⟨cK, cF, ga, gi, gs, oK, cT, ra, rb, cR, cP, cM, ea, eb, cW, aO, aC, aQ, kn, ne, fi, se, ma, on, ot, ta, po, ti, nu, mo, wa, nx, oT, cF', bg, ed, sF, qu, qd, tr, rfl, rfl, inv, h1, h2⟩
  obtain ⟨v, cK1, cF1, oK1, cT1, ra1, rb1, cR1, cP1, cM1, ma1, on1, ot1, ta1, po1, ti1, nu1, mo1, e1, e2, inv1, e3⟩ := pure_best oK cT cR cP cM ma on ot ta po ti nu mo h1 inv a0
  exact ⟨v, _, _, c_X5_best (d := 2) e1, c_X6_best (d := 3) e2, _, _, _, _, _, _, _, _, _, _, _, _, _, _, _, _, _, _, _, _, _, _, _, _, _, _, _, _, _, _, _, _, _, _, _, _, _, _, _, _, rfl, rfl, inv1, e3, h2⟩
