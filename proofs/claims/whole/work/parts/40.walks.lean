/-! walks -/
def wsum (r : Nat → Nat) (f : Nat → Int64) (b : Nat) : Nat → Int64
  | 0 => 0
  | a + 1 => if (r a).testBit b = true then wsum r f b a + f a else wsum r f b a
theorem wsum_congr {r : Nat → Nat} {f g : Nat → Int64} {b : Nat} : ∀ {n : Nat}, (∀ a, a < n → f a = g a) → wsum r f b n = wsum r g b n
  | 0, _ => rfl
  | n + 1, h => by rw [wsum, wsum, wsum_congr (n := n) (fun a ha => h a (by omega)), h n (by omega)]
def wkN (r : Nat → Nat) (n v : Nat) : Nat → Nat → Int64
  | 0 => fun b => if b = v then 1 else 0
  | t + 1 => fun b => wsum r (wkN r n v t) b n
theorem step_in {cK : Nat → Int32} {cF : Nat → Nat → Int32} {p : Fin 5} {ea eb : Fin 2} {cW : Nat → Nat → Int64} {n b : Nat} {r : Nat → Nat} (he : ea ≠ eb) (hn : cK p.1 = nI n) (hg : Gr n r) (h3 : ∀ a, a < 10 → cF p.1 a = nI (r a)) (hb : b < n) (G : Nat → Int64) (h0 : G b = 0) : ∃ G', loop (b_X4_step_19 cK cF ea eb p (nI b)) ((0 : Int32), va_up cW ea.1 G) = some (va_up cW ea.1 G') ∧ G' b = wsum r (cW eb.1) b n ∧ ∀ c, c ≠ b → G' c = G c := by
  have h10 := hg.2.1
  have hne : eb.1 ≠ ea.1 := fun z => he (Fin.ext z.symm)
  obtain ⟨e, hq, G', rfl, h⟩ := loop_cnt (f := b_X4_step_19 cK cF ea eb p (nI b)) (fun a x => ∃ G', x = (nI a, va_up cW ea.1 G') ∧ G' b = wsum r (cW eb.1) b a ∧ ∀ c, c ≠ b → G' c = G c) n (fun e => ∃ G', e = va_up cW ea.1 G' ∧ G' b = wsum r (cW eb.1) b n ∧ ∀ c, c ≠ b → G' c = G c) (by
    rintro a x ha ⟨G', rfl, g1, g2⟩
    unfold b_X4_step_19
    dsimp only
    rw [hn, if_neg (nI_ge ha (by omega)), s_joins (r := r) (by omega) (by omega) (Gr_lt hg a) (h3 a (by omega))]
    simp only [Option.bind_some]
    by_cases q : (r a).testBit b = true
    · rw [if_neg (b2i_true q), chk_in (vp_in_nI (by omega) (by omega)), chk_in (vp_in_nI (by omega) (by omega)), chk_in (vp_in_nI (by omega) (by omega)), nI_clamp (by omega), nI_clamp (by omega), va_up_self, va_up_ne _ _ hne, bx_uu, g1, nI_1]
      refine ⟨_, rfl, _, rfl, ?_, fun c hc => ?_⟩
      · rw [pk_uLs, wsum, if_pos q]
      · rw [pk_uLn hc]; exact g2 c hc
    · rw [if_pos (b2i_false q), nI_1]
      refine ⟨_, rfl, G', rfl, ?_, g2⟩
      rw [wsum, if_neg q]; exact g1) (by
    rintro x ⟨G', rfl, h⟩
    unfold b_X4_step_19
    dsimp only
    rw [hn, if_pos (nI_le (Nat.le_refl _) (by omega))]
    exact ⟨_, rfl, G', rfl, h⟩) 0 _ (by omega) ⟨G, rfl, h0, fun _ _ => rfl⟩
  exact ⟨G', hq, h⟩
theorem s_step {cK : Nat → Int32} {cF : Nat → Nat → Int32} {p : Fin 5} {ea eb : Fin 2} {cW : Nat → Nat → Int64} {n : Nat} {r : Nat → Nat} (he : ea ≠ eb) (hn : cK p.1 = nI n) (hg : Gr n r) (h3 : ∀ a, a < 10 → cF p.1 a = nI (r a)) : ∃ G', s_X4_step cK cF ea eb cW p = some (va_up cW ea.1 G') ∧ ∀ b, b < n → G' b = wsum r (cW eb.1) b n := by
  have h10 := hg.2.1
  have hne : eb.1 ≠ ea.1 := fun z => he (Fin.ext z.symm)
  obtain ⟨e, hq, G', rfl, h⟩ := loop_cnt (f := b_X4_step_2 cK cF ea eb p) (fun b x => ∃ G', x = (nI b, va_up cW ea.1 G') ∧ ∀ c, c < b → G' c = wsum r (cW eb.1) c n) n (fun e => ∃ G', e = va_up cW ea.1 G' ∧ ∀ c, c < n → G' c = wsum r (cW eb.1) c n) (by
    rintro b x hb ⟨G', rfl, g1⟩
    obtain ⟨G2, e1, e2, e3⟩ := step_in (cF := cF) (cW := cW) he hn hg h3 hb (vp_updL G' b 0) pk_uLs
    unfold b_X4_step_2
    dsimp only
    rw [hn, if_neg (nI_ge hb (by omega)), chk_in (vp_in_nI (by omega) (by omega)), nI_clamp (by omega), va_up_self, bx_uu, e1]
    simp only [Option.bind_some]
    rw [nI_1]
    refine ⟨_, rfl, G2, rfl, fun c hc => ?_⟩
    by_cases q : c = b
    · rw [q]; exact e2
    · rw [e3 c q, pk_uLn q]; exact g1 c (by omega)) (by
    rintro x ⟨G', rfl, h⟩
    unfold b_X4_step_2
    dsimp only
    rw [hn, if_pos (nI_le (Nat.le_refl _) (by omega))]
    exact ⟨_, rfl, G', rfl, h⟩) 0 ((0 : Int32), cW) (by omega) ⟨cW ea.1, by
      refine Prod.ext rfl ?_
      funext j
      show cW j = va_up cW ea.1 (cW ea.1) j
      unfold va_up
      by_cases q : j = ea.1
      · rw [if_pos q, q]
      · rw [if_neg q], fun c hc => by omega⟩
  refine ⟨G', ?_, h⟩
  unfold s_X4_step
  rw [hq]
  rfl
theorem s_walk {cK : Nat → Int32} {cF : Nat → Nat → Int32} {p : Fin 5} {ea eb : Fin 2} {cW : Nat → Nat → Int64} {n v t : Nat} {r : Nat → Nat} (he : ea ≠ eb) (hn : cK p.1 = nI n) (hg : Gr n r) (h3 : ∀ a, a < 10 → cF p.1 a = nI (r a)) (hv : v < n) (ht : t < 2 ^ 31) : ∃ ea' eb' cW', s_X4_walk cK cF ea eb cW p (nI v) (nI t) = some (ea', eb', cW') ∧ ea' ≠ eb' ∧ ∀ b, b < n → cW' ea'.1 b = wkN r n v t b := by
  have h10 := hg.2.1
  obtain ⟨e, hq, h⟩ := loop_cnt (f := b_X4_walk_18 cK cF p (nI t)) (fun i x => ∃ ea' eb' cW', x = (nI i, ea', eb', cW') ∧ ea' ≠ eb' ∧ ∀ b, b < n → cW' ea'.1 b = wkN r n v i b) t (fun e => ∃ ea' eb' cW', e = (ea', eb', cW') ∧ ea' ≠ eb' ∧ ∀ b, b < n → cW' ea'.1 b = wkN r n v t b) (by
    rintro i x hi ⟨ea', eb', cW', rfl, g1, g2⟩
    obtain ⟨G, e1, e2⟩ := s_step (cF := cF) (cW := cW') (fun z => g1 z.symm) hn hg h3
    unfold b_X4_walk_18
    dsimp only
    rw [if_neg (nI_ge hi (by omega)), e1]
    simp only [Option.bind_some]
    rw [nI_1]
    refine ⟨_, rfl, _, _, _, rfl, fun z => g1 z.symm, fun b hb => ?_⟩
    rw [va_up_self, e2 b hb, wkN]
    exact wsum_congr g2) (by
    rintro x ⟨ea', eb', cW', rfl, h⟩
    unfold b_X4_walk_18
    dsimp only
    rw [if_pos (nI_le (Nat.le_refl _) (by omega))]
    exact ⟨_, rfl, ea', eb', cW', rfl, h⟩) 0 ((0 : Int32), ea, eb, va_up (va_up cW ea.1 (fillJ 10 (cW ea.1) (0 : Int64))) ea.1 (vp_updL ((va_up cW ea.1 (fillJ 10 (cW ea.1) (0 : Int64))) ea.1) v (1 : Int64))) (by omega) ⟨ea, eb, _, rfl, he, fun b hb => by
      rw [va_up_self, va_up_self]
      show _ = (if b = v then 1 else 0)
      by_cases q : b = v
      · rw [q, pk_uLs, if_pos rfl]
      · rw [pk_uLn q, if_neg q]
        unfold fillJ
        rw [if_pos (by omega)]⟩
  obtain ⟨ea', eb', cW', rfl, h5⟩ := h
  refine ⟨ea', eb', cW', ?_, h5⟩
  unfold s_X4_walk
  rw [chk_in (vp_in_nI (by omega) (by omega)), nI_clamp (by omega), hq]
  rfl
/-! the reference -/
theorem lwk_in {kn ne : Nat → Int32} {wa : Nat → Int64} {k n b : Nat} {r : Nat → Nat} (hk : k < 4) (hn : kn k = nI n) (hg : Gr n r) (h3 : ∀ a, a < 10 → ne (10 * k + a) = nI (r a)) (hb : b < n) (G : Nat → Int64) (h0 : G b = 0) : ∃ G', loop (b_X6_layWalks_68 kn ne wa (nI k) (nI b)) ((0 : Int32), G) = some G' ∧ G' b = wsum r wa b n ∧ ∀ c, c ≠ b → G' c = G c := by
  have h10 := hg.2.1
  exact loop_cnt (f := b_X6_layWalks_68 kn ne wa (nI k) (nI b)) (fun a x => ∃ G', x = (nI a, G') ∧ G' b = wsum r wa b a ∧ ∀ c, c ≠ b → G' c = G c) n (fun G' => G' b = wsum r wa b n ∧ ∀ c, c ≠ b → G' c = G c) (by
    rintro a x ha ⟨G', rfl, g1, g2⟩
    unfold b_X6_layWalks_68
    dsimp only
    rw [chk_in (vp_in_nI hk (by omega)), nI_clamp (by omega), hn, if_neg (nI_ge ha (by omega)), chk_in (vp_in_nI (by omega) (by omega)), s_has hk (by omega) (by omega) (Gr_lt hg a) (h3 a (by omega))]
    simp only [Option.bind_some]
    rw [chk_in (vp_in_nI (by omega) (by omega)), chk_in (vp_in_nI (by omega) (by omega)), nI_clamp (by omega), nI_clamp (by omega), g1, nI_1]
    by_cases q : (r a).testBit b = true
    · rw [if_neg (b2i_true q), chk_in (vp_in_nI (by omega) (by omega))]
      refine ⟨_, rfl, _, rfl, ?_, fun c hc => ?_⟩
      · rw [pk_uLs, wsum, if_pos q]
      · rw [pk_uLn hc]; exact g2 c hc
    · rw [if_pos (b2i_false q)]
      refine ⟨_, rfl, _, rfl, ?_, fun c hc => ?_⟩
      · rw [pk_uLs, wsum, if_neg q, Int64.add_zero]
      · rw [pk_uLn hc]; exact g2 c hc) (by
    rintro x ⟨G', rfl, h⟩
    unfold b_X6_layWalks_68
    dsimp only
    rw [chk_in (vp_in_nI hk (by omega)), nI_clamp (by omega), hn, if_pos (nI_le (Nat.le_refl _) (by omega))]
    exact ⟨_, rfl, h⟩) 0 _ (by omega) ⟨G, rfl, h0, fun _ _ => rfl⟩
theorem lwk_mid {kn ne : Nat → Int32} {wa : Nat → Int64} {k n : Nat} {r : Nat → Nat} (hk : k < 4) (hn : kn k = nI n) (hg : Gr n r) (h3 : ∀ a, a < 10 → ne (10 * k + a) = nI (r a)) (nx : Nat → Int64) : ∃ G', loop (b_X6_layWalks_46 kn ne wa (nI k)) ((0 : Int32), nx) = some G' ∧ ∀ b, b < n → G' b = wsum r wa b n := by
  have h10 := hg.2.1
  exact loop_cnt (f := b_X6_layWalks_46 kn ne wa (nI k)) (fun b x => ∃ G', x = (nI b, G') ∧ ∀ c, c < b → G' c = wsum r wa c n) n (fun G' => ∀ c, c < n → G' c = wsum r wa c n) (by
    rintro b x hb ⟨G', rfl, g1⟩
    obtain ⟨G2, e1, e2, e3⟩ := lwk_in (wa := wa) hk hn hg h3 hb (vp_updL G' b 0) pk_uLs
    unfold b_X6_layWalks_46
    dsimp only
    rw [chk_in (vp_in_nI hk (by omega)), nI_clamp (by omega), hn, if_neg (nI_ge hb (by omega)), chk_in (vp_in_nI (by omega) (by omega)), nI_clamp (by omega), e1]
    simp only [Option.bind_some]
    rw [nI_1]
    refine ⟨_, rfl, G2, rfl, fun c hc => ?_⟩
    by_cases q : c = b
    · rw [q]; exact e2
    · rw [e3 c q, pk_uLn q]; exact g1 c (by omega)) (by
    rintro x ⟨G', rfl, h⟩
    unfold b_X6_layWalks_46
    dsimp only
    rw [chk_in (vp_in_nI hk (by omega)), nI_clamp (by omega), hn, if_pos (nI_le (Nat.le_refl _) (by omega))]
    exact ⟨_, rfl, h⟩) 0 _ (by omega) ⟨nx, rfl, fun c hc => by omega⟩
theorem lwk_copy {kn : Nat → Int32} {nx wa : Nat → Int64} {k n : Nat} (hk : k < 4) (hn : kn k = nI n) (h10 : n ≤ 10) : ∃ G', loop (b_X6_layWalks_127 kn nx (nI k)) ((0 : Int32), wa) = some G' ∧ ∀ b, b < n → G' b = nx b :=
  loop_cnt (f := b_X6_layWalks_127 kn nx (nI k)) (fun b x => ∃ G', x = (nI b, G') ∧ ∀ c, c < b → G' c = nx c) n (fun G' => ∀ c, c < n → G' c = nx c) (by
    rintro b x hb ⟨G', rfl, g1⟩
    unfold b_X6_layWalks_127
    dsimp only
    rw [chk_in (vp_in_nI hk (by omega)), nI_clamp (by omega), hn, if_neg (nI_ge hb (by omega)), chk_in (vp_in_nI (by omega) (by omega)), chk_in (vp_in_nI (by omega) (by omega)), nI_clamp (by omega), nI_1]
    refine ⟨_, rfl, _, rfl, fun c hc => ?_⟩
    by_cases q : c = b
    · rw [q, pk_uLs]
    · rw [pk_uLn q]; exact g1 c (by omega)) (by
    rintro x ⟨G', rfl, h⟩
    unfold b_X6_layWalks_127
    dsimp only
    rw [chk_in (vp_in_nI hk (by omega)), nI_clamp (by omega), hn, if_pos (nI_le (Nat.le_refl _) (by omega))]
    exact ⟨_, rfl, h⟩) 0 _ (by omega) ⟨wa, rfl, fun c hc => by omega⟩
theorem lwk_first {v : Nat} (hv : v < 10) (wa : Nat → Int64) : ∃ G', loop (b_X6_layWalks_3 (nI v)) ((0 : Int32), wa) = some G' ∧ ∀ b, b < 10 → G' b = if b = v then 1 else 0 :=
  loop_cnt (f := b_X6_layWalks_3 (nI v)) (fun b x => ∃ G', x = (nI b, G') ∧ ∀ c, c < b → G' c = if c = v then 1 else 0) 10 (fun G' => ∀ c, c < 10 → G' c = if c = v then 1 else 0) (by
    rintro b x hb ⟨G', rfl, g1⟩
    unfold b_X6_layWalks_3
    dsimp only
    rw [if_neg (by rw [i10]; exact nI_ge hb (by omega)), chk_in (vp_in_nI (by omega) (by omega)), chk_in (vp_in_nI (by omega) (by omega)), nI_clamp (by omega), nI_1]
    by_cases z : b = v
    · rw [if_pos (by rw [z])]
      refine ⟨_, rfl, _, rfl, fun c hc => ?_⟩
      by_cases q : c = b
      · rw [q, pk_uLs, if_pos z]
      · rw [pk_uLn q]; exact g1 c (by omega)
    · rw [if_neg (fun y => z ((nI_eq (by omega) (by omega)).mp y))]
      refine ⟨_, rfl, _, rfl, fun c hc => ?_⟩
      by_cases q : c = b
      · rw [q, pk_uLs, if_neg z]
      · rw [pk_uLn q]; exact g1 c (by omega)) (by
    rintro x ⟨G', rfl, h⟩
    unfold b_X6_layWalks_3
    dsimp only
    rw [if_pos (by decide)]
    exact ⟨_, rfl, h⟩) 0 _ (by omega) ⟨wa, rfl, fun c hc => by omega⟩
theorem s_layWalks {kn ne : Nat → Int32} {wa nx : Nat → Int64} {k n v t : Nat} {r : Nat → Nat} (hk : k < 4) (hn : kn k = nI n) (hg : Gr n r) (h3 : ∀ a, a < 10 → ne (10 * k + a) = nI (r a)) (hv : v < n) (ht : t < 2 ^ 31) : ∃ wa' nx', s_X6_layWalks kn ne wa nx (nI k) (nI v) (nI t) = some (wa', nx') ∧ ∀ b, b < n → wa' b = wkN r n v t b := by
  have h10 := hg.2.1
  obtain ⟨G0, g1, g2⟩ := lwk_first (v := v) (by omega) wa
  obtain ⟨e, hq, h⟩ := loop_cnt (f := b_X6_layWalks_37 kn ne (nI k) (nI t)) (fun i x => ∃ wa' nx', x = (nI i, wa', nx') ∧ ∀ b, b < n → wa' b = wkN r n v i b) t (fun e => ∃ wa' nx', e = (wa', nx') ∧ ∀ b, b < n → wa' b = wkN r n v t b) (by
    rintro i x hi ⟨wa', nx', rfl, h1⟩
    obtain ⟨G1, e1, e2⟩ := lwk_mid (wa := wa') hk hn hg h3 nx'
    obtain ⟨G2, e3, e4⟩ := lwk_copy (nx := G1) (wa := wa') hk hn h10
    unfold b_X6_layWalks_37
    dsimp only
    rw [if_neg (nI_ge hi (by omega)), e1]
    simp only [Option.bind_some]
    rw [e3]
    simp only [Option.bind_some]
    rw [nI_1]
    refine ⟨_, rfl, _, _, rfl, fun b hb => ?_⟩
    rw [e4 b hb, e2 b hb, wkN]
    exact wsum_congr h1) (by
    rintro x ⟨wa', nx', rfl, h⟩
    unfold b_X6_layWalks_37
    dsimp only
    rw [if_pos (nI_le (Nat.le_refl _) (by omega))]
    exact ⟨_, rfl, wa', nx', rfl, h⟩) 0 ((0 : Int32), G0, nx) (by omega) ⟨G0, nx, rfl, fun b hb => g2 b (by omega)⟩
  obtain ⟨wa', nx', rfl, h5⟩ := h
  refine ⟨wa', nx', ?_, h5⟩
  unfold s_X6_layWalks
  rw [g1]
  simp only [Option.bind_some]
  rw [hq]
  rfl
theorem st_or (x : Int32) : (x < 0 ∨ (¬ x < 0 ∧ 12 < x)) ∨ ∃ t, t < 2 ^ 31 ∧ x = nI t ∧ ¬ x < 0 ∧ ¬ 12 < x := by
  by_cases h1 : x < 0
  · exact Or.inl (Or.inl h1)
  · by_cases h2 : 12 < x
    · exact Or.inl (Or.inr ⟨h1, h2⟩)
    · rcases nn_or x with h | ⟨m, hm, rfl⟩
      · exact absurd h h1
      · exact Or.inr ⟨m, hm, rfl, h1, h2⟩
theorem pure_walks {kn ne cK : Nat → Int32} {cF : Nat → Nat → Int32} {ea eb : Fin 2} (cW : Nat → Nat → Int64) (wa nx : Nat → Int64) (he : ea ≠ eb) (inv : Inv kn ne cK cF) (a0 a1 a2 a3 : Int32) : ∃ (v : Int64) (ea' eb' : Fin 2) (cW' : Nat → Nat → Int64) (wa' nx' : Nat → Int64), s_X5_walks cK cF ea eb cW a0 a1 a2 a3 = some (v, ea', eb', cW') ∧ s_X6_walks kn ne wa nx a0 a1 a2 a3 = some (v, wa', nx') ∧ ea' ≠ eb' := by
  have hbad : s_X5_walks cK cF ea eb cW a0 a1 a2 a3 = some (-2, ea, eb, cW) → s_X6_walks kn ne wa nx a0 a1 a2 a3 = some (-2, wa, nx) → ∃ (v : Int64) (ea' eb' : Fin 2) (cW' : Nat → Nat → Int64) (wa' nx' : Nat → Int64), s_X5_walks cK cF ea eb cW a0 a1 a2 a3 = some (v, ea', eb', cW') ∧ s_X6_walks kn ne wa nx a0 a1 a2 a3 = some (v, wa', nx') ∧ ea' ≠ eb' := fun h g => ⟨-2, ea, eb, cW, wa, nx, h, g, he⟩
  rcases net_or a0 with h | ⟨k, hk, rfl⟩
  · exact hbad (by unfold s_X5_walks; rw [netAt_no h]; rfl) (by unfold s_X6_walks; rw [isKnot_nonet h]; rfl)
  · obtain ⟨N, r, hi⟩ := id inv
    obtain ⟨hg, b1, b2, b3⟩ := hi k hk
    have hf : (fin5 k).1 = k := fin5_val (by omega)
    have h10 := hg.2.1
    have h1 := hg.1
    have b2' : cK (fin5 k).1 = nI (N k) := by rw [hf]; exact b2
    rcases knot_or a1 h10 with h | ⟨a, ha, rfl⟩
    · exact hbad (by unfold s_X5_walks s_X2_hasKnots; rw [netAt_yes hk]; simp only [Option.bind_some, Option.elim_some]; rw [hasKnot_no b2' h]; rfl) (by unfold s_X6_walks; rw [isKnot_no hk b1 h1 h10 h]; rfl)
    · rcases knot_or a2 h10 with h | ⟨b, hb, rfl⟩
      · exact hbad (by unfold s_X5_walks s_X2_hasKnots; rw [netAt_yes hk]; simp only [Option.bind_some, Option.elim_some]; rw [hasKnot_yes b2' h10 ha, hasKnot_no b2' h]; rfl) (by unfold s_X6_walks; rw [isKnot_yes hk b1 h10 ha, isKnot_no hk b1 h1 h10 h]; rfl)
      · have hkk : s_X2_hasKnots cK (fin5 k) (nI a) (nI b) = some 1 := by
          unfold s_X2_hasKnots
          rw [hasKnot_yes b2' h10 ha, hasKnot_yes b2' h10 hb]; rfl
        rcases st_or a3 with (h | ⟨h, h'⟩) | ⟨t, ht, rfl, g1, g2⟩
        · exact hbad (by unfold s_X5_walks s_X5_isStepCount; rw [netAt_yes hk]; simp only [Option.bind_some, Option.elim_some]; rw [hkk, if_pos h]; rfl) (by unfold s_X6_walks; rw [isKnot_yes hk b1 h10 ha, isKnot_yes hk b1 h10 hb, in_lo h]; rfl)
        · exact hbad (by unfold s_X5_walks s_X5_isStepCount; rw [netAt_yes hk]; simp only [Option.bind_some, Option.elim_some]; rw [hkk, if_neg h, if_pos h']; rfl) (by unfold s_X6_walks; rw [isKnot_yes hk b1 h10 ha, isKnot_yes hk b1 h10 hb, in_hi h']; rfl)
        · obtain ⟨ea', eb', cW', e1, e2, e3⟩ := s_walk (cF := cF) (cW := cW) he b2' hg (fun a ha => by rw [hf]; exact (b3 a ha).2) ha ht
          obtain ⟨wa', nx', e4, e5⟩ := s_layWalks (wa := wa) (nx := nx) hk b1 hg (fun a ha => (b3 a ha).1) ha ht
          refine ⟨wkN (r k) (N k) a t b, ea', eb', cW', wa', nx', ?_, ?_, e2⟩
          · unfold s_X5_walks s_X5_isStepCount
            rw [netAt_yes hk]
            simp only [Option.bind_some, Option.elim_some]
            rw [hkk, if_neg g1, if_neg g2]
            simp only [Option.bind_some]
            rw [if_neg (show ¬ ((1 : Int32) = 0) by decide), if_neg (show ¬ ((1 : Int32) = 0) by decide), e1]
            simp only [Option.bind_some]
            rw [chk_in (vp_in_nI (by omega) (by omega)), nI_clamp (by omega), e3 b hb]
          · unfold s_X6_walks
            rw [isKnot_yes hk b1 h10 ha, isKnot_yes hk b1 h10 hb, in_yes g1 g2]
            simp only [Option.bind_some]
            rw [if_neg (show ¬ ((1 : Int32) = 0) by decide), if_neg (show ¬ ((1 : Int32) = 0) by decide), if_neg (show ¬ ((1 : Int32) = 0) by decide), e4]
            simp only [Option.bind_some]
            rw [chk_in (vp_in_nI (by omega) (by omega)), nI_clamp (by omega), e5 b hb]
theorem op_walks (a0 : Int32) (a1 : Int32) (a2 : Int32) (a3 : Int32) : OpL Sim mX5_walks mX6_walks [vI a0, vI a1, vI a2, vI a3] := by
  rintro wc wm ⟨cK, cF, ga, gi, gs, oK, cT, ra, rb, cR, cP, cM, ea, eb, cW, aO, aC, aQ, kn, ne, fi, se, ma, on, ot, ta, po, ti, nu, mo, wa, nx, oT, cF', bg, ed, sF, qu, qd, tr, rfl, rfl, inv, h1, h2⟩
  obtain ⟨v, ea1, eb1, cW1, wa1, nx1, e1, e2, e3⟩ := pure_walks cW wa nx h2 inv a0 a1 a2 a3
  exact ⟨v, _, _, c_X5_walks (d := 5) e1, c_X6_walks (d := 5) e2, _, _, _, _, _, _, _, _, _, _, _, _, _, _, _, _, _, _, _, _, _, _, _, _, _, _, _, _, _, _, _, _, _, _, _, _, _, _, _, _, rfl, rfl, inv, h1, e3⟩
/-! uneven -/
def powL (d : Int32) : Nat → Int64
  | 0 => 1
  | i + 1 => powL d i * d.toInt64
theorem s_power (d : Int32) {t : Nat} (ht : t < 2 ^ 31) : loop (b_X5_power_5 d (nI t)) ((1 : Int64), (0 : Int32)) = some (powL d t) := by
  refine loop_for (f := b_X5_power_5 d (nI t)) (fun i => (powL d i, nI i)) t (fun i hi => ?_) ?_ 0 (by omega)
  · unfold b_X5_power_5
    dsimp only
    rw [if_neg (nI_ge hi (by omega)), nI_1]
    rfl
  · unfold b_X5_power_5
    dsimp only
    rw [if_pos (nI_le (Nat.le_refl _) (by omega))]
def absL (x : Int64) : Int64 := if 0 < x then x else -x
theorem absL_eq (x : Int64) : absL x = if 0 ≤ lg_cmp x 0 then x else -x := by
  unfold absL
  by_cases q : 0 < x
  · rw [if_pos q, if_pos]
    rw [lg_cmp_ge, Int64.le_iff_toInt_le]
    rw [Int64.lt_iff_toInt_lt] at q
    omega
  · rw [if_neg q]
    by_cases q2 : 0 ≤ lg_cmp x 0
    · rw [if_pos q2]
      have : x = 0 := by
        rw [lg_cmp_ge, Int64.le_iff_toInt_le] at q2
        rw [Int64.lt_iff_toInt_lt] at q
        apply Int64.toInt_inj.mp
        omega
      rw [this]; decide
    · rw [if_neg q2]
def unS (N : Int64) (A : Int64) (f : Nat → Int64) : Nat → Int64
  | 0 => 0
  | i + 1 => unS N A f i + absL (N * f i - A)
theorem s_unevenness {ea : Fin 2} {cW : Nat → Nat → Int64} {n : Nat} {A : Int64} {f : Nat → Int64} (h10 : n ≤ 10) (h : ∀ b, b < n → cW ea.1 b = f b) : s_X4_unevenness ea cW (nI n) A = some (unS (nI n).toInt64 A f n) := by
  suffices hh : loop (b_X4_unevenness_6 ea cW (nI n) A) ((0 : Int64), (0 : Int32)) = some (unS (nI n).toInt64 A f n) by unfold s_X4_unevenness; rw [hh]; rfl
  refine loop_for (f := b_X4_unevenness_6 ea cW (nI n) A) (fun i => (unS (nI n).toInt64 A f i, nI i)) n (fun i hi => ?_) ?_ 0 (by omega)
  · unfold b_X4_unevenness_6 lt'
    dsimp only
    rw [if_neg (nI_ge hi (by omega)), chk_in (vp_in_nI (by omega) (by omega)), nI_clamp (by omega), h i hi, nI_1]
    rfl
  · unfold b_X4_unevenness_6
    dsimp only
    rw [if_pos (nI_le (Nat.le_refl _) (by omega))]
theorem s_uneven79 {kn : Nat → Int32} {wa : Nat → Int64} {k n : Nat} {A : Int64} {f : Nat → Int64} (hk : k < 4) (hn : kn k = nI n) (h10 : n ≤ 10) (h : ∀ b, b < n → wa b = f b) : loop (b_X6_uneven_79 kn wa (nI k) A) ((0 : Int64), (0 : Int32)) = some (unS (nI n).toInt64 A f n) := by
  refine loop_for (f := b_X6_uneven_79 kn wa (nI k) A) (fun i => (unS (nI n).toInt64 A f i, nI i)) n (fun i hi => ?_) ?_ 0 (by omega)
  · unfold b_X6_uneven_79 lt'
    dsimp only
    rw [chk_in (vp_in_nI hk (by omega)), chk_in (vp_in_nI hk (by omega)), nI_clamp (by omega), hn, if_neg (nI_ge hi (by omega)), chk_in (vp_in_nI (by omega) (by omega)), nI_clamp (by omega), h i hi, nI_1, unS, absL_eq]
    by_cases q : 0 ≤ lg_cmp ((nI n).toInt64 * f i - A) 0
    · rw [if_pos q, if_pos q]
    · rw [if_neg q, if_neg q]
  · unfold b_X6_uneven_79
    dsimp only
    rw [chk_in (vp_in_nI hk (by omega)), nI_clamp (by omega), hn, if_pos (nI_le (Nat.le_refl _) (by omega))]
theorem pure_uneven {kn ne cK : Nat → Int32} {cF : Nat → Nat → Int32} {ea eb : Fin 2} (cW : Nat → Nat → Int64) (wa nx : Nat → Int64) (he : ea ≠ eb) (inv : Inv kn ne cK cF) (a0 a1 a2 : Int32) : ∃ (v : Int64) (ea' eb' : Fin 2) (cW' : Nat → Nat → Int64) (wa' nx' : Nat → Int64), s_X5_uneven cK cF ea eb cW a0 a1 a2 = some (v, ea', eb', cW') ∧ s_X6_uneven kn ne wa nx a0 a1 a2 = some (v, wa', nx') ∧ ea' ≠ eb' := by
  have hbad : s_X5_uneven cK cF ea eb cW a0 a1 a2 = some (-2, ea, eb, cW) → s_X6_uneven kn ne wa nx a0 a1 a2 = some (-2, wa, nx) → ∃ (v : Int64) (ea' eb' : Fin 2) (cW' : Nat → Nat → Int64) (wa' nx' : Nat → Int64), s_X5_uneven cK cF ea eb cW a0 a1 a2 = some (v, ea', eb', cW') ∧ s_X6_uneven kn ne wa nx a0 a1 a2 = some (v, wa', nx') ∧ ea' ≠ eb' := fun h g => ⟨-2, ea, eb, cW, wa, nx, h, g, he⟩
  rcases net_or a0 with h | ⟨k, hk, rfl⟩
  · exact hbad (by unfold s_X5_uneven; rw [netAt_no h]; rfl) (by unfold s_X6_uneven; rw [isKnot_nonet h]; rfl)
  · obtain ⟨N, r, hi⟩ := id inv
    obtain ⟨hg, b1, b2, b3⟩ := hi k hk
    have hf : (fin5 k).1 = k := fin5_val (by omega)
    have h10 := hg.2.1
    have h1 := hg.1
    have b2' : cK (fin5 k).1 = nI (N k) := by rw [hf]; exact b2
    have b3' : ∀ a, a < 10 → cF (fin5 k).1 a = nI (r k a) := fun a ha => by rw [hf]; exact (b3 a ha).2
    rcases knot_or a1 h10 with h | ⟨a, ha, rfl⟩
    · exact hbad (by unfold s_X5_uneven; rw [netAt_yes hk]; simp only [Option.bind_some, Option.elim_some]; rw [hasKnot_no b2' h]; rfl) (by unfold s_X6_uneven; rw [isKnot_no hk b1 h1 h10 h]; rfl)
    · have hkk := hasKnot_yes (p := fin5 k) b2' h10 ha
      rcases st_or a2 with (h | ⟨h, h'⟩) | ⟨t, ht, rfl, g1, g2⟩
      · exact hbad (by unfold s_X5_uneven s_X5_isStepCount; rw [netAt_yes hk]; simp only [Option.bind_some, Option.elim_some]; rw [hkk, if_pos h]; rfl) (by unfold s_X6_uneven; rw [isKnot_yes hk b1 h10 ha, in_lo h]; rfl)
      · exact hbad (by unfold s_X5_uneven s_X5_isStepCount; rw [netAt_yes hk]; simp only [Option.bind_some, Option.elim_some]; rw [hkk, if_neg h, if_pos h']; rfl) (by unfold s_X6_uneven; rw [isKnot_yes hk b1 h10 ha, in_hi h']; rfl)
      · obtain ⟨ea', eb', cW', e1, e2, e3⟩ := s_walk (cF := cF) (cW := cW) he b2' hg b3' ha ht
        obtain ⟨wa', nx', e4, e5⟩ := s_layWalks (wa := wa) (nx := nx) hk b1 hg (fun a ha => (b3 a ha).1) ha ht
        unfold s_X5_uneven s_X6_uneven s_X5_isStepCount
        rw [netAt_yes hk, isKnot_yes hk b1 h10 ha, in_yes g1 g2]
        simp only [Option.bind_some, Option.elim_some]
        rw [hkk, if_neg g1, if_neg g2]
        simp only [Option.bind_some]
        rw [if_neg (show ¬ ((1 : Int32) = 0) by decide), if_neg (show ¬ ((1 : Int32) = 0) by decide), if_neg (show ¬ ((1 : Int32) = 0) by decide), if_neg (show ¬ ((1 : Int32) = 0) by decide), s_evenDegree b2' hg b3', s_degreeOf hk b1 hg (fun a ha => (b3 a ha).1)]
        simp only [Option.bind_some]
        by_cases q : evenA (r k) (N k) = -1
        · rw [if_pos q, if_pos q]
          exact ⟨_, _, _, _, _, _, rfl, rfl, he⟩
        · rw [if_neg q, if_neg q, e1, e4]
          simp only [Option.bind_some]
          unfold s_X5_power
          rw [s_power _ ht]
          have hp : loop (b_X6_uneven_53 (nI t) (evenA (r k) (N k))) ((1 : Int64), (0 : Int32)) = some (powL (evenA (r k) (N k)) t) := s_power _ ht
          rw [hp]
          simp only [Option.bind_some]
          rw [b2', s_unevenness h10 e3, s_uneven79 hk b1 h10 e5]
          exact ⟨_, _, _, _, _, _, rfl, rfl, e2⟩
theorem op_uneven (a0 : Int32) (a1 : Int32) (a2 : Int32) : OpL Sim mX5_uneven mX6_uneven [vI a0, vI a1, vI a2] := by
  rintro wc wm ⟨cK, cF, ga, gi, gs, oK, cT, ra, rb, cR, cP, cM, ea, eb, cW, aO, aC, aQ, kn, ne, fi, se, ma, on, ot, ta, po, ti, nu, mo, wa, nx, oT, cF', bg, ed, sF, qu, qd, tr, rfl, rfl, inv, h1, h2⟩
  obtain ⟨v, ea1, eb1, cW1, wa1, nx1, e1, e2, e3⟩ := pure_uneven cW wa nx h2 inv a0 a1 a2
  exact ⟨v, _, _, c_X5_uneven (d := 5) e1, c_X6_uneven (d := 5) e2, _, _, _, _, _, _, _, _, _, _, _, _, _, _, _, _, _, _, _, _, _, _, _, _, _, _, _, _, _, _, _, _, _, _, _, _, _, _, _, _, rfl, rfl, inv, h1, e3⟩
