/-! sums, and the lines in their order -/
def sm : Nat → (Nat → Nat) → Nat
  | 0, _ => 0
  | n + 1, f => sm n f + f n
theorem sm_congr {f g : Nat → Nat} : ∀ {n : Nat}, (∀ i, i < n → f i = g i) → sm n f = sm n g
  | 0, _ => rfl
  | n + 1, h => by rw [sm, sm, sm_congr (n := n) (fun i hi => h i (by omega)), h n (by omega)]
theorem sm_add (f g : Nat → Nat) : ∀ n, sm n (fun i => f i + g i) = sm n f + sm n g
  | 0 => rfl
  | n + 1 => by rw [sm, sm, sm, sm_add f g n]; omega
theorem sm_zero : ∀ n, sm n (fun _ => 0) = 0
  | 0 => rfl
  | n + 1 => by rw [sm, sm_zero n]
theorem sm_comm (f : Nat → Nat → Nat) (m : Nat) : ∀ n, sm n (fun a => sm m (f a)) = sm m (fun b => sm n (fun a => f a b))
  | 0 => (sm_zero m).symm
  | n + 1 => by rw [sm, sm_comm f m n, ← sm_add]; rfl
theorem sm_split (f : Nat → Nat) (i : Nat) : ∀ k, sm (i + k) f = sm i f + sm k (fun b => f (i + b))
  | 0 => rfl
  | k + 1 => by rw [← Nat.add_assoc, sm, sm, sm_split f i k]; omega
theorem sm_ext {f : Nat → Nat} {n m : Nat} (h : n ≤ m) (h0 : ∀ i, n ≤ i → i < m → f i = 0) : sm m f = sm n f := by
  obtain ⟨k, rfl⟩ := Nat.exists_eq_add_of_le h
  rw [sm_split, sm_congr (f := fun b => f (n + b)) (g := fun _ => 0) (fun i hi => h0 _ (by omega) (by omega)), sm_zero]; rfl
theorem sm_le {f : Nat → Nat} {c : Nat} : ∀ {n : Nat}, (∀ i, i < n → f i ≤ c) → sm n f ≤ c * n
  | 0, _ => Nat.zero_le _
  | n + 1, h => by
    have h1 := sm_le (n := n) (fun i hi => h i (by omega))
    have h2 := h n (by omega)
    rw [sm, Nat.mul_add, Nat.mul_one]; omega
theorem sm_mono {f g : Nat → Nat} : ∀ {n : Nat}, (∀ i, i < n → f i ≤ g i) → sm n f ≤ sm n g
  | 0, _ => Nat.le_refl _
  | n + 1, h => by
    have h1 := sm_mono (n := n) (fun i hi => h i (by omega))
    have h2 := h n (by omega)
    rw [sm, sm]; omega
theorem popA_sm (m : Nat) : ∀ i, popA m i = sm i (fun b => (m.testBit b).toNat)
  | 0 => rfl
  | i + 1 => by rw [popA, sm, popA_sm m i, bit_mod]
theorem bit_hi {m n b : Nat} (h : m < 2 ^ n) (hb : n ≤ b) : m.testBit b = false :=
  Nat.testBit_lt_two_pow (Nat.lt_of_lt_of_le h (Nat.pow_le_pow_right (by omega) hb))
theorem popS {m n i : Nat} (hn : n ≤ 10) (hm : m < 2 ^ n) (hi : m.testBit i = false) : popA (m >>> i) 10 = sm n (fun b => (decide (i < b) && m.testBit b).toNat) := by
  have e1 : sm (i + 10) (fun b => (decide (i < b) && m.testBit b).toNat) = sm n (fun b => (decide (i < b) && m.testBit b).toNat) := sm_ext (by omega) (fun b hb _ => by rw [bit_hi hm hb]; simp)
  have e2 : sm i (fun b => (decide (i < b) && m.testBit b).toNat) = 0 := by
    rw [sm_congr (n := i) (g := fun _ => 0) (fun b hb => by simp [show ¬ i < b by omega]), sm_zero]
  rw [← e1, sm_split, e2, Nat.zero_add, popA_sm]
  refine sm_congr fun b _ => ?_
  rw [Nat.testBit_shiftRight]
  by_cases q : b = 0
  · subst q; rw [Nat.add_zero, hi]; simp
  · have : i < i + b := by omega
    simp [this]
def rowP (r : Nat → Nat) (a : Nat) : Nat → List (Nat × Nat)
  | 0 => []
  | b + 1 => if (decide (a < b) && (r a).testBit b) = true then rowP r a b ++ [(a, b)] else rowP r a b
def allP (r : Nat → Nat) (n : Nat) : Nat → List (Nat × Nat)
  | 0 => []
  | a + 1 => allP r n a ++ rowP r a n
def linesP (r : Nat → Nat) (n : Nat) : List (Nat × Nat) := allP r n n
theorem rowP_len (r : Nat → Nat) (a : Nat) : ∀ b, (rowP r a b).length = sm b (fun b => (decide (a < b) && (r a).testBit b).toNat)
  | 0 => rfl
  | b + 1 => by
    rw [rowP, sm, ← rowP_len r a b]
    by_cases q : (decide (a < b) && (r a).testBit b) = true
    · rw [if_pos q, List.length_append, q]; rfl
    · rw [if_neg q, Bool.eq_false_iff.mpr q]; rfl
theorem rowP_none (r : Nat → Nat) (a : Nat) : ∀ b, b ≤ a + 1 → rowP r a b = []
  | 0, _ => rfl
  | b + 1, h => by
    have : ¬ a < b := by omega
    rw [rowP, if_neg (by simp [this]), rowP_none r a b (by omega)]
theorem allP_len (r : Nat → Nat) (n : Nat) : ∀ a, (allP r n a).length = sm a (fun a => sm n (fun b => (decide (a < b) && (r a).testBit b).toNat))
  | 0 => rfl
  | a + 1 => by rw [allP, sm, List.length_append, rowP_len, allP_len r n a]
theorem rowP_mem (r : Nat → Nat) (a : Nat) (x : Nat × Nat) : ∀ b, x ∈ rowP r a b ↔ x.1 = a ∧ a < x.2 ∧ x.2 < b ∧ (r a).testBit x.2 = true
  | 0 => by
    rw [rowP]
    exact ⟨fun h => (List.not_mem_nil h).elim, fun h => by omega⟩
  | b + 1 => by
    have ih := rowP_mem r a x b
    rw [rowP]
    by_cases q : (decide (a < b) && (r a).testBit b) = true
    · rw [if_pos q, List.mem_append, List.mem_singleton, ih]
      rw [Bool.and_eq_true, decide_eq_true_iff] at q
      constructor
      · rintro (⟨h1, h2, h3, h4⟩ | rfl)
        · exact ⟨h1, h2, by omega, h4⟩
        · exact ⟨rfl, q.1, Nat.lt_succ_self b, q.2⟩
      · rintro ⟨h1, h2, h3, h4⟩
        by_cases e : x.2 = b
        · right; exact Prod.ext h1 e
        · left; exact ⟨h1, h2, by omega, h4⟩
    · rw [if_neg q, ih]
      rw [Bool.and_eq_true, decide_eq_true_iff] at q
      constructor
      · rintro ⟨h1, h2, h3, h4⟩
        exact ⟨h1, h2, by omega, h4⟩
      · rintro ⟨h1, h2, h3, h4⟩
        by_cases e : x.2 = b
        · rw [e] at h2 h4; exact absurd ⟨h2, h4⟩ q
        · exact ⟨h1, h2, by omega, h4⟩
theorem allP_mem (r : Nat → Nat) (n : Nat) (x : Nat × Nat) : ∀ a, x ∈ allP r n a ↔ x.1 < a ∧ x.1 < x.2 ∧ x.2 < n ∧ (r x.1).testBit x.2 = true
  | 0 => by
    rw [allP]
    exact ⟨fun h => (List.not_mem_nil h).elim, fun h => by omega⟩
  | a + 1 => by
    rw [allP, List.mem_append, allP_mem r n x a, rowP_mem]
    constructor
    · rintro (⟨h1, h2⟩ | ⟨h1, h2, h3, h4⟩)
      · exact ⟨by omega, h2⟩
      · rw [← h1] at h2 h4; exact ⟨by omega, h2, h3, h4⟩
    · rintro ⟨h1, h2, h3, h4⟩
      by_cases e : x.1 = a
      · right; rw [e] at h2 h4; exact ⟨e, h2, h3, h4⟩
      · left; exact ⟨by omega, h2, h3, h4⟩
theorem lines_mem {r : Nat → Nat} {n : Nat} {x : Nat × Nat} : x ∈ linesP r n ↔ x.1 < x.2 ∧ x.2 < n ∧ (r x.1).testBit x.2 = true := by
  unfold linesP
  rw [allP_mem]
  exact ⟨fun h => h.2, fun h => ⟨by omega, h⟩⟩
theorem rowP_more (r : Nat → Nat) (a b : Nat) : ∀ d, ∃ B, rowP r a (b + d) = rowP r a b ++ B
  | 0 => ⟨[], (List.append_nil _).symm⟩
  | d + 1 => by
    obtain ⟨B, h⟩ := rowP_more r a b d
    rw [← Nat.add_assoc, rowP, h]
    by_cases q : (decide (a < b + d) && (r a).testBit (b + d)) = true
    · rw [if_pos q]; exact ⟨_, List.append_assoc _ _ _⟩
    · rw [if_neg q]; exact ⟨B, rfl⟩
theorem allP_more (r : Nat → Nat) (n a : Nat) : ∀ d, ∃ B, allP r n (a + d) = allP r n a ++ B
  | 0 => ⟨[], (List.append_nil _).symm⟩
  | d + 1 => by
    obtain ⟨B, h⟩ := allP_more r n a d
    rw [← Nat.add_assoc, allP, h]
    exact ⟨_, List.append_assoc _ _ _⟩
theorem lines_split {r : Nat → Nat} {n a b : Nat} (hab : a < b) (hb : b < n) (h : (r a).testBit b = true) : ∃ B, linesP r n = (allP r n a ++ rowP r a b) ++ (a, b) :: B := by
  obtain ⟨B1, h1⟩ := allP_more r n (a + 1) (n - (a + 1))
  obtain ⟨B2, h2⟩ := rowP_more r a (b + 1) (n - (b + 1))
  rw [show a + 1 + (n - (a + 1)) = n by omega] at h1
  rw [show b + 1 + (n - (b + 1)) = n by omega] at h2
  refine ⟨B2 ++ B1, ?_⟩
  unfold linesP
  rw [h1, allP, h2, rowP, if_pos (by simp [hab, h])]
  simp only [List.append_assoc, List.cons_append, List.nil_append]
/-- each line has two ends -/
theorem lines_len {n : Nat} {r : Nat → Nat} (g : Gr n r) : (linesP r n).length = cntA r n / 2 := by
  have e1 : ∀ i, cntA r i = sm i (fun a => popA (r a) 10) := by
    intro i
    induction i with
    | zero => rfl
    | succ i ih => rw [cntA, sm, ih]
  have e2 : cntA r n = sm n (fun a => sm n (fun b => ((r a).testBit b).toNat)) := by
    rw [e1]
    refine sm_congr fun a ha => ?_
    rw [popA_sm]
    exact sm_ext g.2.1 (fun b hb _ => by rw [bit_hi (g.2.2.1 a ha) hb]; rfl)
  have e3 : cntA r n = (linesP r n).length + (linesP r n).length := by
    unfold linesP
    rw [allP_len, e2]
    have e4 : sm n (fun a => sm n (fun b => (decide (a < b) && (r a).testBit b).toNat)) = sm n (fun a => sm n (fun b => (decide (b < a) && (r a).testBit b).toNat)) := by
      rw [sm_comm]
      refine sm_congr fun a _ => sm_congr fun b _ => ?_
      rw [g.2.2.2.2.1]
    rw (config := { occs := .pos [2] }) [e4]
    rw [← sm_add]
    refine sm_congr fun a _ => ?_
    rw [← sm_add]
    refine sm_congr fun b _ => ?_
    rcases Nat.lt_trichotomy a b with q | q | q
    · have : ¬ b < a := by omega
      simp [q, this]
    · subst q; rw [g.2.2.2.2.2]; simp
    · have : ¬ a < b := by omega
      simp [q, this]
  omega
theorem lines_le {n : Nat} {r : Nat → Nat} (g : Gr n r) : (linesP r n).length ≤ 45 := by
  have h10 := g.2.1
  unfold linesP
  rw [allP_len]
  refine Nat.le_trans (sm_mono (g := fun a => sm n (fun b => (decide (a < b)).toNat)) fun a _ => sm_mono fun b _ => ?_) ?_
  · cases decide (a < b) <;> cases (r a).testBit b <;> decide
  · have : ∀ n, n < 11 → sm n (fun a => sm n (fun b => (decide (a < b)).toNat)) ≤ 45 := by decide +kernel
    exact this n (by omega)
/-! layLines -/
def Lay (L : List (Nat × Nat)) (on ot : Nat → Int32) : Prop := ∀ l (h : l < L.length), on l = nI (L[l]).1 ∧ ot l = nI (L[l]).2
theorem Lay_nil (on ot : Nat → Int32) : Lay [] on ot := fun l h => absurd h (by simp)
theorem Lay_snoc {L : List (Nat × Nat)} {on ot : Nat → Int32} (h : Lay L on ot) (a b : Nat) : Lay (L ++ [(a, b)]) (upd on L.length (nI a)) (upd ot L.length (nI b)) := by
  intro l hl
  rw [List.length_append] at hl
  simp only [List.length_singleton] at hl
  unfold upd
  by_cases q : l = L.length
  · subst q
    rw [if_pos rfl, if_pos rfl]
    simp
  · have hl2 : l < L.length := by omega
    rw [if_neg q, if_neg q, List.getElem_append_left hl2]
    exact h l hl2
theorem lay_in {kn ne : Nat → Int32} {k n a : Nat} {r : Nat → Nat} (hk : k < 4) (hn : kn k = nI n) (hg : Gr n r) (h3 : ∀ a, a < 10 → ne (10 * k + a) = nI (r a)) (ha : a < n) {L0 : List (Nat × Nat)} {on ot : Nat → Int32} (h45 : (L0 ++ rowP r a n).length ≤ 45) (h0 : Lay L0 on ot) : ∃ e, loop (b_X6_layLines_21 kn ne (nI k) (nI a)) (nI a + (1 : Int32), nI L0.length, on, ot) = some e ∧ ∃ on' ot', e = (nI (L0 ++ rowP r a n).length, on', ot') ∧ Lay (L0 ++ rowP r a n) on' ot' := by
  have h10 := hg.2.1
  refine loop_cnt (f := b_X6_layLines_21 kn ne (nI k) (nI a)) (fun b x => a < b ∧ ∃ on' ot', x = (nI b, nI (L0 ++ rowP r a b).length, on', ot') ∧ Lay (L0 ++ rowP r a b) on' ot') n _ ?_ ?_ (a + 1) _ (by omega) ⟨by omega, on, ot, by rw [rowP_none _ _ _ (Nat.le_refl _), List.append_nil, nI_1], by rw [rowP_none _ _ _ (Nat.le_refl _), List.append_nil]; exact h0⟩
  · rintro b x hb ⟨hab, on', ot', rfl, h⟩
    have hle : (L0 ++ rowP r a b).length ≤ (L0 ++ rowP r a n).length := by
      obtain ⟨B, e⟩ := rowP_more r a b (n - b)
      rw [show b + (n - b) = n by omega] at e
      rw [e, ← List.append_assoc, List.length_append (as := L0 ++ rowP r a b)]
      omega
    unfold b_X6_layLines_21
    dsimp only
    rw [chk_in (vp_in_nI hk (by omega)), nI_clamp (by omega), hn, if_neg (nI_ge hb (by omega)), s_has hk (by omega) (by omega) (Gr_lt hg a) (h3 a (by omega))]
    simp only [Option.bind_some]
    by_cases q : (r a).testBit b = true
    · have hr : rowP r a (b + 1) = rowP r a b ++ [(a, b)] := by rw [rowP, if_pos (by simp [hab, q])]
      have hle2 : (L0 ++ rowP r a (b + 1)).length ≤ (L0 ++ rowP r a n).length := by
        obtain ⟨B, e⟩ := rowP_more r a (b + 1) (n - (b + 1))
        rw [show b + 1 + (n - (b + 1)) = n by omega] at e
        rw [e, ← List.append_assoc, List.length_append (as := L0 ++ rowP r a (b + 1))]
        omega
      rw [hr, ← List.append_assoc] at hle2 ⊢
      have hl1 : (L0 ++ rowP r a b ++ [(a, b)]).length = (L0 ++ rowP r a b).length + 1 := by rw [List.length_append (bs := [(a, b)])]; rfl
      rw [if_neg (b2i_true q), chk_in (vp_in_nI (by omega) (by omega)), chk_in (vp_in_nI (by omega) (by omega)), nI_clamp (by omega), nI_1, nI_1]
      exact ⟨_, rfl, by omega, _, _, by rw [hl1], Lay_snoc h a b⟩
    · have hr : rowP r a (b + 1) = rowP r a b := by rw [rowP, if_neg (by simp [q])]
      rw [if_pos (b2i_false q), nI_1, hr]
      exact ⟨_, rfl, by omega, on', ot', rfl, h⟩
  · rintro x ⟨hab, on', ot', rfl, h⟩
    unfold b_X6_layLines_21
    dsimp only
    rw [chk_in (vp_in_nI hk (by omega)), nI_clamp (by omega), hn, if_pos (nI_le (Nat.le_refl _) (by omega))]
    exact ⟨_, rfl, on', ot', rfl, h⟩
theorem allP_pre (r : Nat → Nat) {n a : Nat} (h : a ≤ n) : (allP r n a).length ≤ (linesP r n).length := by
  obtain ⟨B, e⟩ := allP_more r n a (n - a)
  rw [show a + (n - a) = n by omega] at e
  unfold linesP
  rw [e, List.length_append]
  omega
theorem s_layLines {kn ne : Nat → Int32} {k n : Nat} {r : Nat → Nat} (hk : k < 4) (hn : kn k = nI n) (hg : Gr n r) (h3 : ∀ a, a < 10 → ne (10 * k + a) = nI (r a)) (ma : Int32) (on ot : Nat → Int32) : ∃ on' ot', s_X6_layLines kn ne ma on ot (nI k) = some (nI (linesP r n).length, on', ot') ∧ Lay (linesP r n) on' ot' := by
  have h10 := hg.2.1
  have hle := lines_le hg
  have := loop_cnt (f := b_X6_layLines_7 kn ne (nI k)) (fun a x => ∃ on' ot', x = (nI a, nI (allP r n a).length, on', ot') ∧ Lay (allP r n a) on' ot') n (fun e => ∃ on' ot', e = (nI (linesP r n).length, on', ot') ∧ Lay (linesP r n) on' ot') ?_ ?_ 0 ((0 : Int32), (0 : Int32), on, ot) (by omega) ⟨on, ot, rfl, Lay_nil on ot⟩
  · obtain ⟨e, he, on', ot', rfl, h⟩ := this
    refine ⟨on', ot', ?_, h⟩
    unfold s_X6_layLines
    rw [he]
    rfl
  · rintro a x ha ⟨on', ot', rfl, h⟩
    unfold b_X6_layLines_7
    dsimp only
    have hl := allP_pre r (n := n) (a := a + 1) (by omega)
    rw [allP] at hl
    obtain ⟨e, he, on2, ot2, rfl, h2⟩ := lay_in hk hn hg h3 ha (L0 := allP r n a) (on := on') (ot := ot') (by omega) h
    rw [chk_in (vp_in_nI hk (by omega)), nI_clamp (by omega), hn, if_neg (nI_ge ha (by omega)), he]
    simp only [Option.bind_some]
    rw [nI_1]
    exact ⟨_, rfl, on2, ot2, rfl, h2⟩
  · rintro x ⟨on', ot', rfl, h⟩
    unfold b_X6_layLines_7
    dsimp only
    rw [chk_in (vp_in_nI hk (by omega)), nI_clamp (by omega), hn, if_pos (nI_le (Nat.le_refl _) (by omega))]
    exact ⟨_, rfl, on', ot', rfl, h⟩
