/-! product -/
def prB (r1 r2 : Nat → Nat) (w v y : Nat) : Bool := (decide (v / w = y / w) && (r2 (v % w)).testBit (y % w)) || (decide (v % w = y % w) && (r1 (v / w)).testBit (y / w))
def prO (r1 : Nat → Nat) (w i j : Nat) : Nat → Nat
  | 0 => 0
  | k + 1 => if (r1 i).testBit k = true then prO r1 w i j k ||| 2 ^ (w * k + j) else prO r1 w i j k
theorem prO_bit (r1 : Nat → Nat) (w i j y : Nat) : ∀ K, (prO r1 w i j K).testBit y = true ↔ ∃ k, k < K ∧ (r1 i).testBit k = true ∧ w * k + j = y
  | 0 => by
    rw [prO, Nat.zero_testBit]
    exact ⟨fun h => by simp at h, fun ⟨k, h, _⟩ => by omega⟩
  | K + 1 => by
    have ih := prO_bit r1 w i j y K
    rw [prO]
    by_cases q : (r1 i).testBit K = true
    · rw [if_pos q, Nat.testBit_or, Bool.or_eq_true, ih, Nat.testBit_two_pow, decide_eq_true_iff]
      constructor
      · rintro (⟨k, h1, h2⟩ | h)
        · exact ⟨k, by omega, h2⟩
        · exact ⟨K, by omega, q, h⟩
      · rintro ⟨k, h1, h2, h3⟩
        by_cases e : k = K
        · right; rw [← e]; exact h3
        · left; exact ⟨k, by omega, h2, h3⟩
    · rw [if_neg q, ih]
      constructor
      · rintro ⟨k, h1, h2⟩
        exact ⟨k, by omega, h2⟩
      · rintro ⟨k, h1, h2, h3⟩
        by_cases e : k = K
        · rw [e] at h2; exact absurd h2 q
        · exact ⟨k, by omega, h2, h3⟩
def prA (r1 r2 : Nat → Nat) (m w v : Nat) : Nat := (r2 (v % w) <<< (w * (v / w))) ||| prO r1 w (v / w) (v % w) m
theorem prA_bit {r1 r2 : Nat → Nat} {m w : Nat} (g1 : Gr m r1) (g2 : Gr w r2) (v y : Nat) : (prA r1 r2 m w v).testBit y = prB r1 r2 w v y := by
  have hw : 0 < w := g2.1
  have hv := Nat.div_add_mod v w
  have hy := Nat.div_add_mod y w
  have hvl := Nat.mod_lt v hw
  have hyl := Nat.mod_lt y hw
  unfold prA prB
  rw [Nat.testBit_or, Nat.testBit_shiftLeft]
  congr 1
  · by_cases q : w * (v / w) ≤ y
    · by_cases q2 : v / w = y / w
      · have : y - w * (v / w) = y % w := by rw [q2]; omega
        rw [this, decide_eq_true q2, decide_eq_true (show y ≥ w * (v / w) from q)]
      · have hlt : r2 (v % w) < 2 ^ (y - w * (v / w)) := by
          refine Nat.lt_of_lt_of_le (g2.2.2.1 _ hvl) (Nat.pow_le_pow_right (by omega) ?_)
          have h2 : v / w ≤ y / w := (Nat.le_div_iff_mul_le hw).mpr (by rw [Nat.mul_comm]; exact q)
          have h3 : v / w + 1 ≤ y / w := by omega
          have h4 := Nat.mul_le_mul_left w h3
          rw [Nat.mul_add, Nat.mul_one] at h4
          omega
        rw [Nat.testBit_lt_two_pow hlt]; simp [q2]
    · have q2 : ¬ v / w = y / w := by
        intro e; rw [e] at q; omega
      simp [q, q2]
  · apply Bool.eq_iff_iff.mpr
    rw [prO_bit, Bool.and_eq_true, decide_eq_true_iff]
    constructor
    · rintro ⟨k, h1, h2, h3⟩
      have e1 : y / w = k := by rw [← h3, Nat.mul_add_div hw, Nat.div_eq_of_lt hvl, Nat.add_zero]
      have e2 : y % w = v % w := by rw [← h3, Nat.mul_add_mod, Nat.mod_eq_of_lt hvl]
      rw [e1, e2]; exact ⟨rfl, h2⟩
    · rintro ⟨h1, h2⟩
      refine ⟨y / w, ?_, h2, by rw [h1]; exact hy⟩
      rcases Nat.lt_or_ge (y / w) m with q | q
      · exact q
      · rcases Nat.lt_or_ge (v / w) m with q2 | q2
        · rw [Nat.testBit_lt_two_pow (Nat.lt_of_lt_of_le (g1.2.2.1 _ q2) (Nat.pow_le_pow_right (by omega) q))] at h2
          exact absurd h2 (by decide)
        · rw [g1.2.2.2.1 _ q2, Nat.zero_testBit] at h2
          exact absurd h2 (by decide)
theorem prB_sym {r1 r2 : Nat → Nat} {m w : Nat} (g1 : Gr m r1) (g2 : Gr w r2) (v y : Nat) : prB r1 r2 w v y = prB r1 r2 w y v := by
  unfold prB
  rw [g1.2.2.2.2.1 (v / w) (y / w), g2.2.2.2.2.1 (v % w) (y % w), decide_eq_decide.mpr (show v / w = y / w ↔ y / w = v / w from ⟨Eq.symm, Eq.symm⟩), decide_eq_decide.mpr (show v % w = y % w ↔ y % w = v % w from ⟨Eq.symm, Eq.symm⟩)]
theorem prB_irr {r1 r2 : Nat → Nat} {m w : Nat} (g1 : Gr m r1) (g2 : Gr w r2) (v : Nat) : prB r1 r2 w v v = false := by
  unfold prB
  rw [g1.2.2.2.2.2, g2.2.2.2.2.2]; simp
theorem prB_hi {r1 r2 : Nat → Nat} {m w : Nat} (g1 : Gr m r1) (g2 : Gr w r2) {v y : Nat} (hv : v < m * w) (hy : m * w ≤ y) : prB r1 r2 w v y = false := by
  have hw : 0 < w := g2.1
  have q : m ≤ y / w := (Nat.le_div_iff_mul_le hw).mpr hy
  have q2 : v / w < m := (Nat.div_lt_iff_lt_mul hw).mpr hv
  unfold prB
  rw [Nat.testBit_lt_two_pow (x := r1 (v / w)) (Nat.lt_of_lt_of_le (g1.2.2.1 _ q2) (Nat.pow_le_pow_right (by omega) q))]
  have : ¬ v / w = y / w := by omega
  simp [this]
def prR (r1 r2 : Nat → Nat) (m w v : Nat) : Nat := if v < m * w then prA r1 r2 m w v else 0
theorem prR_bit {r1 r2 : Nat → Nat} {m w : Nat} (g1 : Gr m r1) (g2 : Gr w r2) (v y : Nat) : (prR r1 r2 m w v).testBit y = (decide (v < m * w) && decide (y < m * w) && prB r1 r2 w v y) := by
  unfold prR
  by_cases q : v < m * w
  · rw [if_pos q, prA_bit g1 g2]
    by_cases q2 : y < m * w
    · simp [q, q2]
    · rw [prB_hi g1 g2 q (by omega)]; simp
  · rw [if_neg q, Nat.zero_testBit]; simp [q]
theorem lt_of_bits {x n : Nat} (h : ∀ y, n ≤ y → x.testBit y = false) : x < 2 ^ n := by
  apply Nat.lt_pow_two_of_testBit
  exact h
theorem Gr_pr {r1 r2 : Nat → Nat} {m w : Nat} (g1 : Gr m r1) (g2 : Gr w r2) (h10 : m * w ≤ 10) : Gr (m * w) (prR r1 r2 m w) := by
  refine ⟨Nat.mul_pos g1.1 g2.1, h10, fun a ha => lt_of_bits fun y hy => ?_, fun a ha => ?_, fun a b => ?_, fun a => ?_⟩
  · rw [prR_bit g1 g2]
    have : ¬ y < m * w := by omega
    simp [this]
  · unfold prR; rw [if_neg (by omega)]
  · rw [prR_bit g1 g2, prR_bit g1 g2, prB_sym g1 g2 a b, Bool.and_comm (decide (a < m * w))]
  · rw [prR_bit g1 g2, prB_irr g1 g2]; simp
theorem b2i_true {b : Bool} (h : b = true) : ¬ b2i b = 0 := by subst h; decide
theorem b2i_false {b : Bool} (h : ¬ b = true) : b2i b = 0 := by
  cases b with
  | true => exact absurd rfl h
  | false => decide
theorem prC_k {cK : Nat → Int32} {cF : Nat → Nat → Int32} {p : Fin 5} {m w i j : Nat} {r1 : Nat → Nat} (hp : p.1 ≠ 4) (hn : cK p.1 = nI m) (g1 : Gr m r1) (h3 : ∀ a, a < 10 → cF p.1 a = nI (r1 a)) (hi : i < m) (hj : j < w) (hmw : m * w ≤ 10) (F : Nat → Int32) (x0 : Nat) (h0 : F (w * i + j) = nI x0) : ∃ F', loop (b_X2_becomeProduct_67 (va_up cK 4 (nI (m * w))) (4 : Fin 5) p (nI w) (nI i) (nI j) (nI (w * i + j))) ((0 : Int32), va_up cF 4 F) = some (va_up cF 4 F') ∧ F' (w * i + j) = nI (x0 ||| prO r1 w i j m) ∧ ∀ a, a ≠ w * i + j → F' a = F a := by
  have hpos : ∀ k, k < m → w * k + j < 10 := by
    intro k hk
    have h4 : w * (k + 1) ≤ w * m := Nat.mul_le_mul_left w (by omega)
    rw [Nat.mul_add, Nat.mul_one, Nat.mul_comm w m] at h4
    omega
  have hm10 := g1.2.1
  obtain ⟨e, he, F', rfl, h⟩ := loop_cnt (f := b_X2_becomeProduct_67 (va_up cK 4 (nI (m * w))) (4 : Fin 5) p (nI w) (nI i) (nI j) (nI (w * i + j))) (fun k x => ∃ F', x = (nI k, va_up cF 4 F') ∧ F' (w * i + j) = nI (x0 ||| prO r1 w i j k) ∧ ∀ a, a ≠ w * i + j → F' a = F a) m (fun e => ∃ F', e = va_up cF 4 F' ∧ F' (w * i + j) = nI (x0 ||| prO r1 w i j m) ∧ ∀ a, a ≠ w * i + j → F' a = F a) (by
    rintro k x hk ⟨F', rfl, h, h9⟩
    have hp2 := hpos k hk
    have hp1 := hpos i hi
    unfold b_X2_becomeProduct_67
    dsimp only
    rw [va_up_ne _ _ hp, hn, if_neg (nI_ge hk (by omega)), s_joins (r := r1) (by omega) (by omega) (Gr_lt g1 i) (by rw [va_up_ne _ _ hp]; exact h3 i (by omega))]
    simp only [Option.bind_some]
    by_cases q : (r1 i).testBit k = true
    · rw [if_neg (b2i_true q), chk_in (vp_in_nI (by omega) (by omega)), chk_in (vp_in_nI (by omega) (by omega)), nI_clamp (by omega), pk_mul, nI_add, nI_two (by omega), show ((4 : Fin 5).1) = 4 from rfl, va_up_self, h, nI_or, nI_1, bx_uu]
      refine ⟨_, rfl, _, rfl, ?_, fun a ha => ?_⟩
      · unfold upd; rw [if_pos rfl, prO, if_pos q, Nat.or_assoc]
      · unfold upd; rw [if_neg ha]; exact h9 a ha
    · rw [if_pos (b2i_false q), nI_1]
      refine ⟨_, rfl, _, rfl, ?_, h9⟩
      rw [prO, if_neg q]; exact h) (by
    rintro x ⟨F', rfl, h⟩
    unfold b_X2_becomeProduct_67
    dsimp only
    rw [va_up_ne _ _ hp, hn, if_pos (nI_le (Nat.le_refl _) (by omega))]
    exact ⟨_, rfl, F', rfl, h⟩) 0 _ (by omega) ⟨F, rfl, by rw [prO, Nat.or_zero]; exact h0, fun _ _ => rfl⟩
  exact ⟨F', he, h⟩
theorem shl_lt {x a b : Nat} (h : x < 2 ^ a) : x <<< b < 2 ^ (a + b) := by
  rw [Nat.shiftLeft_eq, Nat.pow_add]
  exact Nat.mul_lt_mul_of_pos_right h (Nat.two_pow_pos b)
theorem prC_j {cK : Nat → Int32} {cF : Nat → Nat → Int32} {p q : Fin 5} {m w i : Nat} {r1 r2 : Nat → Nat} (hp : p.1 ≠ 4) (hq : q.1 ≠ 4) (hn : cK p.1 = nI m) (g1 : Gr m r1) (g2 : Gr w r2) (h3 : ∀ a, a < 10 → cF p.1 a = nI (r1 a)) (h4 : ∀ a, a < 10 → cF q.1 a = nI (r2 a)) (hi : i < m) (hmw : m * w ≤ 10) (F : Nat → Int32) (hF : ∀ a, a < 10 → F a = nI (if a < w * i then prA r1 r2 m w a else 0)) : ∃ F', loop (b_X2_becomeProduct_30 (va_up cK 4 (nI (m * w))) (4 : Fin 5) p q (nI w) (nI i)) ((0 : Int32), va_up cF 4 F) = some (va_up cF 4 F') ∧ ∀ a, a < 10 → F' a = nI (if a < w * (i + 1) then prA r1 r2 m w a else 0) := by
  have hw10 := g2.2.1
  have hw1 := g2.1
  have hpos : w * i + w ≤ 10 := by
    have h4 : w * (i + 1) ≤ w * m := Nat.mul_le_mul_left w (by omega)
    rw [Nat.mul_add, Nat.mul_one, Nat.mul_comm w m] at h4
    omega
  obtain ⟨e, he, F', rfl, h⟩ := loop_cnt (f := b_X2_becomeProduct_30 (va_up cK 4 (nI (m * w))) (4 : Fin 5) p q (nI w) (nI i)) (fun j x => ∃ F', x = (nI j, va_up cF 4 F') ∧ ∀ a, a < 10 → F' a = nI (if a < w * i + j then prA r1 r2 m w a else 0)) w (fun e => ∃ F', e = va_up cF 4 F' ∧ ∀ a, a < 10 → F' a = nI (if a < w * i + w then prA r1 r2 m w a else 0)) (by
    rintro j x hj ⟨F', rfl, h⟩
    unfold b_X2_becomeProduct_30
    dsimp only
    have hlt := g2.2.2.1 j hj
    have hsl : r2 j * 2 ^ (w * i) < 2 ^ 32 := by
      have := shl_lt (b := w * i) hlt
      rw [Nat.shiftLeft_eq] at this
      exact Nat.lt_of_lt_of_le this (Nat.pow_le_pow_right (by omega) (by omega))
    rw [if_neg (nI_ge hj (by omega)), pk_mul, nI_add, chk_in (vp_in_nI (by omega) (by omega)), chk_in (vp_in_nI (by omega) (by omega)), nI_clamp (by omega), nI_clamp (by omega), va_up_ne _ _ hq, h4 j (by omega), nI_shl (by omega) hsl, show ((4 : Fin 5).1) = 4 from rfl, va_up_self, bx_uu]
    obtain ⟨F2, e1, e2, e3⟩ := prC_k (cK := cK) (cF := cF) (p := p) (w := w) (i := i) (j := j) hp hn g1 h3 hi hj hmw (upd F' (w * i + j) (nI (r2 j <<< (w * i)))) (r2 j <<< (w * i)) (by unfold upd; rw [if_pos rfl])
    rw [e1]
    simp only [Option.bind_some]
    rw [nI_1]
    refine ⟨_, rfl, F2, rfl, fun a ha => ?_⟩
    by_cases c : a = w * i + j
    · subst c
      rw [e2, if_pos (by omega)]
      unfold prA
      rw [Nat.mul_add_div (by omega), Nat.div_eq_of_lt hj, Nat.add_zero, Nat.mul_add_mod, Nat.mod_eq_of_lt hj]
    · rw [e3 a c]
      unfold upd
      rw [if_neg c, h a ha]
      by_cases c2 : a < w * i + j
      · rw [if_pos c2, if_pos (by omega)]
      · rw [if_neg c2, if_neg (by omega)]) (by
    rintro x ⟨F', rfl, h⟩
    unfold b_X2_becomeProduct_30
    dsimp only
    rw [if_pos (nI_le (Nat.le_refl _) (by omega))]
    exact ⟨_, rfl, F', rfl, h⟩) 0 _ (by omega) ⟨F, rfl, hF⟩
  refine ⟨F', he, ?_⟩
  rw [Nat.mul_add, Nat.mul_one]; exact h
theorem s_becomeProduct {cK : Nat → Int32} {cF : Nat → Nat → Int32} {p q : Fin 5} {m w : Nat} {r1 r2 : Nat → Nat} (hp : p.1 ≠ 4) (hq : q.1 ≠ 4) (hn : cK p.1 = nI m) (hn2 : cK q.1 = nI w) (g1 : Gr m r1) (g2 : Gr w r2) (h3 : ∀ a, a < 10 → cF p.1 a = nI (r1 a)) (h4 : ∀ a, a < 10 → cF q.1 a = nI (r2 a)) (hmw : m * w ≤ 10) : ∃ F, s_X2_becomeProduct cK cF (4 : Fin 5) p q = some (va_up cK 4 (nI (m * w)), va_up cF 4 F) ∧ ∀ a, a < 10 → F a = nI (prR r1 r2 m w a) := by
  have hm10 := g1.2.1
  obtain ⟨e, he, F', rfl, h⟩ := loop_cnt (f := b_X2_becomeProduct_18 (va_up cK 4 (nI (m * w))) (4 : Fin 5) p q (nI w)) (fun i x => ∃ F', x = (nI i, va_up cF 4 F') ∧ ∀ a, a < 10 → F' a = nI (if a < w * i then prA r1 r2 m w a else 0)) m (fun e => ∃ F', e = va_up cF 4 F' ∧ ∀ a, a < 10 → F' a = nI (prR r1 r2 m w a)) (by
    rintro i x hi ⟨F', rfl, h⟩
    unfold b_X2_becomeProduct_18
    dsimp only
    obtain ⟨F2, e1, e2⟩ := prC_j (cK := cK) (cF := cF) hp hq hn g1 g2 h3 h4 hi hmw F' h
    rw [va_up_ne _ _ hp, hn, if_neg (nI_ge hi (by omega)), e1]
    simp only [Option.bind_some]
    rw [nI_1]
    exact ⟨_, rfl, F2, rfl, e2⟩) (by
    rintro x ⟨F', rfl, h⟩
    unfold b_X2_becomeProduct_18
    dsimp only
    rw [va_up_ne _ _ hp, hn, if_pos (nI_le (Nat.le_refl _) (by omega))]
    refine ⟨_, rfl, F', rfl, ?_⟩
    rw [Nat.mul_comm w m] at h; exact h) 0 ((0 : Int32), va_up cF 4 (fillI 10 (cF 4) 0)) (by omega) ⟨_, rfl, fun a ha => by unfold fillI; rw [if_pos ha, if_neg (by omega)]; rfl⟩
  refine ⟨F', ?_, h⟩
  unfold s_X2_becomeProduct s_X2_startWith
  simp only [Option.bind_some]
  rw [show ((4 : Fin 5).1) = 4 from rfl, hn, hn2, pk_mul, he]
  rfl
theorem prM_step {ne fi se : Nat → Int32} {k m w v y : Nat} {r1 r2 : Nat → Nat} (g1 : Gr m r1) (g2 : Gr w r2) (h3 : ∀ a, a < 10 → fi a = nI (r1 a)) (h4 : ∀ a, a < 10 → se a = nI (r2 a)) (hmw : m * w ≤ 10) (hv : v < m * w) (hy : y < m * w) : b_X6_product_133 fi se (nI k) (nI m) (nI w) (nI v) (nI y, ne) = if prB r1 r2 w v y = true then (s_X6_put ne (nI k) (nI v) (nI y)).bind (fun z => some (Sum.inl (nI (y + 1), z))) else some (Sum.inl (nI (y + 1), ne)) := by
  have hw : 0 < w := g2.1
  have hw10 := g2.2.1
  have hvl := Nat.mod_lt v hw
  have hyl := Nat.mod_lt y hw
  have hvd : v / w ≤ v := Nat.div_le_self v w
  have hyd : y / w ≤ y := Nat.div_le_self y w
  have hz : ¬ nI w = 0 := by rw [i0]; exact fun q => by rw [nI_eq (by omega) (by omega)] at q; omega
  have hc1 : vp_in (nI (v % w)) 10 := vp_in_nI (by omega) (by omega)
  have hc2 : vp_in (nI (v / w)) 10 := vp_in_nI (by omega) (by omega)
  unfold b_X6_product_133
  dsimp only
  rw [pk_mul, if_neg (nI_ge hy (by omega))]
  simp only [nez_in hz]
  rw [nI_mod (by omega) hw (by omega), nI_mod (by omega) hw (by omega), pk_div (by omega) hw (by omega), pk_div (by omega) hw (by omega)]
  simp only [chk_in hc1, chk_in hc2]
  rw [nI_clamp (by omega), nI_clamp (by omega), h3 _ (by omega), h4 _ (by omega), nI_1]
  have k1 := nI_eq (a := v / w) (b := y / w) (by omega) (by omega)
  have k2 := nI_eq (a := v % w) (b := y % w) (by omega) (by omega)
  have k3 := nI_bit (m := r2 (v % w)) (b := y % w) (by have := Gr_lt g2 (v % w); omega) (by omega)
  have k4 := nI_bit (m := r1 (v / w)) (b := y / w) (by have := Gr_lt g1 (v / w); omega) (by omega)
  unfold prB
  have hi : ¬ (1 : Int32) = 0 := by decide
  simp only [k1, k2, k3, k4, if_neg hi, if_true]
  generalize (r2 (v % w)).testBit (y % w) = B2
  generalize (r1 (v / w)).testBit (y / w) = B4
  by_cases c1 : v / w = y / w <;> by_cases c3 : v % w = y % w <;> cases B2 <;> cases B4 <;> simp [c1, c3]
theorem prM_y {ne fi se : Nat → Int32} {k m w v : Nat} {r1 r2 r0 : Nat → Nat} (hk : k < 4) (g1 : Gr m r1) (g2 : Gr w r2) (h3 : ∀ a, a < 10 → fi a = nI (r1 a)) (h4 : ∀ a, a < 10 → se a = nI (r2 a)) (hmw : m * w ≤ 10) (hv : v < m * w) (g0 : Gr (m * w) r0) (h0 : ∀ a, a < 10 → ne (10 * k + a) = nI (r0 a)) (b0 : ∀ x y, (r0 x).testBit y = true → prB r1 r2 w x y = true) (c0 : ∀ x y, x < v → y < m * w → prB r1 r2 w x y = true → (r0 x).testBit y = true) : ∃ ne', loop (b_X6_product_133 fi se (nI k) (nI m) (nI w) (nI v)) ((0 : Int32), ne) = some ne' ∧ ∃ r, Gr (m * w) r ∧ (∀ a, a < 10 → ne' (10 * k + a) = nI (r a)) ∧ (∀ j, ¬ (10 * k ≤ j ∧ j < 10 * k + 10) → ne' j = ne j) ∧ (∀ x y, (r x).testBit y = true → prB r1 r2 w x y = true) ∧ ∀ x y, x < v + 1 → y < m * w → prB r1 r2 w x y = true → (r x).testBit y = true := by
  refine loop_cnt (f := b_X6_product_133 fi se (nI k) (nI m) (nI w) (nI v)) (fun y0 x => ∃ ne', x = (nI y0, ne') ∧ ∃ r, Gr (m * w) r ∧ (∀ a, a < 10 → ne' (10 * k + a) = nI (r a)) ∧ (∀ j, ¬ (10 * k ≤ j ∧ j < 10 * k + 10) → ne' j = ne j) ∧ (∀ x y, (r x).testBit y = true → prB r1 r2 w x y = true) ∧ ∀ x y, ((x < v ∧ y < m * w) ∨ (x = v ∧ y < y0)) → prB r1 r2 w x y = true → (r x).testBit y = true) (m * w) _ ?_ ?_ 0 _ (by omega) ⟨ne, rfl, r0, g0, h0, fun _ _ => rfl, b0, fun x y h => c0 x y (by omega) (by omega)⟩
  · rintro y x hy ⟨ne', rfl, r, q1, q2, q3, q4, q5⟩
    rw [prM_step g1 g2 h3 h4 hmw hv hy]
    by_cases c : prB r1 r2 w v y = true
    · have hvy : v ≠ y := by
        intro e; rw [← e, prB_irr g1 g2] at c; exact absurd c (by decide)
      obtain ⟨ne2, e1, e2, e3⟩ := s_put (ne := ne') (k := k) (a := v) (b := y) (r := r) hk (by omega) (by omega) q2
      rw [if_pos c, e1]
      simp only [Option.bind_some]
      refine ⟨_, rfl, ne2, rfl, jn r v y, Gr_jn q1 hv hy hvy, e2, fun j hj => by rw [e3 j hj, q3 j hj], fun x z h => ?_, fun x z h h' => ?_⟩
      · rw [jn_bit hvy, Bool.or_eq_true, decide_eq_true_iff] at h
        rcases h with h | ⟨rfl, rfl⟩ | ⟨rfl, rfl⟩
        · exact q4 x z h
        · exact c
        · rw [prB_sym g1 g2]; exact c
      · rw [jn_bit hvy, Bool.or_eq_true, decide_eq_true_iff]
        by_cases e : x = v ∧ z = y
        · exact Or.inr (Or.inl e)
        · exact Or.inl (q5 x z (by omega) h')
    · rw [if_neg c]
      refine ⟨_, rfl, ne', rfl, r, q1, q2, q3, q4, fun x z h h' => ?_⟩
      by_cases e : x = v ∧ z = y
      · rw [e.1, e.2] at h'; exact absurd h' c
      · exact q5 x z (by omega) h'
  · rintro x ⟨ne', rfl, r, q1, q2, q3, q4, q5⟩
    unfold b_X6_product_133
    dsimp only
    rw [pk_mul, if_pos (nI_le (Nat.le_refl _) (by omega))]
    exact ⟨_, rfl, r, q1, q2, q3, q4, fun x y hx hy => q5 x y (by omega)⟩
theorem prM {ne fi se : Nat → Int32} {k m w : Nat} {r1 r2 : Nat → Nat} (hk : k < 4) (g1 : Gr m r1) (g2 : Gr w r2) (h3 : ∀ a, a < 10 → fi a = nI (r1 a)) (h4 : ∀ a, a < 10 → se a = nI (r2 a)) (hmw : m * w ≤ 10) (h0 : ∀ a, a < 10 → ne (10 * k + a) = nI 0) : ∃ ne', loop (b_X6_product_120 fi se (nI k) (nI m) (nI w)) ((0 : Int32), ne) = some ne' ∧ (∀ a, a < 10 → ne' (10 * k + a) = nI (prR r1 r2 m w a)) ∧ (∀ j, ¬ (10 * k ≤ j ∧ j < 10 * k + 10) → ne' j = ne j) := by
  refine loop_cnt (f := b_X6_product_120 fi se (nI k) (nI m) (nI w)) (fun v x => ∃ ne', x = (nI v, ne') ∧ ∃ r, Gr (m * w) r ∧ (∀ a, a < 10 → ne' (10 * k + a) = nI (r a)) ∧ (∀ j, ¬ (10 * k ≤ j ∧ j < 10 * k + 10) → ne' j = ne j) ∧ (∀ x y, (r x).testBit y = true → prB r1 r2 w x y = true) ∧ ∀ x y, x < v → y < m * w → prB r1 r2 w x y = true → (r x).testBit y = true) (m * w) _ ?_ ?_ 0 _ (by omega) ⟨ne, rfl, fun _ => 0, Gr_zero (Nat.mul_pos g1.1 g2.1) hmw, h0, fun _ _ => rfl, fun x y h => by rw [Nat.zero_testBit] at h; exact absurd h (by decide), fun x y h => by omega⟩
  · rintro v x hv ⟨ne', rfl, r, q1, q2, q3, q4, q5⟩
    unfold b_X6_product_120
    dsimp only
    obtain ⟨ne2, e1, r', e2, e3, e4, e5, e6⟩ := prM_y (ne := ne') hk g1 g2 h3 h4 hmw hv q1 q2 q4 q5
    rw [pk_mul, if_neg (nI_ge hv (by omega)), e1]
    simp only [Option.bind_some]
    rw [nI_1]
    exact ⟨_, rfl, ne2, rfl, r', e2, e3, fun j hj => by rw [e4 j hj, q3 j hj], e5, e6⟩
  · rintro x ⟨ne', rfl, r, q1, q2, q3, q4, q5⟩
    unfold b_X6_product_120
    dsimp only
    rw [pk_mul, if_pos (nI_le (Nat.le_refl _) (by omega))]
    refine ⟨_, rfl, fun a ha => ?_, q3⟩
    rw [q2 a ha]
    congr 1
    apply Nat.eq_of_testBit_eq
    intro y
    rw [prR_bit g1 g2]
    apply Bool.eq_iff_iff.mpr
    rw [Bool.and_eq_true, Bool.and_eq_true, decide_eq_true_iff, decide_eq_true_iff]
    constructor
    · intro h
      refine ⟨⟨?_, ?_⟩, q4 a y h⟩
      · rcases Nat.lt_or_ge a (m * w) with c | c
        · exact c
        · rw [q1.2.2.2.1 a c, Nat.zero_testBit] at h; exact absurd h (by decide)
      · rcases Nat.lt_or_ge y (m * w) with c | c
        · exact c
        · rw [q1.2.2.2.2.1, q1.2.2.2.1 y c, Nat.zero_testBit] at h; exact absurd h (by decide)
    · rintro ⟨⟨ha, hy⟩, h⟩
      exact q5 a y ha hy h
theorem pr_first {ne fi se : Nat → Int32} {k g : Nat} (hk : k < 4) (hg : g < 4) : ∃ e, loop (b_X6_product_56 ne (nI k) (nI g)) ((0 : Int32), fi, se) = some e ∧ (∀ a, a < 10 → e.1 a = ne (10 * k + a)) ∧ ∀ a, a < 10 → e.2 a = ne (10 * g + a) :=
  loop_cnt (f := b_X6_product_56 ne (nI k) (nI g)) (fun i x => ∃ f s, x = (nI i, f, s) ∧ (∀ a, a < i → f a = ne (10 * k + a)) ∧ ∀ a, a < i → s a = ne (10 * g + a)) 10 (fun e => (∀ a, a < 10 → e.1 a = ne (10 * k + a)) ∧ ∀ a, a < 10 → e.2 a = ne (10 * g + a)) (by
    rintro i x hi ⟨f, s, rfl, h, h'⟩
    unfold b_X6_product_56
    dsimp only
    rw [if_neg (by rw [i10]; exact nI_ge hi (by omega)), ix10, ix10, chk_in (vp_in_nI (by omega) (by omega)), chk_in (vp_in_nI (by omega) (by omega)), chk_in (vp_in_nI (by omega) (by omega)), chk_in (vp_in_nI (by omega) (by omega)), nI_clamp (by omega), nI_clamp (by omega), nI_clamp (by omega), nI_1]
    refine ⟨_, rfl, _, _, rfl, fun a ha => ?_, fun a ha => ?_⟩
    · unfold upd
      by_cases q : a = i
      · rw [if_pos q, q]
      · rw [if_neg q]; exact h a (by omega)
    · unfold upd
      by_cases q : a = i
      · rw [if_pos q, q]
      · rw [if_neg q]; exact h' a (by omega)) (by
    rintro x ⟨f, s, rfl, h, h'⟩
    unfold b_X6_product_56
    dsimp only
    rw [if_pos (by decide)]
    exact ⟨_, rfl, h, h'⟩) 0 _ (by omega) ⟨fi, se, rfl, fun a ha => by omega, fun a ha => by omega⟩
theorem pure_product {kn ne cK : Nat → Int32} {cF : Nat → Nat → Int32} (fi se : Nat → Int32) (inv : Inv kn ne cK cF) (a0 a1 a2 : Int32) : ∃ (v : Int32) (cK' : Nat → Int32) (cF' : Nat → Nat → Int32) (kn' ne' fi' se' : Nat → Int32), s_X5_product cK cF a0 a1 a2 = some (v, cK', cF') ∧ s_X6_product kn ne fi se a0 a1 a2 = some (v, kn', ne', fi', se') ∧ Inv kn' ne' cK' cF' := by
  have hbad : s_X5_product cK cF a0 a1 a2 = some (-2, cK, cF) → s_X6_product kn ne fi se a0 a1 a2 = some (-2, kn, ne, fi, se) → ∃ (v : Int32) (cK' : Nat → Int32) (cF' : Nat → Nat → Int32) (kn' ne' fi' se' : Nat → Int32), s_X5_product cK cF a0 a1 a2 = some (v, cK', cF') ∧ s_X6_product kn ne fi se a0 a1 a2 = some (v, kn', ne', fi', se') ∧ Inv kn' ne' cK' cF' := fun h g => ⟨-2, cK, cF, kn, ne, fi, se, h, g, inv⟩
  have hall : ∀ a, ∃ x, s_X5_netAt a = some x := by
    intro a
    rcases net_or a with h | ⟨k, hk, rfl⟩
    · exact ⟨_, netAt_no h⟩
    · exact ⟨_, netAt_yes hk⟩
  rcases net_or a0 with h | ⟨k, hk, rfl⟩
  · obtain ⟨x1, hx1⟩ := hall a1
    obtain ⟨x2, hx2⟩ := hall a2
    exact hbad (by unfold s_X5_product; rw [netAt_no h, hx1, hx2]; rfl) (by unfold s_X6_product; rw [isNet_no h]; rfl)
  · rcases net_or a1 with h | ⟨g, hgo, rfl⟩
    · obtain ⟨x2, hx2⟩ := hall a2
      exact hbad (by unfold s_X5_product; rw [netAt_yes hk, netAt_no h, hx2]; rfl) (by unfold s_X6_product; rw [isNet_yes hk, isNet_no h]; rfl)
    · rcases net_or a2 with h | ⟨t, ht, rfl⟩
      · exact hbad (by unfold s_X5_product; rw [netAt_yes hk, netAt_yes hgo, netAt_no h]; rfl) (by unfold s_X6_product; rw [isNet_yes hk, isNet_yes hgo, isNet_no h]; rfl)
      · obtain ⟨N, r, hi⟩ := id inv
        obtain ⟨g1, a1, a2, a3⟩ := hi k hk
        obtain ⟨g2, b1, b2, b3⟩ := hi g hgo
        have hf : (fin5 k).1 = k := fin5_val (by omega)
        have hf2 : (fin5 g).1 = g := fin5_val (by omega)
        have hf3 : (fin5 t).1 = t := fin5_val (by omega)
        have hm10 := g1.2.1
        have hw10 := g2.2.1
        have hle : N k * N g ≤ 10 * 10 := Nat.mul_le_mul hm10 hw10
        unfold s_X5_product s_X6_product
        rw [netAt_yes hk, netAt_yes hgo, netAt_yes ht, isNet_yes hk, isNet_yes hgo, isNet_yes ht]
        simp only [Option.bind_some, Option.elim_some]
        rw [if_neg (show ¬ ((1 : Int32) = 0) by decide), if_neg (show ¬ ((1 : Int32) = 0) by decide), if_neg (show ¬ ((1 : Int32) = 0) by decide), chk_in (vp_in_nI hk (by omega)), chk_in (vp_in_nI hgo (by omega)), nI_clamp (by omega), nI_clamp (by omega), hf, hf2, a1, a2, b1, b2, pk_mul, i10]
        by_cases hmw : N k * N g ≤ 10
        · rw [if_pos (nI_le hmw (by omega)), if_pos (nI_le hmw (by omega))]
          obtain ⟨F, c1, c2⟩ := s_becomeProduct (cK := cK) (cF := cF) (p := fin5 k) (q := fin5 g) (by omega) (by omega) (by rw [hf]; exact a2) (by rw [hf2]; exact b2) g1 g2 (fun a ha => by rw [hf]; exact (a3 a ha).2) (fun a ha => by rw [hf2]; exact (b3 a ha).2) hmw
          obtain ⟨F2, c3, c4⟩ := s_becomeCopy (cK := va_up cK 4 (nI (N k * N g))) (cF := va_up cF 4 F) (p := fin5 t) (q := (4 : Fin 5)) (r := prR (r k) (r g) (N k) (N g)) (fun a ha => by rw [show ((4 : Fin 5).1) = 4 from rfl, va_up_self]; exact c2 a ha)
          obtain ⟨e, m1, m2, m3⟩ := pr_first (ne := ne) (fi := fi) (se := se) hk hgo
          obtain ⟨ne', m4, m5, m6⟩ := prM (ne := clr ne t 10) (fi := e.1) (se := e.2) ht g1 g2 (fun a ha => by rw [m2 a ha]; exact (a3 a ha).1) (fun a ha => by rw [m3 a ha]; exact (b3 a ha).1) hmw (fun a ha => by unfold clr; rw [if_pos (by omega)]; rfl)
          rw [c1, m1]
          simp only [Option.bind_some]
          rw [c3, s_begin ht]
          simp only [Option.bind_some]
          rw [m4]
          simp only [Option.bind_some]
          rw [va_up_self, show ((4 : Fin 5).1) = 4 from rfl, va_up_self]
          refine ⟨_, _, _, _, _, _, _, rfl, rfl, inv_set inv (k := t) (Gr_pr g1 g2 hmw) ?_ ?_ ?_ ?_ m5 ?_ ?_ ?_⟩
          · unfold upd; rw [if_pos rfl]
          · intro j hj; unfold upd; rw [if_neg hj]
          · rw [hf3, va_up_self]
          · intro j h4 hj; rw [hf3, va_up_ne _ _ hj, va_up_ne _ _ (by omega)]
          · intro j hj; rw [m6 j hj]; unfold clr; rw [if_neg hj]
          · intro a ha; rw [hf3, va_up_self]; exact c4 a ha
          · intro j h4 hj; rw [hf3, va_up_ne _ _ hj, va_up_ne _ _ (by omega)]
        · rw [if_neg (nI_ge (by omega) (by omega)), if_neg (nI_ge (by omega) (by omega))]
          exact ⟨_, _, _, _, _, _, _, rfl, rfl, inv⟩
theorem op_product (a0 : Int32) (a1 : Int32) (a2 : Int32) : OpI Sim mX5_product mX6_product [vI a0, vI a1, vI a2] := by
  rintro wc wm ⟨cK, cF, ga, gi, gs, oK, cT, ra, rb, cR, cP, cM, ea, eb, cW, aO, aC, aQ, kn, ne, fi, se, ma, on, ot, ta, po, ti, nu, mo, wa, nx, oT, cF', bg, ed, sF, qu, qd, tr, rfl, rfl, inv, h1, h2⟩
  obtain ⟨v, cK1, cF1, kn1, ne1, fi1, se1, e1, e2, inv1⟩ := pure_product fi se inv a0 a1 a2
  exact ⟨v, _, _, c_X5_product (d := 5) e1, c_X6_product (d := 6) e2, _, _, _, _, _, _, _, _, _, _, _, _, _, _, _, _, _, _, _, _, _, _, _, _, _, _, _, _, _, _, _, _, _, _, _, _, _, _, _, _, rfl, rfl, inv1, h1, h2⟩
