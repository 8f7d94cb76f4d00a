/-! PURE ROWS: small numbers as Int32, bits -/
theorem sh31 : ∀ b, b < 32 → ((nI b &&& 31).toBitVec.smod 32).toNat = b := by decide +kernel
theorem nI_shr {m b : Nat} (hm : m < 2 ^ 31) (hb : b < 32) : nI m >>> (nI b &&& 31) = nI (m >>> b) := by
  rw [pk_shrN hm (nI b &&& 31) b (sh31 b hb), Nat.shiftRight_eq_div_pow]
theorem nI_shl {m b : Nat} (hb : b < 32) (h : m * 2 ^ b < 2 ^ 32) : nI m <<< (nI b &&& 31) = nI (m <<< b) := by
  rw [pk_shlN (nI b &&& 31) b (sh31 b hb) h, Nat.shiftLeft_eq]
theorem nI_and1 {m : Nat} (hm : m < 2 ^ 32) : nI m &&& 1 = nI (m % 2) := pk_andN hm (m := 1) 1 (by decide)
theorem nI_bit {m b : Nat} (hm : m < 2 ^ 31) (hb : b < 32) : ((nI m >>> (nI b &&& 31)) &&& 1) = 1 ↔ m.testBit b = true := by
  have h2 : m >>> b < 2 ^ 31 := Nat.lt_of_le_of_lt (Nat.shiftRight_le m b) hm
  rw [nI_shr hm hb, nI_and1 (by omega), show (1 : Int32) = nI 1 by decide, nI_eq (by omega) (by omega)]
  rw [Nat.testBit, Nat.and_comm]
  rw [show (1 : Nat) = 2 ^ 1 - 1 from rfl, Nat.and_two_pow_sub_one_eq_mod]
  constructor
  · intro h
    simp only [bne_iff_ne, ne_eq]
    omega
  · intro h
    simp only [bne_iff_ne, ne_eq] at h
    omega
theorem i10 : (10 : Int32) = nI 10 := by decide
theorem i1 : (1 : Int32) = nI 1 := by decide
theorem i0 : (0 : Int32) = nI 0 := by decide
theorem ix10 (k a : Nat) : (10 : Int32) * nI k + nI a = nI (10 * k + a) := by rw [i10, pk_mul, nI_add]
theorem fin5_val {k : Nat} (h : k < 5) : (fin5 k).1 = k := by
  unfold fin5
  rw [dif_pos h]
theorem fin10_val {k : Nat} (h : k < 10) : (fin10 k).1 = k := by
  unfold fin10
  rw [dif_pos h]
/-! nets: both sides -/
theorem in_yes {x lo hi : Int32} (h1 : ¬ x < lo) (h2 : ¬ hi < x) : s_X6_in x lo hi = some 1 := by
  unfold s_X6_in
  rw [if_neg h1, if_neg h2]
theorem in_lo {x lo hi : Int32} (h1 : x < lo) : s_X6_in x lo hi = some 0 := by
  unfold s_X6_in
  rw [if_pos h1]
theorem in_hi {x lo hi : Int32} (h2 : hi < x) : s_X6_in x lo hi = some 0 := by
  unfold s_X6_in
  by_cases h1 : x < lo
  · rw [if_pos h1]
  · rw [if_neg h1, if_pos h2]
theorem isNet_yes {k : Nat} (hk : k < 4) : s_X6_isNet (nI k) = some 1 := by
  unfold s_X6_isNet
  rw [in_yes (nI_pos (by omega)) (by rw [show (3 : Int32) = nI 3 by decide]; exact nI_nlt (by omega) (by omega))]
  rfl
theorem isNet_no {a : Int32} (h : a < 0 ∨ nI 4 ≤ a) : s_X6_isNet a = some 0 := by
  unfold s_X6_isNet
  rcases h with h | h
  · rw [in_lo h]; rfl
  · rw [in_hi (by rw [Int32.lt_iff_toInt_lt]; rw [Int32.le_iff_toInt_le] at h; have e : (nI 4).toInt = 4 := by decide
                  have e2 : (3 : Int32).toInt = 3 := by decide
                  omega)]
    rfl
theorem netAt_yes {k : Nat} (hk : k < 4) : s_X5_netAt (nI k) = some (some (fin5 k)) := by
  unfold s_X5_netAt
  rw [if_neg (nI_pos (by omega)), if_neg (by rw [show (4 : Int32) = nI 4 by decide]; exact nI_ge (by omega) (by omega)), chk_in (vp_in_nI hk (by omega)), nI_clamp (by omega)]
theorem netAt_no {a : Int32} (h : a < 0 ∨ nI 4 ≤ a) : s_X5_netAt a = some none := by
  unfold s_X5_netAt
  rcases h with h | h
  · rw [if_pos h]
  · by_cases h0 : a < 0
    · rw [if_pos h0]
    · rw [if_neg h0, if_pos (by rw [show (4 : Int32) = nI 4 by decide]; exact h)]
/-- a net: how many knots, the neighbours of each as bits -/
def Gr (n : Nat) (r : Nat → Nat) : Prop := 1 ≤ n ∧ n ≤ 10 ∧ (∀ a, a < n → r a < 2 ^ n) ∧ (∀ a, n ≤ a → r a = 0) ∧ (∀ a b, (r a).testBit b = (r b).testBit a) ∧ ∀ a, (r a).testBit a = false
/-- the four nets on both sides -/
def Inv (kn ne cK : Nat → Int32) (cF : Nat → Nat → Int32) : Prop := ∃ (N : Nat → Nat) (r : Nat → Nat → Nat), ∀ k, k < 4 → Gr (N k) (r k) ∧ kn k = nI (N k) ∧ cK k = nI (N k) ∧ ∀ a, a < 10 → ne (10 * k + a) = nI (r k a) ∧ cF k a = nI (r k a)
def Sim (wc wm : List AC) : Prop := ∃ (cK : Nat → Int32) (cF : Nat → Nat → Int32) (ga gi gs oK : Int32) (cT : Nat → Nat → Int32) (ra rb : Fin 2) (cR : Nat → Nat → Nat → Int64) (cP cM : Nat → Int64) (ea eb : Fin 2) (cW : Nat → Nat → Int64) (aO aC aQ : Nat → Int32)
  (kn ne fi se : Nat → Int32) (ma : Int32) (on ot : Nat → Int32) (ta po ti nu mo wa nx : Nat → Int64) (oT cF' : Nat → Int32) (bg ed : Int32) (sF qu : Nat → Int32) (qd : Int32) (tr : Nat → Int32),
  wc = wC cK cF ga gi gs oK cT ra rb cR cP cM ea eb cW aO aC aQ ∧ wm = wM kn ne fi se ma on ot ta po ti nu mo wa nx oT cF' bg ed sF qu qd tr ∧ Inv kn ne cK cF ∧ ra ≠ rb ∧ ea ≠ eb
theorem Gr_lt {n : Nat} {r : Nat → Nat} (h : Gr n r) (a : Nat) : r a < 1024 := by
  obtain ⟨h1, h2, h3, h4, -⟩ := h
  rcases Nat.lt_or_ge a n with q | q
  · have := h3 a q
    have h5 : 2 ^ n ≤ 2 ^ 10 := Nat.pow_le_pow_right (by omega) h2
    omega
  · rw [h4 a q]; omega
theorem sim_ok : SOK Sim := by
  rintro wc wm ⟨cK, cF, ga, gi, gs, oK, cT, ra, rb, cR, cP, cM, ea, eb, cW, aO, aC, aQ, kn, ne, fi, se, ma, on, ot, ta, po, ti, nu, mo, wa, nx, oT, cF', bg, ed, sF, qu, qd, tr, rfl, rfl, -⟩
  exact ⟨rfl, ⟨_, rfl⟩, ⟨_, rfl⟩⟩
theorem kn0_at : ∀ k, k < 4 → kn0 k = 1 := by
  intro k hk
  match k, hk with
  | 0, _ => rfl
  | 1, _ => rfl
  | 2, _ => rfl
  | 3, _ => rfl
theorem Gr_one : Gr 1 (fun _ => 0) := ⟨Nat.le_refl 1, by decide, fun _ _ => Nat.two_pow_pos 1, fun _ _ => rfl, fun _ _ => by rw [Nat.zero_testBit, Nat.zero_testBit], fun _ => Nat.zero_testBit _⟩
theorem sim_0 : Sim wc0 wm0 := by
  refine ⟨_, _, _, _, _, _, _, _, _, _, _, _, _, _, _, _, _, _, _, _, _, _, _, _, _, _, _, _, _, _, _, _, _, _, _, _, _, _, _, _, rfl, rfl, ?_, by decide, by decide⟩
  refine ⟨fun _ => 1, fun _ _ => 0, fun k hk => ⟨Gr_one, kn0_at k hk, rfl, fun a _ => ⟨rfl, rfl⟩⟩⟩
