theorem s_evenDegree {cK : Nat → Int32} {cF : Nat → Nat → Int32} {p : Fin 5} {n : Nat} {r : Nat → Nat} (hn : cK p.1 = nI n) (hg : Gr n r) (h3 : ∀ a, a < 10 → cF p.1 a = nI (r a)) : s_X2_evenDegree cK cF p = some (evenA r n) := by
  have h10 := hg.2.1
  have hone := hg.1
  have hp : ∀ j, popA (r j) 10 < 2 ^ 31 := fun j => by have := popA_le (r j) 10; omega
  have hd0 := s_degree (p := p) (a := 0) (r := r) (by omega) (Gr_lt hg 0) (h3 0 (by omega))
  obtain ⟨e, he, hP⟩ := loop_spec (f := b_X2_evenDegree_2 cK cF p) (fun x => ∃ i, 1 ≤ i ∧ i ≤ n ∧ x = nI i ∧ ∀ j, j < i → popA (r j) 10 = popA (r 0) 10) (fun x => n - x.toNatClampNeg) (fun e => (e = .inl () ∧ ¬ ∀ j, j < n → popA (r j) 10 = popA (r 0) 10) ∨ (e = .inr () ∧ ∀ j, j < n → popA (r j) 10 = popA (r 0) 10)) (by
    rintro x ⟨i, hi1, hi2, rfl, hall⟩
    unfold b_X2_evenDegree_2
    by_cases hin : n ≤ i
    · have e : i = n := by omega
      subst e
      refine Or.inr ⟨_, ?_, Or.inr ⟨rfl, hall⟩⟩
      rw [hn, if_pos (nI_le (Nat.le_refl _) (by omega))]
    · rw [hn, if_neg (nI_ge (by omega) (by omega)), s_degree (by omega) (Gr_lt hg i) (h3 i (by omega)), show (0 : Int32) = nI 0 from rfl, hd0]
      simp only [Option.bind_some]
      by_cases hq : popA (r i) 10 = popA (r 0) 10
      · refine Or.inl ⟨nI (i + 1), ?_, ⟨i + 1, by omega, by omega, rfl, fun j hj => ?_⟩, ?_⟩
        · rw [if_pos (by rw [hq]), nI_1]
        · rcases Nat.lt_or_ge j i with q | q
          · exact hall j q
          · rw [show j = i by omega]; exact hq
        · show n - (nI (i + 1)).toNatClampNeg < n - (nI i).toNatClampNeg
          rw [nI_clamp (by omega), nI_clamp (by omega)]
          omega
      · refine Or.inr ⟨_, ?_, Or.inl ⟨rfl, fun z => hq (z i (by omega))⟩⟩
        rw [if_neg (fun z => hq ((nI_eq (hp _) (hp _)).mp z))]) (1 : Int32) ⟨1, Nat.le_refl 1, hone, rfl, fun j hj => by rw [show j = 0 by omega]⟩
  unfold s_X2_evenDegree
  rw [he]
  simp only [Option.bind_some]
  rcases hP with ⟨rfl, h⟩ | ⟨rfl, h⟩
  · simp only [Sum.elim_inl]
    unfold evenA
    rw [if_neg h]
  · simp only [Sum.elim_inr]
    rw [show (0 : Int32) = nI 0 from rfl, hd0]
    unfold evenA
    rw [if_pos h]
    rfl
