/-! a loop as a function: the body says where it goes on, or with what it ends -/
def lrun {α β : Type} (f : α → Option (α ⊕ β)) : Nat → α → Option β
  | 0, _ => none
  | n + 1, x => match f x with
    | none => none
    | some (.inl y) => lrun f n y
    | some (.inr r) => some r
theorem lrun_more {α β : Type} {f : α → Option (α ⊕ β)} : ∀ (n k : Nat) (x : α) (r : β), lrun f n x = some r → lrun f (n + k) x = some r
  | 0, _, _, _, h => by cases h
  | n + 1, k, x, r, h => by
    rw [show n + 1 + k = (n + k) + 1 by omega]
    rw [lrun] at h ⊢
    cases hf : f x with
    | none => rw [hf] at h; cases h
    | some y =>
      rw [hf] at h
      cases y with
      | inl y => exact lrun_more n k y r h
      | inr y => exact h
theorem lrun_one {α β : Type} {f : α → Option (α ⊕ β)} {n m : Nat} {x : α} {r s : β} (h : lrun f n x = some r) (h2 : lrun f m x = some s) : r = s := by
  have a := lrun_more n m x r h
  have b := lrun_more m n x s h2
  rw [Nat.add_comm] at b
  exact Option.some.inj (a.symm.trans b)
noncomputable def loop {α β : Type} (f : α → Option (α ⊕ β)) (x : α) : Option β := @dite _ (∃ r n, lrun f n x = some r) (Classical.propDecidable _) (fun h => some h.choose) (fun _ => none)
theorem loop_iff {α β : Type} {f : α → Option (α ⊕ β)} {x : α} {r : β} : loop f x = some r ↔ ∃ n, lrun f n x = some r := by
  unfold loop
  by_cases h : ∃ r n, lrun f n x = some r
  · rw [dif_pos h]
    constructor
    · intro e
      have e := Option.some.inj e
      subst e
      exact h.choose_spec
    · rintro ⟨n, hn⟩
      obtain ⟨m, hm⟩ := h.choose_spec
      rw [lrun_one hm hn]
  · rw [dif_neg h]
    constructor
    · intro e; cases e
    · rintro ⟨n, hn⟩
      exact absurd ⟨r, n, hn⟩ h
theorem loop_inl {α β : Type} {f : α → Option (α ⊕ β)} {x y : α} (h : f x = some (.inl y)) : loop f x = loop f y := by
  have key : ∀ r, loop f x = some r ↔ loop f y = some r := by
    intro r
    rw [loop_iff, loop_iff]
    constructor
    · rintro ⟨n, hn⟩
      cases n with
      | zero => cases hn
      | succ n =>
        rw [lrun, h] at hn
        exact ⟨n, hn⟩
    · rintro ⟨n, hn⟩
      exact ⟨n + 1, by rw [lrun, h]; exact hn⟩
  cases hx : loop f x with
  | some r => exact ((key r).mp hx).symm
  | none =>
    cases hy : loop f y with
    | none => rfl
    | some r => rw [(key r).mpr hy] at hx; cases hx
theorem loop_inr {α β : Type} {f : α → Option (α ⊕ β)} {x : α} {r : β} (h : f x = some (.inr r)) : loop f x = some r := loop_iff.mpr ⟨1, by rw [lrun, h]⟩
/-- what holds of the machine at a loop's head, out of what holds behind one turn -/
theorem loop_go {α β : Type} {f : α → Option (α ⊕ β)} {P : α → Prop} {K : β → Prop} (h : ∀ (x : α) (y : α ⊕ β), f x = some y → (∀ x', y = .inl x' → P x') → (∀ r, y = .inr r → K r) → P x) (x : α) (r : β) (hl : loop f x = some r) (hk : K r) : P x := by
  obtain ⟨n, hn⟩ := loop_iff.mp hl
  clear hl
  induction n generalizing x with
  | zero => cases hn
  | succ n ih =>
    rw [lrun] at hn
    cases hf : f x with
    | none => rw [hf] at hn; cases hn
    | some y =>
      rw [hf] at hn
      cases y with
      | inl y => exact h x _ hf (fun x' e => by cases e; exact ih y hn) (fun r' e => by cases e)
      | inr y =>
        have e : y = r := Option.some.inj hn
        subst e
        exact h x _ hf (fun x' e => by cases e) (fun r' e => by cases e; exact hk)
/-- a loop with a measure that falls comes to its end -/
theorem loop_spec {α β : Type} {f : α → Option (α ⊕ β)} (I : α → Prop) (μ : α → Nat) (P : β → Prop) (h : ∀ x, I x → (∃ y, f x = some (.inl y) ∧ I y ∧ μ y < μ x) ∨ (∃ r, f x = some (.inr r) ∧ P r)) : ∀ x, I x → ∃ r, loop f x = some r ∧ P r := by
  intro x
  induction hn : μ x using Nat.strongRecOn generalizing x with
  | ind n ih =>
    intro hx
    rcases h x hx with ⟨y, h1, h2, h3⟩ | ⟨r, h1, h2⟩
    · obtain ⟨r, a, b⟩ := ih (μ y) (by omega) y rfl h2
      exact ⟨r, by rw [loop_inl h1]; exact a, b⟩
    · exact ⟨r, loop_inr h1, h2⟩
/-- a counted loop: the state at the turn i is g i -/
theorem loop_for {α β : Type} {f : α → Option (α ⊕ β)} (g : Nat → α) (n : Nat) {r : β} (h1 : ∀ i, i < n → f (g i) = some (.inl (g (i + 1)))) (h2 : f (g n) = some (.inr r)) : ∀ i, i ≤ n → loop f (g i) = some r := by
  intro i hi
  induction hk : n - i generalizing i with
  | zero =>
    have : i = n := by omega
    subst this
    exact loop_inr h2
  | succ k ih =>
    rw [loop_inl (h1 i (by omega))]
    exact ih (i + 1) (by omega) (by omega)
/-- pieces of a method as a function -/
def chk {α : Type} (i : Int32) (n : Nat) (k : Option α) : Option α := if i < 0 ∨ n ≤ i.toNatClampNeg then none else k
theorem chk_t {α : Type} {i : Int32} {n : Nat} {k : Option α} {r : α} (e : chk i n k = some r) : vp_in i n ∧ k = some r := by
  unfold chk at e
  by_cases h : i < 0 ∨ n ≤ i.toNatClampNeg
  · rw [if_pos h] at e; cases e
  · rw [if_neg h] at e; exact ⟨h, e⟩
theorem chk_in {α : Type} {i : Int32} {n : Nat} {k : Option α} (h : vp_in i n) : chk i n k = k := if_neg h
def nez {α : Type} (y : Int32) (k : Option α) : Option α := if y = 0 then none else k
theorem nez_t {α : Type} {y : Int32} {k : Option α} {r : α} (e : nez y k = some r) : (¬ y = 0) ∧ k = some r := by
  unfold nez at e
  by_cases h : y = 0
  · rw [if_pos h] at e; cases e
  · rw [if_neg h] at e; exact ⟨h, e⟩
theorem nez_in {α : Type} {y : Int32} {k : Option α} (h : ¬ y = 0) : nez y k = k := if_neg h
def nezL {α : Type} (y : Int64) (k : Option α) : Option α := if y = 0 then none else k
theorem nezL_t {α : Type} {y : Int64} {k : Option α} {r : α} (e : nezL y k = some r) : (¬ y = 0) ∧ k = some r := by
  unfold nezL at e
  by_cases h : y = 0
  · rw [if_pos h] at e; cases e
  · rw [if_neg h] at e; exact ⟨h, e⟩
theorem nezL_in {α : Type} {y : Int64} {k : Option α} (h : ¬ y = 0) : nezL y k = k := if_neg h
def bck {α : Type} (y : Int32) (k : Option α) : Option α := if y = 0 ∨ y = 1 then k else none
theorem bck_t {α : Type} {y : Int32} {k : Option α} {r : α} (e : bck y k = some r) : narrow .boolean (.int y) = .int y ∧ k = some r := by
  unfold bck at e
  by_cases h : y = 0 ∨ y = 1
  · rw [if_pos h] at e
    rcases h with rfl | rfl <;> exact ⟨rfl, e⟩
  · rw [if_neg h] at e; cases e
theorem it_t {α : Type} {c : Prop} [Decidable c] {a b r : α} (h : c) (e : (if c then a else b) = r) : a = r := by rw [if_pos h] at e; exact e
theorem it_f {α : Type} {c : Prop} [Decidable c] {a b r : α} (h : ¬ c) (e : (if c then a else b) = r) : b = r := by rw [if_neg h] at e; exact e
theorem bnd {α β : Type} {o : Option α} {f : α → Option β} {r : β} (e : o.bind f = some r) : ∃ x, o = some x ∧ f x = some r := Option.bind_eq_some_iff.mp e
def lt' {α β : Type} (a : α) (f : α → β) : β := f a
theorem lt_t {α β : Type} {a z : α} {f : α → β} {r : β} (h : z = a) (e : lt' a f = r) : f z = r := by rw [h]; exact e
theorem go_topi {M : Mth} {d : Nat} {al : Bool} {bc bs pc : Nat} {lv : List (Option AV)} {st : List AV} {w : List AC} {Q : Option AV → List AC → Prop} {x : Int32} (k : ∀ z, z = x → Go M d al bc bs pc lv (vI z :: st) w Q) : Go M d al bc bs pc lv (vI x :: st) w Q := k x rfl
theorem go_topl {M : Mth} {d : Nat} {al : Bool} {bc bs pc : Nat} {lv : List (Option AV)} {st : List AV} {w : List AC} {Q : Option AV → List AC → Prop} {x : Int64} (k : ∀ z, z = x → Go M d al bc bs pc lv (vL z :: st) w Q) : Go M d al bc bs pc lv (vL x :: st) w Q := k x rfl
