section
def pN (i : Nat) : Nat := match i with
  | 0 => 48
  | 1 => 50
  | 2 => 52
  | 3 => 54
  | _ => 2
def pO (o : Nat) : Nat := match o with
  | 0 => 17
  | _ => 28
def fin5 (n : Nat) : Fin 5 := if h : n < 5 then ⟨n, h⟩ else 4
def fin10 (n : Nat) : Fin 10 := if h : n < 10 then ⟨n, h⟩ else 9
def wC (cK : (Nat → Int32)) (cF : (Nat → Nat → Int32)) (ga : Int32) (gi : Int32) (gs : Int32) (oK : Int32) (cT : (Nat → Nat → Int32)) (ra : (Fin 2)) (rb : (Fin 2)) (cR : (Nat → Nat → Nat → Int64)) (cP : (Nat → Int64)) (cM : (Nat → Int64)) (ea : (Fin 2)) (eb : (Fin 2)) (cW : (Nat → Nat → Int64)) (aO : (Nat → Int32)) (aC : (Nat → Int32)) (aQ : (Nat → Int32)) : List AC := [cO 5 [vR 1, vR 2, vR 4, vR 5, vR 41, vR 44], cA 2 4 (fun i => some (pN (fin5 i).1)), cO 2 [vI (cK 4), vR 3], cI 10 (cF 4), cO 1 [vI ga, vI gi, vI gs], cO 3 [vI oK, vR 6, vR (pO ra.1), vR (pO rb.1), vR 39, vR 40], cA 3 10 (fun i => some (7 + (fin10 i).1)), cI 10 (cT 0), cI 10 (cT 1), cI 10 (cT 2), cI 10 (cT 3), cI 10 (cT 4), cI 10 (cT 5), cI 10 (cT 6), cI 10 (cT 7), cI 10 (cT 8), cI 10 (cT 9), cA 4 10 (fun i => some (pO 0 + 1 + (fin10 i).1)), cJ 10 (cR 0 0), cJ 10 (cR 0 1), cJ 10 (cR 0 2), cJ 10 (cR 0 3), cJ 10 (cR 0 4), cJ 10 (cR 0 5), cJ 10 (cR 0 6), cJ 10 (cR 0 7), cJ 10 (cR 0 8), cJ 10 (cR 0 9), cA 4 10 (fun i => some (pO 1 + 1 + (fin10 i).1)), cJ 10 (cR 1 0), cJ 10 (cR 1 1), cJ 10 (cR 1 2), cJ 10 (cR 1 3), cJ 10 (cR 1 4), cJ 10 (cR 1 5), cJ 10 (cR 1 6), cJ 10 (cR 1 7), cJ 10 (cR 1 8), cJ 10 (cR 1 9), cJ 11 cP, cJ 11 cM, cO 4 [vR (42 + ea.1), vR (42 + eb.1)], cJ 10 (cW 0), cJ 10 (cW 1), cO 0 [vR 45, vR 46, vR 47], cI 22 aO, cI 22 aC, cI 22 aQ, cO 2 [vI (cK 0), vR 49], cI 10 (cF 0), cO 2 [vI (cK 1), vR 51], cI 10 (cF 1), cO 2 [vI (cK 2), vR 53], cI 10 (cF 2), cO 2 [vI (cK 3), vR 55], cI 10 (cF 3)]
variable {cK : (Nat → Int32)} {cF : (Nat → Nat → Int32)} {ga : Int32} {gi : Int32} {gs : Int32} {oK : Int32} {cT : (Nat → Nat → Int32)} {ra : (Fin 2)} {rb : (Fin 2)} {cR : (Nat → Nat → Nat → Int64)} {cP : (Nat → Int64)} {cM : (Nat → Int64)} {ea : (Fin 2)} {eb : (Fin 2)} {cW : (Nat → Nat → Int64)} {aO : (Nat → Int32)} {aC : (Nat → Int32)} {aQ : (Nat → Int32)}
theorem wC_net (i : Fin 5) : (wC cK cF ga gi gs oK cT ra rb cR cP cM ea eb cW aO aC aQ)[pN i.1]? = some (cO 2 [vI (cK i.1), vR (pN i.1 + 1)]) :=
  match i with
  | ⟨0, _⟩ => rfl
  | ⟨1, _⟩ => rfl
  | ⟨2, _⟩ => rfl
  | ⟨3, _⟩ => rfl
  | ⟨4, _⟩ => rfl
theorem wC_bes (i : Fin 5) : (wC cK cF ga gi gs oK cT ra rb cR cP cM ea eb cW aO aC aQ)[pN i.1 + 1]? = some (cI 10 (cF i.1)) :=
  match i with
  | ⟨0, _⟩ => rfl
  | ⟨1, _⟩ => rfl
  | ⟨2, _⟩ => rfl
  | ⟨3, _⟩ => rfl
  | ⟨4, _⟩ => rfl
theorem wC_trow (i : Fin 10) : (wC cK cF ga gi gs oK cT ra rb cR cP cM ea eb cW aO aC aQ)[7 + i.1]? = some (cI 10 (cT i.1)) :=
  match i with
  | ⟨0, _⟩ => rfl
  | ⟨1, _⟩ => rfl
  | ⟨2, _⟩ => rfl
  | ⟨3, _⟩ => rfl
  | ⟨4, _⟩ => rfl
  | ⟨5, _⟩ => rfl
  | ⟨6, _⟩ => rfl
  | ⟨7, _⟩ => rfl
  | ⟨8, _⟩ => rfl
  | ⟨9, _⟩ => rfl
theorem wC_rows (o : Fin 2) : (wC cK cF ga gi gs oK cT ra rb cR cP cM ea eb cW aO aC aQ)[pO o.1]? = some (cA 4 10 (fun i => some (pO o.1 + 1 + (fin10 i).1))) :=
  match o with
  | ⟨0, _⟩ => rfl
  | ⟨1, _⟩ => rfl
theorem wC_row (o : Fin 2) (i : Fin 10) : (wC cK cF ga gi gs oK cT ra rb cR cP cM ea eb cW aO aC aQ)[pO o.1 + 1 + i.1]? = some (cJ 10 (cR o.1 i.1)) :=
  match o, i with
  | ⟨0, _⟩, ⟨0, _⟩ => rfl
  | ⟨0, _⟩, ⟨1, _⟩ => rfl
  | ⟨0, _⟩, ⟨2, _⟩ => rfl
  | ⟨0, _⟩, ⟨3, _⟩ => rfl
  | ⟨0, _⟩, ⟨4, _⟩ => rfl
  | ⟨0, _⟩, ⟨5, _⟩ => rfl
  | ⟨0, _⟩, ⟨6, _⟩ => rfl
  | ⟨0, _⟩, ⟨7, _⟩ => rfl
  | ⟨0, _⟩, ⟨8, _⟩ => rfl
  | ⟨0, _⟩, ⟨9, _⟩ => rfl
  | ⟨1, _⟩, ⟨0, _⟩ => rfl
  | ⟨1, _⟩, ⟨1, _⟩ => rfl
  | ⟨1, _⟩, ⟨2, _⟩ => rfl
  | ⟨1, _⟩, ⟨3, _⟩ => rfl
  | ⟨1, _⟩, ⟨4, _⟩ => rfl
  | ⟨1, _⟩, ⟨5, _⟩ => rfl
  | ⟨1, _⟩, ⟨6, _⟩ => rfl
  | ⟨1, _⟩, ⟨7, _⟩ => rfl
  | ⟨1, _⟩, ⟨8, _⟩ => rfl
  | ⟨1, _⟩, ⟨9, _⟩ => rfl
theorem wC_wk (e : Fin 2) : (wC cK cF ga gi gs oK cT ra rb cR cP cM ea eb cW aO aC aQ)[42 + e.1]? = some (cJ 10 (cW e.1)) :=
  match e with
  | ⟨0, _⟩ => rfl
  | ⟨1, _⟩ => rfl
theorem wC_snet (i : Fin 5) {n : Int32} : (wC cK cF ga gi gs oK cT ra rb cR cP cM ea eb cW aO aC aQ).set (pN i.1) (cO 2 [vI n, vR (pN i.1 + 1)]) = (wC (va_up cK i.1 n) cF ga gi gs oK cT ra rb cR cP cM ea eb cW aO aC aQ) :=
  match i with
  | ⟨0, _⟩ => rfl
  | ⟨1, _⟩ => rfl
  | ⟨2, _⟩ => rfl
  | ⟨3, _⟩ => rfl
  | ⟨4, _⟩ => rfl
theorem wC_sbes (i : Fin 5) {f : Nat → Int32} : (wC cK cF ga gi gs oK cT ra rb cR cP cM ea eb cW aO aC aQ).set (pN i.1 + 1) (cI 10 f) = (wC cK (va_up cF i.1 f) ga gi gs oK cT ra rb cR cP cM ea eb cW aO aC aQ) :=
  match i with
  | ⟨0, _⟩ => rfl
  | ⟨1, _⟩ => rfl
  | ⟨2, _⟩ => rfl
  | ⟨3, _⟩ => rfl
  | ⟨4, _⟩ => rfl
theorem wC_strow (i : Fin 10) {f : Nat → Int32} : (wC cK cF ga gi gs oK cT ra rb cR cP cM ea eb cW aO aC aQ).set (7 + i.1) (cI 10 f) = (wC cK cF ga gi gs oK (va_up cT i.1 f) ra rb cR cP cM ea eb cW aO aC aQ) :=
  match i with
  | ⟨0, _⟩ => rfl
  | ⟨1, _⟩ => rfl
  | ⟨2, _⟩ => rfl
  | ⟨3, _⟩ => rfl
  | ⟨4, _⟩ => rfl
  | ⟨5, _⟩ => rfl
  | ⟨6, _⟩ => rfl
  | ⟨7, _⟩ => rfl
  | ⟨8, _⟩ => rfl
  | ⟨9, _⟩ => rfl
theorem wC_srow (o : Fin 2) (i : Fin 10) {f : Nat → Int64} : (wC cK cF ga gi gs oK cT ra rb cR cP cM ea eb cW aO aC aQ).set (pO o.1 + 1 + i.1) (cJ 10 f) = (wC cK cF ga gi gs oK cT ra rb (va_up cR o.1 (va_up (cR o.1) i.1 f)) cP cM ea eb cW aO aC aQ) :=
  match o, i with
  | ⟨0, _⟩, ⟨0, _⟩ => rfl
  | ⟨0, _⟩, ⟨1, _⟩ => rfl
  | ⟨0, _⟩, ⟨2, _⟩ => rfl
  | ⟨0, _⟩, ⟨3, _⟩ => rfl
  | ⟨0, _⟩, ⟨4, _⟩ => rfl
  | ⟨0, _⟩, ⟨5, _⟩ => rfl
  | ⟨0, _⟩, ⟨6, _⟩ => rfl
  | ⟨0, _⟩, ⟨7, _⟩ => rfl
  | ⟨0, _⟩, ⟨8, _⟩ => rfl
  | ⟨0, _⟩, ⟨9, _⟩ => rfl
  | ⟨1, _⟩, ⟨0, _⟩ => rfl
  | ⟨1, _⟩, ⟨1, _⟩ => rfl
  | ⟨1, _⟩, ⟨2, _⟩ => rfl
  | ⟨1, _⟩, ⟨3, _⟩ => rfl
  | ⟨1, _⟩, ⟨4, _⟩ => rfl
  | ⟨1, _⟩, ⟨5, _⟩ => rfl
  | ⟨1, _⟩, ⟨6, _⟩ => rfl
  | ⟨1, _⟩, ⟨7, _⟩ => rfl
  | ⟨1, _⟩, ⟨8, _⟩ => rfl
  | ⟨1, _⟩, ⟨9, _⟩ => rfl
theorem wC_swk (e : Fin 2) {f : Nat → Int64} : (wC cK cF ga gi gs oK cT ra rb cR cP cM ea eb cW aO aC aQ).set (42 + e.1) (cJ 10 f) = (wC cK cF ga gi gs oK cT ra rb cR cP cM ea eb (va_up cW e.1 f) aO aC aQ) :=
  match e with
  | ⟨0, _⟩ => rfl
  | ⟨1, _⟩ => rfl
def fillI (n : Nat) (f : Nat → Int32) (v : Int32) : Nat → Int32 := fun j => if j < n then v else f j
def fillJ (n : Nat) (f : Nat → Int64) (v : Int64) : Nat → Int64 := fun j => if j < n then v else f j
def cpk {α : Type} (sp dp n : Int32) (n0 n1 : Nat) (k : Option α) : Option α := if sp < 0 ∨ dp < 0 ∨ n < 0 ∨ n0 < sp.toNatClampNeg + n.toNatClampNeg ∨ n1 < dp.toNatClampNeg + n.toNatClampNeg then none else k
theorem cpk_t {α : Type} {sp dp n : Int32} {n0 n1 : Nat} {k : Option α} {r : α} (e : cpk sp dp n n0 n1 k = some r) : (¬ sp < 0 ∧ ¬ dp < 0 ∧ ¬ n < 0 ∧ sp.toNatClampNeg + n.toNatClampNeg ≤ n0 ∧ dp.toNatClampNeg + n.toNatClampNeg ≤ n1) ∧ k = some r := by
  unfold cpk at e
  by_cases h : sp < 0 ∨ dp < 0 ∨ n < 0 ∨ n0 < sp.toNatClampNeg + n.toNatClampNeg ∨ n1 < dp.toNatClampNeg + n.toNatClampNeg
  · rw [if_pos h] at e; cases e
  · rw [if_neg h] at e
    refine ⟨⟨fun q => h (Or.inl q), fun q => h (Or.inr (Or.inl q)), fun q => h (Or.inr (Or.inr (Or.inl q))), ?_, ?_⟩, e⟩
    · exact Nat.le_of_not_lt fun q => h (Or.inr (Or.inr (Or.inr (Or.inl q))))
    · exact Nat.le_of_not_lt fun q => h (Or.inr (Or.inr (Or.inr (Or.inr q))))
theorem i32_of_toInt {x : Int32} {k : Int32} (h : x.toInt = k.toInt) : x = k := Int32.toInt_inj.mp h
theorem sw4 {x : Int32} (h0 : ¬ x = 0) (h1 : ¬ x = 1) (h2 : ¬ x = 2) (h3 : ¬ x = 3) : x.toInt < 0 ∨ 3 < x.toInt := by
  have a0 : x.toInt ≠ 0 := fun q => h0 (i32_of_toInt (k := 0) q)
  have a1 : x.toInt ≠ 1 := fun q => h1 (i32_of_toInt (k := 1) q)
  have a2 : x.toInt ≠ 2 := fun q => h2 (i32_of_toInt (k := 2) q)
  have a3 : x.toInt ≠ 3 := fun q => h3 (i32_of_toInt (k := 3) q)
  omega
theorem lk2 {x : Int32} (h0 : ¬ x = 0) (h1 : ¬ x = 1) : Op.lookupswitch.offset (#[((0 : Int), (26 : Int)), (1, 34)]).toList 42 x.toInt = 42 := by
  have a0 : x.toInt ≠ 0 := fun q => h0 (i32_of_toInt (k := 0) q)
  have a1 : x.toInt ≠ 1 := fun q => h1 (i32_of_toInt (k := 1) q)
  simp [Op.lookupswitch.offset, a0, a1, Ne.symm a0, Ne.symm a1]

theorem fillI_step {n i : Nat} {f : Nat → Int32} {v : Int32} : upd (fillI i f v) i v = fillI (i + 1) f v := by
  funext j
  unfold upd fillI
  by_cases h : j = i
  · rw [if_pos h, if_pos (by omega)]
  · rw [if_neg h]
    by_cases h2 : j < i
    · rw [if_pos h2, if_pos (by omega)]
    · rw [if_neg h2, if_neg (by omega)]
theorem fillJ_step {n i : Nat} {f : Nat → Int64} {v : Int64} : vp_updL (fillJ i f v) i v = fillJ (i + 1) f v := by
  funext j
  unfold vp_updL fillJ
  by_cases h : j = i
  · rw [if_pos h, if_pos (by omega)]
  · rw [if_neg h]
    by_cases h2 : j < i
    · rw [if_pos h2, if_pos (by omega)]
    · rw [if_neg h2, if_neg (by omega)]
theorem fillI_0 {f : Nat → Int32} {v : Int32} : fillI 0 f v = f := by
  funext j
  unfold fillI
  rw [if_neg (by omega)]
theorem fillJ_0 {f : Nat → Int64} {v : Int64} : fillJ 0 f v = f := by
  funext j
  unfold fillJ
  rw [if_neg (by omega)]
theorem set_self {w : List AC} {a : Nat} {c : AC} (h : w[a]? = some c) : w.set a c = w := by
  apply List.ext_getElem?
  intro i
  rw [List.getElem?_set]
  by_cases e : a = i
  · subst e
    rw [if_pos rfl, h, if_pos (List.getElem?_eq_some_iff.mp h).1]
  · rw [if_neg e]
theorem set_at {w : List AC} {a : Nat} {c c' : AC} (h : w[a]? = some c) : (w.set a c')[a]? = some c' := by
  rw [List.getElem?_set_self (List.getElem?_eq_some_iff.mp h).1]
theorem c_fillI {d : Nat} {w : List AC} {a n : Nat} {f : Nat → Int32} {v : Int32} (hw : w[a]? = some (cI n f)) (hn : n < 2 ^ 31) : Calls mJ7_fill_53178 d false 0 0 [vR a, vI v] w (fun r w' => r = none ∧ w' = w.set a (cI n (fillI n f v))) := by
  refine Calls.of kJ7_fill_53178 2 [some (vR a), some (vI v), none, none] rfl (Nat.le_of_ble_eq_true rfl) ?_
  have key : ∀ k i : Nat, i + k = n → Go mJ7_fill_53178 d false 0 0 5 [some (vR a), some (vI v), some (vI (nI i)), some (vI (nI n))] [] (w.set a (cI n (fillI i f v))) (fun r w' => r = none ∧ w' = w.set a (cI n (fillI n f v))) := by
    intro k
    induction k with
    | zero =>
      intro i hi
      have e : i = n := by omega
      subst e
      refine go_iload_n (pc := 5) 2 dJ7_fill_53178_5 rfl rfl ?_
      refine go_iload_n (pc := 6) 3 dJ7_fill_53178_6 rfl rfl ?_
      refine go_icmp_ge (pc := 7) 20 dJ7_fill_53178_7 (by decide) (fun _ => ?_) (fun h9 => ?_)
      · exact go_return (st := []) (pc := 20) dJ7_fill_53178_20 rfl (fun h => by cases h) ⟨rfl, rfl⟩
      · exact absurd (nI_le (Nat.le_refl _) hn) h9
    | succ k ih =>
      intro i hi
      refine go_iload_n (pc := 5) 2 dJ7_fill_53178_5 rfl rfl ?_
      refine go_iload_n (pc := 6) 3 dJ7_fill_53178_6 rfl rfl ?_
      refine go_icmp_ge (pc := 7) 20 dJ7_fill_53178_7 (by decide) (fun h9 => ?_) (fun _ => ?_)
      · exact absurd h9 (nI_ge (by omega) hn)
      · refine go_aload_n (pc := 10) 0 dJ7_fill_53178_10 rfl rfl ?_
        refine go_iload_n (pc := 11) 2 dJ7_fill_53178_11 rfl rfl ?_
        refine go_iload_n (pc := 12) 1 dJ7_fill_53178_12 rfl rfl ?_
        refine go_iastore (pc := 13) a dJ7_fill_53178_13 (set_at hw) (vp_in_nI (by omega) hn) ?_
        rw [nI_clamp (by omega), List.set_set, fillI_step (n := n)]
        refine go_iinc (pc := 14) (nI (i + 1)) [some (vR a), some (vI v), some (vI (nI (i + 1))), some (vI (nI n))] dJ7_fill_53178_14 rfl (by rw [i32_1]; exact nI_1 i) (by decide) rfl ?_
        refine go_goto (pc := 17) 5 dJ7_fill_53178_17 (by decide) ?_
        exact ih (i + 1) (by omega)
  refine go_iconst (pc := 0) (nI 0) dJ7_fill_53178_0 (by decide) ?_
  refine go_istore_n (pc := 1) 2 [some (vR a), some (vI v), some (vI (nI 0)), none] dJ7_fill_53178_1 rfl (by decide) rfl ?_
  refine go_aload_n (pc := 2) 0 dJ7_fill_53178_2 rfl rfl ?_
  refine go_alen (pc := 3) a dJ7_fill_53178_3 (by decide) hw ?_
  refine go_istore_n (pc := 4) 3 [some (vR a), some (vI v), some (vI (nI 0)), some (vI (nI n))] dJ7_fill_53178_4 rfl (by decide) rfl ?_
  have h0 := key n 0 (by omega)
  rw [fillI_0, set_self hw] at h0
  exact h0

theorem c_fillJ {d : Nat} {w : List AC} {a n : Nat} {f : Nat → Int64} {v : Int64} (hw : w[a]? = some (cJ n f)) (hn : n < 2 ^ 31) : Calls mJ7_fill_d0a16 d false 0 0 [vR a, vL v] w (fun r w' => r = none ∧ w' = w.set a (cJ n (fillJ n f v))) := by
  refine Calls.of kJ7_fill_d0a16 2 [some (vR a), some (vL v), none, none, none] rfl (Nat.le_of_ble_eq_true rfl) ?_
  have key : ∀ k i : Nat, i + k = n → Go mJ7_fill_d0a16 d false 0 0 6 [some (vR a), some (vL v), none, some (vI (nI i)), some (vI (nI n))] [] (w.set a (cJ n (fillJ i f v))) (fun r w' => r = none ∧ w' = w.set a (cJ n (fillJ n f v))) := by
    intro k
    induction k with
    | zero =>
      intro i hi
      have e : i = n := by omega
      subst e
      refine go_iload_n (pc := 6) 3 dJ7_fill_d0a16_6 rfl rfl ?_
      refine go_iload (pc := 7) dJ7_fill_d0a16_7 rfl ?_
      refine go_icmp_ge (pc := 9) 22 dJ7_fill_d0a16_9 (by decide) (fun _ => ?_) (fun h9 => ?_)
      · exact go_return (st := []) (pc := 22) dJ7_fill_d0a16_22 rfl (fun h => by cases h) ⟨rfl, rfl⟩
      · exact absurd (nI_le (Nat.le_refl _) hn) h9
    | succ k ih =>
      intro i hi
      refine go_iload_n (pc := 6) 3 dJ7_fill_d0a16_6 rfl rfl ?_
      refine go_iload (pc := 7) dJ7_fill_d0a16_7 rfl ?_
      refine go_icmp_ge (pc := 9) 22 dJ7_fill_d0a16_9 (by decide) (fun h9 => ?_) (fun _ => ?_)
      · exact absurd h9 (nI_ge (by omega) hn)
      · refine go_aload_n (pc := 12) 0 dJ7_fill_d0a16_12 rfl rfl ?_
        refine go_iload_n (pc := 13) 3 dJ7_fill_d0a16_13 rfl rfl ?_
        refine go_lload_n (pc := 14) 1 dJ7_fill_d0a16_14 rfl rfl ?_
        refine go_lastore (pc := 15) a dJ7_fill_d0a16_15 (set_at hw) (vp_in_nI (by omega) hn) ?_
        rw [nI_clamp (by omega), List.set_set, fillJ_step (n := n)]
        refine go_iinc (pc := 16) (nI (i + 1)) [some (vR a), some (vL v), none, some (vI (nI (i + 1))), some (vI (nI n))] dJ7_fill_d0a16_16 rfl (by rw [i32_1]; exact nI_1 i) (by decide) rfl ?_
        refine go_goto (pc := 19) 6 dJ7_fill_d0a16_19 (by decide) ?_
        exact ih (i + 1) (by omega)
  refine go_iconst (pc := 0) (nI 0) dJ7_fill_d0a16_0 (by decide) ?_
  refine go_istore_n (pc := 1) 3 [some (vR a), some (vL v), none, some (vI (nI 0)), none] dJ7_fill_d0a16_1 rfl (by decide) rfl ?_
  refine go_aload_n (pc := 2) 0 dJ7_fill_d0a16_2 rfl rfl ?_
  refine go_alen (pc := 3) a dJ7_fill_d0a16_3 (by decide) hw ?_
  refine go_istore (pc := 4) [some (vR a), some (vL v), none, some (vI (nI 0)), some (vI (nI n))] dJ7_fill_d0a16_4 (by decide) rfl ?_
  have h0 := key n 0 (by omega)
  rw [fillJ_0, set_self hw] at h0
  exact h0

noncomputable def s_J6_bitCount_0f7a4 (a0 : Int32) : Option (Int32) := lt' (a0 - (((a0.toUInt32 >>> ((1 : Int32).toUInt32 &&& Int32.toUInt32 31)).toInt32) &&& (1431655765 : Int32))) (fun z1 => lt' ((z1 &&& (858993459 : Int32)) + (((z1.toUInt32 >>> ((2 : Int32).toUInt32 &&& Int32.toUInt32 31)).toInt32) &&& (858993459 : Int32))) (fun z2 => lt' ((z2 + ((z2.toUInt32 >>> ((4 : Int32).toUInt32 &&& Int32.toUInt32 31)).toInt32)) &&& (252645135 : Int32)) (fun z3 => lt' (z3 + ((z3.toUInt32 >>> ((8 : Int32).toUInt32 &&& Int32.toUInt32 31)).toInt32)) (fun z4 => lt' (z4 + ((z4.toUInt32 >>> ((16 : Int32).toUInt32 &&& Int32.toUInt32 31)).toInt32)) (fun z5 => some (z5 &&& (63 : Int32)))))))
theorem c_J6_bitCount_0f7a4 {d : Nat} {w : List AC} {a0 : Int32} {res0 : Int32} (hs : s_J6_bitCount_0f7a4 a0 = some res0) : Calls mJ6_bitCount_0f7a4 (d + 0) false 0 0 [vI a0] w (fun r w' => r = some (vI res0) ∧ w' = w) := by
  unfold s_J6_bitCount_0f7a4 at hs
  refine Calls.of kJ6_bitCount_0f7a4 0 [some (vI a0)] rfl (Nat.le_of_ble_eq_true rfl) ?_
  refine go_iload_n (pc := 0) 0 dJ6_bitCount_0f7a4_0 rfl rfl ?_
  refine go_iload_n (pc := 1) 0 dJ6_bitCount_0f7a4_1 rfl rfl ?_
  refine go_iconst (pc := 2) (1 : Int32) dJ6_bitCount_0f7a4_2 (by decide) ?_
  refine go_iushr (pc := 3) dJ6_bitCount_0f7a4_3 ?_
  refine go_ldcw (pc := 4) (1431655765 : Int32) dJ6_bitCount_0f7a4_4 kcJ6_265 ?_
  refine go_iand (pc := 7) dJ6_bitCount_0f7a4_7 ?_
  refine go_isub (pc := 8) dJ6_bitCount_0f7a4_8 ?_
  refine go_topi (fun z1 ez1 => ?_)
  have hs := lt_t ez1 hs
  refine go_istore_n (pc := 9) 0 [some (vI z1)] dJ6_bitCount_0f7a4_9 rfl (by decide) rfl ?_
  refine go_iload_n (pc := 10) 0 dJ6_bitCount_0f7a4_10 rfl rfl ?_
  refine go_ldcw (pc := 11) (858993459 : Int32) dJ6_bitCount_0f7a4_11 kcJ6_266 ?_
  refine go_iand (pc := 14) dJ6_bitCount_0f7a4_14 ?_
  refine go_iload_n (pc := 15) 0 dJ6_bitCount_0f7a4_15 rfl rfl ?_
  refine go_iconst (pc := 16) (2 : Int32) dJ6_bitCount_0f7a4_16 (by decide) ?_
  refine go_iushr (pc := 17) dJ6_bitCount_0f7a4_17 ?_
  refine go_ldcw (pc := 18) (858993459 : Int32) dJ6_bitCount_0f7a4_18 kcJ6_266 ?_
  refine go_iand (pc := 21) dJ6_bitCount_0f7a4_21 ?_
  refine go_iadd (pc := 22) dJ6_bitCount_0f7a4_22 ?_
  refine go_topi (fun z2 ez2 => ?_)
  have hs := lt_t ez2 hs
  refine go_istore_n (pc := 23) 0 [some (vI z2)] dJ6_bitCount_0f7a4_23 rfl (by decide) rfl ?_
  refine go_iload_n (pc := 24) 0 dJ6_bitCount_0f7a4_24 rfl rfl ?_
  refine go_iload_n (pc := 25) 0 dJ6_bitCount_0f7a4_25 rfl rfl ?_
  refine go_iconst (pc := 26) (4 : Int32) dJ6_bitCount_0f7a4_26 (by decide) ?_
  refine go_iushr (pc := 27) dJ6_bitCount_0f7a4_27 ?_
  refine go_iadd (pc := 28) dJ6_bitCount_0f7a4_28 ?_
  refine go_ldcw (pc := 29) (252645135 : Int32) dJ6_bitCount_0f7a4_29 kcJ6_267 ?_
  refine go_iand (pc := 32) dJ6_bitCount_0f7a4_32 ?_
  refine go_topi (fun z3 ez3 => ?_)
  have hs := lt_t ez3 hs
  refine go_istore_n (pc := 33) 0 [some (vI z3)] dJ6_bitCount_0f7a4_33 rfl (by decide) rfl ?_
  refine go_iload_n (pc := 34) 0 dJ6_bitCount_0f7a4_34 rfl rfl ?_
  refine go_iload_n (pc := 35) 0 dJ6_bitCount_0f7a4_35 rfl rfl ?_
  refine go_bipush (pc := 36) (8 : Int32) dJ6_bitCount_0f7a4_36 (by decide) ?_
  refine go_iushr (pc := 38) dJ6_bitCount_0f7a4_38 ?_
  refine go_iadd (pc := 39) dJ6_bitCount_0f7a4_39 ?_
  refine go_topi (fun z4 ez4 => ?_)
  have hs := lt_t ez4 hs
  refine go_istore_n (pc := 40) 0 [some (vI z4)] dJ6_bitCount_0f7a4_40 rfl (by decide) rfl ?_
  refine go_iload_n (pc := 41) 0 dJ6_bitCount_0f7a4_41 rfl rfl ?_
  refine go_iload_n (pc := 42) 0 dJ6_bitCount_0f7a4_42 rfl rfl ?_
  refine go_bipush (pc := 43) (16 : Int32) dJ6_bitCount_0f7a4_43 (by decide) ?_
  refine go_iushr (pc := 45) dJ6_bitCount_0f7a4_45 ?_
  refine go_iadd (pc := 46) dJ6_bitCount_0f7a4_46 ?_
  refine go_topi (fun z5 ez5 => ?_)
  have hs := lt_t ez5 hs
  refine go_istore_n (pc := 47) 0 [some (vI z5)] dJ6_bitCount_0f7a4_47 rfl (by decide) rfl ?_
  refine go_iload_n (pc := 48) 0 dJ6_bitCount_0f7a4_48 rfl rfl ?_
  refine go_bipush (pc := 49) (63 : Int32) dJ6_bitCount_0f7a4_49 (by decide) ?_
  refine go_iand (pc := 51) dJ6_bitCount_0f7a4_51 ?_
  cases hs
  exact go_ireturn (st := []) (pc := 52) dJ6_bitCount_0f7a4_52 rfl (vp_nar_int _) (fun h => by cases h) ⟨rfl, rfl⟩
noncomputable def s_J13_signum_95d88 (a0 : Int64) : Option (Int32) := some (((a0 >>> ((63 : Int32).toInt64 &&& 63)) ||| (((-a0).toUInt64 >>> ((63 : Int32).toInt64.toUInt64 &&& Int64.toUInt64 63)).toInt64)).toInt32)
theorem c_J13_signum_95d88 {d : Nat} {w : List AC} {a0 : Int64} {res0 : Int32} (hs : s_J13_signum_95d88 a0 = some res0) : Calls mJ13_signum_95d88 (d + 0) false 0 0 [vL a0] w (fun r w' => r = some (vI res0) ∧ w' = w) := by
  unfold s_J13_signum_95d88 at hs
  refine Calls.of kJ13_signum_95d88 0 [some (vL a0), none] rfl (Nat.le_of_ble_eq_true rfl) ?_
  refine go_lload_n (pc := 0) 0 dJ13_signum_95d88_0 rfl rfl ?_
  refine go_bipush (pc := 1) (63 : Int32) dJ13_signum_95d88_1 (by decide) ?_
  refine go_lshr (pc := 3) dJ13_signum_95d88_3 ?_
  refine go_lload_n (pc := 4) 0 dJ13_signum_95d88_4 rfl rfl ?_
  refine go_lneg (pc := 5) dJ13_signum_95d88_5 ?_
  refine go_bipush (pc := 6) (63 : Int32) dJ13_signum_95d88_6 (by decide) ?_
  refine go_lushr (pc := 8) dJ13_signum_95d88_8 ?_
  refine go_lor (pc := 9) dJ13_signum_95d88_9 ?_
  refine go_l2i (pc := 10) dJ13_signum_95d88_10 ?_
  cases hs
  exact go_ireturn (st := []) (pc := 11) dJ13_signum_95d88_11 rfl (vp_nar_int _) (fun h => by cases h) ⟨rfl, rfl⟩
end
