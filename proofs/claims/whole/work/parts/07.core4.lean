section CORE4
/-- which cells a method may change -/
def CAq (ad : Nat → Nat) (w : List AC) (sz : Nat) : Nat → Prop := fun q => (∃ k, k < w.length ∧ q = ad k) ∨ sz ≤ q
def CP (dC : Nat → ClassId) (dI : Nat → Nat → Nat) (cy : Nat → ClassId) (b : Nat) (ad : Nat → Nat) (sz : Nat) (al : Bool) (av : List AV) (w : List AC) : Array Value → State → Prop :=
  va_Pc (av.map (cv b ad)) (fun U => U.heap.size = sz ∧ va_P (dC, dI) vwCl (wl b cy ad w) U.heap ∧ va_K (dC, dI) vwCl (tysOf cy) U ∧ va_D (fun _ => True) (wl b cy ad w) ∧ (al = true → ∀ j : Nat, ad (w.length + j) = sz + j) ∧ NX U)
def CQ (dC : Nat → ClassId) (dI : Nat → Nat → Nat) (cy : Nat → ClassId) (b : Nat) (ad : Nat → Nat) (sz : Nat) (al : Bool) (w : List AC) (mc : Nat) (Q : Option AV → List AC → Prop) : Array Value → State → Outcome → State → Prop :=
  fun _ st oc t => (∃ (r : Option AV) (w' : List AC), oc = .returned (r.map (cv b ad)) ∧ Q r w' ∧ va_P (dC, dI) vwCl (wl b cy ad w') t.heap ∧ va_D (CAq ad w sz) (wl b cy ad w') ∧ (al = true → w'.length = w.length + mc) ∧ (al = false → w'.length = w.length)) ∧ va_F (CAq ad w sz) st t
abbrev rmOf (d mc ms : Nat) : Room := { frames := d, cells := mc, slots := ms, locals := 36 * d }
/-- M's contract: with d frames more, from the arguments av and the world w it returns, with an answer and a world of Q; mc cells of ms slots are made -/
def Calls (M : Mth) (d : Nat) (al : Bool) (mc ms : Nat) (av : List AV) (w : List AC) (Q : Option AV → List AC → Prop) : Prop :=
  ∀ (l : Launch) (dC : Nat → ClassId) (dI : Nat → Nat → Nat) (cy : Nat → ClassId) (b : Nat) (ad : Nat → Nat) (sz : Nat),
  Met l M.1 (Cond.code M.1 (mB M) (mL M) (mT M) :: tbG) (rmOf d mc ms) (CP dC dI cy b ad sz al av w) (CQ dC dI cy b ad sz al w mc Q) mc ms (CAq ad w sz)
theorem W_sized {p : Program} {l : Launch} {e : Env} {R : Room} {s : State} {m : MethodId} {args : Array Value} {below : List Frame} {meth : Method} {c : Code} {H : Heap} {locs : List Loc} {cells slots : Nat} {Q : State → Prop} {g : JFrame} (h : H.size ≤ s.heap.size + cells → W p l e R s m args below meth c H locs cells slots Q g) : W p l e R s m args below meth c H locs cells slots Q g :=
  fun T hT X => h (by rw [← hT]; exact X.heapSize) T hT X
def lvIn : List AV → List (Option AV)
  | [] => []
  | v :: t => bif isL v then some v :: none :: lvIn t else some v :: lvIn t
theorem lvIn_len (b : Nat) (ad : Nat → Nat) : ∀ av : List AV, (lg_sl (av.map (cv b ad))).length = (lvIn av).length
  | [] => rfl
  | v :: t => by
    have ih := lvIn_len b ad t
    unfold lg_sl at ih ⊢
    rw [List.map_cons, List.flatMap_cons, List.length_append, ih, lvIn, cv_cat]
    cases h : isL v
    · simp only [cond_false, List.length_cons]
      rw [if_neg (by simp)]
      simp; omega
    · simp only [cond_true, List.length_cons]
      simp; omega
theorem lvIn_at (b : Nat) (ad : Nat → Nat) : ∀ (av : List AV) (j i : Nat) (v : AV), (lvIn av)[i]? = some (some v) → (j + i, cv b ad v) ∈ lv_args j (av.map (cv b ad))
  | [], _, _, _, h => by simp [lvIn] at h
  | x :: t, j, i, v, h => by
    rw [List.map_cons, lv_args]
    rw [lvIn] at h
    cases hx : isL x
    · rw [hx] at h
      simp only [cond_false] at h
      rw [cv_cat, hx]
      match i, h with
      | 0, h =>
        have : x = v := by simpa using h
        subst this
        exact List.mem_cons_self
      | i + 1, h =>
        have := lvIn_at b ad t (j + 1) i v (by simpa using h)
        rw [show j + (i + 1) = j + 1 + i by omega]
        exact List.mem_cons_of_mem _ (by simpa using this)
    · rw [hx] at h
      simp only [cond_true] at h
      rw [cv_cat, hx]
      match i, h with
      | 0, h =>
        have : x = v := by simpa using h
        subst this
        exact List.mem_cons_self
      | 1, h => simp at h
      | i + 2, h =>
        have := lvIn_at b ad t (j + 2) i v (by simpa using h)
        rw [show j + (i + 2) = j + 2 + i by omega]
        exact List.mem_cons_of_mem _ (by simpa using this)
/-- what is known of a method by the tables -/
def MK (M : Mth) (n : Nat) : Prop := Cond.code M.1 (mB M) (mL M) (mT M) ∈ tbG ∧ mO M = M.1.cls ∧ plainName M.1.cls = true ∧ mL M ≤ 17 ∧ (M.1.cls ≠ "java/lang/invoke/MethodHandle" ∧ M.1.cls ≠ "java/lang/invoke/VarHandle" ∧ (parseMethodDescriptor M.1.desc).map (fun d => d.parameters.length) = some n) ∧ Cond.initialized M.1.cls ∈ tbG ∧ mS M = none
theorem Calls.of {M : Mth} {n d : Nat} {al : Bool} {mc ms : Nat} {av : List AV} {w : List AC} {Q : Option AV → List AC → Prop} (hM : MK M n) (k : Nat) (lv : List (Option AV)) (hlv : lvIn av ++ List.replicate k none = lv) (hn : lv.length ≤ mL M) (hgo : Go M d al mc ms 0 lv [] w Q) : Calls M d al mc ms av w Q := by
  intro l dC dI cy b ad sz
  refine Met.ofW (cc := mB M) (maxL := mL M) (ret := mT M) hM.2.2.1 rfl ?_
  intro p e s m args below meth c s₁ B hml hv
  obtain ⟨rfl, hsz, hP, hK, hD0, hfr, hnx⟩ := hv
  subst hsz
  have hts0 := atoms_spec (ws := Cond.code M.1 (mB M) (mL M) (mT M) :: tbG) B.pre
  have hown : s.vm.findClass (mO M) = some m.cls := by rw [hM.2.1]; exact findClass_of_methodNamed B.named
  have hlocks := B.notSynchronized
  have hnm := (name_of_methodNamed B.named B.method).1
  have hlen := lvIn_len b ad av
  have hent := lv_entry (av.map (cv b ad)) (n := mL M) (by rw [hlen]; rw [← hlv, List.length_append] at hn; omega)
  rw [lg_entry_eq]
  have hAin : ∀ k, k < w.length → CAq ad w s.heap.size (ad k) := fun k hk => Or.inl ⟨k, hk, rfl⟩
  have hD : va_D (CAq ad w s.heap.size) (wl b cy ad w) := ⟨hD0.1, fun k q hk => by
    obtain ⟨c0, h1, rfl⟩ := wl_at hk
    exact hAin k (List.getElem?_eq_some_iff.mp h1).1⟩
  have hlvh : lvh b ad ((lg_sl (av.map (cv b ad)) ++ List.replicate (mL M - (lg_sl (av.map (cv b ad))).length) Slot.unset).toArray) (mL M) lv := by
    refine ⟨hent.1, hent.2.1, fun i v hi => ?_⟩
    rw [← hlv] at hi
    by_cases h9 : i < (lvIn av).length
    · rw [List.getElem?_append_left h9] at hi
      have := hent.2.2 _ (lvIn_at b ad av 0 i v hi)
      simpa using this
    · rw [List.getElem?_append_right (by omega)] at hi
      have := List.eq_of_mem_replicate (List.mem_of_getElem? hi)
      cases this
  refine hgo p l e _ s m _ below meth c _ dC dI cy b ad (CAq ad w s.heap.size) mc ms w.length ⟨⟨B.exec, B.bytes⟩, ⟨B.returns, hml, hown, fun h => hnm.trans h, hlocks, hnx⟩, fun x hx => hts0 x (List.mem_cons_of_mem _ hx), hK, fun q hq => Or.inr hq, ⟨Nat.le_refl _, Nat.le_refl _, Nat.le_refl _, Nat.le_refl _⟩, (fun L xs hS => by rw [hM.2.2.2.2.2.2] at hS; cases hS), hfr, ?_⟩ s.heap [] 0 0 _ (by omega) (by omega) ⟨hP, hD⟩ va_S.rf ⟨fun _ => ⟨rfl, by omega⟩, fun _ => rfl⟩ hlvh
  intro r w' H locs cells slots pc ls hq hw hS h1 h2 ha hr
  refine W_sized (fun hb9 => W.widen h1 h2 ?_)
  have fin : ∀ t : State, t.heap = H → s.WarmedH t.vm → CQ dC dI cy b ad s.heap.size al w mc Q (av.map (cv b ad)).toArray s (.returned (r.map (cv b ad))) t := fun t ht hW => ⟨⟨r, w', rfl, hq, by rw [ht]; exact hw.1, hw.2, fun h => by have := ha.1 h; omega, ha.2⟩, hS.F ht⟩
  match r, hr, fin with
  | none, hr, fin => exact W.vret B.exec B.bytes (B.returns.trans hr.2) fin hS.2.2 hr.1 hlocks
  | some (.inl x), hr, fin =>
    obtain ⟨hd, ty, ht, hn9⟩ := hr
    exact W.zret B.exec B.bytes (B.returns.trans ht) hn9 fin hS.2.2 hd hlocks
  | some (.inr (.inl x)), hr, fin => exact W.lret B.exec B.bytes (B.returns.trans hr.2) fin hS.2.2 hr.1 hlocks
  | some (.inr (.inr (.inl x))), hr, fin =>
    obtain ⟨hd, C, ht⟩ := hr
    refine W.aret B.exec B.bytes (B.returns.trans ht) (Or.inl ⟨C, rfl⟩) ?_ fin hS.2.2 hd hlocks
    cases x with
    | none => exact Or.inl rfl
    | some a => exact Or.inr ⟨_, rfl⟩
  | some (.inr (.inr (.inr x))), hr, _ => exact hr.elim
end CORE4
