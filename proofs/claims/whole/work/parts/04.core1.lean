/-! AN ABSTRACT MACHINE OVER THE KIT'S ROWS. Values, cells and worlds by places; a place's address is ad of it. -/
/-- a value: an int, a long, a reference (a place, or null), the script -/
abbrev AV : Type := Int32 ⊕ (Int64 ⊕ (Option Nat ⊕ Unit))
abbrev vI (x : Int32) : AV := .inl x
abbrev vL (x : Int64) : AV := .inr (.inl x)
abbrev vQ (r : Option Nat) : AV := .inr (.inr (.inl r))
abbrev vR (k : Nat) : AV := .inr (.inr (.inl (some k)))
abbrev vN : AV := .inr (.inr (.inl none))
abbrev vS : AV := .inr (.inr (.inr ()))
def cv (b : Nat) (ad : Nat → Nat) : AV → Value
  | .inl x => .int x
  | .inr (.inl x) => .long x
  | .inr (.inr (.inl r)) => va_rf (r.map ad)
  | .inr (.inr (.inr _)) => .ref b
/-- a cell: an array (its type's place in tysOf, its length, its contents), or an object (its class's place in vwCl, its fields) -/
abbrev AC : Type := (Nat × Nat × ((Nat → Int32) ⊕ ((Nat → Int64) ⊕ (Nat → Option Nat)))) ⊕ (Nat × List AV)
abbrev cI (n : Nat) (f : Nat → Int32) : AC := .inl (0, n, .inl f)
abbrev cJ (n : Nat) (f : Nat → Int64) : AC := .inl (1, n, .inr (.inl f))
abbrev cA (t n : Nat) (f : Nat → Option Nat) : AC := .inl (t, n, .inr (.inr f))
abbrev cO (ci : Nat) (fs : List AV) : AC := .inr (ci, fs)
def cc (b : Nat) (cy : Nat → ClassId) (ad : Nat → Nat) : AC → va_E
  | .inl (t, n, .inl f) => .inl (cy t, n, .inl f)
  | .inl (t, n, .inr (.inl f)) => .inl (cy t, n, .inr (.inl f))
  | .inl (t, n, .inr (.inr f)) => .inl (cy t, n, .inr (.inr (.inr (.inr (fun i => (f i).map ad)))))
  | .inr (ci, fs) => .inr (ci, fs.map (cv b ad))
/-- the cells of a world, from the place k on -/
def wlk (b : Nat) (cy : Nat → ClassId) (ad : Nat → Nat) : Nat → List AC → va_W
  | _, [] => []
  | k, c :: w => (ad k, cc b cy ad c) :: wlk b cy ad (k + 1) w
abbrev wl (b : Nat) (cy : Nat → ClassId) (ad : Nat → Nat) (w : List AC) : va_W := wlk b cy ad 0 w
theorem wlk_get (b : Nat) (cy : Nat → ClassId) (ad : Nat → Nat) : ∀ (w : List AC) (k j : Nat), (wlk b cy ad k w)[j]? = (w[j]?).map (fun c => (ad (k + j), cc b cy ad c))
  | [], _, _ => rfl
  | c :: w, k, 0 => rfl
  | c :: w, k, j + 1 => by
    show (wlk b cy ad (k + 1) w)[j]? = _
    rw [wlk_get b cy ad w (k + 1) j, show k + 1 + j = k + (j + 1) by omega]
    rfl
theorem wl_get {b : Nat} {cy : Nat → ClassId} {ad : Nat → Nat} {w : List AC} {j : Nat} {c : AC} (h : w[j]? = some c) : (wl b cy ad w)[j]? = some (ad j, cc b cy ad c) := by
  rw [wlk_get, h, Nat.zero_add]; rfl
theorem wl_at {b : Nat} {cy : Nat → ClassId} {ad : Nat → Nat} {w : List AC} {j : Nat} {q : Nat × va_E} (h : (wl b cy ad w)[j]? = some q) : ∃ c, w[j]? = some c ∧ q = (ad j, cc b cy ad c) := by
  rw [wlk_get, Nat.zero_add] at h
  cases hc : w[j]? with
  | none => rw [hc] at h; cases h
  | some c => rw [hc] at h; exact ⟨c, rfl, (Option.some.inj h).symm⟩
theorem wl_len {b : Nat} {cy : Nat → ClassId} {ad : Nat → Nat} : ∀ (w : List AC) (k : Nat), (wlk b cy ad k w).length = w.length
  | [], _ => rfl
  | c :: w, k => by
    show (wlk b cy ad (k + 1) w).length + 1 = _
    rw [wl_len w (k + 1)]; rfl
theorem wl_set {b : Nat} {cy : Nat → ClassId} {ad : Nat → Nat} {w : List AC} {j : Nat} {c : AC} : wl b cy ad (w.set j c) = (wl b cy ad w).set j (ad j, cc b cy ad c) := by
  apply List.ext_getElem?
  intro i
  rw [wlk_get, List.getElem?_set, List.getElem?_set, Nat.zero_add, wl_len, wlk_get, Nat.zero_add]
  by_cases h : j = i
  · subst h
    rw [if_pos rfl, if_pos rfl]
    by_cases h2 : j < w.length
    · rw [if_pos h2, if_pos h2]; rfl
    · rw [if_neg h2, if_neg h2]; rfl
  · rw [if_neg h, if_neg h]
theorem wl_app {b : Nat} {cy : Nat → ClassId} {ad : Nat → Nat} {w w2 : List AC} : wl b cy ad (w ++ w2) = wl b cy ad w ++ wlk b cy ad w.length w2 := by
  apply List.ext_getElem?
  intro i
  rw [wlk_get, Nat.zero_add, List.getElem?_append, List.getElem?_append, wl_len, wlk_get, wlk_get, Nat.zero_add]
  by_cases h : i < w.length
  · rw [if_pos h, if_pos h]
  · rw [if_neg h, if_neg h, show w.length + (i - w.length) = i by omega]
/-- the array types -/
abbrev tysOf (cy : Nat → ClassId) : List (ClassId × FieldType) := [(cy 0, .int), (cy 1, .long), (cy 2, .object "SpreadNets$Net"), (cy 3, .array .int), (cy 4, .array .long)]
/-- a method: its name, bytes, locals, answer's type, its class; the script, if it is the law -/
abbrev Mth : Type := MethodName × ByteArray × Nat × Option FieldType × String × Option (Nat × (Nat → Int32))
abbrev mB (M : Mth) : ByteArray := M.2.1
abbrev mL (M : Mth) : Nat := M.2.2.1
abbrev mT (M : Mth) : Option FieldType := M.2.2.2.1
abbrev mO (M : Mth) : String := M.2.2.2.2.1
abbrev mS (M : Mth) : Option (Nat × (Nat → Int32)) := M.2.2.2.2.2
def rOK (M : Mth) (pc : Nat) : Option AV → Prop
  | none => decode (mB M) pc = .ok (.return_, 1) ∧ mT M = none
  | some (.inl x) => decode (mB M) pc = .ok (.ireturn, 1) ∧ ∃ ty, mT M = some ty ∧ narrow ty (.int x) = .int x
  | some (.inr (.inl _)) => decode (mB M) pc = .ok (.lreturn, 1) ∧ mT M = some .long
  | some (.inr (.inr (.inl _))) => decode (mB M) pc = .ok (.areturn, 1) ∧ ∃ C, mT M = some (.object C)
  | some (.inr (.inr (.inr _))) => False
/-- the heap holds the world w -/
def WS (dC : Nat → ClassId) (dI : Nat → Nat → Nat) (cy : Nat → ClassId) (b : Nat) (ad : Nat → Nat) (A : Nat → Prop) (w : List AC) (H : Heap) : Prop :=
  va_P (dC, dI) vwCl (wl b cy ad w) H ∧ va_D A (wl b cy ad w)
/-- how many cells the world has: those of the start, and (where cells may be made) the new ones, of which bc are still to come -/
def HA (al : Bool) (w : List AC) (n0 cells bc MC : Nat) : Prop := (al = true → w.length = n0 + cells ∧ cells + bc = MC) ∧ (al = false → w.length = n0)
theorem HA.set {al : Bool} {w : List AC} {n0 cells bc MC a : Nat} {c : AC} (h : HA al w n0 cells bc MC) : HA al (w.set a c) n0 cells bc MC := ⟨fun q => by rw [List.length_set]; exact h.1 q, fun q => by rw [List.length_set]; exact h.2 q⟩
def lvh (b : Nat) (ad : Nat → Nat) (ls : Array Slot) (n : Nat) (lv : List (Option AV)) : Prop := ls.size = n ∧ lv_wf ls ∧ ∀ (i : Nat) (v : AV), lv[i]? = some (some v) → ls[i]? = some (.val (cv b ad v))
/-- the words that a callee may be handed -/
def tbG : List Cond := lw_tbl.filter goodWord
theorem tbm {x : Cond} (i : Nat) (h : lw_tbl[i]? = some x) (hg : goodWord x = true) : x ∈ tbG := List.mem_filter.mpr ⟨List.mem_of_getElem? h, hg⟩
theorem tbd {x : Cond} (h : x ∈ lw_tbl) (hg : goodWord x = true) : x ∈ tbG := List.mem_filter.mpr ⟨h, hg⟩
theorem tbs {C : String} {T : u_T} {N : Nat} (h : ∀ x ∈ u_ws C T N, x ∈ lw_tbl) : ∀ x ∈ u_ws C T N, x ∈ tbG := fun x hx => by
  refine tbd (h x hx) ?_
  obtain ⟨k, -, rfl⟩ := List.mem_map.mp hx
  unfold u_lay
  split <;> rfl
/-- the words of which a callee is told otherwise: arrays of references, and nest mates -/
def NX (U : State) : Prop := va_AO "SpreadNets$Net" U ∧ (va_Nw (.arrayOver (.array .int)) U ∧ va_Nw (.arrayOver (.array .long)) U) ∧ (va_Nw (.methodLinkNest RX5 15 yX2_init RX5) U ∧ va_Nw (.methodLinkNest RX5 22 yX1_init RX5) U ∧ va_Nw (.methodLinkNest RX5 29 yX3_init RX5) U ∧ va_Nw (.methodLinkNest RX5 36 yX4_init RX5) U ∧ va_Nw (.methodLinkNest RX5 43 yX0_init RX5) U)
theorem ao_moved {t : FieldType} {u U : State} (hvm : u.vm.Alike U.vm) (h : va_Nw (.arrayOver (.array t)) u) : va_Nw (.arrayOver (.array t)) U := by
  unfold va_Nw Cond.before Cond.holds at h ⊢
  simp only [Cond.value] at h ⊢
  have hi : ∀ comp : ClassId, (U.vm.classes.findIdx? fun (x : Class) => match x.kind with | .array component _ => component == comp | _ => false) = (u.vm.classes.findIdx? fun (x : Class) => match x.kind with | .array component _ => component == comp | _ => false) := by
    intro comp
    have hb : U.vm.bare = u.vm.bare := by first | exact hvm.bare_eq | exact hvm.bare_eq.symm
    have e1 := va_idx_bare U.vm comp
    rw [hb] at e1
    exact e1.symm.trans (va_idx_bare u.vm comp)
  rw [hvm.findClass]
  cases hc : u.vm.findClass (FieldType.array t).toString with
  | none => rw [hc] at h; simp at h
  | some comp =>
    rw [hc] at h
    rw [Option.bind_some] at h ⊢
    have h9 := hi comp
    cases hx : (u.vm.classes.findIdx? fun (x : Class) => match x.kind with | .array component _ => component == comp | _ => false) with
    | none =>
      refine absurd ((congrArg (fun o : Option Nat => (o.bind (fun c => (u.vm.classes[c]?).map fun (k : Class) => match k.kind with | .array _ ty => decide (ty = FieldType.array t) && decide (u.vm.findClass ("[" ++ (FieldType.array t).toString) = some c) | _ => false) == some true)) hx).symm.trans h) (by simp)
    | some c =>
      have h1 := (congrArg (fun o : Option Nat => (o.bind (fun c => (u.vm.classes[c]?).map fun (k : Class) => match k.kind with | .array _ ty => decide (ty = FieldType.array t) && decide (u.vm.findClass ("[" ++ (FieldType.array t).toString) = some c) | _ => false) == some true)) hx).symm.trans h
      refine (congrArg (fun o : Option Nat => (o.bind (fun c => (U.vm.classes[c]?).map fun (k : Class) => match k.kind with | .array _ ty => decide (ty = FieldType.array t) && decide (U.vm.findClass ("[" ++ (FieldType.array t).toString) = some c) | _ => false) == some true)) (h9.trans hx)).trans ?_
      simp only [Option.bind_some, hvm.findClass] at h1 ⊢
      cases hk : u.vm.classes[c]? with
      | none => rw [hk] at h1; simp at h1
      | some k =>
        obtain ⟨k', hk', he⟩ := hvm.2.2 _ _ hk
        rw [hk] at h1
        rw [hk', Option.map_some, he]
        exact h1
theorem NX.moved {s U : State} (hW : s.WarmedH U.vm) (h : NX s) : NX U := ⟨h.1.moved hW.alike, ⟨ao_moved hW.alike h.2.1.1, ao_moved hW.alike h.2.1.2⟩, va_Nw.warmM hW h.2.2.1, va_Nw.warmM hW h.2.2.2.1, va_Nw.warmM hW h.2.2.2.2.1, va_Nw.warmM hW h.2.2.2.2.2.1, va_Nw.warmM hW h.2.2.2.2.2.2⟩
theorem NX.same {s U : State} (hv : s.vm = U.vm) (h : NX s) : NX U := ⟨h.1.moved (hv ▸ Vm.Alike.refl s.vm), ⟨ao_moved (hv ▸ Vm.Alike.refl s.vm) h.2.1.1, ao_moved (hv ▸ Vm.Alike.refl s.vm) h.2.1.2⟩, va_Nw.same rfl hv h.2.2.1, va_Nw.same rfl hv h.2.2.2.1, va_Nw.same rfl hv h.2.2.2.2.1, va_Nw.same rfl hv h.2.2.2.2.2.1, va_Nw.same rfl hv h.2.2.2.2.2.2⟩
/-- what stays through a method's walk -/
def Fx (M : Mth) (d : Nat) (al : Bool) (Q : Option AV → List AC → Prop) (p : Program) (l : Launch) (e : Env) (R : Room) (s : State) (m : MethodId) (args : Array Value) (below : List Frame) (meth : Method) (c : Code) (Fin : State → Prop) (dC : Nat → ClassId) (dI : Nat → Nat → Nat) (cy : Nat → ClassId) (b : Nat) (ad : Nat → Nat) (A : Nat → Prop) (MC MS n0 : Nat) : Prop :=
  (p.tables.exec = Jvm.exec ∧ c.code = mB M) ∧ (meth.sig.returnType = mT M ∧ c.maxLocals = mL M ∧ s.vm.findClass (mO M) = some m.cls ∧ (M.1.name = "<init>" → meth.name = "<init>") ∧ meth.locks = false ∧ NX s) ∧ (∀ w ∈ tbG, w.before args s = true) ∧ va_K (dC, dI) vwCl (tysOf cy) s ∧ (∀ q : Nat, s.heap.size ≤ q → A q) ∧ (d ≤ R.frames ∧ 36 * d ≤ R.locals ∧ MC ≤ R.cells ∧ MS ≤ R.slots) ∧
  (∀ (L : Nat) (xs : Nat → Int32), mS M = some (L, xs) → va_X b L xs s s.heap ∧ b < s.heap.size ∧ ¬ A b) ∧ (al = true → ∀ j : Nat, ad (n0 + j) = s.heap.size + j) ∧
  ∀ (r : Option AV) (w : List AC) (H : Heap) (locs : List Loc) (cells slots pc : Nat) (ls : Array Slot), Q r w → WS dC dI cy b ad A w H → va_S A s.heap H locs → cells ≤ MC → slots ≤ MS → HA al w n0 cells 0 MC → rOK M pc r → W p l e R s m args below meth c H locs cells slots Fin (F0 m pc ls (r.map (cv b ad)).toList)
/-- from the place pc, with the locals lv, the stack st and the world w, the method M comes to its end, with an answer and a world of Q; d frames, bc cells and bs slots are left -/
def Go (M : Mth) (d : Nat) (al : Bool) (bc bs pc : Nat) (lv : List (Option AV)) (st : List AV) (w : List AC) (Q : Option AV → List AC → Prop) : Prop :=
  ∀ (p : Program) (l : Launch) (e : Env) (R : Room) (s : State) (m : MethodId) (args : Array Value) (below : List Frame) (meth : Method) (c : Code) (Fin : State → Prop) (dC : Nat → ClassId) (dI : Nat → Nat → Nat) (cy : Nat → ClassId) (b : Nat) (ad : Nat → Nat) (A : Nat → Prop) (MC MS n0 : Nat), Fx M d al Q p l e R s m args below meth c Fin dC dI cy b ad A MC MS n0 →
  ∀ (H : Heap) (locs : List Loc) (cells slots : Nat) (ls : Array Slot), cells + bc ≤ MC → slots + bs ≤ MS → WS dC dI cy b ad A w H → va_S A s.heap H locs → HA al w n0 cells bc MC → lvh b ad ls (mL M) lv →
  W p l e R s m args below meth c H locs cells slots Fin (F0 m pc ls (st.map (cv b ad)))
/-- fewer locals are enough -/
def lvle : List (Option AV) → List (Option AV) → Prop
  | [], _ => True
  | none :: t, [] => lvle t []
  | some _ :: _, [] => False
  | none :: t, _ :: u => lvle t u
  | some v :: t, o :: u => o = some v ∧ lvle t u
theorem lvle_at : ∀ (l1 l2 : List (Option AV)), lvle l1 l2 → ∀ (i : Nat) (v : AV), l1[i]? = some (some v) → l2[i]? = some (some v)
  | [], _, _, i, v, h => by simp at h
  | none :: t, [], hl, 0, v, h => by simp at h
  | none :: t, [], hl, i + 1, v, h => by
    have := lvle_at t [] hl i v (by simpa using h)
    simp at this
  | some _ :: _, [], hl, _, _, _ => hl.elim
  | none :: t, o :: u, hl, 0, v, h => by simp at h
  | none :: t, o :: u, hl, i + 1, v, h => by
    have := lvle_at t u hl i v (by simpa using h)
    simpa using this
  | some x :: t, o :: u, hl, 0, v, h => by
    obtain ⟨rfl, -⟩ := hl
    simpa using h
  | some x :: t, o :: u, hl, i + 1, v, h => by
    have := lvle_at t u hl.2 i v (by simpa using h)
    simpa using this
theorem go_sub {M : Mth} {d : Nat} {al : Bool} {bc bs pc : Nat} {lv lv' : List (Option AV)} {st : List AV} {w : List AC} {Q : Option AV → List AC → Prop} (h : lvle lv' lv) (k : Go M d al bc bs pc lv' st w Q) : Go M d al bc bs pc lv st w Q := by
  intro p l e R s m args below meth c Fin dC dI cy b ad A MC MS n0 fx H locs cells slots ls hc hs hw hS ha hl
  exact k p l e R s m args below meth c Fin dC dI cy b ad A MC MS n0 fx H locs cells slots ls hc hs hw hS ha ⟨hl.1, hl.2.1, fun i v hv => hl.2.2 i v (lvle_at _ _ h i v hv)⟩
theorem go_room {M : Mth} {d bc bs bc' bs' pc : Nat} {lv : List (Option AV)} {st : List AV} {w : List AC} {Q : Option AV → List AC → Prop} (h1 : bc' ≤ bc) (h2 : bs' ≤ bs) (k : Go M d false bc' bs' pc lv st w Q) : Go M d false bc bs pc lv st w Q := by
  intro p l e R s m args below meth c Fin dC dI cy b ad A MC MS n0 fx H locs cells slots ls hc hs hw hS ha hl
  exact k p l e R s m args below meth c Fin dC dI cy b ad A MC MS n0 fx H locs cells slots ls (by omega) (by omega) hw hS ⟨fun h => (by cases h), ha.2⟩ hl
/-- storing a local -/
def isL : AV → Bool
  | .inr (.inl _) => true
  | _ => false
def isLo : Option AV → Bool
  | some v => isL v
  | none => false
def lvs : Nat → List (Option AV) → Nat → AV → List (Option AV)
  | _, [], _, _ => []
  | j, o :: t, i, v => (bif Nat.beq j i then some v else bif (Nat.beq (j + 1) i && isLo o) || (isL v && Nat.beq j (i + 1)) then none else o) :: lvs (j + 1) t i v
theorem lvs_get : ∀ (lv : List (Option AV)) (j i k : Nat) (v : AV), (lvs j lv i v)[k]? = (lv[k]?).map (fun o => bif Nat.beq (j + k) i then some v else bif (Nat.beq (j + k + 1) i && isLo o) || (isL v && Nat.beq (j + k) (i + 1)) then none else o)
  | [], _, _, _, _ => rfl
  | o :: t, j, i, 0, v => rfl
  | o :: t, j, i, k + 1, v => by
    show (lvs (j + 1) t i v)[k]? = _
    rw [lvs_get t (j + 1) i k v, show j + 1 + k = j + (k + 1) by omega]
    rfl
theorem cv_cat (b : Nat) (ad : Nat → Nat) (v : AV) : (cv b ad v).category = if isL v = true then 2 else 1 := by
  rcases v with x | x | (_ | r) | u <;> rfl
/-- the kit's list of locals -/
def lvp (b : Nat) (ad : Nat → Nat) (lv : List (Option AV)) : List (Nat × Value) := (List.range lv.length).filterMap (fun i => match lv[i]? with | some (some v) => some (i, cv b ad v) | _ => none)
theorem lvp_mem {b : Nat} {ad : Nat → Nat} {lv : List (Option AV)} {i : Nat} {v : AV} (h : lv[i]? = some (some v)) : (i, cv b ad v) ∈ lvp b ad lv := by
  refine List.mem_filterMap.mpr ⟨i, List.mem_range.mpr (List.getElem?_eq_some_iff.mp h).1, ?_⟩
  simp only [h]
theorem lvp_has {b : Nat} {ad : Nat → Nat} {ls : Array Slot} {n : Nat} {lv : List (Option AV)} (h : lvh b ad ls n lv) : lv_has ls n (lvp b ad lv) := by
  refine ⟨h.1, h.2.1, fun q hq => ?_⟩
  obtain ⟨i, -, hi⟩ := List.mem_filterMap.mp hq
  cases hv : lv[i]? with
  | none => simp only [hv] at hi; cases hi
  | some o =>
    cases o with
    | none => simp only [hv] at hi; cases hi
    | some v =>
      simp only [hv] at hi
      cases hi
      exact h.2.2 i v hv
theorem nbf {a b : Nat} (h : Nat.beq a b = false) : (a == b) = false := by
  refine beq_eq_false_iff_ne.mpr (fun e => ?_)
  subst e
  have := Nat.beq_refl a
  rw [h] at this
  cases this
theorem lvs_has1 {b : Nat} {ad : Nat → Nat} {ls' : Array Slot} {n : Nat} {lv : List (Option AV)} {i : Nat} {v : AV} (hv : isL v = false) (h : lv_has ls' n ((i, cv b ad v) :: (lvp b ad lv).filter (fun q => !(q.1 == i) && !(q.1 + 1 == i && q.2.category == 2)))) : lvh b ad ls' n (lvs 0 lv i v) := by
  refine ⟨h.1, h.2.1, fun k x hx => ?_⟩
  rw [lvs_get, Nat.zero_add] at hx
  cases hk : lv[k]? with
  | none => rw [hk] at hx; cases hx
  | some o =>
    rw [hk] at hx
    have hx := Option.some.inj hx
    rw [hv] at hx
    by_cases e : k = i
    · subst e
      have : Nat.beq k k = true := Nat.beq_refl k
      rw [this] at hx
      cases hx
      exact h.2.2 (k, _) List.mem_cons_self
    · have e1 : Nat.beq k i = false := by
        cases hb : Nat.beq k i with
        | false => rfl
        | true => exact absurd (Nat.eq_of_beq_eq_true hb) e
      rw [e1] at hx
      simp only [cond_false, Bool.false_and, Bool.or_false] at hx
      cases ho : (Nat.beq (k + 1) i && isLo o) with
      | true => rw [ho] at hx; cases hx
      | false =>
        rw [ho] at hx
        simp only [cond_false] at hx
        subst hx
        refine h.2.2 (k, cv b ad x) (List.mem_cons_of_mem _ (List.mem_filter.mpr ⟨lvp_mem hk, ?_⟩))
        simp only [cv_cat]
        have e2 : (k == i) = false := by simpa using e
        rw [e2]
        simp only [Bool.not_false, Bool.true_and]
        cases h1 : Nat.beq (k + 1) i with
        | false =>
          have : (k + 1 == i) = false := nbf h1
          rw [this]; rfl
        | true =>
          rw [h1] at ho
          have hx2 : isL x = false := by simpa [isLo] using ho
          rw [hx2]
          simp
theorem lvs_has2 {b : Nat} {ad : Nat → Nat} {ls' : Array Slot} {n : Nat} {lv : List (Option AV)} {i : Nat} {v : AV} (hv : isL v = true) (h : lv_has ls' n ((i, cv b ad v) :: (lvp b ad lv).filter (fun q => !(q.1 == i) && (!(q.1 == i + 1) && !(q.1 + 1 == i && q.2.category == 2))))) : lvh b ad ls' n (lvs 0 lv i v) := by
  refine ⟨h.1, h.2.1, fun k x hx => ?_⟩
  rw [lvs_get, Nat.zero_add] at hx
  cases hk : lv[k]? with
  | none => rw [hk] at hx; cases hx
  | some o =>
    rw [hk] at hx
    have hx := Option.some.inj hx
    rw [hv] at hx
    by_cases e : k = i
    · subst e
      have : Nat.beq k k = true := Nat.beq_refl k
      rw [this] at hx
      cases hx
      exact h.2.2 (k, _) List.mem_cons_self
    · have e1 : Nat.beq k i = false := by
        cases hb : Nat.beq k i with
        | false => rfl
        | true => exact absurd (Nat.eq_of_beq_eq_true hb) e
      rw [e1] at hx
      simp only [cond_false, Bool.true_and] at hx
      cases ho : ((Nat.beq (k + 1) i && isLo o) || Nat.beq k (i + 1)) with
      | true => rw [ho] at hx; cases hx
      | false =>
        rw [ho] at hx
        simp only [cond_false] at hx
        subst hx
        have ⟨ho1, ho2⟩ := Bool.or_eq_false_iff.mp ho
        refine h.2.2 (k, cv b ad x) (List.mem_cons_of_mem _ (List.mem_filter.mpr ⟨lvp_mem hk, ?_⟩))
        simp only [cv_cat]
        have e2 : (k == i) = false := by simpa using e
        have e3 : (k == i + 1) = false := nbf ho2
        rw [e2, e3]
        simp only [Bool.not_false, Bool.true_and]
        cases h1 : Nat.beq (k + 1) i with
        | false =>
          have : (k + 1 == i) = false := nbf h1
          rw [this]; rfl
        | true =>
          rw [h1] at ho1
          have hx2 : isL x = false := by simpa [isLo] using ho1
          rw [hx2]
          simp
