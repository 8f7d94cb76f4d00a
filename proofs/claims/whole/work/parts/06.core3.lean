/-- entry idx of the class own is the field k of the class at the place ci of vwCl -/
def FL (own : String) (idx ci k : Nat) : Prop := ∃ (C : String) (T : u_T) (N : Nat), vwCl[ci]? = some (C, T, N) ∧ k < N ∧ Cond.fieldLink own idx (T k).1 (T k).2.1 (T k).2.2.1 ∈ tbG ∧ ∀ w ∈ u_ws C T N, w ∈ tbG
/-- the same, for a store: the field's type, and whether it is final -/
def FP (own : String) (idx ci k : Nat) (ty : FieldType) (fin : Bool) : Prop := ∃ (C : String) (T : u_T) (N : Nat) (ty0 : Nat → FieldType), vwCl[ci]? = some (C, T, N) ∧ k < N ∧ Cond.fieldLink own idx (T k).1 (T k).2.1 (T k).2.2.1 ∈ tbG ∧ (∀ w ∈ u_ws C T N, w ∈ tbG) ∧ (∀ k, k < N → parseFieldDescriptor (T k).2.2.1 = some (ty0 k)) ∧ (∀ a, a < N → ∀ b, b < N → a ≠ b → (T a).2.1 ≠ (T b).2.1) ∧ parseFieldDescriptor (T k).2.2.1 = some ty ∧ (T k).2.2.2 = fin ∧ (T k).1 = own
theorem cvm_get {b : Nat} {ad : Nat → Nat} {fs : List AV} {k : Nat} {v : AV} (h : fs[k]? = some v) : (fs.map (cv b ad))[k]? = some (cv b ad v) := by rw [List.getElem?_map, h]; rfl
theorem cvm_set {b : Nat} {ad : Nat → Nat} {fs : List AV} {k : Nat} {v : AV} : (fs.set k v).map (cv b ad) = (fs.map (cv b ad)).set k (cv b ad v) := by rw [List.map_set]
theorem ws_set {dC : Nat → ClassId} {dI : Nat → Nat → Nat} {cy : Nat → ClassId} {b : Nat} {ad : Nat → Nat} {A : Nat → Prop} {w : List AC} {H : Heap} {a : Nat} {c : AC} {e : va_E} (he : cc b cy ad c = e) (h1 : va_P (dC, dI) vwCl ((wl b cy ad w).set a (ad a, e)) H) (h2 : va_D A ((wl b cy ad w).set a (ad a, e))) : WS dC dI cy b ad A (w.set a c) H := by
  subst he
  exact ⟨by rw [wl_set]; exact h1, by rw [wl_set]; exact h2⟩

theorem go_getfield {M : Mth} {d : Nat} {al : Bool} {bc bs pc : Nat} {lv : List (Option AV)} {st : List AV} {w : List AC} {Q : Option AV → List AC → Prop} {idx : Nat} (a ci k : Nat) {fs : List AV} {v : AV} (hd : decode (mB M) pc = .ok (.getfield idx, 3)) (hf : FL (mO M) idx ci k) (hw0 : w[a]? = some (cO ci fs)) (hv : fs[k]? = some v) (kk : Go M d al bc bs (pc + 3) lv (v :: st) w Q) : Go M d al bc bs pc lv (vR a :: st) w Q := by
  intro p l e R s m args below meth c Fin dC dI cy b ad A MC MS n0 fx H locs cells slots ls hc hs hw hS ha hl
  obtain ⟨C, T, N, h1, h2, h3, h4⟩ := hf
  exact va_get (D := (dC, dI)) (v := cv b ad v) fx.1.1 fx.1.2 fx.2.2.1 h4 fx.2.1.2.2.1 fx.2.2.2.1 hw.1 a (wl_get hw0) h1 k h2 (fx.2.2.1 _ h3) (fun _ h => h) (cvm_get hv) hd (kk p l e R s m args below meth c Fin dC dI cy b ad A MC MS n0 fx H locs cells slots ls hc hs hw hS ha hl)

theorem go_putI {M : Mth} {d : Nat} {al : Bool} {bc bs pc : Nat} {lv : List (Option AV)} {st : List AV} {w : List AC} {Q : Option AV → List AC → Prop} {idx : Nat} (a ci k : Nat) {fs : List AV} {x : Int32} (hd : decode (mB M) pc = .ok (.putfield idx, 3)) (hf : FP (mO M) idx ci k .int false) (hw0 : w[a]? = some (cO ci fs)) (hl0 : k < fs.length) (kk : Go M d al bc bs (pc + 3) lv st (w.set a (cO ci (fs.set k (vI x)))) Q) : Go M d al bc bs pc lv (vI x :: vR a :: st) w Q := by
  intro p l e R s m args below meth c Fin dC dI cy b ad A MC MS n0 fx H locs cells slots ls hc hs hw hS ha hl
  obtain ⟨C, T, N, ty0, h1, h2, h3, h4, h5, h6, h7, h8, h9⟩ := hf
  refine va_put (D := (dC, dI)) (v := cv b ad (vI x)) fx.1.1 fx.1.2 fx.2.2.1 h4 ty0 h5 h6 fx.2.1.2.2.1 fx.2.2.2.1 hw.1 hw.2 hS a (wl_get hw0) h1 k h2 (fx.2.2.1 _ h3) (fun _ h => h) h8 h7 (vp_nar_int x) rfl (by rw [List.length_map]; exact hl0) hd (fun H1 locs1 e1 e2 e3 => ?_)
  exact (kk p l e R s m args below meth c Fin dC dI cy b ad A MC MS n0 fx H1 locs1 cells slots ls hc hs (ws_set (by simp only [cc, cvm_set]) e1 e2) e3 ha.set hl)

theorem go_putRA {M : Mth} {d : Nat} {al : Bool} {bc bs pc : Nat} {lv : List (Option AV)} {st : List AV} {w : List AC} {Q : Option AV → List AC → Prop} {idx : Nat} (a ci k : Nat) {fs : List AV} {t : FieldType} {r : Nat} (hd : decode (mB M) pc = .ok (.putfield idx, 3)) (hf : FP (mO M) idx ci k (.array t) false) (hw0 : w[a]? = some (cO ci fs)) (hl0 : k < fs.length) (kk : Go M d al bc bs (pc + 3) lv st (w.set a (cO ci (fs.set k (vR r)))) Q) : Go M d al bc bs pc lv (vR r :: vR a :: st) w Q := by
  intro p l e R s m args below meth c Fin dC dI cy b ad A MC MS n0 fx H locs cells slots ls hc hs hw hS ha hl
  obtain ⟨C, T, N, ty0, h1, h2, h3, h4, h5, h6, h7, h8, h9⟩ := hf
  refine va_put (D := (dC, dI)) (v := cv b ad (vR r)) fx.1.1 fx.1.2 fx.2.2.1 h4 ty0 h5 h6 fx.2.1.2.2.1 fx.2.2.2.1 hw.1 hw.2 hS a (wl_get hw0) h1 k h2 (fx.2.2.1 _ h3) (fun _ h => h) h8 h7 rfl rfl (by rw [List.length_map]; exact hl0) hd (fun H1 locs1 e1 e2 e3 => ?_)
  exact (kk p l e R s m args below meth c Fin dC dI cy b ad A MC MS n0 fx H1 locs1 cells slots ls hc hs (ws_set (by simp only [cc, cvm_set]) e1 e2) e3 ha.set hl)

theorem go_putFA {M : Mth} {d : Nat} {al : Bool} {bc bs pc : Nat} {lv : List (Option AV)} {st : List AV} {w : List AC} {Q : Option AV → List AC → Prop} {idx : Nat} (a ci k : Nat) {fs : List AV} {t : FieldType} {r : Nat} (hd : decode (mB M) pc = .ok (.putfield idx, 3)) (hf : FP (mO M) idx ci k (.array t) true) (hin : M.1.name = "<init>") (hw0 : w[a]? = some (cO ci fs)) (hl0 : k < fs.length) (kk : Go M d al bc bs (pc + 3) lv st (w.set a (cO ci (fs.set k (vR r)))) Q) : Go M d al bc bs pc lv (vR r :: vR a :: st) w Q := by
  intro p l e R s m args below meth c Fin dC dI cy b ad A MC MS n0 fx H locs cells slots ls hc hs hw hS ha hl
  obtain ⟨C, T, N, ty0, h1, h2, h3, h4, h5, h6, h7, h8, h9⟩ := hf
  refine va_putF (D := (dC, dI)) (v := cv b ad (vR r)) fx.1.1 fx.1.2 fx.2.2.1 h4 ty0 h5 h6 fx.2.1.2.2.1 fx.2.2.2.1 hw.1 hw.2 hS a (wl_get hw0) h1 k h2 (fx.2.2.1 _ h3) (fun _ h => h) h8 (fx.2.1.2.2.2.1 hin) h9 h7 rfl rfl (by rw [List.length_map]; exact hl0) hd (fun H1 locs1 e1 e2 e3 => ?_)
  exact (kk p l e R s m args below meth c Fin dC dI cy b ad A MC MS n0 fx H1 locs1 cells slots ls hc hs (ws_set (by simp only [cc, cvm_set]) e1 e2) e3 ha.set hl)

theorem go_putFO {M : Mth} {d : Nat} {al : Bool} {bc bs pc : Nat} {lv : List (Option AV)} {st : List AV} {w : List AC} {Q : Option AV → List AC → Prop} {idx : Nat} (a ci k : Nat) {fs : List AV} {C0 : String} {r : Nat} (hd : decode (mB M) pc = .ok (.putfield idx, 3)) (hf : FP (mO M) idx ci k (.object C0) true) (hin : M.1.name = "<init>") (hw0 : w[a]? = some (cO ci fs)) (hl0 : k < fs.length) (kk : Go M d al bc bs (pc + 3) lv st (w.set a (cO ci (fs.set k (vR r)))) Q) : Go M d al bc bs pc lv (vR r :: vR a :: st) w Q := by
  intro p l e R s m args below meth c Fin dC dI cy b ad A MC MS n0 fx H locs cells slots ls hc hs hw hS ha hl
  obtain ⟨C, T, N, ty0, h1, h2, h3, h4, h5, h6, h7, h8, h9⟩ := hf
  refine va_putF (D := (dC, dI)) (v := cv b ad (vR r)) fx.1.1 fx.1.2 fx.2.2.1 h4 ty0 h5 h6 fx.2.1.2.2.1 fx.2.2.2.1 hw.1 hw.2 hS a (wl_get hw0) h1 k h2 (fx.2.2.1 _ h3) (fun _ h => h) h8 (fx.2.1.2.2.2.1 hin) h9 h7 rfl rfl (by rw [List.length_map]; exact hl0) hd (fun H1 locs1 e1 e2 e3 => ?_)
  exact (kk p l e R s m args below meth c Fin dC dI cy b ad A MC MS n0 fx H1 locs1 cells slots ls hc hs (ws_set (by simp only [cc, cvm_set]) e1 e2) e3 ha.set hl)

theorem go_iaload {M : Mth} {d : Nat} {al : Bool} {bc bs pc : Nat} {lv : List (Option AV)} {st : List AV} {w : List AC} {Q : Option AV → List AC → Prop} (a : Nat) {n : Nat} {f : Nat → Int32} {i : Int32} (hd : decode (mB M) pc = .ok (.iaload, 1)) (hw0 : w[a]? = some (cI n f)) (hin : vp_in i n) (kk : Go M d al bc bs (pc + 1) lv (vI (f i.toNatClampNeg) :: st) w Q) : Go M d al bc bs pc lv (vI i :: vR a :: st) w Q := by
  intro p l e R s m args below meth c Fin dC dI cy b ad A MC MS n0 fx H locs cells slots ls hc hs hw hS ha hl
  exact va_iald fx.1.1 fx.1.2 fx.2.2.2.1 hw.1 a 0 (wl_get hw0) rfl hin hd (kk p l e R s m args below meth c Fin dC dI cy b ad A MC MS n0 fx H locs cells slots ls hc hs hw hS ha hl)

theorem go_laload {M : Mth} {d : Nat} {al : Bool} {bc bs pc : Nat} {lv : List (Option AV)} {st : List AV} {w : List AC} {Q : Option AV → List AC → Prop} (a : Nat) {n : Nat} {f : Nat → Int64} {i : Int32} (hd : decode (mB M) pc = .ok (.laload, 1)) (hw0 : w[a]? = some (cJ n f)) (hin : vp_in i n) (kk : Go M d al bc bs (pc + 1) lv (vL (f i.toNatClampNeg) :: st) w Q) : Go M d al bc bs pc lv (vI i :: vR a :: st) w Q := by
  intro p l e R s m args below meth c Fin dC dI cy b ad A MC MS n0 fx H locs cells slots ls hc hs hw hS ha hl
  exact va_lald fx.1.1 fx.1.2 fx.2.2.2.1 hw.1 a 1 (wl_get hw0) rfl hin hd (kk p l e R s m args below meth c Fin dC dI cy b ad A MC MS n0 fx H locs cells slots ls hc hs hw hS ha hl)

theorem go_aaload {M : Mth} {d : Nat} {al : Bool} {bc bs pc : Nat} {lv : List (Option AV)} {st : List AV} {w : List AC} {Q : Option AV → List AC → Prop} (a t : Nat) {n : Nat} {f : Nat → Option Nat} {i : Int32} (hd : decode (mB M) pc = .ok (.aaload, 1)) (ht : t = 2 ∨ t = 3 ∨ t = 4) (hw0 : w[a]? = some (cA t n f)) (hin : vp_in i n) (kk : Go M d al bc bs (pc + 1) lv (vQ (f i.toNatClampNeg) :: st) w Q) : Go M d al bc bs pc lv (vI i :: vR a :: st) w Q := by
  intro p l e R s m args below meth c Fin dC dI cy b ad A MC MS n0 fx H locs cells slots ls hc hs hw hS ha hl
  have hlt : i.toNatClampNeg < n := Nat.not_le.mp fun q => hin (Or.inr q)
  have k1 := (kk p l e R s m args below meth c Fin dC dI cy b ad A MC MS n0 fx H locs cells slots ls hc hs hw hS ha hl)
  have hcell := hw.1 a _ (wl_get hw0)
  have go : ∀ ty : FieldType, (tysOf cy)[t]? = some (cy t, ty) → ty.isReference = true → W p l e R s m args below meth c H locs cells slots Fin (F0 m pc ls ((vI i :: vR a :: st).map (cv b ad))) := fun ty hty hr => W.aald (v := va_rf ((f i.toNatClampNeg).map ad)) (ty := ty) fx.1.1 fx.1.2 hcell ((fx.2.2.2.1.2 t _ hty).1 n (fun j => va_rf ((f j).map ad))) hr (fun q => by cases q) (by show ¬ (i < 0 ∨ (arrV _ _ _).slots.size ≤ _); rw [arrV_size]; exact hin) (by show (arrV _ _ _).slots[_]? = _; rw [arrV_read _ _ hlt]) rfl rfl hd k1
  rcases ht with rfl | rfl | rfl
  · exact go (.object "SpreadNets$Net") rfl rfl
  · exact go (.array .int) rfl rfl
  · exact go (.array .long) rfl rfl

theorem go_iastore {M : Mth} {d : Nat} {al : Bool} {bc bs pc : Nat} {lv : List (Option AV)} {st : List AV} {w : List AC} {Q : Option AV → List AC → Prop} (a : Nat) {n : Nat} {f : Nat → Int32} {i x : Int32} (hd : decode (mB M) pc = .ok (.iastore, 1)) (hw0 : w[a]? = some (cI n f)) (hin : vp_in i n) (kk : Go M d al bc bs (pc + 1) lv st (w.set a (cI n (upd f i.toNatClampNeg x))) Q) : Go M d al bc bs pc lv (vI x :: vI i :: vR a :: st) w Q := by
  intro p l e R s m args below meth c Fin dC dI cy b ad A MC MS n0 fx H locs cells slots ls hc hs hw hS ha hl
  exact va_iast fx.1.1 fx.1.2 fx.2.2.2.1 hw.1 hw.2 hS a 0 (wl_get hw0) rfl hin hd (fun H1 locs1 e1 e2 e3 => (kk p l e R s m args below meth c Fin dC dI cy b ad A MC MS n0 fx H1 locs1 cells slots ls hc hs (ws_set rfl e1 e2) e3 ha.set hl))

theorem go_lastore {M : Mth} {d : Nat} {al : Bool} {bc bs pc : Nat} {lv : List (Option AV)} {st : List AV} {w : List AC} {Q : Option AV → List AC → Prop} (a : Nat) {n : Nat} {f : Nat → Int64} {i : Int32} {x : Int64} (hd : decode (mB M) pc = .ok (.lastore, 1)) (hw0 : w[a]? = some (cJ n f)) (hin : vp_in i n) (kk : Go M d al bc bs (pc + 1) lv st (w.set a (cJ n (vp_updL f i.toNatClampNeg x))) Q) : Go M d al bc bs pc lv (vL x :: vI i :: vR a :: st) w Q := by
  intro p l e R s m args below meth c Fin dC dI cy b ad A MC MS n0 fx H locs cells slots ls hc hs hw hS ha hl
  exact va_last fx.1.1 fx.1.2 fx.2.2.2.1 hw.1 hw.2 hS a 1 (wl_get hw0) rfl hin hd (fun H1 locs1 e1 e2 e3 => (kk p l e R s m args below meth c Fin dC dI cy b ad A MC MS n0 fx H1 locs1 cells slots ls hc hs (ws_set rfl e1 e2) e3 ha.set hl))

theorem go_aastore {M : Mth} {d : Nat} {al : Bool} {bc bs pc : Nat} {lv : List (Option AV)} {st : List AV} {w : List AC} {Q : Option AV → List AC → Prop} (a v : Nat) {n : Nat} {f : Nat → Option Nat} {i : Int32} {vs : List AV} (hd : decode (mB M) pc = .ok (.aastore, 1)) (hw0 : w[a]? = some (cA 2 n f)) (hv : w[v]? = some (cO 2 vs)) (hin : vp_in i n) (kk : Go M d al bc bs (pc + 1) lv st (w.set a (cA 2 n (va_up f i.toNatClampNeg (some v)))) Q) : Go M d al bc bs pc lv (vR v :: vI i :: vR a :: st) w Q := by
  intro p l e R s m args below meth c Fin dC dI cy b ad A MC MS n0 fx H locs cells slots ls hc hs hw hS ha hl
  refine va_astq (r := (RX2, TX2, 2)) fx.1.1 fx.1.2 fx.2.2.2.1 hw.1 hw.2 hS a 2 v 2 (wl_get hw0) rfl (wl_get hv) rfl hin hd (fun H1 locs1 e1 e2 e3 => ?_)
  exact (kk p l e R s m args below meth c Fin dC dI cy b ad A MC MS n0 fx H1 locs1 cells slots ls hc hs (ws_set (by simp only [cc]; congr 7; funext j; by_cases hj : j = i.toNatClampNeg <;> simp [va_up, hj]) e1 e2) e3 ha.set hl)

theorem go_alen {M : Mth} {d : Nat} {al : Bool} {bc bs pc : Nat} {lv : List (Option AV)} {st : List AV} {w : List AC} {Q : Option AV → List AC → Prop} (a : Nat) {t n : Nat} {x : (Nat → Int32) ⊕ ((Nat → Int64) ⊕ (Nat → Option Nat))} (hd : decode (mB M) pc = .ok (.arraylength, 1)) (ht : t < 5) (hw0 : w[a]? = some (.inl (t, n, x))) (kk : Go M d al bc bs (pc + 1) lv (vI (Int32.ofNat n) :: st) w Q) : Go M d al bc bs pc lv (vR a :: st) w Q := by
  intro p l e R s m args below meth c Fin dC dI cy b ad A MC MS n0 fx H locs cells slots ls hc hs hw hS ha hl
  have k1 := (kk p l e R s m args below meth c Fin dC dI cy b ad A MC MS n0 fx H locs cells slots ls hc hs hw hS ha hl)
  obtain ⟨ty, hty⟩ : ∃ ty, (tysOf cy)[t]? = some (cy t, ty) := by
    match t, ht with
    | 0, _ => exact ⟨_, rfl⟩
    | 1, _ => exact ⟨_, rfl⟩
    | 2, _ => exact ⟨_, rfl⟩
    | 3, _ => exact ⟨_, rfl⟩
    | 4, _ => exact ⟨_, rfl⟩
  rcases x with f | f | f
  · exact va_alen fx.1.1 fx.1.2 fx.2.2.2.1 hw.1 a t (wl_get hw0) hty rfl hd k1
  · exact va_alen fx.1.1 fx.1.2 fx.2.2.2.1 hw.1 a t (wl_get hw0) hty rfl hd k1
  · exact va_alen fx.1.1 fx.1.2 fx.2.2.2.1 hw.1 a t (wl_get hw0) hty rfl hd k1

theorem go_sld {M : Mth} {d : Nat} {al : Bool} {bc bs pc : Nat} {lv : List (Option AV)} {st : List AV} {w : List AC} {Q : Option AV → List AC → Prop} {L : Nat} {xs : Nat → Int32} {i : Int32} (hd : decode (mB M) pc = .ok (.iaload, 1)) (hm : mS M = some (L, xs)) (hin : vp_in i L) (kk : Go M d al bc bs (pc + 1) lv (vI (xs i.toNatClampNeg) :: st) w Q) : Go M d al bc bs pc lv (vI i :: vS :: st) w Q := by
  intro p l e R s m args below meth c Fin dC dI cy b ad A MC MS n0 fx H locs cells slots ls hc hs hw hS ha hl
  obtain ⟨h1, h2, h3⟩ := fx.2.2.2.2.2.2.1 L xs hm
  exact va_sld fx.1.1 fx.1.2 h1 h2 h3 hS hin hd (kk p l e R s m args below meth c Fin dC dI cy b ad A MC MS n0 fx H locs cells slots ls hc hs hw hS ha hl)

theorem go_slen {M : Mth} {d : Nat} {al : Bool} {bc bs pc : Nat} {lv : List (Option AV)} {st : List AV} {w : List AC} {Q : Option AV → List AC → Prop} {L : Nat} {xs : Nat → Int32} (hd : decode (mB M) pc = .ok (.arraylength, 1)) (hm : mS M = some (L, xs)) (kk : Go M d al bc bs (pc + 1) lv (vI (Int32.ofNat L) :: st) w Q) : Go M d al bc bs pc lv (vS :: st) w Q := by
  intro p l e R s m args below meth c Fin dC dI cy b ad A MC MS n0 fx H locs cells slots ls hc hs hw hS ha hl
  obtain ⟨h1, h2, h3⟩ := fx.2.2.2.2.2.2.1 L xs hm
  exact va_slen fx.1.1 fx.1.2 h1 h2 h3 hS hd (kk p l e R s m args below meth c Fin dC dI cy b ad A MC MS n0 fx H locs cells slots ls hc hs hw hS ha hl)

theorem cat_le (b : Nat) (ad : Nat → Nat) : ∀ st : List AV, ((st.map (cv b ad)).map fun v => v.category).sum ≤ 2 * st.length
  | [] => Nat.le_refl 0
  | v :: st => by
    have h := cat_le b ad st
    have h2 : (cv b ad v).category ≤ 2 := by rw [cv_cat]; split <;> omega
    simp only [List.map_cons, List.sum_cons, List.length_cons] at h ⊢
    omega

theorem tb_nat : Cond.native arraycopyName ∈ tbG := tbd (by decide +kernel) rfl
theorem tb_stat : Cond.static arraycopyName ∈ tbG := tbd (by decide +kernel) rfl
theorem tb_sys : Cond.initialized "java/lang/System" ∈ tbG := tbd (by decide +kernel) rfl
theorem tb_math : Cond.initialized "java/lang/Math" ∈ tbG := tbd (by decide +kernel) rfl
theorem tb_min1 : Cond.static Lib.Math.min.name ∈ tbG := tbd (by decide +kernel) rfl
theorem tb_min2 : Cond.code Lib.Math.min.name Lib.Math.min.code 2 (some .int) ∈ tbG := tbd (by decide +kernel) rfl
theorem tb_max1 : Cond.static Lib.Math.max.name ∈ tbG := tbd (by decide +kernel) rfl
theorem tb_max2 : Cond.code Lib.Math.max.name Lib.Math.max.code 2 (some .int) ∈ tbG := tbd (by decide +kernel) rfl
theorem tb_abs1 : Cond.static Lib.MathLoose.abs_long.x ∈ tbG := tbd (by decide +kernel) rfl
theorem tb_abs2 : Cond.code Lib.MathLoose.abs_long.x Lib.MathLoose.abs_long.code 2 (some .long) ∈ tbG := tbd (by decide +kernel) rfl
theorem tb_ob1 : Cond.instanceMethod Lib.objectInit ∈ tbG := tbd (by decide +kernel) rfl
theorem tb_ob2 : Cond.code Lib.objectInit ⟨#[0xb1]⟩ 1 none ∈ tbG := tbd (by decide +kernel) rfl

theorem go_copyi {M : Mth} {d : Nat} {al : Bool} {bc bs pc : Nat} {lv : List (Option AV)} {st : List AV} {w : List AC} {Q : Option AV → List AC → Prop} {idx : Nat} (a0 a : Nat) {n0' n1 : Nat} {f g : Nat → Int32} {sp dp n : Int32} (hd : decode (mB M) pc = .ok (.invokestatic idx, 3)) (hlink : Cond.methodLink (mO M) idx arraycopyName ∈ tbG) (hw0 : w[a0]? = some (cI n0' f)) (hw1 : w[a]? = some (cI n1 g)) (h1 : ¬ sp < 0) (h2 : ¬ dp < 0) (h3 : ¬ n < 0) (h4 : sp.toNatClampNeg + n.toNatClampNeg ≤ n0') (h5 : dp.toNatClampNeg + n.toNatClampNeg ≤ n1) (hst : st.length ≤ 2) (kk : Go M (d + 1) al bc bs (pc + 3) lv st (w.set a (cI n1 (va_cpy f g sp.toNatClampNeg dp.toNatClampNeg n.toNatClampNeg))) Q) : Go M (d + 1) al bc bs pc lv (vI n :: vI dp :: vR a :: vI sp :: vR a0 :: st) w Q := by
  intro p l e R s m args below meth c Fin dC dI cy b ad A MC MS n0 fx H locs cells slots ls hc hs hw hS ha hl
  refine va_copyi fx.1.1 fx.1.2 (fx.2.1.2.1.trans hl.1.symm) fx.2.1.2.2.1 (fx.2.2.1 _ hlink) (fx.2.2.1 _ tb_nat) (fx.2.2.1 _ tb_stat) (fx.2.2.1 _ tb_sys) fx.2.2.2.1 hw.1 hw.2 hS a0 a 0 0 (wl_get hw0) (wl_get hw1) rfl rfl rfl h1 h2 h3 h4 h5 (fun _ _ => rfl) (by have := fx.2.2.2.2.2.1.1; omega) ?_ hd (fun H1 locs1 e1 e2 e3 => ?_)
  · have h6 := cat_le b ad st
    have h7 := fx.2.2.2.2.2.1.2.1
    have h8 : nativeFrameWords "java/lang/System" "arraycopy" 5 + 11 ≤ 32 := by decide
    omega
  · exact (kk p l e R s m args below meth c Fin dC dI cy b ad A MC MS n0 fx H1 locs1 cells slots ls hc hs (ws_set rfl e1 e2) e3 ha.set hl)

theorem go_copyl {M : Mth} {d : Nat} {al : Bool} {bc bs pc : Nat} {lv : List (Option AV)} {st : List AV} {w : List AC} {Q : Option AV → List AC → Prop} {idx : Nat} (a0 a : Nat) {n0' n1 : Nat} {f g : Nat → Int64} {sp dp n : Int32} (hd : decode (mB M) pc = .ok (.invokestatic idx, 3)) (hlink : Cond.methodLink (mO M) idx arraycopyName ∈ tbG) (hw0 : w[a0]? = some (cJ n0' f)) (hw1 : w[a]? = some (cJ n1 g)) (h1 : ¬ sp < 0) (h2 : ¬ dp < 0) (h3 : ¬ n < 0) (h4 : sp.toNatClampNeg + n.toNatClampNeg ≤ n0') (h5 : dp.toNatClampNeg + n.toNatClampNeg ≤ n1) (hst : st.length ≤ 2) (kk : Go M (d + 1) al bc bs (pc + 3) lv st (w.set a (cJ n1 (va_cpy f g sp.toNatClampNeg dp.toNatClampNeg n.toNatClampNeg))) Q) : Go M (d + 1) al bc bs pc lv (vI n :: vI dp :: vR a :: vI sp :: vR a0 :: st) w Q := by
  intro p l e R s m args below meth c Fin dC dI cy b ad A MC MS n0 fx H locs cells slots ls hc hs hw hS ha hl
  refine va_copyl fx.1.1 fx.1.2 (fx.2.1.2.1.trans hl.1.symm) fx.2.1.2.2.1 (fx.2.2.1 _ hlink) (fx.2.2.1 _ tb_nat) (fx.2.2.1 _ tb_stat) (fx.2.2.1 _ tb_sys) fx.2.2.2.1 hw.1 hw.2 hS a0 a 1 1 (wl_get hw0) (wl_get hw1) rfl rfl rfl h1 h2 h3 h4 h5 (fun _ _ => rfl) (by have := fx.2.2.2.2.2.1.1; omega) ?_ hd (fun H1 locs1 e1 e2 e3 => ?_)
  · have h6 := cat_le b ad st
    have h7 := fx.2.2.2.2.2.1.2.1
    have h8 : nativeFrameWords "java/lang/System" "arraycopy" 5 + 11 ≤ 32 := by decide
    omega
  · exact (kk p l e R s m args below meth c Fin dC dI cy b ad A MC MS n0 fx H1 locs1 cells slots ls hc hs (ws_set rfl e1 e2) e3 ha.set hl)

theorem go_mmin {M : Mth} {d : Nat} {al : Bool} {bc bs pc : Nat} {lv : List (Option AV)} {st : List AV} {w : List AC} {Q : Option AV → List AC → Prop} {idx : Nat} {x y : Int32} (hd : decode (mB M) pc = .ok (.invokestatic idx, 3)) (hlink : Cond.methodLink (mO M) idx Lib.Math.min.name ∈ tbG) (hst : st.length ≤ 4) (kk : Go M (d + 1) al bc bs (pc + 3) lv (vI (if y < x then y else x) :: st) w Q) : Go M (d + 1) al bc bs pc lv (vI y :: vI x :: st) w Q := by
  intro p l e R s m args below meth c Fin dC dI cy b ad A MC MS n0 fx H locs cells slots ls hc hs hw hS ha hl
  refine va_mmin fx.1.1 fx.1.2 (fx.2.1.2.1.trans hl.1.symm) fx.2.1.2.2.1 (fx.2.2.1 _ hlink) (fx.2.2.1 _ tb_min1) (fx.2.2.1 _ tb_math) (fx.2.2.1 _ tb_min2) (by have := fx.2.2.2.2.2.1.1; omega) ?_ (by have := fx.2.2.2.2.2.1.2.2.1; omega) (by have := fx.2.2.2.2.2.1.2.2.2; omega) hd (kk p l e R s m args below meth c Fin dC dI cy b ad A MC MS n0 fx H locs cells slots ls hc hs hw hS ha hl)
  have h6 := cat_le b ad st
  have h7 := fx.2.2.2.2.2.1.2.1
  omega

theorem go_mmax {M : Mth} {d : Nat} {al : Bool} {bc bs pc : Nat} {lv : List (Option AV)} {st : List AV} {w : List AC} {Q : Option AV → List AC → Prop} {idx : Nat} {x y : Int32} (hd : decode (mB M) pc = .ok (.invokestatic idx, 3)) (hlink : Cond.methodLink (mO M) idx Lib.Math.max.name ∈ tbG) (hst : st.length ≤ 4) (kk : Go M (d + 1) al bc bs (pc + 3) lv (vI (if x < y then y else x) :: st) w Q) : Go M (d + 1) al bc bs pc lv (vI y :: vI x :: st) w Q := by
  intro p l e R s m args below meth c Fin dC dI cy b ad A MC MS n0 fx H locs cells slots ls hc hs hw hS ha hl
  refine va_mmax fx.1.1 fx.1.2 (fx.2.1.2.1.trans hl.1.symm) fx.2.1.2.2.1 (fx.2.2.1 _ hlink) (fx.2.2.1 _ tb_max1) (fx.2.2.1 _ tb_math) (fx.2.2.1 _ tb_max2) (by have := fx.2.2.2.2.2.1.1; omega) ?_ (by have := fx.2.2.2.2.2.1.2.2.1; omega) (by have := fx.2.2.2.2.2.1.2.2.2; omega) hd (kk p l e R s m args below meth c Fin dC dI cy b ad A MC MS n0 fx H locs cells slots ls hc hs hw hS ha hl)
  have h6 := cat_le b ad st
  have h7 := fx.2.2.2.2.2.1.2.1
  omega

theorem go_mabs {M : Mth} {d : Nat} {al : Bool} {bc bs pc : Nat} {lv : List (Option AV)} {st : List AV} {w : List AC} {Q : Option AV → List AC → Prop} {idx : Nat} {x : Int64} (hd : decode (mB M) pc = .ok (.invokestatic idx, 3)) (hlink : Cond.methodLink (mO M) idx Lib.MathLoose.abs_long.x ∈ tbG) (hst : st.length ≤ 4) (kk : Go M (d + 1) al bc bs (pc + 3) lv (vL (if 0 < x then x else -x) :: st) w Q) : Go M (d + 1) al bc bs pc lv (vL x :: st) w Q := by
  intro p l e R s m args below meth c Fin dC dI cy b ad A MC MS n0 fx H locs cells slots ls hc hs hw hS ha hl
  refine va_mabs_long fx.1.1 fx.1.2 (fx.2.1.2.1.trans hl.1.symm) fx.2.1.2.2.1 (fx.2.2.1 _ hlink) (fx.2.2.1 _ tb_abs1) (fx.2.2.1 _ tb_math) (fx.2.2.1 _ tb_abs2) (by have := fx.2.2.2.2.2.1.1; omega) ?_ (by have := fx.2.2.2.2.2.1.2.2.1; omega) (by have := fx.2.2.2.2.2.1.2.2.2; omega) hd (kk p l e R s m args below meth c Fin dC dI cy b ad A MC MS n0 fx H locs cells slots ls hc hs hw hS ha hl)
  have h6 := cat_le b ad st
  have h7 := fx.2.2.2.2.2.1.2.1
  omega

theorem go_objInit {M : Mth} {d : Nat} {al : Bool} {bc bs pc : Nat} {lv : List (Option AV)} {st : List AV} {w : List AC} {Q : Option AV → List AC → Prop} {idx a : Nat} (hd : decode (mB M) pc = .ok (.invokespecial idx, 3)) (hlink : Cond.methodLink (mO M) idx Lib.objectInit ∈ tbG) (hst : st.length ≤ 4) (kk : Go M (d + 1) al bc bs (pc + 3) lv st w Q) : Go M (d + 1) al bc bs pc lv (vR a :: st) w Q := by
  intro p l e R s m args below meth c Fin dC dI cy b ad A MC MS n0 fx H locs cells slots ls hc hs hw hS ha hl
  have h6 := cat_le b ad st
  have h7 := fx.2.2.2.2.2.1.2.1
  refine W.objInit fx.1.1 fx.1.2 fx.2.1.2.2.1 (fx.2.2.1 _ hlink) (fx.2.2.1 _ tb_ob1) (fx.2.2.1 _ tb_ob2) rfl (by rw [fx.2.1.2.1]; exact hl.1) rfl hd (by have := fx.2.2.2.2.2.1.1; omega) ?_ (kk p l e R s m args below meth c Fin dC dI cy b ad A MC MS n0 fx H locs cells slots ls hc hs hw hS ha hl)
  show 2 * 0 + _ + 12 ≤ _
  omega
