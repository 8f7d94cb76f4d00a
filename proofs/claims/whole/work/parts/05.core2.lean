theorem go_iconst {M : Mth} {d : Nat} {al : Bool} {bc bs pc : Nat} {lv : List (Option AV)} {st : List AV} {w : List AC} {Q : Option AV → List AC → Prop} {n : Int} (v : Int32) (hd : decode (mB M) pc = .ok (.iconst n, 1)) (hv : Int32.ofInt n = v) (k : Go M d al bc bs (pc + 1) lv (vI v :: st) w Q) : Go M d al bc bs pc lv st w Q := by
  intro p l e R s m args below meth c Fin dC dI cy b ad A MC MS n0 fx H locs cells slots ls hc hs hw hS ha hl
  exact lv_iconst fx.1.1 fx.1.2 hd hv (k p l e R s m args below meth c Fin dC dI cy b ad A MC MS n0 fx H locs cells slots ls hc hs hw hS ha hl)

theorem go_bipush {M : Mth} {d : Nat} {al : Bool} {bc bs pc : Nat} {lv : List (Option AV)} {st : List AV} {w : List AC} {Q : Option AV → List AC → Prop} {n : Int} (v : Int32) (hd : decode (mB M) pc = .ok (.bipush n, 2)) (hv : (Int8.ofInt n).toInt32 = v) (k : Go M d al bc bs (pc + 2) lv (vI v :: st) w Q) : Go M d al bc bs pc lv st w Q := by
  intro p l e R s m args below meth c Fin dC dI cy b ad A MC MS n0 fx H locs cells slots ls hc hs hw hS ha hl
  exact lv_bipush fx.1.1 fx.1.2 hd hv (k p l e R s m args below meth c Fin dC dI cy b ad A MC MS n0 fx H locs cells slots ls hc hs hw hS ha hl)

theorem go_sipush {M : Mth} {d : Nat} {al : Bool} {bc bs pc : Nat} {lv : List (Option AV)} {st : List AV} {w : List AC} {Q : Option AV → List AC → Prop} {n : Int} (v : Int32) (hd : decode (mB M) pc = .ok (.sipush n, 3)) (hv : (Int16.ofInt n).toInt32 = v) (k : Go M d al bc bs (pc + 3) lv (vI v :: st) w Q) : Go M d al bc bs pc lv st w Q := by
  intro p l e R s m args below meth c Fin dC dI cy b ad A MC MS n0 fx H locs cells slots ls hc hs hw hS ha hl
  exact lv_sipush fx.1.1 fx.1.2 hd hv (k p l e R s m args below meth c Fin dC dI cy b ad A MC MS n0 fx H locs cells slots ls hc hs hw hS ha hl)

theorem go_lconst {M : Mth} {d : Nat} {al : Bool} {bc bs pc : Nat} {lv : List (Option AV)} {st : List AV} {w : List AC} {Q : Option AV → List AC → Prop} {n : Fin 2} (v : Int64) (hd : decode (mB M) pc = .ok (.lconst n, 1)) (hv : Int64.ofNat (n : Nat) = v) (k : Go M d al bc bs (pc + 1) lv (vL v :: st) w Q) : Go M d al bc bs pc lv st w Q := by
  intro p l e R s m args below meth c Fin dC dI cy b ad A MC MS n0 fx H locs cells slots ls hc hs hw hS ha hl
  exact lv_lconst fx.1.1 fx.1.2 hd hv (k p l e R s m args below meth c Fin dC dI cy b ad A MC MS n0 fx H locs cells slots ls hc hs hw hS ha hl)

theorem go_null {M : Mth} {d : Nat} {al : Bool} {bc bs pc : Nat} {lv : List (Option AV)} {st : List AV} {w : List AC} {Q : Option AV → List AC → Prop}  (hd : decode (mB M) pc = .ok (.aconst_null, 1)) (k : Go M d al bc bs (pc + 1) lv (vN :: st) w Q) : Go M d al bc bs pc lv st w Q := by
  intro p l e R s m args below meth c Fin dC dI cy b ad A MC MS n0 fx H locs cells slots ls hc hs hw hS ha hl
  exact lv_null fx.1.1 fx.1.2 hd (k p l e R s m args below meth c Fin dC dI cy b ad A MC MS n0 fx H locs cells slots ls hc hs hw hS ha hl)

theorem go_ldc {M : Mth} {d : Nat} {al : Bool} {bc bs pc : Nat} {lv : List (Option AV)} {st : List AV} {w : List AC} {Q : Option AV → List AC → Prop} {idx : Nat} (v : Int32) (hd : decode (mB M) pc = .ok (.ldc idx, 2)) (hv : Cond.constant (mO M) idx v ∈ tbG) (k : Go M d al bc bs (pc + 2) lv (vI v :: st) w Q) : Go M d al bc bs pc lv st w Q := by
  intro p l e R s m args below meth c Fin dC dI cy b ad A MC MS n0 fx H locs cells slots ls hc hs hw hS ha hl
  exact lv_ldc fx.1.1 fx.1.2 fx.2.1.2.2.1 (fx.2.2.1 _ hv) hd (k p l e R s m args below meth c Fin dC dI cy b ad A MC MS n0 fx H locs cells slots ls hc hs hw hS ha hl)

theorem go_ldcw {M : Mth} {d : Nat} {al : Bool} {bc bs pc : Nat} {lv : List (Option AV)} {st : List AV} {w : List AC} {Q : Option AV → List AC → Prop} {idx : Nat} (v : Int32) (hd : decode (mB M) pc = .ok (.ldc_w idx, 3)) (hv : Cond.constant (mO M) idx v ∈ tbG) (k : Go M d al bc bs (pc + 3) lv (vI v :: st) w Q) : Go M d al bc bs pc lv st w Q := by
  intro p l e R s m args below meth c Fin dC dI cy b ad A MC MS n0 fx H locs cells slots ls hc hs hw hS ha hl
  exact lv_ldcw fx.1.1 fx.1.2 fx.2.1.2.2.1 (fx.2.2.1 _ hv) hd (k p l e R s m args below meth c Fin dC dI cy b ad A MC MS n0 fx H locs cells slots ls hc hs hw hS ha hl)

theorem go_ldc2 {M : Mth} {d : Nat} {al : Bool} {bc bs pc : Nat} {lv : List (Option AV)} {st : List AV} {w : List AC} {Q : Option AV → List AC → Prop} {idx : Nat} (v : Int64) (hd : decode (mB M) pc = .ok (.ldc2_w idx, 3)) (hv : Cond.constantLong (mO M) idx v ∈ tbG) (k : Go M d al bc bs (pc + 3) lv (vL v :: st) w Q) : Go M d al bc bs pc lv st w Q := by
  intro p l e R s m args below meth c Fin dC dI cy b ad A MC MS n0 fx H locs cells slots ls hc hs hw hS ha hl
  exact lv_ldc2 fx.1.1 fx.1.2 fx.2.1.2.2.1 (fx.2.2.1 _ hv) hd (k p l e R s m args below meth c Fin dC dI cy b ad A MC MS n0 fx H locs cells slots ls hc hs hw hS ha hl)

theorem go_iload_n {M : Mth} {d : Nat} {al : Bool} {bc bs pc : Nat} {lv : List (Option AV)} {st : List AV} {w : List AC} {Q : Option AV → List AC → Prop} {k4 : Fin 4} (i : Nat) {x : Int32} (hd : decode (mB M) pc = .ok (.iload_n k4, 1)) (hi : (k4 : Nat) = i) (hx : lv[i]? = some (some (vI x))) (k : Go M d al bc bs (pc + 1) lv (vI x :: st) w Q) : Go M d al bc bs pc lv st w Q := by
  intro p l e R s m args below meth c Fin dC dI cy b ad A MC MS n0 fx H locs cells slots ls hc hs hw hS ha hl
  exact lv_iload_n fx.1.1 fx.1.2 hd hi (hl.2.2 i _ hx) (k p l e R s m args below meth c Fin dC dI cy b ad A MC MS n0 fx H locs cells slots ls hc hs hw hS ha hl)

theorem go_iload {M : Mth} {d : Nat} {al : Bool} {bc bs pc : Nat} {lv : List (Option AV)} {st : List AV} {w : List AC} {Q : Option AV → List AC → Prop} {i : Nat} {x : Int32} (hd : decode (mB M) pc = .ok (.iload i, 2)) (hx : lv[i]? = some (some (vI x))) (k : Go M d al bc bs (pc + 2) lv (vI x :: st) w Q) : Go M d al bc bs pc lv st w Q := by
  intro p l e R s m args below meth c Fin dC dI cy b ad A MC MS n0 fx H locs cells slots ls hc hs hw hS ha hl
  exact lv_iload fx.1.1 fx.1.2 hd (hl.2.2 i _ hx) (k p l e R s m args below meth c Fin dC dI cy b ad A MC MS n0 fx H locs cells slots ls hc hs hw hS ha hl)

theorem go_lload_n {M : Mth} {d : Nat} {al : Bool} {bc bs pc : Nat} {lv : List (Option AV)} {st : List AV} {w : List AC} {Q : Option AV → List AC → Prop} {k4 : Fin 4} (i : Nat) {x : Int64} (hd : decode (mB M) pc = .ok (.lload_n k4, 1)) (hi : (k4 : Nat) = i) (hx : lv[i]? = some (some (vL x))) (k : Go M d al bc bs (pc + 1) lv (vL x :: st) w Q) : Go M d al bc bs pc lv st w Q := by
  intro p l e R s m args below meth c Fin dC dI cy b ad A MC MS n0 fx H locs cells slots ls hc hs hw hS ha hl
  exact lv_lload_n fx.1.1 fx.1.2 hd hi (hl.2.2 i _ hx) (k p l e R s m args below meth c Fin dC dI cy b ad A MC MS n0 fx H locs cells slots ls hc hs hw hS ha hl)

theorem go_lload {M : Mth} {d : Nat} {al : Bool} {bc bs pc : Nat} {lv : List (Option AV)} {st : List AV} {w : List AC} {Q : Option AV → List AC → Prop} {i : Nat} {x : Int64} (hd : decode (mB M) pc = .ok (.lload i, 2)) (hx : lv[i]? = some (some (vL x))) (k : Go M d al bc bs (pc + 2) lv (vL x :: st) w Q) : Go M d al bc bs pc lv st w Q := by
  intro p l e R s m args below meth c Fin dC dI cy b ad A MC MS n0 fx H locs cells slots ls hc hs hw hS ha hl
  exact lv_lload fx.1.1 fx.1.2 hd (hl.2.2 i _ hx) (k p l e R s m args below meth c Fin dC dI cy b ad A MC MS n0 fx H locs cells slots ls hc hs hw hS ha hl)

theorem go_aload_n {M : Mth} {d : Nat} {al : Bool} {bc bs pc : Nat} {lv : List (Option AV)} {st : List AV} {w : List AC} {Q : Option AV → List AC → Prop} {k4 : Fin 4} (i : Nat) {r : Option Nat} (hd : decode (mB M) pc = .ok (.aload_n k4, 1)) (hi : (k4 : Nat) = i) (hx : lv[i]? = some (some (vQ r))) (k : Go M d al bc bs (pc + 1) lv (vQ r :: st) w Q) : Go M d al bc bs pc lv st w Q := by
  intro p l e R s m args below meth c Fin dC dI cy b ad A MC MS n0 fx H locs cells slots ls hc hs hw hS ha hl
  have hx := hl.2.2 i _ hx
  have k1 := (k p l e R s m args below meth c Fin dC dI cy b ad A MC MS n0 fx H locs cells slots ls hc hs hw hS ha hl)
  cases r with
  | none => exact lv_aload_nN fx.1.1 fx.1.2 hd hi hx k1
  | some a => exact lv_aload_n fx.1.1 fx.1.2 hd hi hx k1

theorem go_aload {M : Mth} {d : Nat} {al : Bool} {bc bs pc : Nat} {lv : List (Option AV)} {st : List AV} {w : List AC} {Q : Option AV → List AC → Prop} {i : Nat} {r : Option Nat} (hd : decode (mB M) pc = .ok (.aload i, 2)) (hx : lv[i]? = some (some (vQ r))) (k : Go M d al bc bs (pc + 2) lv (vQ r :: st) w Q) : Go M d al bc bs pc lv st w Q := by
  intro p l e R s m args below meth c Fin dC dI cy b ad A MC MS n0 fx H locs cells slots ls hc hs hw hS ha hl
  have hx := hl.2.2 i _ hx
  have k1 := (k p l e R s m args below meth c Fin dC dI cy b ad A MC MS n0 fx H locs cells slots ls hc hs hw hS ha hl)
  cases r with
  | none => exact lv_aloadN fx.1.1 fx.1.2 hd hx k1
  | some a => exact lv_aload fx.1.1 fx.1.2 hd hx k1

theorem go_sload_n {M : Mth} {d : Nat} {al : Bool} {bc bs pc : Nat} {lv : List (Option AV)} {st : List AV} {w : List AC} {Q : Option AV → List AC → Prop} {k4 : Fin 4} (i : Nat) (hd : decode (mB M) pc = .ok (.aload_n k4, 1)) (hi : (k4 : Nat) = i) (hx : lv[i]? = some (some vS)) (k : Go M d al bc bs (pc + 1) lv (vS :: st) w Q) : Go M d al bc bs pc lv st w Q := by
  intro p l e R s m args below meth c Fin dC dI cy b ad A MC MS n0 fx H locs cells slots ls hc hs hw hS ha hl
  exact lv_aload_n fx.1.1 fx.1.2 hd hi (hl.2.2 i _ hx) (k p l e R s m args below meth c Fin dC dI cy b ad A MC MS n0 fx H locs cells slots ls hc hs hw hS ha hl)

theorem go_istore_n {M : Mth} {d : Nat} {al : Bool} {bc bs pc : Nat} {lv : List (Option AV)} {st : List AV} {w : List AC} {Q : Option AV → List AC → Prop} {k4 : Fin 4} (i : Nat) {x : Int32} (lv' : List (Option AV)) (hd : decode (mB M) pc = .ok (.istore_n k4, 1)) (hi : (k4 : Nat) = i) (hn : i < mL M) (hx : lvs 0 lv i (vI x) = lv') (k : Go M d al bc bs (pc + 1) lv' st w Q) : Go M d al bc bs pc lv (vI x :: st) w Q := by
  intro p l e R s m args below meth c Fin dC dI cy b ad A MC MS n0 fx H locs cells slots ls hc hs hw hS ha hl
  subst hx
  exact lv_istore_n fx.1.1 fx.1.2 hd hi (lvp_has hl) hn rfl (fun ls' hl' => (k p l e R s m args below meth c Fin dC dI cy b ad A MC MS n0 fx H locs cells slots ls' hc hs hw hS ha (lvs_has1 (v := vI x) rfl hl')))

theorem go_istore {M : Mth} {d : Nat} {al : Bool} {bc bs pc : Nat} {lv : List (Option AV)} {st : List AV} {w : List AC} {Q : Option AV → List AC → Prop} {i : Nat} {x : Int32} (lv' : List (Option AV)) (hd : decode (mB M) pc = .ok (.istore i, 2)) (hn : i < mL M) (hx : lvs 0 lv i (vI x) = lv') (k : Go M d al bc bs (pc + 2) lv' st w Q) : Go M d al bc bs pc lv (vI x :: st) w Q := by
  intro p l e R s m args below meth c Fin dC dI cy b ad A MC MS n0 fx H locs cells slots ls hc hs hw hS ha hl
  subst hx
  exact lv_istore fx.1.1 fx.1.2 hd (lvp_has hl) hn rfl (fun ls' hl' => (k p l e R s m args below meth c Fin dC dI cy b ad A MC MS n0 fx H locs cells slots ls' hc hs hw hS ha (lvs_has1 (v := vI x) rfl hl')))

theorem go_lstore_n {M : Mth} {d : Nat} {al : Bool} {bc bs pc : Nat} {lv : List (Option AV)} {st : List AV} {w : List AC} {Q : Option AV → List AC → Prop} {k4 : Fin 4} (i : Nat) {x : Int64} (lv' : List (Option AV)) (hd : decode (mB M) pc = .ok (.lstore_n k4, 1)) (hi : (k4 : Nat) = i) (hn : i + 1 < mL M) (hx : lvs 0 lv i (vL x) = lv') (k : Go M d al bc bs (pc + 1) lv' st w Q) : Go M d al bc bs pc lv (vL x :: st) w Q := by
  intro p l e R s m args below meth c Fin dC dI cy b ad A MC MS n0 fx H locs cells slots ls hc hs hw hS ha hl
  subst hx
  exact lv_lstore_n fx.1.1 fx.1.2 hd hi (lvp_has hl) hn rfl (fun ls' hl' => (k p l e R s m args below meth c Fin dC dI cy b ad A MC MS n0 fx H locs cells slots ls' hc hs hw hS ha (lvs_has2 (v := vL x) rfl hl')))

theorem go_lstore {M : Mth} {d : Nat} {al : Bool} {bc bs pc : Nat} {lv : List (Option AV)} {st : List AV} {w : List AC} {Q : Option AV → List AC → Prop} {i : Nat} {x : Int64} (lv' : List (Option AV)) (hd : decode (mB M) pc = .ok (.lstore i, 2)) (hn : i + 1 < mL M) (hx : lvs 0 lv i (vL x) = lv') (k : Go M d al bc bs (pc + 2) lv' st w Q) : Go M d al bc bs pc lv (vL x :: st) w Q := by
  intro p l e R s m args below meth c Fin dC dI cy b ad A MC MS n0 fx H locs cells slots ls hc hs hw hS ha hl
  subst hx
  exact lv_lstore fx.1.1 fx.1.2 hd (lvp_has hl) hn rfl (fun ls' hl' => (k p l e R s m args below meth c Fin dC dI cy b ad A MC MS n0 fx H locs cells slots ls' hc hs hw hS ha (lvs_has2 (v := vL x) rfl hl')))

theorem go_astore_n {M : Mth} {d : Nat} {al : Bool} {bc bs pc : Nat} {lv : List (Option AV)} {st : List AV} {w : List AC} {Q : Option AV → List AC → Prop} {k4 : Fin 4} (i : Nat) {r : Option Nat} (lv' : List (Option AV)) (hd : decode (mB M) pc = .ok (.astore_n k4, 1)) (hi : (k4 : Nat) = i) (hn : i < mL M) (hx : lvs 0 lv i (vQ r) = lv') (k : Go M d al bc bs (pc + 1) lv' st w Q) : Go M d al bc bs pc lv (vQ r :: st) w Q := by
  intro p l e R s m args below meth c Fin dC dI cy b ad A MC MS n0 fx H locs cells slots ls hc hs hw hS ha hl
  subst hx
  have kk : ∀ ls' : Array Slot, lv_has ls' (mL M) ((i, cv b ad (vQ r)) :: (lvp b ad lv).filter (fun q => !(q.1 == i) && !(q.1 + 1 == i && q.2.category == 2))) → W p l e R s m args below meth c H locs cells slots Fin (F0 m (pc + 1) ls' (st.map (cv b ad))) := fun ls' hl' => (k p l e R s m args below meth c Fin dC dI cy b ad A MC MS n0 fx H locs cells slots ls' hc hs hw hS ha (lvs_has1 (v := vQ r) rfl hl'))
  cases r with
  | none => exact lv_astore_nN fx.1.1 fx.1.2 hd hi (lvp_has hl) hn rfl kk
  | some a => exact lv_astore_n fx.1.1 fx.1.2 hd hi (lvp_has hl) hn rfl kk

theorem go_astore {M : Mth} {d : Nat} {al : Bool} {bc bs pc : Nat} {lv : List (Option AV)} {st : List AV} {w : List AC} {Q : Option AV → List AC → Prop} {i : Nat} {r : Option Nat} (lv' : List (Option AV)) (hd : decode (mB M) pc = .ok (.astore i, 2)) (hn : i < mL M) (hx : lvs 0 lv i (vQ r) = lv') (k : Go M d al bc bs (pc + 2) lv' st w Q) : Go M d al bc bs pc lv (vQ r :: st) w Q := by
  intro p l e R s m args below meth c Fin dC dI cy b ad A MC MS n0 fx H locs cells slots ls hc hs hw hS ha hl
  subst hx
  have kk : ∀ ls' : Array Slot, lv_has ls' (mL M) ((i, cv b ad (vQ r)) :: (lvp b ad lv).filter (fun q => !(q.1 == i) && !(q.1 + 1 == i && q.2.category == 2))) → W p l e R s m args below meth c H locs cells slots Fin (F0 m (pc + 2) ls' (st.map (cv b ad))) := fun ls' hl' => (k p l e R s m args below meth c Fin dC dI cy b ad A MC MS n0 fx H locs cells slots ls' hc hs hw hS ha (lvs_has1 (v := vQ r) rfl hl'))
  cases r with
  | none => exact lv_astoreN fx.1.1 fx.1.2 hd (lvp_has hl) hn rfl kk
  | some a => exact lv_astore fx.1.1 fx.1.2 hd (lvp_has hl) hn rfl kk

theorem go_iinc {M : Mth} {d : Nat} {al : Bool} {bc bs pc : Nat} {lv : List (Option AV)} {st : List AV} {w : List AC} {Q : Option AV → List AC → Prop} {i : Nat} {n : Int} {x : Int32} (v : Int32) (lv' : List (Option AV)) (hd : decode (mB M) pc = .ok (.iinc i n, 3)) (hx : lv[i]? = some (some (vI x))) (hv : x + Int32.ofInt n = v) (hn : i < mL M) (hl' : lvs 0 lv i (vI v) = lv') (k : Go M d al bc bs (pc + 3) lv' st w Q) : Go M d al bc bs pc lv st w Q := by
  intro p l e R s m args below meth c Fin dC dI cy b ad A MC MS n0 fx H locs cells slots ls hc hs hw hS ha hl
  subst hl'
  obtain ⟨k0, hk0⟩ := List.getElem?_of_mem (lvp_mem (b := b) (ad := ad) hx)
  exact lv_iinc fx.1.1 fx.1.2 hd (lvp_has hl) hk0 hv hn rfl (fun ls' hl' => (k p l e R s m args below meth c Fin dC dI cy b ad A MC MS n0 fx H locs cells slots ls' hc hs hw hS ha (lvs_has1 (v := vI v) rfl hl')))

theorem go_iadd {M : Mth} {d : Nat} {al : Bool} {bc bs pc : Nat} {lv : List (Option AV)} {st : List AV} {w : List AC} {Q : Option AV → List AC → Prop} {x y : Int32} (hd : decode (mB M) pc = .ok (.iadd, 1)) (k : Go M d al bc bs (pc + 1) lv (vI (x + y) :: st) w Q) : Go M d al bc bs pc lv (vI y :: vI x :: st) w Q := by
  intro p l e R s m args below meth c Fin dC dI cy b ad A MC MS n0 fx H locs cells slots ls hc hs hw hS ha hl
  exact lv_iadd fx.1.1 fx.1.2 hd (k p l e R s m args below meth c Fin dC dI cy b ad A MC MS n0 fx H locs cells slots ls hc hs hw hS ha hl)

theorem go_isub {M : Mth} {d : Nat} {al : Bool} {bc bs pc : Nat} {lv : List (Option AV)} {st : List AV} {w : List AC} {Q : Option AV → List AC → Prop} {x y : Int32} (hd : decode (mB M) pc = .ok (.isub, 1)) (k : Go M d al bc bs (pc + 1) lv (vI (x - y) :: st) w Q) : Go M d al bc bs pc lv (vI y :: vI x :: st) w Q := by
  intro p l e R s m args below meth c Fin dC dI cy b ad A MC MS n0 fx H locs cells slots ls hc hs hw hS ha hl
  exact lv_isub fx.1.1 fx.1.2 hd (k p l e R s m args below meth c Fin dC dI cy b ad A MC MS n0 fx H locs cells slots ls hc hs hw hS ha hl)

theorem go_imul {M : Mth} {d : Nat} {al : Bool} {bc bs pc : Nat} {lv : List (Option AV)} {st : List AV} {w : List AC} {Q : Option AV → List AC → Prop} {x y : Int32} (hd : decode (mB M) pc = .ok (.imul, 1)) (k : Go M d al bc bs (pc + 1) lv (vI (x * y) :: st) w Q) : Go M d al bc bs pc lv (vI y :: vI x :: st) w Q := by
  intro p l e R s m args below meth c Fin dC dI cy b ad A MC MS n0 fx H locs cells slots ls hc hs hw hS ha hl
  exact lv_imul fx.1.1 fx.1.2 hd (k p l e R s m args below meth c Fin dC dI cy b ad A MC MS n0 fx H locs cells slots ls hc hs hw hS ha hl)

theorem go_iand {M : Mth} {d : Nat} {al : Bool} {bc bs pc : Nat} {lv : List (Option AV)} {st : List AV} {w : List AC} {Q : Option AV → List AC → Prop} {x y : Int32} (hd : decode (mB M) pc = .ok (.iand, 1)) (k : Go M d al bc bs (pc + 1) lv (vI (x &&& y) :: st) w Q) : Go M d al bc bs pc lv (vI y :: vI x :: st) w Q := by
  intro p l e R s m args below meth c Fin dC dI cy b ad A MC MS n0 fx H locs cells slots ls hc hs hw hS ha hl
  exact lv_iand fx.1.1 fx.1.2 hd (k p l e R s m args below meth c Fin dC dI cy b ad A MC MS n0 fx H locs cells slots ls hc hs hw hS ha hl)

theorem go_ior {M : Mth} {d : Nat} {al : Bool} {bc bs pc : Nat} {lv : List (Option AV)} {st : List AV} {w : List AC} {Q : Option AV → List AC → Prop} {x y : Int32} (hd : decode (mB M) pc = .ok (.ior, 1)) (k : Go M d al bc bs (pc + 1) lv (vI (x ||| y) :: st) w Q) : Go M d al bc bs pc lv (vI y :: vI x :: st) w Q := by
  intro p l e R s m args below meth c Fin dC dI cy b ad A MC MS n0 fx H locs cells slots ls hc hs hw hS ha hl
  exact lv_ior fx.1.1 fx.1.2 hd (k p l e R s m args below meth c Fin dC dI cy b ad A MC MS n0 fx H locs cells slots ls hc hs hw hS ha hl)

theorem go_ixor {M : Mth} {d : Nat} {al : Bool} {bc bs pc : Nat} {lv : List (Option AV)} {st : List AV} {w : List AC} {Q : Option AV → List AC → Prop} {x y : Int32} (hd : decode (mB M) pc = .ok (.ixor, 1)) (k : Go M d al bc bs (pc + 1) lv (vI (x ^^^ y) :: st) w Q) : Go M d al bc bs pc lv (vI y :: vI x :: st) w Q := by
  intro p l e R s m args below meth c Fin dC dI cy b ad A MC MS n0 fx H locs cells slots ls hc hs hw hS ha hl
  exact lv_ixor fx.1.1 fx.1.2 hd (k p l e R s m args below meth c Fin dC dI cy b ad A MC MS n0 fx H locs cells slots ls hc hs hw hS ha hl)

theorem go_ishl {M : Mth} {d : Nat} {al : Bool} {bc bs pc : Nat} {lv : List (Option AV)} {st : List AV} {w : List AC} {Q : Option AV → List AC → Prop} {x y : Int32} (hd : decode (mB M) pc = .ok (.ishl, 1)) (k : Go M d al bc bs (pc + 1) lv (vI (x <<< (y &&& 31)) :: st) w Q) : Go M d al bc bs pc lv (vI y :: vI x :: st) w Q := by
  intro p l e R s m args below meth c Fin dC dI cy b ad A MC MS n0 fx H locs cells slots ls hc hs hw hS ha hl
  exact lv_ishl fx.1.1 fx.1.2 hd (k p l e R s m args below meth c Fin dC dI cy b ad A MC MS n0 fx H locs cells slots ls hc hs hw hS ha hl)

theorem go_ishr {M : Mth} {d : Nat} {al : Bool} {bc bs pc : Nat} {lv : List (Option AV)} {st : List AV} {w : List AC} {Q : Option AV → List AC → Prop} {x y : Int32} (hd : decode (mB M) pc = .ok (.ishr, 1)) (k : Go M d al bc bs (pc + 1) lv (vI (x >>> (y &&& 31)) :: st) w Q) : Go M d al bc bs pc lv (vI y :: vI x :: st) w Q := by
  intro p l e R s m args below meth c Fin dC dI cy b ad A MC MS n0 fx H locs cells slots ls hc hs hw hS ha hl
  exact lv_ishr fx.1.1 fx.1.2 hd (k p l e R s m args below meth c Fin dC dI cy b ad A MC MS n0 fx H locs cells slots ls hc hs hw hS ha hl)

theorem go_idiv {M : Mth} {d : Nat} {al : Bool} {bc bs pc : Nat} {lv : List (Option AV)} {st : List AV} {w : List AC} {Q : Option AV → List AC → Prop} {x y : Int32} (hd : decode (mB M) pc = .ok (.idiv, 1)) (hne : ¬ y = 0) (k : Go M d al bc bs (pc + 1) lv (vI (x / y) :: st) w Q) : Go M d al bc bs pc lv (vI y :: vI x :: st) w Q := by
  intro p l e R s m args below meth c Fin dC dI cy b ad A MC MS n0 fx H locs cells slots ls hc hs hw hS ha hl
  exact lv_idiv fx.1.1 fx.1.2 hd hne (k p l e R s m args below meth c Fin dC dI cy b ad A MC MS n0 fx H locs cells slots ls hc hs hw hS ha hl)

theorem go_irem {M : Mth} {d : Nat} {al : Bool} {bc bs pc : Nat} {lv : List (Option AV)} {st : List AV} {w : List AC} {Q : Option AV → List AC → Prop} {x y : Int32} (hd : decode (mB M) pc = .ok (.irem, 1)) (hne : ¬ y = 0) (k : Go M d al bc bs (pc + 1) lv (vI (x - x / y * y) :: st) w Q) : Go M d al bc bs pc lv (vI y :: vI x :: st) w Q := by
  intro p l e R s m args below meth c Fin dC dI cy b ad A MC MS n0 fx H locs cells slots ls hc hs hw hS ha hl
  exact lv_irem fx.1.1 fx.1.2 hd hne (k p l e R s m args below meth c Fin dC dI cy b ad A MC MS n0 fx H locs cells slots ls hc hs hw hS ha hl)

theorem go_ladd {M : Mth} {d : Nat} {al : Bool} {bc bs pc : Nat} {lv : List (Option AV)} {st : List AV} {w : List AC} {Q : Option AV → List AC → Prop} {x y : Int64} (hd : decode (mB M) pc = .ok (.ladd, 1)) (k : Go M d al bc bs (pc + 1) lv (vL (x + y) :: st) w Q) : Go M d al bc bs pc lv (vL y :: vL x :: st) w Q := by
  intro p l e R s m args below meth c Fin dC dI cy b ad A MC MS n0 fx H locs cells slots ls hc hs hw hS ha hl
  exact lv_ladd fx.1.1 fx.1.2 hd (k p l e R s m args below meth c Fin dC dI cy b ad A MC MS n0 fx H locs cells slots ls hc hs hw hS ha hl)

theorem go_lsub {M : Mth} {d : Nat} {al : Bool} {bc bs pc : Nat} {lv : List (Option AV)} {st : List AV} {w : List AC} {Q : Option AV → List AC → Prop} {x y : Int64} (hd : decode (mB M) pc = .ok (.lsub, 1)) (k : Go M d al bc bs (pc + 1) lv (vL (x - y) :: st) w Q) : Go M d al bc bs pc lv (vL y :: vL x :: st) w Q := by
  intro p l e R s m args below meth c Fin dC dI cy b ad A MC MS n0 fx H locs cells slots ls hc hs hw hS ha hl
  exact lv_lsub fx.1.1 fx.1.2 hd (k p l e R s m args below meth c Fin dC dI cy b ad A MC MS n0 fx H locs cells slots ls hc hs hw hS ha hl)

theorem go_lmul {M : Mth} {d : Nat} {al : Bool} {bc bs pc : Nat} {lv : List (Option AV)} {st : List AV} {w : List AC} {Q : Option AV → List AC → Prop} {x y : Int64} (hd : decode (mB M) pc = .ok (.lmul, 1)) (k : Go M d al bc bs (pc + 1) lv (vL (x * y) :: st) w Q) : Go M d al bc bs pc lv (vL y :: vL x :: st) w Q := by
  intro p l e R s m args below meth c Fin dC dI cy b ad A MC MS n0 fx H locs cells slots ls hc hs hw hS ha hl
  exact lv_lmul fx.1.1 fx.1.2 hd (k p l e R s m args below meth c Fin dC dI cy b ad A MC MS n0 fx H locs cells slots ls hc hs hw hS ha hl)

theorem go_land {M : Mth} {d : Nat} {al : Bool} {bc bs pc : Nat} {lv : List (Option AV)} {st : List AV} {w : List AC} {Q : Option AV → List AC → Prop} {x y : Int64} (hd : decode (mB M) pc = .ok (.land, 1)) (k : Go M d al bc bs (pc + 1) lv (vL (x &&& y) :: st) w Q) : Go M d al bc bs pc lv (vL y :: vL x :: st) w Q := by
  intro p l e R s m args below meth c Fin dC dI cy b ad A MC MS n0 fx H locs cells slots ls hc hs hw hS ha hl
  exact lv_land fx.1.1 fx.1.2 hd (k p l e R s m args below meth c Fin dC dI cy b ad A MC MS n0 fx H locs cells slots ls hc hs hw hS ha hl)

theorem go_lor {M : Mth} {d : Nat} {al : Bool} {bc bs pc : Nat} {lv : List (Option AV)} {st : List AV} {w : List AC} {Q : Option AV → List AC → Prop} {x y : Int64} (hd : decode (mB M) pc = .ok (.lor, 1)) (k : Go M d al bc bs (pc + 1) lv (vL (x ||| y) :: st) w Q) : Go M d al bc bs pc lv (vL y :: vL x :: st) w Q := by
  intro p l e R s m args below meth c Fin dC dI cy b ad A MC MS n0 fx H locs cells slots ls hc hs hw hS ha hl
  exact lv_lor fx.1.1 fx.1.2 hd (k p l e R s m args below meth c Fin dC dI cy b ad A MC MS n0 fx H locs cells slots ls hc hs hw hS ha hl)

theorem go_lxor {M : Mth} {d : Nat} {al : Bool} {bc bs pc : Nat} {lv : List (Option AV)} {st : List AV} {w : List AC} {Q : Option AV → List AC → Prop} {x y : Int64} (hd : decode (mB M) pc = .ok (.lxor, 1)) (k : Go M d al bc bs (pc + 1) lv (vL (x ^^^ y) :: st) w Q) : Go M d al bc bs pc lv (vL y :: vL x :: st) w Q := by
  intro p l e R s m args below meth c Fin dC dI cy b ad A MC MS n0 fx H locs cells slots ls hc hs hw hS ha hl
  exact lv_lxor fx.1.1 fx.1.2 hd (k p l e R s m args below meth c Fin dC dI cy b ad A MC MS n0 fx H locs cells slots ls hc hs hw hS ha hl)

theorem go_ldiv {M : Mth} {d : Nat} {al : Bool} {bc bs pc : Nat} {lv : List (Option AV)} {st : List AV} {w : List AC} {Q : Option AV → List AC → Prop} {x y : Int64} (hd : decode (mB M) pc = .ok (.ldiv, 1)) (hne : ¬ y = 0) (k : Go M d al bc bs (pc + 1) lv (vL (x / y) :: st) w Q) : Go M d al bc bs pc lv (vL y :: vL x :: st) w Q := by
  intro p l e R s m args below meth c Fin dC dI cy b ad A MC MS n0 fx H locs cells slots ls hc hs hw hS ha hl
  exact lv_ldiv fx.1.1 fx.1.2 hd hne (k p l e R s m args below meth c Fin dC dI cy b ad A MC MS n0 fx H locs cells slots ls hc hs hw hS ha hl)

theorem go_lrem {M : Mth} {d : Nat} {al : Bool} {bc bs pc : Nat} {lv : List (Option AV)} {st : List AV} {w : List AC} {Q : Option AV → List AC → Prop} {x y : Int64} (hd : decode (mB M) pc = .ok (.lrem, 1)) (hne : ¬ y = 0) (k : Go M d al bc bs (pc + 1) lv (vL (x - x / y * y) :: st) w Q) : Go M d al bc bs pc lv (vL y :: vL x :: st) w Q := by
  intro p l e R s m args below meth c Fin dC dI cy b ad A MC MS n0 fx H locs cells slots ls hc hs hw hS ha hl
  exact lv_lrem fx.1.1 fx.1.2 hd hne (k p l e R s m args below meth c Fin dC dI cy b ad A MC MS n0 fx H locs cells slots ls hc hs hw hS ha hl)

theorem go_ineg {M : Mth} {d : Nat} {al : Bool} {bc bs pc : Nat} {lv : List (Option AV)} {st : List AV} {w : List AC} {Q : Option AV → List AC → Prop} {x : Int32} (hd : decode (mB M) pc = .ok (.ineg, 1)) (k : Go M d al bc bs (pc + 1) lv (vI (-x) :: st) w Q) : Go M d al bc bs pc lv (vI x :: st) w Q := by
  intro p l e R s m args below meth c Fin dC dI cy b ad A MC MS n0 fx H locs cells slots ls hc hs hw hS ha hl
  exact lv_ineg fx.1.1 fx.1.2 hd (k p l e R s m args below meth c Fin dC dI cy b ad A MC MS n0 fx H locs cells slots ls hc hs hw hS ha hl)

theorem go_lneg {M : Mth} {d : Nat} {al : Bool} {bc bs pc : Nat} {lv : List (Option AV)} {st : List AV} {w : List AC} {Q : Option AV → List AC → Prop} {x : Int64} (hd : decode (mB M) pc = .ok (.lneg, 1)) (k : Go M d al bc bs (pc + 1) lv (vL (-x) :: st) w Q) : Go M d al bc bs pc lv (vL x :: st) w Q := by
  intro p l e R s m args below meth c Fin dC dI cy b ad A MC MS n0 fx H locs cells slots ls hc hs hw hS ha hl
  exact lv_lneg fx.1.1 fx.1.2 hd (k p l e R s m args below meth c Fin dC dI cy b ad A MC MS n0 fx H locs cells slots ls hc hs hw hS ha hl)

theorem go_i2l {M : Mth} {d : Nat} {al : Bool} {bc bs pc : Nat} {lv : List (Option AV)} {st : List AV} {w : List AC} {Q : Option AV → List AC → Prop} {x : Int32} (hd : decode (mB M) pc = .ok (.i2l, 1)) (k : Go M d al bc bs (pc + 1) lv (vL x.toInt64 :: st) w Q) : Go M d al bc bs pc lv (vI x :: st) w Q := by
  intro p l e R s m args below meth c Fin dC dI cy b ad A MC MS n0 fx H locs cells slots ls hc hs hw hS ha hl
  exact lv_i2l fx.1.1 fx.1.2 hd rfl (k p l e R s m args below meth c Fin dC dI cy b ad A MC MS n0 fx H locs cells slots ls hc hs hw hS ha hl)

theorem go_l2i {M : Mth} {d : Nat} {al : Bool} {bc bs pc : Nat} {lv : List (Option AV)} {st : List AV} {w : List AC} {Q : Option AV → List AC → Prop} {x : Int64} (hd : decode (mB M) pc = .ok (.l2i, 1)) (k : Go M d al bc bs (pc + 1) lv (vI x.toInt32 :: st) w Q) : Go M d al bc bs pc lv (vL x :: st) w Q := by
  intro p l e R s m args below meth c Fin dC dI cy b ad A MC MS n0 fx H locs cells slots ls hc hs hw hS ha hl
  exact lv_l2i fx.1.1 fx.1.2 hd rfl (k p l e R s m args below meth c Fin dC dI cy b ad A MC MS n0 fx H locs cells slots ls hc hs hw hS ha hl)

theorem go_iushr {M : Mth} {d : Nat} {al : Bool} {bc bs pc : Nat} {lv : List (Option AV)} {st : List AV} {w : List AC} {Q : Option AV → List AC → Prop} {x y : Int32} (hd : decode (mB M) pc = .ok (.iushr, 1)) (k : Go M d al bc bs (pc + 1) lv (vI ((x.toUInt32 >>> (y.toUInt32 &&& Int32.toUInt32 31)).toInt32) :: st) w Q) : Go M d al bc bs pc lv (vI y :: vI x :: st) w Q := by
  intro p l e R s m args below meth c Fin dC dI cy b ad A MC MS n0 fx H locs cells slots ls hc hs hw hS ha hl
  exact lv_iushr fx.1.1 fx.1.2 hd rfl (k p l e R s m args below meth c Fin dC dI cy b ad A MC MS n0 fx H locs cells slots ls hc hs hw hS ha hl)

theorem go_lushr {M : Mth} {d : Nat} {al : Bool} {bc bs pc : Nat} {lv : List (Option AV)} {st : List AV} {w : List AC} {Q : Option AV → List AC → Prop} {x : Int64} {y : Int32} (hd : decode (mB M) pc = .ok (.lushr, 1)) (k : Go M d al bc bs (pc + 1) lv (vL ((x.toUInt64 >>> (y.toInt64.toUInt64 &&& Int64.toUInt64 63)).toInt64) :: st) w Q) : Go M d al bc bs pc lv (vI y :: vL x :: st) w Q := by
  intro p l e R s m args below meth c Fin dC dI cy b ad A MC MS n0 fx H locs cells slots ls hc hs hw hS ha hl
  exact lv_lushr fx.1.1 fx.1.2 hd rfl (k p l e R s m args below meth c Fin dC dI cy b ad A MC MS n0 fx H locs cells slots ls hc hs hw hS ha hl)

theorem go_lshl {M : Mth} {d : Nat} {al : Bool} {bc bs pc : Nat} {lv : List (Option AV)} {st : List AV} {w : List AC} {Q : Option AV → List AC → Prop} {x : Int64} {y : Int32} (hd : decode (mB M) pc = .ok (.lshl, 1)) (k : Go M d al bc bs (pc + 1) lv (vL (x <<< (y.toInt64 &&& 63)) :: st) w Q) : Go M d al bc bs pc lv (vI y :: vL x :: st) w Q := by
  intro p l e R s m args below meth c Fin dC dI cy b ad A MC MS n0 fx H locs cells slots ls hc hs hw hS ha hl
  exact lv_lshl fx.1.1 fx.1.2 hd rfl (k p l e R s m args below meth c Fin dC dI cy b ad A MC MS n0 fx H locs cells slots ls hc hs hw hS ha hl)

theorem go_lshr {M : Mth} {d : Nat} {al : Bool} {bc bs pc : Nat} {lv : List (Option AV)} {st : List AV} {w : List AC} {Q : Option AV → List AC → Prop} {x : Int64} {y : Int32} (hd : decode (mB M) pc = .ok (.lshr, 1)) (k : Go M d al bc bs (pc + 1) lv (vL (x >>> (y.toInt64 &&& 63)) :: st) w Q) : Go M d al bc bs pc lv (vI y :: vL x :: st) w Q := by
  intro p l e R s m args below meth c Fin dC dI cy b ad A MC MS n0 fx H locs cells slots ls hc hs hw hS ha hl
  exact lv_lshr fx.1.1 fx.1.2 hd rfl (k p l e R s m args below meth c Fin dC dI cy b ad A MC MS n0 fx H locs cells slots ls hc hs hw hS ha hl)

theorem go_lcmp {M : Mth} {d : Nat} {al : Bool} {bc bs pc : Nat} {lv : List (Option AV)} {st : List AV} {w : List AC} {Q : Option AV → List AC → Prop} {x y : Int64} (hd : decode (mB M) pc = .ok (.lcmp, 1)) (k : Go M d al bc bs (pc + 1) lv (vI (lg_cmp x y) :: st) w Q) : Go M d al bc bs pc lv (vL y :: vL x :: st) w Q := by
  intro p l e R s m args below meth c Fin dC dI cy b ad A MC MS n0 fx H locs cells slots ls hc hs hw hS ha hl
  exact W.lcmp fx.1.1 fx.1.2 hd (k p l e R s m args below meth c Fin dC dI cy b ad A MC MS n0 fx H locs cells slots ls hc hs hw hS ha hl)

theorem go_dup {M : Mth} {d : Nat} {al : Bool} {bc bs pc : Nat} {lv : List (Option AV)} {st : List AV} {w : List AC} {Q : Option AV → List AC → Prop} {v : AV} (hd : decode (mB M) pc = .ok (.dup, 1)) (hv : isL v = false) (k : Go M d al bc bs (pc + 1) lv (v :: v :: st) w Q) : Go M d al bc bs pc lv (v :: st) w Q := by
  intro p l e R s m args below meth c Fin dC dI cy b ad A MC MS n0 fx H locs cells slots ls hc hs hw hS ha hl
  exact lv_dup fx.1.1 fx.1.2 hd (by rw [cv_cat, hv]; rfl) (k p l e R s m args below meth c Fin dC dI cy b ad A MC MS n0 fx H locs cells slots ls hc hs hw hS ha hl)

theorem go_pop {M : Mth} {d : Nat} {al : Bool} {bc bs pc : Nat} {lv : List (Option AV)} {st : List AV} {w : List AC} {Q : Option AV → List AC → Prop} {v : AV} (hd : decode (mB M) pc = .ok (.pop, 1)) (hv : isL v = false) (k : Go M d al bc bs (pc + 1) lv st w Q) : Go M d al bc bs pc lv (v :: st) w Q := by
  intro p l e R s m args below meth c Fin dC dI cy b ad A MC MS n0 fx H locs cells slots ls hc hs hw hS ha hl
  exact lv_pop fx.1.1 fx.1.2 hd (by rw [cv_cat, hv]; rfl) (k p l e R s m args below meth c Fin dC dI cy b ad A MC MS n0 fx H locs cells slots ls hc hs hw hS ha hl)

theorem go_dup2 {M : Mth} {d : Nat} {al : Bool} {bc bs pc : Nat} {lv : List (Option AV)} {st : List AV} {w : List AC} {Q : Option AV → List AC → Prop} {v u : AV} (hd : decode (mB M) pc = .ok (.dup2, 1)) (hv : isL v = false) (hu : isL u = false) (k : Go M d al bc bs (pc + 1) lv (v :: u :: v :: u :: st) w Q) : Go M d al bc bs pc lv (v :: u :: st) w Q := by
  intro p l e R s m args below meth c Fin dC dI cy b ad A MC MS n0 fx H locs cells slots ls hc hs hw hS ha hl
  exact lv_dup2_11 fx.1.1 fx.1.2 hd (by rw [cv_cat, hv]; rfl) (by rw [cv_cat, hu]; rfl) (k p l e R s m args below meth c Fin dC dI cy b ad A MC MS n0 fx H locs cells slots ls hc hs hw hS ha hl)

theorem go_dup2L {M : Mth} {d : Nat} {al : Bool} {bc bs pc : Nat} {lv : List (Option AV)} {st : List AV} {w : List AC} {Q : Option AV → List AC → Prop} {v : AV} (hd : decode (mB M) pc = .ok (.dup2, 1)) (hv : isL v = true) (k : Go M d al bc bs (pc + 1) lv (v :: v :: st) w Q) : Go M d al bc bs pc lv (v :: st) w Q := by
  intro p l e R s m args below meth c Fin dC dI cy b ad A MC MS n0 fx H locs cells slots ls hc hs hw hS ha hl
  exact lv_dup2_2 fx.1.1 fx.1.2 hd (by rw [cv_cat, hv]; rfl) (k p l e R s m args below meth c Fin dC dI cy b ad A MC MS n0 fx H locs cells slots ls hc hs hw hS ha hl)

theorem go_if_eq {M : Mth} {d : Nat} {al : Bool} {bc bs pc : Nat} {lv : List (Option AV)} {st : List AV} {w : List AC} {Q : Option AV → List AC → Prop} {x : Int32} {off : Int} (tgt : Nat) (hd : decode (mB M) pc = .ok (.ifCond .eq off, 3)) (ht : (pc : Int) + off = (tgt : Int)) (kt : x = 0 → Go M d al bc bs tgt lv st w Q) (kf : ¬ x = 0 → Go M d al bc bs (pc + 3) lv st w Q) : Go M d al bc bs pc lv (vI x :: st) w Q := by
  intro p l e R s m args below meth c Fin dC dI cy b ad A MC MS n0 fx H locs cells slots ls hc hs hw hS ha hl
  exact lv_if_eq fx.1.1 fx.1.2 hd ht (fun h => (kt h p l e R s m args below meth c Fin dC dI cy b ad A MC MS n0 fx H locs cells slots ls hc hs hw hS ha hl)) (fun h => (kf h p l e R s m args below meth c Fin dC dI cy b ad A MC MS n0 fx H locs cells slots ls hc hs hw hS ha hl))

theorem go_icmp_eq {M : Mth} {d : Nat} {al : Bool} {bc bs pc : Nat} {lv : List (Option AV)} {st : List AV} {w : List AC} {Q : Option AV → List AC → Prop} {x y : Int32} {off : Int} (tgt : Nat) (hd : decode (mB M) pc = .ok (.if_icmp .eq off, 3)) (ht : (pc : Int) + off = (tgt : Int)) (kt : x = y → Go M d al bc bs tgt lv st w Q) (kf : ¬ x = y → Go M d al bc bs (pc + 3) lv st w Q) : Go M d al bc bs pc lv (vI y :: vI x :: st) w Q := by
  intro p l e R s m args below meth c Fin dC dI cy b ad A MC MS n0 fx H locs cells slots ls hc hs hw hS ha hl
  exact lv_icmp_eq fx.1.1 fx.1.2 hd ht (fun h => (kt h p l e R s m args below meth c Fin dC dI cy b ad A MC MS n0 fx H locs cells slots ls hc hs hw hS ha hl)) (fun h => (kf h p l e R s m args below meth c Fin dC dI cy b ad A MC MS n0 fx H locs cells slots ls hc hs hw hS ha hl))

theorem go_if_ne {M : Mth} {d : Nat} {al : Bool} {bc bs pc : Nat} {lv : List (Option AV)} {st : List AV} {w : List AC} {Q : Option AV → List AC → Prop} {x : Int32} {off : Int} (tgt : Nat) (hd : decode (mB M) pc = .ok (.ifCond .ne off, 3)) (ht : (pc : Int) + off = (tgt : Int)) (kt : ¬ x = 0 → Go M d al bc bs tgt lv st w Q) (kf : x = 0 → Go M d al bc bs (pc + 3) lv st w Q) : Go M d al bc bs pc lv (vI x :: st) w Q := by
  intro p l e R s m args below meth c Fin dC dI cy b ad A MC MS n0 fx H locs cells slots ls hc hs hw hS ha hl
  exact lv_if_ne fx.1.1 fx.1.2 hd ht (fun h => (kt h p l e R s m args below meth c Fin dC dI cy b ad A MC MS n0 fx H locs cells slots ls hc hs hw hS ha hl)) (fun h => (kf h p l e R s m args below meth c Fin dC dI cy b ad A MC MS n0 fx H locs cells slots ls hc hs hw hS ha hl))

theorem go_icmp_ne {M : Mth} {d : Nat} {al : Bool} {bc bs pc : Nat} {lv : List (Option AV)} {st : List AV} {w : List AC} {Q : Option AV → List AC → Prop} {x y : Int32} {off : Int} (tgt : Nat) (hd : decode (mB M) pc = .ok (.if_icmp .ne off, 3)) (ht : (pc : Int) + off = (tgt : Int)) (kt : ¬ x = y → Go M d al bc bs tgt lv st w Q) (kf : x = y → Go M d al bc bs (pc + 3) lv st w Q) : Go M d al bc bs pc lv (vI y :: vI x :: st) w Q := by
  intro p l e R s m args below meth c Fin dC dI cy b ad A MC MS n0 fx H locs cells slots ls hc hs hw hS ha hl
  exact lv_icmp_ne fx.1.1 fx.1.2 hd ht (fun h => (kt h p l e R s m args below meth c Fin dC dI cy b ad A MC MS n0 fx H locs cells slots ls hc hs hw hS ha hl)) (fun h => (kf h p l e R s m args below meth c Fin dC dI cy b ad A MC MS n0 fx H locs cells slots ls hc hs hw hS ha hl))

theorem go_if_lt {M : Mth} {d : Nat} {al : Bool} {bc bs pc : Nat} {lv : List (Option AV)} {st : List AV} {w : List AC} {Q : Option AV → List AC → Prop} {x : Int32} {off : Int} (tgt : Nat) (hd : decode (mB M) pc = .ok (.ifCond .lt off, 3)) (ht : (pc : Int) + off = (tgt : Int)) (kt : x < 0 → Go M d al bc bs tgt lv st w Q) (kf : ¬ x < 0 → Go M d al bc bs (pc + 3) lv st w Q) : Go M d al bc bs pc lv (vI x :: st) w Q := by
  intro p l e R s m args below meth c Fin dC dI cy b ad A MC MS n0 fx H locs cells slots ls hc hs hw hS ha hl
  exact lv_if_lt fx.1.1 fx.1.2 hd ht (fun h => (kt h p l e R s m args below meth c Fin dC dI cy b ad A MC MS n0 fx H locs cells slots ls hc hs hw hS ha hl)) (fun h => (kf h p l e R s m args below meth c Fin dC dI cy b ad A MC MS n0 fx H locs cells slots ls hc hs hw hS ha hl))

theorem go_icmp_lt {M : Mth} {d : Nat} {al : Bool} {bc bs pc : Nat} {lv : List (Option AV)} {st : List AV} {w : List AC} {Q : Option AV → List AC → Prop} {x y : Int32} {off : Int} (tgt : Nat) (hd : decode (mB M) pc = .ok (.if_icmp .lt off, 3)) (ht : (pc : Int) + off = (tgt : Int)) (kt : x < y → Go M d al bc bs tgt lv st w Q) (kf : ¬ x < y → Go M d al bc bs (pc + 3) lv st w Q) : Go M d al bc bs pc lv (vI y :: vI x :: st) w Q := by
  intro p l e R s m args below meth c Fin dC dI cy b ad A MC MS n0 fx H locs cells slots ls hc hs hw hS ha hl
  exact lv_icmp_lt fx.1.1 fx.1.2 hd ht (fun h => (kt h p l e R s m args below meth c Fin dC dI cy b ad A MC MS n0 fx H locs cells slots ls hc hs hw hS ha hl)) (fun h => (kf h p l e R s m args below meth c Fin dC dI cy b ad A MC MS n0 fx H locs cells slots ls hc hs hw hS ha hl))

theorem go_if_ge {M : Mth} {d : Nat} {al : Bool} {bc bs pc : Nat} {lv : List (Option AV)} {st : List AV} {w : List AC} {Q : Option AV → List AC → Prop} {x : Int32} {off : Int} (tgt : Nat) (hd : decode (mB M) pc = .ok (.ifCond .ge off, 3)) (ht : (pc : Int) + off = (tgt : Int)) (kt : 0 ≤ x → Go M d al bc bs tgt lv st w Q) (kf : ¬ 0 ≤ x → Go M d al bc bs (pc + 3) lv st w Q) : Go M d al bc bs pc lv (vI x :: st) w Q := by
  intro p l e R s m args below meth c Fin dC dI cy b ad A MC MS n0 fx H locs cells slots ls hc hs hw hS ha hl
  exact lv_if_ge fx.1.1 fx.1.2 hd ht (fun h => (kt h p l e R s m args below meth c Fin dC dI cy b ad A MC MS n0 fx H locs cells slots ls hc hs hw hS ha hl)) (fun h => (kf h p l e R s m args below meth c Fin dC dI cy b ad A MC MS n0 fx H locs cells slots ls hc hs hw hS ha hl))

theorem go_icmp_ge {M : Mth} {d : Nat} {al : Bool} {bc bs pc : Nat} {lv : List (Option AV)} {st : List AV} {w : List AC} {Q : Option AV → List AC → Prop} {x y : Int32} {off : Int} (tgt : Nat) (hd : decode (mB M) pc = .ok (.if_icmp .ge off, 3)) (ht : (pc : Int) + off = (tgt : Int)) (kt : y ≤ x → Go M d al bc bs tgt lv st w Q) (kf : ¬ y ≤ x → Go M d al bc bs (pc + 3) lv st w Q) : Go M d al bc bs pc lv (vI y :: vI x :: st) w Q := by
  intro p l e R s m args below meth c Fin dC dI cy b ad A MC MS n0 fx H locs cells slots ls hc hs hw hS ha hl
  exact lv_icmp_ge fx.1.1 fx.1.2 hd ht (fun h => (kt h p l e R s m args below meth c Fin dC dI cy b ad A MC MS n0 fx H locs cells slots ls hc hs hw hS ha hl)) (fun h => (kf h p l e R s m args below meth c Fin dC dI cy b ad A MC MS n0 fx H locs cells slots ls hc hs hw hS ha hl))

theorem go_if_gt {M : Mth} {d : Nat} {al : Bool} {bc bs pc : Nat} {lv : List (Option AV)} {st : List AV} {w : List AC} {Q : Option AV → List AC → Prop} {x : Int32} {off : Int} (tgt : Nat) (hd : decode (mB M) pc = .ok (.ifCond .gt off, 3)) (ht : (pc : Int) + off = (tgt : Int)) (kt : 0 < x → Go M d al bc bs tgt lv st w Q) (kf : ¬ 0 < x → Go M d al bc bs (pc + 3) lv st w Q) : Go M d al bc bs pc lv (vI x :: st) w Q := by
  intro p l e R s m args below meth c Fin dC dI cy b ad A MC MS n0 fx H locs cells slots ls hc hs hw hS ha hl
  exact lv_if_gt fx.1.1 fx.1.2 hd ht (fun h => (kt h p l e R s m args below meth c Fin dC dI cy b ad A MC MS n0 fx H locs cells slots ls hc hs hw hS ha hl)) (fun h => (kf h p l e R s m args below meth c Fin dC dI cy b ad A MC MS n0 fx H locs cells slots ls hc hs hw hS ha hl))

theorem go_icmp_gt {M : Mth} {d : Nat} {al : Bool} {bc bs pc : Nat} {lv : List (Option AV)} {st : List AV} {w : List AC} {Q : Option AV → List AC → Prop} {x y : Int32} {off : Int} (tgt : Nat) (hd : decode (mB M) pc = .ok (.if_icmp .gt off, 3)) (ht : (pc : Int) + off = (tgt : Int)) (kt : y < x → Go M d al bc bs tgt lv st w Q) (kf : ¬ y < x → Go M d al bc bs (pc + 3) lv st w Q) : Go M d al bc bs pc lv (vI y :: vI x :: st) w Q := by
  intro p l e R s m args below meth c Fin dC dI cy b ad A MC MS n0 fx H locs cells slots ls hc hs hw hS ha hl
  exact lv_icmp_gt fx.1.1 fx.1.2 hd ht (fun h => (kt h p l e R s m args below meth c Fin dC dI cy b ad A MC MS n0 fx H locs cells slots ls hc hs hw hS ha hl)) (fun h => (kf h p l e R s m args below meth c Fin dC dI cy b ad A MC MS n0 fx H locs cells slots ls hc hs hw hS ha hl))

theorem go_if_le {M : Mth} {d : Nat} {al : Bool} {bc bs pc : Nat} {lv : List (Option AV)} {st : List AV} {w : List AC} {Q : Option AV → List AC → Prop} {x : Int32} {off : Int} (tgt : Nat) (hd : decode (mB M) pc = .ok (.ifCond .le off, 3)) (ht : (pc : Int) + off = (tgt : Int)) (kt : x ≤ 0 → Go M d al bc bs tgt lv st w Q) (kf : ¬ x ≤ 0 → Go M d al bc bs (pc + 3) lv st w Q) : Go M d al bc bs pc lv (vI x :: st) w Q := by
  intro p l e R s m args below meth c Fin dC dI cy b ad A MC MS n0 fx H locs cells slots ls hc hs hw hS ha hl
  exact lv_if_le fx.1.1 fx.1.2 hd ht (fun h => (kt h p l e R s m args below meth c Fin dC dI cy b ad A MC MS n0 fx H locs cells slots ls hc hs hw hS ha hl)) (fun h => (kf h p l e R s m args below meth c Fin dC dI cy b ad A MC MS n0 fx H locs cells slots ls hc hs hw hS ha hl))

theorem go_icmp_le {M : Mth} {d : Nat} {al : Bool} {bc bs pc : Nat} {lv : List (Option AV)} {st : List AV} {w : List AC} {Q : Option AV → List AC → Prop} {x y : Int32} {off : Int} (tgt : Nat) (hd : decode (mB M) pc = .ok (.if_icmp .le off, 3)) (ht : (pc : Int) + off = (tgt : Int)) (kt : x ≤ y → Go M d al bc bs tgt lv st w Q) (kf : ¬ x ≤ y → Go M d al bc bs (pc + 3) lv st w Q) : Go M d al bc bs pc lv (vI y :: vI x :: st) w Q := by
  intro p l e R s m args below meth c Fin dC dI cy b ad A MC MS n0 fx H locs cells slots ls hc hs hw hS ha hl
  exact lv_icmp_le fx.1.1 fx.1.2 hd ht (fun h => (kt h p l e R s m args below meth c Fin dC dI cy b ad A MC MS n0 fx H locs cells slots ls hc hs hw hS ha hl)) (fun h => (kf h p l e R s m args below meth c Fin dC dI cy b ad A MC MS n0 fx H locs cells slots ls hc hs hw hS ha hl))

theorem go_goto {M : Mth} {d : Nat} {al : Bool} {bc bs pc : Nat} {lv : List (Option AV)} {st : List AV} {w : List AC} {Q : Option AV → List AC → Prop} {off : Int} (tgt : Nat) (hd : decode (mB M) pc = .ok (.goto off, 3)) (ht : (pc : Int) + off = (tgt : Int)) (k : Go M d al bc bs tgt lv st w Q) : Go M d al bc bs pc lv st w Q := by
  intro p l e R s m args below meth c Fin dC dI cy b ad A MC MS n0 fx H locs cells slots ls hc hs hw hS ha hl
  exact lv_goto fx.1.1 fx.1.2 hd ht (k p l e R s m args below meth c Fin dC dI cy b ad A MC MS n0 fx H locs cells slots ls hc hs hw hS ha hl)

theorem go_ifnull {M : Mth} {d : Nat} {al : Bool} {bc bs pc : Nat} {lv : List (Option AV)} {st : List AV} {w : List AC} {Q : Option AV → List AC → Prop} {r : Option Nat} {off : Int} (tgt : Nat) (hd : decode (mB M) pc = .ok (.ifnull off, 3)) (ht : (pc : Int) + off = (tgt : Int)) (kt : r = none → Go M d al bc bs tgt lv st w Q) (kf : ∀ a, r = some a → Go M d al bc bs (pc + 3) lv st w Q) : Go M d al bc bs pc lv (vQ r :: st) w Q := by
  intro p l e R s m args below meth c Fin dC dI cy b ad A MC MS n0 fx H locs cells slots ls hc hs hw hS ha hl
  cases r with
  | none => exact lv_ifnullN fx.1.1 fx.1.2 hd ht (kt rfl p l e R s m args below meth c Fin dC dI cy b ad A MC MS n0 fx H locs cells slots ls hc hs hw hS ha hl)
  | some a => exact lv_ifnull fx.1.1 fx.1.2 hd (kf a rfl p l e R s m args below meth c Fin dC dI cy b ad A MC MS n0 fx H locs cells slots ls hc hs hw hS ha hl)

theorem go_ifnonnull {M : Mth} {d : Nat} {al : Bool} {bc bs pc : Nat} {lv : List (Option AV)} {st : List AV} {w : List AC} {Q : Option AV → List AC → Prop} {r : Option Nat} {off : Int} (tgt : Nat) (hd : decode (mB M) pc = .ok (.ifnonnull off, 3)) (ht : (pc : Int) + off = (tgt : Int)) (kt : ∀ a, r = some a → Go M d al bc bs tgt lv st w Q) (kf : r = none → Go M d al bc bs (pc + 3) lv st w Q) : Go M d al bc bs pc lv (vQ r :: st) w Q := by
  intro p l e R s m args below meth c Fin dC dI cy b ad A MC MS n0 fx H locs cells slots ls hc hs hw hS ha hl
  cases r with
  | none => exact lv_ifnonnullN fx.1.1 fx.1.2 hd (kf rfl p l e R s m args below meth c Fin dC dI cy b ad A MC MS n0 fx H locs cells slots ls hc hs hw hS ha hl)
  | some a => exact lv_ifnonnull fx.1.1 fx.1.2 hd ht (kt a rfl p l e R s m args below meth c Fin dC dI cy b ad A MC MS n0 fx H locs cells slots ls hc hs hw hS ha hl)

theorem go_tableIn {M : Mth} {d : Nat} {al : Bool} {bc bs pc : Nat} {lv : List (Option AV)} {st : List AV} {w : List AC} {Q : Option AV → List AC → Prop} {x : Int32} {dflt lo hi : Int} {offs : Array Int} {len : Nat} {off : Int} (tgt : Nat) (hd : decode (mB M) pc = .ok (.tableswitch dflt lo hi offs, len)) (h1 : ¬ x.toInt < lo) (h2 : ¬ hi < x.toInt) (ho : offs[(x.toInt - lo).toNat]? = some off) (ht : (pc : Int) + off = (tgt : Int)) (k : Go M d al bc bs tgt lv st w Q) : Go M d al bc bs pc lv (vI x :: st) w Q := by
  intro p l e R s m args below meth c Fin dC dI cy b ad A MC MS n0 fx H locs cells slots ls hc hs hw hS ha hl
  exact lv_tableIn fx.1.1 fx.1.2 hd h1 h2 ho ht (k p l e R s m args below meth c Fin dC dI cy b ad A MC MS n0 fx H locs cells slots ls hc hs hw hS ha hl)

theorem go_tableOut {M : Mth} {d : Nat} {al : Bool} {bc bs pc : Nat} {lv : List (Option AV)} {st : List AV} {w : List AC} {Q : Option AV → List AC → Prop} {x : Int32} {dflt lo hi : Int} {offs : Array Int} {len : Nat} (tgt : Nat) (hd : decode (mB M) pc = .ok (.tableswitch dflt lo hi offs, len)) (h : x.toInt < lo ∨ hi < x.toInt) (ht : (pc : Int) + dflt = (tgt : Int)) (k : Go M d al bc bs tgt lv st w Q) : Go M d al bc bs pc lv (vI x :: st) w Q := by
  intro p l e R s m args below meth c Fin dC dI cy b ad A MC MS n0 fx H locs cells slots ls hc hs hw hS ha hl
  exact lv_tableOut fx.1.1 fx.1.2 hd h ht (k p l e R s m args below meth c Fin dC dI cy b ad A MC MS n0 fx H locs cells slots ls hc hs hw hS ha hl)

theorem go_lookup {M : Mth} {d : Nat} {al : Bool} {bc bs pc : Nat} {lv : List (Option AV)} {st : List AV} {w : List AC} {Q : Option AV → List AC → Prop} {x : Int32} {dflt : Int} {ps : Array (Int × Int)} {len : Nat} {off : Int} (tgt : Nat) (hd : decode (mB M) pc = .ok (.lookupswitch dflt ps, len)) (hp : (ps.toList.zip (ps.toList.drop 1)).all (fun (a, next) => a.1 < next.1) = true) (ho : Op.lookupswitch.offset ps.toList dflt x.toInt = off) (ht : (pc : Int) + off = (tgt : Int)) (k : Go M d al bc bs tgt lv st w Q) : Go M d al bc bs pc lv (vI x :: st) w Q := by
  intro p l e R s m args below meth c Fin dC dI cy b ad A MC MS n0 fx H locs cells slots ls hc hs hw hS ha hl
  exact lv_lookup fx.1.1 fx.1.2 hd hp ho ht (k p l e R s m args below meth c Fin dC dI cy b ad A MC MS n0 fx H locs cells slots ls hc hs hw hS ha hl)

theorem go_ireturn {M : Mth} {d : Nat} {al : Bool} {bc bs pc : Nat} {lv : List (Option AV)} {st : List AV} {w : List AC} {Q : Option AV → List AC → Prop} {x : Int32} {ty : FieldType} (hd : decode (mB M) pc = .ok (.ireturn, 1)) (ht : mT M = some ty) (hn : narrow ty (.int x) = .int x) (hbc : al = true → bc = 0) (hq : Q (some (vI x)) w) : Go M d al bc bs pc lv [vI x] w Q := by
  intro p l e R s m args below meth c Fin dC dI cy b ad A MC MS n0 fx H locs cells slots ls hc hs hw hS ha hl
  exact fx.2.2.2.2.2.2.2.2 (some (vI x)) w H locs cells slots pc ls hq hw hS (by omega) (by omega) ⟨fun h => ⟨(ha.1 h).1, by have := (ha.1 h).2; have := hbc h; omega⟩, ha.2⟩ ⟨hd, ty, ht, hn⟩

theorem go_lreturn {M : Mth} {d : Nat} {al : Bool} {bc bs pc : Nat} {lv : List (Option AV)} {st : List AV} {w : List AC} {Q : Option AV → List AC → Prop} {x : Int64} (hd : decode (mB M) pc = .ok (.lreturn, 1)) (ht : mT M = some .long) (hbc : al = true → bc = 0) (hq : Q (some (vL x)) w) : Go M d al bc bs pc lv [vL x] w Q := by
  intro p l e R s m args below meth c Fin dC dI cy b ad A MC MS n0 fx H locs cells slots ls hc hs hw hS ha hl
  exact fx.2.2.2.2.2.2.2.2 (some (vL x)) w H locs cells slots pc ls hq hw hS (by omega) (by omega) ⟨fun h => ⟨(ha.1 h).1, by have := (ha.1 h).2; have := hbc h; omega⟩, ha.2⟩ ⟨hd, ht⟩

theorem go_areturn {M : Mth} {d : Nat} {al : Bool} {bc bs pc : Nat} {lv : List (Option AV)} {st : List AV} {w : List AC} {Q : Option AV → List AC → Prop} {x : Option Nat} {C : String} (hd : decode (mB M) pc = .ok (.areturn, 1)) (ht : mT M = some (.object C)) (hbc : al = true → bc = 0) (hq : Q (some (vQ x)) w) : Go M d al bc bs pc lv [vQ x] w Q := by
  intro p l e R s m args below meth c Fin dC dI cy b ad A MC MS n0 fx H locs cells slots ls hc hs hw hS ha hl
  exact fx.2.2.2.2.2.2.2.2 (some (vQ x)) w H locs cells slots pc ls hq hw hS (by omega) (by omega) ⟨fun h => ⟨(ha.1 h).1, by have := (ha.1 h).2; have := hbc h; omega⟩, ha.2⟩ ⟨hd, C, ht⟩

theorem go_return {M : Mth} {d : Nat} {al : Bool} {bc bs pc : Nat} {lv : List (Option AV)} {st : List AV} {w : List AC} {Q : Option AV → List AC → Prop}  (hd : decode (mB M) pc = .ok (.return_, 1)) (ht : mT M = none) (hbc : al = true → bc = 0) (hq : Q none w) : Go M d al bc bs pc lv [] w Q := by
  intro p l e R s m args below meth c Fin dC dI cy b ad A MC MS n0 fx H locs cells slots ls hc hs hw hS ha hl
  exact fx.2.2.2.2.2.2.2.2 none w H locs cells slots pc ls hq hw hS (by omega) (by omega) ⟨fun h => ⟨(ha.1 h).1, by have := (ha.1 h).2; have := hbc h; omega⟩, ha.2⟩ ⟨hd, ht⟩
