theorem tb_in {y : MethodName} {cb : ByteArray} {ml : Nat} {ret : Option FieldType} (h : Cond.code y cb ml ret ∈ tbG) : GoodIn tbG (Cond.code y cb ml ret :: tbG) := fun x hx => by
  have hm : x ∈ tbG := by
    rcases List.mem_cons.mp hx with rfl | h9
    · exact h
    · exact h9
  exact ⟨hm, good_of_word (List.mem_filter.mp hm).2⟩
theorem CP_blind {dC : Nat → ClassId} {dI : Nat → Nat → Nat} {cy : Nat → ClassId} {b : Nat} {ad : Nat → Nat} {sz : Nat} {al : Bool} {av : List AV} {w : List AC} : FrameBlind (CP dC dI cy b ad sz al av w) := fun a U g mk q => by
  obtain ⟨q0, q1, qP, qK, qD, qF, qN⟩ := q
  exact ⟨q0, q1, qP, va_K.moved (u := U) (U := U.calling g mk a) (Vm.Alike.refl U.vm) qK, qD, qF, qN.same rfl⟩
theorem HA_size {al : Bool} {w : List AC} {p : Program} {l : Launch} {e : Env} {R : Room} {s : State} {m : MethodId} {args : Array Value} {below : List Frame} {meth : Method} {c : Code} {Fin : State → Prop} {dC : Nat → ClassId} {dI : Nat → Nat → Nat} {cy : Nat → ClassId} {b : Nat} {ad : Nat → Nat} {A : Nat → Prop} {MC MS n0 : Nat} {M : Mth} {d bc : Nat} {Q : Option AV → List AC → Prop} {H : Heap} {locs : List Loc} {cells : Nat} (fx : Fx M d al Q p l e R s m args below meth c Fin dC dI cy b ad A MC MS n0) (hw : WS dC dI cy b ad A w H) (hS : va_S A s.heap H locs) (ha : HA al w n0 cells bc MC) (hsz : H.size ≤ s.heap.size + cells) : al = true → ∀ j : Nat, ad (w.length + j) = H.size + j := by
  intro h j
  have hf := fx.2.2.2.2.2.2.2.1 h
  have h1 := (ha.1 h).1
  have h2 : s.heap.size + cells ≤ H.size := by
    by_cases h0 : cells = 0
    · have := hS.1; omega
    · have hlt : w.length - 1 < w.length := by omega
      have h3 := (hw.1 (w.length - 1) _ (wl_get (List.getElem?_eq_getElem hlt))).lt
      have h4 := hf (cells - 1)
      rw [show n0 + (cells - 1) = w.length - 1 by omega] at h4
      have h5 : ad (w.length - 1) < H.size := h3
      omega
  have h6 := hf (cells + j)
  rw [show n0 + (cells + j) = w.length + j by omega] at h6
  omega
theorem CP_at {al : Bool} {w : List AC} {p : Program} {l : Launch} {e : Env} {R : Room} {s : State} {m : MethodId} {args : Array Value} {below : List Frame} {meth : Method} {c : Code} {Fin : State → Prop} {dC : Nat → ClassId} {dI : Nat → Nat → Nat} {cy : Nat → ClassId} {b : Nat} {ad : Nat → Nat} {A : Nat → Prop} {MC MS n0 : Nat} {M : Mth} {d bc : Nat} {Q : Option AV → List AC → Prop} {H : Heap} {locs : List Loc} {cells : Nat} (av : List AV) (fx : Fx M d al Q p l e R s m args below meth c Fin dC dI cy b ad A MC MS n0) (hw : WS dC dI cy b ad A w H) (hS : va_S A s.heap H locs) (ha : HA al w n0 cells bc MC) (hsz : H.size ≤ s.heap.size + cells) : ∀ U : State, U.heap = H → s.WarmedH U.vm → CP dC dI cy b ad H.size al av w (av.map (cv b ad)).toArray U := fun U hU hW =>
  ⟨rfl, by rw [hU], by rw [hU]; exact hw.1, va_K.moved hW.alike fx.2.2.2.1, hw.2.weaken (fun _ _ _ _ => trivial), HA_size fx hw hS ha hsz, fx.2.1.2.2.2.2.2.moved hW⟩
theorem call_after {al : Bool} {w : List AC} {p : Program} {l : Launch} {e : Env} {R : Room} {s : State} {m : MethodId} {args : Array Value} {below : List Frame} {meth : Method} {c : Code} {Fin : State → Prop} {dC : Nat → ClassId} {dI : Nat → Nat → Nat} {cy : Nat → ClassId} {b : Nat} {ad : Nat → Nat} {A : Nat → Prop} {MC MS n0 : Nat} {M : Mth} {d bc bs pc mc ms : Nat} {lv : List (Option AV)} {st : List AV} {Q Q' : Option AV → List AC → Prop} {H : Heap} {locs : List Loc} {cells slots : Nat} {ls : Array Slot} {st0 : List Value} {av : Array Value} (fx : Fx M d al Q p l e R s m args below meth c Fin dC dI cy b ad A MC MS n0) (hc : cells + (bc + mc) ≤ MC) (hs : slots + (bs + ms) ≤ MS) (hw : WS dC dI cy b ad A w H) (hS : va_S A s.heap H locs) (ha : HA al w n0 cells (bc + mc) MC) (hl : lvh b ad ls (mL M) lv)
    (hr : va_Run p l e R s m args below meth c H locs cells slots mc ms (F0 m pc ls st0) (st.map (cv b ad)) (CQ dC dI cy b ad H.size al w mc Q' av) (CAq ad w H.size)) (kk : ∀ r w', Q' r w' → Go M d al bc bs (pc + 3) lv (r.toList ++ st) w' Q) : W p l e R s m args below meth c H locs cells slots Fin (F0 m pc ls st0) := by
  intro T hT X
  obtain ⟨v, st₀, t, T', L, h0, X', hL, e1, e2, ⟨⟨r, w', hv, hq, hP1, hD1, hl1, hl2⟩, hz, hk⟩, stp⟩ := hr T hT X
  cases hv
  rw [h0] at hz hk
  have hA1 : ∀ q, CAq ad w H.size q → A q := by
    intro q h
    rcases h with ⟨k9, h1, rfl⟩ | h
    · exact hw.2.2 k9 _ (wl_get (List.getElem?_eq_getElem h1))
    · exact fx.2.2.2.2.1 q (Nat.le_trans hS.1 h)
  have hWS : WS dC dI cy b ad A w' T'.heap := ⟨by rw [e1]; exact hP1, hD1.weaken (fun _ _ _ h => hA1 _ h)⟩
  have hS' : va_S A s.heap T'.heap (locs ++ L) := by
    refine ⟨Nat.le_trans hS.1 (by rw [e1]; exact hz), fun q h1 h2 => ?_, fun q hq => ?_⟩
    · rw [e1, hk q (Nat.lt_of_lt_of_le h1 hS.1) (fun z => h2 (hA1 q z))]
      exact hS.2.1 q h1 h2
    · rcases List.mem_append.mp hq with h | h
      · exact hS.2.2 q h
      · exact hA1 _ (hL q h)
  have hHA : HA al w' n0 (cells + mc) bc MC := ⟨fun h => by have := ha.1 h; have := hl1 h; omega, fun h => by have := ha.2 h; have := hl2 h; omega⟩
  obtain ⟨t2, a1, b1⟩ := kk r w' hq p l e R s m args below meth c Fin dC dI cy b ad A MC MS n0 fx T'.heap (locs ++ L) (cells + mc) (slots + ms) ls (by omega) (by omega) hWS hS' hHA hl T' rfl X'
  refine ⟨t2, stp t2 ?_, b1⟩
  cases r with
  | none => exact a1
  | some x => exact a1
theorem rest_room (b : Nat) (ad : Nat → Nat) {st : List AV} (h : st.length ≤ 4) : ((st.map (cv b ad)).map fun v => v.category).sum ≤ 8 := by
  have := cat_le b ad st
  omega

theorem go_callV {M M' : Mth} {n d : Nat} {al : Bool} {bc bs pc mc ms : Nat} {lv : List (Option AV)} {stk : List AV} {w : List AC} {Q Q' : Option AV → List AC → Prop} {idx : Nat} {a : Nat} (as st : List AV) {ci : Nat} {fs : List AV} {q : vw_C} (hd : decode (mB M) pc = .ok (.invokevirtual idx, 3)) (hM : MK M' n) (hlink : Cond.methodLink (mO M) idx M'.1 ∈ tbG) (hin : Cond.instanceMethod M'.1 ∈ tbG ∧ Cond.selects M'.1.cls M'.1 M'.1 ∈ tbG) (hci : vwCl[ci]? = some q) (hq1 : q.1 = M'.1.cls) (hw0 : w[a]? = some (cO ci fs)) (hn : as.length = n) (hst : st.length ≤ 4) (hstk : stk = as.reverse ++ vR a :: st) (hcall : Calls M' d al mc ms (vR a :: as) w Q') (kk : ∀ r w', Q' r w' → Go M (d + 1) al bc bs (pc + 3) lv (r.toList ++ st) w' Q) : Go M (d + 1) al (bc + mc) (bs + ms) pc lv stk w Q := by
  intro p l e R s m args below meth c Fin dC dI cy b ad A MC MS n0 fx H locs cells slots ls hc hs hw hS ha hl
  subst hstk
  refine W_sized (fun hsz => call_after fx hc hs hw hS ha hl (av := (Value.ref (ad a) :: as.map (cv b ad)).toArray) ?_ kk)
  refine va_runV (As := as.map (cv b ad)) (rest := st.map (cv b ad)) (C := M'.1.cls) ⟨fx.1.1, fx.1.2, fx.2.1.2.1, fx.2.1.2.2.1, fx.2.2.1⟩ (hcall l dC dI cy b ad H.size) ⟨callB_of (rm := rmOf d mc ms) n fx.2.2.1 (tb_in hM.1) rfl rfl rfl (fx.2.2.1 _ hM.2.2.2.2.2.1) (fx.2.2.1 _ hlink) hM.2.2.2.2.1 ⟨by have := fx.2.2.2.2.2.1.1; show d + 1 ≤ _; omega, by have := fx.2.2.2.2.2.1.2.1; have := hM.2.2.2.1; show 8 + (mL M' + 11) + 36 * d ≤ _; omega⟩, fx.2.2.1 _ hin.1, fx.2.2.1 _ hin.2⟩ ⟨CP_blind, ?_, CP_at (vR a :: as) fx hw hS ha hsz⟩ rfl (by rw [List.length_map]; exact hn) hl.1 (by simp [List.map_reverse, cv, va_rf]) (lv_room (rest_room b ad hst)) hd ⟨by have := fx.2.2.2.2.2.1.2.2.1; omega, by have := fx.2.2.2.2.2.1.2.2.2; omega⟩
  have := va_recv (q := q) fx.2.2.2.1 hw.1 hci (wl_get hw0)
  rw [hq1] at this
  exact this
theorem go_callS {M M' : Mth} {n d : Nat} {al : Bool} {bc bs pc mc ms : Nat} {lv : List (Option AV)} {stk : List AV} {w : List AC} {Q Q' : Option AV → List AC → Prop} {idx : Nat} (as st : List AV) (hd : decode (mB M) pc = .ok (.invokestatic idx, 3)) (hM : MK M' n) (hlink : Cond.methodLink (mO M) idx M'.1 ∈ tbG) (hst0 : Cond.static M'.1 ∈ tbG) (hn : as.length = n) (hst : st.length ≤ 4) (hstk : stk = as.reverse ++ st) (hcall : Calls M' d al mc ms as w Q') (kk : ∀ r w', Q' r w' → Go M (d + 1) al bc bs (pc + 3) lv (r.toList ++ st) w' Q) : Go M (d + 1) al (bc + mc) (bs + ms) pc lv stk w Q := by
  intro p l e R s m args below meth c Fin dC dI cy b ad A MC MS n0 fx H locs cells slots ls hc hs hw hS ha hl
  subst hstk
  refine W_sized (fun hsz => call_after fx hc hs hw hS ha hl (av := (as.map (cv b ad)).toArray) ?_ kk)
  exact va_runS (As := as.map (cv b ad)) (rest := st.map (cv b ad)) ⟨fx.1.1, fx.1.2, fx.2.1.2.1, fx.2.1.2.2.1, fx.2.2.1⟩ (hcall l dC dI cy b ad H.size) ⟨callB_of (rm := rmOf d mc ms) n fx.2.2.1 (tb_in hM.1) rfl rfl rfl (fx.2.2.1 _ hM.2.2.2.2.2.1) (fx.2.2.1 _ hlink) hM.2.2.2.2.1 ⟨by have := fx.2.2.2.2.2.1.1; show d + 1 ≤ _; omega, by have := fx.2.2.2.2.2.1.2.1; have := hM.2.2.2.1; show 8 + (mL M' + 11) + 36 * d ≤ _; omega⟩, fx.2.2.1 _ hst0⟩ ⟨CP_blind, CP_at as fx hw hS ha hsz⟩ rfl (by rw [List.length_map]; exact hn) hl.1 (by simp [List.map_reverse]) (lv_room (rest_room b ad hst)) hd ⟨by have := fx.2.2.2.2.2.1.2.2.1; omega, by have := fx.2.2.2.2.2.1.2.2.2; omega⟩
theorem go_callI {M M' : Mth} {n d : Nat} {al : Bool} {bc bs pc mc ms : Nat} {lv : List (Option AV)} {stk : List AV} {w : List AC} {Q Q' : Option AV → List AC → Prop} {idx : Nat} {a : Nat} (as st : List AV) (hd : decode (mB M) pc = .ok (.invokespecial idx, 3)) (hM : MK M' n) (hlink : Cond.methodLink (mO M) idx M'.1 ∈ tbG) (hin : Cond.instanceMethod M'.1 ∈ tbG ∧ M'.1.name = "<init>" ∧ mT M' = none) (hn : as.length = n) (hst : st.length ≤ 4) (hstk : stk = as.reverse ++ vR a :: st) (hcall : Calls M' d al mc ms (vR a :: as) w Q') (kk : ∀ r w', Q' r w' → Go M (d + 1) al bc bs (pc + 3) lv (r.toList ++ st) w' Q) : Go M (d + 1) al (bc + mc) (bs + ms) pc lv stk w Q := by
  intro p l e R s m args below meth c Fin dC dI cy b ad A MC MS n0 fx H locs cells slots ls hc hs hw hS ha hl
  subst hstk
  refine W_sized (fun hsz => call_after fx hc hs hw hS ha hl (av := (Value.ref (ad a) :: as.map (cv b ad)).toArray) ?_ kk)
  have hc1 := callB_of (R := R) (rm := rmOf d mc ms) n fx.2.2.1 (tb_in hM.1) rfl rfl rfl (fx.2.2.1 _ hM.2.2.2.2.2.1) (fx.2.2.1 _ hlink) hM.2.2.2.2.1 ⟨by have := fx.2.2.2.2.2.1.1; show d + 1 ≤ _; omega, by have := fx.2.2.2.2.2.1.2.1; have := hM.2.2.2.1; show 8 + (mL M' + 11) + 36 * d ≤ _; omega⟩
  rw [hin.2.2] at hc1
  have hm1 := hcall l dC dI cy b ad H.size
  rw [hin.2.2] at hm1
  exact va_runI (As := as.map (cv b ad)) (rest := st.map (cv b ad)) ⟨fx.1.1, fx.1.2, fx.2.1.2.1, fx.2.1.2.2.1, fx.2.2.1⟩ hm1 ⟨hc1, hin.2.1, fx.2.2.1 _ hin.1⟩ ⟨CP_blind, CP_at (vR a :: as) fx hw hS ha hsz⟩ rfl (by rw [List.length_map]; exact hn) hl.1 (by simp [List.map_reverse, cv, va_rf]) (lv_room (rest_room b ad hst)) hd ⟨by have := fx.2.2.2.2.2.1.2.2.1; omega, by have := fx.2.2.2.2.2.1.2.2.2; omega⟩
theorem go_callIN {M M' : Mth} {n d : Nat} {al : Bool} {bc bs pc mc ms : Nat} {lv : List (Option AV)} {stk : List AV} {w : List AC} {Q Q' : Option AV → List AC → Prop} {idx : Nat} {a : Nat} {host : String} (as st : List AV) (hd : decode (mB M) pc = .ok (.invokespecial idx, 3)) (hM : MK M' n) (hlink : ∀ U : State, NX U → va_Nw (.methodLinkNest (mO M) idx M'.1 host) U) (hin : Cond.instanceMethod M'.1 ∈ tbG ∧ M'.1.name = "<init>" ∧ mT M' = none) (hn : as.length = n) (hst : st.length ≤ 4) (hstk : stk = as.reverse ++ vR a :: st) (hcall : Calls M' d al mc ms (vR a :: as) w Q') (kk : ∀ r w', Q' r w' → Go M (d + 1) al bc bs (pc + 3) lv (r.toList ++ st) w' Q) : Go M (d + 1) al (bc + mc) (bs + ms) pc lv stk w Q := by
  intro p l e R s m args below meth c Fin dC dI cy b ad A MC MS n0 fx H locs cells slots ls hc hs hw hS ha hl
  subst hstk
  refine W_sized (fun hsz => call_after fx hc hs hw hS ha hl (av := (Value.ref (ad a) :: as.map (cv b ad)).toArray) ?_ kk)
  have hc1 := va_cnB (R := R) n fx.2.2.1 (tb_in hM.1) rfl (rm := rmOf d mc ms) rfl rfl (hlink s fx.2.1.2.2.2.2.2) (fx.2.2.1 _ hM.2.2.2.2.2.1) hM.2.2.2.2.1 ⟨by have := fx.2.2.2.2.2.1.1; show d + 1 ≤ _; omega, by have := fx.2.2.2.2.2.1.2.1; have := hM.2.2.2.1; show 8 + (mL M' + 11) + 36 * d ≤ _; omega⟩
  rw [hin.2.2] at hc1
  have hm1 := hcall l dC dI cy b ad H.size
  rw [hin.2.2] at hm1
  exact va_runIN (As := as.map (cv b ad)) (rest := st.map (cv b ad)) ⟨fx.1.1, fx.1.2, fx.2.1.2.1, fx.2.1.2.2.1, fx.2.2.1⟩ hm1 ⟨hc1, hin.2.1, fx.2.2.1 _ hin.1⟩ ⟨CP_blind, CP_at (vR a :: as) fx hw hS ha hsz⟩ rfl (by rw [List.length_map]; exact hn) hl.1 (by simp [List.map_reverse, cv, va_rf]) (lv_room (rest_room b ad hst)) hd ⟨by have := fx.2.2.2.2.2.1.2.2.1; omega, by have := fx.2.2.2.2.2.1.2.2.2; omega⟩
