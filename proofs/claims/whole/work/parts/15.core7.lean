section
theorem sh_stack {b : Nat} {ad : Nat → Nat} {o a : Nat} (as st : List AV) : ((as.map (shV o)).reverse ++ vR (o + a) :: st).map (cv b ad) = (as.map (cv b (fun k => ad (o + k)))).reverse ++ Value.ref (ad (o + a)) :: st.map (cv b ad) := by
  rw [List.map_append, List.map_reverse, List.map_map, List.map_cons]
  congr 2
  apply List.map_congr_left
  intro v _
  exact cv_sh v
theorem call_afterF {al al' : Bool} {pre w post : List AC} {p : Program} {l : Launch} {e : Env} {R : Room} {s : State} {m : MethodId} {args : Array Value} {below : List Frame} {meth : Method} {c : Code} {Fin : State → Prop} {dC : Nat → ClassId} {dI : Nat → Nat → Nat} {cy : Nat → ClassId} {b : Nat} {ad : Nat → Nat} {A : Nat → Prop} {MC MS n0 : Nat} {M : Mth} {d bc bs pc mc ms : Nat} {lv : List (Option AV)} {st : List AV} {Q Q' : Option AV → List AC → Prop} {H : Heap} {locs : List Loc} {cells slots : Nat} {ls : Array Slot} {st0 : List Value} {av : Array Value} (hpost : al' = true → al = true ∧ post = []) (hmc : al' = false → mc = 0) (fx : Fx M d al Q p l e R s m args below meth c Fin dC dI cy b ad A MC MS n0) (hc : cells + (bc + mc) ≤ MC) (hs : slots + (bs + ms) ≤ MS) (hw : WS dC dI cy b ad A (wIn pre w post) H) (hS : va_S A s.heap H locs) (ha : HA al (wIn pre w post) n0 cells (bc + mc) MC) (hl : lvh b ad ls (mL M) lv)
    (hr : va_Run p l e R s m args below meth c H locs cells slots mc ms (F0 m pc ls st0) (st.map (cv b ad)) (CQ dC dI cy b (fun k => ad (pre.length + k)) H.size al' w mc Q' av) (CAq (fun k => ad (pre.length + k)) w H.size)) (kk : ∀ r w', Q' r w' → Go M d al bc bs (pc + 3) lv ((r.map (shV pre.length)).toList ++ st) (wIn pre w' post) Q) : W p l e R s m args below meth c H locs cells slots Fin (F0 m pc ls st0) := by
  intro T hT X
  obtain ⟨v, st₀, t, T', L, h0, X', hL, e1, e2, ⟨⟨r, w', hv, hq, hP1, hD1, hl1, hl2⟩, hz, hk⟩, stp⟩ := hr T hT X
  cases hv
  rw [h0] at hz hk
  have hA1 : ∀ q, CAq (fun k => ad (pre.length + k)) w H.size q → A q := by
    intro q h
    rcases h with ⟨k9, h1, rfl⟩ | h
    · exact hw.2.2 _ _ (wl_get (wIn_mid (List.getElem?_eq_getElem h1)))
    · exact fx.2.2.2.2.1 q (Nat.le_trans hS.1 h)
  have hlen : w'.length = w.length ∨ post = [] := by
    cases h : al' with
    | true => exact Or.inr (hpost h).2
    | false => exact Or.inl (hl2 h)
  have hWS : WS dC dI cy b ad A (wIn pre w' post) T'.heap := wIn_back hw hA1 hlen (by rw [e1]; exact hP1) hD1 (fun q h1 h2 => by rw [e1]; exact hk q h1 h2)
  have hS' : va_S A s.heap T'.heap (locs ++ L) := by
    refine ⟨Nat.le_trans hS.1 (by rw [e1]; exact hz), fun q h1 h2 => ?_, fun q hq => ?_⟩
    · rw [e1, hk q (Nat.lt_of_lt_of_le h1 hS.1) (fun z => h2 (hA1 q z))]
      exact hS.2.1 q h1 h2
    · rcases List.mem_append.mp hq with h | h
      · exact hS.2.2 q h
      · exact hA1 _ (hL q h)
  have hHA : HA al (wIn pre w' post) n0 (cells + mc) bc MC := by
    have hx : w'.length = w.length + mc := by
      cases h : al' with
      | true => exact hl1 h
      | false => rw [hl2 h, hmc h]; rfl
    refine ⟨fun h => ?_, fun h => ?_⟩
    · have h1 := ha.1 h
      rw [wIn_len] at h1 ⊢
      omega
    · have h1 := ha.2 h
      rw [wIn_len] at h1 ⊢
      have h2 : mc = 0 := by
        cases h9 : al' with
        | true => rw [(hpost h9).1] at h; cases h
        | false => exact hmc h9
      omega
  obtain ⟨t2, a1, b1⟩ := kk r w' hq p l e R s m args below meth c Fin dC dI cy b ad A MC MS n0 fx T'.heap (locs ++ L) (cells + mc) (slots + ms) ls (by omega) (by omega) hWS hS' hHA hl T' rfl X'
  refine ⟨t2, stp t2 ?_, b1⟩
  cases r with
  | none => exact a1
  | some x =>
    have hx : cv b ad (shV pre.length x) = cv b (fun k => ad (pre.length + k)) x := cv_sh x
    have a2 : Steps p.tables e below (T'.setTop (F0 m (pc + 3) ls (cv b ad (shV pre.length x) :: st.map (cv b ad)))) t2 := a1
    rw [hx] at a2
    exact a2
theorem go_callVF {M M' : Mth} {n d : Nat} {al : Bool} {bc bs pc : Nat} {lv : List (Option AV)} {stk : List AV} {pre w post : List AC} {Q Q' : Option AV → List AC → Prop} {idx a : Nat} (as st : List AV) {ci : Nat} {fs : List AV} {q : vw_C} (hd : decode (mB M) pc = .ok (.invokevirtual idx, 3)) (hM : MK M' n) (hlink : Cond.methodLink (mO M) idx M'.1 ∈ tbG) (hin : Cond.instanceMethod M'.1 ∈ tbG ∧ Cond.selects M'.1.cls M'.1 M'.1 ∈ tbG) (hci : vwCl[ci]? = some q) (hq1 : q.1 = M'.1.cls) (hw0 : w[a]? = some (cO ci fs)) (hn : as.length = n) (hst : st.length ≤ 4) (hstk : stk = (as.map (shV pre.length)).reverse ++ vR (pre.length + a) :: st) (hcall : Calls M' d false 0 0 (vR a :: as) w Q') (kk : ∀ r w', Q' r w' → Go M (d + 1) al bc bs (pc + 3) lv ((r.map (shV pre.length)).toList ++ st) (wIn pre w' post) Q) : Go M (d + 1) al bc bs pc lv stk (wIn pre w post) Q := by
  intro p l e R s m args below meth c Fin dC dI cy b ad A MC MS n0 fx H locs cells slots ls hc hs hw hS ha hl
  subst hstk
  obtain ⟨hP1, hD1⟩ := wIn_sub hw
  refine call_afterF (al' := false) (mc := 0) (ms := 0) (bc := bc) (bs := bs) (fun h => by cases h) (fun _ => rfl) fx hc hs hw hS ha hl (av := (Value.ref (ad (pre.length + a)) :: as.map (cv b (fun k => ad (pre.length + k)))).toArray) ?_ kk
  refine va_runV (As := as.map (cv b (fun k => ad (pre.length + k)))) (rest := st.map (cv b ad)) (C := M'.1.cls) ⟨fx.1.1, fx.1.2, fx.2.1.2.1, fx.2.1.2.2.1, fx.2.2.1⟩ (hcall l dC dI cy b (fun k => ad (pre.length + k)) H.size) ⟨callB_of (rm := rmOf d 0 0) n fx.2.2.1 (tb_in hM.1) rfl rfl rfl (fx.2.2.1 _ hM.2.2.2.2.2.1) (fx.2.2.1 _ hlink) hM.2.2.2.2.1 ⟨by have := fx.2.2.2.2.2.1.1; show d + 1 ≤ _; omega, by have := fx.2.2.2.2.2.1.2.1; have := hM.2.2.2.1; show 8 + (mL M' + 11) + 36 * d ≤ _; omega⟩, fx.2.2.1 _ hin.1, fx.2.2.1 _ hin.2⟩ ⟨CP_blind, ?_, fun U hU hW => ⟨rfl, by rw [hU], by rw [hU]; exact hP1, va_K.moved hW.alike fx.2.2.2.1, hD1, (fun h => by cases h), fx.2.1.2.2.2.2.2.moved hW⟩⟩ rfl (by rw [List.length_map]; exact hn) hl.1 (sh_stack as st) (lv_room (rest_room b ad hst)) hd ⟨by have := fx.2.2.2.2.2.1.2.2.1; omega, by have := fx.2.2.2.2.2.1.2.2.2; omega⟩
  have := va_recv (q := q) fx.2.2.2.1 hP1 hci (wl_get hw0)
  rw [hq1] at this
  exact this
theorem go_callIF {M M' : Mth} {n d : Nat} {bc bs pc mc ms : Nat} {lv : List (Option AV)} {stk : List AV} {pre w : List AC} {Q Q' : Option AV → List AC → Prop} {idx a : Nat} (as st : List AV) (hd : decode (mB M) pc = .ok (.invokespecial idx, 3)) (hM : MK M' n) (hlink : Cond.methodLink (mO M) idx M'.1 ∈ tbG) (hin : Cond.instanceMethod M'.1 ∈ tbG ∧ M'.1.name = "<init>" ∧ mT M' = none) (hn : as.length = n) (hst : st.length ≤ 4) (hstk : stk = (as.map (shV pre.length)).reverse ++ vR (pre.length + a) :: st) (hcall : Calls M' d true mc ms (vR a :: as) w Q') (kk : ∀ r w', Q' r w' → Go M (d + 1) true bc bs (pc + 3) lv ((r.map (shV pre.length)).toList ++ st) (wIn pre w' []) Q) : Go M (d + 1) true (bc + mc) (bs + ms) pc lv stk (wIn pre w []) Q := by
  intro p l e R s m args below meth c Fin dC dI cy b ad A MC MS n0 fx H locs cells slots ls hc hs hw hS ha hl
  subst hstk
  obtain ⟨hP1, hD1⟩ := wIn_sub hw
  refine W_sized (fun hsz => call_afterF (al' := true) (mc := mc) (ms := ms) (bc := bc) (bs := bs) (fun _ => ⟨rfl, rfl⟩) (fun h => by cases h) fx hc hs hw hS ha hl (av := (Value.ref (ad (pre.length + a)) :: as.map (cv b (fun k => ad (pre.length + k)))).toArray) ?_ kk)
  have hc1 := callB_of (R := R) (rm := rmOf d mc ms) n fx.2.2.1 (tb_in hM.1) rfl rfl rfl (fx.2.2.1 _ hM.2.2.2.2.2.1) (fx.2.2.1 _ hlink) hM.2.2.2.2.1 ⟨by have := fx.2.2.2.2.2.1.1; show d + 1 ≤ _; omega, by have := fx.2.2.2.2.2.1.2.1; have := hM.2.2.2.1; show 8 + (mL M' + 11) + 36 * d ≤ _; omega⟩
  rw [hin.2.2] at hc1
  have hm1 := hcall l dC dI cy b (fun k => ad (pre.length + k)) H.size
  rw [hin.2.2] at hm1
  have hfr := HA_size fx hw hS ha hsz
  refine va_runI (As := as.map (cv b (fun k => ad (pre.length + k)))) (rest := st.map (cv b ad)) ⟨fx.1.1, fx.1.2, fx.2.1.2.1, fx.2.1.2.2.1, fx.2.2.1⟩ hm1 ⟨hc1, hin.2.1, fx.2.2.1 _ hin.1⟩ ⟨CP_blind, fun U hU hW => ⟨rfl, by rw [hU], by rw [hU]; exact hP1, va_K.moved hW.alike fx.2.2.2.1, hD1, fun h j => ?_, fx.2.1.2.2.2.2.2.moved hW⟩⟩ rfl (by rw [List.length_map]; exact hn) hl.1 (sh_stack as st) (lv_room (rest_room b ad hst)) hd ⟨by have := fx.2.2.2.2.2.1.2.2.1; omega, by have := fx.2.2.2.2.2.1.2.2.2; omega⟩
  have h9 := hfr rfl j
  rw [wIn_len] at h9
  show ad (pre.length + (w.length + j)) = _
  rw [← h9]
  congr 1
  simp
  omega

theorem ws_push {p : Program} {l : Launch} {e : Env} {R : Room} {s : State} {m : MethodId} {args : Array Value} {below : List Frame} {meth : Method} {c : Code} {Fin : State → Prop} {dC : Nat → ClassId} {dI : Nat → Nat → Nat} {cy : Nat → ClassId} {b : Nat} {ad : Nat → Nat} {A : Nat → Prop} {MC MS n0 : Nat} {M : Mth} {d bc : Nat} {Q : Option AV → List AC → Prop} {w : List AC} {H H1 : Heap} {locs : List Loc} {cells : Nat} {c0 : AC} (fx : Fx M d true Q p l e R s m args below meth c Fin dC dI cy b ad A MC MS n0) (hw : WS dC dI cy b ad A w H) (hS : va_S A s.heap H locs) (ha : HA true w n0 cells (bc + 1) MC) (hsz : H.size ≤ s.heap.size + cells) (hat : va_at (dC, dI) vwCl (H.size, cc b cy ad c0) H1) (z1 : H1.size = H.size + 1) (o1 : ∀ q, q < H.size → H1[q]? = H[q]?) : WS dC dI cy b ad A (w ++ [c0]) H1 ∧ va_S A s.heap H1 locs ∧ HA true (w ++ [c0]) n0 (cells + 1) bc MC ∧ ad w.length = H.size := by
  have hfr : ad w.length = H.size := HA_size fx hw hS ha hsz rfl 0
  have hk : ∀ (k : Nat) (x : Nat × va_E), (wl b cy ad w)[k]? = some x → H1[x.1]? = H[x.1]? := fun k x hx => o1 x.1 ((hw.1 k x hx).lt)
  have e1 : wl b cy ad (w ++ [c0]) = wl b cy ad w ++ [(H.size, cc b cy ad c0)] := by
    rw [wl_app, ← hfr]; rfl
  refine ⟨⟨?_, ?_⟩, ⟨by have := hS.1; omega, (fun x h1 h2 => (o1 x (Nat.lt_of_lt_of_le h1 hS.1)).trans (hS.2.1 x h1 h2)), hS.2.2⟩, ⟨fun h => ?_, fun h => by cases h⟩, hfr⟩
  · rw [e1]
    refine (hw.1.kept hk).app (fun k x hx => ?_)
    have hz : k < 1 := (List.getElem?_eq_some_iff.mp hx).1
    rw [show k = 0 by omega] at hx
    cases hx
    exact hat
  · rw [e1]
    exact hw.2.push hw.1 rfl (fx.2.2.2.2.1 _ hS.1)
  · have := ha.1 h
    rw [List.length_append]
    simp
    omega
theorem go_new {M : Mth} {d bc bs pc : Nat} {lv : List (Option AV)} {st : List AV} {w : List AC} {Q : Option AV → List AC → Prop} {idx ci N : Nat} {C : String} {T : u_T} (ty : Nat → FieldType) (fs : List AV) (hd : decode (mB M) pc = .ok (.new idx, 3)) (hc0 : vwCl[ci]? = some (C, T, N)) (hin : ∀ x ∈ u_ws C T N, x ∈ tbG) (hty : ∀ k, k < N → parseFieldDescriptor (T k).2.2.1 = some (ty k)) (hcl : Cond.classLink (mO M) idx C ∈ tbG ∧ Cond.instantiable C N ∈ tbG ∧ Cond.initialized C ∈ tbG) (hfs : ∀ (b : Nat) (ad : Nat → Nat) (j : Nat), j < N → defaultValue (ty j) = vp_V (fs.map (cv b ad)) j) (kk : Go M d true bc bs (pc + 3) lv (vR w.length :: st) (w ++ [cO ci fs]) Q) : Go M d true (bc + 1) (bs + N) pc lv st w Q := by
  intro p l e R s m args below meth c Fin dC dI cy b ad A MC MS n0 fx H locs cells slots ls hc hs hw hS ha hl
  refine W_sized (fun hsz => ?_)
  have hKn := fx.2.2.2.1.1 ci _ hc0
  refine W.newcK fx.1.1 fx.1.2 fx.2.1.2.2.1 (fx.2.2.1 _ hcl.1) (fx.2.2.1 _ hcl.2.1) (fx.2.2.1 _ hcl.2.2) rfl hd (by have := fx.2.2.2.2.2.1.2.2.1; omega) (by have := fx.2.2.2.2.2.1.2.2.2; omega) hKn.2.1 rfl fun H1 kC hkC e1 z1 o1 => ?_
  obtain ⟨a1, a2, a3, a4⟩ := ws_push (c0 := cO ci fs) fx hw hS ha hsz ⟨_, hc0, (u_born ty fx.2.2.1 hin hKn hkC e1 hty).to (hfs b ad)⟩ z1 o1
  have k1 := kk p l e R s m args below meth c Fin dC dI cy b ad A MC MS n0 fx H1 locs (cells + 1) (slots + N) ls (by omega) (by omega) a1 a2 a3 hl
  have k2 : W p l e R s m args below meth c H1 locs (cells + 1) (slots + N) Fin (F0 m (pc + 3) ls (.ref (ad w.length) :: st.map (cv b ad))) := k1
  rw [a4] at k2
  exact k2

theorem tb_arrI : Cond.arrayClass (newarray.typeOf .int) ∈ tbG := tbd (by decide +kernel) rfl
theorem tb_arrJ : Cond.arrayClass (newarray.typeOf .long) ∈ tbG := tbd (by decide +kernel) rfl

theorem go_newI {M : Mth} {d bc bs pc : Nat} {lv : List (Option AV)} {st : List AV} {w : List AC} {Q : Option AV → List AC → Prop} {n : Int32} (N : Nat) (hd : decode (mB M) pc = .ok (.newarray .int, 2)) (hn : ¬ n < 0) (hN : n.toNatClampNeg = N) (hb9 : N ≤ 1000) (kk : Go M d true bc bs (pc + 2) lv (vR w.length :: st) (w ++ [cI N (fun _ => 0)]) Q) : Go M d true (bc + 1) (bs + N) pc lv (vI n :: st) w Q := by
  intro p l e R s m args below meth c Fin dC dI cy b ad A MC MS n0 fx H locs cells slots ls hc hs hw hS ha hl
  refine W_sized (fun hsz => ?_)
  refine va_newaK fx.1.1 fx.1.2 (fx.2.2.1 _ tb_arrI) rfl hd rfl hn hN (by show N * 4 ≤ _; omega) (by have := fx.2.2.2.2.2.1.2.2.1; omega) (by have := fx.2.2.2.2.2.1.2.2.2; omega) rfl fun H1 cA9 e1 z1 o1 hAr hNm => ?_
  have hcy : s.vm.findClass ("[" ++ (FieldType.int).toString) = some (cy 0) := (fx.2.2.2.1.2 0 _ rfl).2
  have ec : cA9 = cy 0 := Option.some.inj (hNm.symm.trans hcy)
  subst ec
  obtain ⟨a1, a2, a3, a4⟩ := ws_push (c0 := cI N (fun _ => 0)) fx hw hS ha hsz (show H1[H.size]? = some (vp_cell _ _) from e1) z1 o1
  have k1 := kk p l e R s m args below meth c Fin dC dI cy b ad A MC MS n0 fx H1 locs (cells + 1) (slots + N) ls (by omega) (by omega) a1 a2 a3 hl
  have k2 : W p l e R s m args below meth c H1 locs (cells + 1) (slots + N) Fin (F0 m (pc + 2) ls (.ref (ad w.length) :: st.map (cv b ad))) := k1
  rw [a4] at k2
  exact k2

theorem go_newJ {M : Mth} {d bc bs pc : Nat} {lv : List (Option AV)} {st : List AV} {w : List AC} {Q : Option AV → List AC → Prop} {n : Int32} (N : Nat) (hd : decode (mB M) pc = .ok (.newarray .long, 2)) (hn : ¬ n < 0) (hN : n.toNatClampNeg = N) (hb9 : N ≤ 1000) (kk : Go M d true bc bs (pc + 2) lv (vR w.length :: st) (w ++ [cJ N (fun _ => 0)]) Q) : Go M d true (bc + 1) (bs + N) pc lv (vI n :: st) w Q := by
  intro p l e R s m args below meth c Fin dC dI cy b ad A MC MS n0 fx H locs cells slots ls hc hs hw hS ha hl
  refine W_sized (fun hsz => ?_)
  refine va_newaK fx.1.1 fx.1.2 (fx.2.2.1 _ tb_arrJ) rfl hd rfl hn hN (by show N * 8 ≤ _; omega) (by have := fx.2.2.2.2.2.1.2.2.1; omega) (by have := fx.2.2.2.2.2.1.2.2.2; omega) rfl fun H1 cA9 e1 z1 o1 hAr hNm => ?_
  have hcy : s.vm.findClass ("[" ++ (FieldType.long).toString) = some (cy 1) := (fx.2.2.2.1.2 1 _ rfl).2
  have ec : cA9 = cy 1 := Option.some.inj (hNm.symm.trans hcy)
  subst ec
  obtain ⟨a1, a2, a3, a4⟩ := ws_push (c0 := cJ N (fun _ => 0)) fx hw hS ha hsz (show H1[H.size]? = some (vp_cell _ _) from e1) z1 o1
  have k1 := kk p l e R s m args below meth c Fin dC dI cy b ad A MC MS n0 fx H1 locs (cells + 1) (slots + N) ls (by omega) (by omega) a1 a2 a3 hl
  have k2 : W p l e R s m args below meth c H1 locs (cells + 1) (slots + N) Fin (F0 m (pc + 2) ls (.ref (ad w.length) :: st.map (cv b ad))) := k1
  rw [a4] at k2
  exact k2

theorem go_newN {M : Mth} {d bc bs pc : Nat} {lv : List (Option AV)} {st : List AV} {w : List AC} {Q : Option AV → List AC → Prop} {n : Int32} {idx : Nat} (N : Nat) (hd : decode (mB M) pc = .ok (.anewarray idx, 3)) (hcl : Cond.classLink (mO M) idx "SpreadNets$Net" ∈ tbG) (hn : ¬ n < 0) (hN : n.toNatClampNeg = N) (hb9 : N ≤ 1000) (kk : Go M d true bc bs (pc + 3) lv (vR w.length :: st) (w ++ [cA 2 N (fun _ => none)]) Q) : Go M d true (bc + 1) (bs + N) pc lv (vI n :: st) w Q := by
  intro p l e R s m args below meth c Fin dC dI cy b ad A MC MS n0 fx H locs cells slots ls hc hs hw hS ha hl
  subst hN
  refine W_sized (fun hsz => ?_)
  refine W.anew fx.1.1 fx.1.2 fx.2.1.2.2.1 (fx.2.2.1 _ hcl) (va_AO.use fx.2.1.2.2.2.2.2.1) rfl hd rfl hn (by omega) (by have := fx.2.2.2.2.2.1.2.2.1; omega) (by have := fx.2.2.2.2.2.1.2.2.2; omega) fun cA9 kA comp f1 f2 f3 f4 => ?_
  generalize hH1 : H.push ({ cls := cA9, slots := Array.replicate n.toNatClampNeg .null, vm := .none } : Cell) = H1
  have z1 : H1.size = H.size + 1 := by rw [← hH1, Array.size_push]
  have e1 : H1[H.size]? = some (arrV cA9 n.toNatClampNeg (fun _ => .null)) := by rw [← hH1, Array.getElem?_push_size, ← arrV_new]
  have o1 : ∀ q : Nat, q < H.size → H1[q]? = H[q]? := fun q hq => by rw [← hH1, Array.getElem?_push, if_neg (Nat.ne_of_lt hq)]
  obtain ⟨kA2, comp2, g1, g2, g3, g4⟩ := (fx.2.2.2.1.2 2 _ rfl).2
  have ec : cA9 = cy 2 := Option.some.inj (f1.symm.trans g4)
  subst ec
  obtain ⟨a1, a2, a3, a4⟩ := ws_push (c0 := cA 2 n.toNatClampNeg (fun _ => none)) fx hw hS ha hsz (show H1[H.size]? = some (vp_cell _ _) from e1) z1 o1
  have k1 := kk p l e R s m args below meth c Fin dC dI cy b ad A MC MS n0 fx H1 locs (cells + 1) (slots + n.toNatClampNeg) ls (by omega) (by omega) a1 a2 a3 hl
  have k2 : W p l e R s m args below meth c H1 locs (cells + 1) (slots + n.toNatClampNeg) Fin (F0 m (pc + 3) ls (.ref (ad w.length) :: st.map (cv b ad))) := k1
  rw [a4] at k2
  exact k2

end
