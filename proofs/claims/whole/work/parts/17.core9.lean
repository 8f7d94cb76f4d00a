section
theorem go_callINF {M M' : Mth} {n d : Nat} {bc bs pc mc ms : Nat} {lv : List (Option AV)} {stk : List AV} {pre w : List AC} {Q Q' : Option AV → List AC → Prop} {idx a : Nat} {host : String} (as st : List AV) (hd : decode (mB M) pc = .ok (.invokespecial idx, 3)) (hM : MK M' n) (hlink : ∀ U : State, NX U → va_Nw (.methodLinkNest (mO M) idx M'.1 host) U) (hin : Cond.instanceMethod M'.1 ∈ tbG ∧ M'.1.name = "<init>" ∧ mT M' = none) (hn : as.length = n) (hst : st.length ≤ 4) (hstk : stk = (as.map (shV pre.length)).reverse ++ vR (pre.length + a) :: st) (hcall : Calls M' d true mc ms (vR a :: as) w Q') (kk : ∀ r w', Q' r w' → Go M (d + 1) true bc bs (pc + 3) lv ((r.map (shV pre.length)).toList ++ st) (wIn pre w' []) Q) : Go M (d + 1) true (bc + mc) (bs + ms) pc lv stk (wIn pre w []) Q := by
  intro p l e R s m args below meth c Fin dC dI cy b ad A MC MS n0 fx H locs cells slots ls hc hs hw hS ha hl
  subst hstk
  obtain ⟨hP1, hD1⟩ := wIn_sub hw
  refine W_sized (fun hsz => call_afterF (al' := true) (mc := mc) (ms := ms) (bc := bc) (bs := bs) (fun _ => ⟨rfl, rfl⟩) (fun h => by cases h) fx hc hs hw hS ha hl (av := (Value.ref (ad (pre.length + a)) :: as.map (cv b (fun k => ad (pre.length + k)))).toArray) ?_ kk)
  have hc1 := va_cnB (R := R) n fx.2.2.1 (tb_in hM.1) rfl (rm := rmOf d mc ms) rfl rfl (hlink s fx.2.1.2.2.2.2.2) (fx.2.2.1 _ hM.2.2.2.2.2.1) hM.2.2.2.2.1 ⟨by have := fx.2.2.2.2.2.1.1; show d + 1 ≤ _; omega, by have := fx.2.2.2.2.2.1.2.1; have := hM.2.2.2.1; show 8 + (mL M' + 11) + 36 * d ≤ _; omega⟩
  rw [hin.2.2] at hc1
  have hm1 := hcall l dC dI cy b (fun k => ad (pre.length + k)) H.size
  rw [hin.2.2] at hm1
  have hfr := HA_size fx hw hS ha hsz
  refine va_runIN (As := as.map (cv b (fun k => ad (pre.length + k)))) (rest := st.map (cv b ad)) ⟨fx.1.1, fx.1.2, fx.2.1.2.1, fx.2.1.2.2.1, fx.2.2.1⟩ hm1 ⟨hc1, hin.2.1, fx.2.2.1 _ hin.1⟩ ⟨CP_blind, fun U hU hW => ⟨rfl, by rw [hU], by rw [hU]; exact hP1, va_K.moved hW.alike fx.2.2.2.1, hD1, fun h j => ?_, fx.2.1.2.2.2.2.2.moved hW⟩⟩ rfl (by rw [List.length_map]; exact hn) hl.1 (sh_stack as st) (lv_room (rest_room b ad hst)) hd ⟨by have := fx.2.2.2.2.2.1.2.2.1; omega, by have := fx.2.2.2.2.2.1.2.2.2; omega⟩
  have h9 := hfr rfl j
  rw [wIn_len] at h9
  show ad (pre.length + (w.length + j)) = _
  rw [← h9]
  congr 1
  simp
  omega

theorem arrV_congr {c : ClassId} {N : Nat} {f g : Nat → Value} (h : ∀ i, i < N → f i = g i) : arrV c N f = arrV c N g := by
  unfold arrV
  congr 1
  apply Array.ext
  · simp
  · intro i h1 h2
    simp at h1
    simp [h i h1]
/-- an array of references, by other words for the same places -/
theorem go_recell {M : Mth} {d : Nat} {al : Bool} {bc bs pc : Nat} {lv : List (Option AV)} {st : List AV} {w : List AC} {Q : Option AV → List AC → Prop} (j : Nat) {t n : Nat} {f : Nat → Option Nat} (g : Nat → Option Nat) (hj : w[j]? = some (cA t n f)) (hf : ∀ i, i < n → f i = g i) (k : Go M d al bc bs pc lv st (w.set j (cA t n g)) Q) : Go M d al bc bs pc lv st w Q := by
  intro p l e R s m args below meth c Fin dC dI cy b ad A MC MS n0 fx H locs cells slots ls hc hs hw hS ha hl
  refine k p l e R s m args below meth c Fin dC dI cy b ad A MC MS n0 fx H locs cells slots ls hc hs ⟨fun i q h => ?_, ?_⟩ hS ha.set hl
  · rw [wl_set] at h
    rw [List.getElem?_set] at h
    by_cases e9 : j = i
    · subst e9
      rw [if_pos rfl] at h
      by_cases h2 : j < (wl b cy ad w).length
      · rw [if_pos h2] at h
        cases h
        have h3 := hw.1 j _ (wl_get hj)
        have h4 : H[ad j]? = some (vp_cell (cy t) (n, .inr (.inr (.inr (.inr (fun i => (f i).map ad)))))) := h3
        show H[ad j]? = some (vp_cell (cy t) (n, .inr (.inr (.inr (.inr (fun i => (g i).map ad))))))
        rw [h4, vp_cell_q, vp_cell_q]
        congr 1
        exact arrV_congr (fun i hi => by rw [hf i hi])
      · rw [if_neg h2] at h; cases h
    · rw [if_neg e9] at h
      exact hw.1 i q h
  · rw [wl_set]
    exact hw.2.set (wl_get hj)

end
