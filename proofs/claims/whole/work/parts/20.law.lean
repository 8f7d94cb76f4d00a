section
abbrev mLw (L : Nat) (xs : Nat → Int32) : Mth := (yL_law, cL_law, 4, (some .boolean), RL, some (L, xs))
/-- both worlds, the class's first -/
def wA (wc wm : List AC) : List AC := wc ++ wm.map (shC 56)
theorem shV0 (v : AV) : shV 0 v = v := by
  rcases v with x | x | (_ | r) | u
  · rfl
  · rfl
  · rfl
  · show vR (0 + r) = vR r
    rw [Nat.zero_add]
  · rfl
theorem shC0 (c : AC) : shC 0 c = c := by
  rcases c with ⟨t, n, f | f | f⟩ | ⟨ci, fs⟩
  · rfl
  · rfl
  · show cA t n (fun i => (f i).map (fun k => 0 + k)) = cA t n f
    congr 4
    funext i
    cases f i with
    | none => rfl
    | some r => show some (0 + r) = some r; rw [Nat.zero_add]
  · show cO ci (fs.map (shV 0)) = cO ci fs
    congr 2
    rw [show shV 0 = id from funext shV0, List.map_id]
theorem wA_c (wc wm : List AC) : wA wc wm = wIn [] wc (wm.map (shC 56)) := by
  show wc ++ wm.map (shC 56) = [] ++ (wc.map (shC 0) ++ wm.map (shC 56))
  rw [show shC 0 = id from funext shC0, List.map_id, List.nil_append]
theorem wA_m {wc wm : List AC} (h : wc.length = 56) : wA wc wm = wIn wc wm [] := by
  show wc ++ wm.map (shC 56) = wc ++ (wm.map (shC wc.length) ++ [])
  rw [h, List.append_nil]
/-- what a pair of calls must do: answer alike, and keep S -/
def OpI (S : List AC → List AC → Prop) (mc mm : Mth) (as : List AV) : Prop := ∀ wc wm, S wc wm → ∃ (v : Int32) (wc' wm' : List AC), Calls mc 8 false 0 0 (vR 0 :: as) wc (fun r w' => r = some (vI v) ∧ w' = wc') ∧ Calls mm 8 false 0 0 (vR 0 :: as) wm (fun r w' => r = some (vI v) ∧ w' = wm') ∧ S wc' wm'
def OpL (S : List AC → List AC → Prop) (mc mm : Mth) (as : List AV) : Prop := ∀ wc wm, S wc wm → ∃ (v : Int64) (wc' wm' : List AC), Calls mc 8 false 0 0 (vR 0 :: as) wc (fun r w' => r = some (vL v) ∧ w' = wc') ∧ Calls mm 8 false 0 0 (vR 0 :: as) wm (fun r w' => r = some (vL v) ∧ w' = wm') ∧ S wc' wm'
def SOK (S : List AC → List AC → Prop) : Prop := ∀ wc wm, S wc wm → wc.length = 56 ∧ (∃ fs, wc[0]? = some (cO 5 fs)) ∧ (∃ fs, wm[0]? = some (cO 6 fs))
theorem lw_in {L j : Nat} (hL : L ≤ 2560) (hj : j + 5 ≤ L) (k : Nat) (hk : k < 5) {x : Int32} (hx : x = nI k) : vp_in (nI j + x) L := by
  rw [hx, nI_add]
  exact vp_in_nI (by omega) (by omega)
theorem lg_cmp_self (v : Int64) : lg_cmp v v = 0 := by simp [lg_cmp]

set_option maxRecDepth 20000 in
theorem lw_case0 {S : List AC → List AC → Prop} {L j : Nat} {xs : Nat → Int32} {wc wm : List AC} {Q : Option AV → List AC → Prop} (hok : SOK S) (hop : ∀ (a0 : Int32) (a1 : Int32), OpI S mX5_net mX6_net [vI a0, vI a1]) (hL : L ≤ 2560) (hj : j + 5 ≤ L) (hs : S wc wm) (hnext : ∀ wc wm, S wc wm → Go (mLw L xs) 9 true 0 0 1038 [some vS, some (vR 0), some (vR 56), some (vI (nI j))] [] (wA wc wm) Q) : Go (mLw L xs) 9 true 0 0 136 [some vS, some (vR 0), some (vR 56), some (vI (nI j))] [] (wA wc wm) Q := by
  obtain ⟨hlen0, ⟨fs5, hw5⟩, ⟨fs6, hw6⟩⟩ := hok wc wm hs
  refine go_aload_n (pc := 136) 1 dL_law_136 rfl rfl ?_
  refine go_sload_n (pc := 137) 0 dL_law_137 rfl rfl ?_
  refine go_iload_n (pc := 138) 3 dL_law_138 rfl rfl ?_
  refine go_iconst (pc := 139) (1 : Int32) dL_law_139 (by decide) ?_
  refine go_iadd (pc := 140) dL_law_140 ?_
  refine go_sld (pc := 141) dL_law_141 rfl (lw_in hL hj 1 (by decide) (by decide)) ?_
  refine go_sload_n (pc := 142) 0 dL_law_142 rfl rfl ?_
  refine go_iload_n (pc := 143) 3 dL_law_143 rfl rfl ?_
  refine go_iconst (pc := 144) (2 : Int32) dL_law_144 (by decide) ?_
  refine go_iadd (pc := 145) dL_law_145 ?_
  refine go_sld (pc := 146) dL_law_146 rfl (lw_in hL hj 2 (by decide) (by decide)) ?_
  obtain ⟨v, wc', wm', hc1, hc2, hs2⟩ := hop ((xs ((nI j) + (1 : Int32)).toNatClampNeg)) ((xs ((nI j) + (2 : Int32)).toNatClampNeg)) wc wm hs
  refine go_w (wA_c wc wm) ?_
  refine go_callVF (d := 8) (pre := []) (post := wm.map (shC 56)) (bc := 0) (bs := 0) (pc := 147) (a := 0) (ci := 5) [vI (xs ((nI j) + (1 : Int32)).toNatClampNeg), vI (xs ((nI j) + (2 : Int32)).toNatClampNeg)] [] dL_law_147 kX5_net mlL_13 ivX5_net rfl rfl hw5 rfl (Nat.le_of_ble_eq_true rfl) rfl hc1 (fun r w' hq => ?_)
  obtain ⟨hr9, hw9⟩ := hq
  subst hr9
  rw [hw9]
  refine go_w (wA_c wc' wm).symm ?_
  show Go (mLw L xs) 9 true 0 0 150 [some vS, some (vR 0), some (vR 56), some (vI (nI j))] [vI v] (wA wc' wm) Q
  refine go_aload_n (pc := 150) 2 dL_law_150 rfl rfl ?_
  refine go_sload_n (pc := 151) 0 dL_law_151 rfl rfl ?_
  refine go_iload_n (pc := 152) 3 dL_law_152 rfl rfl ?_
  refine go_iconst (pc := 153) (1 : Int32) dL_law_153 (by decide) ?_
  refine go_iadd (pc := 154) dL_law_154 ?_
  refine go_sld (pc := 155) dL_law_155 rfl (lw_in hL hj 1 (by decide) (by decide)) ?_
  refine go_sload_n (pc := 156) 0 dL_law_156 rfl rfl ?_
  refine go_iload_n (pc := 157) 3 dL_law_157 rfl rfl ?_
  refine go_iconst (pc := 158) (2 : Int32) dL_law_158 (by decide) ?_
  refine go_iadd (pc := 159) dL_law_159 ?_
  refine go_sld (pc := 160) dL_law_160 rfl (lw_in hL hj 2 (by decide) (by decide)) ?_
  obtain ⟨hlen, -, -⟩ := hok _ _ hs2
  have hlen1 : wc'.length = 56 := hlen
  refine go_w (wA_m hlen1) ?_
  refine go_callVF (d := 8) (pre := wc') (post := []) (bc := 0) (bs := 0) (pc := 161) (a := 0) (ci := 6) [vI (xs ((nI j) + (1 : Int32)).toNatClampNeg), vI (xs ((nI j) + (2 : Int32)).toNatClampNeg)] [vI v] dL_law_161 kX6_net mlL_17 ivX6_net rfl rfl hw6 rfl (Nat.le_of_ble_eq_true rfl) (by rw [hlen1]; rfl) hc2 (fun r w' hq => ?_)
  obtain ⟨hr9, hw9⟩ := hq
  subst hr9
  rw [hw9]
  refine go_w (wA_m (wm := wm') hlen1).symm ?_
  show Go (mLw L xs) 9 true 0 0 164 [some vS, some (vR 0), some (vR 56), some (vI (nI j))] [vI v, vI v] (wA wc' wm') Q
  refine go_icmp_eq (pc := 164) 1038 dL_law_164 (by decide) (fun _ => ?_) (fun h9 => absurd rfl h9)
  exact hnext _ _ hs2
end
