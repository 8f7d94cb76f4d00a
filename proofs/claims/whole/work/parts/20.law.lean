section
abbrev mLw (L : Nat) (xs : Nat → Int32) : Mth := (yL_law, cL_law, 4, (some .boolean), RL, some (L, xs))
/-- both worlds, the class's first -/
def wA (wc wm : List AC) : List AC := wc ++ wm.map (shC 56)
theorem shV0 (v : AV) : shV 0 v = v := by
  rcases v with x | x | (_ | r) | u
  · rfl
  · rfl
  · rfl
  · show vR (0 + r) = vR r
    rw [Nat.zero_add]
  · rfl
theorem shC0 (c : AC) : shC 0 c = c := by
  rcases c with ⟨t, n, f | f | f⟩ | ⟨ci, fs⟩
  · rfl
  · rfl
  · show cA t n (fun i => (f i).map (fun k => 0 + k)) = cA t n f
    congr 4
    funext i
    cases f i with
    | none => rfl
    | some r => show some (0 + r) = some r; rw [Nat.zero_add]
  · show cO ci (fs.map (shV 0)) = cO ci fs
    congr 2
    rw [show shV 0 = id from funext shV0, List.map_id]
theorem wA_c (wc wm : List AC) : wA wc wm = wIn [] wc (wm.map (shC 56)) := by
  show wc ++ wm.map (shC 56) = [] ++ (wc.map (shC 0) ++ wm.map (shC 56))
  rw [show shC 0 = id from funext shC0, List.map_id, List.nil_append]
theorem wA_m {wc wm : List AC} (h : wc.length = 56) : wA wc wm = wIn wc wm [] := by
  show wc ++ wm.map (shC 56) = wc ++ (wm.map (shC wc.length) ++ [])
  rw [h, List.append_nil]
/-- what a pair of calls must do: answer alike, and keep S -/
def OpI (S : List AC → List AC → Prop) (mc mm : Mth) (as : List AV) : Prop := ∀ wc wm, S wc wm → ∃ (v : Int32) (wc' wm' : List AC), Calls mc 8 false 0 0 (vR 0 :: as) wc (fun r w' => r = some (vI v) ∧ w' = wc') ∧ Calls mm 8 false 0 0 (vR 0 :: as) wm (fun r w' => r = some (vI v) ∧ w' = wm') ∧ S wc' wm'
def OpL (S : List AC → List AC → Prop) (mc mm : Mth) (as : List AV) : Prop := ∀ wc wm, S wc wm → ∃ (v : Int64) (wc' wm' : List AC), Calls mc 8 false 0 0 (vR 0 :: as) wc (fun r w' => r = some (vL v) ∧ w' = wc') ∧ Calls mm 8 false 0 0 (vR 0 :: as) wm (fun r w' => r = some (vL v) ∧ w' = wm') ∧ S wc' wm'
def SOK (S : List AC → List AC → Prop) : Prop := ∀ wc wm, S wc wm → wc.length = 56 ∧ (∃ fs, wc[0]? = some (cO 5 fs)) ∧ (∃ fs, wm[0]? = some (cO 6 fs))
theorem lw_in {L j : Nat} (hL : L ≤ 2560) (hj : j + 5 ≤ L) (k : Nat) (hk : k < 5) {x : Int32} (hx : x = nI k) : vp_in (nI j + x) L := by
  rw [hx, nI_add]
  exact vp_in_nI (by omega) (by omega)
theorem lg_cmp_self (v : Int64) : lg_cmp v v = 0 := by simp [lg_cmp]

set_option maxRecDepth 20000 in
theorem lw_case0 {S : List AC → List AC → Prop} {L j : Nat} {xs : Nat → Int32} {wc wm : List AC} {Q : Option AV → List AC → Prop} (hok : SOK S) (hop : ∀ (a0 : Int32) (a1 : Int32), OpI S mX5_net mX6_net [vI a0, vI a1]) (hL : L ≤ 2560) (hj : j + 5 ≤ L) (hs : S wc wm) (hnext : ∀ wc wm, S wc wm → Go (mLw L xs) 9 true 0 0 1038 [some vS, some (vR 0), some (vR 56), some (vI (nI j))] [] (wA wc wm) Q) : Go (mLw L xs) 9 true 0 0 136 [some vS, some (vR 0), some (vR 56), some (vI (nI j))] [] (wA wc wm) Q := by
  obtain ⟨hlen0, ⟨fs5, hw5⟩, ⟨fs6, hw6⟩⟩ := hok wc wm hs
  refine go_aload_n (pc := 136) 1 dL_law_136 rfl rfl ?_
  refine go_sload_n (pc := 137) 0 dL_law_137 rfl rfl ?_
  refine go_iload_n (pc := 138) 3 dL_law_138 rfl rfl ?_
  refine go_iconst (pc := 139) (1 : Int32) dL_law_139 (by decide) ?_
  refine go_iadd (pc := 140) dL_law_140 ?_
  refine go_sld (pc := 141) dL_law_141 rfl (lw_in hL hj 1 (by decide) (by decide)) ?_
  refine go_sload_n (pc := 142) 0 dL_law_142 rfl rfl ?_
  refine go_iload_n (pc := 143) 3 dL_law_143 rfl rfl ?_
  refine go_iconst (pc := 144) (2 : Int32) dL_law_144 (by decide) ?_
  refine go_iadd (pc := 145) dL_law_145 ?_
  refine go_sld (pc := 146) dL_law_146 rfl (lw_in hL hj 2 (by decide) (by decide)) ?_
  obtain ⟨v, wc', wm', hc1, hc2, hs2⟩ := hop ((xs ((nI j) + (1 : Int32)).toNatClampNeg)) ((xs ((nI j) + (2 : Int32)).toNatClampNeg)) wc wm hs
  refine go_w (wA_c wc wm) ?_
  refine go_callVF (d := 8) (pre := []) (post := wm.map (shC 56)) (bc := 0) (bs := 0) (pc := 147) (a := 0) (ci := 5) [vI (xs ((nI j) + (1 : Int32)).toNatClampNeg), vI (xs ((nI j) + (2 : Int32)).toNatClampNeg)] [] dL_law_147 kX5_net mlL_13 ivX5_net rfl rfl hw5 rfl (Nat.le_of_ble_eq_true rfl) rfl hc1 (fun r w' hq => ?_)
  obtain ⟨hr9, hw9⟩ := hq
  subst hr9
  rw [hw9]
  refine go_w (wA_c wc' wm).symm ?_
  show Go (mLw L xs) 9 true 0 0 150 [some vS, some (vR 0), some (vR 56), some (vI (nI j))] [vI v] (wA wc' wm) Q
  refine go_aload_n (pc := 150) 2 dL_law_150 rfl rfl ?_
  refine go_sload_n (pc := 151) 0 dL_law_151 rfl rfl ?_
  refine go_iload_n (pc := 152) 3 dL_law_152 rfl rfl ?_
  refine go_iconst (pc := 153) (1 : Int32) dL_law_153 (by decide) ?_
  refine go_iadd (pc := 154) dL_law_154 ?_
  refine go_sld (pc := 155) dL_law_155 rfl (lw_in hL hj 1 (by decide) (by decide)) ?_
  refine go_sload_n (pc := 156) 0 dL_law_156 rfl rfl ?_
  refine go_iload_n (pc := 157) 3 dL_law_157 rfl rfl ?_
  refine go_iconst (pc := 158) (2 : Int32) dL_law_158 (by decide) ?_
  refine go_iadd (pc := 159) dL_law_159 ?_
  refine go_sld (pc := 160) dL_law_160 rfl (lw_in hL hj 2 (by decide) (by decide)) ?_
  obtain ⟨hlen, -, -⟩ := hok _ _ hs2
  have hlen1 : wc'.length = 56 := hlen
  refine go_w (wA_m hlen1) ?_
  refine go_callVF (d := 8) (pre := wc') (post := []) (bc := 0) (bs := 0) (pc := 161) (a := 0) (ci := 6) [vI (xs ((nI j) + (1 : Int32)).toNatClampNeg), vI (xs ((nI j) + (2 : Int32)).toNatClampNeg)] [vI v] dL_law_161 kX6_net mlL_17 ivX6_net rfl rfl hw6 rfl (Nat.le_of_ble_eq_true rfl) (by rw [hlen1]; rfl) hc2 (fun r w' hq => ?_)
  obtain ⟨hr9, hw9⟩ := hq
  subst hr9
  rw [hw9]
  refine go_w (wA_m (wm := wm') hlen1).symm ?_
  show Go (mLw L xs) 9 true 0 0 164 [some vS, some (vR 0), some (vR 56), some (vI (nI j))] [vI v, vI v] (wA wc' wm') Q
  refine go_icmp_eq (pc := 164) 1038 dL_law_164 (by decide) (fun _ => ?_) (fun h9 => absurd rfl h9)
  exact hnext _ _ hs2
set_option maxRecDepth 20000 in
theorem lw_case1 {S : List AC → List AC → Prop} {L j : Nat} {xs : Nat → Int32} {wc wm : List AC} {Q : Option AV → List AC → Prop} (hok : SOK S) (hop : ∀ (a0 : Int32) (a1 : Int32) (a2 : Int32) (a3 : Int32) (_ : a3 = 0 ∨ a3 = 1), OpI S mX5_line mX6_line [vI a0, vI a1, vI a2, vI a3]) (hL : L ≤ 2560) (hj : j + 5 ≤ L) (hs : S wc wm) (hnext : ∀ wc wm, S wc wm → Go (mLw L xs) 9 true 0 0 1038 [some vS, some (vR 0), some (vR 56), some (vI (nI j))] [] (wA wc wm) Q) : Go (mLw L xs) 9 true 0 0 169 [some vS, some (vR 0), some (vR 56), some (vI (nI j))] [] (wA wc wm) Q := by
  obtain ⟨hlen0, ⟨fs5, hw5⟩, ⟨fs6, hw6⟩⟩ := hok wc wm hs
  refine go_aload_n (pc := 169) 1 dL_law_169 rfl rfl ?_
  refine go_sload_n (pc := 170) 0 dL_law_170 rfl rfl ?_
  refine go_iload_n (pc := 171) 3 dL_law_171 rfl rfl ?_
  refine go_iconst (pc := 172) (1 : Int32) dL_law_172 (by decide) ?_
  refine go_iadd (pc := 173) dL_law_173 ?_
  refine go_sld (pc := 174) dL_law_174 rfl (lw_in hL hj 1 (by decide) (by decide)) ?_
  refine go_sload_n (pc := 175) 0 dL_law_175 rfl rfl ?_
  refine go_iload_n (pc := 176) 3 dL_law_176 rfl rfl ?_
  refine go_iconst (pc := 177) (2 : Int32) dL_law_177 (by decide) ?_
  refine go_iadd (pc := 178) dL_law_178 ?_
  refine go_sld (pc := 179) dL_law_179 rfl (lw_in hL hj 2 (by decide) (by decide)) ?_
  refine go_sload_n (pc := 180) 0 dL_law_180 rfl rfl ?_
  refine go_iload_n (pc := 181) 3 dL_law_181 rfl rfl ?_
  refine go_iconst (pc := 182) (3 : Int32) dL_law_182 (by decide) ?_
  refine go_iadd (pc := 183) dL_law_183 ?_
  refine go_sld (pc := 184) dL_law_184 rfl (lw_in hL hj 3 (by decide) (by decide)) ?_
  refine go_sload_n (pc := 185) 0 dL_law_185 rfl rfl ?_
  refine go_iload_n (pc := 186) 3 dL_law_186 rfl rfl ?_
  refine go_iconst (pc := 187) (4 : Int32) dL_law_187 (by decide) ?_
  refine go_iadd (pc := 188) dL_law_188 ?_
  refine go_sld (pc := 189) dL_law_189 rfl (lw_in hL hj 4 (by decide) (by decide)) ?_
  refine go_if_eq (pc := 190) 197 dL_law_190 (by decide) (fun hb0 => ?_) (fun hb0 => ?_)
  ·
    refine go_iconst (pc := 197) (0 : Int32) dL_law_197 (by decide) ?_
    obtain ⟨v, wc', wm', hc1, hc2, hs2⟩ := hop ((xs ((nI j) + (1 : Int32)).toNatClampNeg)) ((xs ((nI j) + (2 : Int32)).toNatClampNeg)) ((xs ((nI j) + (3 : Int32)).toNatClampNeg)) ((0 : Int32)) (Or.inl rfl) wc wm hs
    refine go_w (wA_c wc wm) ?_
    refine go_callVF (d := 8) (pre := []) (post := wm.map (shC 56)) (bc := 0) (bs := 0) (pc := 198) (a := 0) (ci := 5) [vI (xs ((nI j) + (1 : Int32)).toNatClampNeg), vI (xs ((nI j) + (2 : Int32)).toNatClampNeg), vI (xs ((nI j) + (3 : Int32)).toNatClampNeg), vI (0 : Int32)] [] dL_law_198 kX5_line mlL_18 ivX5_line rfl rfl hw5 rfl (Nat.le_of_ble_eq_true rfl) rfl hc1 (fun r w' hq => ?_)
    obtain ⟨hr9, hw9⟩ := hq
    subst hr9
    rw [hw9]
    refine go_w (wA_c wc' wm).symm ?_
    show Go (mLw L xs) 9 true 0 0 201 [some vS, some (vR 0), some (vR 56), some (vI (nI j))] [vI v] (wA wc' wm) Q
    refine go_aload_n (pc := 201) 2 dL_law_201 rfl rfl ?_
    refine go_sload_n (pc := 202) 0 dL_law_202 rfl rfl ?_
    refine go_iload_n (pc := 203) 3 dL_law_203 rfl rfl ?_
    refine go_iconst (pc := 204) (1 : Int32) dL_law_204 (by decide) ?_
    refine go_iadd (pc := 205) dL_law_205 ?_
    refine go_sld (pc := 206) dL_law_206 rfl (lw_in hL hj 1 (by decide) (by decide)) ?_
    refine go_sload_n (pc := 207) 0 dL_law_207 rfl rfl ?_
    refine go_iload_n (pc := 208) 3 dL_law_208 rfl rfl ?_
    refine go_iconst (pc := 209) (2 : Int32) dL_law_209 (by decide) ?_
    refine go_iadd (pc := 210) dL_law_210 ?_
    refine go_sld (pc := 211) dL_law_211 rfl (lw_in hL hj 2 (by decide) (by decide)) ?_
    refine go_sload_n (pc := 212) 0 dL_law_212 rfl rfl ?_
    refine go_iload_n (pc := 213) 3 dL_law_213 rfl rfl ?_
    refine go_iconst (pc := 214) (3 : Int32) dL_law_214 (by decide) ?_
    refine go_iadd (pc := 215) dL_law_215 ?_
    refine go_sld (pc := 216) dL_law_216 rfl (lw_in hL hj 3 (by decide) (by decide)) ?_
    refine go_sload_n (pc := 217) 0 dL_law_217 rfl rfl ?_
    refine go_iload_n (pc := 218) 3 dL_law_218 rfl rfl ?_
    refine go_iconst (pc := 219) (4 : Int32) dL_law_219 (by decide) ?_
    refine go_iadd (pc := 220) dL_law_220 ?_
    refine go_sld (pc := 221) dL_law_221 rfl (lw_in hL hj 4 (by decide) (by decide)) ?_
    refine go_if_eq (pc := 222) 229 dL_law_222 (by decide) (fun _ => ?_) (fun h9 => absurd hb0 h9)
    refine go_iconst (pc := 229) (0 : Int32) dL_law_229 (by decide) ?_
    obtain ⟨hlen, -, -⟩ := hok _ _ hs2
    have hlen1 : wc'.length = 56 := hlen
    refine go_w (wA_m hlen1) ?_
    refine go_callVF (d := 8) (pre := wc') (post := []) (bc := 0) (bs := 0) (pc := 230) (a := 0) (ci := 6) [vI (xs ((nI j) + (1 : Int32)).toNatClampNeg), vI (xs ((nI j) + (2 : Int32)).toNatClampNeg), vI (xs ((nI j) + (3 : Int32)).toNatClampNeg), vI (0 : Int32)] [vI v] dL_law_230 kX6_line mlL_22 ivX6_line rfl rfl hw6 rfl (Nat.le_of_ble_eq_true rfl) (by rw [hlen1]; rfl) hc2 (fun r w' hq => ?_)
    obtain ⟨hr9, hw9⟩ := hq
    subst hr9
    rw [hw9]
    refine go_w (wA_m (wm := wm') hlen1).symm ?_
    show Go (mLw L xs) 9 true 0 0 233 [some vS, some (vR 0), some (vR 56), some (vI (nI j))] [vI v, vI v] (wA wc' wm') Q
    refine go_icmp_eq (pc := 233) 1038 dL_law_233 (by decide) (fun _ => ?_) (fun h9 => absurd rfl h9)
    exact hnext _ _ hs2
  ·
    refine go_iconst (pc := 193) (1 : Int32) dL_law_193 (by decide) ?_
    refine go_goto (pc := 194) 198 dL_law_194 (by decide) ?_
    obtain ⟨v, wc', wm', hc1, hc2, hs2⟩ := hop ((xs ((nI j) + (1 : Int32)).toNatClampNeg)) ((xs ((nI j) + (2 : Int32)).toNatClampNeg)) ((xs ((nI j) + (3 : Int32)).toNatClampNeg)) ((1 : Int32)) (Or.inr rfl) wc wm hs
    refine go_w (wA_c wc wm) ?_
    refine go_callVF (d := 8) (pre := []) (post := wm.map (shC 56)) (bc := 0) (bs := 0) (pc := 198) (a := 0) (ci := 5) [vI (xs ((nI j) + (1 : Int32)).toNatClampNeg), vI (xs ((nI j) + (2 : Int32)).toNatClampNeg), vI (xs ((nI j) + (3 : Int32)).toNatClampNeg), vI (1 : Int32)] [] dL_law_198 kX5_line mlL_18 ivX5_line rfl rfl hw5 rfl (Nat.le_of_ble_eq_true rfl) rfl hc1 (fun r w' hq => ?_)
    obtain ⟨hr9, hw9⟩ := hq
    subst hr9
    rw [hw9]
    refine go_w (wA_c wc' wm).symm ?_
    show Go (mLw L xs) 9 true 0 0 201 [some vS, some (vR 0), some (vR 56), some (vI (nI j))] [vI v] (wA wc' wm) Q
    refine go_aload_n (pc := 201) 2 dL_law_201 rfl rfl ?_
    refine go_sload_n (pc := 202) 0 dL_law_202 rfl rfl ?_
    refine go_iload_n (pc := 203) 3 dL_law_203 rfl rfl ?_
    refine go_iconst (pc := 204) (1 : Int32) dL_law_204 (by decide) ?_
    refine go_iadd (pc := 205) dL_law_205 ?_
    refine go_sld (pc := 206) dL_law_206 rfl (lw_in hL hj 1 (by decide) (by decide)) ?_
    refine go_sload_n (pc := 207) 0 dL_law_207 rfl rfl ?_
    refine go_iload_n (pc := 208) 3 dL_law_208 rfl rfl ?_
    refine go_iconst (pc := 209) (2 : Int32) dL_law_209 (by decide) ?_
    refine go_iadd (pc := 210) dL_law_210 ?_
    refine go_sld (pc := 211) dL_law_211 rfl (lw_in hL hj 2 (by decide) (by decide)) ?_
    refine go_sload_n (pc := 212) 0 dL_law_212 rfl rfl ?_
    refine go_iload_n (pc := 213) 3 dL_law_213 rfl rfl ?_
    refine go_iconst (pc := 214) (3 : Int32) dL_law_214 (by decide) ?_
    refine go_iadd (pc := 215) dL_law_215 ?_
    refine go_sld (pc := 216) dL_law_216 rfl (lw_in hL hj 3 (by decide) (by decide)) ?_
    refine go_sload_n (pc := 217) 0 dL_law_217 rfl rfl ?_
    refine go_iload_n (pc := 218) 3 dL_law_218 rfl rfl ?_
    refine go_iconst (pc := 219) (4 : Int32) dL_law_219 (by decide) ?_
    refine go_iadd (pc := 220) dL_law_220 ?_
    refine go_sld (pc := 221) dL_law_221 rfl (lw_in hL hj 4 (by decide) (by decide)) ?_
    refine go_if_eq (pc := 222) 229 dL_law_222 (by decide) (fun h9 => absurd h9 hb0) (fun _ => ?_)
    refine go_iconst (pc := 225) (1 : Int32) dL_law_225 (by decide) ?_
    refine go_goto (pc := 226) 230 dL_law_226 (by decide) ?_
    obtain ⟨hlen, -, -⟩ := hok _ _ hs2
    have hlen1 : wc'.length = 56 := hlen
    refine go_w (wA_m hlen1) ?_
    refine go_callVF (d := 8) (pre := wc') (post := []) (bc := 0) (bs := 0) (pc := 230) (a := 0) (ci := 6) [vI (xs ((nI j) + (1 : Int32)).toNatClampNeg), vI (xs ((nI j) + (2 : Int32)).toNatClampNeg), vI (xs ((nI j) + (3 : Int32)).toNatClampNeg), vI (1 : Int32)] [vI v] dL_law_230 kX6_line mlL_22 ivX6_line rfl rfl hw6 rfl (Nat.le_of_ble_eq_true rfl) (by rw [hlen1]; rfl) hc2 (fun r w' hq => ?_)
    obtain ⟨hr9, hw9⟩ := hq
    subst hr9
    rw [hw9]
    refine go_w (wA_m (wm := wm') hlen1).symm ?_
    show Go (mLw L xs) 9 true 0 0 233 [some vS, some (vR 0), some (vR 56), some (vI (nI j))] [vI v, vI v] (wA wc' wm') Q
    refine go_icmp_eq (pc := 233) 1038 dL_law_233 (by decide) (fun _ => ?_) (fun h9 => absurd rfl h9)
    exact hnext _ _ hs2
set_option maxRecDepth 20000 in
theorem lw_case2 {S : List AC → List AC → Prop} {L j : Nat} {xs : Nat → Int32} {wc wm : List AC} {Q : Option AV → List AC → Prop} (hok : SOK S) (hop : ∀ (a0 : Int32) (a1 : Int32) (a2 : Int32), OpI S mX5_ring mX6_ring [vI a0, vI a1, vI a2]) (hL : L ≤ 2560) (hj : j + 5 ≤ L) (hs : S wc wm) (hnext : ∀ wc wm, S wc wm → Go (mLw L xs) 9 true 0 0 1038 [some vS, some (vR 0), some (vR 56), some (vI (nI j))] [] (wA wc wm) Q) : Go (mLw L xs) 9 true 0 0 238 [some vS, some (vR 0), some (vR 56), some (vI (nI j))] [] (wA wc wm) Q := by
  obtain ⟨hlen0, ⟨fs5, hw5⟩, ⟨fs6, hw6⟩⟩ := hok wc wm hs
  refine go_aload_n (pc := 238) 1 dL_law_238 rfl rfl ?_
  refine go_sload_n (pc := 239) 0 dL_law_239 rfl rfl ?_
  refine go_iload_n (pc := 240) 3 dL_law_240 rfl rfl ?_
  refine go_iconst (pc := 241) (1 : Int32) dL_law_241 (by decide) ?_
  refine go_iadd (pc := 242) dL_law_242 ?_
  refine go_sld (pc := 243) dL_law_243 rfl (lw_in hL hj 1 (by decide) (by decide)) ?_
  refine go_sload_n (pc := 244) 0 dL_law_244 rfl rfl ?_
  refine go_iload_n (pc := 245) 3 dL_law_245 rfl rfl ?_
  refine go_iconst (pc := 246) (2 : Int32) dL_law_246 (by decide) ?_
  refine go_iadd (pc := 247) dL_law_247 ?_
  refine go_sld (pc := 248) dL_law_248 rfl (lw_in hL hj 2 (by decide) (by decide)) ?_
  refine go_sload_n (pc := 249) 0 dL_law_249 rfl rfl ?_
  refine go_iload_n (pc := 250) 3 dL_law_250 rfl rfl ?_
  refine go_iconst (pc := 251) (3 : Int32) dL_law_251 (by decide) ?_
  refine go_iadd (pc := 252) dL_law_252 ?_
  refine go_sld (pc := 253) dL_law_253 rfl (lw_in hL hj 3 (by decide) (by decide)) ?_
  obtain ⟨v, wc', wm', hc1, hc2, hs2⟩ := hop ((xs ((nI j) + (1 : Int32)).toNatClampNeg)) ((xs ((nI j) + (2 : Int32)).toNatClampNeg)) ((xs ((nI j) + (3 : Int32)).toNatClampNeg)) wc wm hs
  refine go_w (wA_c wc wm) ?_
  refine go_callVF (d := 8) (pre := []) (post := wm.map (shC 56)) (bc := 0) (bs := 0) (pc := 254) (a := 0) (ci := 5) [vI (xs ((nI j) + (1 : Int32)).toNatClampNeg), vI (xs ((nI j) + (2 : Int32)).toNatClampNeg), vI (xs ((nI j) + (3 : Int32)).toNatClampNeg)] [] dL_law_254 kX5_ring mlL_23 ivX5_ring rfl rfl hw5 rfl (Nat.le_of_ble_eq_true rfl) rfl hc1 (fun r w' hq => ?_)
  obtain ⟨hr9, hw9⟩ := hq
  subst hr9
  rw [hw9]
  refine go_w (wA_c wc' wm).symm ?_
  show Go (mLw L xs) 9 true 0 0 257 [some vS, some (vR 0), some (vR 56), some (vI (nI j))] [vI v] (wA wc' wm) Q
  refine go_aload_n (pc := 257) 2 dL_law_257 rfl rfl ?_
  refine go_sload_n (pc := 258) 0 dL_law_258 rfl rfl ?_
  refine go_iload_n (pc := 259) 3 dL_law_259 rfl rfl ?_
  refine go_iconst (pc := 260) (1 : Int32) dL_law_260 (by decide) ?_
  refine go_iadd (pc := 261) dL_law_261 ?_
  refine go_sld (pc := 262) dL_law_262 rfl (lw_in hL hj 1 (by decide) (by decide)) ?_
  refine go_sload_n (pc := 263) 0 dL_law_263 rfl rfl ?_
  refine go_iload_n (pc := 264) 3 dL_law_264 rfl rfl ?_
  refine go_iconst (pc := 265) (2 : Int32) dL_law_265 (by decide) ?_
  refine go_iadd (pc := 266) dL_law_266 ?_
  refine go_sld (pc := 267) dL_law_267 rfl (lw_in hL hj 2 (by decide) (by decide)) ?_
  refine go_sload_n (pc := 268) 0 dL_law_268 rfl rfl ?_
  refine go_iload_n (pc := 269) 3 dL_law_269 rfl rfl ?_
  refine go_iconst (pc := 270) (3 : Int32) dL_law_270 (by decide) ?_
  refine go_iadd (pc := 271) dL_law_271 ?_
  refine go_sld (pc := 272) dL_law_272 rfl (lw_in hL hj 3 (by decide) (by decide)) ?_
  obtain ⟨hlen, -, -⟩ := hok _ _ hs2
  have hlen1 : wc'.length = 56 := hlen
  refine go_w (wA_m hlen1) ?_
  refine go_callVF (d := 8) (pre := wc') (post := []) (bc := 0) (bs := 0) (pc := 273) (a := 0) (ci := 6) [vI (xs ((nI j) + (1 : Int32)).toNatClampNeg), vI (xs ((nI j) + (2 : Int32)).toNatClampNeg), vI (xs ((nI j) + (3 : Int32)).toNatClampNeg)] [vI v] dL_law_273 kX6_ring mlL_27 ivX6_ring rfl rfl hw6 rfl (Nat.le_of_ble_eq_true rfl) (by rw [hlen1]; rfl) hc2 (fun r w' hq => ?_)
  obtain ⟨hr9, hw9⟩ := hq
  subst hr9
  rw [hw9]
  refine go_w (wA_m (wm := wm') hlen1).symm ?_
  show Go (mLw L xs) 9 true 0 0 276 [some vS, some (vR 0), some (vR 56), some (vI (nI j))] [vI v, vI v] (wA wc' wm') Q
  refine go_icmp_eq (pc := 276) 1038 dL_law_276 (by decide) (fun _ => ?_) (fun h9 => absurd rfl h9)
  exact hnext _ _ hs2
set_option maxRecDepth 20000 in
theorem lw_case3 {S : List AC → List AC → Prop} {L j : Nat} {xs : Nat → Int32} {wc wm : List AC} {Q : Option AV → List AC → Prop} (hok : SOK S) (hop : ∀ (a0 : Int32) (a1 : Int32) (a2 : Int32), OpI S mX5_product mX6_product [vI a0, vI a1, vI a2]) (hL : L ≤ 2560) (hj : j + 5 ≤ L) (hs : S wc wm) (hnext : ∀ wc wm, S wc wm → Go (mLw L xs) 9 true 0 0 1038 [some vS, some (vR 0), some (vR 56), some (vI (nI j))] [] (wA wc wm) Q) : Go (mLw L xs) 9 true 0 0 281 [some vS, some (vR 0), some (vR 56), some (vI (nI j))] [] (wA wc wm) Q := by
  obtain ⟨hlen0, ⟨fs5, hw5⟩, ⟨fs6, hw6⟩⟩ := hok wc wm hs
  refine go_aload_n (pc := 281) 1 dL_law_281 rfl rfl ?_
  refine go_sload_n (pc := 282) 0 dL_law_282 rfl rfl ?_
  refine go_iload_n (pc := 283) 3 dL_law_283 rfl rfl ?_
  refine go_iconst (pc := 284) (1 : Int32) dL_law_284 (by decide) ?_
  refine go_iadd (pc := 285) dL_law_285 ?_
  refine go_sld (pc := 286) dL_law_286 rfl (lw_in hL hj 1 (by decide) (by decide)) ?_
  refine go_sload_n (pc := 287) 0 dL_law_287 rfl rfl ?_
  refine go_iload_n (pc := 288) 3 dL_law_288 rfl rfl ?_
  refine go_iconst (pc := 289) (2 : Int32) dL_law_289 (by decide) ?_
  refine go_iadd (pc := 290) dL_law_290 ?_
  refine go_sld (pc := 291) dL_law_291 rfl (lw_in hL hj 2 (by decide) (by decide)) ?_
  refine go_sload_n (pc := 292) 0 dL_law_292 rfl rfl ?_
  refine go_iload_n (pc := 293) 3 dL_law_293 rfl rfl ?_
  refine go_iconst (pc := 294) (3 : Int32) dL_law_294 (by decide) ?_
  refine go_iadd (pc := 295) dL_law_295 ?_
  refine go_sld (pc := 296) dL_law_296 rfl (lw_in hL hj 3 (by decide) (by decide)) ?_
  obtain ⟨v, wc', wm', hc1, hc2, hs2⟩ := hop ((xs ((nI j) + (1 : Int32)).toNatClampNeg)) ((xs ((nI j) + (2 : Int32)).toNatClampNeg)) ((xs ((nI j) + (3 : Int32)).toNatClampNeg)) wc wm hs
  refine go_w (wA_c wc wm) ?_
  refine go_callVF (d := 8) (pre := []) (post := wm.map (shC 56)) (bc := 0) (bs := 0) (pc := 297) (a := 0) (ci := 5) [vI (xs ((nI j) + (1 : Int32)).toNatClampNeg), vI (xs ((nI j) + (2 : Int32)).toNatClampNeg), vI (xs ((nI j) + (3 : Int32)).toNatClampNeg)] [] dL_law_297 kX5_product mlL_28 ivX5_product rfl rfl hw5 rfl (Nat.le_of_ble_eq_true rfl) rfl hc1 (fun r w' hq => ?_)
  obtain ⟨hr9, hw9⟩ := hq
  subst hr9
  rw [hw9]
  refine go_w (wA_c wc' wm).symm ?_
  show Go (mLw L xs) 9 true 0 0 300 [some vS, some (vR 0), some (vR 56), some (vI (nI j))] [vI v] (wA wc' wm) Q
  refine go_aload_n (pc := 300) 2 dL_law_300 rfl rfl ?_
  refine go_sload_n (pc := 301) 0 dL_law_301 rfl rfl ?_
  refine go_iload_n (pc := 302) 3 dL_law_302 rfl rfl ?_
  refine go_iconst (pc := 303) (1 : Int32) dL_law_303 (by decide) ?_
  refine go_iadd (pc := 304) dL_law_304 ?_
  refine go_sld (pc := 305) dL_law_305 rfl (lw_in hL hj 1 (by decide) (by decide)) ?_
  refine go_sload_n (pc := 306) 0 dL_law_306 rfl rfl ?_
  refine go_iload_n (pc := 307) 3 dL_law_307 rfl rfl ?_
  refine go_iconst (pc := 308) (2 : Int32) dL_law_308 (by decide) ?_
  refine go_iadd (pc := 309) dL_law_309 ?_
  refine go_sld (pc := 310) dL_law_310 rfl (lw_in hL hj 2 (by decide) (by decide)) ?_
  refine go_sload_n (pc := 311) 0 dL_law_311 rfl rfl ?_
  refine go_iload_n (pc := 312) 3 dL_law_312 rfl rfl ?_
  refine go_iconst (pc := 313) (3 : Int32) dL_law_313 (by decide) ?_
  refine go_iadd (pc := 314) dL_law_314 ?_
  refine go_sld (pc := 315) dL_law_315 rfl (lw_in hL hj 3 (by decide) (by decide)) ?_
  obtain ⟨hlen, -, -⟩ := hok _ _ hs2
  have hlen1 : wc'.length = 56 := hlen
  refine go_w (wA_m hlen1) ?_
  refine go_callVF (d := 8) (pre := wc') (post := []) (bc := 0) (bs := 0) (pc := 316) (a := 0) (ci := 6) [vI (xs ((nI j) + (1 : Int32)).toNatClampNeg), vI (xs ((nI j) + (2 : Int32)).toNatClampNeg), vI (xs ((nI j) + (3 : Int32)).toNatClampNeg)] [vI v] dL_law_316 kX6_product mlL_31 ivX6_product rfl rfl hw6 rfl (Nat.le_of_ble_eq_true rfl) (by rw [hlen1]; rfl) hc2 (fun r w' hq => ?_)
  obtain ⟨hr9, hw9⟩ := hq
  subst hr9
  rw [hw9]
  refine go_w (wA_m (wm := wm') hlen1).symm ?_
  show Go (mLw L xs) 9 true 0 0 319 [some vS, some (vR 0), some (vR 56), some (vI (nI j))] [vI v, vI v] (wA wc' wm') Q
  refine go_icmp_eq (pc := 319) 1038 dL_law_319 (by decide) (fun _ => ?_) (fun h9 => absurd rfl h9)
  exact hnext _ _ hs2
set_option maxRecDepth 20000 in
theorem lw_case4 {S : List AC → List AC → Prop} {L j : Nat} {xs : Nat → Int32} {wc wm : List AC} {Q : Option AV → List AC → Prop} (hok : SOK S) (hop : ∀ (a0 : Int32) (a1 : Int32), OpI S mX5_turned mX6_turned [vI a0, vI a1]) (hL : L ≤ 2560) (hj : j + 5 ≤ L) (hs : S wc wm) (hnext : ∀ wc wm, S wc wm → Go (mLw L xs) 9 true 0 0 1038 [some vS, some (vR 0), some (vR 56), some (vI (nI j))] [] (wA wc wm) Q) : Go (mLw L xs) 9 true 0 0 324 [some vS, some (vR 0), some (vR 56), some (vI (nI j))] [] (wA wc wm) Q := by
  obtain ⟨hlen0, ⟨fs5, hw5⟩, ⟨fs6, hw6⟩⟩ := hok wc wm hs
  refine go_aload_n (pc := 324) 1 dL_law_324 rfl rfl ?_
  refine go_sload_n (pc := 325) 0 dL_law_325 rfl rfl ?_
  refine go_iload_n (pc := 326) 3 dL_law_326 rfl rfl ?_
  refine go_iconst (pc := 327) (1 : Int32) dL_law_327 (by decide) ?_
  refine go_iadd (pc := 328) dL_law_328 ?_
  refine go_sld (pc := 329) dL_law_329 rfl (lw_in hL hj 1 (by decide) (by decide)) ?_
  refine go_sload_n (pc := 330) 0 dL_law_330 rfl rfl ?_
  refine go_iload_n (pc := 331) 3 dL_law_331 rfl rfl ?_
  refine go_iconst (pc := 332) (2 : Int32) dL_law_332 (by decide) ?_
  refine go_iadd (pc := 333) dL_law_333 ?_
  refine go_sld (pc := 334) dL_law_334 rfl (lw_in hL hj 2 (by decide) (by decide)) ?_
  obtain ⟨v, wc', wm', hc1, hc2, hs2⟩ := hop ((xs ((nI j) + (1 : Int32)).toNatClampNeg)) ((xs ((nI j) + (2 : Int32)).toNatClampNeg)) wc wm hs
  refine go_w (wA_c wc wm) ?_
  refine go_callVF (d := 8) (pre := []) (post := wm.map (shC 56)) (bc := 0) (bs := 0) (pc := 335) (a := 0) (ci := 5) [vI (xs ((nI j) + (1 : Int32)).toNatClampNeg), vI (xs ((nI j) + (2 : Int32)).toNatClampNeg)] [] dL_law_335 kX5_turned mlL_32 ivX5_turned rfl rfl hw5 rfl (Nat.le_of_ble_eq_true rfl) rfl hc1 (fun r w' hq => ?_)
  obtain ⟨hr9, hw9⟩ := hq
  subst hr9
  rw [hw9]
  refine go_w (wA_c wc' wm).symm ?_
  show Go (mLw L xs) 9 true 0 0 338 [some vS, some (vR 0), some (vR 56), some (vI (nI j))] [vI v] (wA wc' wm) Q
  refine go_aload_n (pc := 338) 2 dL_law_338 rfl rfl ?_
  refine go_sload_n (pc := 339) 0 dL_law_339 rfl rfl ?_
  refine go_iload_n (pc := 340) 3 dL_law_340 rfl rfl ?_
  refine go_iconst (pc := 341) (1 : Int32) dL_law_341 (by decide) ?_
  refine go_iadd (pc := 342) dL_law_342 ?_
  refine go_sld (pc := 343) dL_law_343 rfl (lw_in hL hj 1 (by decide) (by decide)) ?_
  refine go_sload_n (pc := 344) 0 dL_law_344 rfl rfl ?_
  refine go_iload_n (pc := 345) 3 dL_law_345 rfl rfl ?_
  refine go_iconst (pc := 346) (2 : Int32) dL_law_346 (by decide) ?_
  refine go_iadd (pc := 347) dL_law_347 ?_
  refine go_sld (pc := 348) dL_law_348 rfl (lw_in hL hj 2 (by decide) (by decide)) ?_
  obtain ⟨hlen, -, -⟩ := hok _ _ hs2
  have hlen1 : wc'.length = 56 := hlen
  refine go_w (wA_m hlen1) ?_
  refine go_callVF (d := 8) (pre := wc') (post := []) (bc := 0) (bs := 0) (pc := 349) (a := 0) (ci := 6) [vI (xs ((nI j) + (1 : Int32)).toNatClampNeg), vI (xs ((nI j) + (2 : Int32)).toNatClampNeg)] [vI v] dL_law_349 kX6_turned mlL_35 ivX6_turned rfl rfl hw6 rfl (Nat.le_of_ble_eq_true rfl) (by rw [hlen1]; rfl) hc2 (fun r w' hq => ?_)
  obtain ⟨hr9, hw9⟩ := hq
  subst hr9
  rw [hw9]
  refine go_w (wA_m (wm := wm') hlen1).symm ?_
  show Go (mLw L xs) 9 true 0 0 352 [some vS, some (vR 0), some (vR 56), some (vI (nI j))] [vI v, vI v] (wA wc' wm') Q
  refine go_icmp_eq (pc := 352) 1038 dL_law_352 (by decide) (fun _ => ?_) (fun h9 => absurd rfl h9)
  exact hnext _ _ hs2
set_option maxRecDepth 20000 in
theorem lw_case5 {S : List AC → List AC → Prop} {L j : Nat} {xs : Nat → Int32} {wc wm : List AC} {Q : Option AV → List AC → Prop} (hok : SOK S) (hop : ∀ (a0 : Int32) (a1 : Int32), OpI S mX5_about mX6_about [vI a0, vI a1]) (hL : L ≤ 2560) (hj : j + 5 ≤ L) (hs : S wc wm) (hnext : ∀ wc wm, S wc wm → Go (mLw L xs) 9 true 0 0 1038 [some vS, some (vR 0), some (vR 56), some (vI (nI j))] [] (wA wc wm) Q) : Go (mLw L xs) 9 true 0 0 357 [some vS, some (vR 0), some (vR 56), some (vI (nI j))] [] (wA wc wm) Q := by
  obtain ⟨hlen0, ⟨fs5, hw5⟩, ⟨fs6, hw6⟩⟩ := hok wc wm hs
  refine go_aload_n (pc := 357) 1 dL_law_357 rfl rfl ?_
  refine go_sload_n (pc := 358) 0 dL_law_358 rfl rfl ?_
  refine go_iload_n (pc := 359) 3 dL_law_359 rfl rfl ?_
  refine go_iconst (pc := 360) (1 : Int32) dL_law_360 (by decide) ?_
  refine go_iadd (pc := 361) dL_law_361 ?_
  refine go_sld (pc := 362) dL_law_362 rfl (lw_in hL hj 1 (by decide) (by decide)) ?_
  refine go_sload_n (pc := 363) 0 dL_law_363 rfl rfl ?_
  refine go_iload_n (pc := 364) 3 dL_law_364 rfl rfl ?_
  refine go_iconst (pc := 365) (2 : Int32) dL_law_365 (by decide) ?_
  refine go_iadd (pc := 366) dL_law_366 ?_
  refine go_sld (pc := 367) dL_law_367 rfl (lw_in hL hj 2 (by decide) (by decide)) ?_
  obtain ⟨v, wc', wm', hc1, hc2, hs2⟩ := hop ((xs ((nI j) + (1 : Int32)).toNatClampNeg)) ((xs ((nI j) + (2 : Int32)).toNatClampNeg)) wc wm hs
  refine go_w (wA_c wc wm) ?_
  refine go_callVF (d := 8) (pre := []) (post := wm.map (shC 56)) (bc := 0) (bs := 0) (pc := 368) (a := 0) (ci := 5) [vI (xs ((nI j) + (1 : Int32)).toNatClampNeg), vI (xs ((nI j) + (2 : Int32)).toNatClampNeg)] [] dL_law_368 kX5_about mlL_36 ivX5_about rfl rfl hw5 rfl (Nat.le_of_ble_eq_true rfl) rfl hc1 (fun r w' hq => ?_)
  obtain ⟨hr9, hw9⟩ := hq
  subst hr9
  rw [hw9]
  refine go_w (wA_c wc' wm).symm ?_
  show Go (mLw L xs) 9 true 0 0 371 [some vS, some (vR 0), some (vR 56), some (vI (nI j))] [vI v] (wA wc' wm) Q
  refine go_aload_n (pc := 371) 2 dL_law_371 rfl rfl ?_
  refine go_sload_n (pc := 372) 0 dL_law_372 rfl rfl ?_
  refine go_iload_n (pc := 373) 3 dL_law_373 rfl rfl ?_
  refine go_iconst (pc := 374) (1 : Int32) dL_law_374 (by decide) ?_
  refine go_iadd (pc := 375) dL_law_375 ?_
  refine go_sld (pc := 376) dL_law_376 rfl (lw_in hL hj 1 (by decide) (by decide)) ?_
  refine go_sload_n (pc := 377) 0 dL_law_377 rfl rfl ?_
  refine go_iload_n (pc := 378) 3 dL_law_378 rfl rfl ?_
  refine go_iconst (pc := 379) (2 : Int32) dL_law_379 (by decide) ?_
  refine go_iadd (pc := 380) dL_law_380 ?_
  refine go_sld (pc := 381) dL_law_381 rfl (lw_in hL hj 2 (by decide) (by decide)) ?_
  obtain ⟨hlen, -, -⟩ := hok _ _ hs2
  have hlen1 : wc'.length = 56 := hlen
  refine go_w (wA_m hlen1) ?_
  refine go_callVF (d := 8) (pre := wc') (post := []) (bc := 0) (bs := 0) (pc := 382) (a := 0) (ci := 6) [vI (xs ((nI j) + (1 : Int32)).toNatClampNeg), vI (xs ((nI j) + (2 : Int32)).toNatClampNeg)] [vI v] dL_law_382 kX6_about mlL_39 ivX6_about rfl rfl hw6 rfl (Nat.le_of_ble_eq_true rfl) (by rw [hlen1]; rfl) hc2 (fun r w' hq => ?_)
  obtain ⟨hr9, hw9⟩ := hq
  subst hr9
  rw [hw9]
  refine go_w (wA_m (wm := wm') hlen1).symm ?_
  show Go (mLw L xs) 9 true 0 0 385 [some vS, some (vR 0), some (vR 56), some (vI (nI j))] [vI v, vI v] (wA wc' wm') Q
  refine go_icmp_eq (pc := 385) 1038 dL_law_385 (by decide) (fun _ => ?_) (fun h9 => absurd rfl h9)
  exact hnext _ _ hs2
set_option maxRecDepth 20000 in
theorem lw_case6 {S : List AC → List AC → Prop} {L j : Nat} {xs : Nat → Int32} {wc wm : List AC} {Q : Option AV → List AC → Prop} (hok : SOK S) (hop : ∀ (a0 : Int32) (a1 : Int32), OpI S mX5_near mX6_near [vI a0, vI a1]) (hL : L ≤ 2560) (hj : j + 5 ≤ L) (hs : S wc wm) (hnext : ∀ wc wm, S wc wm → Go (mLw L xs) 9 true 0 0 1038 [some vS, some (vR 0), some (vR 56), some (vI (nI j))] [] (wA wc wm) Q) : Go (mLw L xs) 9 true 0 0 390 [some vS, some (vR 0), some (vR 56), some (vI (nI j))] [] (wA wc wm) Q := by
  obtain ⟨hlen0, ⟨fs5, hw5⟩, ⟨fs6, hw6⟩⟩ := hok wc wm hs
  refine go_aload_n (pc := 390) 1 dL_law_390 rfl rfl ?_
  refine go_sload_n (pc := 391) 0 dL_law_391 rfl rfl ?_
  refine go_iload_n (pc := 392) 3 dL_law_392 rfl rfl ?_
  refine go_iconst (pc := 393) (1 : Int32) dL_law_393 (by decide) ?_
  refine go_iadd (pc := 394) dL_law_394 ?_
  refine go_sld (pc := 395) dL_law_395 rfl (lw_in hL hj 1 (by decide) (by decide)) ?_
  refine go_sload_n (pc := 396) 0 dL_law_396 rfl rfl ?_
  refine go_iload_n (pc := 397) 3 dL_law_397 rfl rfl ?_
  refine go_iconst (pc := 398) (2 : Int32) dL_law_398 (by decide) ?_
  refine go_iadd (pc := 399) dL_law_399 ?_
  refine go_sld (pc := 400) dL_law_400 rfl (lw_in hL hj 2 (by decide) (by decide)) ?_
  obtain ⟨v, wc', wm', hc1, hc2, hs2⟩ := hop ((xs ((nI j) + (1 : Int32)).toNatClampNeg)) ((xs ((nI j) + (2 : Int32)).toNatClampNeg)) wc wm hs
  refine go_w (wA_c wc wm) ?_
  refine go_callVF (d := 8) (pre := []) (post := wm.map (shC 56)) (bc := 0) (bs := 0) (pc := 401) (a := 0) (ci := 5) [vI (xs ((nI j) + (1 : Int32)).toNatClampNeg), vI (xs ((nI j) + (2 : Int32)).toNatClampNeg)] [] dL_law_401 kX5_near mlL_40 ivX5_near rfl rfl hw5 rfl (Nat.le_of_ble_eq_true rfl) rfl hc1 (fun r w' hq => ?_)
  obtain ⟨hr9, hw9⟩ := hq
  subst hr9
  rw [hw9]
  refine go_w (wA_c wc' wm).symm ?_
  show Go (mLw L xs) 9 true 0 0 404 [some vS, some (vR 0), some (vR 56), some (vI (nI j))] [vI v] (wA wc' wm) Q
  refine go_aload_n (pc := 404) 2 dL_law_404 rfl rfl ?_
  refine go_sload_n (pc := 405) 0 dL_law_405 rfl rfl ?_
  refine go_iload_n (pc := 406) 3 dL_law_406 rfl rfl ?_
  refine go_iconst (pc := 407) (1 : Int32) dL_law_407 (by decide) ?_
  refine go_iadd (pc := 408) dL_law_408 ?_
  refine go_sld (pc := 409) dL_law_409 rfl (lw_in hL hj 1 (by decide) (by decide)) ?_
  refine go_sload_n (pc := 410) 0 dL_law_410 rfl rfl ?_
  refine go_iload_n (pc := 411) 3 dL_law_411 rfl rfl ?_
  refine go_iconst (pc := 412) (2 : Int32) dL_law_412 (by decide) ?_
  refine go_iadd (pc := 413) dL_law_413 ?_
  refine go_sld (pc := 414) dL_law_414 rfl (lw_in hL hj 2 (by decide) (by decide)) ?_
  obtain ⟨hlen, -, -⟩ := hok _ _ hs2
  have hlen1 : wc'.length = 56 := hlen
  refine go_w (wA_m hlen1) ?_
  refine go_callVF (d := 8) (pre := wc') (post := []) (bc := 0) (bs := 0) (pc := 415) (a := 0) (ci := 6) [vI (xs ((nI j) + (1 : Int32)).toNatClampNeg), vI (xs ((nI j) + (2 : Int32)).toNatClampNeg)] [vI v] dL_law_415 kX6_near mlL_43 ivX6_near rfl rfl hw6 rfl (Nat.le_of_ble_eq_true rfl) (by rw [hlen1]; rfl) hc2 (fun r w' hq => ?_)
  obtain ⟨hr9, hw9⟩ := hq
  subst hr9
  rw [hw9]
  refine go_w (wA_m (wm := wm') hlen1).symm ?_
  show Go (mLw L xs) 9 true 0 0 418 [some vS, some (vR 0), some (vR 56), some (vI (nI j))] [vI v, vI v] (wA wc' wm') Q
  refine go_icmp_eq (pc := 418) 1038 dL_law_418 (by decide) (fun _ => ?_) (fun h9 => absurd rfl h9)
  exact hnext _ _ hs2
set_option maxRecDepth 20000 in
theorem lw_case7 {S : List AC → List AC → Prop} {L j : Nat} {xs : Nat → Int32} {wc wm : List AC} {Q : Option AV → List AC → Prop} (hok : SOK S) (hop : ∀ (a0 : Int32) (a1 : Int32) (a2 : Int32), OpI S mX5_number mX6_number [vI a0, vI a1, vI a2]) (hL : L ≤ 2560) (hj : j + 5 ≤ L) (hs : S wc wm) (hnext : ∀ wc wm, S wc wm → Go (mLw L xs) 9 true 0 0 1038 [some vS, some (vR 0), some (vR 56), some (vI (nI j))] [] (wA wc wm) Q) : Go (mLw L xs) 9 true 0 0 423 [some vS, some (vR 0), some (vR 56), some (vI (nI j))] [] (wA wc wm) Q := by
  obtain ⟨hlen0, ⟨fs5, hw5⟩, ⟨fs6, hw6⟩⟩ := hok wc wm hs
  refine go_aload_n (pc := 423) 1 dL_law_423 rfl rfl ?_
  refine go_sload_n (pc := 424) 0 dL_law_424 rfl rfl ?_
  refine go_iload_n (pc := 425) 3 dL_law_425 rfl rfl ?_
  refine go_iconst (pc := 426) (1 : Int32) dL_law_426 (by decide) ?_
  refine go_iadd (pc := 427) dL_law_427 ?_
  refine go_sld (pc := 428) dL_law_428 rfl (lw_in hL hj 1 (by decide) (by decide)) ?_
  refine go_sload_n (pc := 429) 0 dL_law_429 rfl rfl ?_
  refine go_iload_n (pc := 430) 3 dL_law_430 rfl rfl ?_
  refine go_iconst (pc := 431) (2 : Int32) dL_law_431 (by decide) ?_
  refine go_iadd (pc := 432) dL_law_432 ?_
  refine go_sld (pc := 433) dL_law_433 rfl (lw_in hL hj 2 (by decide) (by decide)) ?_
  refine go_sload_n (pc := 434) 0 dL_law_434 rfl rfl ?_
  refine go_iload_n (pc := 435) 3 dL_law_435 rfl rfl ?_
  refine go_iconst (pc := 436) (3 : Int32) dL_law_436 (by decide) ?_
  refine go_iadd (pc := 437) dL_law_437 ?_
  refine go_sld (pc := 438) dL_law_438 rfl (lw_in hL hj 3 (by decide) (by decide)) ?_
  obtain ⟨v, wc', wm', hc1, hc2, hs2⟩ := hop ((xs ((nI j) + (1 : Int32)).toNatClampNeg)) ((xs ((nI j) + (2 : Int32)).toNatClampNeg)) ((xs ((nI j) + (3 : Int32)).toNatClampNeg)) wc wm hs
  refine go_w (wA_c wc wm) ?_
  refine go_callVF (d := 8) (pre := []) (post := wm.map (shC 56)) (bc := 0) (bs := 0) (pc := 439) (a := 0) (ci := 5) [vI (xs ((nI j) + (1 : Int32)).toNatClampNeg), vI (xs ((nI j) + (2 : Int32)).toNatClampNeg), vI (xs ((nI j) + (3 : Int32)).toNatClampNeg)] [] dL_law_439 kX5_number mlL_44 ivX5_number rfl rfl hw5 rfl (Nat.le_of_ble_eq_true rfl) rfl hc1 (fun r w' hq => ?_)
  obtain ⟨hr9, hw9⟩ := hq
  subst hr9
  rw [hw9]
  refine go_w (wA_c wc' wm).symm ?_
  show Go (mLw L xs) 9 true 0 0 442 [some vS, some (vR 0), some (vR 56), some (vI (nI j))] [vI v] (wA wc' wm) Q
  refine go_aload_n (pc := 442) 2 dL_law_442 rfl rfl ?_
  refine go_sload_n (pc := 443) 0 dL_law_443 rfl rfl ?_
  refine go_iload_n (pc := 444) 3 dL_law_444 rfl rfl ?_
  refine go_iconst (pc := 445) (1 : Int32) dL_law_445 (by decide) ?_
  refine go_iadd (pc := 446) dL_law_446 ?_
  refine go_sld (pc := 447) dL_law_447 rfl (lw_in hL hj 1 (by decide) (by decide)) ?_
  refine go_sload_n (pc := 448) 0 dL_law_448 rfl rfl ?_
  refine go_iload_n (pc := 449) 3 dL_law_449 rfl rfl ?_
  refine go_iconst (pc := 450) (2 : Int32) dL_law_450 (by decide) ?_
  refine go_iadd (pc := 451) dL_law_451 ?_
  refine go_sld (pc := 452) dL_law_452 rfl (lw_in hL hj 2 (by decide) (by decide)) ?_
  refine go_sload_n (pc := 453) 0 dL_law_453 rfl rfl ?_
  refine go_iload_n (pc := 454) 3 dL_law_454 rfl rfl ?_
  refine go_iconst (pc := 455) (3 : Int32) dL_law_455 (by decide) ?_
  refine go_iadd (pc := 456) dL_law_456 ?_
  refine go_sld (pc := 457) dL_law_457 rfl (lw_in hL hj 3 (by decide) (by decide)) ?_
  obtain ⟨hlen, -, -⟩ := hok _ _ hs2
  have hlen1 : wc'.length = 56 := hlen
  refine go_w (wA_m hlen1) ?_
  refine go_callVF (d := 8) (pre := wc') (post := []) (bc := 0) (bs := 0) (pc := 458) (a := 0) (ci := 6) [vI (xs ((nI j) + (1 : Int32)).toNatClampNeg), vI (xs ((nI j) + (2 : Int32)).toNatClampNeg), vI (xs ((nI j) + (3 : Int32)).toNatClampNeg)] [vI v] dL_law_458 kX6_number mlL_47 ivX6_number rfl rfl hw6 rfl (Nat.le_of_ble_eq_true rfl) (by rw [hlen1]; rfl) hc2 (fun r w' hq => ?_)
  obtain ⟨hr9, hw9⟩ := hq
  subst hr9
  rw [hw9]
  refine go_w (wA_m (wm := wm') hlen1).symm ?_
  show Go (mLw L xs) 9 true 0 0 461 [some vS, some (vR 0), some (vR 56), some (vI (nI j))] [vI v, vI v] (wA wc' wm') Q
  refine go_icmp_eq (pc := 461) 1038 dL_law_461 (by decide) (fun _ => ?_) (fun h9 => absurd rfl h9)
  exact hnext _ _ hs2
set_option maxRecDepth 20000 in
theorem lw_case8 {S : List AC → List AC → Prop} {L j : Nat} {xs : Nat → Int32} {wc wm : List AC} {Q : Option AV → List AC → Prop} (hok : SOK S) (hop : ∀ (a0 : Int32) (a1 : Int32) (_ : a1 = 0 ∨ a1 = 1) (a2 : Int32), OpI S mX5_growth mX6_growth [vI a0, vI a1, vI a2]) (hL : L ≤ 2560) (hj : j + 5 ≤ L) (hs : S wc wm) (hnext : ∀ wc wm, S wc wm → Go (mLw L xs) 9 true 0 0 1038 [some vS, some (vR 0), some (vR 56), some (vI (nI j))] [] (wA wc wm) Q) : Go (mLw L xs) 9 true 0 0 466 [some vS, some (vR 0), some (vR 56), some (vI (nI j))] [] (wA wc wm) Q := by
  obtain ⟨hlen0, ⟨fs5, hw5⟩, ⟨fs6, hw6⟩⟩ := hok wc wm hs
  refine go_aload_n (pc := 466) 1 dL_law_466 rfl rfl ?_
  refine go_sload_n (pc := 467) 0 dL_law_467 rfl rfl ?_
  refine go_iload_n (pc := 468) 3 dL_law_468 rfl rfl ?_
  refine go_iconst (pc := 469) (1 : Int32) dL_law_469 (by decide) ?_
  refine go_iadd (pc := 470) dL_law_470 ?_
  refine go_sld (pc := 471) dL_law_471 rfl (lw_in hL hj 1 (by decide) (by decide)) ?_
  refine go_sload_n (pc := 472) 0 dL_law_472 rfl rfl ?_
  refine go_iload_n (pc := 473) 3 dL_law_473 rfl rfl ?_
  refine go_iconst (pc := 474) (2 : Int32) dL_law_474 (by decide) ?_
  refine go_iadd (pc := 475) dL_law_475 ?_
  refine go_sld (pc := 476) dL_law_476 rfl (lw_in hL hj 2 (by decide) (by decide)) ?_
  refine go_if_eq (pc := 477) 484 dL_law_477 (by decide) (fun hb0 => ?_) (fun hb0 => ?_)
  ·
    refine go_iconst (pc := 484) (0 : Int32) dL_law_484 (by decide) ?_
    refine go_sload_n (pc := 485) 0 dL_law_485 rfl rfl ?_
    refine go_iload_n (pc := 486) 3 dL_law_486 rfl rfl ?_
    refine go_iconst (pc := 487) (3 : Int32) dL_law_487 (by decide) ?_
    refine go_iadd (pc := 488) dL_law_488 ?_
    refine go_sld (pc := 489) dL_law_489 rfl (lw_in hL hj 3 (by decide) (by decide)) ?_
    obtain ⟨v, wc', wm', hc1, hc2, hs2⟩ := hop ((xs ((nI j) + (1 : Int32)).toNatClampNeg)) ((0 : Int32)) (Or.inl rfl) ((xs ((nI j) + (3 : Int32)).toNatClampNeg)) wc wm hs
    refine go_w (wA_c wc wm) ?_
    refine go_callVF (d := 8) (pre := []) (post := wm.map (shC 56)) (bc := 0) (bs := 0) (pc := 490) (a := 0) (ci := 5) [vI (xs ((nI j) + (1 : Int32)).toNatClampNeg), vI (0 : Int32), vI (xs ((nI j) + (3 : Int32)).toNatClampNeg)] [] dL_law_490 kX5_growth mlL_48 ivX5_growth rfl rfl hw5 rfl (Nat.le_of_ble_eq_true rfl) rfl hc1 (fun r w' hq => ?_)
    obtain ⟨hr9, hw9⟩ := hq
    subst hr9
    rw [hw9]
    refine go_w (wA_c wc' wm).symm ?_
    show Go (mLw L xs) 9 true 0 0 493 [some vS, some (vR 0), some (vR 56), some (vI (nI j))] [vI v] (wA wc' wm) Q
    refine go_aload_n (pc := 493) 2 dL_law_493 rfl rfl ?_
    refine go_sload_n (pc := 494) 0 dL_law_494 rfl rfl ?_
    refine go_iload_n (pc := 495) 3 dL_law_495 rfl rfl ?_
    refine go_iconst (pc := 496) (1 : Int32) dL_law_496 (by decide) ?_
    refine go_iadd (pc := 497) dL_law_497 ?_
    refine go_sld (pc := 498) dL_law_498 rfl (lw_in hL hj 1 (by decide) (by decide)) ?_
    refine go_sload_n (pc := 499) 0 dL_law_499 rfl rfl ?_
    refine go_iload_n (pc := 500) 3 dL_law_500 rfl rfl ?_
    refine go_iconst (pc := 501) (2 : Int32) dL_law_501 (by decide) ?_
    refine go_iadd (pc := 502) dL_law_502 ?_
    refine go_sld (pc := 503) dL_law_503 rfl (lw_in hL hj 2 (by decide) (by decide)) ?_
    refine go_if_eq (pc := 504) 511 dL_law_504 (by decide) (fun _ => ?_) (fun h9 => absurd hb0 h9)
    refine go_iconst (pc := 511) (0 : Int32) dL_law_511 (by decide) ?_
    refine go_sload_n (pc := 512) 0 dL_law_512 rfl rfl ?_
    refine go_iload_n (pc := 513) 3 dL_law_513 rfl rfl ?_
    refine go_iconst (pc := 514) (3 : Int32) dL_law_514 (by decide) ?_
    refine go_iadd (pc := 515) dL_law_515 ?_
    refine go_sld (pc := 516) dL_law_516 rfl (lw_in hL hj 3 (by decide) (by decide)) ?_
    obtain ⟨hlen, -, -⟩ := hok _ _ hs2
    have hlen1 : wc'.length = 56 := hlen
    refine go_w (wA_m hlen1) ?_
    refine go_callVF (d := 8) (pre := wc') (post := []) (bc := 0) (bs := 0) (pc := 517) (a := 0) (ci := 6) [vI (xs ((nI j) + (1 : Int32)).toNatClampNeg), vI (0 : Int32), vI (xs ((nI j) + (3 : Int32)).toNatClampNeg)] [vI v] dL_law_517 kX6_growth mlL_52 ivX6_growth rfl rfl hw6 rfl (Nat.le_of_ble_eq_true rfl) (by rw [hlen1]; rfl) hc2 (fun r w' hq => ?_)
    obtain ⟨hr9, hw9⟩ := hq
    subst hr9
    rw [hw9]
    refine go_w (wA_m (wm := wm') hlen1).symm ?_
    show Go (mLw L xs) 9 true 0 0 520 [some vS, some (vR 0), some (vR 56), some (vI (nI j))] [vI v, vI v] (wA wc' wm') Q
    refine go_icmp_eq (pc := 520) 1038 dL_law_520 (by decide) (fun _ => ?_) (fun h9 => absurd rfl h9)
    exact hnext _ _ hs2
  ·
    refine go_iconst (pc := 480) (1 : Int32) dL_law_480 (by decide) ?_
    refine go_goto (pc := 481) 485 dL_law_481 (by decide) ?_
    refine go_sload_n (pc := 485) 0 dL_law_485 rfl rfl ?_
    refine go_iload_n (pc := 486) 3 dL_law_486 rfl rfl ?_
    refine go_iconst (pc := 487) (3 : Int32) dL_law_487 (by decide) ?_
    refine go_iadd (pc := 488) dL_law_488 ?_
    refine go_sld (pc := 489) dL_law_489 rfl (lw_in hL hj 3 (by decide) (by decide)) ?_
    obtain ⟨v, wc', wm', hc1, hc2, hs2⟩ := hop ((xs ((nI j) + (1 : Int32)).toNatClampNeg)) ((1 : Int32)) (Or.inr rfl) ((xs ((nI j) + (3 : Int32)).toNatClampNeg)) wc wm hs
    refine go_w (wA_c wc wm) ?_
    refine go_callVF (d := 8) (pre := []) (post := wm.map (shC 56)) (bc := 0) (bs := 0) (pc := 490) (a := 0) (ci := 5) [vI (xs ((nI j) + (1 : Int32)).toNatClampNeg), vI (1 : Int32), vI (xs ((nI j) + (3 : Int32)).toNatClampNeg)] [] dL_law_490 kX5_growth mlL_48 ivX5_growth rfl rfl hw5 rfl (Nat.le_of_ble_eq_true rfl) rfl hc1 (fun r w' hq => ?_)
    obtain ⟨hr9, hw9⟩ := hq
    subst hr9
    rw [hw9]
    refine go_w (wA_c wc' wm).symm ?_
    show Go (mLw L xs) 9 true 0 0 493 [some vS, some (vR 0), some (vR 56), some (vI (nI j))] [vI v] (wA wc' wm) Q
    refine go_aload_n (pc := 493) 2 dL_law_493 rfl rfl ?_
    refine go_sload_n (pc := 494) 0 dL_law_494 rfl rfl ?_
    refine go_iload_n (pc := 495) 3 dL_law_495 rfl rfl ?_
    refine go_iconst (pc := 496) (1 : Int32) dL_law_496 (by decide) ?_
    refine go_iadd (pc := 497) dL_law_497 ?_
    refine go_sld (pc := 498) dL_law_498 rfl (lw_in hL hj 1 (by decide) (by decide)) ?_
    refine go_sload_n (pc := 499) 0 dL_law_499 rfl rfl ?_
    refine go_iload_n (pc := 500) 3 dL_law_500 rfl rfl ?_
    refine go_iconst (pc := 501) (2 : Int32) dL_law_501 (by decide) ?_
    refine go_iadd (pc := 502) dL_law_502 ?_
    refine go_sld (pc := 503) dL_law_503 rfl (lw_in hL hj 2 (by decide) (by decide)) ?_
    refine go_if_eq (pc := 504) 511 dL_law_504 (by decide) (fun h9 => absurd h9 hb0) (fun _ => ?_)
    refine go_iconst (pc := 507) (1 : Int32) dL_law_507 (by decide) ?_
    refine go_goto (pc := 508) 512 dL_law_508 (by decide) ?_
    refine go_sload_n (pc := 512) 0 dL_law_512 rfl rfl ?_
    refine go_iload_n (pc := 513) 3 dL_law_513 rfl rfl ?_
    refine go_iconst (pc := 514) (3 : Int32) dL_law_514 (by decide) ?_
    refine go_iadd (pc := 515) dL_law_515 ?_
    refine go_sld (pc := 516) dL_law_516 rfl (lw_in hL hj 3 (by decide) (by decide)) ?_
    obtain ⟨hlen, -, -⟩ := hok _ _ hs2
    have hlen1 : wc'.length = 56 := hlen
    refine go_w (wA_m hlen1) ?_
    refine go_callVF (d := 8) (pre := wc') (post := []) (bc := 0) (bs := 0) (pc := 517) (a := 0) (ci := 6) [vI (xs ((nI j) + (1 : Int32)).toNatClampNeg), vI (1 : Int32), vI (xs ((nI j) + (3 : Int32)).toNatClampNeg)] [vI v] dL_law_517 kX6_growth mlL_52 ivX6_growth rfl rfl hw6 rfl (Nat.le_of_ble_eq_true rfl) (by rw [hlen1]; rfl) hc2 (fun r w' hq => ?_)
    obtain ⟨hr9, hw9⟩ := hq
    subst hr9
    rw [hw9]
    refine go_w (wA_m (wm := wm') hlen1).symm ?_
    show Go (mLw L xs) 9 true 0 0 520 [some vS, some (vR 0), some (vR 56), some (vI (nI j))] [vI v, vI v] (wA wc' wm') Q
    refine go_icmp_eq (pc := 520) 1038 dL_law_520 (by decide) (fun _ => ?_) (fun h9 => absurd rfl h9)
    exact hnext _ _ hs2
set_option maxRecDepth 20000 in
theorem lw_case9 {S : List AC → List AC → Prop} {L j : Nat} {xs : Nat → Int32} {wc wm : List AC} {Q : Option AV → List AC → Prop} (hok : SOK S) (hop : ∀ (a0 : Int32) (a1 : Int32) (a2 : Int32), OpI S mX5_more mX6_more [vI a0, vI a1, vI a2]) (hL : L ≤ 2560) (hj : j + 5 ≤ L) (hs : S wc wm) (hnext : ∀ wc wm, S wc wm → Go (mLw L xs) 9 true 0 0 1038 [some vS, some (vR 0), some (vR 56), some (vI (nI j))] [] (wA wc wm) Q) : Go (mLw L xs) 9 true 0 0 525 [some vS, some (vR 0), some (vR 56), some (vI (nI j))] [] (wA wc wm) Q := by
  obtain ⟨hlen0, ⟨fs5, hw5⟩, ⟨fs6, hw6⟩⟩ := hok wc wm hs
  refine go_aload_n (pc := 525) 1 dL_law_525 rfl rfl ?_
  refine go_sload_n (pc := 526) 0 dL_law_526 rfl rfl ?_
  refine go_iload_n (pc := 527) 3 dL_law_527 rfl rfl ?_
  refine go_iconst (pc := 528) (1 : Int32) dL_law_528 (by decide) ?_
  refine go_iadd (pc := 529) dL_law_529 ?_
  refine go_sld (pc := 530) dL_law_530 rfl (lw_in hL hj 1 (by decide) (by decide)) ?_
  refine go_sload_n (pc := 531) 0 dL_law_531 rfl rfl ?_
  refine go_iload_n (pc := 532) 3 dL_law_532 rfl rfl ?_
  refine go_iconst (pc := 533) (2 : Int32) dL_law_533 (by decide) ?_
  refine go_iadd (pc := 534) dL_law_534 ?_
  refine go_sld (pc := 535) dL_law_535 rfl (lw_in hL hj 2 (by decide) (by decide)) ?_
  refine go_sload_n (pc := 536) 0 dL_law_536 rfl rfl ?_
  refine go_iload_n (pc := 537) 3 dL_law_537 rfl rfl ?_
  refine go_iconst (pc := 538) (3 : Int32) dL_law_538 (by decide) ?_
  refine go_iadd (pc := 539) dL_law_539 ?_
  refine go_sld (pc := 540) dL_law_540 rfl (lw_in hL hj 3 (by decide) (by decide)) ?_
  obtain ⟨v, wc', wm', hc1, hc2, hs2⟩ := hop ((xs ((nI j) + (1 : Int32)).toNatClampNeg)) ((xs ((nI j) + (2 : Int32)).toNatClampNeg)) ((xs ((nI j) + (3 : Int32)).toNatClampNeg)) wc wm hs
  refine go_w (wA_c wc wm) ?_
  refine go_callVF (d := 8) (pre := []) (post := wm.map (shC 56)) (bc := 0) (bs := 0) (pc := 541) (a := 0) (ci := 5) [vI (xs ((nI j) + (1 : Int32)).toNatClampNeg), vI (xs ((nI j) + (2 : Int32)).toNatClampNeg), vI (xs ((nI j) + (3 : Int32)).toNatClampNeg)] [] dL_law_541 kX5_more mlL_53 ivX5_more rfl rfl hw5 rfl (Nat.le_of_ble_eq_true rfl) rfl hc1 (fun r w' hq => ?_)
  obtain ⟨hr9, hw9⟩ := hq
  subst hr9
  rw [hw9]
  refine go_w (wA_c wc' wm).symm ?_
  show Go (mLw L xs) 9 true 0 0 544 [some vS, some (vR 0), some (vR 56), some (vI (nI j))] [vI v] (wA wc' wm) Q
  refine go_aload_n (pc := 544) 2 dL_law_544 rfl rfl ?_
  refine go_sload_n (pc := 545) 0 dL_law_545 rfl rfl ?_
  refine go_iload_n (pc := 546) 3 dL_law_546 rfl rfl ?_
  refine go_iconst (pc := 547) (1 : Int32) dL_law_547 (by decide) ?_
  refine go_iadd (pc := 548) dL_law_548 ?_
  refine go_sld (pc := 549) dL_law_549 rfl (lw_in hL hj 1 (by decide) (by decide)) ?_
  refine go_sload_n (pc := 550) 0 dL_law_550 rfl rfl ?_
  refine go_iload_n (pc := 551) 3 dL_law_551 rfl rfl ?_
  refine go_iconst (pc := 552) (2 : Int32) dL_law_552 (by decide) ?_
  refine go_iadd (pc := 553) dL_law_553 ?_
  refine go_sld (pc := 554) dL_law_554 rfl (lw_in hL hj 2 (by decide) (by decide)) ?_
  refine go_sload_n (pc := 555) 0 dL_law_555 rfl rfl ?_
  refine go_iload_n (pc := 556) 3 dL_law_556 rfl rfl ?_
  refine go_iconst (pc := 557) (3 : Int32) dL_law_557 (by decide) ?_
  refine go_iadd (pc := 558) dL_law_558 ?_
  refine go_sld (pc := 559) dL_law_559 rfl (lw_in hL hj 3 (by decide) (by decide)) ?_
  obtain ⟨hlen, -, -⟩ := hok _ _ hs2
  have hlen1 : wc'.length = 56 := hlen
  refine go_w (wA_m hlen1) ?_
  refine go_callVF (d := 8) (pre := wc') (post := []) (bc := 0) (bs := 0) (pc := 560) (a := 0) (ci := 6) [vI (xs ((nI j) + (1 : Int32)).toNatClampNeg), vI (xs ((nI j) + (2 : Int32)).toNatClampNeg), vI (xs ((nI j) + (3 : Int32)).toNatClampNeg)] [vI v] dL_law_560 kX6_more mlL_56 ivX6_more rfl rfl hw6 rfl (Nat.le_of_ble_eq_true rfl) (by rw [hlen1]; rfl) hc2 (fun r w' hq => ?_)
  obtain ⟨hr9, hw9⟩ := hq
  subst hr9
  rw [hw9]
  refine go_w (wA_m (wm := wm') hlen1).symm ?_
  show Go (mLw L xs) 9 true 0 0 563 [some vS, some (vR 0), some (vR 56), some (vI (nI j))] [vI v, vI v] (wA wc' wm') Q
  refine go_icmp_eq (pc := 563) 1038 dL_law_563 (by decide) (fun _ => ?_) (fun h9 => absurd rfl h9)
  exact hnext _ _ hs2
set_option maxRecDepth 20000 in
theorem lw_case10 {S : List AC → List AC → Prop} {L j : Nat} {xs : Nat → Int32} {wc wm : List AC} {Q : Option AV → List AC → Prop} (hok : SOK S) (hop : ∀ (a0 : Int32) (a1 : Int32) (a2 : Int32), OpI S mX5_just mX6_just [vI a0, vI a1, vI a2]) (hL : L ≤ 2560) (hj : j + 5 ≤ L) (hs : S wc wm) (hnext : ∀ wc wm, S wc wm → Go (mLw L xs) 9 true 0 0 1038 [some vS, some (vR 0), some (vR 56), some (vI (nI j))] [] (wA wc wm) Q) : Go (mLw L xs) 9 true 0 0 568 [some vS, some (vR 0), some (vR 56), some (vI (nI j))] [] (wA wc wm) Q := by
  obtain ⟨hlen0, ⟨fs5, hw5⟩, ⟨fs6, hw6⟩⟩ := hok wc wm hs
  refine go_aload_n (pc := 568) 1 dL_law_568 rfl rfl ?_
  refine go_sload_n (pc := 569) 0 dL_law_569 rfl rfl ?_
  refine go_iload_n (pc := 570) 3 dL_law_570 rfl rfl ?_
  refine go_iconst (pc := 571) (1 : Int32) dL_law_571 (by decide) ?_
  refine go_iadd (pc := 572) dL_law_572 ?_
  refine go_sld (pc := 573) dL_law_573 rfl (lw_in hL hj 1 (by decide) (by decide)) ?_
  refine go_sload_n (pc := 574) 0 dL_law_574 rfl rfl ?_
  refine go_iload_n (pc := 575) 3 dL_law_575 rfl rfl ?_
  refine go_iconst (pc := 576) (2 : Int32) dL_law_576 (by decide) ?_
  refine go_iadd (pc := 577) dL_law_577 ?_
  refine go_sld (pc := 578) dL_law_578 rfl (lw_in hL hj 2 (by decide) (by decide)) ?_
  refine go_sload_n (pc := 579) 0 dL_law_579 rfl rfl ?_
  refine go_iload_n (pc := 580) 3 dL_law_580 rfl rfl ?_
  refine go_iconst (pc := 581) (3 : Int32) dL_law_581 (by decide) ?_
  refine go_iadd (pc := 582) dL_law_582 ?_
  refine go_sld (pc := 583) dL_law_583 rfl (lw_in hL hj 3 (by decide) (by decide)) ?_
  obtain ⟨v, wc', wm', hc1, hc2, hs2⟩ := hop ((xs ((nI j) + (1 : Int32)).toNatClampNeg)) ((xs ((nI j) + (2 : Int32)).toNatClampNeg)) ((xs ((nI j) + (3 : Int32)).toNatClampNeg)) wc wm hs
  refine go_w (wA_c wc wm) ?_
  refine go_callVF (d := 8) (pre := []) (post := wm.map (shC 56)) (bc := 0) (bs := 0) (pc := 584) (a := 0) (ci := 5) [vI (xs ((nI j) + (1 : Int32)).toNatClampNeg), vI (xs ((nI j) + (2 : Int32)).toNatClampNeg), vI (xs ((nI j) + (3 : Int32)).toNatClampNeg)] [] dL_law_584 kX5_just mlL_57 ivX5_just rfl rfl hw5 rfl (Nat.le_of_ble_eq_true rfl) rfl hc1 (fun r w' hq => ?_)
  obtain ⟨hr9, hw9⟩ := hq
  subst hr9
  rw [hw9]
  refine go_w (wA_c wc' wm).symm ?_
  show Go (mLw L xs) 9 true 0 0 587 [some vS, some (vR 0), some (vR 56), some (vI (nI j))] [vI v] (wA wc' wm) Q
  refine go_aload_n (pc := 587) 2 dL_law_587 rfl rfl ?_
  refine go_sload_n (pc := 588) 0 dL_law_588 rfl rfl ?_
  refine go_iload_n (pc := 589) 3 dL_law_589 rfl rfl ?_
  refine go_iconst (pc := 590) (1 : Int32) dL_law_590 (by decide) ?_
  refine go_iadd (pc := 591) dL_law_591 ?_
  refine go_sld (pc := 592) dL_law_592 rfl (lw_in hL hj 1 (by decide) (by decide)) ?_
  refine go_sload_n (pc := 593) 0 dL_law_593 rfl rfl ?_
  refine go_iload_n (pc := 594) 3 dL_law_594 rfl rfl ?_
  refine go_iconst (pc := 595) (2 : Int32) dL_law_595 (by decide) ?_
  refine go_iadd (pc := 596) dL_law_596 ?_
  refine go_sld (pc := 597) dL_law_597 rfl (lw_in hL hj 2 (by decide) (by decide)) ?_
  refine go_sload_n (pc := 598) 0 dL_law_598 rfl rfl ?_
  refine go_iload_n (pc := 599) 3 dL_law_599 rfl rfl ?_
  refine go_iconst (pc := 600) (3 : Int32) dL_law_600 (by decide) ?_
  refine go_iadd (pc := 601) dL_law_601 ?_
  refine go_sld (pc := 602) dL_law_602 rfl (lw_in hL hj 3 (by decide) (by decide)) ?_
  obtain ⟨hlen, -, -⟩ := hok _ _ hs2
  have hlen1 : wc'.length = 56 := hlen
  refine go_w (wA_m hlen1) ?_
  refine go_callVF (d := 8) (pre := wc') (post := []) (bc := 0) (bs := 0) (pc := 603) (a := 0) (ci := 6) [vI (xs ((nI j) + (1 : Int32)).toNatClampNeg), vI (xs ((nI j) + (2 : Int32)).toNatClampNeg), vI (xs ((nI j) + (3 : Int32)).toNatClampNeg)] [vI v] dL_law_603 kX6_just mlL_60 ivX6_just rfl rfl hw6 rfl (Nat.le_of_ble_eq_true rfl) (by rw [hlen1]; rfl) hc2 (fun r w' hq => ?_)
  obtain ⟨hr9, hw9⟩ := hq
  subst hr9
  rw [hw9]
  refine go_w (wA_m (wm := wm') hlen1).symm ?_
  show Go (mLw L xs) 9 true 0 0 606 [some vS, some (vR 0), some (vR 56), some (vI (nI j))] [vI v, vI v] (wA wc' wm') Q
  refine go_icmp_eq (pc := 606) 1038 dL_law_606 (by decide) (fun _ => ?_) (fun h9 => absurd rfl h9)
  exact hnext _ _ hs2
set_option maxRecDepth 20000 in
theorem lw_case11 {S : List AC → List AC → Prop} {L j : Nat} {xs : Nat → Int32} {wc wm : List AC} {Q : Option AV → List AC → Prop} (hok : SOK S) (hop : ∀ (a0 : Int32), OpI S mX5_second mX6_second [vI a0]) (hL : L ≤ 2560) (hj : j + 5 ≤ L) (hs : S wc wm) (hnext : ∀ wc wm, S wc wm → Go (mLw L xs) 9 true 0 0 1038 [some vS, some (vR 0), some (vR 56), some (vI (nI j))] [] (wA wc wm) Q) : Go (mLw L xs) 9 true 0 0 611 [some vS, some (vR 0), some (vR 56), some (vI (nI j))] [] (wA wc wm) Q := by
  obtain ⟨hlen0, ⟨fs5, hw5⟩, ⟨fs6, hw6⟩⟩ := hok wc wm hs
  refine go_aload_n (pc := 611) 1 dL_law_611 rfl rfl ?_
  refine go_sload_n (pc := 612) 0 dL_law_612 rfl rfl ?_
  refine go_iload_n (pc := 613) 3 dL_law_613 rfl rfl ?_
  refine go_iconst (pc := 614) (1 : Int32) dL_law_614 (by decide) ?_
  refine go_iadd (pc := 615) dL_law_615 ?_
  refine go_sld (pc := 616) dL_law_616 rfl (lw_in hL hj 1 (by decide) (by decide)) ?_
  obtain ⟨v, wc', wm', hc1, hc2, hs2⟩ := hop ((xs ((nI j) + (1 : Int32)).toNatClampNeg)) wc wm hs
  refine go_w (wA_c wc wm) ?_
  refine go_callVF (d := 8) (pre := []) (post := wm.map (shC 56)) (bc := 0) (bs := 0) (pc := 617) (a := 0) (ci := 5) [vI (xs ((nI j) + (1 : Int32)).toNatClampNeg)] [] dL_law_617 kX5_second mlL_61 ivX5_second rfl rfl hw5 rfl (Nat.le_of_ble_eq_true rfl) rfl hc1 (fun r w' hq => ?_)
  obtain ⟨hr9, hw9⟩ := hq
  subst hr9
  rw [hw9]
  refine go_w (wA_c wc' wm).symm ?_
  show Go (mLw L xs) 9 true 0 0 620 [some vS, some (vR 0), some (vR 56), some (vI (nI j))] [vI v] (wA wc' wm) Q
  refine go_aload_n (pc := 620) 2 dL_law_620 rfl rfl ?_
  refine go_sload_n (pc := 621) 0 dL_law_621 rfl rfl ?_
  refine go_iload_n (pc := 622) 3 dL_law_622 rfl rfl ?_
  refine go_iconst (pc := 623) (1 : Int32) dL_law_623 (by decide) ?_
  refine go_iadd (pc := 624) dL_law_624 ?_
  refine go_sld (pc := 625) dL_law_625 rfl (lw_in hL hj 1 (by decide) (by decide)) ?_
  obtain ⟨hlen, -, -⟩ := hok _ _ hs2
  have hlen1 : wc'.length = 56 := hlen
  refine go_w (wA_m hlen1) ?_
  refine go_callVF (d := 8) (pre := wc') (post := []) (bc := 0) (bs := 0) (pc := 626) (a := 0) (ci := 6) [vI (xs ((nI j) + (1 : Int32)).toNatClampNeg)] [vI v] dL_law_626 kX6_second mlL_65 ivX6_second rfl rfl hw6 rfl (Nat.le_of_ble_eq_true rfl) (by rw [hlen1]; rfl) hc2 (fun r w' hq => ?_)
  obtain ⟨hr9, hw9⟩ := hq
  subst hr9
  rw [hw9]
  refine go_w (wA_m (wm := wm') hlen1).symm ?_
  show Go (mLw L xs) 9 true 0 0 629 [some vS, some (vR 0), some (vR 56), some (vI (nI j))] [vI v, vI v] (wA wc' wm') Q
  refine go_icmp_eq (pc := 629) 1038 dL_law_629 (by decide) (fun _ => ?_) (fun h9 => absurd rfl h9)
  exact hnext _ _ hs2
set_option maxRecDepth 20000 in
theorem lw_case12 {S : List AC → List AC → Prop} {L j : Nat} {xs : Nat → Int32} {wc wm : List AC} {Q : Option AV → List AC → Prop} (hok : SOK S) (hop : ∀ (a0 : Int32) (a1 : Int32), OpI S mX5_span mX6_span [vI a0, vI a1]) (hL : L ≤ 2560) (hj : j + 5 ≤ L) (hs : S wc wm) (hnext : ∀ wc wm, S wc wm → Go (mLw L xs) 9 true 0 0 1038 [some vS, some (vR 0), some (vR 56), some (vI (nI j))] [] (wA wc wm) Q) : Go (mLw L xs) 9 true 0 0 634 [some vS, some (vR 0), some (vR 56), some (vI (nI j))] [] (wA wc wm) Q := by
  obtain ⟨hlen0, ⟨fs5, hw5⟩, ⟨fs6, hw6⟩⟩ := hok wc wm hs
  refine go_aload_n (pc := 634) 1 dL_law_634 rfl rfl ?_
  refine go_sload_n (pc := 635) 0 dL_law_635 rfl rfl ?_
  refine go_iload_n (pc := 636) 3 dL_law_636 rfl rfl ?_
  refine go_iconst (pc := 637) (1 : Int32) dL_law_637 (by decide) ?_
  refine go_iadd (pc := 638) dL_law_638 ?_
  refine go_sld (pc := 639) dL_law_639 rfl (lw_in hL hj 1 (by decide) (by decide)) ?_
  refine go_sload_n (pc := 640) 0 dL_law_640 rfl rfl ?_
  refine go_iload_n (pc := 641) 3 dL_law_641 rfl rfl ?_
  refine go_iconst (pc := 642) (2 : Int32) dL_law_642 (by decide) ?_
  refine go_iadd (pc := 643) dL_law_643 ?_
  refine go_sld (pc := 644) dL_law_644 rfl (lw_in hL hj 2 (by decide) (by decide)) ?_
  obtain ⟨v, wc', wm', hc1, hc2, hs2⟩ := hop ((xs ((nI j) + (1 : Int32)).toNatClampNeg)) ((xs ((nI j) + (2 : Int32)).toNatClampNeg)) wc wm hs
  refine go_w (wA_c wc wm) ?_
  refine go_callVF (d := 8) (pre := []) (post := wm.map (shC 56)) (bc := 0) (bs := 0) (pc := 645) (a := 0) (ci := 5) [vI (xs ((nI j) + (1 : Int32)).toNatClampNeg), vI (xs ((nI j) + (2 : Int32)).toNatClampNeg)] [] dL_law_645 kX5_span mlL_66 ivX5_span rfl rfl hw5 rfl (Nat.le_of_ble_eq_true rfl) rfl hc1 (fun r w' hq => ?_)
  obtain ⟨hr9, hw9⟩ := hq
  subst hr9
  rw [hw9]
  refine go_w (wA_c wc' wm).symm ?_
  show Go (mLw L xs) 9 true 0 0 648 [some vS, some (vR 0), some (vR 56), some (vI (nI j))] [vI v] (wA wc' wm) Q
  refine go_aload_n (pc := 648) 2 dL_law_648 rfl rfl ?_
  refine go_sload_n (pc := 649) 0 dL_law_649 rfl rfl ?_
  refine go_iload_n (pc := 650) 3 dL_law_650 rfl rfl ?_
  refine go_iconst (pc := 651) (1 : Int32) dL_law_651 (by decide) ?_
  refine go_iadd (pc := 652) dL_law_652 ?_
  refine go_sld (pc := 653) dL_law_653 rfl (lw_in hL hj 1 (by decide) (by decide)) ?_
  refine go_sload_n (pc := 654) 0 dL_law_654 rfl rfl ?_
  refine go_iload_n (pc := 655) 3 dL_law_655 rfl rfl ?_
  refine go_iconst (pc := 656) (2 : Int32) dL_law_656 (by decide) ?_
  refine go_iadd (pc := 657) dL_law_657 ?_
  refine go_sld (pc := 658) dL_law_658 rfl (lw_in hL hj 2 (by decide) (by decide)) ?_
  obtain ⟨hlen, -, -⟩ := hok _ _ hs2
  have hlen1 : wc'.length = 56 := hlen
  refine go_w (wA_m hlen1) ?_
  refine go_callVF (d := 8) (pre := wc') (post := []) (bc := 0) (bs := 0) (pc := 659) (a := 0) (ci := 6) [vI (xs ((nI j) + (1 : Int32)).toNatClampNeg), vI (xs ((nI j) + (2 : Int32)).toNatClampNeg)] [vI v] dL_law_659 kX6_span mlL_69 ivX6_span rfl rfl hw6 rfl (Nat.le_of_ble_eq_true rfl) (by rw [hlen1]; rfl) hc2 (fun r w' hq => ?_)
  obtain ⟨hr9, hw9⟩ := hq
  subst hr9
  rw [hw9]
  refine go_w (wA_m (wm := wm') hlen1).symm ?_
  show Go (mLw L xs) 9 true 0 0 662 [some vS, some (vR 0), some (vR 56), some (vI (nI j))] [vI v, vI v] (wA wc' wm') Q
  refine go_icmp_eq (pc := 662) 1038 dL_law_662 (by decide) (fun _ => ?_) (fun h9 => absurd rfl h9)
  exact hnext _ _ hs2
set_option maxRecDepth 20000 in
theorem lw_case13 {S : List AC → List AC → Prop} {L j : Nat} {xs : Nat → Int32} {wc wm : List AC} {Q : Option AV → List AC → Prop} (hok : SOK S) (hop : ∀ (a0 : Int32), OpI S mX5_best mX6_best [vI a0]) (hL : L ≤ 2560) (hj : j + 5 ≤ L) (hs : S wc wm) (hnext : ∀ wc wm, S wc wm → Go (mLw L xs) 9 true 0 0 1038 [some vS, some (vR 0), some (vR 56), some (vI (nI j))] [] (wA wc wm) Q) : Go (mLw L xs) 9 true 0 0 667 [some vS, some (vR 0), some (vR 56), some (vI (nI j))] [] (wA wc wm) Q := by
  obtain ⟨hlen0, ⟨fs5, hw5⟩, ⟨fs6, hw6⟩⟩ := hok wc wm hs
  refine go_aload_n (pc := 667) 1 dL_law_667 rfl rfl ?_
  refine go_sload_n (pc := 668) 0 dL_law_668 rfl rfl ?_
  refine go_iload_n (pc := 669) 3 dL_law_669 rfl rfl ?_
  refine go_iconst (pc := 670) (1 : Int32) dL_law_670 (by decide) ?_
  refine go_iadd (pc := 671) dL_law_671 ?_
  refine go_sld (pc := 672) dL_law_672 rfl (lw_in hL hj 1 (by decide) (by decide)) ?_
  obtain ⟨v, wc', wm', hc1, hc2, hs2⟩ := hop ((xs ((nI j) + (1 : Int32)).toNatClampNeg)) wc wm hs
  refine go_w (wA_c wc wm) ?_
  refine go_callVF (d := 8) (pre := []) (post := wm.map (shC 56)) (bc := 0) (bs := 0) (pc := 673) (a := 0) (ci := 5) [vI (xs ((nI j) + (1 : Int32)).toNatClampNeg)] [] dL_law_673 kX5_best mlL_70 ivX5_best rfl rfl hw5 rfl (Nat.le_of_ble_eq_true rfl) rfl hc1 (fun r w' hq => ?_)
  obtain ⟨hr9, hw9⟩ := hq
  subst hr9
  rw [hw9]
  refine go_w (wA_c wc' wm).symm ?_
  show Go (mLw L xs) 9 true 0 0 676 [some vS, some (vR 0), some (vR 56), some (vI (nI j))] [vI v] (wA wc' wm) Q
  refine go_aload_n (pc := 676) 2 dL_law_676 rfl rfl ?_
  refine go_sload_n (pc := 677) 0 dL_law_677 rfl rfl ?_
  refine go_iload_n (pc := 678) 3 dL_law_678 rfl rfl ?_
  refine go_iconst (pc := 679) (1 : Int32) dL_law_679 (by decide) ?_
  refine go_iadd (pc := 680) dL_law_680 ?_
  refine go_sld (pc := 681) dL_law_681 rfl (lw_in hL hj 1 (by decide) (by decide)) ?_
  obtain ⟨hlen, -, -⟩ := hok _ _ hs2
  have hlen1 : wc'.length = 56 := hlen
  refine go_w (wA_m hlen1) ?_
  refine go_callVF (d := 8) (pre := wc') (post := []) (bc := 0) (bs := 0) (pc := 682) (a := 0) (ci := 6) [vI (xs ((nI j) + (1 : Int32)).toNatClampNeg)] [vI v] dL_law_682 kX6_best mlL_73 ivX6_best rfl rfl hw6 rfl (Nat.le_of_ble_eq_true rfl) (by rw [hlen1]; rfl) hc2 (fun r w' hq => ?_)
  obtain ⟨hr9, hw9⟩ := hq
  subst hr9
  rw [hw9]
  refine go_w (wA_m (wm := wm') hlen1).symm ?_
  show Go (mLw L xs) 9 true 0 0 685 [some vS, some (vR 0), some (vR 56), some (vI (nI j))] [vI v, vI v] (wA wc' wm') Q
  refine go_icmp_eq (pc := 685) 1038 dL_law_685 (by decide) (fun _ => ?_) (fun h9 => absurd rfl h9)
  exact hnext _ _ hs2
set_option maxRecDepth 20000 in
theorem lw_case14 {S : List AC → List AC → Prop} {L j : Nat} {xs : Nat → Int32} {wc wm : List AC} {Q : Option AV → List AC → Prop} (hok : SOK S) (hop : ∀ (a0 : Int32) (a1 : Int32) (a2 : Int32) (a3 : Int32), OpL S mX5_walks mX6_walks [vI a0, vI a1, vI a2, vI a3]) (hL : L ≤ 2560) (hj : j + 5 ≤ L) (hs : S wc wm) (hnext : ∀ wc wm, S wc wm → Go (mLw L xs) 9 true 0 0 1038 [some vS, some (vR 0), some (vR 56), some (vI (nI j))] [] (wA wc wm) Q) : Go (mLw L xs) 9 true 0 0 690 [some vS, some (vR 0), some (vR 56), some (vI (nI j))] [] (wA wc wm) Q := by
  obtain ⟨hlen0, ⟨fs5, hw5⟩, ⟨fs6, hw6⟩⟩ := hok wc wm hs
  refine go_aload_n (pc := 690) 1 dL_law_690 rfl rfl ?_
  refine go_sload_n (pc := 691) 0 dL_law_691 rfl rfl ?_
  refine go_iload_n (pc := 692) 3 dL_law_692 rfl rfl ?_
  refine go_iconst (pc := 693) (1 : Int32) dL_law_693 (by decide) ?_
  refine go_iadd (pc := 694) dL_law_694 ?_
  refine go_sld (pc := 695) dL_law_695 rfl (lw_in hL hj 1 (by decide) (by decide)) ?_
  refine go_sload_n (pc := 696) 0 dL_law_696 rfl rfl ?_
  refine go_iload_n (pc := 697) 3 dL_law_697 rfl rfl ?_
  refine go_iconst (pc := 698) (2 : Int32) dL_law_698 (by decide) ?_
  refine go_iadd (pc := 699) dL_law_699 ?_
  refine go_sld (pc := 700) dL_law_700 rfl (lw_in hL hj 2 (by decide) (by decide)) ?_
  refine go_sload_n (pc := 701) 0 dL_law_701 rfl rfl ?_
  refine go_iload_n (pc := 702) 3 dL_law_702 rfl rfl ?_
  refine go_iconst (pc := 703) (3 : Int32) dL_law_703 (by decide) ?_
  refine go_iadd (pc := 704) dL_law_704 ?_
  refine go_sld (pc := 705) dL_law_705 rfl (lw_in hL hj 3 (by decide) (by decide)) ?_
  refine go_sload_n (pc := 706) 0 dL_law_706 rfl rfl ?_
  refine go_iload_n (pc := 707) 3 dL_law_707 rfl rfl ?_
  refine go_iconst (pc := 708) (4 : Int32) dL_law_708 (by decide) ?_
  refine go_iadd (pc := 709) dL_law_709 ?_
  refine go_sld (pc := 710) dL_law_710 rfl (lw_in hL hj 4 (by decide) (by decide)) ?_
  obtain ⟨v, wc', wm', hc1, hc2, hs2⟩ := hop ((xs ((nI j) + (1 : Int32)).toNatClampNeg)) ((xs ((nI j) + (2 : Int32)).toNatClampNeg)) ((xs ((nI j) + (3 : Int32)).toNatClampNeg)) ((xs ((nI j) + (4 : Int32)).toNatClampNeg)) wc wm hs
  refine go_w (wA_c wc wm) ?_
  refine go_callVF (d := 8) (pre := []) (post := wm.map (shC 56)) (bc := 0) (bs := 0) (pc := 711) (a := 0) (ci := 5) [vI (xs ((nI j) + (1 : Int32)).toNatClampNeg), vI (xs ((nI j) + (2 : Int32)).toNatClampNeg), vI (xs ((nI j) + (3 : Int32)).toNatClampNeg), vI (xs ((nI j) + (4 : Int32)).toNatClampNeg)] [] dL_law_711 kX5_walks mlL_74 ivX5_walks rfl rfl hw5 rfl (Nat.le_of_ble_eq_true rfl) rfl hc1 (fun r w' hq => ?_)
  obtain ⟨hr9, hw9⟩ := hq
  subst hr9
  rw [hw9]
  refine go_w (wA_c wc' wm).symm ?_
  show Go (mLw L xs) 9 true 0 0 714 [some vS, some (vR 0), some (vR 56), some (vI (nI j))] [vL v] (wA wc' wm) Q
  refine go_aload_n (pc := 714) 2 dL_law_714 rfl rfl ?_
  refine go_sload_n (pc := 715) 0 dL_law_715 rfl rfl ?_
  refine go_iload_n (pc := 716) 3 dL_law_716 rfl rfl ?_
  refine go_iconst (pc := 717) (1 : Int32) dL_law_717 (by decide) ?_
  refine go_iadd (pc := 718) dL_law_718 ?_
  refine go_sld (pc := 719) dL_law_719 rfl (lw_in hL hj 1 (by decide) (by decide)) ?_
  refine go_sload_n (pc := 720) 0 dL_law_720 rfl rfl ?_
  refine go_iload_n (pc := 721) 3 dL_law_721 rfl rfl ?_
  refine go_iconst (pc := 722) (2 : Int32) dL_law_722 (by decide) ?_
  refine go_iadd (pc := 723) dL_law_723 ?_
  refine go_sld (pc := 724) dL_law_724 rfl (lw_in hL hj 2 (by decide) (by decide)) ?_
  refine go_sload_n (pc := 725) 0 dL_law_725 rfl rfl ?_
  refine go_iload_n (pc := 726) 3 dL_law_726 rfl rfl ?_
  refine go_iconst (pc := 727) (3 : Int32) dL_law_727 (by decide) ?_
  refine go_iadd (pc := 728) dL_law_728 ?_
  refine go_sld (pc := 729) dL_law_729 rfl (lw_in hL hj 3 (by decide) (by decide)) ?_
  refine go_sload_n (pc := 730) 0 dL_law_730 rfl rfl ?_
  refine go_iload_n (pc := 731) 3 dL_law_731 rfl rfl ?_
  refine go_iconst (pc := 732) (4 : Int32) dL_law_732 (by decide) ?_
  refine go_iadd (pc := 733) dL_law_733 ?_
  refine go_sld (pc := 734) dL_law_734 rfl (lw_in hL hj 4 (by decide) (by decide)) ?_
  obtain ⟨hlen, -, -⟩ := hok _ _ hs2
  have hlen1 : wc'.length = 56 := hlen
  refine go_w (wA_m hlen1) ?_
  refine go_callVF (d := 8) (pre := wc') (post := []) (bc := 0) (bs := 0) (pc := 735) (a := 0) (ci := 6) [vI (xs ((nI j) + (1 : Int32)).toNatClampNeg), vI (xs ((nI j) + (2 : Int32)).toNatClampNeg), vI (xs ((nI j) + (3 : Int32)).toNatClampNeg), vI (xs ((nI j) + (4 : Int32)).toNatClampNeg)] [vL v] dL_law_735 kX6_walks mlL_78 ivX6_walks rfl rfl hw6 rfl (Nat.le_of_ble_eq_true rfl) (by rw [hlen1]; rfl) hc2 (fun r w' hq => ?_)
  obtain ⟨hr9, hw9⟩ := hq
  subst hr9
  rw [hw9]
  refine go_w (wA_m (wm := wm') hlen1).symm ?_
  show Go (mLw L xs) 9 true 0 0 738 [some vS, some (vR 0), some (vR 56), some (vI (nI j))] [vL v, vL v] (wA wc' wm') Q
  refine go_lcmp (pc := 738) dL_law_738 ?_
  refine go_if_eq (pc := 739) 1038 dL_law_739 (by decide) (fun _ => ?_) (fun h9 => absurd (lg_cmp_self v) h9)
  exact hnext _ _ hs2
set_option maxRecDepth 20000 in
theorem lw_case15 {S : List AC → List AC → Prop} {L j : Nat} {xs : Nat → Int32} {wc wm : List AC} {Q : Option AV → List AC → Prop} (hok : SOK S) (hop : ∀ (a0 : Int32) (a1 : Int32) (a2 : Int32), OpL S mX5_uneven mX6_uneven [vI a0, vI a1, vI a2]) (hL : L ≤ 2560) (hj : j + 5 ≤ L) (hs : S wc wm) (hnext : ∀ wc wm, S wc wm → Go (mLw L xs) 9 true 0 0 1038 [some vS, some (vR 0), some (vR 56), some (vI (nI j))] [] (wA wc wm) Q) : Go (mLw L xs) 9 true 0 0 744 [some vS, some (vR 0), some (vR 56), some (vI (nI j))] [] (wA wc wm) Q := by
  obtain ⟨hlen0, ⟨fs5, hw5⟩, ⟨fs6, hw6⟩⟩ := hok wc wm hs
  refine go_aload_n (pc := 744) 1 dL_law_744 rfl rfl ?_
  refine go_sload_n (pc := 745) 0 dL_law_745 rfl rfl ?_
  refine go_iload_n (pc := 746) 3 dL_law_746 rfl rfl ?_
  refine go_iconst (pc := 747) (1 : Int32) dL_law_747 (by decide) ?_
  refine go_iadd (pc := 748) dL_law_748 ?_
  refine go_sld (pc := 749) dL_law_749 rfl (lw_in hL hj 1 (by decide) (by decide)) ?_
  refine go_sload_n (pc := 750) 0 dL_law_750 rfl rfl ?_
  refine go_iload_n (pc := 751) 3 dL_law_751 rfl rfl ?_
  refine go_iconst (pc := 752) (2 : Int32) dL_law_752 (by decide) ?_
  refine go_iadd (pc := 753) dL_law_753 ?_
  refine go_sld (pc := 754) dL_law_754 rfl (lw_in hL hj 2 (by decide) (by decide)) ?_
  refine go_sload_n (pc := 755) 0 dL_law_755 rfl rfl ?_
  refine go_iload_n (pc := 756) 3 dL_law_756 rfl rfl ?_
  refine go_iconst (pc := 757) (3 : Int32) dL_law_757 (by decide) ?_
  refine go_iadd (pc := 758) dL_law_758 ?_
  refine go_sld (pc := 759) dL_law_759 rfl (lw_in hL hj 3 (by decide) (by decide)) ?_
  obtain ⟨v, wc', wm', hc1, hc2, hs2⟩ := hop ((xs ((nI j) + (1 : Int32)).toNatClampNeg)) ((xs ((nI j) + (2 : Int32)).toNatClampNeg)) ((xs ((nI j) + (3 : Int32)).toNatClampNeg)) wc wm hs
  refine go_w (wA_c wc wm) ?_
  refine go_callVF (d := 8) (pre := []) (post := wm.map (shC 56)) (bc := 0) (bs := 0) (pc := 760) (a := 0) (ci := 5) [vI (xs ((nI j) + (1 : Int32)).toNatClampNeg), vI (xs ((nI j) + (2 : Int32)).toNatClampNeg), vI (xs ((nI j) + (3 : Int32)).toNatClampNeg)] [] dL_law_760 kX5_uneven mlL_79 ivX5_uneven rfl rfl hw5 rfl (Nat.le_of_ble_eq_true rfl) rfl hc1 (fun r w' hq => ?_)
  obtain ⟨hr9, hw9⟩ := hq
  subst hr9
  rw [hw9]
  refine go_w (wA_c wc' wm).symm ?_
  show Go (mLw L xs) 9 true 0 0 763 [some vS, some (vR 0), some (vR 56), some (vI (nI j))] [vL v] (wA wc' wm) Q
  refine go_aload_n (pc := 763) 2 dL_law_763 rfl rfl ?_
  refine go_sload_n (pc := 764) 0 dL_law_764 rfl rfl ?_
  refine go_iload_n (pc := 765) 3 dL_law_765 rfl rfl ?_
  refine go_iconst (pc := 766) (1 : Int32) dL_law_766 (by decide) ?_
  refine go_iadd (pc := 767) dL_law_767 ?_
  refine go_sld (pc := 768) dL_law_768 rfl (lw_in hL hj 1 (by decide) (by decide)) ?_
  refine go_sload_n (pc := 769) 0 dL_law_769 rfl rfl ?_
  refine go_iload_n (pc := 770) 3 dL_law_770 rfl rfl ?_
  refine go_iconst (pc := 771) (2 : Int32) dL_law_771 (by decide) ?_
  refine go_iadd (pc := 772) dL_law_772 ?_
  refine go_sld (pc := 773) dL_law_773 rfl (lw_in hL hj 2 (by decide) (by decide)) ?_
  refine go_sload_n (pc := 774) 0 dL_law_774 rfl rfl ?_
  refine go_iload_n (pc := 775) 3 dL_law_775 rfl rfl ?_
  refine go_iconst (pc := 776) (3 : Int32) dL_law_776 (by decide) ?_
  refine go_iadd (pc := 777) dL_law_777 ?_
  refine go_sld (pc := 778) dL_law_778 rfl (lw_in hL hj 3 (by decide) (by decide)) ?_
  obtain ⟨hlen, -, -⟩ := hok _ _ hs2
  have hlen1 : wc'.length = 56 := hlen
  refine go_w (wA_m hlen1) ?_
  refine go_callVF (d := 8) (pre := wc') (post := []) (bc := 0) (bs := 0) (pc := 779) (a := 0) (ci := 6) [vI (xs ((nI j) + (1 : Int32)).toNatClampNeg), vI (xs ((nI j) + (2 : Int32)).toNatClampNeg), vI (xs ((nI j) + (3 : Int32)).toNatClampNeg)] [vL v] dL_law_779 kX6_uneven mlL_83 ivX6_uneven rfl rfl hw6 rfl (Nat.le_of_ble_eq_true rfl) (by rw [hlen1]; rfl) hc2 (fun r w' hq => ?_)
  obtain ⟨hr9, hw9⟩ := hq
  subst hr9
  rw [hw9]
  refine go_w (wA_m (wm := wm') hlen1).symm ?_
  show Go (mLw L xs) 9 true 0 0 782 [some vS, some (vR 0), some (vR 56), some (vI (nI j))] [vL v, vL v] (wA wc' wm') Q
  refine go_lcmp (pc := 782) dL_law_782 ?_
  refine go_if_eq (pc := 783) 1038 dL_law_783 (by decide) (fun _ => ?_) (fun h9 => absurd (lg_cmp_self v) h9)
  exact hnext _ _ hs2
set_option maxRecDepth 20000 in
theorem lw_case16 {S : List AC → List AC → Prop} {L j : Nat} {xs : Nat → Int32} {wc wm : List AC} {Q : Option AV → List AC → Prop} (hok : SOK S) (hop : ∀ (a0 : Int32) (a1 : Int32) (a2 : Int32), OpI S mX5_apart mX6_apart [vI a0, vI a1, vI a2]) (hL : L ≤ 2560) (hj : j + 5 ≤ L) (hs : S wc wm) (hnext : ∀ wc wm, S wc wm → Go (mLw L xs) 9 true 0 0 1038 [some vS, some (vR 0), some (vR 56), some (vI (nI j))] [] (wA wc wm) Q) : Go (mLw L xs) 9 true 0 0 788 [some vS, some (vR 0), some (vR 56), some (vI (nI j))] [] (wA wc wm) Q := by
  obtain ⟨hlen0, ⟨fs5, hw5⟩, ⟨fs6, hw6⟩⟩ := hok wc wm hs
  refine go_aload_n (pc := 788) 1 dL_law_788 rfl rfl ?_
  refine go_sload_n (pc := 789) 0 dL_law_789 rfl rfl ?_
  refine go_iload_n (pc := 790) 3 dL_law_790 rfl rfl ?_
  refine go_iconst (pc := 791) (1 : Int32) dL_law_791 (by decide) ?_
  refine go_iadd (pc := 792) dL_law_792 ?_
  refine go_sld (pc := 793) dL_law_793 rfl (lw_in hL hj 1 (by decide) (by decide)) ?_
  refine go_sload_n (pc := 794) 0 dL_law_794 rfl rfl ?_
  refine go_iload_n (pc := 795) 3 dL_law_795 rfl rfl ?_
  refine go_iconst (pc := 796) (2 : Int32) dL_law_796 (by decide) ?_
  refine go_iadd (pc := 797) dL_law_797 ?_
  refine go_sld (pc := 798) dL_law_798 rfl (lw_in hL hj 2 (by decide) (by decide)) ?_
  refine go_sload_n (pc := 799) 0 dL_law_799 rfl rfl ?_
  refine go_iload_n (pc := 800) 3 dL_law_800 rfl rfl ?_
  refine go_iconst (pc := 801) (3 : Int32) dL_law_801 (by decide) ?_
  refine go_iadd (pc := 802) dL_law_802 ?_
  refine go_sld (pc := 803) dL_law_803 rfl (lw_in hL hj 3 (by decide) (by decide)) ?_
  obtain ⟨v, wc', wm', hc1, hc2, hs2⟩ := hop ((xs ((nI j) + (1 : Int32)).toNatClampNeg)) ((xs ((nI j) + (2 : Int32)).toNatClampNeg)) ((xs ((nI j) + (3 : Int32)).toNatClampNeg)) wc wm hs
  refine go_w (wA_c wc wm) ?_
  refine go_callVF (d := 8) (pre := []) (post := wm.map (shC 56)) (bc := 0) (bs := 0) (pc := 804) (a := 0) (ci := 5) [vI (xs ((nI j) + (1 : Int32)).toNatClampNeg), vI (xs ((nI j) + (2 : Int32)).toNatClampNeg), vI (xs ((nI j) + (3 : Int32)).toNatClampNeg)] [] dL_law_804 kX5_apart mlL_84 ivX5_apart rfl rfl hw5 rfl (Nat.le_of_ble_eq_true rfl) rfl hc1 (fun r w' hq => ?_)
  obtain ⟨hr9, hw9⟩ := hq
  subst hr9
  rw [hw9]
  refine go_w (wA_c wc' wm).symm ?_
  show Go (mLw L xs) 9 true 0 0 807 [some vS, some (vR 0), some (vR 56), some (vI (nI j))] [vI v] (wA wc' wm) Q
  refine go_aload_n (pc := 807) 2 dL_law_807 rfl rfl ?_
  refine go_sload_n (pc := 808) 0 dL_law_808 rfl rfl ?_
  refine go_iload_n (pc := 809) 3 dL_law_809 rfl rfl ?_
  refine go_iconst (pc := 810) (1 : Int32) dL_law_810 (by decide) ?_
  refine go_iadd (pc := 811) dL_law_811 ?_
  refine go_sld (pc := 812) dL_law_812 rfl (lw_in hL hj 1 (by decide) (by decide)) ?_
  refine go_sload_n (pc := 813) 0 dL_law_813 rfl rfl ?_
  refine go_iload_n (pc := 814) 3 dL_law_814 rfl rfl ?_
  refine go_iconst (pc := 815) (2 : Int32) dL_law_815 (by decide) ?_
  refine go_iadd (pc := 816) dL_law_816 ?_
  refine go_sld (pc := 817) dL_law_817 rfl (lw_in hL hj 2 (by decide) (by decide)) ?_
  refine go_sload_n (pc := 818) 0 dL_law_818 rfl rfl ?_
  refine go_iload_n (pc := 819) 3 dL_law_819 rfl rfl ?_
  refine go_iconst (pc := 820) (3 : Int32) dL_law_820 (by decide) ?_
  refine go_iadd (pc := 821) dL_law_821 ?_
  refine go_sld (pc := 822) dL_law_822 rfl (lw_in hL hj 3 (by decide) (by decide)) ?_
  obtain ⟨hlen, -, -⟩ := hok _ _ hs2
  have hlen1 : wc'.length = 56 := hlen
  refine go_w (wA_m hlen1) ?_
  refine go_callVF (d := 8) (pre := wc') (post := []) (bc := 0) (bs := 0) (pc := 823) (a := 0) (ci := 6) [vI (xs ((nI j) + (1 : Int32)).toNatClampNeg), vI (xs ((nI j) + (2 : Int32)).toNatClampNeg), vI (xs ((nI j) + (3 : Int32)).toNatClampNeg)] [vI v] dL_law_823 kX6_apart mlL_87 ivX6_apart rfl rfl hw6 rfl (Nat.le_of_ble_eq_true rfl) (by rw [hlen1]; rfl) hc2 (fun r w' hq => ?_)
  obtain ⟨hr9, hw9⟩ := hq
  subst hr9
  rw [hw9]
  refine go_w (wA_m (wm := wm') hlen1).symm ?_
  show Go (mLw L xs) 9 true 0 0 826 [some vS, some (vR 0), some (vR 56), some (vI (nI j))] [vI v, vI v] (wA wc' wm') Q
  refine go_icmp_eq (pc := 826) 1038 dL_law_826 (by decide) (fun _ => ?_) (fun h9 => absurd rfl h9)
  exact hnext _ _ hs2
set_option maxRecDepth 20000 in
theorem lw_case17 {S : List AC → List AC → Prop} {L j : Nat} {xs : Nat → Int32} {wc wm : List AC} {Q : Option AV → List AC → Prop} (hok : SOK S) (hop : ∀ (a0 : Int32) (a1 : Int32) (a2 : Int32), OpI S mX5_distance mX6_distance [vI a0, vI a1, vI a2]) (hL : L ≤ 2560) (hj : j + 5 ≤ L) (hs : S wc wm) (hnext : ∀ wc wm, S wc wm → Go (mLw L xs) 9 true 0 0 1038 [some vS, some (vR 0), some (vR 56), some (vI (nI j))] [] (wA wc wm) Q) : Go (mLw L xs) 9 true 0 0 831 [some vS, some (vR 0), some (vR 56), some (vI (nI j))] [] (wA wc wm) Q := by
  obtain ⟨hlen0, ⟨fs5, hw5⟩, ⟨fs6, hw6⟩⟩ := hok wc wm hs
  refine go_aload_n (pc := 831) 1 dL_law_831 rfl rfl ?_
  refine go_sload_n (pc := 832) 0 dL_law_832 rfl rfl ?_
  refine go_iload_n (pc := 833) 3 dL_law_833 rfl rfl ?_
  refine go_iconst (pc := 834) (1 : Int32) dL_law_834 (by decide) ?_
  refine go_iadd (pc := 835) dL_law_835 ?_
  refine go_sld (pc := 836) dL_law_836 rfl (lw_in hL hj 1 (by decide) (by decide)) ?_
  refine go_sload_n (pc := 837) 0 dL_law_837 rfl rfl ?_
  refine go_iload_n (pc := 838) 3 dL_law_838 rfl rfl ?_
  refine go_iconst (pc := 839) (2 : Int32) dL_law_839 (by decide) ?_
  refine go_iadd (pc := 840) dL_law_840 ?_
  refine go_sld (pc := 841) dL_law_841 rfl (lw_in hL hj 2 (by decide) (by decide)) ?_
  refine go_sload_n (pc := 842) 0 dL_law_842 rfl rfl ?_
  refine go_iload_n (pc := 843) 3 dL_law_843 rfl rfl ?_
  refine go_iconst (pc := 844) (3 : Int32) dL_law_844 (by decide) ?_
  refine go_iadd (pc := 845) dL_law_845 ?_
  refine go_sld (pc := 846) dL_law_846 rfl (lw_in hL hj 3 (by decide) (by decide)) ?_
  obtain ⟨v, wc', wm', hc1, hc2, hs2⟩ := hop ((xs ((nI j) + (1 : Int32)).toNatClampNeg)) ((xs ((nI j) + (2 : Int32)).toNatClampNeg)) ((xs ((nI j) + (3 : Int32)).toNatClampNeg)) wc wm hs
  refine go_w (wA_c wc wm) ?_
  refine go_callVF (d := 8) (pre := []) (post := wm.map (shC 56)) (bc := 0) (bs := 0) (pc := 847) (a := 0) (ci := 5) [vI (xs ((nI j) + (1 : Int32)).toNatClampNeg), vI (xs ((nI j) + (2 : Int32)).toNatClampNeg), vI (xs ((nI j) + (3 : Int32)).toNatClampNeg)] [] dL_law_847 kX5_distance mlL_88 ivX5_distance rfl rfl hw5 rfl (Nat.le_of_ble_eq_true rfl) rfl hc1 (fun r w' hq => ?_)
  obtain ⟨hr9, hw9⟩ := hq
  subst hr9
  rw [hw9]
  refine go_w (wA_c wc' wm).symm ?_
  show Go (mLw L xs) 9 true 0 0 850 [some vS, some (vR 0), some (vR 56), some (vI (nI j))] [vI v] (wA wc' wm) Q
  refine go_aload_n (pc := 850) 2 dL_law_850 rfl rfl ?_
  refine go_sload_n (pc := 851) 0 dL_law_851 rfl rfl ?_
  refine go_iload_n (pc := 852) 3 dL_law_852 rfl rfl ?_
  refine go_iconst (pc := 853) (1 : Int32) dL_law_853 (by decide) ?_
  refine go_iadd (pc := 854) dL_law_854 ?_
  refine go_sld (pc := 855) dL_law_855 rfl (lw_in hL hj 1 (by decide) (by decide)) ?_
  refine go_sload_n (pc := 856) 0 dL_law_856 rfl rfl ?_
  refine go_iload_n (pc := 857) 3 dL_law_857 rfl rfl ?_
  refine go_iconst (pc := 858) (2 : Int32) dL_law_858 (by decide) ?_
  refine go_iadd (pc := 859) dL_law_859 ?_
  refine go_sld (pc := 860) dL_law_860 rfl (lw_in hL hj 2 (by decide) (by decide)) ?_
  refine go_sload_n (pc := 861) 0 dL_law_861 rfl rfl ?_
  refine go_iload_n (pc := 862) 3 dL_law_862 rfl rfl ?_
  refine go_iconst (pc := 863) (3 : Int32) dL_law_863 (by decide) ?_
  refine go_iadd (pc := 864) dL_law_864 ?_
  refine go_sld (pc := 865) dL_law_865 rfl (lw_in hL hj 3 (by decide) (by decide)) ?_
  obtain ⟨hlen, -, -⟩ := hok _ _ hs2
  have hlen1 : wc'.length = 56 := hlen
  refine go_w (wA_m hlen1) ?_
  refine go_callVF (d := 8) (pre := wc') (post := []) (bc := 0) (bs := 0) (pc := 866) (a := 0) (ci := 6) [vI (xs ((nI j) + (1 : Int32)).toNatClampNeg), vI (xs ((nI j) + (2 : Int32)).toNatClampNeg), vI (xs ((nI j) + (3 : Int32)).toNatClampNeg)] [vI v] dL_law_866 kX6_distance mlL_91 ivX6_distance rfl rfl hw6 rfl (Nat.le_of_ble_eq_true rfl) (by rw [hlen1]; rfl) hc2 (fun r w' hq => ?_)
  obtain ⟨hr9, hw9⟩ := hq
  subst hr9
  rw [hw9]
  refine go_w (wA_m (wm := wm') hlen1).symm ?_
  show Go (mLw L xs) 9 true 0 0 869 [some vS, some (vR 0), some (vR 56), some (vI (nI j))] [vI v, vI v] (wA wc' wm') Q
  refine go_icmp_eq (pc := 869) 1038 dL_law_869 (by decide) (fun _ => ?_) (fun h9 => absurd rfl h9)
  exact hnext _ _ hs2
set_option maxRecDepth 20000 in
theorem lw_case18 {S : List AC → List AC → Prop} {L j : Nat} {xs : Nat → Int32} {wc wm : List AC} {Q : Option AV → List AC → Prop} (hok : SOK S) (hop : ∀ (a0 : Int32), OpI S mX5_round mX6_round [vI a0]) (hL : L ≤ 2560) (hj : j + 5 ≤ L) (hs : S wc wm) (hnext : ∀ wc wm, S wc wm → Go (mLw L xs) 9 true 0 0 1038 [some vS, some (vR 0), some (vR 56), some (vI (nI j))] [] (wA wc wm) Q) : Go (mLw L xs) 9 true 0 0 874 [some vS, some (vR 0), some (vR 56), some (vI (nI j))] [] (wA wc wm) Q := by
  obtain ⟨hlen0, ⟨fs5, hw5⟩, ⟨fs6, hw6⟩⟩ := hok wc wm hs
  refine go_aload_n (pc := 874) 1 dL_law_874 rfl rfl ?_
  refine go_sload_n (pc := 875) 0 dL_law_875 rfl rfl ?_
  refine go_iload_n (pc := 876) 3 dL_law_876 rfl rfl ?_
  refine go_iconst (pc := 877) (1 : Int32) dL_law_877 (by decide) ?_
  refine go_iadd (pc := 878) dL_law_878 ?_
  refine go_sld (pc := 879) dL_law_879 rfl (lw_in hL hj 1 (by decide) (by decide)) ?_
  obtain ⟨v, wc', wm', hc1, hc2, hs2⟩ := hop ((xs ((nI j) + (1 : Int32)).toNatClampNeg)) wc wm hs
  refine go_w (wA_c wc wm) ?_
  refine go_callVF (d := 8) (pre := []) (post := wm.map (shC 56)) (bc := 0) (bs := 0) (pc := 880) (a := 0) (ci := 5) [vI (xs ((nI j) + (1 : Int32)).toNatClampNeg)] [] dL_law_880 kX5_round mlL_92 ivX5_round rfl rfl hw5 rfl (Nat.le_of_ble_eq_true rfl) rfl hc1 (fun r w' hq => ?_)
  obtain ⟨hr9, hw9⟩ := hq
  subst hr9
  rw [hw9]
  refine go_w (wA_c wc' wm).symm ?_
  show Go (mLw L xs) 9 true 0 0 883 [some vS, some (vR 0), some (vR 56), some (vI (nI j))] [vI v] (wA wc' wm) Q
  refine go_aload_n (pc := 883) 2 dL_law_883 rfl rfl ?_
  refine go_sload_n (pc := 884) 0 dL_law_884 rfl rfl ?_
  refine go_iload_n (pc := 885) 3 dL_law_885 rfl rfl ?_
  refine go_iconst (pc := 886) (1 : Int32) dL_law_886 (by decide) ?_
  refine go_iadd (pc := 887) dL_law_887 ?_
  refine go_sld (pc := 888) dL_law_888 rfl (lw_in hL hj 1 (by decide) (by decide)) ?_
  obtain ⟨hlen, -, -⟩ := hok _ _ hs2
  have hlen1 : wc'.length = 56 := hlen
  refine go_w (wA_m hlen1) ?_
  refine go_callVF (d := 8) (pre := wc') (post := []) (bc := 0) (bs := 0) (pc := 889) (a := 0) (ci := 6) [vI (xs ((nI j) + (1 : Int32)).toNatClampNeg)] [vI v] dL_law_889 kX6_round mlL_95 ivX6_round rfl rfl hw6 rfl (Nat.le_of_ble_eq_true rfl) (by rw [hlen1]; rfl) hc2 (fun r w' hq => ?_)
  obtain ⟨hr9, hw9⟩ := hq
  subst hr9
  rw [hw9]
  refine go_w (wA_m (wm := wm') hlen1).symm ?_
  show Go (mLw L xs) 9 true 0 0 892 [some vS, some (vR 0), some (vR 56), some (vI (nI j))] [vI v, vI v] (wA wc' wm') Q
  refine go_icmp_eq (pc := 892) 1038 dL_law_892 (by decide) (fun _ => ?_) (fun h9 => absurd rfl h9)
  exact hnext _ _ hs2
set_option maxRecDepth 20000 in
theorem lw_case19 {S : List AC → List AC → Prop} {L j : Nat} {xs : Nat → Int32} {wc wm : List AC} {Q : Option AV → List AC → Prop} (hok : SOK S) (hop : ∀ (a0 : Int32) (a1 : Int64), OpI S mX5_odd mX6_odd [vI a0, vL a1]) (hL : L ≤ 2560) (hj : j + 5 ≤ L) (hs : S wc wm) (hnext : ∀ wc wm, S wc wm → Go (mLw L xs) 9 true 0 0 1038 [some vS, some (vR 0), some (vR 56), some (vI (nI j))] [] (wA wc wm) Q) : Go (mLw L xs) 9 true 0 0 897 [some vS, some (vR 0), some (vR 56), some (vI (nI j))] [] (wA wc wm) Q := by
  obtain ⟨hlen0, ⟨fs5, hw5⟩, ⟨fs6, hw6⟩⟩ := hok wc wm hs
  refine go_aload_n (pc := 897) 1 dL_law_897 rfl rfl ?_
  refine go_sload_n (pc := 898) 0 dL_law_898 rfl rfl ?_
  refine go_iload_n (pc := 899) 3 dL_law_899 rfl rfl ?_
  refine go_iconst (pc := 900) (1 : Int32) dL_law_900 (by decide) ?_
  refine go_iadd (pc := 901) dL_law_901 ?_
  refine go_sld (pc := 902) dL_law_902 rfl (lw_in hL hj 1 (by decide) (by decide)) ?_
  refine go_sload_n (pc := 903) 0 dL_law_903 rfl rfl ?_
  refine go_iload_n (pc := 904) 3 dL_law_904 rfl rfl ?_
  refine go_iconst (pc := 905) (2 : Int32) dL_law_905 (by decide) ?_
  refine go_iadd (pc := 906) dL_law_906 ?_
  refine go_sld (pc := 907) dL_law_907 rfl (lw_in hL hj 2 (by decide) (by decide)) ?_
  refine go_i2l (pc := 908) dL_law_908 ?_
  refine go_bipush (pc := 909) (32 : Int32) dL_law_909 (by decide) ?_
  refine go_lshl (pc := 911) dL_law_911 ?_
  refine go_sload_n (pc := 912) 0 dL_law_912 rfl rfl ?_
  refine go_iload_n (pc := 913) 3 dL_law_913 rfl rfl ?_
  refine go_iconst (pc := 914) (3 : Int32) dL_law_914 (by decide) ?_
  refine go_iadd (pc := 915) dL_law_915 ?_
  refine go_sld (pc := 916) dL_law_916 rfl (lw_in hL hj 3 (by decide) (by decide)) ?_
  refine go_i2l (pc := 917) dL_law_917 ?_
  refine go_ldc2 (pc := 918) (4294967295 : Int64) dL_law_918 kcL_96 ?_
  refine go_land (pc := 921) dL_law_921 ?_
  refine go_lor (pc := 922) dL_law_922 ?_
  obtain ⟨v, wc', wm', hc1, hc2, hs2⟩ := hop ((xs ((nI j) + (1 : Int32)).toNatClampNeg)) (((((xs ((nI j) + (2 : Int32)).toNatClampNeg).toInt64) <<< ((32 : Int32).toInt64 &&& 63)) ||| (((xs ((nI j) + (3 : Int32)).toNatClampNeg).toInt64) &&& (4294967295 : Int64)))) wc wm hs
  refine go_w (wA_c wc wm) ?_
  refine go_callVF (d := 8) (pre := []) (post := wm.map (shC 56)) (bc := 0) (bs := 0) (pc := 923) (a := 0) (ci := 5) [vI (xs ((nI j) + (1 : Int32)).toNatClampNeg), vL ((((xs ((nI j) + (2 : Int32)).toNatClampNeg).toInt64) <<< ((32 : Int32).toInt64 &&& 63)) ||| (((xs ((nI j) + (3 : Int32)).toNatClampNeg).toInt64) &&& (4294967295 : Int64)))] [] dL_law_923 kX5_odd mlL_98 ivX5_odd rfl rfl hw5 rfl (Nat.le_of_ble_eq_true rfl) rfl hc1 (fun r w' hq => ?_)
  obtain ⟨hr9, hw9⟩ := hq
  subst hr9
  rw [hw9]
  refine go_w (wA_c wc' wm).symm ?_
  show Go (mLw L xs) 9 true 0 0 926 [some vS, some (vR 0), some (vR 56), some (vI (nI j))] [vI v] (wA wc' wm) Q
  refine go_aload_n (pc := 926) 2 dL_law_926 rfl rfl ?_
  refine go_sload_n (pc := 927) 0 dL_law_927 rfl rfl ?_
  refine go_iload_n (pc := 928) 3 dL_law_928 rfl rfl ?_
  refine go_iconst (pc := 929) (1 : Int32) dL_law_929 (by decide) ?_
  refine go_iadd (pc := 930) dL_law_930 ?_
  refine go_sld (pc := 931) dL_law_931 rfl (lw_in hL hj 1 (by decide) (by decide)) ?_
  refine go_sload_n (pc := 932) 0 dL_law_932 rfl rfl ?_
  refine go_iload_n (pc := 933) 3 dL_law_933 rfl rfl ?_
  refine go_iconst (pc := 934) (2 : Int32) dL_law_934 (by decide) ?_
  refine go_iadd (pc := 935) dL_law_935 ?_
  refine go_sld (pc := 936) dL_law_936 rfl (lw_in hL hj 2 (by decide) (by decide)) ?_
  refine go_i2l (pc := 937) dL_law_937 ?_
  refine go_bipush (pc := 938) (32 : Int32) dL_law_938 (by decide) ?_
  refine go_lshl (pc := 940) dL_law_940 ?_
  refine go_sload_n (pc := 941) 0 dL_law_941 rfl rfl ?_
  refine go_iload_n (pc := 942) 3 dL_law_942 rfl rfl ?_
  refine go_iconst (pc := 943) (3 : Int32) dL_law_943 (by decide) ?_
  refine go_iadd (pc := 944) dL_law_944 ?_
  refine go_sld (pc := 945) dL_law_945 rfl (lw_in hL hj 3 (by decide) (by decide)) ?_
  refine go_i2l (pc := 946) dL_law_946 ?_
  refine go_ldc2 (pc := 947) (4294967295 : Int64) dL_law_947 kcL_96 ?_
  refine go_land (pc := 950) dL_law_950 ?_
  refine go_lor (pc := 951) dL_law_951 ?_
  obtain ⟨hlen, -, -⟩ := hok _ _ hs2
  have hlen1 : wc'.length = 56 := hlen
  refine go_w (wA_m hlen1) ?_
  refine go_callVF (d := 8) (pre := wc') (post := []) (bc := 0) (bs := 0) (pc := 952) (a := 0) (ci := 6) [vI (xs ((nI j) + (1 : Int32)).toNatClampNeg), vL ((((xs ((nI j) + (2 : Int32)).toNatClampNeg).toInt64) <<< ((32 : Int32).toInt64 &&& 63)) ||| (((xs ((nI j) + (3 : Int32)).toNatClampNeg).toInt64) &&& (4294967295 : Int64)))] [vI v] dL_law_952 kX6_odd mlL_102 ivX6_odd rfl rfl hw6 rfl (Nat.le_of_ble_eq_true rfl) (by rw [hlen1]; rfl) hc2 (fun r w' hq => ?_)
  obtain ⟨hr9, hw9⟩ := hq
  subst hr9
  rw [hw9]
  refine go_w (wA_m (wm := wm') hlen1).symm ?_
  show Go (mLw L xs) 9 true 0 0 955 [some vS, some (vR 0), some (vR 56), some (vI (nI j))] [vI v, vI v] (wA wc' wm') Q
  refine go_icmp_eq (pc := 955) 1038 dL_law_955 (by decide) (fun _ => ?_) (fun h9 => absurd rfl h9)
  exact hnext _ _ hs2
set_option maxRecDepth 20000 in
theorem lw_case20 {S : List AC → List AC → Prop} {L j : Nat} {xs : Nat → Int32} {wc wm : List AC} {Q : Option AV → List AC → Prop} (hok : SOK S) (hop : ∀ (a0 : Int32) (a1 : Int64), OpL S mX5_flipped mX6_flipped [vI a0, vL a1]) (hL : L ≤ 2560) (hj : j + 5 ≤ L) (hs : S wc wm) (hnext : ∀ wc wm, S wc wm → Go (mLw L xs) 9 true 0 0 1038 [some vS, some (vR 0), some (vR 56), some (vI (nI j))] [] (wA wc wm) Q) : Go (mLw L xs) 9 true 0 0 960 [some vS, some (vR 0), some (vR 56), some (vI (nI j))] [] (wA wc wm) Q := by
  obtain ⟨hlen0, ⟨fs5, hw5⟩, ⟨fs6, hw6⟩⟩ := hok wc wm hs
  refine go_aload_n (pc := 960) 1 dL_law_960 rfl rfl ?_
  refine go_sload_n (pc := 961) 0 dL_law_961 rfl rfl ?_
  refine go_iload_n (pc := 962) 3 dL_law_962 rfl rfl ?_
  refine go_iconst (pc := 963) (1 : Int32) dL_law_963 (by decide) ?_
  refine go_iadd (pc := 964) dL_law_964 ?_
  refine go_sld (pc := 965) dL_law_965 rfl (lw_in hL hj 1 (by decide) (by decide)) ?_
  refine go_sload_n (pc := 966) 0 dL_law_966 rfl rfl ?_
  refine go_iload_n (pc := 967) 3 dL_law_967 rfl rfl ?_
  refine go_iconst (pc := 968) (2 : Int32) dL_law_968 (by decide) ?_
  refine go_iadd (pc := 969) dL_law_969 ?_
  refine go_sld (pc := 970) dL_law_970 rfl (lw_in hL hj 2 (by decide) (by decide)) ?_
  refine go_i2l (pc := 971) dL_law_971 ?_
  refine go_bipush (pc := 972) (32 : Int32) dL_law_972 (by decide) ?_
  refine go_lshl (pc := 974) dL_law_974 ?_
  refine go_sload_n (pc := 975) 0 dL_law_975 rfl rfl ?_
  refine go_iload_n (pc := 976) 3 dL_law_976 rfl rfl ?_
  refine go_iconst (pc := 977) (3 : Int32) dL_law_977 (by decide) ?_
  refine go_iadd (pc := 978) dL_law_978 ?_
  refine go_sld (pc := 979) dL_law_979 rfl (lw_in hL hj 3 (by decide) (by decide)) ?_
  refine go_i2l (pc := 980) dL_law_980 ?_
  refine go_ldc2 (pc := 981) (4294967295 : Int64) dL_law_981 kcL_96 ?_
  refine go_land (pc := 984) dL_law_984 ?_
  refine go_lor (pc := 985) dL_law_985 ?_
  obtain ⟨v, wc', wm', hc1, hc2, hs2⟩ := hop ((xs ((nI j) + (1 : Int32)).toNatClampNeg)) (((((xs ((nI j) + (2 : Int32)).toNatClampNeg).toInt64) <<< ((32 : Int32).toInt64 &&& 63)) ||| (((xs ((nI j) + (3 : Int32)).toNatClampNeg).toInt64) &&& (4294967295 : Int64)))) wc wm hs
  refine go_w (wA_c wc wm) ?_
  refine go_callVF (d := 8) (pre := []) (post := wm.map (shC 56)) (bc := 0) (bs := 0) (pc := 986) (a := 0) (ci := 5) [vI (xs ((nI j) + (1 : Int32)).toNatClampNeg), vL ((((xs ((nI j) + (2 : Int32)).toNatClampNeg).toInt64) <<< ((32 : Int32).toInt64 &&& 63)) ||| (((xs ((nI j) + (3 : Int32)).toNatClampNeg).toInt64) &&& (4294967295 : Int64)))] [] dL_law_986 kX5_flipped mlL_103 ivX5_flipped rfl rfl hw5 rfl (Nat.le_of_ble_eq_true rfl) rfl hc1 (fun r w' hq => ?_)
  obtain ⟨hr9, hw9⟩ := hq
  subst hr9
  rw [hw9]
  refine go_w (wA_c wc' wm).symm ?_
  show Go (mLw L xs) 9 true 0 0 989 [some vS, some (vR 0), some (vR 56), some (vI (nI j))] [vL v] (wA wc' wm) Q
  refine go_aload_n (pc := 989) 2 dL_law_989 rfl rfl ?_
  refine go_sload_n (pc := 990) 0 dL_law_990 rfl rfl ?_
  refine go_iload_n (pc := 991) 3 dL_law_991 rfl rfl ?_
  refine go_iconst (pc := 992) (1 : Int32) dL_law_992 (by decide) ?_
  refine go_iadd (pc := 993) dL_law_993 ?_
  refine go_sld (pc := 994) dL_law_994 rfl (lw_in hL hj 1 (by decide) (by decide)) ?_
  refine go_sload_n (pc := 995) 0 dL_law_995 rfl rfl ?_
  refine go_iload_n (pc := 996) 3 dL_law_996 rfl rfl ?_
  refine go_iconst (pc := 997) (2 : Int32) dL_law_997 (by decide) ?_
  refine go_iadd (pc := 998) dL_law_998 ?_
  refine go_sld (pc := 999) dL_law_999 rfl (lw_in hL hj 2 (by decide) (by decide)) ?_
  refine go_i2l (pc := 1000) dL_law_1000 ?_
  refine go_bipush (pc := 1001) (32 : Int32) dL_law_1001 (by decide) ?_
  refine go_lshl (pc := 1003) dL_law_1003 ?_
  refine go_sload_n (pc := 1004) 0 dL_law_1004 rfl rfl ?_
  refine go_iload_n (pc := 1005) 3 dL_law_1005 rfl rfl ?_
  refine go_iconst (pc := 1006) (3 : Int32) dL_law_1006 (by decide) ?_
  refine go_iadd (pc := 1007) dL_law_1007 ?_
  refine go_sld (pc := 1008) dL_law_1008 rfl (lw_in hL hj 3 (by decide) (by decide)) ?_
  refine go_i2l (pc := 1009) dL_law_1009 ?_
  refine go_ldc2 (pc := 1010) (4294967295 : Int64) dL_law_1010 kcL_96 ?_
  refine go_land (pc := 1013) dL_law_1013 ?_
  refine go_lor (pc := 1014) dL_law_1014 ?_
  obtain ⟨hlen, -, -⟩ := hok _ _ hs2
  have hlen1 : wc'.length = 56 := hlen
  refine go_w (wA_m hlen1) ?_
  refine go_callVF (d := 8) (pre := wc') (post := []) (bc := 0) (bs := 0) (pc := 1015) (a := 0) (ci := 6) [vI (xs ((nI j) + (1 : Int32)).toNatClampNeg), vL ((((xs ((nI j) + (2 : Int32)).toNatClampNeg).toInt64) <<< ((32 : Int32).toInt64 &&& 63)) ||| (((xs ((nI j) + (3 : Int32)).toNatClampNeg).toInt64) &&& (4294967295 : Int64)))] [vL v] dL_law_1015 kX6_flipped mlL_107 ivX6_flipped rfl rfl hw6 rfl (Nat.le_of_ble_eq_true rfl) (by rw [hlen1]; rfl) hc2 (fun r w' hq => ?_)
  obtain ⟨hr9, hw9⟩ := hq
  subst hr9
  rw [hw9]
  refine go_w (wA_m (wm := wm') hlen1).symm ?_
  show Go (mLw L xs) 9 true 0 0 1018 [some vS, some (vR 0), some (vR 56), some (vI (nI j))] [vL v, vL v] (wA wc' wm') Q
  refine go_lcmp (pc := 1018) dL_law_1018 ?_
  refine go_if_eq (pc := 1019) 1038 dL_law_1019 (by decide) (fun _ => ?_) (fun h9 => absurd (lg_cmp_self v) h9)
  exact hnext _ _ hs2
set_option maxRecDepth 20000 in
theorem lw_case21 {S : List AC → List AC → Prop} {L j : Nat} {xs : Nat → Int32} {wc wm : List AC} {Q : Option AV → List AC → Prop} (hok : SOK S) (hop : OpL S mX5_digest mX6_digest []) (hL : L ≤ 2560) (hj : j + 5 ≤ L) (hs : S wc wm) (hnext : ∀ wc wm, S wc wm → Go (mLw L xs) 9 true 0 0 1038 [some vS, some (vR 0), some (vR 56), some (vI (nI j))] [] (wA wc wm) Q) : Go (mLw L xs) 9 true 0 0 1024 [some vS, some (vR 0), some (vR 56), some (vI (nI j))] [] (wA wc wm) Q := by
  obtain ⟨hlen0, ⟨fs5, hw5⟩, ⟨fs6, hw6⟩⟩ := hok wc wm hs
  refine go_aload_n (pc := 1024) 1 dL_law_1024 rfl rfl ?_
  obtain ⟨v, wc', wm', hc1, hc2, hs2⟩ := hop  wc wm hs
  refine go_w (wA_c wc wm) ?_
  refine go_callVF (d := 8) (pre := []) (post := wm.map (shC 56)) (bc := 0) (bs := 0) (pc := 1025) (a := 0) (ci := 5) [] [] dL_law_1025 kX5_digest mlL_108 ivX5_digest rfl rfl hw5 rfl (Nat.le_of_ble_eq_true rfl) rfl hc1 (fun r w' hq => ?_)
  obtain ⟨hr9, hw9⟩ := hq
  subst hr9
  rw [hw9]
  refine go_w (wA_c wc' wm).symm ?_
  show Go (mLw L xs) 9 true 0 0 1028 [some vS, some (vR 0), some (vR 56), some (vI (nI j))] [vL v] (wA wc' wm) Q
  refine go_aload_n (pc := 1028) 2 dL_law_1028 rfl rfl ?_
  obtain ⟨hlen, -, -⟩ := hok _ _ hs2
  have hlen1 : wc'.length = 56 := hlen
  refine go_w (wA_m hlen1) ?_
  refine go_callVF (d := 8) (pre := wc') (post := []) (bc := 0) (bs := 0) (pc := 1029) (a := 0) (ci := 6) [] [vL v] dL_law_1029 kX6_digest mlL_112 ivX6_digest rfl rfl hw6 rfl (Nat.le_of_ble_eq_true rfl) (by rw [hlen1]; rfl) hc2 (fun r w' hq => ?_)
  obtain ⟨hr9, hw9⟩ := hq
  subst hr9
  rw [hw9]
  refine go_w (wA_m (wm := wm') hlen1).symm ?_
  show Go (mLw L xs) 9 true 0 0 1032 [some vS, some (vR 0), some (vR 56), some (vI (nI j))] [vL v, vL v] (wA wc' wm') Q
  refine go_lcmp (pc := 1032) dL_law_1032 ?_
  refine go_if_eq (pc := 1033) 1038 dL_law_1033 (by decide) (fun _ => ?_) (fun h9 => absurd (lg_cmp_self v) h9)
  exact hnext _ _ hs2
end
