section
/-- what all pairs of calls must do -/
def Ops (S : List AC → List AC → Prop) : Prop :=
  (∀ (a0 : Int32) (a1 : Int32), OpI S mX5_net mX6_net [vI a0, vI a1]) ∧
  (∀ (a0 : Int32) (a1 : Int32) (a2 : Int32) (a3 : Int32) (_ : a3 = 0 ∨ a3 = 1), OpI S mX5_line mX6_line [vI a0, vI a1, vI a2, vI a3]) ∧
  (∀ (a0 : Int32) (a1 : Int32) (a2 : Int32), OpI S mX5_ring mX6_ring [vI a0, vI a1, vI a2]) ∧
  (∀ (a0 : Int32) (a1 : Int32) (a2 : Int32), OpI S mX5_product mX6_product [vI a0, vI a1, vI a2]) ∧
  (∀ (a0 : Int32) (a1 : Int32), OpI S mX5_turned mX6_turned [vI a0, vI a1]) ∧
  (∀ (a0 : Int32) (a1 : Int32), OpI S mX5_about mX6_about [vI a0, vI a1]) ∧
  (∀ (a0 : Int32) (a1 : Int32), OpI S mX5_near mX6_near [vI a0, vI a1]) ∧
  (∀ (a0 : Int32) (a1 : Int32) (a2 : Int32), OpI S mX5_number mX6_number [vI a0, vI a1, vI a2]) ∧
  (∀ (a0 : Int32) (a1 : Int32) (_ : a1 = 0 ∨ a1 = 1) (a2 : Int32), OpI S mX5_growth mX6_growth [vI a0, vI a1, vI a2]) ∧
  (∀ (a0 : Int32) (a1 : Int32) (a2 : Int32), OpI S mX5_more mX6_more [vI a0, vI a1, vI a2]) ∧
  (∀ (a0 : Int32) (a1 : Int32) (a2 : Int32), OpI S mX5_just mX6_just [vI a0, vI a1, vI a2]) ∧
  (∀ (a0 : Int32), OpI S mX5_second mX6_second [vI a0]) ∧
  (∀ (a0 : Int32) (a1 : Int32), OpI S mX5_span mX6_span [vI a0, vI a1]) ∧
  (∀ (a0 : Int32), OpI S mX5_best mX6_best [vI a0]) ∧
  (∀ (a0 : Int32) (a1 : Int32) (a2 : Int32) (a3 : Int32), OpL S mX5_walks mX6_walks [vI a0, vI a1, vI a2, vI a3]) ∧
  (∀ (a0 : Int32) (a1 : Int32) (a2 : Int32), OpL S mX5_uneven mX6_uneven [vI a0, vI a1, vI a2]) ∧
  (∀ (a0 : Int32) (a1 : Int32) (a2 : Int32), OpI S mX5_apart mX6_apart [vI a0, vI a1, vI a2]) ∧
  (∀ (a0 : Int32) (a1 : Int32) (a2 : Int32), OpI S mX5_distance mX6_distance [vI a0, vI a1, vI a2]) ∧
  (∀ (a0 : Int32), OpI S mX5_round mX6_round [vI a0]) ∧
  (∀ (a0 : Int32) (a1 : Int64), OpI S mX5_odd mX6_odd [vI a0, vL a1]) ∧
  (∀ (a0 : Int32) (a1 : Int64), OpL S mX5_flipped mX6_flipped [vI a0, vL a1]) ∧
  (OpL S mX5_digest mX6_digest [])
set_option maxRecDepth 20000 in
/-- the law's loop -/
theorem lw_loop {S : List AC → List AC → Prop} {L : Nat} {xs : Nat → Int32} {Q : Option AV → List AC → Prop} (hok : SOK S) (ho : Ops S) (hL : L ≤ 2560) (hQ : ∀ w, Q (some (vI 1)) w) : ∀ (k j : Nat) (wc wm : List AC), L ≤ j + k → j ≤ 2565 → S wc wm → Go (mLw L xs) 9 true 0 0 18 [some vS, some (vR 0), some (vR 56), some (vI (nI j))] [] (wA wc wm) Q := by
  intro k
  induction k using Nat.strongRecOn with
  | ind k ih =>
    intro j wc wm hjk hj0 hs
    refine go_iload_n (pc := 18) 3 dL_law_18 rfl rfl ?_
    refine go_sload_n (pc := 19) 0 dL_law_19 rfl rfl ?_
    refine go_slen (pc := 20) dL_law_20 rfl ?_
    refine go_iconst (pc := 21) (5 : Int32) dL_law_21 (by decide) ?_
    refine go_isub (pc := 22) dL_law_22 ?_
    refine go_icmp_gt (pc := 23) 1044 dL_law_23 (by decide) (fun _ => ?_) (fun h9 => ?_)
    · refine go_iconst (pc := 1044) (1 : Int32) dL_law_1044 (by decide) ?_
      exact go_ireturn (st := []) (pc := 1045) dL_law_1045 rfl rfl (fun _ => rfl) (hQ _)
    · have hj5 : j + 5 ≤ L := by
        have e5 : (5 : Int32) = nI 5 := by decide
        rcases Nat.lt_or_ge L (j + 5) with q | q
        · refine absurd ?_ h9
          show nI L - 5 < nI j
          rw [Int32.lt_iff_toInt_lt, e5, pk_sub_toInt (by omega) (by omega), nI_toInt (by omega)]
          omega
        · exact q
      refine go_sload_n (pc := 26) 0 dL_law_26 rfl rfl ?_
      refine go_iload_n (pc := 27) 3 dL_law_27 rfl rfl ?_
      refine go_sld (pc := 28) dL_law_28 rfl (vp_in_nI (by omega) (by omega)) ?_
      refine go_bipush (pc := 29) (31 : Int32) dL_law_29 (by decide) ?_
      refine go_iand (pc := 31) dL_law_31 ?_
      obtain ⟨n, hn, hx⟩ := pk_andE (xs (nI j).toNatClampNeg) (m := 31) 5 (by decide)
      rw [hx]
      have hnext : ∀ wc wm, S wc wm → Go (mLw L xs) 9 true 0 0 1038 [some vS, some (vR 0), some (vR 56), some (vI (nI j))] [] (wA wc wm) Q := by
        intro wc wm hs
        refine go_iinc (pc := 1038) (nI (j + 5)) [some vS, some (vR 0), some (vR 56), some (vI (nI (j + 5)))] dL_law_1038 rfl (by rw [i32_5, ← nI_add]; rfl) (show 3 < 4 by decide) rfl ?_
        refine go_goto (pc := 1041) 18 dL_law_1041 (by decide) ?_
        exact ih (k - 5) (by omega) (j + 5) wc wm (by omega) (by omega) hs
      match n, hn with
      | 0, _ => exact go_tableIn (off := 104) (pc := 32) 136 dL_law_32 (by decide +kernel) (by decide +kernel) (by decide +kernel) (by decide) (lw_case0 hok ho.1 hL hj5 hs hnext)
      | 1, _ => exact go_tableIn (off := 137) (pc := 32) 169 dL_law_32 (by decide +kernel) (by decide +kernel) (by decide +kernel) (by decide) (lw_case1 hok ho.2.1 hL hj5 hs hnext)
      | 2, _ => exact go_tableIn (off := 206) (pc := 32) 238 dL_law_32 (by decide +kernel) (by decide +kernel) (by decide +kernel) (by decide) (lw_case2 hok ho.2.2.1 hL hj5 hs hnext)
      | 3, _ => exact go_tableIn (off := 249) (pc := 32) 281 dL_law_32 (by decide +kernel) (by decide +kernel) (by decide +kernel) (by decide) (lw_case3 hok ho.2.2.2.1 hL hj5 hs hnext)
      | 4, _ => exact go_tableIn (off := 292) (pc := 32) 324 dL_law_32 (by decide +kernel) (by decide +kernel) (by decide +kernel) (by decide) (lw_case4 hok ho.2.2.2.2.1 hL hj5 hs hnext)
      | 5, _ => exact go_tableIn (off := 325) (pc := 32) 357 dL_law_32 (by decide +kernel) (by decide +kernel) (by decide +kernel) (by decide) (lw_case5 hok ho.2.2.2.2.2.1 hL hj5 hs hnext)
      | 6, _ => exact go_tableIn (off := 358) (pc := 32) 390 dL_law_32 (by decide +kernel) (by decide +kernel) (by decide +kernel) (by decide) (lw_case6 hok ho.2.2.2.2.2.2.1 hL hj5 hs hnext)
      | 7, _ => exact go_tableIn (off := 391) (pc := 32) 423 dL_law_32 (by decide +kernel) (by decide +kernel) (by decide +kernel) (by decide) (lw_case7 hok ho.2.2.2.2.2.2.2.1 hL hj5 hs hnext)
      | 8, _ => exact go_tableIn (off := 434) (pc := 32) 466 dL_law_32 (by decide +kernel) (by decide +kernel) (by decide +kernel) (by decide) (lw_case8 hok ho.2.2.2.2.2.2.2.2.1 hL hj5 hs hnext)
      | 9, _ => exact go_tableIn (off := 493) (pc := 32) 525 dL_law_32 (by decide +kernel) (by decide +kernel) (by decide +kernel) (by decide) (lw_case9 hok ho.2.2.2.2.2.2.2.2.2.1 hL hj5 hs hnext)
      | 10, _ => exact go_tableIn (off := 536) (pc := 32) 568 dL_law_32 (by decide +kernel) (by decide +kernel) (by decide +kernel) (by decide) (lw_case10 hok ho.2.2.2.2.2.2.2.2.2.2.1 hL hj5 hs hnext)
      | 11, _ => exact go_tableIn (off := 579) (pc := 32) 611 dL_law_32 (by decide +kernel) (by decide +kernel) (by decide +kernel) (by decide) (lw_case11 hok ho.2.2.2.2.2.2.2.2.2.2.2.1 hL hj5 hs hnext)
      | 12, _ => exact go_tableIn (off := 602) (pc := 32) 634 dL_law_32 (by decide +kernel) (by decide +kernel) (by decide +kernel) (by decide) (lw_case12 hok ho.2.2.2.2.2.2.2.2.2.2.2.2.1 hL hj5 hs hnext)
      | 13, _ => exact go_tableIn (off := 635) (pc := 32) 667 dL_law_32 (by decide +kernel) (by decide +kernel) (by decide +kernel) (by decide) (lw_case13 hok ho.2.2.2.2.2.2.2.2.2.2.2.2.2.1 hL hj5 hs hnext)
      | 14, _ => exact go_tableIn (off := 658) (pc := 32) 690 dL_law_32 (by decide +kernel) (by decide +kernel) (by decide +kernel) (by decide) (lw_case14 hok ho.2.2.2.2.2.2.2.2.2.2.2.2.2.2.1 hL hj5 hs hnext)
      | 15, _ => exact go_tableIn (off := 712) (pc := 32) 744 dL_law_32 (by decide +kernel) (by decide +kernel) (by decide +kernel) (by decide) (lw_case15 hok ho.2.2.2.2.2.2.2.2.2.2.2.2.2.2.2.1 hL hj5 hs hnext)
      | 16, _ => exact go_tableIn (off := 756) (pc := 32) 788 dL_law_32 (by decide +kernel) (by decide +kernel) (by decide +kernel) (by decide) (lw_case16 hok ho.2.2.2.2.2.2.2.2.2.2.2.2.2.2.2.2.1 hL hj5 hs hnext)
      | 17, _ => exact go_tableIn (off := 799) (pc := 32) 831 dL_law_32 (by decide +kernel) (by decide +kernel) (by decide +kernel) (by decide) (lw_case17 hok ho.2.2.2.2.2.2.2.2.2.2.2.2.2.2.2.2.2.1 hL hj5 hs hnext)
      | 18, _ => exact go_tableIn (off := 842) (pc := 32) 874 dL_law_32 (by decide +kernel) (by decide +kernel) (by decide +kernel) (by decide) (lw_case18 hok ho.2.2.2.2.2.2.2.2.2.2.2.2.2.2.2.2.2.2.1 hL hj5 hs hnext)
      | 19, _ => exact go_tableIn (off := 865) (pc := 32) 897 dL_law_32 (by decide +kernel) (by decide +kernel) (by decide +kernel) (by decide) (lw_case19 hok ho.2.2.2.2.2.2.2.2.2.2.2.2.2.2.2.2.2.2.2.1 hL hj5 hs hnext)
      | 20, _ => exact go_tableIn (off := 928) (pc := 32) 960 dL_law_32 (by decide +kernel) (by decide +kernel) (by decide +kernel) (by decide) (lw_case20 hok ho.2.2.2.2.2.2.2.2.2.2.2.2.2.2.2.2.2.2.2.2.1 hL hj5 hs hnext)
      | 21, _ => exact go_tableIn (off := 992) (pc := 32) 1024 dL_law_32 (by decide +kernel) (by decide +kernel) (by decide +kernel) (by decide) (lw_case21 hok ho.2.2.2.2.2.2.2.2.2.2.2.2.2.2.2.2.2.2.2.2.2 hL hj5 hs hnext)
      | n + 22, hn =>
        refine go_tableOut (pc := 32) 1038 dL_law_32 (Or.inr ?_) (by decide) (hnext _ _ hs)
        rw [nI_toInt (by omega)]
        omega
end
