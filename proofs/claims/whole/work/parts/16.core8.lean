section
theorem vr_outer (c : ClassId) (N h0 : Nat) : ∀ i : Nat, Jvm.Free.Multi.outerC c N h0 i = arrV c N (fun j => va_rf (if j < i then some (h0 + 1 + j) else none))
  | 0 => by
    show ({ cls := c, slots := Array.replicate N .null, vm := .none } : Cell) = _
    rw [arrV_new]
    refine congrArg (arrV c N) (funext fun j => ?_)
    simp [va_rf]
  | i + 1 => by
    show (Jvm.Free.Multi.outerC c N h0 i).setSlot i (.ref (h0 + 1 + i)) = _
    rw [vr_outer c N h0 i, arrV_store]
    refine congrArg (arrV c N) (funext fun j => ?_)
    by_cases e : j = i
    · subst e
      simp [updV, va_rf]
    · by_cases h : j < i
      · simp [updV, e, h, Nat.lt_succ_of_lt h]
      · simp [updV, e, h, show ¬ j < i + 1 by omega]

theorem go_mnaI {M : Mth} {d bc bs pc : Nat} {lv : List (Option AV)} {st : List AV} {w : List AC} {Q : Option AV → List AC → Prop} {n k : Int32} {idx : Nat} (N K : Nat) (hd : decode (mB M) pc = .ok (.multianewarray idx 2, 4)) (hcl : Cond.classLink (mO M) idx ("[" ++ (FieldType.array .int).toString) ∈ tbG) (hn : ¬ n < 0) (hk0 : ¬ k < 0) (hN : n.toNatClampNeg = N) (hK : k.toNatClampNeg = K) (hb1 : N ≤ 1000) (hb2 : K ≤ 1000) (kk : Go M d true bc bs (pc + 4) lv (vR w.length :: st) (w ++ (cA 3 N (fun i => if i < N then some (w.length + 1 + i) else none) :: List.replicate N (cI K (fun _ => 0)))) Q) : Go M d true (bc + (1 + N)) (bs + (N + N * K)) pc lv (vI k :: vI n :: st) w Q := by
  intro p l e R s m args below meth c Fin dC dI cy b ad A MC MS n0 fx H locs cells slots ls hc hs hw hS ha hl
  refine W_sized (fun hsz => ?_)
  intro T hT Xs
  have hfr := HA_size fx hw hS ha hsz rfl
  obtain ⟨vm₁, cA9, comp, -, fA, fC, hO, -, X', step⟩ := Xs.multianewarray2F fx.1.1 fx.2.1.2.2.1 (fx.2.2.1 _ hcl) (show (Cond.arrayOver (.array .int)).before args s = true from fx.2.1.2.2.2.2.2.2.1.1) (fx.2.2.1 _ tb_arrI) (g := F0 m pc ls (.int k :: .int n :: st.map (cv b ad))) rfl (by rw [fx.1.2]; exact hd) rfl hn hk0 (by rw [hN]; omega) (by rw [hK]; show K * 4 ≤ _; omega) (by rw [hK]; omega) rfl rfl (by rw [hN]; have := fx.2.2.2.2.2.1.2.2.1; omega) (by rw [hN, hK]; have := fx.2.2.2.2.2.1.2.2.2; omega)
  have ecA : cA9 = cy 3 := Option.some.inj (fA.symm.trans (fx.2.2.2.1.2 3 _ rfl).2)
  have ecC : comp = cy 0 := Option.some.inj (fC.symm.trans (fx.2.2.2.1.2 0 _ rfl).2)
  subst ecA
  subst ecC
  rw [hN, hK] at X' step
  generalize hF : Jvm.Free.Multi.fill (T.setVm vm₁) (cy 3) (cy 0) N K (defaultValue .int) N = F at X' step
  have hTh : (T.setVm vm₁).heap = H := hT
  obtain ⟨f1, f2, -, -⟩ := Jvm.Free.Multi.fill_facts (T.setVm vm₁) (cy 3) (cy 0) N K (defaultValue .int) N
  rw [hF, hTh] at f1 f2
  have hold : ∀ x : Nat, x < H.size → F.heap[x]? = H[x]? := fun x hx => by
    have := Jvm.Free.Multi.fill_old (T.setVm vm₁) (cy 3) (cy 0) N K (defaultValue .int) (a := x) (by rw [hTh]; exact hx) N
    rw [hF, hTh] at this
    exact this
  have hrow : ∀ j : Nat, j < N → F.heap[H.size + 1 + j]? = some (vp_cell (cy 0) (K, .inl (fun _ => 0))) := fun j hj => by
    have := Jvm.Free.Multi.fill_inner (T.setVm vm₁) (cy 3) (cy 0) N K (defaultValue .int) N j hj
    rw [hF, hTh] at this
    rw [this]
    congr 1
    exact arrV_new _ _ _
  have hout : F.heap[H.size]? = some (vp_cell (cy 3) (N, .inr (.inr (.inr (.inr (fun i => if i < N then some (H.size + 1 + i) else none)))))) := by
    rw [f2, vp_cell_q]
    exact congrArg some (vr_outer (cy 3) N H.size N)
  have hcells : ∀ (j : Nat) (c9 : AC), (w ++ (cA 3 N (fun i => if i < N then some (w.length + 1 + i) else none) :: List.replicate N (cI K (fun _ => 0))))[j]? = some c9 → (j < w.length ∧ w[j]? = some c9) ∨ (j = w.length ∧ c9 = cA 3 N (fun i => if i < N then some (w.length + 1 + i) else none)) ∨ (∃ i, i < N ∧ j = w.length + (1 + i) ∧ c9 = cI K (fun _ => 0)) := by
    intro j c9 h
    by_cases h1 : j < w.length
    · rw [List.getElem?_append_left h1] at h
      exact Or.inl ⟨h1, h⟩
    · rw [List.getElem?_append_right (by omega)] at h
      cases h2 : j - w.length with
      | zero =>
        rw [h2] at h
        exact Or.inr (Or.inl ⟨by omega, (Option.some.inj h).symm⟩)
      | succ i =>
        rw [h2, List.getElem?_cons_succ] at h
        have hi : i < N := by
          have := (List.getElem?_eq_some_iff.mp h).1
          rw [List.length_replicate] at this
          exact this
        exact Or.inr (Or.inr ⟨i, hi, by omega, List.eq_of_mem_replicate (List.mem_of_getElem? h)⟩)
  have hWS : WS dC dI cy b ad A (w ++ (cA 3 N (fun i => if i < N then some (w.length + 1 + i) else none) :: List.replicate N (cI K (fun _ => 0)))) F.heap := by
    have had : ∀ (j : Nat) (c9 : AC), (w ++ (cA 3 N (fun i => if i < N then some (w.length + 1 + i) else none) :: List.replicate N (cI K (fun _ => 0))))[j]? = some c9 → (j < w.length ∧ ad j < H.size) ∨ (w.length ≤ j ∧ ad j = H.size + (j - w.length)) := by
      intro j c9 h
      by_cases h1 : j < w.length
      · rw [List.getElem?_append_left h1] at h
        exact Or.inl ⟨h1, (hw.1 j _ (wl_get h)).lt⟩
      · have h2 := hfr (j - w.length)
        rw [show w.length + (j - w.length) = j by omega] at h2
        exact Or.inr ⟨by omega, h2⟩
    refine ⟨fun j q h => ?_, fun i j p9 q9 hp hq e9 => ?_, fun j q h => ?_⟩
    · obtain ⟨c9, h1, rfl⟩ := wl_at h
      rcases hcells j c9 h1 with ⟨h2, h3⟩ | ⟨rfl, rfl⟩ | ⟨i, h2, rfl, rfl⟩
      · exact (hw.1 j _ (wl_get h3)).kept (hold _ (hw.1 j _ (wl_get h3)).lt)
      · have h4 := hfr 0
        show F.heap[ad w.length]? = some (vp_cell _ _)
        rw [show ad w.length = H.size from h4, hout]
        congr 7
        funext i
        show (if i < N then some (H.size + 1 + i) else none) = (if i < N then some (w.length + 1 + i) else none).map ad
        by_cases hi : i < N
        · rw [if_pos hi, if_pos hi]
          have h5 := hfr (1 + i)
          rw [show w.length + (1 + i) = w.length + 1 + i by omega] at h5
          show some (H.size + 1 + i) = some (ad (w.length + 1 + i))
          rw [h5]
          congr 1
          omega
        · rw [if_neg hi, if_neg hi]
          rfl
      · have h4 := hfr (1 + i)
        show F.heap[ad (w.length + (1 + i))]? = some (vp_cell _ _)
        rw [h4, show H.size + (1 + i) = H.size + 1 + i by omega]
        exact hrow i h2
    · obtain ⟨c9, h1, rfl⟩ := wl_at hp
      obtain ⟨c8, h2, rfl⟩ := wl_at hq
      have e9 : ad i = ad j := e9
      rcases had i c9 h1 with ⟨g1, g2⟩ | ⟨g1, g2⟩
      · rcases had j c8 h2 with ⟨g3, g4⟩ | ⟨g3, g4⟩
        · rw [List.getElem?_append_left g1] at h1
          rw [List.getElem?_append_left g3] at h2
          exact hw.2.1 i j _ _ (wl_get h1) (wl_get h2) e9
        · omega
      · rcases had j c8 h2 with ⟨g3, g4⟩ | ⟨g3, g4⟩ <;> omega
    · obtain ⟨c9, h1, rfl⟩ := wl_at h
      rcases had j c9 h1 with ⟨g1, g2⟩ | ⟨g1, g2⟩
      · rw [List.getElem?_append_left g1] at h1
        exact hw.2.2 j _ (wl_get h1)
      · refine fx.2.2.2.2.1 _ ?_
        show _ ≤ ad j
        have := hS.1
        omega
  have hS' : va_S A s.heap F.heap locs := ⟨by rw [f1]; have := hS.1; omega, fun x h1 h2 => (hold x (Nat.lt_of_lt_of_le h1 hS.1)).trans (hS.2.1 x h1 h2), hS.2.2⟩
  have hHA : HA true (w ++ (cA 3 N (fun i => if i < N then some (w.length + 1 + i) else none) :: List.replicate N (cI K (fun _ => 0)))) n0 (cells + 1 + N) bc MC := ⟨fun h => by
    have := ha.1 h
    rw [List.length_append, List.length_cons, List.length_replicate]
    omega, fun h => by cases h⟩
  obtain ⟨t9, a1, b1⟩ := kk p l e R s m args below meth c Fin dC dI cy b ad A MC MS n0 fx F.heap locs (cells + 1 + N) (slots + N + N * K) ls (by omega) (by omega) hWS hS' hHA hl F rfl X'
  refine ⟨t9, step t9 ?_, b1⟩
  have a2 : Steps p.tables e below (F.setTop (F0 m (pc + 4) ls (.ref (ad w.length) :: st.map (cv b ad)))) t9 := a1
  rw [show ad w.length = H.size from hfr 0] at a2
  rw [hT]
  exact a2

theorem go_mnaJ {M : Mth} {d bc bs pc : Nat} {lv : List (Option AV)} {st : List AV} {w : List AC} {Q : Option AV → List AC → Prop} {n k : Int32} {idx : Nat} (N K : Nat) (hd : decode (mB M) pc = .ok (.multianewarray idx 2, 4)) (hcl : Cond.classLink (mO M) idx ("[" ++ (FieldType.array .long).toString) ∈ tbG) (hn : ¬ n < 0) (hk0 : ¬ k < 0) (hN : n.toNatClampNeg = N) (hK : k.toNatClampNeg = K) (hb1 : N ≤ 1000) (hb2 : K ≤ 1000) (kk : Go M d true bc bs (pc + 4) lv (vR w.length :: st) (w ++ (cA 4 N (fun i => if i < N then some (w.length + 1 + i) else none) :: List.replicate N (cJ K (fun _ => 0)))) Q) : Go M d true (bc + (1 + N)) (bs + (N + N * K)) pc lv (vI k :: vI n :: st) w Q := by
  intro p l e R s m args below meth c Fin dC dI cy b ad A MC MS n0 fx H locs cells slots ls hc hs hw hS ha hl
  refine W_sized (fun hsz => ?_)
  intro T hT Xs
  have hfr := HA_size fx hw hS ha hsz rfl
  obtain ⟨vm₁, cA9, comp, -, fA, fC, hO, -, X', step⟩ := Xs.multianewarray2F fx.1.1 fx.2.1.2.2.1 (fx.2.2.1 _ hcl) (show (Cond.arrayOver (.array .long)).before args s = true from fx.2.1.2.2.2.2.2.2.1.2) (fx.2.2.1 _ tb_arrJ) (g := F0 m pc ls (.int k :: .int n :: st.map (cv b ad))) rfl (by rw [fx.1.2]; exact hd) rfl hn hk0 (by rw [hN]; omega) (by rw [hK]; show K * 8 ≤ _; omega) (by rw [hK]; omega) rfl rfl (by rw [hN]; have := fx.2.2.2.2.2.1.2.2.1; omega) (by rw [hN, hK]; have := fx.2.2.2.2.2.1.2.2.2; omega)
  have ecA : cA9 = cy 4 := Option.some.inj (fA.symm.trans (fx.2.2.2.1.2 4 _ rfl).2)
  have ecC : comp = cy 1 := Option.some.inj (fC.symm.trans (fx.2.2.2.1.2 1 _ rfl).2)
  subst ecA
  subst ecC
  rw [hN, hK] at X' step
  generalize hF : Jvm.Free.Multi.fill (T.setVm vm₁) (cy 4) (cy 1) N K (defaultValue .long) N = F at X' step
  have hTh : (T.setVm vm₁).heap = H := hT
  obtain ⟨f1, f2, -, -⟩ := Jvm.Free.Multi.fill_facts (T.setVm vm₁) (cy 4) (cy 1) N K (defaultValue .long) N
  rw [hF, hTh] at f1 f2
  have hold : ∀ x : Nat, x < H.size → F.heap[x]? = H[x]? := fun x hx => by
    have := Jvm.Free.Multi.fill_old (T.setVm vm₁) (cy 4) (cy 1) N K (defaultValue .long) (a := x) (by rw [hTh]; exact hx) N
    rw [hF, hTh] at this
    exact this
  have hrow : ∀ j : Nat, j < N → F.heap[H.size + 1 + j]? = some (vp_cell (cy 1) (K, .inr (.inl (fun _ => 0)))) := fun j hj => by
    have := Jvm.Free.Multi.fill_inner (T.setVm vm₁) (cy 4) (cy 1) N K (defaultValue .long) N j hj
    rw [hF, hTh] at this
    rw [this]
    congr 1
    exact arrV_new _ _ _
  have hout : F.heap[H.size]? = some (vp_cell (cy 4) (N, .inr (.inr (.inr (.inr (fun i => if i < N then some (H.size + 1 + i) else none)))))) := by
    rw [f2, vp_cell_q]
    exact congrArg some (vr_outer (cy 4) N H.size N)
  have hcells : ∀ (j : Nat) (c9 : AC), (w ++ (cA 4 N (fun i => if i < N then some (w.length + 1 + i) else none) :: List.replicate N (cJ K (fun _ => 0))))[j]? = some c9 → (j < w.length ∧ w[j]? = some c9) ∨ (j = w.length ∧ c9 = cA 4 N (fun i => if i < N then some (w.length + 1 + i) else none)) ∨ (∃ i, i < N ∧ j = w.length + (1 + i) ∧ c9 = cJ K (fun _ => 0)) := by
    intro j c9 h
    by_cases h1 : j < w.length
    · rw [List.getElem?_append_left h1] at h
      exact Or.inl ⟨h1, h⟩
    · rw [List.getElem?_append_right (by omega)] at h
      cases h2 : j - w.length with
      | zero =>
        rw [h2] at h
        exact Or.inr (Or.inl ⟨by omega, (Option.some.inj h).symm⟩)
      | succ i =>
        rw [h2, List.getElem?_cons_succ] at h
        have hi : i < N := by
          have := (List.getElem?_eq_some_iff.mp h).1
          rw [List.length_replicate] at this
          exact this
        exact Or.inr (Or.inr ⟨i, hi, by omega, List.eq_of_mem_replicate (List.mem_of_getElem? h)⟩)
  have hWS : WS dC dI cy b ad A (w ++ (cA 4 N (fun i => if i < N then some (w.length + 1 + i) else none) :: List.replicate N (cJ K (fun _ => 0)))) F.heap := by
    have had : ∀ (j : Nat) (c9 : AC), (w ++ (cA 4 N (fun i => if i < N then some (w.length + 1 + i) else none) :: List.replicate N (cJ K (fun _ => 0))))[j]? = some c9 → (j < w.length ∧ ad j < H.size) ∨ (w.length ≤ j ∧ ad j = H.size + (j - w.length)) := by
      intro j c9 h
      by_cases h1 : j < w.length
      · rw [List.getElem?_append_left h1] at h
        exact Or.inl ⟨h1, (hw.1 j _ (wl_get h)).lt⟩
      · have h2 := hfr (j - w.length)
        rw [show w.length + (j - w.length) = j by omega] at h2
        exact Or.inr ⟨by omega, h2⟩
    refine ⟨fun j q h => ?_, fun i j p9 q9 hp hq e9 => ?_, fun j q h => ?_⟩
    · obtain ⟨c9, h1, rfl⟩ := wl_at h
      rcases hcells j c9 h1 with ⟨h2, h3⟩ | ⟨rfl, rfl⟩ | ⟨i, h2, rfl, rfl⟩
      · exact (hw.1 j _ (wl_get h3)).kept (hold _ (hw.1 j _ (wl_get h3)).lt)
      · have h4 := hfr 0
        show F.heap[ad w.length]? = some (vp_cell _ _)
        rw [show ad w.length = H.size from h4, hout]
        congr 7
        funext i
        show (if i < N then some (H.size + 1 + i) else none) = (if i < N then some (w.length + 1 + i) else none).map ad
        by_cases hi : i < N
        · rw [if_pos hi, if_pos hi]
          have h5 := hfr (1 + i)
          rw [show w.length + (1 + i) = w.length + 1 + i by omega] at h5
          show some (H.size + 1 + i) = some (ad (w.length + 1 + i))
          rw [h5]
          congr 1
          omega
        · rw [if_neg hi, if_neg hi]
          rfl
      · have h4 := hfr (1 + i)
        show F.heap[ad (w.length + (1 + i))]? = some (vp_cell _ _)
        rw [h4, show H.size + (1 + i) = H.size + 1 + i by omega]
        exact hrow i h2
    · obtain ⟨c9, h1, rfl⟩ := wl_at hp
      obtain ⟨c8, h2, rfl⟩ := wl_at hq
      have e9 : ad i = ad j := e9
      rcases had i c9 h1 with ⟨g1, g2⟩ | ⟨g1, g2⟩
      · rcases had j c8 h2 with ⟨g3, g4⟩ | ⟨g3, g4⟩
        · rw [List.getElem?_append_left g1] at h1
          rw [List.getElem?_append_left g3] at h2
          exact hw.2.1 i j _ _ (wl_get h1) (wl_get h2) e9
        · omega
      · rcases had j c8 h2 with ⟨g3, g4⟩ | ⟨g3, g4⟩ <;> omega
    · obtain ⟨c9, h1, rfl⟩ := wl_at h
      rcases had j c9 h1 with ⟨g1, g2⟩ | ⟨g1, g2⟩
      · rw [List.getElem?_append_left g1] at h1
        exact hw.2.2 j _ (wl_get h1)
      · refine fx.2.2.2.2.1 _ ?_
        show _ ≤ ad j
        have := hS.1
        omega
  have hS' : va_S A s.heap F.heap locs := ⟨by rw [f1]; have := hS.1; omega, fun x h1 h2 => (hold x (Nat.lt_of_lt_of_le h1 hS.1)).trans (hS.2.1 x h1 h2), hS.2.2⟩
  have hHA : HA true (w ++ (cA 4 N (fun i => if i < N then some (w.length + 1 + i) else none) :: List.replicate N (cJ K (fun _ => 0)))) n0 (cells + 1 + N) bc MC := ⟨fun h => by
    have := ha.1 h
    rw [List.length_append, List.length_cons, List.length_replicate]
    omega, fun h => by cases h⟩
  obtain ⟨t9, a1, b1⟩ := kk p l e R s m args below meth c Fin dC dI cy b ad A MC MS n0 fx F.heap locs (cells + 1 + N) (slots + N + N * K) ls (by omega) (by omega) hWS hS' hHA hl F rfl X'
  refine ⟨t9, step t9 ?_, b1⟩
  have a2 : Steps p.tables e below (F.setTop (F0 m (pc + 4) ls (.ref (ad w.length) :: st.map (cv b ad)))) t9 := a1
  rw [show ad w.length = H.size from hfr 0] at a2
  rw [hT]
  exact a2

end
