section CORE6
/-- a world's places, moved by o -/
def shV (o : Nat) : AV → AV
  | .inl x => .inl x
  | .inr (.inl x) => .inr (.inl x)
  | .inr (.inr (.inl r)) => .inr (.inr (.inl (r.map (fun k => o + k))))
  | .inr (.inr (.inr u)) => .inr (.inr (.inr u))
def shC (o : Nat) : AC → AC
  | .inl (t, n, .inl f) => .inl (t, n, .inl f)
  | .inl (t, n, .inr (.inl f)) => .inl (t, n, .inr (.inl f))
  | .inl (t, n, .inr (.inr f)) => .inl (t, n, .inr (.inr (fun i => (f i).map (fun k => o + k))))
  | .inr (ci, fs) => .inr (ci, fs.map (shV o))
theorem cv_sh {b : Nat} {ad : Nat → Nat} {o : Nat} (v : AV) : cv b ad (shV o v) = cv b (fun k => ad (o + k)) v := by
  rcases v with x | x | (_ | r) | u <;> rfl
theorem cc_sh {b : Nat} {cy : Nat → ClassId} {ad : Nat → Nat} {o : Nat} (c : AC) : cc b cy ad (shC o c) = cc b cy (fun k => ad (o + k)) c := by
  rcases c with ⟨t, n, f | f | f⟩ | ⟨ci, fs⟩
  · rfl
  · rfl
  · simp only [shC, cc, Option.map_map]
    rfl
  · simp only [shC, cc, List.map_map]
    congr 2
    apply List.map_congr_left
    intro v _
    exact cv_sh v
/-- a world among others -/
abbrev wIn (pre w post : List AC) : List AC := pre ++ (w.map (shC pre.length) ++ post)
theorem wIn_len (pre w post : List AC) : (wIn pre w post).length = pre.length + (w.length + post.length) := by simp [wIn]
theorem wIn_mid {pre w post : List AC} {j : Nat} {c : AC} (h : w[j]? = some c) : (wIn pre w post)[pre.length + j]? = some (shC pre.length c) := by
  have hj := (List.getElem?_eq_some_iff.mp h).1
  rw [wIn, List.getElem?_append_right (by omega), List.getElem?_append_left (by rw [List.length_map]; omega), show pre.length + j - pre.length = j by omega, List.getElem?_map, h]
  rfl
theorem wIn_at {pre w w' post : List AC} (hl : w'.length = w.length ∨ post = []) {j : Nat} {c : AC} (h : (wIn pre w' post)[j]? = some c) : (∃ i c0, w'[i]? = some c0 ∧ j = pre.length + i ∧ c = shC pre.length c0) ∨ ((wIn pre w post)[j]? = some c ∧ (j < pre.length ∨ pre.length + w.length ≤ j)) := by
  rw [wIn] at h
  by_cases h1 : j < pre.length
  · rw [List.getElem?_append_left h1] at h
    exact Or.inr ⟨by rw [wIn, List.getElem?_append_left h1]; exact h, Or.inl h1⟩
  · rw [List.getElem?_append_right (by omega)] at h
    by_cases h2 : j - pre.length < w'.length
    · rw [List.getElem?_append_left (by rw [List.length_map]; omega), List.getElem?_map] at h
      cases hc : w'[j - pre.length]? with
      | none => rw [hc] at h; cases h
      | some c0 =>
        rw [hc] at h
        exact Or.inl ⟨j - pre.length, c0, hc, by omega, (Option.some.inj h).symm⟩
    · rw [List.getElem?_append_right (by rw [List.length_map]; omega), List.length_map] at h
      rcases hl with hl | hl
      · refine Or.inr ⟨?_, Or.inr (by omega)⟩
        rw [wIn, List.getElem?_append_right (by omega), List.getElem?_append_right (by rw [List.length_map]; omega), List.length_map, ← hl]
        exact h
      · subst hl
        simp at h
theorem wIn_sub {dC : Nat → ClassId} {dI : Nat → Nat → Nat} {cy : Nat → ClassId} {b : Nat} {ad : Nat → Nat} {A : Nat → Prop} {pre w post : List AC} {H : Heap} (hw : WS dC dI cy b ad A (wIn pre w post) H) : va_P (dC, dI) vwCl (wl b cy (fun k => ad (pre.length + k)) w) H ∧ va_D (fun _ => True) (wl b cy (fun k => ad (pre.length + k)) w) := by
  have key : ∀ (j : Nat) (q : Nat × va_E), (wl b cy (fun k => ad (pre.length + k)) w)[j]? = some q → (wl b cy ad (wIn pre w post))[pre.length + j]? = some q := by
    intro j q h
    obtain ⟨c, h1, rfl⟩ := wl_at h
    rw [wl_get (wIn_mid h1), cc_sh]
  refine ⟨fun j q h => hw.1 _ q (key j q h), fun i j p q hp hq e => ?_, fun _ _ _ => trivial⟩
  have := hw.2.1 _ _ p q (key i p hp) (key j q hq) e
  omega
theorem wIn_back {dC : Nat → ClassId} {dI : Nat → Nat → Nat} {cy : Nat → ClassId} {b : Nat} {ad : Nat → Nat} {A : Nat → Prop} {pre w w' post : List AC} {H H1 : Heap} (hw : WS dC dI cy b ad A (wIn pre w post) H) (hA : ∀ q, CAq (fun k => ad (pre.length + k)) w H.size q → A q) (hl : w'.length = w.length ∨ post = []) (hP : va_P (dC, dI) vwCl (wl b cy (fun k => ad (pre.length + k)) w') H1) (hD : va_D (CAq (fun k => ad (pre.length + k)) w H.size) (wl b cy (fun k => ad (pre.length + k)) w')) (hk : ∀ q, q < H.size → ¬ CAq (fun k => ad (pre.length + k)) w H.size q → H1[q]? = H[q]?) : WS dC dI cy b ad A (wIn pre w' post) H1 := by
  have hout : ∀ (j : Nat) (c : AC), (wIn pre w post)[j]? = some c → (j < pre.length ∨ pre.length + w.length ≤ j) → ad j < H.size ∧ ¬ CAq (fun k => ad (pre.length + k)) w H.size (ad j) := by
    intro j c h1 h2
    have hlt : ad j < H.size := (hw.1 j _ (wl_get h1)).lt
    refine ⟨hlt, fun h => ?_⟩
    rcases h with ⟨k, h3, h4⟩ | h
    · have h5 := hw.2.1 j (pre.length + k) _ _ (wl_get h1) (wl_get (wIn_mid (List.getElem?_eq_getElem h3))) h4
      omega
    · omega
  have hin : ∀ (i : Nat) (c0 : AC), w'[i]? = some c0 → (wl b cy (fun k => ad (pre.length + k)) w')[i]? = some (ad (pre.length + i), cc b cy ad (shC pre.length c0)) := fun i c0 h => by rw [wl_get h, cc_sh]
  refine ⟨fun j q h => ?_, fun i j p q hp hq e => ?_, fun j q h => ?_⟩
  · obtain ⟨c, h1, rfl⟩ := wl_at h
    rcases wIn_at (w := w) hl h1 with ⟨i, c0, h2, rfl, rfl⟩ | ⟨h2, h3⟩
    · exact hP i _ (hin i c0 h2)
    · have h4 := hout j c h2 h3
      exact (hw.1 j _ (wl_get h2)).kept (hk _ h4.1 h4.2)
  · obtain ⟨c, h1, rfl⟩ := wl_at hp
    obtain ⟨c', h1', rfl⟩ := wl_at hq
    rcases wIn_at (w := w) hl h1 with ⟨i1, c0, h2, rfl, rfl⟩ | ⟨h2, h3⟩
    · rcases wIn_at (w := w) hl h1' with ⟨i2, c2, h4, rfl, rfl⟩ | ⟨h4, h5⟩
      · have := hD.1 i1 i2 _ _ (hin i1 c0 h2) (hin i2 c2 h4) e
        omega
      · have h6 := hD.2 i1 _ (hin i1 c0 h2)
        have e : ad (pre.length + i1) = ad j := e
        have h6 : CAq (fun k => ad (pre.length + k)) w H.size (ad (pre.length + i1)) := h6
        rw [e] at h6
        exact absurd h6 (hout j c' h4 h5).2
    · rcases wIn_at (w := w) hl h1' with ⟨i2, c2, h4, rfl, rfl⟩ | ⟨h4, h5⟩
      · have h6 : CAq (fun k => ad (pre.length + k)) w H.size (ad (pre.length + i2)) := hD.2 i2 _ (hin i2 c2 h4)
        have e : ad i = ad (pre.length + i2) := e
        rw [← e] at h6
        exact absurd h6 (hout i c h2 h3).2
      · exact hw.2.1 i j _ _ (wl_get h2) (wl_get h4) e
  · obtain ⟨c, h1, rfl⟩ := wl_at h
    rcases wIn_at (w := w) hl h1 with ⟨i, c0, h2, rfl, rfl⟩ | ⟨h2, h3⟩
    · exact hA _ (hD.2 i _ (hin i c0 h2))
    · exact hw.2.2 j _ (wl_get h2)
end CORE6
