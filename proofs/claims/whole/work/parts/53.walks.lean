/-! where walks lead, on both sides -/
theorem ztg_len {s : Nat → Nat → Nat} (hI : zMI s) (g : Nat) : (ztg s g).length ≤ 1000 := by
  unfold ztg
  rw [zls_len]
  have : s 6 g ≤ 1000 := hI 6 g
  omega
theorem zwt_in {h0 : zm_H} {c s : Nat → Nat → Nat} (h : zIV h0 c s) (f k fo : Nat) : ((zwt s f k fo).2.1 = 0 ∨ (1 ≤ (zwt s f k fo).2.1 ∧ (zwt s f k fo).2.1 ≤ 40 ∧ s 3 (zwt s f k fo).2.1 ≠ 0)) ∧ ((zwt s f k fo).2.2.2.2 = 0 → (zwt s f k fo).1 = 0 → 1 ≤ (zwt s f k fo).2.2.1 ∧ (zwt s f k fo).2.2.1 ≤ 40 ∧ s 3 (zwt s f k fo).2.2.1 ≠ 0) := by
  obtain ⟨i1, i2, i3, hr, ⟨s1, v2, v3, v4, v5, v6, v7, v8, v9, v10⟩, i6⟩ := h
  refine zwk_rng (fun x => 1 ≤ x ∧ x ≤ 40 ∧ s 3 x ≠ 0) (by rw [v2]; decide) (fun x _ _ => ⟨(zmpa_ok s1 v3 x).1, zmpa_le i3 x _, by rw [(zmpa_ok s1 v3 x).2]; decide⟩) (fun x w g hg => ?_) ⟨by decide, by decide, by rw [v3]; decide⟩ _ _ _ _ _ _ _ (Or.inr ⟨by decide, by decide, by rw [v3]; decide⟩) (fun z => absurd z (by decide))
  obtain ⟨j, j1, j2⟩ := Option.map_eq_some_iff.mp hg
  rw [← j2]
  have := s1.1 j (zlkn_lt j1).1
  exact ⟨this.2.2.1, i3 9 j, this.2.2.2.1⟩
theorem zwt_nm {h0 : zm_H} {c s : Nat → Nat → Nat} (h : zIV h0 c s) {f k : Nat} (hk : f + k ≤ 1200) (hz : zna (zwt s f k 0) = 0) : (zwt s f k 0).1 = 0 ∧ (zwt s f k 0).2.2.2.2 = 0 ∧ 1 ≤ (zwt s f k 0).2.2.1 ∧ (zwt s f k 0).2.2.1 ≤ 40 ∧ s 3 (zwt s f k 0).2.2.1 = 2 ∧ (zwt s f k 0).2.2.2.1.length ≤ 255 ∧ (zwt s f k 0).2.2.2.1 ≠ [] ∧ ((∃ j, zlkn s (zwt s f k 0).2.2.1 (zwt s f k 0).2.2.2.1 (s 0 10) = some j ∧ s 9 j = (zwt s f k 0).2.1) ∨ (zlkn s (zwt s f k 0).2.2.1 (zwt s f k 0).2.2.2.1 (s 0 10) = none ∧ (zwt s f k 0).2.1 = 0)) := by
  obtain ⟨e1, e2⟩ := zna_0 (zwt_cs s f k 0) hz
  obtain ⟨a1, a2, a3⟩ := (zwt_in h f k 0).2 e2 e1
  obtain ⟨b1, b2, b3, b4⟩ := zwk_end (K := s 3) (G := fun f => zmpa s f (s 0 10)) (L := fun f w => (zlkn s f w (s 0 10)).map (s 9)) (T := ztg s) (fo := (0 == 1)) 50000 1 0 (zpt (zls (s 1) f (f + k))) 0 [] 1 (fun z => absurd z (by decide)) e2 e1
  have hl := zpt_le (zls (s 1) f (f + k))
  rw [zls_len] at hl
  have hu := zwk_u (K := s 3) (G := fun f => zmpa s f (s 0 10)) (L := fun f w => (zlkn s f w (s 0 10)).map (s 9)) (T := ztg s) (ztg_len h.2.2.1) 50000 1 0 (zpt (zls (s 1) f (f + k))) 0 [] 1 (by decide) (by omega) zpt_ne (fun _ => ⟨fun _ => Or.inl rfl, fun _ => by decide⟩) e1
  refine ⟨e1, e2, a1, a2, b2, b1, fun z => absurd e2 (hu.mpr (Or.inl z)), ?_⟩
  rcases b4 with b4 | ⟨b4, b5⟩
  · obtain ⟨j, j1, j2⟩ := Option.map_eq_some_iff.mp b4
    exact Or.inl ⟨j, j1, j2⟩
  · exact Or.inr ⟨Option.map_eq_none_iff.mp b4, b5⟩
/-- the class, behind a walk to a name -/
theorem zWE_nm {h0 : zm_H} {c c2 s : Nat → Nat → Nat} {w : Nat} (h : zIV h0 c s) {f k : Nat} (hk : f + k ≤ 1200) (hz : zna (zwt s f k 0) = 0) (hW : zWE h0 w c c2 (zwt s f k 0)) : c2 23 w = (zwt s f k 0).2.1 ∧ c2 21 w = (zwt s f k 0).2.2.1 ∧ c2 22 w = zon (zclk c (zwt s f k 0).2.2.1 (zwt s f k 0).2.2.2.1) ∧ zpw c2 w = (zwt s f k 0).2.2.2.1 ∧ (∃ nb, zgk h0 c2 (c2 17 w) nb ∧ c2 18 w + c2 20 w ≤ nb) ∧ c2 20 w = (zwt s f k 0).2.2.2.1.length := by
  obtain ⟨e1, e2, _, _, _, _, e7, _⟩ := zwt_nm h hk hz
  obtain ⟨w1, w2, w3, w4⟩ := hW.2.2 e1
  obtain ⟨w5, w6⟩ := w4 e2
  have hl : c2 20 w = (zwt s f k 0).2.2.2.1.length := by rw [← w3, zpw_len]
  refine ⟨w1, w5, w6, w3, ?_, hl⟩
  refine w2.2 (fun z => ?_)
  have := w2.1 z
  rw [hl] at this
  exact e7 (List.length_eq_zero_iff.mp this)
theorem zgd_le {f : Nat → Nat} {a n : Nat} {q : List Nat} (h : zls f a (a + n) = q) (hf : ∀ i, f i ≤ 255) (i : Nat) : zgd q i ≤ 255 := by
  by_cases hi : i < n
  · rw [← zls_gd h i hi]
    exact hf _
  · unfold zgd
    rw [← h, List.getElem?_eq_none (by rw [zls_len]; omega)]
    exact Nat.zero_le _
theorem zls_gq (q : List Nat) : zls (zgd q) 0 (0 + q.length) = q := by
  apply List.ext_getElem?
  intro i
  by_cases hi : i < q.length
  · rw [zls_get _ (by omega), Nat.zero_add]
    unfold zgd
    rw [List.getElem?_eq_getElem hi]
    rfl
  · rw [List.getElem?_eq_none (by rw [zls_len]; omega), List.getElem?_eq_none (by omega)]
/-- the row that comes next -/
theorem zIV_row {h0 : zm_H} {c s : Nat → Nat → Nat} (h : zIV h0 c s) {i : Nat} (hi : i < 60) : 1 ≤ c 10 i ∧ c 10 i ≤ 60 ∧ (c 13 (c 10 i) ≠ 0 → zga h0 (c 13 (c 10 i)) 255) :=
  ⟨h.2.2.2.1.2.2.2.2.2.2.2.2.1 i hi, h.2.1 10 i, fun hz => h.2.2.2.2.2.2.1 _ hz⟩
