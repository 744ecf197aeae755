/-! one name more, one name less: the class's numbers -/
theorem zup_at (s : Nat → Nat → Nat) (a j v i : Nat) : zup s a j v a i = if i = j then v else s a i := by
  split
  · next h => rw [h, zup_same]
  · next h => rw [zup_nj _ _ h]
theorem zdp_5 (c : Nat → Nat → Nat) (i R x : Nat) : zdp c i R 5 x = if x = c 11 R then c 5 x - 1 else c 5 x := by
  show zup c 5 (c 11 R) (c 5 (c 11 R) - 1) 5 x = _
  rw [zup_at]
  split
  · next h => rw [h]
  · rfl
theorem zdp_3 (c : Nat → Nat → Nat) (i R x : Nat) : zdp c i R 3 x = if x = c 12 R then c 3 x - 1 else c 3 x := by
  show zup c 3 (c 12 R) (c 3 (c 12 R) - 1) 3 x = _
  rw [zup_at]
  split
  · next h => rw [h]
  · rfl
theorem zdp_11 (c : Nat → Nat → Nat) (i R x : Nat) : zdp c i R 11 x = if x = R then 0 else c 11 x := by
  show zup c 11 R 0 11 x = _
  rw [zup_at]
theorem zdp_12 (c : Nat → Nat → Nat) (i R x : Nat) : zdp c i R 12 x = if x = R then 0 else c 12 x := by
  show zup c 12 R 0 12 x = _
  rw [zup_at]
theorem zdp_10 (c : Nat → Nat → Nat) {i R : Nat} (hR : c 10 i = R) (x : Nat) : zdp c i R 10 x = c 10 (if x = c 0 2 - 1 then i else if x = i then c 0 2 - 1 else x) := by
  show zup (zup c 10 i (c 10 (c 0 2 - 1))) 10 (c 0 2 - 1) R 10 x = _
  rw [zup_at, zup_at]
  split
  · exact hR.symm
  · split <;> rfl
theorem zdp_2 (c : Nat → Nat → Nat) (i R : Nat) : zdp c i R 0 2 = c 0 2 - 1 := rfl
theorem zdp_a (c : Nat → Nat → Nat) (i R A : Nat) (h : A = 2 ∨ A = 4 ∨ A = 6 ∨ A = 7 ∨ A = 8 ∨ A = 9 ∨ (13 ≤ A)) : zdp c i R A = c A := by
  funext j
  unfold zdp zfg
  rw [zup_na _ _ (by omega), zup_na _ _ (by omega), zup_na _ _ (by omega), zup_na _ _ (by omega), zup_na _ _ (by omega), zup_na _ _ (by omega), zup_na _ _ (by omega)]
theorem zdp_cn (c : Nat → Nat → Nat) (i R x : Nat) : zcn (zdp c i R) x = zcn c x := by
  unfold zcn
  rw [zdp_a c i R 19 (by omega), zdp_a c i R 13 (by omega), zdp_a c i R 14 (by omega)]
theorem zdp_US {c : Nat → Nat → Nat} {i R : Nat} (hi : i < c 0 2) (h60 : c 0 2 ≤ 60) (hR : c 10 i = R) (hj : ∀ a b, a < 60 → b < 60 → c 10 a = c 10 b → a = b) (x : Nat) : zUS (zdp c i R) x ↔ zUS c x ∧ x ≠ R := by
  unfold zUS
  rw [zdp_2]
  constructor
  · rintro ⟨j, j1, j2⟩
    rw [zdp_10 c hR, if_neg (by omega)] at j2
    split at j2
    · exact ⟨⟨c 0 2 - 1, by omega, j2⟩, fun z => by
        have := hj (c 0 2 - 1) i (by omega) (by omega) (by rw [j2, z, hR])
        omega⟩
    · exact ⟨⟨j, by omega, j2⟩, fun z => by
        have := hj j i (by omega) (by omega) (by rw [j2, z, hR])
        omega⟩
  · rintro ⟨⟨j, j1, j2⟩, hx⟩
    have hji : j ≠ i := fun z => hx (by rw [← j2, z, hR])
    by_cases hl : j = c 0 2 - 1
    · refine ⟨i, by omega, ?_⟩
      rw [zdp_10 c hR, if_neg (by omega), if_pos rfl, ← hl]
      exact j2
    · refine ⟨j, by omega, ?_⟩
      rw [zdp_10 c hR, if_neg hl, if_neg hji]
      exact j2
theorem zdp_rows {c : Nat → Nat → Nat} {i R : Nat} (hi : i < c 0 2) (h60 : c 0 2 ≤ 60) (hR : c 10 i = R) (h1 : ∀ a, a < 60 → 1 ≤ c 10 a) (hj : ∀ a b, a < 60 → b < 60 → c 10 a = c 10 b → a = b) : (∀ a, a < 60 → 1 ≤ zdp c i R 10 a) ∧ (∀ a b, a < 60 → b < 60 → zdp c i R 10 a = zdp c i R 10 b → a = b) := by
  have hs : ∀ x, x < 60 → (if x = c 0 2 - 1 then i else if x = i then c 0 2 - 1 else x) < 60 := fun x hx => by split <;> (try split) <;> omega
  refine ⟨fun a ha => ?_, fun a b ha hb e => ?_⟩
  · rw [zdp_10 c hR]
    exact h1 _ (hs a ha)
  · rw [zdp_10 c hR, zdp_10 c hR] at e
    have := hj _ _ (hs a ha) (hs b hb) e
    split at this <;> (try split at this) <;> (try split at this) <;> (try split at this) <;> omega
/-- a name is given -/
theorem zgv_3 (c : Nat → Nat → Nat) (R dd g x : Nat) : zgv c R dd g 3 x = if x = g then c 3 x + 1 else c 3 x := by
  have e : zgv c R dd g 3 x = zup c 3 g (c 3 g + 1) 3 x := by unfold zgv; split <;> rfl
  rw [e, zup_at]
  split
  · next h => rw [h]
  · rfl
theorem zgv_5 (c : Nat → Nat → Nat) (R dd g x : Nat) : zgv c R dd g 5 x = if x = dd then c 5 x + 1 else c 5 x := by
  have e : zgv c R dd g 5 x = zup c 5 dd (c 5 dd + 1) 5 x := by unfold zgv; split <;> rfl
  rw [e, zup_at]
  split
  · next h => rw [h]
  · rfl
theorem zgv_6 (c : Nat → Nat → Nat) (R dd g x : Nat) : zgv c R dd g 6 x = if x = dd then max (c 6 x) (c 5 x + 1) else c 6 x := by
  have e : zgv c R dd g 6 x = zup c 6 dd (max (c 6 dd) (c 5 dd + 1)) 6 x := by unfold zgv; split <;> rfl
  rw [e, zup_at]
  split
  · next h => rw [h]
  · rfl
theorem zgv_7 (c : Nat → Nat → Nat) (R dd g x : Nat) : zgv c R dd g 7 x = if x = g ∧ c 2 g = 2 then dd else c 7 x := by
  unfold zgv
  by_cases h : c 2 g = 2
  · rw [if_pos h, zup_at]
    by_cases hx : x = g
    · rw [if_pos hx, if_pos ⟨hx, h⟩]
    · rw [if_neg hx, if_neg (fun z => hx z.1)]
      rfl
  · rw [if_neg h, if_neg (fun z => h z.2)]
    rfl
theorem zgv_11 (c : Nat → Nat → Nat) (R dd g x : Nat) : zgv c R dd g 11 x = if x = R then dd else c 11 x := by
  have e : zgv c R dd g 11 x = zup c 11 R dd 11 x := by unfold zgv; split <;> rfl
  rw [e, zup_at]
theorem zgv_12 (c : Nat → Nat → Nat) (R dd g x : Nat) : zgv c R dd g 12 x = if x = R then g else c 12 x := by
  have e : zgv c R dd g 12 x = zup c 12 R g 12 x := by unfold zgv; split <;> rfl
  rw [e, zup_at]
theorem zgv_a (c : Nat → Nat → Nat) (R dd g A : Nat) (h : A ≠ 3 ∧ A ≠ 5 ∧ A ≠ 6 ∧ A ≠ 7 ∧ A ≠ 11 ∧ A ≠ 12) : zgv c R dd g A = c A := by
  funext j
  unfold zgv
  split
  · rw [zup_na _ _ (by omega), zup_na _ _ (by omega), zup_na _ _ (by omega), zup_na _ _ (by omega), zup_na _ _ (by omega), zup_na _ _ (by omega)]
  · rw [zup_na _ _ (by omega), zup_na _ _ (by omega), zup_na _ _ (by omega), zup_na _ _ (by omega), zup_na _ _ (by omega)]
theorem zCI_gv {c : Nat → Nat → Nat} (hI : zCI c) {R dd g : Nat} (hd : dd ≤ 40) (hg : g ≤ 40) (h5 : c 5 dd < 60) (h3 : c 3 g < 60) : zCI (zgv c R dd g) := by
  have h6 : c 6 dd ≤ 60 := hI 6 dd
  have k : zCI (zup (zup (zup (zup (zup c 11 R dd) 12 R g) 5 dd (c 5 dd + 1)) 6 dd (max (c 6 dd) (c 5 dd + 1))) 3 g (c 3 g + 1)) := zCI_up (zCI_up (zCI_up (zCI_up (zCI_up hI (show dd ≤ 40 from hd)) (show g ≤ 40 from hg)) (show c 5 dd + 1 ≤ 60 by omega)) (show max (c 6 dd) (c 5 dd + 1) ≤ 60 by omega)) (show c 3 g + 1 ≤ 60 by omega)
  unfold zgv
  split
  · exact zCI_up k (show dd ≤ 40 from hd)
  · exact k
theorem zga_u {h0 : zm_H} {b m n : Nat} (h : zga h0 b m) (k : zga h0 b n) : m = n := by
  have e := h.2.2.1.symm.trans k.2.2.1
  cases e
  rfl
/-- bytes put into the row of a name: what it leaves alone -/
theorem zNB_13 {h0 h1 : zm_H} {c c2 : Nat → Nat → Nat} {R a n : Nat} {g : Nat → Nat} (hN : zNB 13 14 255 h0 h1 c c2 R a n g) (hA : zCA h0 c) (hS : zCS h0) : (∀ x, x ≠ R → c 13 x ≠ 0 → zcn c2 x = zcn c x) ∧ zcn c2 R = zls g 0 (0 + n) ∧ (∀ f, c 8 f ≠ 0 → ∀ j, j < 1200 → c2 19 (1200 * c2 8 f + j) = c 19 (1200 * c 8 f + j)) ∧ (∀ j, j < 1200 → c2 19 (1200 * 3 + j) = c 19 (1200 * 3 + j)) ∧ zCA h1 c2 := by
  obtain ⟨n1, n2, n3, n4, n5, n6, n7, n8, hI2⟩ := hN
  obtain ⟨a1, a2, a3, a4⟩ := hA
  have e13 : ∀ x, x ≠ R → c2 13 x = c 13 x := fun x hx => n7 13 x (by decide) (fun z => hx z.2) (by omega)
  have e14 : ∀ x, x ≠ R → c2 14 x = c 14 x := fun x hx => n7 14 x (by decide) (by omega) (fun z => hx z.2)
  have e8 : ∀ x, c2 8 x = c 8 x := fun x => n7 8 x (by decide) (by omega) (by omega)
  have hne : ∀ x, x ≠ R → c 13 x ≠ 0 → c 13 x ≠ a := fun x hx h0x z => by
    rcases n3 with y | ⟨y1, y2⟩
    · exact hx (a4 x R h0x (z.trans y.symm))
    · have := (a2 x h0x).2.1
      omega
  have hn8 : ∀ f, c 8 f ≠ 0 → c 8 f ≠ a := fun f hf z => by
    have k1 := zEX_ga n1 (a1 f hf)
    rw [z] at k1
    exact absurd (zga_u k1 n2) (by decide)
  have hn3 : 3 ≠ a := fun z => by
    have k1 := zEX_ga n1 (zga_3 hS)
    rw [z] at k1
    exact absurd (zga_u k1 n2) (by decide)
  have hcn : ∀ x, x ≠ R → c 13 x ≠ 0 → zcn c2 x = zcn c x := fun x hx h0x => by
    unfold zcn
    rw [e13 x hx, e14 x hx]
    refine zls_congr (fun i h3 h4 => ?_)
    have hl : c 14 x ≤ 255 := by rw [← e14 x hx]; exact hI2 14 x
    exact n8 _ _ (hne x hx h0x) (by omega)
  refine ⟨hcn, ?_, fun f hf j hj => ?_, fun j hj => n8 3 j hn3 hj, fun f hf => ?_, fun r hr => ?_, fun f k hf e => ?_, fun f k hf e => ?_⟩
  · unfold zcn
    rw [n4, n5]
    refine zls_congr (fun i h3 h4 => n6 i (by omega))
  · rw [e8]
    exact n8 _ _ (hn8 f hf) hj
  · rw [e8] at hf ⊢
    exact zEX_ga n1 (a1 f hf)
  · by_cases hrR : r = R
    · rw [hrR, n4]
      exact n2
    · rw [e13 r hrR] at hr ⊢
      exact zEX_ga n1 (a2 r hr)
  · rw [e8] at hf e
    rw [e8] at e
    exact a3 f k hf e
  · by_cases hf2 : f = R
    · by_cases hk2 : k = R
      · rw [hf2, hk2]
      · rw [hf2, n4, e13 k hk2] at e
        rw [hf2, n4] at hf
        exact absurd e.symm (hne k hk2 (by rw [← e]; exact hf))
    · by_cases hk2 : k = R
      · rw [hk2, n4, e13 f hf2] at e
        rw [e13 f hf2] at hf
        exact absurd e (hne f hf2 hf)
      · rw [e13 f hf2] at hf e
        rw [e13 k hk2] at e
        exact a4 f k hf e
/-- bytes put into a target -/
theorem zNB_8 {h0 h1 : zm_H} {c c2 : Nat → Nat → Nat} {R a n : Nat} {g : Nat → Nat} (hN : zNB 8 9 1000 h0 h1 c c2 R a n g) (hA : zCA h0 c) (hS : zCS h0) : (∀ f, f ≠ R → c 8 f ≠ 0 → ∀ j, j < 1200 → c2 19 (1200 * c2 8 f + j) = c 19 (1200 * c 8 f + j)) ∧ (∀ x, c 13 x ≠ 0 → zcn c2 x = zcn c x) ∧ (∀ j, j < 1200 → c2 19 (1200 * 3 + j) = c 19 (1200 * 3 + j)) ∧ zCA h1 c2 := by
  obtain ⟨n1, n2, n3, n4, n5, n6, n7, n8, hI2⟩ := hN
  obtain ⟨a1, a2, a3, a4⟩ := hA
  have e8 : ∀ x, x ≠ R → c2 8 x = c 8 x := fun x hx => n7 8 x (by decide) (fun z => hx z.2) (by omega)
  have e13 : ∀ x, c2 13 x = c 13 x := fun x => n7 13 x (by decide) (by omega) (by omega)
  have e14 : ∀ x, c2 14 x = c 14 x := fun x => n7 14 x (by decide) (by omega) (by omega)
  have hne : ∀ x, x ≠ R → c 8 x ≠ 0 → c 8 x ≠ a := fun x hx h0x z => by
    rcases n3 with y | ⟨y1, y2⟩
    · exact hx (a3 x R h0x (z.trans y.symm))
    · have := (a1 x h0x).2.1
      omega
  have hn13 : ∀ f, c 13 f ≠ 0 → c 13 f ≠ a := fun f hf z => by
    have k1 := zEX_ga n1 (a2 f hf)
    rw [z] at k1
    exact absurd (zga_u k1 n2) (by decide)
  have hn3 : 3 ≠ a := fun z => by
    have k1 := zEX_ga n1 (zga_3 hS)
    rw [z] at k1
    exact absurd (zga_u k1 n2) (by decide)
  refine ⟨fun f hf1 hf2 j hj => ?_, fun x h0x => ?_, fun j hj => n8 3 j hn3 hj, fun f hf => ?_, fun r hr => ?_, fun f k hf e => ?_, fun f k hf e => ?_⟩
  · rw [e8 f hf1]
    exact n8 _ _ (hne f hf1 hf2) hj
  · unfold zcn
    rw [e13 x, e14 x]
    refine zls_congr (fun i h3 h4 => ?_)
    have hl : c 14 x ≤ 255 := by rw [← e14 x]; exact hI2 14 x
    exact n8 _ _ (hn13 x h0x) (by omega)
  · by_cases hfR : f = R
    · rw [hfR, n4]
      exact n2
    · rw [e8 f hfR] at hf ⊢
      exact zEX_ga n1 (a1 f hf)
  · rw [e13] at hr ⊢
    exact zEX_ga n1 (a2 r hr)
  · by_cases hf2 : f = R
    · by_cases hk2 : k = R
      · rw [hf2, hk2]
      · rw [hf2, n4, e8 k hk2] at e
        rw [hf2, n4] at hf
        exact absurd e.symm (hne k hk2 (by rw [← e]; exact hf))
    · by_cases hk2 : k = R
      · rw [hk2, n4, e8 f hf2] at e
        rw [e8 f hf2] at hf
        exact absurd e (hne f hf2 hf)
      · rw [e8 f hf2] at hf e
        rw [e8 k hk2] at e
        exact a3 f k hf e
  · rw [e13] at hf e
    rw [e13] at e
    exact a4 f k hf e
/-! folders above folders -/
theorem zpig : ∀ (B n : Nat) (x : Nat → Nat), (∀ i, i < n → x i < B) → (∀ i j, i < n → j < n → x i = x j → i = j) → n ≤ B
  | 0, n, x, h, _ => by
    rcases Nat.eq_zero_or_pos n with z | z
    · omega
    · exact absurd (h 0 z) (by omega)
  | B + 1, n, x, h, hj => by
    by_cases hb : ∃ i, i < n ∧ x i = B
    · obtain ⟨i, i1, i2⟩ := hb
      have := zpig B (n - 1) (fun j => x (zpx i (n - 1) j)) (fun j hj2 => by
        obtain ⟨p1, p2⟩ := zpx_lt i1 hj2
        have h1 := h _ p1
        have h2 : x (zpx i (n - 1) j) ≠ B := fun z => p2 (hj _ _ p1 i1 (z.trans i2.symm))
        show x (zpx i (n - 1) j) < B
        omega) (fun a b ha hb2 e => zpx_inj ha hb2 (hj _ _ (zpx_lt i1 ha).1 (zpx_lt i1 hb2).1 e))
      omega
    · have := zpig B n x (fun i hi => by
        have h1 := h i hi
        have h2 : x i ≠ B := fun z => hb ⟨i, hi, z⟩
        omega) hj
      omega
theorem zit_add (s : Nat → Nat → Nat) : ∀ a b f, zit s (a + b) f = zit s b (zit s a f)
  | 0, b, f => by rw [Nat.zero_add]; rfl
  | a + 1, b, f => by
    rw [show a + 1 + b = (a + b) + 1 by omega]
    show zit s (a + b) (zmpa s f (s 0 10)) = zit s b (zit s a (zmpa s f (s 0 10)))
    exact zit_add s a b _
theorem zit_1 {s : Nat → Nat → Nat} (h : zmpa s 1 (s 0 10) = 1) : ∀ m, zit s m 1 = 1
  | 0 => rfl
  | m + 1 => by
    show zit s m (zmpa s 1 (s 0 10)) = 1
    rw [h]
    exact zit_1 h m
theorem zit_rng {s : Nat → Nat → Nat} (hI : zMI s) (hN : zSN s) (h1 : s 3 1 = 2) : ∀ m f, 1 ≤ f → f ≤ 40 → 1 ≤ zit s m f ∧ zit s m f ≤ 40
  | 0, f, a, b => ⟨a, b⟩
  | m + 1, f, a, b => zit_rng hI hN h1 m _ (zmpa_ok hN h1 f).1 (zmpa_le hI f _)
theorem zit_39 {s : Nat → Nat → Nat} (hI : zMI s) (hN : zSN s) (h1 : s 3 1 = 2) (hr : zmpa s 1 (s 0 10) = 1) {f : Nat} (hf1 : 1 ≤ f) (hf2 : f ≤ 40) : ∀ m, zit s m f = 1 → zit s 39 f = 1 := by
  intro m
  induction m using Nat.strongRecOn with
  | ind m ih =>
    intro hm
    by_cases hl : ∃ j, j < m ∧ zit s j f = 1
    · obtain ⟨j, j1, j2⟩ := hl
      exact ih j j1 j2
    · have hp := zpig 40 (m + 1) (fun i => zit s i f - 1) (fun i _ => by
        have := zit_rng hI hN h1 i f hf1 hf2
        show zit s i f - 1 < 40
        omega) (fun i j hi hj e => by
          have e1 := zit_rng hI hN h1 i f hf1 hf2
          have e2 := zit_rng hI hN h1 j f hf1 hf2
          have e3 : zit s i f = zit s j f := by
            have : zit s i f - 1 = zit s j f - 1 := e
            omega
          rcases Nat.lt_trichotomy i j with h | h | h
          · exact absurd ⟨i + (m - j), by omega, by rw [zit_add, e3, ← zit_add, show j + (m - j) = m by omega]; exact hm⟩ hl
          · exact h
          · exact absurd ⟨j + (m - i), by omega, by rw [zit_add, ← e3, ← zit_add, show i + (m - i) = m by omega]; exact hm⟩ hl)
      rw [show 39 = m + (39 - m) by omega, zit_add, hm]
      exact zit_1 hr _
theorem zmpa_r {s : Nat → Nat → Nat} (hN : zSN s) : zmpa s 1 (s 0 10) = 1 := by
  rcases zmpa_cs (s := s) 1 (s 0 10) with ⟨e, _⟩ | ⟨k, k1, k2, _⟩
  · exact e
  · exact absurd k2 (hN.1 k k1).2.2.2.2
theorem zcwi_1 {c : Nat → Nat → Nat} {o : Nat} (h : c 7 1 = 1) (ho : o ≠ 1) : ∀ n, zcwi c o n 1 = 0
  | 0 => rfl
  | n + 1 => by
    show (if 1 = 0 then 0 else if 1 = o then 1 else zcwi c o n (c 7 1)) = 0
    rw [if_neg (by decide), if_neg (Ne.symm ho), h, zcwi_1 h ho n]
theorem zcwi_wi {c s : Nat → Nat → Nat} {o : Nat} (hI : zMI s) (hN : zSN s) (h1 : s 3 1 = 2) (hr : zmpa s 1 (s 0 10) = 1) (ho : o ≠ 1) (hG : ∀ x, 1 ≤ x → x ≤ 40 → s 3 x = 2 → c 7 x = zmpa s x (s 0 10)) : ∀ (n e m a : Nat), 1 ≤ a → a ≤ 40 → s 3 a = 2 → zit s n a = 1 → zit s m a = 1 → zcwi c o (n + 1 + e) a = zwi s o m a := by
  have hc1 : c 7 1 = 1 := (hG 1 (by decide) (by decide) h1).trans hr
  have hw1 : ∀ m, zwi s o m 1 = 0 := fun m => by
    cases m with
    | zero => show (if 1 = o then 1 else 0) = 0; rw [if_neg (Ne.symm ho)]
    | succ m => show (if 1 = o then 1 else if 1 = 1 then 0 else _) = 0; rw [if_neg (Ne.symm ho), if_pos rfl]
  intro n
  induction n with
  | zero =>
    intro e m a a1 a2 a3 h0 hm
    have h0 : a = 1 := h0
    rw [h0, zcwi_1 hc1 ho, hw1]
  | succ n ih =>
    intro e m a a1 a2 a3 h0 hm
    by_cases ha1 : a = 1
    · rw [ha1, zcwi_1 hc1 ho, hw1]
    rw [show n + 1 + 1 + e = (n + 1 + e) + 1 by omega]
    show (if a = 0 then 0 else if a = o then 1 else zcwi c o (n + 1 + e) (c 7 a)) = _
    rw [if_neg (by omega)]
    cases m with
    | zero => exact absurd hm ha1
    | succ m =>
      show _ = (if a = o then 1 else if a = 1 then 0 else zwi s o m (zmpa s a (s 0 10)))
      by_cases hao : a = o
      · rw [if_pos hao, if_pos hao]
      · rw [if_neg hao, if_neg hao, if_neg ha1, hG a a1 a2 a3]
        obtain ⟨p1, p2⟩ := zmpa_ok hN h1 a
        exact ih e m _ p1 (zmpa_le hI a _) p2 h0 hm
