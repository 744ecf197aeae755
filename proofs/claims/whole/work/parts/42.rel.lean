/-! the class and the reference, held against each other -/
/-- the reference's names are the rows Y: in the folder D, of the file F, with the bytes M -/
def zRS (s : Nat → Nat → Nat) (la : Nat → Nat) (Y : Nat → Prop) (D F : Nat → Nat) (M : Nat → List Nat) : Prop :=
  (∀ k, k < s 0 10 → Y (la k) ∧ D (la k) = s 8 k ∧ F (la k) = s 9 k ∧ M (la k) = znm s k) ∧ (∀ R, Y R → ∃ k, k < s 0 10 ∧ la k = R) ∧ (∀ k l, k < s 0 10 → l < s 0 10 → la k = la l → k = l)
def zUS (c : Nat → Nat → Nat) (R : Nat) : Prop := ∃ i, i < c 0 2 ∧ c 10 i = R
/-- counters and fields of one file -/
def zRF (c s : Nat → Nat → Nat) (f : Nat) : Prop := c 3 f = zmno s f (s 0 10) ∧ c 4 f = s 5 f ∧ c 5 f = zmni s f (s 0 10) ∧ c 6 f = s 4 f
def zRT (h0 : zm_H) (c s : Nat → Nat → Nat) (f : Nat) : Prop := zga h0 (c 8 f) 1000 ∧ c 9 f = s 6 f ∧ ∀ i, i < s 6 f → c 19 (1200 * c 8 f + i) = s 7 (1000 * f + i)
def zRP (h0 : zm_H) (c s : Nat → Nat → Nat) : Prop :=
  (s 0 0 = c 0 0 ∧ s 0 1 = c 0 1 ∧ s 0 10 = c 0 2) ∧ (∀ i, i < 1200 → c 19 (1200 * 3 + i) = s 1 i) ∧ (∀ f, f ≤ 40 → c 2 f = s 3 f) ∧ (∀ f, 1 ≤ f → f ≤ 40 → s 3 f ≠ 0 → zRF c s f) ∧ (∀ f, 1 ≤ f → f ≤ 40 → c 7 f = if s 3 f = 2 then zmpa s f (s 0 10) else 0) ∧ (∀ f, f ≤ 40 → s 3 f = 3 → zRT h0 c s f) ∧ (∃ la, zRS s la (zUS c) (c 11) (c 12) (zcn c)) ∧ (∀ R, zUS c R → zga h0 (c 13 R) 255) ∧ (∀ i, i < 60 → 1 ≤ c 10 i) ∧ (∀ i j, i < 60 → j < 60 → c 10 i = c 10 j → i = j)
/-- the class's byte rows -/
def zCA (h0 : zm_H) (c : Nat → Nat → Nat) : Prop := (∀ f, c 8 f ≠ 0 → zga h0 (c 8 f) 1000) ∧ (∀ r, c 13 r ≠ 0 → zga h0 (c 13 r) 255) ∧ (∀ f g, c 8 f ≠ 0 → c 8 f = c 8 g → f = g) ∧ (∀ f g, c 13 f ≠ 0 → c 13 f = c 13 g → f = g)
/-- what the reference's names keep to -/
def zSN (s : Nat → Nat → Nat) : Prop :=
  (∀ k, k < s 0 10 → 1 ≤ s 8 k ∧ s 3 (s 8 k) = 2 ∧ 1 ≤ s 9 k ∧ s 3 (s 9 k) ≠ 0 ∧ s 9 k ≠ 1) ∧ (∀ k l, k < s 0 10 → l < s 0 10 → s 8 k = s 8 l → znm s k = znm s l → k = l) ∧ (∀ k l, k < s 0 10 → l < s 0 10 → s 9 k = s 9 l → s 3 (s 9 k) = 2 → k = l)
def zSV (s : Nat → Nat → Nat) : Prop :=
  zSN s ∧ s 3 0 = 0 ∧ s 3 1 = 2 ∧ (∀ f, 2 ≤ f → f ≤ 40 → s 3 f ≠ 0 → 1 ≤ zmno s f (s 0 10) ∨ 1 ≤ s 5 f) ∧ (∀ f, s 3 f ≠ 1 → s 5 f = 0) ∧ (∀ f, s 5 f ≤ 100) ∧ (∀ f, f ≤ 40 → s 3 f = 2 → ∃ m, zit s m f = 1) ∧ (∀ f, f ≤ 40 → s 3 f = 3 → 1 ≤ s 6 f) ∧ zmat s ≤ s 0 0 ∧ (∀ f, f ≤ 40 → zmni s f (s 0 10) ≤ s 4 f)
def zIV (h0 : zm_H) (c s : Nat → Nat → Nat) : Prop := zCS h0 ∧ zCI c ∧ zMI s ∧ zRP h0 c s ∧ zSV s ∧ zCA h0 c
/-! walks agree -/
theorem zwk_cg {K G K2 G2 : Nat → Nat} {L L2 : Nat → List Nat → Option Nat} {T T2 : Nat → List Nat} {fo : Bool} (P : Nat → Prop) (h1 : P 1) (hK0 : K 0 ≠ 2) (hK : ∀ x, P x → K2 x = K x) (hK20 : K2 0 ≠ 2) (hG : ∀ x, P x → K x = 2 → G2 x = G x ∧ P (G x)) (hL : ∀ x w, P x → L2 x w = L x w) (hP : ∀ x w g, L x w = some g → P g) (hT : ∀ g, P g → K g = 3 → T2 g = T g) : ∀ (n cur lk : Nat) (ps : List (List Nat)) (f : Nat) (q : List Nat) (u : Nat), (cur = 0 ∨ P cur) → zwk K2 G2 L2 T2 fo n cur lk ps f q u = zwk K G L T fo n cur lk ps f q u
  | 0, _, _, _, _, _, _, _ => rfl
  | n + 1, _, _, [], _, _, _, _ => rfl
  | n + 1, cur, lk, w :: ps, f, q, u, hc => by
    by_cases g1 : 255 < w.length
    · rw [zwk_long g1, zwk_long g1]
    by_cases g2 : K cur = 2
    case neg =>
      have g3 : K2 cur ≠ 2 := by
        rcases hc with rfl | hc
        · exact hK20
        · rw [hK _ hc]; exact g2
      rw [zwk_nf g1 g2, zwk_nf g1 g3]
    have hp : P cur := hc.elim (fun z => absurd (z ▸ g2) hK0) id
    have g3 : K2 cur = 2 := by rw [hK _ hp]; exact g2
    obtain ⟨e1, e2⟩ := hG cur hp g2
    by_cases h3 : w = [46, 46]
    · rw [zwk_up g1 g2 h3, zwk_up g1 g3 h3, e1]
      exact zwk_cg P h1 hK0 hK hK20 hG hL hP hT n _ _ _ _ _ _ (Or.inr e2)
    cases h4 : L cur w with
    | none => rw [zwk_no g1 g2 h3 h4, zwk_no g1 g3 h3 ((hL cur w hp).trans h4)]
    | some g =>
      have h42 : L2 cur w = some g := (hL cur w hp).trans h4
      have pg := hP _ _ _ h4
      by_cases h5 : K g = 3 ∧ (ps ≠ [] ∨ fo = true)
      · have h52 : K2 g = 3 ∧ (ps ≠ [] ∨ fo = true) := ⟨by rw [hK _ pg]; exact h5.1, h5.2⟩
        by_cases h6 : lk = 40
        · rw [zwk_loop g1 g2 h3 h4 h5 h6, zwk_loop g1 g3 h3 h42 h52 h6]
        · rw [zwk_link g1 g2 h3 h4 h5 h6, zwk_link g1 g3 h3 h42 h52 h6, hT g pg h5.1]
          refine zwk_cg P h1 hK0 hK hK20 hG hL hP hT n _ _ _ _ _ _ ?_
          split
          · exact Or.inr h1
          · exact Or.inr hp
      · have h52 : ¬ (K2 g = 3 ∧ (ps ≠ [] ∨ fo = true)) := by rw [hK _ pg]; exact h5
        rw [zwk_go g1 g2 h3 h4 h5, zwk_go g1 g3 h3 h42 h52]
        exact zwk_cg P h1 hK0 hK hK20 hG hL hP hT n _ _ _ _ _ _ (Or.inr pg)
theorem zck1_none {c : Nat → Nat → Nat} {dd : Nat} {q : List Nat} : ∀ n i, zck1 c dd q n i = none → ∀ j, i ≤ j → j < i + n → ¬ (c 11 (c 10 j) = dd ∧ zcn c (c 10 j) = q)
  | 0, _, _, j, h1, h2 => absurd h2 (by omega)
  | n + 1, i, h, j, h1, h2 => by
    unfold zck1 at h
    split at h
    · cases h
    · next hc =>
      by_cases hj : j = i
      · rw [hj]; exact hc
      · exact zck1_none n (i + 1) h j (by omega) (by omega)
theorem zlkn_none {s : Nat → Nat → Nat} {f : Nat} {w : List Nat} {m k : Nat} (h : zlkn s f w m = none) (hk : k < m) : ¬ (s 8 k = f ∧ znm s k = w) := by
  intro z
  obtain ⟨j, hj⟩ := zlkn_ex m k hk z.1 z.2
  rw [h] at hj
  cases hj
/-- the row of a name, on both sides -/
theorem zlk_tie {c s : Nat → Nat → Nat} {la : Nat → Nat} (h : zRS s la (zUS c) (c 11) (c 12) (zcn c)) (hu : ∀ k l, k < s 0 10 → l < s 0 10 → s 8 k = s 8 l → znm s k = znm s l → k = l) (dd : Nat) (q : List Nat) : zclk c dd q = (zlkn s dd q (s 0 10)).map la := by
  obtain ⟨h1, h2, h3⟩ := h
  cases hk : zlkn s dd q (s 0 10) with
  | none =>
    cases hc : zclk c dd q with
    | none => rfl
    | some r =>
      obtain ⟨i, i1, i2, i3, i4⟩ := zclk_some hc
      obtain ⟨k, k1, k2⟩ := h2 r ⟨i, i1, i2.symm⟩
      obtain ⟨y1, y2, y3, y4⟩ := h1 k k1
      rw [k2] at y2 y4
      exact absurd ⟨y2.symm.trans i3, y4.symm.trans i4⟩ (zlkn_none hk k1)
  | some k =>
    obtain ⟨k1, k2, k3⟩ := zlkn_lt hk
    obtain ⟨y1, y2, y3, y4⟩ := h1 k k1
    cases hc : zclk c dd q with
    | none =>
      obtain ⟨i, i1, i2⟩ := y1
      exact absurd ⟨by rw [i2, y2, k2], by rw [i2, y4, k3]⟩ (zck1_none _ _ hc i (Nat.zero_le _) (by omega))
    | some r =>
      obtain ⟨i, i1, i2, i3, i4⟩ := zclk_some hc
      obtain ⟨l, l1, l2⟩ := h2 r ⟨i, i1, i2.symm⟩
      obtain ⟨z1, z2, z3, z4⟩ := h1 l l1
      rw [l2] at z2 z4
      have : l = k := hu l k l1 k1 (by rw [← z2, i3, k2]) (by rw [← z4, i4, k3])
      rw [← l2, this]
      rfl
theorem zmpa_cs {s : Nat → Nat → Nat} (f : Nat) : ∀ n, (zmpa s f n = 1 ∧ ∀ k, k < n → s 9 k ≠ f) ∨ ∃ k, k < n ∧ s 9 k = f ∧ zmpa s f n = s 8 k
  | 0 => Or.inl ⟨rfl, fun k hk => absurd hk (by omega)⟩
  | n + 1 => by
    unfold zmpa
    by_cases h : s 9 n = f
    · rw [if_pos h]
      exact Or.inr ⟨n, by omega, h, rfl⟩
    · rw [if_neg h]
      rcases zmpa_cs f n with ⟨h1, h2⟩ | ⟨k, h1, h2, h3⟩
      · refine Or.inl ⟨h1, fun k hk => ?_⟩
        by_cases hkn : k = n
        · rw [hkn]; exact h
        · exact h2 k (by omega)
      · exact Or.inr ⟨k, by omega, h2, h3⟩
/-- the folder above is a folder -/
theorem zmpa_ok {s : Nat → Nat → Nat} (hN : zSN s) (h1 : s 3 1 = 2) (f : Nat) : 1 ≤ zmpa s f (s 0 10) ∧ s 3 (zmpa s f (s 0 10)) = 2 := by
  rcases zmpa_cs (s := s) f (s 0 10) with ⟨e, _⟩ | ⟨k, k1, _, e⟩
  · rw [e]
    exact ⟨by decide, h1⟩
  · rw [e]
    exact ⟨(hN.1 k k1).1, (hN.1 k k1).2.1⟩
theorem zls_0 {f g : Nat → Nat} {a n : Nat} (h : ∀ i, i < n → f i = g (a + i)) : zls f 0 (0 + n) = zls g a (a + n) := zls_shift (fun i hi => by rw [Nat.zero_add]; exact h i hi)
theorem zcg_wt {h0 : zm_H} {c s : Nat → Nat → Nat} (hR : zRP h0 c s) (hV : zSV s) (hI : zMI s) {f k fo : Nat} (hk : f + k ≤ 1200) : zcg c 3 f (f + k) fo = zwt s f k fo := by
  obtain ⟨⟨_, _, e10⟩, rT, rK, rF, rG, rL, ⟨la, rS⟩, _⟩ := hR
  obtain ⟨hN, v0, v1, _, _, _, _, _, _⟩ := hV
  have hz : zls (fun j => c 19 (1200 * 3 + j)) f (f + k) = zls (s 1) f (f + k) := zls_congr (fun i h1 h2 => rT i (by omega))
  unfold zcg zwt zcw zwm
  rw [hz]
  refine zwk_cg (fun x => 1 ≤ x ∧ x ≤ 40) ⟨by decide, by decide⟩ (by rw [v0]; decide) (fun x hx => rK x hx.2) (by rw [rK 0 (by decide), v0]; decide) (fun x hx hx2 => ⟨?_, ?_⟩) (fun x w hx => ?_) (fun x w g hg => ?_) (fun g hg hg3 => ?_) _ _ _ _ _ _ _ (Or.inr ⟨by decide, by decide⟩)
  · rw [rG x hx.1 hx.2, if_pos hx2]
  · exact ⟨(zmpa_ok hN v1 x).1, zmpa_le hI x _⟩
  · rw [zlk_tie rS hN.2.1, Option.map_map]
    cases hk : zlkn s x w (s 0 10) with
    | none => rfl
    | some j =>
      show some (c 12 (la j)) = some (s 9 j)
      rw [(rS.1 j (zlkn_lt hk).1).2.2.1]
  · obtain ⟨j, j1, j2⟩ := Option.map_eq_some_iff.mp hg
    rw [← j2]
    exact ⟨(hN.1 j (zlkn_lt j1).1).2.2.1, hI 9 j⟩
  · obtain ⟨_, y2, y3⟩ := rL g hg.2 hg3
    unfold zctg ztg
    rw [y2]
    exact zls_0 y3
theorem zWK_of {h0 : zm_H} {c s : Nat → Nat → Nat} (hI : zCI c) (hR : zRP h0 c s) (hV : zSV s) : zWK h0 c := by
  obtain ⟨⟨_, _, e10⟩, rT, rK, rF, rG, rL, ⟨la, rS⟩, rB, r1, _⟩ := hR
  obtain ⟨hN, v0, v1, _, _, _, _, v8, _⟩ := hV
  refine ⟨fun i hi => ⟨?_, rB _ ⟨i, hi, rfl⟩⟩, fun i hi => ?_, fun g hg hg3 => ?_, by rw [rK 0 (by decide), v0]⟩
  · have : c 0 2 ≤ 60 := hI 0 2
    exact r1 i (by omega)
  · obtain ⟨k, k1, k2⟩ := rS.2.1 _ ⟨i, hi, rfl⟩
    obtain ⟨_, _, y3, _⟩ := rS.1 k k1
    rw [k2] at y3
    rw [y3]
    exact (hN.1 k k1).2.2.1
  · rw [rK g hg] at hg3
    obtain ⟨y1, y2, _⟩ := rL g hg hg3
    rw [y2]
    exact ⟨y1, v8 g hg hg3⟩
