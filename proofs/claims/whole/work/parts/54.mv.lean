
/-- equal where it counts -/
theorem zadd_tg (s : Nat → Nat → Nat) (dd n f m : Nat) (g t : Nat → Nat) (A j : Nat) : zwr (zup (zadd s dd n g f) 6 f m) 7 (1000 * f) m t A j = zadd (zstg s f m t) dd n g f A j := by
  by_cases h7 : A = 7
  · subst h7
    show zwr (zup (zadd s dd n g f) 6 f m) 7 (1000 * f) m t 7 j = zwr (zup s 6 f m) 7 (1000 * f) m t 7 j
    by_cases e8 : 1000 * f ≤ j ∧ j < 1000 * f + m
    · rw [zwr_in _ _ e8.1 e8.2, zwr_in _ _ e8.1 e8.2]
    · rw [zwr_out _ _ (by omega), zwr_out _ _ (by omega)]
      rfl
  rw [zwr_na _ _ h7]
  by_cases h6 : A = 6
  · subst h6
    show zup (zadd s dd n g f) 6 f m 6 j = zup s 6 f m 6 j
    rw [zup_at, zup_at]
    rfl
  rw [zup_na _ _ h6]
  have k : ∀ (u v : Nat → Nat → Nat), (∀ B i, B ≠ 6 → B ≠ 7 → u B i = v B i) → ∀ a i w, ∀ B i2, B ≠ 6 → B ≠ 7 → zup u a i w B i2 = zup v a i w B i2 := fun u v h a i w B i2 h1 h2 => zup_cg (h B i2 h1 h2) a i w
  have k0 : ∀ B i, B ≠ 6 → B ≠ 7 → s B i = zstg s f m t B i := fun B i h1 h2 => by
    unfold zstg
    rw [zwr_na _ _ h2, zup_na _ _ h1]
  have k1 : ∀ B i, B ≠ 6 → B ≠ 7 → zad1 s dd n g f B i = zad1 (zstg s f m t) dd n g f B i := by
    unfold zad1
    refine k _ _ (fun B i h1 h2 => ?_) _ _ _
    by_cases e : B = 11 ∧ 255 * s 0 10 ≤ i ∧ i < 255 * s 0 10 + n
    · obtain ⟨rfl, e1, e2⟩ := e
      rw [zwr_in _ _ e1 e2]
      exact (zwr_in _ _ e1 e2).symm
    · rw [zwr_out _ _ e]
      refine Eq.trans ?_ (zwr_out _ _ e).symm
      exact k _ _ (k _ _ (k _ _ k0 _ _ _) _ _ _) _ _ _ B i h1 h2
  exact k _ _ k1 _ _ _ A j h6 h7
theorem zgu_a (c : Nat → Nat → Nat) (g A : Nat) (h : A = 0 ∨ A = 8 ∨ 10 ≤ A) : zgu c g A = c A := by
  unfold zgu
  split
  · exact zbg_a c g 0 A h
  · rfl
/-- between the removals of a rename: the first name is still there -/
theorem zIV_mvd {h0 : zm_H} {c s : Nat → Nat → Nat} (h : zIV h0 c s) {k k2 i i2 S S2 g : Nat} (hk : k < s 0 10) (hi : i < c 0 2) (hiR : c 10 i = S) (hD : c 11 S = s 8 k) (hM : zcn c S = znm s k) (hF : c 12 S = s 9 k) (hk2 : k2 < s 0 10) (hi2 : i2 < c 0 2) (hiR2 : c 10 i2 = S2) (hD2 : c 11 S2 = s 8 k2) (hM2 : zcn c S2 = znm s k2) (hF2 : c 12 S2 = s 9 k2) (hg : s 9 k2 = g) (hne : s 9 k ≠ g) (hemp : s 3 g = 2 → zmni s g (s 0 10) = 0) : S ≠ S2 ∧ k2 ≠ k ∧ zCI (zgu (zdp c i2 S2) g) ∧ zgu (zdp c i2 S2) g 11 S = s 8 k ∧ zgu (zdp c i2 S2) g 12 S = s 9 k ∧ 1 ≤ zgu (zdp c i2 S2) g 5 (s 8 k) ∧ 1 ≤ zgu (zdp c i2 S2) g 3 (s 9 k) ∧ (∃ j, j < zgu (zdp c i2 S2) g 0 2 ∧ zgu (zdp c i2 S2) g 10 j = S ∧ ∀ l, l < j → zgu (zdp c i2 S2) g 10 l ≠ S) ∧ (∀ l, l < 60 → 1 ≤ zgu (zdp c i2 S2) g 10 l) ∧ (∀ a b, a < 60 → b < 60 → zgu (zdp c i2 S2) g 10 a = zgu (zdp c i2 S2) g 10 b → a = b) ∧ zgu (zdp c i2 S2) g 0 2 < 60 := by
  subst hg
  have s1 := h.2.2.2.2.1.1
  have i2' := h.2.1
  have i3 := h.2.2.1
  obtain ⟨_, _, _, _, _, _, _, _, r9, r10⟩ := h.2.2.2.1
  have h60 : c 0 2 ≤ 60 := i2' 0 2
  have hSS : S ≠ S2 := fun z => hne (by rw [← hF, z, hF2])
  have hkk : k2 ≠ k := fun z => hne (by rw [z])
  have hS260 : S2 ≤ 60 := by rw [← hiR2]; exact i2' 10 i2
  have IX := zIX_rm (zIX_of h) hk2 hi2 hiR2 hD2 hM2 hemp
  rw [hF2, zrem_eq] at IX
  obtain ⟨d1, d2⟩ := zdp_rows hi2 h60 hiR2 r9 r10
  obtain ⟨j, j1, j2⟩ := (zdp_US hi2 h60 hiR2 r10 S).mpr ⟨⟨i, hi, hiR⟩, hSS⟩
  have hdg : s 8 k ≠ s 9 k2 := fun z => by
    have hz := (s1.1 k hk).2.1
    rw [z] at hz
    exact zmni_0 (hemp hz) hk z
  obtain ⟨l, l1, l2⟩ := zpx_su hk (fun z => hkk z.symm) hk2
  obtain ⟨z1, z2, z3, z4, z5⟩ := s1.1 k hk
  have e10 : zsgu (zrm1 s k2) (s 9 k2) 0 10 = s 0 10 - 1 := by rw [zsgu_a _ _ (by decide)]; rfl
  have f1 := IX.2.2.2.1.2.2.2.1 (s 8 k) z1 (i3 8 k) (by rw [zsgu_3 _ hdg]; exact fun y => absurd (z2.symm.trans y) (by decide))
  have f2 := IX.2.2.2.1.2.2.2.1 (s 9 k) z3 (i3 9 k) (by rw [zsgu_3 _ hne]; exact z4)
  refine ⟨hSS, hkk, zCI_gu (zCI_dp i2' hS260) _, ?_, ?_, ?_, ?_, ⟨j, ?_, ?_, ?_⟩, ?_, ?_, ?_⟩
  · rw [zgu_a _ _ 11 (by omega), zdp_11, if_neg hSS]
    exact hD
  · rw [zgu_a _ _ 12 (by omega), zdp_12, if_neg hSS]
    exact hF
  · rw [f1.2.2.1, e10]
    exact zmni_1 l1 (by rw [zsgu_a _ _ (by decide), zrm_8, l2])
  · rw [f2.1, e10]
    exact zmno_p l1 (by rw [zsgu_a _ _ (by decide), zrm_9, l2])
  · rw [zgu_0]
    exact j1
  · rw [zgu_10]
    exact j2
  · intro m hm e
    rw [zgu_10] at e
    have hj60 : j < c 0 2 - 1 := j1
    have := d2 m j (by omega) (by omega) (by rw [e, j2])
    omega
  · rw [zgu_10]
    exact d1
  · rw [zgu_10]
    exact d2
  · rw [zgu_0, zdp_2]
    omega
theorem zMv_r0 {t : Nat → Nat → Nat} {f2 k dd : Nat} (h : f2 = 0) : zmat t - (if 0 < f2 ∧ zmno t f2 (t 0 10) = 1 ∧ t 5 f2 = 0 then zmt t f2 else 0) + zmgr t dd (zmni t dd (t 0 10) + 1 - (if t 8 k = dd then 1 else 0) - (if 0 < f2 then 1 else 0)) = zmat t + zmgr t dd (zmni t dd (t 0 10) + 1 - (if t 8 k = dd then 1 else 0)) := by
  rw [if_neg (show ¬ (0 < f2 ∧ zmno t f2 (t 0 10) = 1 ∧ t 5 f2 = 0) from fun z => absurd z.1 (by omega)), if_neg (show ¬ 0 < f2 by omega)]
  rfl
theorem zMv_r1 {t : Nat → Nat → Nat} {f2 k dd : Nat} (h : 0 < f2) (h4 : zmni t dd (t 0 10) ≤ t 4 dd) : zmat t - (if 0 < f2 ∧ zmno t f2 (t 0 10) = 1 ∧ t 5 f2 = 0 then zmt t f2 else 0) + zmgr t dd (zmni t dd (t 0 10) + 1 - (if t 8 k = dd then 1 else 0) - (if 0 < f2 then 1 else 0)) ≤ zmat t := by
  rw [if_pos h, zmgr_0 (by omega)]
  omega
theorem zmni_e {s : Nat → Nat → Nat} (hN : zSN s) {f : Nat} (h : 0 < zmni s f (s 0 10)) : s 3 f = 2 := by
  by_cases hk : s 3 f = 2
  · exact hk
  · rw [zmni_z (fun k hk1 z => hk (by rw [← z]; exact (hN.1 k hk1).2.1))] at h
    omega
theorem zNB_ne {h0 h1 : zm_H} {c c1 s : Nat → Nat → Nat} {g b n x nb : Nat} {t : Nat → Nat} (h : zIV h0 c s) (hN : zNB 8 9 1000 h0 h1 (zbg c g 3) c1 g b n t) (hk : s 3 g = 0) (hg : g ≤ 40) (gk : zgk h0 c x nb) : x ≠ b := by
  intro z
  obtain ⟨n1, n2, n3, _⟩ := hN
  have e8 : zbg c g 3 8 g = c 8 g := by rw [zbg_a c g 3 8 (by omega)]
  rw [e8] at n3
  obtain ⟨g1, g2⟩ := gk
  rcases g2 with y | ⟨y, y1, y2, y3⟩
  · rw [← z, y] at n2
    exact absurd (zga_u n2 (zEX_ga n1 (zga_3 h.1))) (by decide)
  · rcases n3 with w | ⟨w1, w2⟩
    · have hx0 : c 8 y ≠ 0 := by
        rw [y3]
        have := g1.1
        omega
      have := h.2.2.2.2.2.2.2.1 y g hx0 (by rw [y3, w, z])
      rw [this, h.2.2.2.1.2.2.1 g hg, hk] at y2
      exact absurd y2 (by decide)
    · have := g1.2.1
      omega
