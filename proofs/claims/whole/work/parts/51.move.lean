/-! rename on both sides -/
theorem zup_cg {Y Z : Nat → Nat → Nat} {A j : Nat} (h : Y A j = Z A j) (a i v : Nat) : zup Y a i v A j = zup Z a i v A j := by
  unfold zup
  rw [h]
theorem zbg_cg {Y Z : Nat → Nat → Nat} {A j : Nat} (h : Y A j = Z A j) (g k : Nat) : zbg Y g k A j = zbg Z g k A j :=
  zup_cg (zup_cg (zup_cg (zup_cg (zup_cg (zup_cg (zup_cg h _ _ _) _ _ _) _ _ _) _ _ _) _ _ _) _ _ _) _ _ _
theorem zgu_0 (c : Nat → Nat → Nat) (g : Nat) : zgu c g 0 = c 0 := by
  unfold zgu
  split
  · exact zbg_a c g 0 0 (by omega)
  · rfl
theorem zgu_10 (c : Nat → Nat → Nat) (g : Nat) : zgu c g 10 = c 10 := by
  unfold zgu
  split
  · exact zbg_a c g 0 10 (by omega)
  · rfl
theorem zgu_US (c : Nat → Nat → Nat) (g : Nat) : zUS (zgu c g) = zUS c := by
  unfold zUS
  rw [zgu_0, zgu_10]
theorem zsgu_3 (s : Nat → Nat → Nat) {g x : Nat} (h : x ≠ g) : zsgu s g 3 x = s 3 x := by
  unfold zsgu
  split
  · exact zup_nj _ _ h
  · rfl
theorem zsgu_a (s : Nat → Nat → Nat) (g : Nat) {a : Nat} (h : a ≠ 3) : zsgu s g a = s a := by
  unfold zsgu
  split
  · exact funext (fun j => zup_na _ _ h)
  · rfl
theorem zsgu_it (s : Nat → Nat → Nat) (g m d : Nat) : zit (zsgu s g) m d = zit s m d :=
  zit_cg (fun x => by rw [zsgu_a s g (a := 0) (by decide)]; exact zmpa_cg _ (fun k _ => by rw [zsgu_a s g (a := 9) (by decide)]) (fun k _ => by rw [zsgu_a s g (a := 8) (by decide)])) m d
/-- the chain, when a name goes -/
theorem zrm_it {s : Nat → Nat → Nat} (hN : zSN s) (h1 : s 3 1 = 2) {k d : Nat} (hk : k < s 0 10) (hd : s 3 d = 2) (ha : ∀ m, zit s m d ≠ s 9 k) (m : Nat) : zit (zrm1 s k) m d = zit s m d :=
  zit_av (g := s 9 k) (fun x x1 x2 => zrm_pa hN hk x2 x1) (fun x => (zmpa_ok hN h1 x).2) hd ha m
theorem zrm_lk {s : Nat → Nat → Nat} (hI : zMI s) {k dd : Nat} {q : List Nat} (hk : k < s 0 10) (h : ∀ l, l < s 0 10 → l ≠ k → ¬ (s 8 l = dd ∧ znm s l = q)) : zlkn (zrm1 s k) dd q (s 0 10 - 1) = none := by
  refine zlkn_nn (fun l hl => ?_)
  rw [zrm_8, zrm_nm hI]
  exact h _ (zpx_lt hk hl).1 (zpx_lt hk hl).2
theorem zIV_mv0 {h0 h1 : zm_H} {c c2 s : Nat → Nat → Nat} (h : zIV h0 c s) {k i S : Nat} (hk : k < s 0 10) (hi : i < c 0 2) (hiR : c 10 i = S) (hD : c 11 S = s 8 k) (hM : zcn c S = znm s k) {R a dd n f : Nat} {g g2 : Nat → Nat} (hf : s 9 k = f) (hN : zNB 13 14 255 h0 h1 (zup (zdp c i S) 0 2 (zdp c i S 0 2 + 1)) c2 R a n g) (hR : zdp c i S 10 (zdp c i S 0 2) = R) (hd1 : 1 ≤ dd) (hd2 : dd ≤ 40) (hdk : s 3 dd = 2) (hn : n ≤ 255) (hl : zlkn s dd (zls g2 0 (0 + n)) (s 0 10) = none) (hch : s 3 f = 2 → ∀ m, zit s m dd ≠ f) (hg : ∀ i, i < n → g2 i = g i) (hgb : ∀ i, g2 i ≤ 255) (hroom : zmat s + zmgr s dd (zmni s dd (s 0 10) + 1 - (if s 8 k = dd then 1 else 0)) ≤ s 0 0) : zIV h1 (zgv c2 R dd f) (zadd (zrm1 s k) dd n g2 f) := by
  subst hf
  obtain ⟨hF, k1⟩ := zIX_dp (zIX_of h) hk hi hiR hD hM
  have s1 := h.2.2.2.2.1.1
  have s3 := h.2.2.2.2.1.2.2.1
  have i3 := h.2.2.1
  have h60 : c 0 2 ≤ 60 := h.2.1 0 2
  obtain ⟨z1, z2, z3, z4, z5⟩ := s1.1 k hk
  have k2 := zIX_gv k1 (R := R) (dd := dd) (f := s 9 k) (g2 := g2) hN hR (by rw [zdp_2]; omega) hd1 hd2 hdk (by omega) (i3 9 k) z4 hn (zrm_lk i3 hk (fun l hl2 _ => zlkn_none hl hl2)) (fun h2 => ⟨?_, fun m => ?_⟩) hg hgb
  · refine zIV_of (fun x hx => hx.2 (hx.1.resolve_left id)) (fun x hx => hx) k2 ?_
    rw [zmat_ad (s := zrm1 s k) hd1 hd2 hdk, zmat_rm]
    have e1 := zrm_ni s hk dd
    show zmat s + zmgr s dd (zmni (zrm1 s k) dd (s 0 10 - 1) + 1) ≤ s 0 0
    have e2 : zmni (zrm1 s k) dd (s 0 10 - 1) + 1 = zmni s dd (s 0 10) + 1 - (if s 8 k = dd then 1 else 0) := by
      split at e1 <;> split <;> omega
    rw [e2]
    exact hroom
  · have h2 : s 3 (s 9 k) = 2 := h2
    have e1 := zrm_no s hk (s 9 k)
    rw [if_pos rfl, zmno_f s1 hk h2] at e1
    show zmno (zrm1 s k) (s 9 k) (s 0 10 - 1) = 0
    omega
  · rw [zrm_it s1 s3 hk hdk (hch h2)]
    exact hch h2 m
/-- the one name in a folder, where another one has gone -/
theorem zrm_ix {s : Nat → Nat → Nat} (hI : zMI s) (hN : zSN s) {k k2 dd : Nat} {q : List Nat} (hk : k < s 0 10) (hk2 : k2 < s 0 10) (hne : k2 ≠ k) (e1 : s 8 k2 = dd) (e2 : znm s k2 = q) : ∃ l, l < s 0 10 - 1 ∧ zpx k (s 0 10 - 1) l = k2 ∧ zlkn (zrm1 s k) dd q (s 0 10 - 1) = some l := by
  obtain ⟨l, l1, l2⟩ := zpx_su hk2 hne hk
  obtain ⟨j, hj⟩ := zlkn_ex (s := zrm1 s k) (f := dd) (w := q) (s 0 10 - 1) l l1 (by rw [zrm_8, l2]; exact e1) (by rw [zrm_nm hI, l2]; exact e2)
  obtain ⟨j1, j2, j3⟩ := zlkn_lt hj
  rw [zrm_8] at j2
  rw [zrm_nm hI] at j3
  have := hN.2.1 _ _ (zpx_lt hk j1).1 hk2 (j2.trans e1.symm) (j3.trans e2.symm)
  have hjl : j = l := zpx_inj j1 l1 (this.trans l2.symm)
  exact ⟨l, l1, l2, by rw [hj, hjl]⟩
theorem zIX_mv {h0 : zm_H} {c s : Nat → Nat → Nat} (h : zIV h0 c s) {k k2 l2 i i2 j S S2 g : Nat} (hk : k < s 0 10) (hi : i < c 0 2) (hiR : c 10 i = S) (hD : c 11 S = s 8 k) (hM : zcn c S = znm s k) (hk2 : k2 < s 0 10) (hi2 : i2 < c 0 2) (hiR2 : c 10 i2 = S2) (hD2 : c 11 S2 = s 8 k2) (hM2 : zcn c S2 = znm s k2) (hg : s 9 k2 = g) (hne : s 9 k ≠ g) (hl2 : l2 < s 0 10 - 1) (hpx : zpx k (s 0 10 - 1) l2 = k2) (hemp : s 3 g = 2 → zmni s g (s 0 10) = 0) (hj : j < zgu (zdp c i2 S2) g 0 2) (hjR : zgu (zdp c i2 S2) g 10 j = S) : zIX h0 (zdp (zgu (zdp c i2 S2) g) j S) (zsgu (zrm1 (zrm1 s k) l2) g) (fun x => ((zno x ∨ x = s 9 k) ∨ x = g) ∧ x ≠ g) zno := by
  subst hg
  obtain ⟨hF, k1⟩ := zIX_dp (zIX_of h) hk hi hiR hD hM
  obtain ⟨hF2, _⟩ := zIX_dp (zIX_of h) hk2 hi2 hiR2 hD2 hM2
  have s1 := h.2.2.2.2.1.1
  have i2' := h.2.1
  have i3 := h.2.2.1
  obtain ⟨_, _, _, _, _, _, _, _, r9, r10⟩ := h.2.2.2.1
  have h60 : c 0 2 ≤ 60 := i2' 0 2
  have hSS : S ≠ S2 := fun z => hne (by rw [← hF, z, hF2])
  have hS60 : S ≤ 60 := by rw [← hiR]; exact i2' 10 i
  have hS260 : S2 ≤ 60 := by rw [← hiR2]; exact i2' 10 i2
  obtain ⟨b1, b2⟩ := zdp_rows hi h60 hiR r9 r10
  obtain ⟨d1, d2⟩ := zdp_rows hi2 h60 hiR2 r9 r10
  obtain ⟨j2, j21, j22⟩ := (zdp_US hi h60 hiR r10 S2).mpr ⟨⟨i2, hi2, hiR2⟩, fun z => hSS z.symm⟩
  have h9 : zrm1 s k 9 l2 = s 9 k2 := by rw [zrm_9, hpx]
  have k3 := zIX_rm k1 (k := l2) (i := j2) (R := S2) hl2 j21 j22 (by rw [zdp_11, if_neg (fun z => hSS z.symm), zrm_8, hpx]; exact hD2) (by rw [zdp_cn, zrm_nm i3, hpx]; exact hM2) (fun h2 => by
    rw [h9] at h2 ⊢
    have e1 := zrm_ni s hk (s 9 k2)
    have e2 := hemp h2
    show zmni (zrm1 s k) (s 9 k2) (s 0 10 - 1) = 0
    omega)
  rw [zrem_eq, h9, zdp_12, if_neg (fun z => hSS z.symm), hF2] at k3
  have hdg : c 11 S ≠ s 9 k2 := fun z => by
    rw [hD] at z
    have hz := (s1.1 k hk).2.1
    rw [z] at hz
    exact zmni_0 (hemp hz) hk z
  have x11 : zdp c i2 S2 11 S = c 11 S := by rw [zdp_11, if_neg hSS]
  have x12 : zdp c i2 S2 12 S = c 12 S := by rw [zdp_12, if_neg hSS]
  have key : ∀ A x, A ≠ 10 → A ≠ 1 → zdp (zgu (zdp c i2 S2) (s 9 k2)) j S A x = zgu (zdp (zdp c i S) j2 S2) (s 9 k2) A x := by
    intro A x hA hA1
    have t3 : zdp (zdp c i S) j2 S2 3 (s 9 k2) = zdp c i2 S2 3 (s 9 k2) := by
      rw [zdp_dp c (j1 := j) (j2 := i2) hSS 3 _ (by decide) (by decide), zdp_3, x12, hF, if_neg (fun z => hne z.symm)]
    have t4 : zdp (zdp c i S) j2 S2 4 (s 9 k2) = zdp c i2 S2 4 (s 9 k2) := by
      rw [zdp_a _ _ _ 4 (by omega), zdp_a _ _ _ 4 (by omega), zdp_a _ _ _ 4 (by omega)]
    unfold zgu
    rw [t3, t4]
    split
    · rw [zdp_bg (zdp c i2 S2) (by rw [x11]; exact hdg) (by rw [x12, hF]; exact hne) A x hA hA1]
      exact zbg_cg (zdp_dp c hSS A x hA hA1).symm _ _
    · exact (zdp_dp c hSS A x hA hA1).symm
  have n60 : zgu (zdp c i2 S2) (s 9 k2) 0 2 ≤ 60 := by
    rw [zgu_0, zdp_2]
    omega
  have q1 : ∀ a, a < 60 → 1 ≤ zgu (zdp c i2 S2) (s 9 k2) 10 a := by
    rw [zgu_10]
    exact d1
  have q2 : ∀ a b, a < 60 → b < 60 → zgu (zdp c i2 S2) (s 9 k2) 10 a = zgu (zdp c i2 S2) (s 9 k2) 10 b → a = b := by
    rw [zgu_10]
    exact d2
  obtain ⟨w1, w2⟩ := zdp_rows hj n60 hjR q1 q2
  refine zIX_rows k3 (zCI_dp (zCI_gu (zCI_dp i2' hS260) _) hS60) key (fun x => ?_) w1 w2
  rw [zdp_US hj n60 hjR q2, zgu_US, zgu_US, zdp_US hi2 h60 hiR2 r10, zdp_US j21 (by rw [zdp_2]; omega) j22 b2, zdp_US hi h60 hiR r10]
  constructor
  · rintro ⟨⟨y1, y2⟩, y3⟩
    exact ⟨⟨y1, y3⟩, y2⟩
  · rintro ⟨⟨y1, y2⟩, y3⟩
    exact ⟨⟨y1, y3⟩, y2⟩
theorem zIV_mv1 {h0 h1 : zm_H} {c c2 s : Nat → Nat → Nat} (h : zIV h0 c s) {k k2 l2 i i2 j S S2 : Nat} (hk : k < s 0 10) (hi : i < c 0 2) (hiR : c 10 i = S) (hD : c 11 S = s 8 k) (hM : zcn c S = znm s k) (hk2 : k2 < s 0 10) (hi2 : i2 < c 0 2) (hiR2 : c 10 i2 = S2) (hD2 : c 11 S2 = s 8 k2) (hM2 : zcn c S2 = znm s k2) {R a dd n f r : Nat} {g g2 : Nat → Nat} (hf : s 9 k = f) (hr : s 9 k2 = r) (hne : f ≠ r) (hl2 : l2 < s 0 10 - 1) (hpx : zpx k (s 0 10 - 1) l2 = k2) (hemp : s 3 r = 2 → zmni s r (s 0 10) = 0) (hj : j < zgu (zdp c i2 S2) r 0 2) (hjR : zgu (zdp c i2 S2) r 10 j = S) (hN : zNB 13 14 255 h0 h1 (zup (zdp (zgu (zdp c i2 S2) r) j S) 0 2 (zdp (zgu (zdp c i2 S2) r) j S 0 2 + 1)) c2 R a n g) (hR : zdp (zgu (zdp c i2 S2) r) j S 10 (zdp (zgu (zdp c i2 S2) r) j S 0 2) = R) (hd : s 8 k2 = dd) (hq : znm s k2 = zls g2 0 (0 + n)) (hn : n ≤ 255) (hch : s 3 f = 2 → ∀ m, zit s m dd ≠ f) (hg : ∀ i, i < n → g2 i = g i) (hgb : ∀ i, g2 i ≤ 255) : zIV h1 (zgv c2 R dd f) (zadd (zsgu (zrm1 (zrm1 s k) l2) r) dd n g2 f) := by
  have k3 := zIX_mv h hk hi hiR hD hM hk2 hi2 hiR2 hD2 hM2 hr (by rw [hf]; exact hne) hl2 hpx hemp hj hjR
  subst hf hr hd
  have s1 := h.2.2.2.2.1.1
  have s3 := h.2.2.2.2.1.2.2.1
  have s10 := h.2.2.2.2.1.2.2.2.2.2.2.2.2.2
  have i3 := h.2.2.1
  have h60 : c 0 2 ≤ 60 := h.2.1 0 2
  obtain ⟨z1, z2, z3, z4, z5⟩ := s1.1 k hk
  obtain ⟨y1, y2, y3, y4, y5⟩ := s1.1 k2 hk2
  have hdr : s 8 k2 ≠ s 9 k2 := fun z => by
    have hz := y2
    rw [z] at hz
    exact zmni_0 (hemp hz) hk2 z
  have t1 := zrm_SN i3 s1 hk
  have ti := zMI_rm1 i3 k
  have h9 : zrm1 s k 9 l2 = s 9 k2 := by rw [zrm_9, hpx]
  have h8 : zrm1 s k 8 l2 = s 8 k2 := by rw [zrm_8, hpx]
  have d3 : zsgu (zrm1 (zrm1 s k) l2) (s 9 k2) 3 (s 8 k2) = 2 := by
    rw [zsgu_3 _ hdr]
    exact y2
  have e10 : zsgu (zrm1 (zrm1 s k) l2) (s 9 k2) 0 10 = s 0 10 - 1 - 1 := by
    rw [zsgu_a _ _ (by decide)]
    rfl
  have hd40 : s 8 k2 ≤ 40 := i3 8 k2
  have hlk : zlkn (zsgu (zrm1 (zrm1 s k) l2) (s 9 k2)) (s 8 k2) (zls g2 0 (0 + n)) (zsgu (zrm1 (zrm1 s k) l2) (s 9 k2) 0 10) = none := by
    rw [e10]
    refine zlkn_nn (fun l hl => ?_)
    have q := zlkn_none (zrm_lk (s := zrm1 s k) ti (k := l2) (dd := s 8 k2) (q := zls g2 0 (0 + n)) hl2 (fun l3 hl3 hne3 w => hne3 (t1.2.1 l3 l2 hl3 hl2 (w.1.trans h8.symm) (by rw [w.2, zrm_nm i3, hpx, hq])))) hl
    rw [zsgu_a _ _ (by decide)]
    unfold znm
    rw [zsgu_a _ _ (by decide), zsgu_a _ _ (by decide)]
    exact q
  have k4 := zIX_gv k3 (R := R) (dd := s 8 k2) (f := s 9 k) (g2 := g2) hN hR (by rw [zdp_2, zgu_0, zdp_2]; omega) y1 hd40 d3 (by omega) (i3 9 k) (by rw [zsgu_3 _ hne]; exact z4) hn hlk (fun h2 => ?_) hg hgb
  · refine zIV_of (fun x hx => ?_) (fun x hx => hx) k4 ?_
    · obtain ⟨⟨hx1 | hx1, hx2⟩, hx3⟩ := hx
      · exact hx3 (hx1.resolve_left id)
      · exact hx2 hx1
    · rw [zmat_ad y1 hd40 d3]
      have e00 : zadd (zsgu (zrm1 (zrm1 s k) l2) (s 9 k2)) (s 8 k2) n g2 (s 9 k) 0 0 = s 0 0 := by
        show zsgu (zrm1 (zrm1 s k) l2) (s 9 k2) 0 0 = s 0 0
        rw [zsgu_a _ _ (by decide)]
        rfl
      have m1 : zmat (zsgu (zrm1 (zrm1 s k) l2) (s 9 k2)) ≤ zmat s := by
        have := zmat_gu (s := zrm1 (zrm1 s k) l2) (g := s 9 k2) y3 (i3 9 k2)
        rw [zmat_rm, zmat_rm] at this
        exact this
      have m2 := zIV_m h
      have m3 : zmgr (zsgu (zrm1 (zrm1 s k) l2) (s 9 k2)) (s 8 k2) (zmni (zsgu (zrm1 (zrm1 s k) l2) (s 9 k2)) (s 8 k2) (zsgu (zrm1 (zrm1 s k) l2) (s 9 k2) 0 10) + 1) = 0 := by
        have w1 := zrm_ni s hk (s 8 k2)
        have w2 := zrm_ni (zrm1 s k) (k := l2) hl2 (s 8 k2)
        rw [h8, if_pos rfl] at w2
        have w2 : zmni (zrm1 (zrm1 s k) l2) (s 8 k2) (s 0 10 - 1 - 1) + 1 = zmni (zrm1 s k) (s 8 k2) (s 0 10 - 1) := w2
        have w3 := s10 (s 8 k2) hd40
        have w4 : zmni (zsgu (zrm1 (zrm1 s k) l2) (s 9 k2)) (s 8 k2) (s 0 10 - 1 - 1) = zmni (zrm1 (zrm1 s k) l2) (s 8 k2) (s 0 10 - 1 - 1) := by
          unfold zmni
          rw [zsgu_a _ _ (by decide)]
        have w5 : zsgu (zrm1 (zrm1 s k) l2) (s 9 k2) 4 (s 8 k2) = s 4 (s 8 k2) := by
          rw [zsgu_a _ _ (by decide)]
          rfl
        unfold zmgr
        rw [e10, w4, w5]
        exact if_neg (by omega)
      rw [m3, e00]
      omega
  · have h2 : s 3 (s 9 k) = 2 := by
      rw [zsgu_3 _ hne] at h2
      exact h2
    refine ⟨?_, fun m => ?_⟩
    · have w1 := zrm_no s hk (s 9 k)
      rw [if_pos rfl, zmno_f s1 hk h2] at w1
      have w2 := zrm_no (zrm1 s k) (k := l2) hl2 (s 9 k)
      have w2 : zmno (zrm1 (zrm1 s k) l2) (s 9 k) (s 0 10 - 1 - 1) + (if zrm1 s k 9 l2 = s 9 k then 1 else 0) = zmno (zrm1 s k) (s 9 k) (s 0 10 - 1) := w2
      rw [e10]
      have w4 : zmno (zsgu (zrm1 (zrm1 s k) l2) (s 9 k2)) (s 9 k) (s 0 10 - 1 - 1) = zmno (zrm1 (zrm1 s k) l2) (s 9 k) (s 0 10 - 1 - 1) := by
        unfold zmno
        rw [zsgu_a _ _ (by decide)]
      rw [w4]
      omega
    · have av : ∀ m, zit (zrm1 s k) m (s 8 k2) = zit s m (s 8 k2) := fun m => zrm_it s1 s3 hk y2 (hch h2) m
      have av2 : ∀ m, zit (zrm1 s k) m (s 8 k2) ≠ zrm1 s k 9 l2 := fun m => by
        rw [h9, av m]
        by_cases hr2 : s 3 (s 9 k2) = 2
        · exact zit_ne y5 (fun l hl => zmni_0 (hemp hr2) hl) m _ hdr
        · intro z
          have hz : ∀ m d, s 3 d = 2 → s 3 (zit s m d) = 2 := by
            intro m
            induction m with
            | zero => intro d hd; exact hd
            | succ m ih => intro d hd; exact ih _ (zmpa_ok s1 s3 d).2
          have := hz m _ y2
          rw [z] at this
          exact hr2 this
      rw [zsgu_it, zrm_it (s := zrm1 s k) t1 s3 (k := l2) hl2 y2 av2 m, av m]
      exact hch h2 m
