/-! the calls on both sides -/
theorem zIV_m {h0 : zm_H} {c s : Nat → Nat → Nat} (h : zIV h0 c s) : zmat s ≤ s 0 0 := h.2.2.2.2.1.2.2.2.2.2.2.2.2.1
theorem zIV_hd {h0 : zm_H} {c s : Nat → Nat → Nat} (h : zIV h0 c s) {f v : Nat} (hk : s 3 f = 1) (hv : v ≤ 100) (ho : 1 ≤ zmno s f (s 0 10) ∨ 1 ≤ v) : zIV h0 (zup c 4 f v) (zup s 5 f v) := by
  obtain ⟨i1, i2, i3, ⟨r1, r2, r3, r4, r5, r6, ⟨la, r7⟩, r8, r9, r10⟩, ⟨s1, v2, v3, v4, v5, v6, v7, v8, v9, v10⟩, i6⟩ := h
  have e5 : ∀ x, zup s 5 f v 5 x = if x = f then v else s 5 x := fun x => zup_at s 5 f v x
  have hpa : ∀ x, zmpa (zup s 5 f v) x (s 0 10) = zmpa s x (s 0 10) := fun x => zmpa_cg (s := s) _ (fun _ _ => rfl) (fun _ _ => rfl)
  refine ⟨i1, zCI_up i2 (show v ≤ 100 from hv), zMI_up i3 (show v ≤ 101 by omega), ⟨r1, r2, r3, fun x x1 x2 x3 => ⟨(r4 x x1 x2 x3).1, ?_, (r4 x x1 x2 x3).2.2.1, (r4 x x1 x2 x3).2.2.2⟩, fun x x1 x2 => ?_, r6, ⟨la, r7⟩, r8, r9, r10⟩, ⟨s1, v2, v3, fun x x1 x2 x3 => ?_, fun x x1 => ?_, fun x => ?_, fun x x1 x2 => ?_, v8, v9, v10⟩, i6⟩
  · rw [e5, zup_at]
    split
    · rfl
    · exact (r4 x x1 x2 x3).2.1
  · show c 7 x = if s 3 x = 2 then zmpa (zup s 5 f v) x (s 0 10) else 0
    rw [hpa]
    exact r5 x x1 x2
  · rw [e5]
    by_cases hx : x = f
    · rw [if_pos hx, hx]
      exact ho
    · rw [if_neg hx]
      exact v4 x x1 x2 x3
  · rw [e5]
    have x1 : s 3 x ≠ 1 := x1
    rw [if_neg (fun (z : x = f) => x1 (by rw [z]; exact hk))]
    exact v5 x x1
  · rw [e5]
    split
    · exact hv
    · exact v6 x
  · obtain ⟨m, hm⟩ := v7 x x1 x2
    exact ⟨m, (zit_cg (s := s) hpa m x).trans hm⟩
theorem zIX_hd {h0 : zm_H} {c s : Nat → Nat → Nat} (h : zIV h0 c s) {f v : Nat} (hk : s 3 f = 1) (hv : v ≤ 100) : zIX h0 (zup c 4 f v) (zup s 5 f v) (fun x => x = f) zno := by
  obtain ⟨i1, i2, i3, ⟨r1, r2, r3, r4, r5, r6, ⟨la, r7⟩, r8, r9, r10⟩, ⟨s1, v2, v3, v4, v5, v6, v7, v8, v10⟩, i6⟩ := zIX_of h
  have e5 : ∀ x, zup s 5 f v 5 x = if x = f then v else s 5 x := fun x => zup_at s 5 f v x
  have hpa : ∀ x, zmpa (zup s 5 f v) x (s 0 10) = zmpa s x (s 0 10) := fun x => zmpa_cg (s := s) _ (fun _ _ => rfl) (fun _ _ => rfl)
  refine ⟨i1, zCI_up i2 (show v ≤ 100 from hv), zMI_up i3 (show v ≤ 101 by omega), ⟨r1, r2, r3, fun x x1 x2 x3 => ⟨(r4 x x1 x2 x3).1, ?_, (r4 x x1 x2 x3).2.2.1, (r4 x x1 x2 x3).2.2.2⟩, fun x x1 x2 => ⟨fun x3 _ => ?_, (r5 x x1 x2).2⟩, r6, ⟨la, r7⟩, r8, r9, r10⟩, ⟨s1, v2, v3, fun x x1 x2 x3 x4 => ?_, fun x x1 => ?_, fun x => ?_, fun x x1 x2 => ?_, v8, v10⟩, i6⟩
  · rw [e5, zup_at]
    split
    · rfl
    · exact (r4 x x1 x2 x3).2.1
  · show c 7 x = zmpa (zup s 5 f v) x (s 0 10)
    rw [hpa]
    exact (r5 x x1 x2).1 x3 id
  · rw [e5, if_neg x4]
    exact v4 x x1 x2 x3 id
  · rw [e5]
    have x1 : s 3 x ≠ 1 := x1
    rw [if_neg (fun (z : x = f) => x1 (by rw [z]; exact hk))]
    exact v5 x x1
  · rw [e5]
    split
    · exact hv
    · exact v6 x
  · obtain ⟨m, hm⟩ := v7 x x1 x2
    exact ⟨m, (zit_cg (s := s) hpa m x).trans hm⟩
/-- released -/
theorem zIV_rl {h0 : zm_H} {c s : Nat → Nat → Nat} (h : zIV h0 c s) {f : Nat} (hf1 : 1 ≤ f) (hf2 : f ≤ 40) (hh : 0 < s 5 f) : zIV h0 (zgu (zup c 4 f (s 5 f - 1)) f) (if zmno s f (s 0 10) = 0 ∧ s 5 f - 1 = 0 then zup (zup s 5 f (s 5 f - 1)) 3 f 0 else zup s 5 f (s 5 f - 1)) := by
  obtain ⟨_, _, _, _, ⟨s1, v2, v3, v4, v5, v6, v7, v8, v9, v10⟩, _⟩ := id h
  have hk : s 3 f = 1 := by
    by_cases hk : s 3 f = 1
    · exact hk
    · have := v5 f hk
      omega
  have hf : 2 ≤ f := by
    by_cases hx : f = 1
    · rw [hx] at hk
      omega
    · omega
  have h5 := v6 f
  have k1 := zIX_gu (zIX_hd h hk (v := s 5 f - 1) (by omega)) (g := f) hf hf2 (show s 3 f ≠ 0 by omega) (fun z => absurd (show s 3 f = 2 from z) (by omega))
  have e : zsgu (zup s 5 f (s 5 f - 1)) f = if zmno s f (s 0 10) = 0 ∧ s 5 f - 1 = 0 then zup (zup s 5 f (s 5 f - 1)) 3 f 0 else zup s 5 f (s 5 f - 1) := by
    show (if zmno s f (s 0 10) = 0 ∧ zup s 5 f (s 5 f - 1) 5 f = 0 then _ else _) = _
    rw [zup_same]
  have hm : zmat (zsgu (zup s 5 f (s 5 f - 1)) f) ≤ s 0 0 := by
    have m1 := zmat_gu (s := zup s 5 f (s 5 f - 1)) hf1 hf2
    have m2 : zmat (zup s 5 f (s 5 f - 1)) = zmat s := zmat_cg (fun _ => rfl)
    omega
  have h00 : zsgu (zup s 5 f (s 5 f - 1)) f 0 0 = s 0 0 := by
    unfold zsgu
    split <;> rfl
  have := zIV_of (fun x hx => hx.2 hx.1) (fun x hx => hx) k1 (by rw [h00]; exact hm)
  rw [e] at this
  exact this
/-! rows and names -/
theorem zlkn_nn {s : Nat → Nat → Nat} {f : Nat} {w : List Nat} {n : Nat} (h : ∀ k, k < n → ¬ (s 8 k = f ∧ znm s k = w)) : zlkn s f w n = none := by
  cases hk : zlkn s f w n with
  | none => rfl
  | some k =>
    obtain ⟨k1, k2, k3⟩ := zlkn_lt hk
    exact absurd ⟨k2, k3⟩ (h k k1)
theorem zrow_some {h0 : zm_H} {c s : Nat → Nat → Nat} {P T : Nat → Prop} (h : zIX h0 c s P T) {dd k : Nat} {q : List Nat} (hk : zlkn s dd q (s 0 10) = some k) : ∃ R i, zclk c dd q = some R ∧ i < c 0 2 ∧ c 10 i = R ∧ 1 ≤ R ∧ R ≤ 60 ∧ c 11 R = s 8 k ∧ zcn c R = znm s k ∧ c 12 R = s 9 k ∧ k < s 0 10 ∧ s 8 k = dd ∧ znm s k = q ∧ (∀ j, j < i → c 10 j ≠ R) := by
  obtain ⟨i1, i2, i3, ⟨r1, r2, r3, r4, r5, r6, ⟨la, r7⟩, r8, r9, r10⟩, ⟨s1, _⟩, i6⟩ := h
  have ht := zlk_tie r7 s1.2.1 dd q
  rw [hk] at ht
  obtain ⟨k1, k2, k3⟩ := zlkn_lt hk
  obtain ⟨⟨i, j1, j2⟩, y2, y3, y4⟩ := r7.1 k k1
  have h60 : c 0 2 ≤ 60 := i2 0 2
  exact ⟨la k, i, ht, j1, j2, by rw [← j2]; exact r9 i (by omega), by rw [← j2]; exact i2 10 i, y2, y4, y3, k1, k2, k3, fun j hj e => by
    have := r10 j i (by omega) (by omega) (by rw [e, j2])
    omega⟩
theorem zrow_none {h0 : zm_H} {c s : Nat → Nat → Nat} {P T : Nat → Prop} (h : zIX h0 c s P T) {dd : Nat} {q : List Nat} (hk : zlkn s dd q (s 0 10) = none) : zclk c dd q = none := by
  obtain ⟨i1, i2, i3, ⟨r1, r2, r3, r4, r5, r6, ⟨la, r7⟩, r8, r9, r10⟩, ⟨s1, _⟩, i6⟩ := h
  have ht := zlk_tie r7 s1.2.1 dd q
  rw [hk] at ht
  exact ht
/-- a name is taken away -/
theorem zIX_rm {h0 : zm_H} {c s : Nat → Nat → Nat} {P T : Nat → Prop} (h : zIX h0 c s P T) {k i R : Nat} (hk : k < s 0 10) (hi : i < c 0 2) (hiR : c 10 i = R) (hD : c 11 R = s 8 k) (hM : zcn c R = znm s k) (hne : s 3 (s 9 k) = 2 → zmni s (s 9 k) (s 0 10) = 0) : zIX h0 (zgu (zdp c i R) (c 12 R)) (zrem s k) (fun x => (P x ∨ x = s 9 k) ∧ x ≠ s 9 k) T := by
  obtain ⟨hF, k1⟩ := zIX_dp h hk hi hiR hD hM
  have s1 := h.2.2.2.2.1.1
  have i3 := h.2.2.1
  obtain ⟨z1, z2, z3, z4, z5⟩ := s1.1 k hk
  rw [hF, zrem_eq]
  refine zIX_gu k1 (by omega) (i3 9 k) z4 (fun h2 => ⟨?_, ?_⟩)
  · have h2 : s 3 (s 9 k) = 2 := h2
    have e1 := zrm_no s hk (s 9 k)
    rw [if_pos rfl, zmno_f s1 hk h2] at e1
    show zmno (zrm1 s k) (s 9 k) (s 0 10 - 1) = 0
    omega
  · have h2 : s 3 (s 9 k) = 2 := h2
    have e1 := zrm_ni s hk (s 9 k)
    have e2 := hne h2
    show zmni (zrm1 s k) (s 9 k) (s 0 10 - 1) = 0
    omega
theorem zmat_re {s : Nat → Nat → Nat} (hI : zMI s) (s1 : zSN s) {k : Nat} (hk : k < s 0 10) : zmat (zrem s k) ≤ zmat s := by
  rw [zrem_eq]
  have e := zmat_gu (s := zrm1 s k) (g := s 9 k) (s1.1 k hk).2.2.1 (hI 9 k)
  rw [zmat_rm] at e
  exact e
theorem zrem_00 (s : Nat → Nat → Nat) (k : Nat) : zrem s k 0 0 = s 0 0 := by
  unfold zrem
  split <;> rfl
theorem zIV_rm {h0 : zm_H} {c s : Nat → Nat → Nat} (h : zIV h0 c s) {k i R : Nat} (hk : k < s 0 10) (hi : i < c 0 2) (hiR : c 10 i = R) (hD : c 11 R = s 8 k) (hM : zcn c R = znm s k) (hne : s 3 (s 9 k) = 2 → zmni s (s 9 k) (s 0 10) = 0) : zIV h0 (zgu (zdp c i R) (c 12 R)) (zrem s k) := by
  refine zIV_of (fun x hx => hx.2 (hx.1.resolve_left id)) (fun x hx => hx) (zIX_rm (zIX_of h) hk hi hiR hD hM hne) ?_
  rw [zrem_00]
  exact Nat.le_trans (zmat_re h.2.2.1 h.2.2.2.2.1.1 hk) (zIV_m h)
/-- a new name of a file -/
theorem zIV_ln {h0 h1 : zm_H} {c c2 s : Nat → Nat → Nat} (h : zIV h0 c s) {R a dd n f : Nat} {g g2 : Nat → Nat} (hN : zNB 13 14 255 h0 h1 (zup c 0 2 (c 0 2 + 1)) c2 R a n g) (hR : c 10 (c 0 2) = R) (hu : c 0 2 < 60) (hd1 : 1 ≤ dd) (hd2 : dd ≤ 40) (hdk : s 3 dd = 2) (hf1 : 1 ≤ f) (hf2 : f ≤ 40) (hfk : s 3 f ≠ 0) (hfk2 : s 3 f ≠ 2) (hn : n ≤ 255) (hl : zlkn s dd (zls g2 0 (0 + n)) (s 0 10) = none) (hg : ∀ i, i < n → g2 i = g i) (hgb : ∀ i, g2 i ≤ 255) (hroom : zmat s + zmgr s dd (zmni s dd (s 0 10) + 1) ≤ s 0 0) : zIV h1 (zgv c2 R dd f) (zadd s dd n g2 f) := by
  have hf : 2 ≤ f := by
    by_cases hx : f = 1
    · rw [hx] at hfk2
      exact absurd h.2.2.2.2.1.2.2.1 hfk2
    · omega
  refine zIV_of (fun x hx => hx.1) (fun x hx => hx) (zIX_gv (zIX_of h) hN hR hu hd1 hd2 hdk hf hf2 hfk hn hl (fun z => absurd z hfk2) hg hgb) ?_
  rw [zmat_ad hd1 hd2 hdk]
  exact hroom
theorem zit_ne {s : Nat → Nat → Nat} {g : Nat} (h1 : g ≠ 1) (h : ∀ k, k < s 0 10 → s 8 k ≠ g) : ∀ m d, d ≠ g → zit s m d ≠ g
  | 0, d, hd => hd
  | m + 1, d, hd => by
    show zit s m (zmpa s d (s 0 10)) ≠ g
    refine zit_ne h1 h m _ ?_
    rcases zmpa_cs (s := s) d (s 0 10) with ⟨e, _⟩ | ⟨k, k1, _, e⟩
    · rw [e]
      exact fun z => h1 z.symm
    · rw [e]
      exact h k k1
/-- a new file -/
theorem zIV_nw {h0 h1 : zm_H} {c c2 s : Nat → Nat → Nat} (h : zIV h0 c s) {R a dd n f kd : Nat} {g g2 : Nat → Nat} (hN : zNB 13 14 255 h0 h1 (zup (zbg c f kd) 0 2 (c 0 2 + 1)) c2 R a n g) (hR : c 10 (c 0 2) = R) (hu : c 0 2 < 60) (hd1 : 1 ≤ dd) (hd2 : dd ≤ 40) (hdk : s 3 dd = 2) (hf1 : 2 ≤ f) (hf2 : f ≤ 40) (hfk : s 3 f = 0) (hkd : kd = 1 ∨ kd = 2) (hn : n ≤ 255) (hl : zlkn s dd (zls g2 0 (0 + n)) (s 0 10) = none) (hg : ∀ i, i < n → g2 i = g i) (hgb : ∀ i, g2 i ≤ 255) (hroom : zmat s + 1 + zmgr s dd (zmni s dd (s 0 10) + 1) ≤ s 0 0) : zIV h1 (zgv c2 R dd f) (zadd (zsbg s f kd) dd n g2 f) := by
  obtain ⟨k1, kn⟩ := zIX_bg (zIX_of h) hf1 hf2 hfk (kd := kd) (by omega)
  have hdf : dd ≠ f := fun z => by
    rw [z, hfk] at hdk
    omega
  have e3 : ∀ x, zsbg s f kd 3 x = if x = f then kd else s 3 x := fun x => zup_at s 3 f kd x
  have hT : zIX h0 (zbg c f kd) (zsbg s f kd) (fun x => zno x ∨ x = f) zno := by
    obtain ⟨i1, i2, i3, ⟨r1, r2, r3, r4, r5, r6, r7⟩, ⟨s1, v2, v3, v4, v5, v6, v7, v8, v10⟩, i6⟩ := k1
    have hne : ∀ x, zsbg s f kd 3 x = 3 → ¬ (zno x ∨ x = f) := fun x hx z => by
      rcases z with z | z
      · exact z
      · rw [e3, if_pos z] at hx
        omega
    exact ⟨i1, i2, i3, ⟨r1, r2, r3, r4, r5, fun x x1 x2 _ => r6 x x1 x2 (hne x x2), r7⟩, ⟨s1, v2, v3, v4, v5, v6, v7, fun x x1 x2 _ => v8 x x1 x2 (hne x x2), v10⟩, i6⟩
  have hlk : zlkn (zsbg s f kd) dd (zls g2 0 (0 + n)) (s 0 10) = none := zlkn_nn (fun k hk z => zlkn_none (s := s) hl hk z)
  have hk4 := zIX_gv hT (R := R) (dd := dd) (f := f) (g2 := g2) hN hR hu hd1 hd2 (by rw [e3, if_neg hdf]; exact hdk) hf1 hf2 (by rw [e3, if_pos rfl]; omega) hn hlk (fun _ => ⟨zmno_z (s := s) (fun k hk => (kn k hk).2), fun m => zit_ne (s := zsbg s f kd) (by omega) (fun k hk => (kn k hk).1) m dd hdf⟩) hg hgb
  refine zIV_of (fun x hx => hx.2 (hx.1.resolve_left id)) (fun x hx => hx) hk4 ?_
  rw [zmat_ad hd1 hd2 (by rw [e3, if_neg hdf]; exact hdk), zmat_bg (by omega) hf2 hfk hkd]
  have e4 : zsbg s f kd 4 dd = s 4 dd := (zup_at s 4 f 0 dd).trans (if_neg hdf)
  have e5 : zmgr (zsbg s f kd) dd (zmni (zsbg s f kd) dd (s 0 10) + 1) = zmgr s dd (zmni s dd (s 0 10) + 1) := by
    unfold zmgr
    rw [e4]
    rfl
  show zmat s + 1 + zmgr (zsbg s f kd) dd (zmni (zsbg s f kd) dd (s 0 10) + 1) ≤ s 0 0
  rw [e5]
  exact hroom
/-- a new link -/
theorem zIV_sy {h0 h1 h2 : zm_H} {c c1 c2 s : Nat → Nat → Nat} (h : zIV h0 c s) {R a b dd n f nt : Nat} {g g2 t t2 : Nat → Nat} (hNt : zNB 8 9 1000 h0 h1 (zbg c f 3) c1 f b nt t) (hN : zNB 13 14 255 h1 h2 (zup c1 0 2 (c1 0 2 + 1)) c2 R a n g) (hR : c1 10 (c1 0 2) = R) (hu : c 0 2 < 60) (hd1 : 1 ≤ dd) (hd2 : dd ≤ 40) (hdk : s 3 dd = 2) (hf1 : 2 ≤ f) (hf2 : f ≤ 40) (hfk : s 3 f = 0) (hn : n ≤ 255) (hnt : 1 ≤ nt ∧ nt ≤ 1000) (ht : ∀ i, i < nt → t2 i = t i) (hl : zlkn s dd (zls g2 0 (0 + n)) (s 0 10) = none) (hg : ∀ i, i < n → g2 i = g i) (hgb : ∀ i, g2 i ≤ 255) (hroom : zmat s + (if 59 < nt then 1 else 0) + zmgr s dd (zmni s dd (s 0 10) + 1) ≤ s 0 0) : zIV h2 (zgv c2 R dd f) (zadd (zstg (zsbg s f 3) f nt t2) dd n g2 f) := by
  obtain ⟨k1, kn⟩ := zIX_bg (zIX_of h) hf1 hf2 hfk (kd := 3) (by omega)
  have hdf : dd ≠ f := fun z => by
    rw [z, hfk] at hdk
    omega
  have e3 : ∀ x, zsbg s f 3 3 x = if x = f then 3 else s 3 x := fun x => zup_at s 3 f 3 x
  have k2 := zIX_tg k1 (g2 := t2) (by omega) hf2 (by rw [e3, if_pos rfl]) hnt ht hNt
  have hd3 : zstg (zsbg s f 3) f nt t2 3 dd = 2 := by
    show zsbg s f 3 3 dd = 2
    rw [e3, if_neg hdf]
    exact hdk
  have hf3 : zstg (zsbg s f 3) f nt t2 3 f = 3 := by
    show zsbg s f 3 3 f = 3
    rw [e3, if_pos rfl]
  have hlk : zlkn (zstg (zsbg s f 3) f nt t2) dd (zls g2 0 (0 + n)) (s 0 10) = none := zlkn_nn (fun k hk z => zlkn_none (s := s) hl hk z)
  have hc02 : c1 0 2 = c 0 2 := hNt.2.2.2.2.2.2.1 0 2 (by decide) (by omega) (by omega)
  have k3 := zIX_gv k2 (R := R) (dd := dd) (f := f) (g2 := g2) hN hR (by omega) hd1 hd2 hd3 hf1 hf2 (by rw [hf3]; decide) hn hlk (fun z => absurd (hf3.symm.trans z) (by decide)) hg hgb
  refine zIV_of (fun x hx => hx.2 (hx.1.resolve_left id)) (fun x hx => hx.2 (hx.1.resolve_left id)) k3 ?_
  rw [zmat_ad hd1 hd2 hd3, zmat_tg (by omega) hf2 hfk]
  have e4 : zstg (zsbg s f 3) f nt t2 4 dd = s 4 dd := (zup_at s 4 f 0 dd).trans (if_neg hdf)
  have e5 : zmgr (zstg (zsbg s f 3) f nt t2) dd (zmni (zstg (zsbg s f 3) f nt t2) dd (s 0 10) + 1) = zmgr s dd (zmni s dd (s 0 10) + 1) := by
    unfold zmgr
    rw [e4]
    rfl
  show zmat s + (if 59 < nt then 1 else 0) + zmgr (zstg (zsbg s f 3) f nt t2) dd (zmni (zstg (zsbg s f 3) f nt t2) dd (s 0 10) + 1) ≤ s 0 0
  rw [e5]
  exact hroom
