/-! what both sides count -/
theorem zct_t {h0 : zm_H} {c s : Nat → Nat → Nat} (h : zIV h0 c s) {f : Nat} (h1 : 1 ≤ f) (h2 : f ≤ 40) : zct c f = zmt s f := by
  obtain ⟨i1, i2, i3, ⟨r1, r2, r3, r4, r5, r6, r7⟩, hs, i6⟩ := h
  have hk : s 3 f ≤ 3 := i3 3 f
  unfold zct zmt
  rw [r3 f h2]
  by_cases k0 : s 3 f = 0
  · rw [k0]; rfl
  obtain ⟨y1, y2, y3, y4⟩ := r4 f h1 h2 k0
  by_cases k1 : s 3 f = 1
  · rw [k1]; rfl
  by_cases k2 : s 3 f = 2
  · rw [k2, y4]; rfl
  have k3 : s 3 f = 3 := by omega
  rw [k3, (r6 f h2 k3).2.1]
  rfl
theorem zctk_t {h0 : zm_H} {c s : Nat → Nat → Nat} (h : zIV h0 c s) : zctk c = zmat s := zsum_cg 40 (fun i hi => zct_t h (by omega) (by omega))
theorem zcgr_t {h0 : zm_H} {c s : Nat → Nat → Nat} (h : zIV h0 c s) {f : Nat} (h1 : 1 ≤ f) (h2 : f ≤ 40) (hk : s 3 f ≠ 0) : zcgr c f = zmgr s f (zmni s f (s 0 10) + 1) := by
  obtain ⟨y1, y2, y3, y4⟩ := h.2.2.2.1.2.2.2.1 f h1 h2 hk
  unfold zcgr zmgr
  rw [y3, y4]
  by_cases hm : s 4 f < zmni s f (s 0 10) + 1
  · rw [if_pos hm, Nat.max_eq_right (by omega)]
  · rw [if_neg hm, Nat.max_eq_left (by omega), Nat.sub_self]
theorem zcx_fx {c s : Nat → Nat → Nat} (h : ∀ f, f ≤ 40 → c 2 f = s 3 f) : ∀ n f, f + n = 41 → zcx c n f = if zfx s n f ≤ 40 then zfx s n f else 0
  | 0, f, e => by
    show 0 = if f ≤ 40 then f else 0
    rw [if_neg (by omega)]
  | n + 1, f, e => by
    unfold zcx zfx
    rw [h f (by omega)]
    by_cases hk : s 3 f = 0
    · rw [if_pos hk, if_pos hk, if_pos (by omega)]
    · rw [if_neg hk, if_neg hk]
      exact zcx_fx h n (f + 1) (by omega)
theorem zfx_k {s : Nat → Nat → Nat} : ∀ n f, f + n = 41 → zfx s n f ≤ 40 → s 3 (zfx s n f) = 0
  | 0, f, e, h => absurd (show f ≤ 40 from h) (by omega)
  | n + 1, f, e, h => by
    unfold zfx at h ⊢
    by_cases hk : s 3 f = 0
    · rw [if_pos hk]
      exact hk
    · rw [if_neg hk] at h ⊢
      exact zfx_k n (f + 1) (by omega) h
theorem zcx_t {h0 : zm_H} {c s : Nat → Nat → Nat} (h : zIV h0 c s) : zcx c 40 1 = if zfx s 39 2 ≤ 40 then zfx s 39 2 else 0 := by
  have r3 := h.2.2.2.1.2.2.1
  have v3 := h.2.2.2.2.1.2.2.1
  rw [← zcx_fx r3 39 2 rfl]
  show (if c 2 1 = 0 then 1 else zcx c 39 2) = _
  rw [r3 1 (by decide), v3]
  rfl
theorem zfc_t {h0 : zm_H} {c s : Nat → Nat → Nat} (h : zIV h0 c s) : zsum (fun k => if c 2 (k + 1) ≠ 0 then 1 else 0) 40 = zmfc s := zsum_cg 40 (fun i hi => by
  rw [h.2.2.2.1.2.2.1 (i + 1) (by omega)]
  by_cases hk : s 3 (i + 1) = 0
  · rw [hk]; rfl
  · rw [if_pos hk, if_pos (by omega)])
theorem zcz_t {h0 : zm_H} {c s : Nat → Nat → Nat} (h : zIV h0 c s) {f : Nat} (h1 : 1 ≤ f) (h2 : f ≤ 40) (hp : 0 < s 3 f) : zcz c f = zmab s f 2 := by
  obtain ⟨i1, i2, i3, ⟨r1, r2, r3, r4, r5, r6, r7⟩, hs, i6⟩ := h
  have hk : s 3 f ≤ 3 := i3 3 f
  obtain ⟨y1, y2, y3, y4⟩ := r4 f h1 h2 (by omega)
  unfold zcz
  rw [r3 f h2]
  show _ = if s 3 f = 2 then zmni s f (s 0 10) else if s 3 f = 3 then s 6 f else s 5 f
  by_cases k1 : s 3 f = 1
  · rw [k1, y2]; rfl
  by_cases k2 : s 3 f = 2
  · rw [k2, y3]; rfl
  have k3 : s 3 f = 3 := by omega
  rw [k3, (r6 f h2 k3).2.1]
  rfl
theorem zsum_ad {f g : Nat → Nat} : ∀ n, zsum (fun k => f k + g k) n = zsum f n + zsum g n
  | 0 => rfl
  | n + 1 => by
    show zsum (fun k => f k + g k) n + (f n + g n) = zsum f n + f n + (zsum g n + g n)
    rw [zsum_ad n]
    omega
theorem zsum_sw {F : Nat → Nat → Nat} {m : Nat} : ∀ n, zsum (fun k => zsum (fun x => F x k) m) n = zsum (fun x => zsum (fun k => F x k) n) m
  | 0 => (zsum_z m (fun _ _ => rfl)).symm
  | n + 1 => by
    show zsum (fun k => zsum (fun x => F x k) m) n + zsum (fun x => F x n) m = zsum (fun x => zsum (fun k => F x k) n + F x n) m
    rw [zsum_sw n, zsum_ad]
/-- the folders in a folder, by their names and by their parents -/
theorem zfi_t {h0 : zm_H} {c s : Nat → Nat → Nat} (h : zIV h0 c s) {g : Nat} (hg : 1 ≤ g) : zsum (fun k => if k ≠ 0 ∧ c 7 (k + 1) = g then 1 else 0) 40 = zmfi s g (s 0 10) := by
  obtain ⟨i1, i2, i3, ⟨r1, r2, r3, r4, r5, r6, r7⟩, ⟨s1, v2, v3, v4, v5, v6, v7, v8, v9, v10⟩, i6⟩ := h
  have e1 : zmfi s g (s 0 10) = zsum (fun k => zsum (fun x => if s 9 k = x + 1 ∧ s 8 k = g ∧ s 3 (x + 1) = 2 then 1 else 0) 40) (s 0 10) := by
    refine zsum_cg (s 0 10) (fun k hk => ?_)
    have a1 := (s1.1 k hk).2.2.1
    have a2 : s 9 k ≤ 40 := i3 9 k
    have e2 : s 9 k - 1 + 1 = s 9 k := by omega
    rw [zsum_u1 (g := fun x => if s 9 k = x + 1 ∧ s 8 k = g ∧ s 3 (x + 1) = 2 then 1 else 0) (k := s 9 k - 1) 40 (by omega) (fun j hj hn => if_neg (by omega))]
    show _ = if s 9 k = s 9 k - 1 + 1 ∧ s 8 k = g ∧ s 3 (s 9 k - 1 + 1) = 2 then 1 else 0
    rw [e2]
    by_cases hc : s 8 k = g ∧ s 3 (s 9 k) = 2
    · rw [if_pos hc, if_pos ⟨rfl, hc⟩]
    · rw [if_neg hc, if_neg (fun z => hc z.2)]
  rw [e1, zsum_sw]
  refine zsum_cg 40 (fun x hx => ?_)
  show (if x ≠ 0 ∧ c 7 (x + 1) = g then 1 else 0) = zsum (fun k => if s 9 k = x + 1 ∧ s 8 k = g ∧ s 3 (x + 1) = 2 then 1 else 0) (s 0 10)
  rw [r5 (x + 1) (by omega) (by omega)]
  by_cases hx0 : x = 0
  · rw [if_neg (fun z => z.1 hx0), zsum_z]
    intro k hk
    refine if_neg (fun z => (s1.1 k hk).2.2.2.2 ?_)
    omega
  by_cases hk2 : s 3 (x + 1) = 2
  · rw [if_pos hk2]
    have hnm : 1 ≤ zmno s (x + 1) (s 0 10) := by
      rcases v4 (x + 1) (by omega) (by omega) (by omega) with w | w
      · exact w
      · have := v5 (x + 1) (by omega)
        omega
    rcases zmpa_cs (s := s) (x + 1) (s 0 10) with ⟨e, en⟩ | ⟨k, k1, k2, e⟩
    · rw [zmno_z en] at hnm
      omega
    · rw [e, zsum_u1 (k := k) (s 0 10) k1 (fun j hj hn => if_neg (fun z => hn (s1.2.2 j k hj k1 (by rw [z.1, k2]) (by rw [z.1]; exact hk2))))]
      by_cases hg2 : s 8 k = g
      · rw [if_pos ⟨hx0, hg2⟩, if_pos ⟨k2, hg2, hk2⟩]
      · rw [if_neg (fun z => hg2 z.2), if_neg (fun z => hg2 z.2.1)]
  · rw [if_neg hk2, if_neg (fun z => by have := z.2; omega), zsum_z]
    intro k hk
    exact if_neg (fun z => hk2 z.2.2)
/-- the way up from a folder -/
theorem zIV_39 {h0 : zm_H} {c s : Nat → Nat → Nat} (h : zIV h0 c s) {f : Nat} (h1 : 1 ≤ f) (h2 : f ≤ 40) (hk : s 3 f = 2) : zit s 39 f = 1 := by
  obtain ⟨i1, i2, i3, hr, ⟨s1, v2, v3, v4, v5, v6, v7, v8, v9, v10⟩, i6⟩ := h
  obtain ⟨m, hm⟩ := v7 f h2 hk
  exact zit_39 i3 s1 v3 (zmpa_r s1) h1 h2 m hm
theorem zcwi_t {h0 : zm_H} {c s : Nat → Nat → Nat} (h : zIV h0 c s) {o a : Nat} (ho : o ≠ 1) (h1 : 1 ≤ a) (h2 : a ≤ 40) (hk : s 3 a = 2) : zcwi c o 40 a = zwi s o 39 a := by
  have e := zIV_39 h h1 h2 hk
  obtain ⟨i1, i2, i3, ⟨r1, r2, r3, r4, r5, r6, r7⟩, ⟨s1, v2, v3, v4, v5, v6, v7, v8, v9, v10⟩, i6⟩ := h
  exact zcwi_wi i3 s1 v3 (zmpa_r s1) ho (fun x x1 x2 x3 => by rw [r5 x x1 x2, if_pos x3]) 39 0 39 a h1 h2 hk e e
theorem zwi_0 {s : Nat → Nat → Nat} {o : Nat} (ho : o ≠ 1) (h1 : zmpa s 1 (s 0 10) = 1) : ∀ m a, zwi s o m a ≠ 1 → zit s m a = 1 → ∀ j, zit s j a ≠ o
  | 0, a, _, e, j => by
    have e : a = 1 := e
    rw [e, zit_1 h1]
    exact fun z => ho z.symm
  | m + 1, a, h, e, j => by
    have h : (if a = o then 1 else if a = 1 then 0 else zwi s o m (zmpa s a (s 0 10))) ≠ 1 := h
    by_cases hao : a = o
    · rw [if_pos hao] at h
      exact absurd rfl h
    rw [if_neg hao] at h
    by_cases ha1 : a = 1
    · rw [ha1, zit_1 h1]
      exact fun z => ho z.symm
    rw [if_neg ha1] at h
    cases j with
    | zero => exact hao
    | succ j => exact zwi_0 ho h1 m _ h e j
/-- the one-name check of a rename over a name: never too much -/
theorem zmgr_0 {s : Nat → Nat → Nat} {f n : Nat} (h : n ≤ s 4 f) : zmgr s f n = 0 := if_neg (by omega)
