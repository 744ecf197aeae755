/-! the room taken -/
theorem zmat_cg {s t : Nat → Nat → Nat} (h : ∀ f, zmt t f = zmt s f) : zmat t = zmat s := zsum_cg 40 (fun i _ => h (i + 1))
theorem zmat_one {s t : Nat → Nat → Nat} {f : Nat} (hf1 : 1 ≤ f) (hf2 : f ≤ 40) (h : ∀ x, x ≠ f → zmt t x = zmt s x) : zmat t + zmt s f = zmat s + zmt t f := by
  have e := zsum_one_ch (g := fun k => zmt s (k + 1)) (g2 := fun k => zmt t (k + 1)) (k := f - 1) 40 (by omega) (fun j _ h2 => h (j + 1) (by omega))
  have e2 : f - 1 + 1 = f := by omega
  have e : zmat t + zmt s (f - 1 + 1) = zmat s + zmt t (f - 1 + 1) := e
  rw [e2] at e
  exact e
theorem zmat_rm (s : Nat → Nat → Nat) (k : Nat) : zmat (zrm1 s k) = zmat s := zmat_cg (fun _ => rfl)
theorem zmat_gu {s : Nat → Nat → Nat} {g : Nat} (h1 : 1 ≤ g) (h2 : g ≤ 40) : zmat (zsgu s g) ≤ zmat s := by
  unfold zsgu
  split
  · have e := zmat_one (s := s) (t := zup s 3 g 0) h1 h2 (fun x hx => by
      unfold zmt
      rw [zup_nj _ _ hx]
      rfl)
    have e2 : zmt (zup s 3 g 0) g = 0 := by
      unfold zmt
      rw [zup_same, if_pos rfl]
    omega
  · exact Nat.le_refl _
theorem zmat_ad {s : Nat → Nat → Nat} {dd n f : Nat} {g : Nat → Nat} (h1 : 1 ≤ dd) (h2 : dd ≤ 40) (hk : s 3 dd = 2) : zmat (zadd s dd n g f) = zmat s + zmgr s dd (zmni s dd (s 0 10) + 1) := by
  have e4 : ∀ x, zadd s dd n g f 4 x = if x = dd then max (s 4 dd) (zmni s dd (s 0 10) + 1) else s 4 x := fun x => by
    refine (zup_at _ 4 dd _ x).trans ?_
    rw [zad_ni, if_pos rfl]
    by_cases hx : x = dd
    · rw [if_pos hx, if_pos hx]
      split <;> omega
    · rw [if_neg hx, if_neg hx]
      rfl
  have e := zmat_one (s := s) (t := zadd s dd n g f) h1 h2 (fun x hx => by
    unfold zmt
    rw [e4, if_neg hx]
    rfl)
  have e1 : zmt s dd = zft (s 4 dd) := by
    unfold zmt
    rw [hk]
    rfl
  have e2 : zmt (zadd s dd n g f) dd = zft (max (s 4 dd) (zmni s dd (s 0 10) + 1)) := by
    unfold zmt
    rw [e4, if_pos rfl, show zadd s dd n g f 3 dd = 2 from hk]
    rfl
  rw [e1, e2] at e
  unfold zmgr
  by_cases hm : s 4 dd < zmni s dd (s 0 10) + 1
  · rw [if_pos hm]
    rw [Nat.max_eq_right (by omega)] at e
    have := zft_mono (a := s 4 dd) (b := zmni s dd (s 0 10) + 1) (by omega)
    omega
  · rw [if_neg hm]
    rw [Nat.max_eq_left (by omega)] at e
    omega
theorem zmat_bg {s : Nat → Nat → Nat} {f kd : Nat} (h1 : 1 ≤ f) (h2 : f ≤ 40) (hk : s 3 f = 0) (hkd : kd = 1 ∨ kd = 2) : zmat (zsbg s f kd) = zmat s + 1 := by
  have e3 : ∀ x, zsbg s f kd 3 x = if x = f then kd else s 3 x := fun x => zup_at s 3 f kd x
  have e4 : ∀ x, zsbg s f kd 4 x = if x = f then 0 else s 4 x := fun x => zup_at s 4 f 0 x
  have e := zmat_one (s := s) (t := zsbg s f kd) h1 h2 (fun x hx => by
    unfold zmt
    rw [e3, e4, if_neg hx, if_neg hx]
    rfl)
  have e1 : zmt s f = 0 := by
    unfold zmt
    rw [hk, if_pos rfl]
  have e2 : zmt (zsbg s f kd) f = 1 := by
    unfold zmt
    rw [e3, e4, if_pos rfl, if_pos rfl]
    rcases hkd with rfl | rfl <;> rfl
  omega
theorem zmat_tg {s : Nat → Nat → Nat} {f n : Nat} {g : Nat → Nat} (h1 : 1 ≤ f) (h2 : f ≤ 40) (hk : s 3 f = 0) : zmat (zstg (zsbg s f 3) f n g) = zmat s + (if 59 < n then 1 else 0) := by
  have e3 : ∀ x, zstg (zsbg s f 3) f n g 3 x = if x = f then 3 else s 3 x := fun x => zup_at s 3 f 3 x
  have e4 : ∀ x, x ≠ f → zstg (zsbg s f 3) f n g 4 x = s 4 x := fun x hx => (zup_at s 4 f 0 x).trans (if_neg hx)
  have e6 : ∀ x, zstg (zsbg s f 3) f n g 6 x = if x = f then n else s 6 x := fun x => zup_at (zsbg s f 3) 6 f n x
  have e := zmat_one (s := s) (t := zstg (zsbg s f 3) f n g) h1 h2 (fun x hx => by
    unfold zmt
    rw [e3, e4 x hx, e6, if_neg hx, if_neg hx])
  have e1 : zmt s f = 0 := by
    unfold zmt
    rw [hk, if_pos rfl]
  have e2 : zmt (zstg (zsbg s f 3) f n g) f = if 59 < n then 1 else 0 := by
    unfold zmt
    rw [show zstg (zsbg s f 3) f n g 3 f = 3 from (e3 f).trans (if_pos rfl), show zstg (zsbg s f 3) f n g 6 f = n from (e6 f).trans (if_pos rfl)]
    rfl
  omega
/-! what lasts -/
theorem zIV_fr {h0 : zm_H} {c s c2 s2 : Nat → Nat → Nat} (h : zIV h0 c s) (hc : zCI c2) (hs : zMI s2) (ec : ∀ A j, A ≤ 14 ∨ A = 19 → ¬ (A = 0 ∧ j ≤ 1) → ¬ (A = 19 ∧ 3600 ≤ j ∧ j < 4800) → c2 A j = c A j) (es : ∀ a, 3 ≤ a → a ≤ 11 → s2 a = s a) (e10 : s2 0 10 = s 0 10) (e00 : s2 0 0 = c2 0 0) (e01 : s2 0 1 = c2 0 1) (eT : ∀ i, i < 1200 → c2 19 (1200 * 3 + i) = s2 1 i) (em : zmat s ≤ s2 0 0) : zIV h0 c2 s2 := by
  obtain ⟨i1, i2, i3, ⟨r1, r2, r3, r4, r5, r6, ⟨la, r7⟩, r8, r9, r10⟩, ⟨s1, v2, v3, v4, v5, v6, v7, v8, v9, v10⟩, i6⟩ := h
  have ea : ∀ A, 1 ≤ A → A ≤ 14 → c2 A = c A := fun A h1 h2 => funext (fun j => ec A j (Or.inl h2) (by omega) (by omega))
  have e02 : c2 0 2 = c 0 2 := ec 0 2 (by omega) (by omega) (by omega)
  have eb : ∀ b j, b ≠ 3 → j < 1200 → c2 19 (1200 * b + j) = c 19 (1200 * b + j) := fun b j hb hj => ec 19 _ (Or.inr rfl) (by omega) (by omega)
  have hno : ∀ f n, zmno s2 f n = zmno s f n := fun f n => by
    unfold zmno
    rw [es 9 (by decide) (by decide)]
  have hni : ∀ f n, zmni s2 f n = zmni s f n := fun f n => by
    unfold zmni
    rw [es 8 (by decide) (by decide)]
  have hnm : ∀ k, znm s2 k = znm s k := fun k => by
    unfold znm
    rw [es 10 (by decide) (by decide), es 11 (by decide) (by decide)]
  have hpa : ∀ f, zmpa s2 f (s2 0 10) = zmpa s f (s 0 10) := fun f => by
    rw [e10]
    exact zmpa_cg _ (fun k _ => by rw [es 9 (by decide) (by decide)]) (fun k _ => by rw [es 8 (by decide) (by decide)])
  have hat : zmat s2 = zmat s := zmat_cg (fun f => by
    unfold zmt
    rw [es 3 (by decide) (by decide), es 6 (by decide) (by decide), es 4 (by decide) (by decide)])
  have ne3 : ∀ b n, zga h0 b n → n < 1200 → b ≠ 3 := fun b n hb hn z => by
    rw [z] at hb
    have := zga_u hb (zga_3 i1)
    omega
  have hcn : ∀ R, zUS c R → zcn c2 R = zcn c R := fun R hR => by
    unfold zcn
    rw [ea 13 (by decide) (by decide), ea 14 (by decide) (by decide)]
    refine zls_congr (fun j h1 h2 => ?_)
    have hl : c 14 R ≤ 255 := i2 14 R
    exact eb _ _ (ne3 _ _ (r8 R hR) (by decide)) (by omega)
  have hu : zUS c2 = zUS c := by
    unfold zUS
    rw [e02, ea 10 (by decide) (by decide)]
  have hrs : zRS s2 la (zUS c) (c 11) (c 12) (zcn c) := by
    obtain ⟨k1, k2, k3⟩ := r7
    unfold zRS
    rw [e10, es 8 (by decide) (by decide), es 9 (by decide) (by decide)]
    exact ⟨fun k hk => by rw [hnm]; exact k1 k hk, k2, k3⟩
  refine ⟨i1, hc, hs, ⟨⟨e00, e01, by rw [e10, e02]; exact r1.2.2⟩, eT, ?_, fun f f1 f2 f3 => ?_, fun f f1 f2 => ?_, fun f f1 f2 => ?_, ⟨la, zRS_cg hrs (fun R => by rw [hu]) (fun R _ => by rw [ea 11 (by decide) (by decide)]) (fun R _ => by rw [ea 12 (by decide) (by decide)]) hcn⟩, fun R hR => ?_, ?_, ?_⟩, ⟨?_, ?_, ?_, fun f f1 f2 f3 => ?_, ?_, ?_, fun f f1 f2 => ?_, ?_, ?_, fun f f1 => ?_⟩, ?_⟩
  · rw [ea 2 (by decide) (by decide), es 3 (by decide) (by decide)]
    exact r3
  · rw [es 3 (by decide) (by decide)] at f3
    unfold zRF
    rw [ea 3 (by decide) (by decide), ea 4 (by decide) (by decide), ea 5 (by decide) (by decide), ea 6 (by decide) (by decide), hno, hni, e10, es 5 (by decide) (by decide), es 4 (by decide) (by decide)]
    exact r4 f f1 f2 f3
  · rw [ea 7 (by decide) (by decide), hpa, es 3 (by decide) (by decide)]
    exact r5 f f1 f2
  · rw [es 3 (by decide) (by decide)] at f2
    obtain ⟨z1, z2, z3⟩ := r6 f f1 f2
    have hs6 : s 6 f ≤ 1000 := i3 6 f
    unfold zRT
    rw [ea 8 (by decide) (by decide), ea 9 (by decide) (by decide), es 6 (by decide) (by decide), es 7 (by decide) (by decide)]
    exact ⟨z1, z2, fun i hi => (eb _ _ (ne3 _ _ z1 (by decide)) (by omega)).trans (z3 i hi)⟩
  · rw [hu] at hR
    rw [ea 13 (by decide) (by decide)]
    exact r8 R hR
  · rw [ea 10 (by decide) (by decide)]
    exact r9
  · rw [ea 10 (by decide) (by decide)]
    exact r10
  · unfold zSN
    rw [e10, es 3 (by decide) (by decide), es 8 (by decide) (by decide), es 9 (by decide) (by decide)]
    exact ⟨s1.1, fun k l k1 l1 e1 e2 => s1.2.1 k l k1 l1 e1 (by rw [← hnm, ← hnm]; exact e2), s1.2.2⟩
  · rw [es 3 (by decide) (by decide)]
    exact v2
  · rw [es 3 (by decide) (by decide)]
    exact v3
  · rw [es 3 (by decide) (by decide)] at f3
    rw [hno, e10, es 5 (by decide) (by decide)]
    exact v4 f f1 f2 f3
  · rw [es 3 (by decide) (by decide), es 5 (by decide) (by decide)]
    exact v5
  · rw [es 5 (by decide) (by decide)]
    exact v6
  · rw [es 3 (by decide) (by decide)] at f2
    obtain ⟨m, hm⟩ := v7 f f1 f2
    exact ⟨m, (zit_cg hpa m f).trans hm⟩
  · rw [es 3 (by decide) (by decide), es 6 (by decide) (by decide)]
    exact v8
  · rw [hat]
    exact em
  · rw [hni, e10, es 4 (by decide) (by decide)]
    exact v10 f f1
  · unfold zCA
    rw [ea 8 (by decide) (by decide), ea 13 (by decide) (by decide)]
    exact i6
/-- the tape used up -/
theorem zIV_t0 {h0 : zm_H} {c s : Nat → Nat → Nat} (h : zIV h0 c s) : zIV h0 (zup c 0 1 0) (zt0 s) :=
  zIV_fr h (zCI_up h.2.1 (Nat.zero_le _)) (zMI_up h.2.2.1 (Nat.zero_le _)) (fun A j _ h2 _ => zup_ne _ _ (by omega)) (fun a h1 _ => funext (fun j => zup_na _ _ (by omega))) rfl h.2.2.2.1.1.1 rfl h.2.2.2.1.2.1 h.2.2.2.2.1.2.2.2.2.2.2.2.2.1
/-- walks leave it -/
theorem zIV_GF {h0 : zm_H} {c c2 s : Nat → Nat → Nat} {w : Nat} (h : zIV h0 c s) (hw : zGF w c c2) (hI : zCI c2) : zIV h0 c2 s := by
  have e : ∀ A j, A ≤ 14 ∨ A = 19 → c2 A j = c A j := fun A j hA => hw A j (by omega) (by omega) (by omega) (by omega)
  obtain ⟨⟨q1, q2, q3⟩, q4⟩ := h.2.2.2.1
  exact zIV_fr h hI h.2.2.1 (fun A j h1 _ _ => e A j h1) (fun _ _ _ => rfl) rfl (by rw [e 0 0 (by omega)]; exact q1) (by rw [e 0 1 (by omega)]; exact q2) (fun i hi => by rw [e 19 _ (by omega)]; exact q4.1 i hi) h.2.2.2.2.1.2.2.2.2.2.2.2.2.1
/-- so do the reference's -/
theorem zIV_PE {h0 : zm_H} {c s t : Nat → Nat → Nat} (h : zIV h0 c s) (hp : zPE s t) (hI : zMI t) : zIV h0 c t := by
  obtain ⟨⟨q1, q2, q3⟩, q4⟩ := h.2.2.2.1
  exact zIV_fr h h.2.1 hI (fun _ _ _ _ _ => rfl) (fun a h1 h2 => zPE_f hp a (by omega)) (zPE_0 hp 10 (by decide)) (by rw [zPE_0 hp 0 (by decide)]; exact q1) (by rw [zPE_0 hp 1 (by decide)]; exact q2) (fun i hi => by rw [zPE_a hp 1 i (by decide)]; exact q4.1 i hi) (by rw [zPE_0 hp 0 (by decide)]; exact h.2.2.2.2.1.2.2.2.2.2.2.2.2.1)
/-- bytes come onto the tape -/
theorem zIV_ap {h0 : zm_H} {c s : Nat → Nat → Nat} (h : zIV h0 c s) {k : Nat} {g : Nat → Nat} (hk : s 0 1 + k ≤ 1200) (hg : ∀ i, g i ≤ 255) : zIV h0 (zup (zwr c 19 (1200 * 3 + s 0 1) k g) 0 1 (s 0 1 + k)) (zup (zwr s 1 (s 0 1) k g) 0 1 (s 0 1 + k)) := by
  obtain ⟨⟨q1, q2, q3⟩, q4⟩ := h.2.2.2.1
  refine zIV_fr h (zCI_up (zCI_wr h.2.1 (fun i _ => show g i ≤ 255 from hg i)) (show s 0 1 + k ≤ 1200 from hk)) (zMI_up (zMI_wr h.2.2.1 (fun i _ => show g i ≤ 255 from hg i)) (show s 0 1 + k ≤ 1200 from hk)) (fun A j h1 h2 h3 => ?_) (fun a h1 h2 => funext (fun j => ?_)) rfl q1 rfl (fun i hi => ?_) h.2.2.2.2.1.2.2.2.2.2.2.2.2.1
  · rw [zup_ne _ _ (by omega), zwr_out _ _ (by omega)]
  · rw [zup_na _ _ (by omega), zwr_na _ _ (by omega)]
  · show zwr c 19 (1200 * 3 + s 0 1) k g 19 (1200 * 3 + i) = zwr s 1 (s 0 1) k g 1 i
    by_cases hi2 : s 0 1 ≤ i ∧ i < s 0 1 + k
    · rw [zwr_in _ _ (by omega) (by omega), zwr_in _ _ hi2.1 hi2.2, show 1200 * 3 + i - (1200 * 3 + s 0 1) = i - s 0 1 by omega]
    · rw [zwr_out _ _ (by omega), zwr_out _ _ (by omega)]
      exact q4.1 i hi
/-- the room -/
theorem zIV_rr {h0 : zm_H} {c s : Nat → Nat → Nat} (h : zIV h0 c s) {k : Nat} (h1 : zmat s ≤ k) (h2 : k ≤ 200) : zIV h0 (zup c 0 0 k) (zup s 0 0 k) := by
  obtain ⟨⟨q1, q2, q3⟩, q4⟩ := h.2.2.2.1
  exact zIV_fr h (zCI_up h.2.1 (show k ≤ 200 from h2)) (zMI_up h.2.2.1 (show k ≤ 200 from h2)) (fun A j _ h2 _ => zup_ne _ _ (by omega)) (fun a h1 _ => funext (fun j => zup_na _ _ (by omega))) rfl rfl q2 q4.1 h1
