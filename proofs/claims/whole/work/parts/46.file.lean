/-! a file goes, comes, gets its target, gets its name -/
def zsgu (s : Nat → Nat → Nat) (g : Nat) : Nat → Nat → Nat := if zmno s g (s 0 10) = 0 ∧ s 5 g = 0 then zup s 3 g 0 else s
theorem zrem_eq (s : Nat → Nat → Nat) (k : Nat) : zrem s k = zsgu (zrm1 s k) (s 9 k) := rfl
theorem zbg_ne (c : Nat → Nat → Nat) {f k x : Nat} (h : x ≠ f) (A : Nat) : zbg c f k A x = c A x := by
  unfold zbg
  have k : ∀ a, ¬ (A = a ∧ x = f) := fun a z => h z.2
  rw [zup_ne _ _ (k _), zup_ne _ _ (k _), zup_ne _ _ (k _), zup_ne _ _ (k _), zup_ne _ _ (k _), zup_ne _ _ (k _), zup_ne _ _ (k _)]
theorem zbg_a (c : Nat → Nat → Nat) (f k A : Nat) (h : A = 0 ∨ A = 8 ∨ 10 ≤ A) : zbg c f k A = c A := by
  funext j
  unfold zbg
  rw [zup_na _ _ (by omega), zup_na _ _ (by omega), zup_na _ _ (by omega), zup_na _ _ (by omega), zup_na _ _ (by omega), zup_na _ _ (by omega), zup_na _ _ (by omega)]
theorem zbg_2 (c : Nat → Nat → Nat) (f k : Nat) : zbg c f k 2 f = k := zup_same c 2 f k
theorem zbg_3 (c : Nat → Nat → Nat) (f k : Nat) : zbg c f k 3 f = 0 := zup_same c 3 f 0
theorem zbg_4 (c : Nat → Nat → Nat) (f k : Nat) : zbg c f k 4 f = 0 := zup_same c 4 f 0
theorem zbg_5 (c : Nat → Nat → Nat) (f k : Nat) : zbg c f k 5 f = 0 := zup_same c 5 f 0
theorem zbg_6 (c : Nat → Nat → Nat) (f k : Nat) : zbg c f k 6 f = 0 := zup_same c 6 f 0
theorem zbg_7 (c : Nat → Nat → Nat) (f k : Nat) : zbg c f k 7 f = 0 := zup_same c 7 f 0
theorem zbg_9 (c : Nat → Nat → Nat) (f k : Nat) : zbg c f k 9 f = 0 := zup_same c 9 f 0
theorem zIX_gu {h0 : zm_H} {c s : Nat → Nat → Nat} {P T : Nat → Prop} (h : zIX h0 c s P T) {g : Nat} (hg1 : 2 ≤ g) (hg2 : g ≤ 40) (hk : s 3 g ≠ 0) (h2 : s 3 g = 2 → zmno s g (s 0 10) = 0 ∧ zmni s g (s 0 10) = 0) : zIX h0 (zgu c g) (zsgu s g) (fun x => P x ∧ x ≠ g) T := by
  obtain ⟨i1, i2, i3, ⟨r1, r2, r3, r4, r5, r6, ⟨la, r7⟩, r8, r9, r10⟩, ⟨s1, s2, s3, s4, s5, s6, s7, s8, s10⟩, i6⟩ := h
  obtain ⟨y1, y2, y3, y4⟩ := r4 g (by omega) hg2 hk
  unfold zgu zsgu
  by_cases hc : zmno s g (s 0 10) = 0 ∧ s 5 g = 0
  case neg =>
    rw [if_neg hc, if_neg (by rw [y1, y2]; exact hc)]
    refine ⟨i1, i2, i3, ⟨r1, r2, r3, r4, fun f f1 f2 => ⟨fun f3 hp => ?_, (r5 f f1 f2).2⟩, r6, ⟨la, r7⟩, r8, r9, r10⟩, ⟨s1, s2, s3, fun f f1 f2 f3 hp => ?_, s5, s6, s7, s8, s10⟩, i6⟩
    · by_cases hfg : f = g
      · rw [hfg] at f3
        exact absurd ⟨(h2 f3).1, s5 g (by omega)⟩ hc
      · exact (r5 f f1 f2).1 f3 (fun z => hp ⟨z, hfg⟩)
    · by_cases hfg : f = g
      · rw [hfg]
        by_cases hz : zmno s g (s 0 10) = 0
        · exact Or.inr (by
            have : s 5 g ≠ 0 := fun z => hc ⟨hz, z⟩
            omega)
        · exact Or.inl (by omega)
      · exact s4 f f1 f2 f3 (fun z => hp ⟨z, hfg⟩)
  rw [if_pos hc, if_pos (by rw [y1, y2]; exact hc)]
  have e3 : ∀ x, zup s 3 g 0 3 x = if x = g then 0 else s 3 x := fun x => zup_at s 3 g 0 x
  have h8 : ∀ k, k < s 0 10 → s 8 k ≠ g := fun k hk1 z => by
    have := (s1.1 k hk1).2.1
    rw [z] at this
    exact zmni_0 (h2 this).2 hk1 z
  have h9 : ∀ k, k < s 0 10 → s 9 k ≠ g := fun k hk1 => zmno_0 hc.1 hk1
  refine ⟨i1, zCI_bg i2 (by decide), zMI_up i3 (Nat.zero_le _), ⟨r1, r2, fun f f1 => ?_, fun f f1 f2 f3 => ?_, fun f f1 f2 => ?_, fun f f1 f2 f3 => ?_, ⟨la, r7⟩, r8, r9, r10⟩, ⟨⟨fun k hk1 => ?_, s1.2.1, fun k l k1 l1 e1 e2 => ?_⟩, ?_, ?_, fun f f1 f2 f3 f4 => ?_, fun f f1 => ?_, s6, fun f f1 f2 => ?_, fun f f1 f2 f3 => ?_, s10⟩, i6⟩
  · rw [e3]
    by_cases hfg : f = g
    · rw [hfg, zbg_2, if_pos rfl]
    · rw [zbg_ne c hfg, if_neg hfg]
      exact r3 f f1
  · rw [e3] at f3
    by_cases hfg : f = g
    · rw [if_pos hfg] at f3
      exact absurd rfl f3
    · rw [if_neg hfg] at f3
      unfold zRF
      rw [zbg_ne c hfg, zbg_ne c hfg, zbg_ne c hfg, zbg_ne c hfg]
      exact r4 f f1 f2 f3
  · rw [e3]
    by_cases hfg : f = g
    · rw [if_pos hfg, hfg, zbg_7]
      exact ⟨fun z => absurd z (by decide), fun _ => rfl⟩
    · rw [if_neg hfg, zbg_ne c hfg]
      refine ⟨fun z hp => ?_, (r5 f f1 f2).2⟩
      rw [zmpa_cg (s := s) (t := zup s 3 g 0) _ (fun _ _ => rfl) (fun _ _ => rfl)]
      exact (r5 f f1 f2).1 z (fun w => hp ⟨w, hfg⟩)
  · rw [e3] at f2
    by_cases hfg : f = g
    · rw [if_pos hfg] at f2
      exact absurd f2 (by decide)
    · rw [if_neg hfg] at f2
      unfold zRT
      rw [zbg_ne c hfg, zbg_ne c hfg, zbg_a c g 0 19 (by omega)]
      exact r6 f f1 f2 f3
  · obtain ⟨z1, z2, z3, z4, z5⟩ := s1.1 k hk1
    show 1 ≤ s 8 k ∧ zup s 3 g 0 3 (s 8 k) = 2 ∧ 1 ≤ s 9 k ∧ zup s 3 g 0 3 (s 9 k) ≠ 0 ∧ s 9 k ≠ 1
    rw [e3, e3, if_neg (h8 k hk1), if_neg (h9 k hk1)]
    exact ⟨z1, z2, z3, z4, z5⟩
  · have e2 : zup s 3 g 0 3 (s 9 k) = 2 := e2
    rw [e3, if_neg (h9 k k1)] at e2
    exact s1.2.2 k l k1 l1 e1 e2
  · rw [e3]
    split
    · rfl
    · exact s2
  · rw [e3, if_neg (by omega)]
    exact s3
  · rw [e3] at f3
    by_cases hfg : f = g
    · rw [if_pos hfg] at f3
      exact absurd rfl f3
    · rw [if_neg hfg] at f3
      exact s4 f f1 f2 f3 (fun w => f4 ⟨w, hfg⟩)
  · rw [e3] at f1
    by_cases hfg : f = g
    · rw [hfg]
      exact hc.2
    · rw [if_neg hfg] at f1
      exact s5 f f1
  · rw [e3] at f2
    by_cases hfg : f = g
    · rw [if_pos hfg] at f2
      exact absurd f2 (by decide)
    · rw [if_neg hfg] at f2
      obtain ⟨m, hm⟩ := s7 f f1 f2
      exact ⟨m, (zit_cg (s := s) (t := zup s 3 g 0) (fun x => zmpa_cg (s := s) _ (fun _ _ => rfl) (fun _ _ => rfl)) m f).trans hm⟩
  · rw [e3] at f2
    by_cases hfg : f = g
    · rw [if_pos hfg] at f2
      exact absurd f2 (by decide)
    · rw [if_neg hfg] at f2
      exact s8 f f1 f2 f3
def zsbg (s : Nat → Nat → Nat) (f kd : Nat) : Nat → Nat → Nat := zup (zup (zup s 3 f kd) 4 f 0) 5 f 0
theorem zIX_bg {h0 : zm_H} {c s : Nat → Nat → Nat} {P T : Nat → Prop} (h : zIX h0 c s P T) {f kd : Nat} (hf1 : 2 ≤ f) (hf2 : f ≤ 40) (hk : s 3 f = 0) (hkd : 1 ≤ kd ∧ kd ≤ 3) : zIX h0 (zbg c f kd) (zsbg s f kd) (fun x => P x ∨ x = f) (fun x => T x ∨ x = f) ∧ (∀ k, k < s 0 10 → s 8 k ≠ f ∧ s 9 k ≠ f) := by
  obtain ⟨i1, i2, i3, ⟨r1, r2, r3, r4, r5, r6, ⟨la, r7⟩, r8, r9, r10⟩, ⟨s1, s2, s3, s4, s5, s6, s7, s8, s10⟩, i6⟩ := h
  have e3 : ∀ x, zsbg s f kd 3 x = if x = f then kd else s 3 x := fun x => zup_at s 3 f kd x
  have e4 : ∀ x, zsbg s f kd 4 x = if x = f then 0 else s 4 x := fun x => zup_at s 4 f 0 x
  have e5 : ∀ x, zsbg s f kd 5 x = if x = f then 0 else s 5 x := fun x => zup_at s 5 f 0 x
  have h8 : ∀ k, k < s 0 10 → s 8 k ≠ f := fun k hk1 z => by
    have := (s1.1 k hk1).2.1
    rw [z] at this
    omega
  have h9 : ∀ k, k < s 0 10 → s 9 k ≠ f := fun k hk1 z => by
    have := (s1.1 k hk1).2.2.2.1
    rw [z] at this
    omega
  have hpa : ∀ x, zmpa (zsbg s f kd) x (s 0 10) = zmpa s x (s 0 10) := fun x => zmpa_cg (s := s) _ (fun _ _ => rfl) (fun _ _ => rfl)
  have hi3 : zMI (zsbg s f kd) := zMI_up (zMI_up (zMI_up i3 (show kd ≤ 3 from hkd.2)) (Nat.zero_le _)) (Nat.zero_le _)
  refine ⟨⟨i1, zCI_bg i2 hkd.2, hi3, ⟨r1, r2, fun x x1 => ?_, fun x x1 x2 x3 => ?_, fun x x1 x2 => ?_, fun x x1 x2 x3 => ?_, ⟨la, r7⟩, r8, r9, r10⟩, ⟨⟨fun k hk1 => ?_, s1.2.1, fun k l k1 l1 e1 e2 => ?_⟩, ?_, ?_, fun x x1 x2 x3 x4 => ?_, fun x x1 => ?_, fun x => ?_, fun x x1 x2 => ?_, fun x x1 x2 x3 => ?_, fun x x1 => ?_⟩, i6⟩, fun k hk1 => ⟨h8 k hk1, h9 k hk1⟩⟩
  · rw [e3]
    by_cases hx : x = f
    · rw [hx, zbg_2, if_pos rfl]
    · rw [zbg_ne c hx, if_neg hx]
      exact r3 x x1
  · by_cases hx : x = f
    · rw [hx]
      refine ⟨?_, ?_, ?_, ?_⟩
      · rw [zbg_3]
        exact (zmno_z (s := s) h9).symm
      · rw [zbg_4, e5, if_pos rfl]
      · rw [zbg_5]
        exact (zmni_z (s := s) h8).symm
      · rw [zbg_6, e4, if_pos rfl]
    · rw [e3, if_neg hx] at x3
      unfold zRF
      rw [zbg_ne c hx, zbg_ne c hx, zbg_ne c hx, zbg_ne c hx, e4, e5, if_neg hx, if_neg hx]
      exact r4 x x1 x2 x3
  · rw [e3]
    by_cases hx : x = f
    · rw [hx, zbg_7]
      exact ⟨fun _ z => absurd (Or.inr rfl) z, fun _ => rfl⟩
    · rw [if_neg hx, zbg_ne c hx]
      refine ⟨fun z hp => ?_, (r5 x x1 x2).2⟩
      exact ((r5 x x1 x2).1 z (fun w => hp (Or.inl w))).trans (hpa x).symm
  · by_cases hx : x = f
    · exact absurd (Or.inr hx) x3
    · rw [e3, if_neg hx] at x2
      unfold zRT
      rw [zbg_ne c hx, zbg_ne c hx, zbg_a c f kd 19 (by omega)]
      exact r6 x x1 x2 (fun w => x3 (Or.inl w))
  · obtain ⟨z1, z2, z3, z4, z5⟩ := s1.1 k hk1
    show 1 ≤ s 8 k ∧ zsbg s f kd 3 (s 8 k) = 2 ∧ 1 ≤ s 9 k ∧ zsbg s f kd 3 (s 9 k) ≠ 0 ∧ s 9 k ≠ 1
    rw [e3, e3, if_neg (h8 k hk1), if_neg (h9 k hk1)]
    exact ⟨z1, z2, z3, z4, z5⟩
  · have e2 : zsbg s f kd 3 (s 9 k) = 2 := e2
    rw [e3, if_neg (h9 k k1)] at e2
    exact s1.2.2 k l k1 l1 e1 e2
  · rw [e3, if_neg (by omega)]
    exact s2
  · rw [e3, if_neg (by omega)]
    exact s3
  · by_cases hx : x = f
    · exact absurd (Or.inr hx) x4
    · rw [e3, if_neg hx] at x3
      rw [e5, if_neg hx]
      exact s4 x x1 x2 x3 (fun w => x4 (Or.inl w))
  · rw [e5]
    by_cases hx : x = f
    · rw [if_pos hx]
    · rw [if_neg hx]
      rw [e3, if_neg hx] at x1
      exact s5 x x1
  · rw [e5]
    split
    · omega
    · exact s6 x
  · by_cases hx : x = f
    · refine ⟨1, ?_⟩
      show zmpa (zsbg s f kd) x (s 0 10) = 1
      rw [hpa, hx]
      rcases zmpa_cs (s := s) f (s 0 10) with ⟨d, dn⟩ | ⟨j, j1, j2, d⟩
      · exact d
      · exact absurd j2 (h9 j j1)
    · rw [e3, if_neg hx] at x2
      obtain ⟨m, hm⟩ := s7 x x1 x2
      exact ⟨m, (zit_cg (s := s) hpa m x).trans hm⟩
  · by_cases hx : x = f
    · exact absurd (Or.inr hx) x3
    · rw [e3, if_neg hx] at x2
      exact s8 x x1 x2 (fun w => x3 (Or.inl w))
  · rw [e4]
    by_cases hx : x = f
    · rw [if_pos hx, hx]
      exact Nat.le_of_eq (zmni_z (s := s) h8)
    · rw [if_neg hx]
      exact s10 x x1
def zstg (s : Nat → Nat → Nat) (f n : Nat) (g : Nat → Nat) : Nat → Nat → Nat := zwr (zup s 6 f n) 7 (1000 * f) n g
theorem zIX_tg {h0 h1 : zm_H} {c c2 s : Nat → Nat → Nat} {P T : Nat → Prop} (h : zIX h0 c s P T) {f a n : Nat} {g g2 : Nat → Nat} (hf1 : 1 ≤ f) (hf2 : f ≤ 40) (hk : s 3 f = 3) (hn : 1 ≤ n ∧ n ≤ 1000) (hg : ∀ i, i < n → g2 i = g i) (hN : zNB 8 9 1000 h0 h1 c c2 f a n g) : zIX h1 c2 (zstg s f n g2) P (fun x => T x ∧ x ≠ f) := by
  obtain ⟨i1, i2, i3, ⟨r1, r2, r3, r4, r5, r6, ⟨la, r7⟩, r8, r9, r10⟩, ⟨s1, s2, s3, s4, s5, s6, s7, s8, s10⟩, i6⟩ := h
  obtain ⟨b1, b2, b3, b4⟩ := zNB_8 hN i6 i1
  obtain ⟨n1, n2, n3, n4, n5, n6, n7, n8, hI2⟩ := hN
  have ea : ∀ A, A ≠ 19 → A ≠ 8 → A ≠ 9 → c2 A = c A := fun A h19 h8 h9 => funext (fun j => n7 A j h19 (fun z => h8 z.1) (fun z => h9 z.1))
  have e6 : ∀ x, zstg s f n g2 6 x = if x = f then n else s 6 x := fun x => zup_at s 6 f n x
  have e7 : ∀ x i, x ≠ f → i < 1000 → zstg s f n g2 7 (1000 * x + i) = s 7 (1000 * x + i) := fun x i hx hi => zwr_out _ _ (by omega)
  have hu : zUS c2 = zUS c := by
    unfold zUS
    rw [ea 0 (by decide) (by decide) (by decide), ea 10 (by decide) (by decide) (by decide)]
  have gb : ∀ i, i < n → g2 i ≤ 255 := fun i hi => by
    rw [hg i hi, ← n6 i hi]
    exact hI2 19 _
  have hpa : ∀ x, zmpa (zstg s f n g2) x (s 0 10) = zmpa s x (s 0 10) := fun x => zmpa_cg (s := s) _ (fun _ _ => rfl) (fun _ _ => rfl)
  have hi3 : zMI (zstg s f n g2) := zMI_wr (zMI_up i3 (show n ≤ 1000 from hn.2)) (fun i hi => show g2 i ≤ 255 from gb i hi)
  have nz13 : ∀ R, zUS c R → c 13 R ≠ 0 := fun R hR z => by
    have := (r8 R hR).1
    omega
  refine ⟨zEX_CS n1 i1, hI2, hi3, ⟨?_, fun i hi => ?_, ?_, fun x x1 x2 x3 => ?_, fun x x1 x2 => ?_, fun x x1 x2 x3 => ?_, ⟨la, ?_⟩, fun R hR => ?_, ?_, ?_⟩, ⟨s1, s2, s3, s4, s5, s6, fun x x1 x2 => ?_, fun x x1 x2 x3 => ?_, s10⟩, b4⟩
  · rw [ea 0 (by decide) (by decide) (by decide)]
    exact r1
  · exact (b3 i hi).trans (r2 i hi)
  · rw [ea 2 (by decide) (by decide) (by decide)]
    exact r3
  · unfold zRF
    rw [ea 3 (by decide) (by decide) (by decide), ea 4 (by decide) (by decide) (by decide), ea 5 (by decide) (by decide) (by decide), ea 6 (by decide) (by decide) (by decide)]
    exact r4 x x1 x2 x3
  · rw [ea 7 (by decide) (by decide) (by decide)]
    refine ⟨fun z hp => ?_, (r5 x x1 x2).2⟩
    exact ((r5 x x1 x2).1 z hp).trans (hpa x).symm
  · by_cases hx : x = f
    · rw [hx]
      unfold zRT
      rw [n4, n5, e6, if_pos rfl]
      refine ⟨n2, rfl, fun i hi => ?_⟩
      rw [n6 i hi]
      refine (hg i hi).symm.trans ?_
      show g2 i = zwr (zup s 6 f n) 7 (1000 * f) n g2 7 (1000 * f + i)
      rw [zwr_in _ _ (by omega) (by omega), Nat.add_sub_cancel_left]
    · obtain ⟨z1, z2, z3⟩ := r6 x x1 x2 (fun w => x3 ⟨w, hx⟩)
      have e8 : c2 8 x = c 8 x := n7 8 x (by decide) (fun z => hx z.2) (by omega)
      have e9 : c2 9 x = c 9 x := n7 9 x (by decide) (by omega) (fun z => hx z.2)
      have hnz : c 8 x ≠ 0 := fun z => by
        have := z1.1
        omega
      unfold zRT
      rw [e9, e6, if_neg hx]
      refine ⟨by rw [e8]; exact zEX_ga n1 z1, z2, fun i hi => ?_⟩
      have hs6 : s 6 x ≤ 1000 := i3 6 x
      rw [b1 x hx hnz i (by omega), e7 x i hx (by omega)]
      exact z3 i hi
  · refine zRS_cg (s := zstg s f n g2) (Y := zUS c) (D := c 11) (F := c 12) (M := zcn c) r7 (fun R => by rw [hu]) (fun R _ => by rw [ea 11 (by decide) (by decide) (by decide)]) (fun R _ => by rw [ea 12 (by decide) (by decide) (by decide)]) (fun R hR => b2 R (nz13 R hR))
  · rw [hu] at hR
    rw [ea 13 (by decide) (by decide) (by decide)]
    exact zEX_ga n1 (r8 R hR)
  · rw [ea 10 (by decide) (by decide) (by decide)]
    exact r9
  · rw [ea 10 (by decide) (by decide) (by decide)]
    exact r10
  · obtain ⟨m, hm⟩ := s7 x x1 x2
    exact ⟨m, (zit_cg (s := s) hpa m x).trans hm⟩
  · rw [e6]
    by_cases hx : x = f
    · rw [if_pos hx]
      exact hn.1
    · rw [if_neg hx]
      exact s8 x x1 x2 (fun w => x3 ⟨w, hx⟩)
