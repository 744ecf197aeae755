/-! class and reference step by step: what holds between the steps -/
theorem zmpa_cg {s t : Nat → Nat → Nat} {f : Nat} : ∀ n, (∀ k, k < n → t 9 k = s 9 k) → (∀ k, k < n → t 8 k = s 8 k) → zmpa t f n = zmpa s f n
  | 0, _, _ => rfl
  | n + 1, h9, h8 => by
    unfold zmpa
    rw [h9 n (by omega), h8 n (by omega), zmpa_cg n (fun k hk => h9 k (by omega)) (fun k hk => h8 k (by omega))]
theorem zit_cg {s t : Nat → Nat → Nat} (h : ∀ x, zmpa t x (t 0 10) = zmpa s x (s 0 10)) : ∀ m f, zit t m f = zit s m f
  | 0, _ => rfl
  | m + 1, f => by
    show zit t m (zmpa t f (t 0 10)) = zit s m (zmpa s f (s 0 10))
    rw [h, zit_cg h m]
/-- the chain of folders, one link of it changed -/
theorem zit_ch {s t : Nat → Nat → Nat} {g : Nat} (hk : ∀ x, s 3 (zmpa s x (s 0 10)) = 2) (h : ∀ x, s 3 x = 2 → x ≠ g → zmpa t x (t 0 10) = zmpa s x (s 0 10)) (hg : s 3 g = 2 → ∃ m, zit t m g = 1) : ∀ m f, s 3 f = 2 → zit s m f = 1 → ∃ m2, zit t m2 f = 1
  | 0, f, _, e => ⟨0, e⟩
  | m + 1, f, h2, e => by
    by_cases hf : f = g
    · rw [hf]
      exact hg (hf ▸ h2)
    · obtain ⟨m2, e2⟩ := zit_ch hk h hg m _ (hk f) e
      refine ⟨m2 + 1, ?_⟩
      show zit t m2 (zmpa t f (t 0 10)) = 1
      rw [h f h2 hf]
      exact e2
theorem zit_av {s t : Nat → Nat → Nat} {g : Nat} (h : ∀ x, s 3 x = 2 → x ≠ g → zmpa t x (t 0 10) = zmpa s x (s 0 10)) (hk : ∀ x, s 3 (zmpa s x (s 0 10)) = 2) {d : Nat} (hd : s 3 d = 2) (ha : ∀ m, zit s m d ≠ g) : ∀ m, zit t m d = zit s m d := by
  have key : ∀ m x, s 3 x = 2 → (∀ j, zit s j x ≠ g) → zit t m x = zit s m x := by
    intro m
    induction m with
    | zero => intro x _ _; rfl
    | succ m ih =>
      intro x hx hax
      show zit t m (zmpa t x (t 0 10)) = zit s m (zmpa s x (s 0 10))
      rw [h x hx (hax 0)]
      exact ih _ (hk x) (fun j => hax (j + 1))
  exact fun m => key m d hd ha
def zRQ (h0 : zm_H) (c s : Nat → Nat → Nat) (P T : Nat → Prop) : Prop :=
  (s 0 0 = c 0 0 ∧ s 0 1 = c 0 1 ∧ s 0 10 = c 0 2) ∧ (∀ i, i < 1200 → c 19 (1200 * 3 + i) = s 1 i) ∧ (∀ f, f ≤ 40 → c 2 f = s 3 f) ∧ (∀ f, 1 ≤ f → f ≤ 40 → s 3 f ≠ 0 → zRF c s f) ∧ (∀ f, 1 ≤ f → f ≤ 40 → (s 3 f = 2 → ¬ P f → c 7 f = zmpa s f (s 0 10)) ∧ (s 3 f ≠ 2 → c 7 f = 0)) ∧ (∀ f, f ≤ 40 → s 3 f = 3 → ¬ T f → zRT h0 c s f) ∧ (∃ la, zRS s la (zUS c) (c 11) (c 12) (zcn c)) ∧ (∀ R, zUS c R → zga h0 (c 13 R) 255) ∧ (∀ i, i < 60 → 1 ≤ c 10 i) ∧ (∀ i j, i < 60 → j < 60 → c 10 i = c 10 j → i = j)
def zSQ (s : Nat → Nat → Nat) (P T : Nat → Prop) : Prop :=
  zSN s ∧ s 3 0 = 0 ∧ s 3 1 = 2 ∧ (∀ f, 2 ≤ f → f ≤ 40 → s 3 f ≠ 0 → ¬ P f → 1 ≤ zmno s f (s 0 10) ∨ 1 ≤ s 5 f) ∧ (∀ f, s 3 f ≠ 1 → s 5 f = 0) ∧ (∀ f, s 5 f ≤ 100) ∧ (∀ f, f ≤ 40 → s 3 f = 2 → ∃ m, zit s m f = 1) ∧ (∀ f, f ≤ 40 → s 3 f = 3 → ¬ T f → 1 ≤ s 6 f) ∧ (∀ f, f ≤ 40 → zmni s f (s 0 10) ≤ s 4 f)
/-- class and reference agree, but for the files P (no name, for the moment) and T (no target yet) -/
def zIX (h0 : zm_H) (c s : Nat → Nat → Nat) (P T : Nat → Prop) : Prop := zCS h0 ∧ zCI c ∧ zMI s ∧ zRQ h0 c s P T ∧ zSQ s P T ∧ zCA h0 c
def zno : Nat → Prop := fun _ => False
theorem zIX_of {h0 : zm_H} {c s : Nat → Nat → Nat} (h : zIV h0 c s) : zIX h0 c s zno zno := by
  obtain ⟨i1, i2, i3, ⟨r1, r2, r3, r4, r5, r6, r7, r8, r9, r10⟩, ⟨s1, s2, s3, s4, s5, s6, s7, s8, s9, s10⟩, i6⟩ := h
  refine ⟨i1, i2, i3, ⟨r1, r2, r3, r4, fun f h1 h2 => ⟨fun h3 _ => ?_, fun h3 => ?_⟩, fun f h1 h2 _ => r6 f h1 h2, r7, r8, r9, r10⟩, ⟨s1, s2, s3, fun f h1 h2 h3 _ => s4 f h1 h2 h3, s5, s6, s7, fun f h1 h2 _ => s8 f h1 h2, s10⟩, i6⟩
  · rw [r5 f h1 h2, if_pos h3]
  · rw [r5 f h1 h2, if_neg h3]
theorem zIV_of {h0 : zm_H} {c s : Nat → Nat → Nat} {P T : Nat → Prop} (hP : ∀ x, ¬ P x) (hT : ∀ x, ¬ T x) (h : zIX h0 c s P T) (hm : zmat s ≤ s 0 0) : zIV h0 c s := by
  obtain ⟨i1, i2, i3, ⟨r1, r2, r3, r4, r5, r6, r7, r8, r9, r10⟩, ⟨s1, s2, s3, s4, s5, s6, s7, s8, s10⟩, i6⟩ := h
  refine ⟨i1, i2, i3, ⟨r1, r2, r3, r4, fun f h1 h2 => ?_, fun f h1 h2 => r6 f h1 h2 (hT f), r7, r8, r9, r10⟩, ⟨s1, s2, s3, fun f h1 h2 h3 => s4 f h1 h2 h3 (hP f), s5, s6, s7, fun f h1 h2 => s8 f h1 h2 (hT f), hm, s10⟩, i6⟩
  by_cases h3 : s 3 f = 2
  · rw [if_pos h3]
    exact (r5 f h1 h2).1 h3 (hP f)
  · rw [if_neg h3]
    exact (r5 f h1 h2).2 h3
theorem zRS_cg {s : Nat → Nat → Nat} {la : Nat → Nat} {Y Y2 : Nat → Prop} {D F D2 F2 : Nat → Nat} {M M2 : Nat → List Nat} (h : zRS s la Y D F M) (hY : ∀ R, Y2 R ↔ Y R) (hD : ∀ R, Y R → D2 R = D R) (hF : ∀ R, Y R → F2 R = F R) (hM : ∀ R, Y R → M2 R = M R) : zRS s la Y2 D2 F2 M2 := by
  obtain ⟨h1, h2, h3⟩ := h
  refine ⟨fun k hk => ?_, fun R hR => h2 R ((hY R).mp hR), h3⟩
  obtain ⟨y1, y2, y3, y4⟩ := h1 k hk
  exact ⟨(hY _).mpr y1, (hD _ y1).trans y2, (hF _ y1).trans y3, (hM _ y1).trans y4⟩
theorem zrm_pa {s : Nat → Nat → Nat} (hN : zSN s) {k f : Nat} (hk : k < s 0 10) (hf : f ≠ s 9 k) (h2 : s 3 f = 2) : zmpa (zrm1 s k) f (s 0 10 - 1) = zmpa s f (s 0 10) := by
  rcases zmpa_cs (s := s) f (s 0 10) with ⟨e, en⟩ | ⟨l, l1, l2, e⟩ <;> rcases zmpa_cs (s := zrm1 s k) f (s 0 10 - 1) with ⟨d, dn⟩ | ⟨j, j1, j2, d⟩
  · rw [e, d]
  · rw [zrm_9] at j2
    exact absurd j2 (en _ (zpx_lt hk j1).1)
  · obtain ⟨j, j1, j2⟩ := zpx_su l1 (fun z => hf (by rw [← z, l2])) hk
    exact absurd (by rw [zrm_9, j2, l2]) (dn j j1)
  · rw [zrm_9] at j2
    rw [zrm_8] at d
    have : zpx k (s 0 10 - 1) j = l := hN.2.2 _ _ (zpx_lt hk j1).1 l1 (j2.trans l2.symm) (by rw [j2]; exact h2)
    rw [d, e, this]
/-- a folder has one name -/
theorem zmno_f {s : Nat → Nat → Nat} (hN : zSN s) {k : Nat} (hk : k < s 0 10) (h2 : s 3 (s 9 k) = 2) : zmno s (s 9 k) (s 0 10) = 1 :=
  zmno_u hk rfl (fun j hj e => hN.2.2 j k hj hk e (by rw [e]; exact h2))
theorem zIX_dp {h0 : zm_H} {c s : Nat → Nat → Nat} {P T : Nat → Prop} (h : zIX h0 c s P T) {k i R : Nat} (hk : k < s 0 10) (hi : i < c 0 2) (hiR : c 10 i = R) (hD : c 11 R = s 8 k) (hM : zcn c R = znm s k) : c 12 R = s 9 k ∧ zIX h0 (zdp c i R) (zrm1 s k) (fun x => P x ∨ x = s 9 k) T := by
  obtain ⟨i1, i2, i3, ⟨r1, r2, r3, r4, r5, r6, ⟨la, r7⟩, r8, r9, r10⟩, ⟨s1, s2, s3, s4, s5, s6, s7, s8, s10⟩, i6⟩ := h
  have h60 : c 0 2 ≤ 60 := i2 0 2
  have hla : la k = R := by
    obtain ⟨l, l1, l2⟩ := r7.2.1 R ⟨i, hi, hiR⟩
    obtain ⟨y1, y2, y3, y4⟩ := r7.1 l l1
    rw [l2] at y2 y4
    have : l = k := s1.2.1 l k l1 hk (by rw [← y2, hD]) (by rw [← y4, hM])
    rw [← this, l2]
  have hF : c 12 R = s 9 k := by
    have := (r7.1 k hk).2.2.1
    rw [hla] at this
    exact this
  have hR60 : R ≤ 60 := by rw [← hiR]; exact i2 10 i
  have e3 : ∀ x, zrm1 s k 3 x = s 3 x := fun x => rfl
  have e10 : zrm1 s k 0 10 = s 0 10 - 1 := rfl
  refine ⟨hF, i1, zCI_dp i2 hR60, zMI_rm1 i3 k, ⟨⟨r1.1, r1.2.1, ?_⟩, ?_, ?_, ?_, ?_, ?_, ⟨_, zRS_cg (zrm_RS i3 r7 hk) ?_ ?_ ?_ ?_⟩, ?_, (zdp_rows hi h60 hiR r9 r10).1, (zdp_rows hi h60 hiR r9 r10).2⟩, ⟨zrm_SN i3 s1 hk, s2, s3, ?_, s5, s6, ?_, s8, ?_⟩, ?_⟩
  · rw [e10, zdp_2, r1.2.2]
  · intro j hj
    rw [zdp_a c i R 19 (by omega)]
    exact r2 j hj
  · intro f hf
    rw [zdp_a c i R 2 (by omega)]
    exact r3 f hf
  · intro f f1 f2 f3
    obtain ⟨y1, y2, y3, y4⟩ := r4 f f1 f2 f3
    refine ⟨?_, ?_, ?_, ?_⟩
    · rw [zdp_3, hF, e10, y1]
      have := zrm_no s hk f
      by_cases hx : f = s 9 k
      · rw [if_pos hx]
        rw [if_pos hx.symm] at this
        omega
      · rw [if_neg hx]
        rw [if_neg (fun z => hx z.symm)] at this
        omega
    · rw [zdp_a c i R 4 (by omega)]
      exact y2
    · rw [zdp_5, hD, e10, y3]
      have := zrm_ni s hk f
      by_cases hx : f = s 8 k
      · rw [if_pos hx]
        rw [if_pos hx.symm] at this
        omega
      · rw [if_neg hx]
        rw [if_neg (fun z => hx z.symm)] at this
        omega
    · rw [zdp_a c i R 6 (by omega)]
      exact y4
  · intro f f1 f2
    rw [zdp_a c i R 7 (by omega), e3, e10]
    refine ⟨fun h3 hp => ?_, (r5 f f1 f2).2⟩
    rw [zrm_pa s1 hk (fun z => hp (Or.inr z)) h3]
    exact (r5 f f1 f2).1 h3 (fun z => hp (Or.inl z))
  · intro f f1 f2 f3
    obtain ⟨y1, y2, y3⟩ := r6 f f1 f2 f3
    unfold zRT
    rw [zdp_a c i R 8 (by omega), zdp_a c i R 9 (by omega), zdp_a c i R 19 (by omega)]
    exact ⟨y1, y2, y3⟩
  · intro x
    rw [zdp_US hi h60 hiR r10, hla]
  · intro x hx
    rw [zdp_11, if_neg (fun z => hx.2 (by rw [hla]; exact z))]
  · intro x hx
    rw [zdp_12, if_neg (fun z => hx.2 (by rw [hla]; exact z))]
  · intro x hx
    exact zdp_cn c i R x
  · intro x hx
    rw [zdp_a c i R 13 (by omega)]
    exact r8 x ((zdp_US hi h60 hiR r10 x).mp hx).1
  · intro f f1 f2 f3 hp
    have := zrm_no s hk f
    rw [if_neg (fun z => hp (Or.inr z.symm))] at this
    rw [e10]
    rcases s4 f f1 f2 f3 (fun z => hp (Or.inl z)) with y | y
    · exact Or.inl (by omega)
    · exact Or.inr y
  · intro f f1 f2
    obtain ⟨m, hm⟩ := s7 f f1 f2
    refine zit_ch (g := s 9 k) (fun x => (zmpa_ok s1 s3 x).2) (fun x x1 x2 => by rw [e10]; exact zrm_pa s1 hk x2 x1) (fun hg => ⟨1, ?_⟩) m f f2 hm
    show zmpa (zrm1 s k) (s 9 k) (s 0 10 - 1) = 1
    rcases zmpa_cs (s := zrm1 s k) (s 9 k) (s 0 10 - 1) with ⟨d, dn⟩ | ⟨j, j1, j2, d⟩
    · exact d
    · rw [zrm_9] at j2
      exact absurd (s1.2.2 _ _ (zpx_lt hk j1).1 hk j2 (by rw [j2]; exact hg)) (zpx_lt hk j1).2
  · intro f f1
    have := zrm_ni s hk f
    have h2 := s10 f f1
    rw [e10]
    show zmni (zrm1 s k) f (s 0 10 - 1) ≤ s 4 f
    omega
  · unfold zCA
    rw [zdp_a c i R 8 (by omega), zdp_a c i R 13 (by omega)]
    exact i6
