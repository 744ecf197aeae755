/-! a name is given on both sides -/
theorem zmno_l (s : Nat → Nat → Nat) (f n : Nat) : zmno s f n ≤ n := Nat.le_trans (zsum_le n (fun k _ => by show (if s 9 k = f then 1 else 0) ≤ 1; split <;> decide)) (Nat.le_of_eq (Nat.mul_one n))
theorem zmni_l (s : Nat → Nat → Nat) (f n : Nat) : zmni s f n ≤ n := Nat.le_trans (zsum_le n (fun k _ => by show (if s 8 k = f then 1 else 0) ≤ 1; split <;> decide)) (Nat.le_of_eq (Nat.mul_one n))
theorem zad_pa {s : Nat → Nat → Nat} {dd n f : Nat} {g : Nat → Nat} (x : Nat) : zmpa (zad1 s dd n g f) x (s 0 10 + 1) = if f = x then dd else zmpa s x (s 0 10) := by
  conv => lhs; unfold zmpa
  rw [zad_9, zad_8, if_pos rfl, if_pos rfl]
  by_cases h : f = x
  · rw [if_pos h, if_pos h]
  · rw [if_neg h, if_neg h]
    refine zmpa_cg _ (fun k hk => ?_) (fun k hk => ?_)
    · rw [zad_9, if_neg (by omega)]
    · rw [zad_8, if_neg (by omega)]
theorem zls_g {g g2 : Nat → Nat} {n : Nat} (h : ∀ i, i < n → g2 i = g i) : zls g2 0 (0 + n) = zls g 0 (0 + n) := zls_congr (fun i _ h2 => h i (by omega))
theorem zIX_gv {h0 h1 : zm_H} {c c2 s : Nat → Nat → Nat} {P T : Nat → Prop} (h : zIX h0 c s P T) {R a dd n f : Nat} {g g2 : Nat → Nat} (hN : zNB 13 14 255 h0 h1 (zup c 0 2 (c 0 2 + 1)) c2 R a n g) (hR : c 10 (c 0 2) = R) (hu : c 0 2 < 60) (hd1 : 1 ≤ dd) (hd2 : dd ≤ 40) (hdk : s 3 dd = 2) (hf1 : 2 ≤ f) (hf2 : f ≤ 40) (hfk : s 3 f ≠ 0) (hn : n ≤ 255) (hl : zlkn s dd (zls g2 0 (0 + n)) (s 0 10) = none) (h2f : s 3 f = 2 → zmno s f (s 0 10) = 0 ∧ ∀ m, zit s m dd ≠ f) (hg : ∀ i, i < n → g2 i = g i) (hgb : ∀ i, g2 i ≤ 255) : zIX h1 (zgv c2 R dd f) (zadd s dd n g2 f) (fun x => P x ∧ x ≠ f) T := by
  obtain ⟨i1, i2, i3, ⟨r1, r2, r3, r4, r5, r6, ⟨la, r7⟩, r8, r9, r10⟩, ⟨s1, s2, s3, s4, s5, s6, s7, s8, s10⟩, i6⟩ := h
  obtain ⟨b1, b2, b3, b4, b5⟩ := zNB_13 hN i6 i1
  obtain ⟨n1, n2, n3, n4, n5, n6, n7, n8, hI2⟩ := hN
  have ea : ∀ A, A ≠ 19 → A ≠ 13 → A ≠ 14 → A ≠ 0 → c2 A = c A := fun A h19 h8 h9 h0 => funext (fun j => (n7 A j h19 (fun z => h8 z.1) (fun z => h9 z.1)).trans (zup_na _ _ h0))
  have e02 : c2 0 2 = c 0 2 + 1 := (n7 0 2 (by decide) (by omega) (by omega)).trans (zup_same _ _ _ _)
  have e00 : ∀ j, j ≠ 2 → c2 0 j = c 0 j := fun j hj => (n7 0 j (by decide) (by omega) (by omega)).trans (zup_nj _ _ hj)
  have q2 := ea 2 (by decide) (by decide) (by decide) (by decide)
  have q3 := ea 3 (by decide) (by decide) (by decide) (by decide)
  have q4 := ea 4 (by decide) (by decide) (by decide) (by decide)
  have q5 := ea 5 (by decide) (by decide) (by decide) (by decide)
  have q6 := ea 6 (by decide) (by decide) (by decide) (by decide)
  have q7 := ea 7 (by decide) (by decide) (by decide) (by decide)
  have q8 := ea 8 (by decide) (by decide) (by decide) (by decide)
  have q9 := ea 9 (by decide) (by decide) (by decide) (by decide)
  have q10 := ea 10 (by decide) (by decide) (by decide) (by decide)
  have q11 := ea 11 (by decide) (by decide) (by decide) (by decide)
  have q12 := ea 12 (by decide) (by decide) (by decide) (by decide)
  have hN60 : s 0 10 < 60 := by rw [r1.2.2]; exact hu
  have e10 : zadd s dd n g2 f 0 10 = s 0 10 + 1 := rfl
  have e3 : ∀ x, zadd s dd n g2 f 3 x = s 3 x := fun x => rfl
  have e5 : ∀ x, zadd s dd n g2 f 5 x = s 5 x := fun x => rfl
  have e6 : ∀ x, zadd s dd n g2 f 6 x = s 6 x := fun x => rfl
  have eno : ∀ x, zmno (zadd s dd n g2 f) x (s 0 10 + 1) = zmno s x (s 0 10) + (if f = x then 1 else 0) := fun x => zad_no s dd n g2 f x
  have eni : ∀ x, zmni (zadd s dd n g2 f) x (s 0 10 + 1) = zmni s x (s 0 10) + (if dd = x then 1 else 0) := fun x => zad_ni s dd n g2 f x
  have epa : ∀ x, zmpa (zadd s dd n g2 f) x (s 0 10 + 1) = if f = x then dd else zmpa s x (s 0 10) := fun x => (zmpa_cg (s := zad1 s dd n g2 f) (t := zadd s dd n g2 f) _ (fun _ _ => rfl) (fun _ _ => rfl)).trans (zad_pa x)
  have e4 : ∀ x, zadd s dd n g2 f 4 x = if x = dd then max (s 4 dd) (zmni s dd (s 0 10) + 1) else s 4 x := fun x => by
    refine (zup_at _ 4 dd _ x).trans ?_
    rw [zad_ni, if_pos rfl]
    by_cases hx : x = dd
    · rw [if_pos hx, if_pos hx]
      split <;> omega
    · rw [if_neg hx, if_neg hx]
      rfl
  have hUR : ¬ zUS c R := fun ⟨i, j1, j2⟩ => by
    have := r10 i (c 0 2) (by omega) hu (by rw [j2, hR])
    omega
  have hUS : ∀ x, zUS (zgv c2 R dd f) x ↔ zUS c x ∨ x = R := by
    intro x
    have u0 : zUS (zgv c2 R dd f) x ↔ ∃ i, i < c 0 2 + 1 ∧ c 10 i = x := by
      unfold zUS
      rw [zgv_a c2 R dd f 0 (by omega), zgv_a c2 R dd f 10 (by omega), e02, q10]
    rw [u0]
    constructor
    · rintro ⟨i, j1, j2⟩
      by_cases hi : i = c 0 2
      · exact Or.inr (by rw [← j2, hi, hR])
      · exact Or.inl ⟨i, by omega, j2⟩
    · rintro (⟨i, j1, j2⟩ | hx)
      · exact ⟨i, by omega, j2⟩
      · exact ⟨c 0 2, by omega, by rw [hx, hR]⟩
  have nz13 : ∀ x, zUS c x → c 13 x ≠ 0 := fun x hx z => by
    have := (r8 x hx).1
    omega
  have e19 : zgv c2 R dd f 19 = c2 19 := zgv_a c2 R dd f 19 (by omega)
  have hkey : zRS (zadd s dd n g2 f) (zuf la (s 0 10) R) (fun x => zUS c x ∨ x = R) (zuf (c 11) R dd) (zuf (c 12) R f) (zuf (zcn c) R (zls g2 0 (0 + n))) := by
    obtain ⟨k1, k2, k3⟩ := zad_RS i3 r7 (dd := dd) (f := f) (g := g2) hn hUR
    exact ⟨k1, k2, k3⟩
  have e8c : zgv c2 R dd f 8 = c2 8 := zgv_a c2 R dd f 8 (by omega)
  have e9c : zgv c2 R dd f 9 = c2 9 := zgv_a c2 R dd f 9 (by omega)
  have e13c : zgv c2 R dd f 13 = c2 13 := zgv_a c2 R dd f 13 (by omega)
  have e14c : zgv c2 R dd f 14 = c2 14 := zgv_a c2 R dd f 14 (by omega)
  have ecn : ∀ x, zcn (zgv c2 R dd f) x = zcn c2 x := fun x => by
    unfold zcn
    rw [e19, e13c, e14c]
  obtain ⟨d1, d2, d3, d4⟩ := r4 dd hd1 hd2 (by rw [hdk]; decide)
  obtain ⟨f3, f4, f5, f6⟩ := r4 f (by omega) hf2 hfk
  have hI : zCI (zgv c2 R dd f) := by
    refine zCI_gv hI2 hd2 hf2 ?_ ?_
    · rw [q5, d3]
      have := zmni_l s dd (s 0 10)
      omega
    · rw [q3, f3]
      have := zmno_l s f (s 0 10)
      omega
  have hch : s 3 f = 2 → ∀ m, zit (zadd s dd n g2 f) m dd = zit s m dd := fun hk2 m => zit_av (g := f) (fun x x1 x2 => (epa x).trans (if_neg (fun z => x2 z.symm))) (fun x => (zmpa_ok s1 s3 x).2) hdk (h2f hk2).2 m
  refine ⟨zEX_CS n1 i1, hI, zMI_add i3 hd2 hn hgb hf2 hN60, ⟨⟨?_, ?_, ?_⟩, fun i hi => ?_, fun x x1 => ?_, fun x x1 x2 x3 => ⟨?_, ?_, ?_, ?_⟩, fun x x1 x2 => ⟨fun x3 hp => ?_, fun x3 => ?_⟩, fun x x1 x2 x3 => ?_, ⟨_, zRS_cg (s := zadd s dd n g2 f) hkey hUS ?_ ?_ ?_⟩, fun x hx => ?_, fun i hi => ?_, fun i j hi hj e => ?_⟩, ⟨?_, s2, s3, fun x x1 x2 x3 hp => ?_, s5, s6, fun x x1 x2 => ?_, fun x x1 x2 x3 => s8 x x1 x2 x3, fun x x1 => ?_⟩, ?_⟩
  · rw [zgv_a c2 R dd f 0 (by omega), e00 0 (by decide)]
    exact r1.1
  · rw [zgv_a c2 R dd f 0 (by omega), e00 1 (by decide)]
    exact r1.2.1
  · rw [zgv_a c2 R dd f 0 (by omega), e02, e10, r1.2.2]
  · rw [e19]
    exact (b4 i hi).trans (r2 i hi)
  · rw [zgv_a c2 R dd f 2 (by omega), q2]
    exact r3 x x1
  · rw [zgv_3, e10, eno, q3, (r4 x x1 x2 x3).1]
    by_cases hx : x = f
    · rw [if_pos hx, if_pos hx.symm]
    · rw [if_neg hx, if_neg (fun z => hx z.symm)]
      rfl
  · rw [zgv_a c2 R dd f 4 (by omega), q4]
    exact (r4 x x1 x2 x3).2.1
  · rw [zgv_5, e10, eni, q5, (r4 x x1 x2 x3).2.2.1]
    by_cases hx : x = dd
    · rw [if_pos hx, if_pos hx.symm]
    · rw [if_neg hx, if_neg (fun z => hx z.symm)]
      rfl
  · rw [zgv_6, e4, q6, q5]
    by_cases hx : x = dd
    · rw [if_pos hx, if_pos hx, hx, d3, d4]
    · rw [if_neg hx, if_neg hx]
      exact (r4 x x1 x2 x3).2.2.2
  · rw [zgv_7, e10, epa, q2, q7, r3 f hf2]
    by_cases hx : x = f
    · have x3 : s 3 x = 2 := x3
      rw [hx] at x3
      rw [if_pos ⟨hx, x3⟩, if_pos hx.symm]
    · rw [if_neg (fun z => hx z.1), if_neg (fun z => hx z.symm)]
      exact (r5 x x1 x2).1 x3 (fun w => hp ⟨w, hx⟩)
  · rw [zgv_7, q2, q7, r3 f hf2]
    have x3 : s 3 x ≠ 2 := x3
    rw [if_neg (fun z => x3 (by rw [z.1]; exact z.2))]
    exact (r5 x x1 x2).2 x3
  · obtain ⟨z1, z2, z3⟩ := r6 x x1 x2 x3
    have hnz : c 8 x ≠ 0 := fun z => by
      have := z1.1
      omega
    have hs6 : s 6 x ≤ 1000 := i3 6 x
    unfold zRT
    rw [e19, e8c, e9c, q9]
    refine ⟨by rw [q8]; exact zEX_ga n1 z1, z2, fun i hi => ?_⟩
    have hi : i < s 6 x := hi
    exact (b3 x hnz i (by omega)).trans (z3 i hi)
  · intro x hx
    rw [zgv_11, q11]
    rfl
  · intro x hx
    rw [zgv_12, q12]
    rfl
  · intro x hx
    rw [ecn]
    unfold zuf
    by_cases hxR : x = R
    · rw [if_pos hxR, hxR, b2]
      exact (zls_g hg).symm
    · rw [if_neg hxR]
      have hxU : zUS c x := hx.resolve_right hxR
      exact b1 x hxR (nz13 x hxU)
  · rw [e13c]
    rcases (hUS x).mp hx with hx | hx
    · have hne : x ≠ R := fun z => hUR (z ▸ hx)
      rw [n7 13 x (by decide) (fun z => hne z.2) (by omega)]
      exact zEX_ga n1 (r8 x hx)
    · rw [hx, n4]
      exact n2
  · rw [zgv_a c2 R dd f 10 (by omega), q10]
    exact r9 i hi
  · rw [zgv_a c2 R dd f 10 (by omega), q10] at e
    exact r10 i j hi hj e
  · exact zad_SN i3 s1 hn ⟨hd1, hdk⟩ ⟨by omega, hfk, by omega⟩ hl (fun hk2 k hk => zmno_0 (h2f hk2).1 hk)
  · rw [e10, eno]
    by_cases hx : x = f
    · rw [if_pos hx.symm]
      exact Or.inl (by omega)
    · rw [if_neg (fun z => hx z.symm)]
      exact s4 x x1 x2 x3 (fun w => hp ⟨w, hx⟩)
  · obtain ⟨m, hm⟩ := s7 x x1 x2
    refine zit_ch (s := s) (g := f) (fun y => (zmpa_ok s1 s3 y).2) (fun y y1 y2 => (epa y).trans (if_neg (fun z => y2 z.symm))) (fun hk2 => ?_) m x x2 hm
    obtain ⟨m2, hm2⟩ := s7 dd hd2 hdk
    refine ⟨m2 + 1, ?_⟩
    show zit (zadd s dd n g2 f) m2 (zmpa (zadd s dd n g2 f) f (s 0 10 + 1)) = 1
    rw [epa, if_pos rfl, hch hk2 m2]
    exact hm2
  · rw [e10, eni, e4]
    have := s10 x x1
    by_cases hx : x = dd
    · rw [if_pos hx, if_pos hx.symm, hx]
      omega
    · rw [if_neg hx, if_neg (fun z => hx z.symm)]
      exact this
  · unfold zCA
    rw [e8c, e13c]
    exact b5
