/-! rename: the reference's steps, without its hold -/
def zE5 (f : Nat) (s t : Nat → Nat → Nat) : Prop := (∀ a j, a ≠ 5 → t a j = s a j) ∧ ∀ j, j ≠ f → t 5 j = s 5 j
theorem zE5_f {f : Nat} {s t : Nat → Nat → Nat} (h : zE5 f s t) (a : Nat) (ha : a ≠ 5) : t a = s a := funext (fun j => h.1 a j ha)
theorem zE5_up {f : Nat} {s t : Nat → Nat → Nat} (h : zE5 f s t) (a j v : Nat) : zE5 f (zup s a j v) (zup t a j v) := by
  refine ⟨fun b i hb => ?_, fun i hi => ?_⟩
  · by_cases e : b = a ∧ i = j
    · obtain ⟨rfl, rfl⟩ := e
      rw [zup_same, zup_same]
    · rw [zup_ne _ _ e, zup_ne _ _ e]
      exact h.1 b i hb
  · by_cases e : 5 = a ∧ i = j
    · obtain ⟨rfl, rfl⟩ := e
      rw [zup_same, zup_same]
    · rw [zup_ne _ _ e, zup_ne _ _ e]
      exact h.2 i hi
theorem zE5_wr {f : Nat} {s t : Nat → Nat → Nat} (h : zE5 f s t) (a lo n : Nat) (g : Nat → Nat) : zE5 f (zwr s a lo n g) (zwr t a lo n g) := by
  refine ⟨fun b i hb => ?_, fun i hi => ?_⟩
  · by_cases e : b = a ∧ lo ≤ i ∧ i < lo + n
    · obtain ⟨rfl, e1, e2⟩ := e
      rw [zwr_in _ _ e1 e2, zwr_in _ _ e1 e2]
    · rw [zwr_out _ _ e, zwr_out _ _ e]
      exact h.1 b i hb
  · by_cases e : 5 = a ∧ lo ≤ i ∧ i < lo + n
    · obtain ⟨rfl, e1, e2⟩ := e
      rw [zwr_in _ _ e1 e2, zwr_in _ _ e1 e2]
    · rw [zwr_out _ _ e, zwr_out _ _ e]
      exact h.2 i hi
theorem zE5_rm {f : Nat} {s t : Nat → Nat → Nat} (h : zE5 f s t) (k : Nat) : zE5 f (zrm1 s k) (zrm1 t k) := by
  unfold zrm1
  rw [zE5_f h 0 (by decide), zE5_f h 8 (by decide), zE5_f h 9 (by decide), zE5_f h 10 (by decide), zE5_f h 11 (by decide)]
  exact zE5_wr (zE5_up (zE5_up (zE5_up (zE5_up h _ _ _) _ _ _) _ _ _) _ _ _) _ _ _ _
theorem zE5_gu {f : Nat} {s t : Nat → Nat → Nat} (h : zE5 f s t) {g : Nat} (hg : g ≠ f) : zE5 f (zsgu s g) (zsgu t g) := by
  have e : zmno t g (t 0 10) = zmno s g (s 0 10) := by
    unfold zmno
    rw [zE5_f h 0 (by decide), zE5_f h 9 (by decide)]
  unfold zsgu
  rw [e, h.2 g hg]
  split
  · exact zE5_up h _ _ _
  · exact h
theorem zE5_eq {f : Nat} {s t : Nat → Nat → Nat} (h : zE5 f s t) : zup t 5 f (s 5 f) = s := by
  funext a j
  by_cases e : a = 5 ∧ j = f
  · obtain ⟨rfl, rfl⟩ := e
    rw [zup_same]
  · rw [zup_ne _ _ e]
    by_cases ha : a = 5
    · rw [ha]
      exact h.2 j (fun z => e ⟨ha, z⟩)
    · exact h.1 a j ha
theorem zE5_ix {f : Nat} {s t : Nat → Nat → Nat} (h : zE5 f s t) (o : Int32 × Nat × Nat × List Nat × Nat) : zix t o = zix s o := by
  have key : ∀ dd w n, zlkn t dd w n = zlkn s dd w n := by
    intro dd w n
    induction n with
    | zero => rfl
    | succ n ih =>
      unfold zlkn znm
      rw [zE5_f h 8 (by decide), zE5_f h 10 (by decide), zE5_f h 11 (by decide), ih]
  unfold zix
  rw [key, zE5_f h 0 (by decide)]
theorem zsgu_5 (s : Nat → Nat → Nat) (g j : Nat) : zsgu s g 5 j = s 5 j := by
  unfold zsgu
  split <;> rfl
theorem zMv_eq {s : Nat → Nat → Nat} {f k : Nat} {o : Int32 × Nat × Nat × List Nat × Nat} (hf : s 9 k = f) (hg : 0 < o.2.1 → zrm1 s k 9 (zix (zrm1 s k) o) ≠ f) : zup (zsMv2 s f k o) 5 f (zsMv2 s f k o 5 f - 1) = if 0 < o.2.1 then zsgu (zrm1 (zrm1 s k) (zix (zrm1 s k) o)) (zrm1 s k 9 (zix (zrm1 s k) o)) else zrm1 s k := by
  have h0 : zE5 f s (zup s 5 f (s 5 f + 1)) := ⟨fun a j ha => zup_na _ _ ha, fun j hj => zup_nj _ _ hj⟩
  have h1 := zE5_rm h0 k
  have e1 : zsMv1 s f k o = zrm1 (zup s 5 f (s 5 f + 1)) k := by
    unfold zsMv1 zrem
    rw [if_neg]
    intro z
    have z2 : zup s 5 f (s 5 f + 1) 5 (s 9 k) = 0 := z.2
    rw [hf, zup_same] at z2
    omega
  have v1 : zrm1 (zup s 5 f (s 5 f + 1)) k 5 f = s 5 f + 1 := zup_same s 5 f _
  unfold zsMv2
  rw [e1]
  by_cases ho : 0 < o.2.1
  · rw [if_pos ho, if_pos ho, zE5_ix h1, zrem_eq, zE5_f h1 9 (by decide)]
    have h2 := zE5_gu (zE5_rm h1 (zix (zrm1 s k) o)) (hg ho)
    have v2 : zsgu (zrm1 (zrm1 (zup s 5 f (s 5 f + 1)) k) (zix (zrm1 s k) o)) (zrm1 s k 9 (zix (zrm1 s k) o)) 5 f = s 5 f + 1 := by
      rw [zsgu_5]
      exact v1
    rw [v2, Nat.add_sub_cancel]
    have e3 := zE5_eq h2
    rw [zsgu_5] at e3
    exact e3
  · rw [if_neg ho, if_neg ho, v1, Nat.add_sub_cancel]
    exact zE5_eq h1
/-! rename: the class's steps in the reference's order -/
theorem zdp_0 (c : Nat → Nat → Nat) (i R j : Nat) (h : j ≠ 2) : zdp c i R 0 j = c 0 j := by
  show zup _ 0 2 (c 0 2 - 1) 0 j = _
  rw [zup_nj _ _ h]
  rfl
theorem zdp_dp (c : Nat → Nat → Nat) {i1 i2 j1 j2 R1 R2 : Nat} (hR : R1 ≠ R2) (A j : Nat) (hA : A ≠ 10) (hA1 : A ≠ 1) : zdp (zdp c i1 R1) i2 R2 A j = zdp (zdp c j2 R2) j1 R1 A j := by
  have q1 : zdp c i1 R1 11 R2 = c 11 R2 := by rw [zdp_11, if_neg (fun z => hR z.symm)]
  have q2 : zdp c i1 R1 12 R2 = c 12 R2 := by rw [zdp_12, if_neg (fun z => hR z.symm)]
  have q3 : zdp c j2 R2 11 R1 = c 11 R1 := by rw [zdp_11, if_neg hR]
  have q4 : zdp c j2 R2 12 R1 = c 12 R1 := by rw [zdp_12, if_neg hR]
  by_cases a0 : A = 0
  · subst a0
    by_cases hj : j = 2
    · subst hj
      rw [zdp_2, zdp_2, zdp_2, zdp_2]
    · rw [zdp_0 _ _ _ _ hj, zdp_0 _ _ _ _ hj, zdp_0 _ _ _ _ hj, zdp_0 _ _ _ _ hj]
  by_cases a3 : A = 3
  · subst a3
    rw [zdp_3, zdp_3, zdp_3, zdp_3, q2, q4]
    split <;> split <;> rfl
  by_cases a5 : A = 5
  · subst a5
    rw [zdp_5, zdp_5, zdp_5, zdp_5, q1, q3]
    split <;> split <;> rfl
  by_cases a11 : A = 11
  · subst a11
    rw [zdp_11, zdp_11, zdp_11, zdp_11]
    split <;> split <;> rfl
  by_cases a12 : A = 12
  · subst a12
    rw [zdp_12, zdp_12, zdp_12, zdp_12]
    split <;> split <;> rfl
  rw [zdp_a _ _ _ A (by omega), zdp_a _ _ _ A (by omega), zdp_a _ _ _ A (by omega), zdp_a _ _ _ A (by omega)]
theorem zdp_bg (c : Nat → Nat → Nat) {i R g : Nat} (h1 : c 11 R ≠ g) (h2 : c 12 R ≠ g) (A j : Nat) (hA : A ≠ 10) (hA1 : A ≠ 1) : zdp (zbg c g 0) i R A j = zbg (zdp c i R) g 0 A j := by
  have q1 : zbg c g 0 11 = c 11 := zbg_a c g 0 11 (by omega)
  have q2 : zbg c g 0 12 = c 12 := zbg_a c g 0 12 (by omega)
  have q0 : zbg c g 0 0 = c 0 := zbg_a c g 0 0 (by omega)
  by_cases a0 : A = 0
  · subst a0
    rw [zbg_a _ g 0 0 (by omega)]
    by_cases hj : j = 2
    · subst hj
      rw [zdp_2, zdp_2, q0]
    · rw [zdp_0 _ _ _ _ hj, zdp_0 _ _ _ _ hj, q0]
  by_cases a11 : A = 11
  · subst a11
    rw [zbg_a _ g 0 11 (by omega), zdp_11, zdp_11, q1]
  by_cases a12 : A = 12
  · subst a12
    rw [zbg_a _ g 0 12 (by omega), zdp_12, zdp_12, q2]
  by_cases a3 : A = 3
  · subst a3
    rw [zdp_3, q2]
    by_cases hj : j = g
    · rw [hj, if_neg (fun z => h2 z.symm), zbg_3, zbg_3]
    · rw [zbg_ne _ hj, zbg_ne _ hj, zdp_3]
  by_cases a5 : A = 5
  · subst a5
    rw [zdp_5, q1]
    by_cases hj : j = g
    · rw [hj, if_neg (fun z => h1 z.symm), zbg_5, zbg_5]
    · rw [zbg_ne _ hj, zbg_ne _ hj, zdp_5]
  rw [zdp_a _ _ _ A (by omega)]
  by_cases hj : j = g
  · subst hj
    by_cases a2 : A = 2
    · subst a2; rw [zbg_2, zbg_2]
    by_cases a4 : A = 4
    · subst a4; rw [zbg_4, zbg_4]
    by_cases a6 : A = 6
    · subst a6; rw [zbg_6, zbg_6]
    by_cases a7 : A = 7
    · subst a7; rw [zbg_7, zbg_7]
    by_cases a9 : A = 9
    · subst a9; rw [zbg_9, zbg_9]
    rw [zbg_a _ j 0 A (by omega), zbg_a _ j 0 A (by omega), zdp_a _ _ _ A (by omega)]
  · rw [zbg_ne _ hj, zbg_ne _ hj, zdp_a _ _ _ A (by omega)]
/-- the order of the rows is nobody's business -/
theorem zIX_rows {h0 : zm_H} {c c2 s : Nat → Nat → Nat} {P T : Nat → Prop} (h : zIX h0 c s P T) (hI : zCI c2) (e : ∀ A j, A ≠ 10 → A ≠ 1 → c2 A j = c A j) (hU : ∀ R, zUS c2 R ↔ zUS c R) (h1 : ∀ i, i < 60 → 1 ≤ c2 10 i) (h2 : ∀ i j, i < 60 → j < 60 → c2 10 i = c2 10 j → i = j) : zIX h0 c2 s P T := by
  obtain ⟨i1, i2, i3, ⟨r1, r2, r3, r4, r5, r6, ⟨la, r7⟩, r8, r9, r10⟩, hs, i6⟩ := h
  have ea : ∀ A, A ≠ 10 → A ≠ 1 → c2 A = c A := fun A k1 k2 => funext (fun j => e A j k1 k2)
  refine ⟨i1, hI, i3, ⟨?_, ?_, ?_, fun f f1 f2 f3 => ?_, ?_, fun f f1 f2 f3 => ?_, ⟨la, zRS_cg r7 hU ?_ ?_ ?_⟩, fun R hR => ?_, h1, h2⟩, hs, ?_⟩
  · rw [ea 0 (by decide) (by decide)]
    exact r1
  · rw [ea 19 (by decide) (by decide)]
    exact r2
  · rw [ea 2 (by decide) (by decide)]
    exact r3
  · unfold zRF
    rw [ea 3 (by decide) (by decide), ea 4 (by decide) (by decide), ea 5 (by decide) (by decide), ea 6 (by decide) (by decide)]
    exact r4 f f1 f2 f3
  · rw [ea 7 (by decide) (by decide)]
    exact r5
  · unfold zRT
    rw [ea 8 (by decide) (by decide), ea 9 (by decide) (by decide), ea 19 (by decide) (by decide)]
    exact r6 f f1 f2 f3
  · intro R _
    rw [ea 11 (by decide) (by decide)]
  · intro R _
    rw [ea 12 (by decide) (by decide)]
  · intro R _
    unfold zcn
    rw [ea 13 (by decide) (by decide), ea 14 (by decide) (by decide), ea 19 (by decide) (by decide)]
  · rw [ea 13 (by decide) (by decide)]
    exact r8 R ((hU R).mp hR)
  · unfold zCA
    rw [ea 8 (by decide) (by decide), ea 13 (by decide) (by decide)]
    exact i6
