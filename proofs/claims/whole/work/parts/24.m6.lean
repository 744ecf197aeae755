/-- the walk, over the parts: K kinds, G the folder above, L a name in a folder, T targets -/
def zwk (K G : Nat → Nat) (L : Nat → List Nat → Option Nat) (T : Nat → List Nat) (fo : Bool) : Nat → Nat → Nat → List (List Nat) → Nat → List Nat → Nat → Int32 × Nat × Nat × List Nat × Nat
  | 0, cur, _, _, f, q, u => (0, cur, f, q, u)
  | _ + 1, cur, _, [], f, q, u => (0, cur, f, q, u)
  | n + 1, cur, lk, w :: ps, f, q, u =>
    if 255 < w.length then (-9, cur, f, q, u)
    else if K cur ≠ 2 then (-4, cur, f, q, u)
    else if w = [46, 46] then zwk K G L T fo n (G cur) lk ps f w 1
    else match L cur w with
      | none => (if ps = [] then 0 else -2, 0, cur, w, 0)
      | some g => if K g = 3 ∧ (ps ≠ [] ∨ fo = true) then (if lk = 40 then (-8, g, cur, w, 0) else zwk K G L T fo n (if (T g).head? = some 47 then 1 else cur) (lk + 1) (zpt (T g) ++ ps) cur w 1)
        else zwk K G L T fo n g lk ps cur w 0
section
variable {K G : Nat → Nat} {L : Nat → List Nat → Option Nat} {T : Nat → List Nat} {fo : Bool} {n cur lk f u g : Nat} {w q : List Nat} {ps : List (List Nat)}
theorem zwk_nil : zwk K G L T fo (n + 1) cur lk [] f q u = (0, cur, f, q, u) := rfl
theorem zwk_long (h : 255 < w.length) : zwk K G L T fo (n + 1) cur lk (w :: ps) f q u = (-9, cur, f, q, u) := by
  simp only [zwk]; rw [if_pos h]
theorem zwk_nf (h1 : ¬ 255 < w.length) (h2 : K cur ≠ 2) : zwk K G L T fo (n + 1) cur lk (w :: ps) f q u = (-4, cur, f, q, u) := by
  simp only [zwk]; rw [if_neg h1, if_pos h2]
theorem zwk_up (h1 : ¬ 255 < w.length) (h2 : K cur = 2) (h3 : w = [46, 46]) : zwk K G L T fo (n + 1) cur lk (w :: ps) f q u = zwk K G L T fo n (G cur) lk ps f w 1 := by
  simp only [zwk]; rw [if_neg h1, if_neg (fun z => z h2), if_pos h3]
theorem zwk_no (h1 : ¬ 255 < w.length) (h2 : K cur = 2) (h3 : w ≠ [46, 46]) (h4 : L cur w = none) : zwk K G L T fo (n + 1) cur lk (w :: ps) f q u = (if ps = [] then 0 else -2, 0, cur, w, 0) := by
  simp only [zwk]; rw [if_neg h1, if_neg (fun z => z h2), if_neg h3, h4]
theorem zwk_loop (h1 : ¬ 255 < w.length) (h2 : K cur = 2) (h3 : w ≠ [46, 46]) (h4 : L cur w = some g) (h5 : K g = 3 ∧ (ps ≠ [] ∨ fo = true)) (h6 : lk = 40) : zwk K G L T fo (n + 1) cur lk (w :: ps) f q u = (-8, g, cur, w, 0) := by
  simp only [zwk]; rw [if_neg h1, if_neg (fun z => z h2), if_neg h3, h4]
  simp only []
  rw [if_pos h5, if_pos h6]
theorem zwk_link (h1 : ¬ 255 < w.length) (h2 : K cur = 2) (h3 : w ≠ [46, 46]) (h4 : L cur w = some g) (h5 : K g = 3 ∧ (ps ≠ [] ∨ fo = true)) (h6 : lk ≠ 40) : zwk K G L T fo (n + 1) cur lk (w :: ps) f q u = zwk K G L T fo n (if (T g).head? = some 47 then 1 else cur) (lk + 1) (zpt (T g) ++ ps) cur w 1 := by
  simp only [zwk]; rw [if_neg h1, if_neg (fun z => z h2), if_neg h3, h4]
  simp only []
  rw [if_pos h5, if_neg h6]
theorem zwk_go (h1 : ¬ 255 < w.length) (h2 : K cur = 2) (h3 : w ≠ [46, 46]) (h4 : L cur w = some g) (h5 : ¬ (K g = 3 ∧ (ps ≠ [] ∨ fo = true))) : zwk K G L T fo (n + 1) cur lk (w :: ps) f q u = zwk K G L T fo n g lk ps cur w 0 := by
  simp only [zwk]; rw [if_neg h1, if_neg (fun z => z h2), if_neg h3, h4]
  simp only []
  rw [if_neg h5]
end
/-- the name k, and which name of a folder f has these bytes -/
def znm (s : Nat → Nat → Nat) (k : Nat) : List Nat := zls (s 11) (255 * k) (255 * k + s 10 k)
def zlkn (s : Nat → Nat → Nat) (f : Nat) (w : List Nat) : Nat → Option Nat
  | 0 => none
  | k + 1 => if s 8 k = f ∧ znm s k = w then some k else zlkn s f w k
theorem zlkn_lt {s : Nat → Nat → Nat} {f : Nat} {w : List Nat} : ∀ {m k : Nat}, zlkn s f w m = some k → k < m ∧ s 8 k = f ∧ znm s k = w
  | 0, _, h => by cases h
  | m + 1, k, h => by
    unfold zlkn at h
    split at h
    · next hc => cases h; exact ⟨Nat.lt_succ_self _, hc⟩
    · have := zlkn_lt h
      exact ⟨by omega, this.2⟩
theorem zil_iff (s : Nat → Nat → Nat) (k f n : Nat) : ∀ i, zil s k f n i = 1 ↔ s 10 k = n ∧ ∀ j, j < i → s 11 (255 * k + j) = s 12 (f + j)
  | 0 => by
    unfold zil
    constructor
    · intro h
      split at h
      · next e => exact ⟨e, fun j hj => absurd hj (by omega)⟩
      · cases h
    · intro h
      rw [if_pos h.1]
  | i + 1 => by
    have ih := zil_iff s k f n i
    unfold zil
    constructor
    · intro h
      split at h
      · next e =>
        obtain ⟨h1, h2⟩ := ih.mp e.1
        refine ⟨h1, fun j hj => ?_⟩
        rcases Nat.lt_or_ge j i with hl | hl
        · exact h2 j hl
        · rw [show j = i by omega]; exact e.2
      · cases h
    · intro h
      rw [if_pos ⟨ih.mpr ⟨h.1, fun j hj => h.2 j (by omega)⟩, h.2 i (by omega)⟩]
theorem zil_nm {s t : Nat → Nat → Nat} (hF : zZF s t) (k f n : Nat) : zil t k f n n = 1 ↔ znm s k = zls (t 12) f (f + n) := by
  rw [zil_iff]
  unfold znm
  have e : zls (s 11) (255 * k) (255 * k + s 10 k) = zls (t 11) (255 * k) (255 * k + t 10 k) := by
    rw [hF 10 k (by decide) (by omega)]
    exact zls_congr (fun i _ _ => (hF 11 i (by decide) (by omega)).symm)
  rw [e, zls_eq]
  constructor
  · rintro ⟨h1, h2⟩
    exact ⟨h1, fun i hi => h2 i (by omega)⟩
  · rintro ⟨h1, h2⟩
    exact ⟨h1, fun i hi => h2 i (by omega)⟩
theorem zfn_lk {s t : Nat → Nat → Nat} (hF : zZF s t) (g f n : Nat) : ∀ m, zfn t g f n m = match zlkn s g (zls (t 12) f (f + n)) m with | none => -1 | some k => nI k
  | 0 => rfl
  | m + 1 => by
    have ih := zfn_lk hF g f n m
    show (if t 8 m = g ∧ zil t m f n n = 1 then nI m else zfn t g f n m) = _
    have e1 : t 8 m = s 8 m := hF 8 m (by decide) (by omega)
    by_cases hc : s 8 m = g ∧ znm s m = zls (t 12) f (f + n)
    · rw [if_pos ⟨e1.trans hc.1, (zil_nm hF m f n).mpr hc.2⟩]
      unfold zlkn
      rw [if_pos hc]
    · rw [if_neg (fun z => hc ⟨e1.symm.trans z.1, (zil_nm hF m f n).mp z.2⟩), ih]
      conv => rhs; unfold zlkn
      rw [if_neg hc]
/-- the walk over the reference's numbers -/
def zwm (s : Nat → Nat → Nat) (fo : Bool) : Nat → Nat → Nat → List (List Nat) → Nat → List Nat → Nat → Int32 × Nat × Nat × List Nat × Nat := zwk (s 3) (fun f => zmpa s f (s 0 10)) (fun f w => (zlkn s f w (s 0 10)).map (s 9)) (ztg s) fo
theorem zmpa_F {s t : Nat → Nat → Nat} (hF : zZF s t) (f : Nat) : ∀ n, zmpa t f n = zmpa s f n
  | 0 => rfl
  | n + 1 => by
    unfold zmpa
    rw [hF 9 n (by decide) (by omega), hF 8 n (by decide) (by omega), zmpa_F hF f n]
/-- what a walk leaves behind -/
def zZW (s t : Nat → Nat → Nat) (o : Int32 × Nat × Nat × List Nat × Nat) : Prop := zZF s t ∧ zMI t ∧ (o.1 = 0 → t 0 20 = o.2.1 ∧ t 0 21 = o.2.2.2.2 ∧ (o.2.2.2.2 = 0 → t 0 17 = o.2.2.1 ∧ t 0 19 = o.2.2.2.1.length ∧ t 0 18 + t 0 19 ≤ 42000 ∧ zls (t 12) (t 0 18) (t 0 18 + t 0 19) = o.2.2.2.1))
def zAc (t : Nat → Nat → Nat) (ps : List (List Nat)) (f : Nat) (q : List Nat) (u : Nat) : Prop := t 0 21 = u ∧ (ps = [] → u = 0 → t 0 17 = f ∧ t 0 19 = q.length ∧ t 0 18 + t 0 19 ≤ 42000 ∧ zls (t 12) (t 0 18) (t 0 18 + t 0 19) = q)
theorem zup_id {s : Nat → Nat → Nat} {a j v : Nat} (h : s a j = v) : zup s a j v = s := by
  funext b i
  by_cases hb : b = a ∧ i = j
  · obtain ⟨rfl, rfl⟩ := hb
    rw [zup_same, h]
  · rw [zup_ne _ _ hb]

theorem lM_wk1 {d : Nat} {h0 : zm_H} {t : Nat → Nat → Nat} {Q : Option Value → zm_H → Prop} {a : Nat} {v1 v2 v3 v4 v5 v6 : Value} (hS : zMS h0) (hI : zMI t) (ha : a ≤ 42000) (hc : ∀ c, a ≤ c → c ≤ 42000 → (∀ i, a ≤ i → i < c → t 12 i ≠ 47) → (c = 42000 ∨ t 12 c = 47) → zm_wp (d + 2) 90 135 [.ref 194, v1, v2, v3, v4, v5, v6] [] (zmh h0 (zup (zup t 0 18 a) 0 16 c)) Q) : ∀ (m k : Nat), k + m = 42000 → a ≤ k → (∀ i, a ≤ i → i < k → t 12 i ≠ 47) → zm_wp (d + 2) 90 99 [.ref 194, v1, v2, v3, v4, v5, v6] [] (zmh h0 (zup (zup t 0 18 a) 0 16 k)) Q := by
  have hB := zMIb hI
  intro m
  induction m with
  | zero =>
    intro k hk hak hno
    refine wx_aload_n kc90_99 rfl rfl ?_
    refine wm_getf (.int (nI k)) hS kc90_100 rfl ?_
    refine wx_ldc (nI 42000) kc90_103 (by decide) ?_
    refine wn_icmp_ge kc90_105 (by omega) (by decide) (fun hq105 => ?_) (fun hq105 => ?_)
    · skip
      exact hc k hak (by omega) hno (by omega)
    · skip
      exact absurd hq105 (by omega)
  | succ m ih =>
    intro k hk hak hno
    refine wx_aload_n kc90_99 rfl rfl ?_
    refine wm_getf (.int (nI k)) hS kc90_100 rfl ?_
    refine wx_ldc (nI 42000) kc90_103 (by decide) ?_
    refine wn_icmp_ge kc90_105 (by omega) (by decide) (fun hq105 => ?_) (fun hq105 => ?_)
    · skip
      exact hc k hak (by omega) hno (by omega)
    · skip
      refine wx_aload_n kc90_108 rfl rfl ?_
      refine wm_getf (.ref 206) hS kc90_109 rfl ?_
      refine wx_aload_n kc90_112 rfl rfl ?_
      refine wm_getf (.int (nI k)) hS kc90_113 rfl ?_
      refine wm_iald 206 42000 (t 12 k) hS kc90_116 rfl rfl rfl rfl (by omega) (fun _ => rfl) rfl ?_
      have hb117_1 := hB 12 k
      refine wx_bipush (nI 47) kc90_117 (by decide) ?_
      refine wn_icmp_eq kc90_119 (hB _ _) (by decide) (fun hq119 => ?_) (fun hq119 => ?_)
      · skip
        exact hc k hak (by omega) hno (by omega)
      · skip
        refine wx_aload_n kc90_122 rfl rfl ?_
        refine wx_dup kc90_123 rfl ?_
        refine wm_getf (.int (nI k)) hS kc90_124 rfl ?_
        refine wx_iconst (nI 1) kc90_127 (by decide) ?_
        refine wn_iadd (k + 1) kc90_128 rfl ?_
        refine wm_putf (v := (k + 1)) hS kc90_129 rfl rfl ?_
        refine wx_goto kc90_132 ?_
        show zm_wp _ 90 99 [.ref 194, v1, v2, v3, v4, v5, v6] [] (zmh h0 (zup (zup (zup t 0 18 a) 0 16 k) 0 16 (k + 1))) _
        rw [zup_zup]
        exact ih (k + 1) (by omega) (by omega) (fun i h1 h2 => by
          rcases Nat.lt_or_ge i k with h3 | h3
          · exact hno i h1 h3
          · rw [show i = k by omega]; exact hq119)
