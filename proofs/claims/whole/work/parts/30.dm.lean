/-- behind the taking of the tape: what lasts, and the bytes taken -/
def zKT (s t : Nat → Nat → Nat) : Prop := zPE (zt0 s) t ∧ zMI t ∧ (∀ i, i < s 0 1 → t 2 i = s 1 i) ∧ t 0 3 = s 0 1
theorem zKT_w {s t u : Nat → Nat → Nat} (h : zKT s t) (k : zZF t u) (hI : zMI u) : zKT s u :=
  ⟨zPE_F h.1 k, hI, fun i hi => (k 2 i (by decide) (by omega)).trans (h.2.2.1 i hi), (k 0 3 (by decide) (by omega)).trans h.2.2.2⟩
theorem zMI_ts {s : Nat → Nat → Nat} (hI : zMI s) : zMI (zmts s) :=
  zMI_wr (zMI_up (zMI_up hI (show s 0 1 ≤ 1200 from hI 0 1)) (Nat.zero_le _)) (fun i _ => show s 1 i ≤ 255 from hI 1 i)
theorem dM_take {d : Nat} {h0 : zm_H} {s : Nat → Nat → Nat} {Q : Option Value → zm_H → Prop} (hS : zMS h0) (hI : zMI s) (hq : ∀ t, zKT s t → Q (some (.int (zmtk s))) (zmh h0 t)) : zm_wc (d + 1) mM_take [.ref 194] (zmh h0 s) Q := by
  refine cM_take hS (zMIb hI) (hI 0 1) (hq _ ⟨zPE_ts s, zMI_ts hI, fun i hi => ?_, rfl⟩)
  show zwr (zup (zup s 0 3 (s 0 1)) 0 1 0) 2 0 (s 0 1) (fun i => s 1 i) 2 i = s 1 i
  rw [zwr_in _ _ (Nat.zero_le i) (by omega), Nat.sub_zero]
/-- where a walk has led -/
def zWF (u : Nat → Nat → Nat) (o : Int32 × Nat × Nat × List Nat × Nat) : Prop := o.1 = 0 → u 0 20 = o.2.1 ∧ u 0 21 = o.2.2.2.2 ∧ (o.2.2.2.2 = 0 → u 0 17 = o.2.2.1 ∧ u 0 19 = o.2.2.2.1.length ∧ u 0 18 + u 0 19 ≤ 42000 ∧ zls (u 12) (u 0 18) (u 0 18 + u 0 19) = o.2.2.2.1)
theorem zlinks_t {s t : Nat → Nat → Nat} (h : zKT s t) (hl : ∀ g, g ≤ 40 → s 3 g = 3 → 1 ≤ s 6 g) : ∀ g, g ≤ 40 → t 3 g = 3 → 1 ≤ t 6 g := by
  intro g h1 h2
  rw [zPE_a h.1 3 g (by decide)] at h2
  rw [zPE_a h.1 6 g (by decide)]
  exact hl g h1 h2
theorem dM_walk {d : Nat} {h0 : zm_H} {s t : Nat → Nat → Nat} {Q : Option Value → zm_H → Prop} {f k fo : Nat} (hS : zMS h0) (hK : zKT s t) (hT : s 0 1 ≤ 1200) (hf : f + k ≤ s 0 1) (hfo : fo ≤ 1) (hl : ∀ g, g ≤ 40 → s 3 g = 3 → 1 ≤ s 6 g) (hq : ∀ u, zKT s u → zWF u (zwt (zt0 s) f k fo) → Q (some (.int (zwt (zt0 s) f k fo).1)) (zmh h0 u)) : zm_wc (d + 3) mM_walk [.ref 194, .int (nI f), .int (nI k), .int (nI fo)] (zmh h0 t) Q := by
  have e : zwo t f k fo = zwt (zt0 s) f k fo := zwo_wt hK.1 (T := s 0 1) hK.2.2.1 hf
  refine cM_walk hS hK.2.1 (by omega) (by omega) hfo (zlinks_t hK hl) (fun u hu => ?_)
  rw [e] at hu ⊢
  exact hq u (zKT_w hK hu.1 hu.2.1) hu.2.2
theorem zna_cs {o : Int32 × Nat × Nat × List Nat × Nat} (h : o.1 = 0 ∨ o.1 < 0) : zna o = 0 ∨ zna o < 0 := by
  unfold zna
  split
  · next h => exact Or.inr h
  · split
    · exact Or.inl rfl
    · exact Or.inr (by decide)
theorem zna_0 {o : Int32 × Nat × Nat × List Nat × Nat} (h : o.1 = 0 ∨ o.1 < 0) (hz : zna o = 0) : o.1 = 0 ∧ o.2.2.2.2 = 0 := by
  unfold zna at hz
  split at hz
  · next hn =>
    rw [hz] at hn
    exact absurd hn (by decide)
  · next hn =>
    refine ⟨h.elim id (fun z => absurd z hn), ?_⟩
    split at hz
    · next e => exact e
    · exact absurd hz (by decide)
theorem zwt_cs (s : Nat → Nat → Nat) (f k fo : Nat) : (zwt s f k fo).1 = 0 ∨ (zwt s f k fo).1 < 0 := zwk_code _ _ _ _ _ _ _
/-- where a walk to a name has led -/
def zWN (s u : Nat → Nat → Nat) (o : Int32 × Nat × Nat × List Nat × Nat) : Prop := u 0 20 = o.2.1 ∧ u 0 17 = o.2.2.1 ∧ u 0 19 = o.2.2.2.1.length ∧ u 0 18 + u 0 19 ≤ 42000 ∧ zls (u 12) (u 0 18) (u 0 18 + u 0 19) = o.2.2.2.1 ∧ o.2.2.2.1.length ≤ 255 ∧ s 3 o.2.2.1 = 2 ∧ o.2.2.2.1 ≠ [46, 46] ∧ ((∃ k, zlkn s o.2.2.1 o.2.2.2.1 (s 0 10) = some k ∧ s 9 k = o.2.1) ∨ (zlkn s o.2.2.1 o.2.2.2.1 (s 0 10) = none ∧ o.2.1 = 0))
theorem dM_walkToName {d : Nat} {h0 : zm_H} {s t : Nat → Nat → Nat} {Q : Option Value → zm_H → Prop} {f k : Nat} (hS : zMS h0) (hK : zKT s t) (hT : s 0 1 ≤ 1200) (hf : f + k ≤ s 0 1) (hl : ∀ g, g ≤ 40 → s 3 g = 3 → 1 ≤ s 6 g) (hq : ∀ u, zKT s u → (zna (zwt (zt0 s) f k 0) = 0 → zWN (zt0 s) u (zwt (zt0 s) f k 0)) → Q (some (.int (zna (zwt (zt0 s) f k 0)))) (zmh h0 u)) : zm_wc (d + 4) mM_walkToName [.ref 194, .int (nI f), .int (nI k)] (zmh h0 t) Q := by
  have e : zwo t f k 0 = zwt (zt0 s) f k 0 := zwo_wt hK.1 (T := s 0 1) hK.2.2.1 hf
  refine cM_walkToName hS hK.2.1 (by omega) (by omega) (zlinks_t hK hl) (fun u hu => ?_)
  have e2 : zwn t f k = zna (zwt (zt0 s) f k 0) := by
    unfold zwn zna
    rw [e]
  rw [e2]
  rw [e] at hu
  refine hq u (zKT_w hK hu.1 hu.2.1) (fun hz => ?_)
  obtain ⟨h1, h2⟩ := zna_0 (zwt_cs _ _ _ _) hz
  obtain ⟨g1, g2, g3⟩ := hu.2.2 h1
  obtain ⟨g4, g5, g6, g7⟩ := g3 h2
  obtain ⟨i1, i2, i3, i4⟩ := zwk_end (K := (zt0 s) 3) (G := fun f => zmpa (zt0 s) f ((zt0 s) 0 10)) (L := fun f w => (zlkn (zt0 s) f w ((zt0 s) 0 10)).map ((zt0 s) 9)) (T := ztg (zt0 s)) (fo := (0 == 1)) 50000 1 0 (zpt (zls ((zt0 s) 1) f (f + k))) 0 [] 1 (fun z => absurd z (by decide)) h2 h1
  refine ⟨g1, g4, g5, g6, g7, i1, i2, i3, ?_⟩
  rcases i4 with i4 | ⟨i4, i5⟩
  · obtain ⟨k, e1, e2⟩ := Option.map_eq_some_iff.mp i4
    exact Or.inl ⟨k, e1, e2⟩
  · exact Or.inr ⟨Option.map_eq_none_iff.mp i4, i5⟩
theorem zls_gd {f : Nat → Nat} {a n : Nat} {q : List Nat} (h : zls f a (a + n) = q) : ∀ i, i < n → f (a + i) = zgd q i := by
  intro i hi
  unfold zgd
  rw [← h, zls_get f (by omega)]
  rfl
theorem dM_findName {d : Nat} {h0 : zm_H} {s u : Nat → Nat → Nat} {Q : Option Value → zm_H → Prop} {dd k : Nat} {q : List Nat} (hS : zMS h0) (hP : zPE s u) (hI : zMI u) (w1 : u 0 17 = dd) (w2 : u 0 19 = q.length) (w3 : u 0 18 + u 0 19 ≤ 42000) (w4 : zls (u 12) (u 0 18) (u 0 18 + u 0 19) = q) (w5 : q.length ≤ 255) (hk : zlkn s dd q (s 0 10) = some k) (hq : Q (some (.int (nI k))) (zmh h0 u)) : zm_wc (d + 2) mM_findName [.ref 194, .int (nI (u 0 17)), .int (nI (u 0 18)), .int (nI (u 0 19))] (zmh h0 u) Q := by
  refine cM_findName hS hI (zMIb hI _ _) (by omega) w3 ?_
  rw [zfn_lk (zZF_rf u) (u 0 17) (u 0 18) (u 0 19) (u 0 10), w4, w1, zPE_lk hP, zPE_0 hP 10 (by decide), hk]
  exact hq
theorem dM_addName {d : Nat} {h0 : zm_H} {s u : Nat → Nat → Nat} {Q : Option Value → zm_H → Prop} {dd f : Nat} {q : List Nat} (hS : zMS h0) (hP : zPE s u) (hI : zMI u) (hN : s 0 10 < 60) (hf : f ≤ 40) (w1 : u 0 17 = dd) (w2 : u 0 19 = q.length) (w3 : u 0 18 + u 0 19 ≤ 42000) (w4 : zls (u 12) (u 0 18) (u 0 18 + u 0 19) = q) (w5 : q.length ≤ 255) (hq : ∀ v, zPE (zadd s dd q.length (zgd q) f) v → zMI v → (∀ i, v 2 i = u 2 i) → Q none (zmh h0 v)) : zm_wc (d + 2) mM_addName [.ref 194, .int (nI f)] (zmh h0 u) Q := by
  have h10 : u 0 10 = s 0 10 := zPE_0 hP 10 (by decide)
  refine cM_addName hS hI (by omega) (by omega) w3 hf (hq _ ?_ (zMI_add hI (hI 0 17) (by omega) (fun i => hI 12 _) hf (by omega)) (fun i => rfl))
  have e := zPE_add hP dd q.length f (g := zgd q) (g' := fun i => u 12 (u 0 18 + i)) (fun i hi => zls_gd w4 i (by omega))
  rw [← w2, ← w1] at e ⊢
  exact e
theorem dM_newFile {d : Nat} {h0 : zm_H} {s u : Nat → Nat → Nat} {Q : Option Value → zm_H → Prop} {kind more dd : Nat} {q : List Nat} (hS : zMS h0) (hP : zPE s u) (hI : zMI u) (hkind : kind ≤ 3) (hmore : more ≤ 1) (w1 : u 0 17 = dd) (w2 : u 0 19 = q.length) (w3 : u 0 18 + u 0 19 ≤ 42000) (w4 : zls (u 12) (u 0 18) (u 0 18 + u 0 19) = q) (w5 : q.length ≤ 255) (hq : ∀ v, zPE (zsNew s kind more dd q).2 v → zMI v → (∀ i, v 2 i = u 2 i) → Q (some (.int (zsNew s kind more dd q).1)) (zmh h0 v)) : zm_wc (d + 4) mM_newFile [.ref 194, .int (nI kind), .int (nI more)] (zmh h0 u) Q := by
  have h10 : u 0 10 = s 0 10 := zPE_0 hP 10 (by decide)
  have h00 : u 0 0 = s 0 0 := zPE_0 hP 0 (by decide)
  have hz := zfx_le (s := s) 39 2
  refine cM_newFile hS hI hkind hmore (by omega) w3 (fun hf => ?_) (fun g1 g2 g3 => ?_)
  · rw [zPE_fx hP, h10, h00, zPE_at hP, zPE_gr hP, zPE_ni hP, w1] at hf
    have e : zsNew s kind more dd q = (-7, s) := by
      unfold zsNew
      rw [if_pos hf]
    rw [e] at hq
    exact hq u hP hI (fun _ => rfl)
  · rw [zPE_fx hP] at g1
    rw [h10] at g2
    rw [zPE_at hP, zPE_gr hP, zPE_ni hP, w1, h10, h00] at g3
    have e : zsNew s kind more dd q = (nI (zfx s 39 2), zadd (zup (zup (zup s 3 (zfx s 39 2) kind) 4 (zfx s 39 2) 0) 5 (zfx s 39 2) 0) dd q.length (zgd q) (zfx s 39 2)) := by
      unfold zsNew
      rw [if_neg (by omega)]
    rw [e] at hq
    rw [zPE_fx hP]
    refine hq _ ?_ ?_ (fun _ => rfl)
    · have e := zPE_add (zPE_up (zPE_up (zPE_up hP 3 (zfx s 39 2) kind) 4 (zfx s 39 2) 0) 5 (zfx s 39 2) 0) dd q.length (zfx s 39 2) (g := zgd q) (g' := fun i => u 12 (u 0 18 + i)) (fun i hi => zls_gd w4 i (by omega))
      rw [← w2, ← w1] at e ⊢
      exact e
    · exact zMI_add (zMI_up (zMI_up (zMI_up hI (show kind ≤ 3 from hkind)) (Nat.zero_le _)) (Nat.zero_le _)) (hI 0 17) (by omega) (fun i => hI 12 _) g1 (show u 0 10 < 60 by omega)
