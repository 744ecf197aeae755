/-! a rename, behind its walks -/
theorem zrm1_8 (s : Nat → Nat → Nat) (k j : Nat) : zrm1 s k 8 j = if j = k then s 8 (s 0 10 - 1) else s 8 j := by
  show zup s 8 k (s 8 (s 0 10 - 1)) 8 j = _
  split
  · next h => rw [h, zup_same]
  · next h => rw [zup_nj _ _ h]
theorem zrm1_9 (s : Nat → Nat → Nat) (k j : Nat) : zrm1 s k 9 j = if j = k then s 9 (s 0 10 - 1) else s 9 j := by
  show zup s 9 k (s 9 (s 0 10 - 1)) 9 j = _
  split
  · next h => rw [h, zup_same]
  · next h => rw [zup_nj _ _ h]
theorem zrm1_10 (s : Nat → Nat → Nat) (k j : Nat) : zrm1 s k 10 j = if j = k then s 10 (s 0 10 - 1) else s 10 j := by
  show zup s 10 k (s 10 (s 0 10 - 1)) 10 j = _
  split
  · next h => rw [h, zup_same]
  · next h => rw [zup_nj _ _ h]
theorem zrm1_nm {s : Nat → Nat → Nat} (hI : zMI s) (k j : Nat) : znm (zrm1 s k) j = if j = k then znm s (s 0 10 - 1) else znm s j := by
  unfold znm
  rw [zrm1_10]
  by_cases h : j = k
  · subst h
    rw [if_pos rfl, if_pos rfl]
    have hl : s 10 (s 0 10 - 1) ≤ 255 := hI 10 _
    refine zls_shift (fun i hi => ?_)
    show zwr _ 11 (255 * j) 255 _ 11 (255 * j + i) = _
    rw [zwr_in _ _ (by omega) (by omega), Nat.add_sub_cancel_left]
  · rw [if_neg h, if_neg h]
    have hl : s 10 j ≤ 255 := hI 10 _
    refine zls_congr (fun i h1 h2 => ?_)
    show zwr _ 11 (255 * k) 255 _ 11 i = _
    rw [zwr_out _ _ (by omega)]
    rfl
theorem zlkn_ex {s : Nat → Nat → Nat} {f : Nat} {w : List Nat} : ∀ (m k : Nat), k < m → s 8 k = f → znm s k = w → ∃ j, zlkn s f w m = some j
  | 0, _, h, _, _ => absurd h (by omega)
  | m + 1, k, h, h1, h2 => by
    unfold zlkn
    by_cases hc : s 8 m = f ∧ znm s m = w
    · exact ⟨m, by rw [if_pos hc]⟩
    · rw [if_neg hc]
      by_cases hk : k = m
      · subst hk
        exact absurd ⟨h1, h2⟩ hc
      · exact zlkn_ex m k (by omega) h1 h2
theorem zrem_p {s : Nat → Nat → Nat} (k a j : Nat) (h : a ≠ 3) : zrem s k a j = zrm1 s k a j := by
  unfold zrem
  split
  · rw [zup_na _ _ h]
  · rfl
theorem zrem_nm (s : Nat → Nat → Nat) (k j : Nat) : znm (zrem s k) j = znm (zrm1 s k) j := by
  unfold znm
  rw [zrem_p k 10 j (by decide)]
  exact zls_congr (fun i _ _ => zrem_p k 11 i (by decide))
theorem zlkn_rem {s : Nat → Nat → Nat} (hI : zMI s) {k k2 dd : Nat} {q : List Nat} (hk : k < s 0 10) (h2 : k2 < s 0 10) (hn : k2 ≠ k) (h8 : s 8 k2 = dd) (hq : znm s k2 = q) : ∃ j, zlkn (zrem s k) dd q (s 0 10 - 1) = some j := by
  by_cases hl : k2 = s 0 10 - 1
  · refine zlkn_ex _ k (by omega) ?_ ?_
    · rw [zrem_p k 8 k (by decide), zrm1_8, if_pos rfl, ← hl, h8]
    · rw [zrem_nm, zrm1_nm hI, if_pos rfl, ← hl, hq]
  · refine zlkn_ex _ k2 (by omega) ?_ ?_
    · rw [zrem_p k 8 k2 (by decide), zrm1_8, if_neg hn, h8]
    · rw [zrem_nm, zrm1_nm hI, if_neg hn, hq]
theorem zsum_one {g : Nat → Nat} : ∀ (n k : Nat), k < n → g k ≤ zsum g n
  | 0, _, h => absurd h (by omega)
  | n + 1, k, h => by
    show g k ≤ zsum g n + g n
    by_cases hk : k = n
    · subst hk; omega
    · have := zsum_one (g := g) n k (by omega)
      omega
theorem zmt_at (s : Nat → Nat → Nat) {f : Nat} (h1 : 1 ≤ f) (h2 : f ≤ 40) : zmt s f ≤ zmat s := by
  have h := zsum_one (g := fun k => zmt s (k + 1)) 40 (f - 1) (by omega)
  have e : f - 1 + 1 = f := by omega
  simp only [e] at h
  exact h
theorem zmni_1 {s : Nat → Nat → Nat} {f n k : Nat} (hk : k < n) (h : s 8 k = f) : 1 ≤ zmni s f n := by
  have h2 := zsum_one (g := fun k => if s 8 k = f then 1 else 0) n k hk
  have h3 : (if s 8 k = f then 1 else 0) ≤ zmni s f n := h2
  rw [if_pos h] at h3
  exact h3
theorem lM_rn0 {d : Nat} {h0 : zm_H} {t : Nat → Nat → Nat} {Q : Option Value → zm_H → Prop} {v1 v2 v4 v7 v8 : Value} {b5 b6 : Nat} {f dd : Nat} {q : List Nat} (hS : zMS h0) (hI : zMI t) (hf : f ≤ 40) (h5 : 1 ≤ t 5 f) (hN : t 0 10 < 60) (w17 : t 0 17 = dd) (w19 : t 0 19 = q.length) (w18 : t 0 18 + t 0 19 ≤ 42000) (wq : zls (t 12) (t 0 18) (t 0 18 + t 0 19) = q) (wl : q.length ≤ 255) (hq : ∀ v, zPE (zadd (zup t 5 f (t 5 f - 1)) dd q.length (zgd q) f) v → zMI v → Q (some (.int (nI f))) (zmh h0 v)) : zm_wp (d + 4) 101 379 [.ref 194, v1, v2, .int (nI f), v4, .int (nI b5), .int (nI b6), v7, v8] [] (zmh h0 t) Q := by
  have hB := zMIb hI
  refine wx_aload_n kc101_379 rfl rfl ?_
  refine wm_getf (.ref 199) hS kc101_380 rfl ?_
  refine wx_iload_n kc101_383 rfl rfl ?_
  refine wx_dup2 kc101_384 rfl rfl ?_
  refine wm_iald 199 41 (t 5 f) hS kc101_385 rfl rfl rfl rfl (by omega) (fun _ => rfl) rfl ?_
  have hb386_1 := hB 5 f
  refine wx_iconst (nI 1) kc101_386 (by decide) ?_
  refine wn_isub ((t 5 f) - 1) kc101_387 (by omega) ?_
  refine wm_iast (v := ((t 5 f) - 1)) 199 41 hS kc101_388 rfl rfl rfl rfl (by omega) rfl ?_
  refine wx_aload_n kc101_389 rfl rfl ?_
  refine wx_iload_n kc101_390 rfl rfl ?_
  show zm_wp _ 101 391 [.ref 194, v1, v2, .int (nI f), v4, .int (nI b5), .int (nI b6), v7, v8] [.int (nI f), .ref 194] (zmh h0 (zup t 5 f ((t 5 f) - 1))) _
  have bh5 : t 5 f ≤ 101 := hI 5 f
  refine wx_virtual kc101_391 rfl (zmh_is hS 194 8 (by decide) (by decide) rfl) rfl ?_
  refine dM_addName hS (zPE_rf _) (zMI_up hI (a := 5) (j := f) (v := t 5 f - 1) (show t 5 f - 1 ≤ 101 by omega)) hN hf w17 w19 w18 wq wl ?_
  intro v p3 m3 _
  show zm_wp _ 101 394 [.ref 194, v1, v2, .int (nI f), v4, .int (nI b5), .int (nI b6), v7, v8] [] (zmh h0 v) _
  refine wx_iload_n kc101_394 rfl rfl ?_
  refine wx_ireturn kc101_395 rfl rfl ?_
  exact hq v p3 m3
theorem lM_rn1 {d : Nat} {h0 : zm_H} {t : Nat → Nat → Nat} {Q : Option Value → zm_H → Prop} {v1 v2 v7 v8 : Value} {b5 b6 : Nat} {f k : Nat} {o : Int32 × Nat × Nat × List Nat × Nat} (hS : zMS h0) (hI : zMI t) (hf : f ≤ 40) (h100 : ∀ g, t 5 g ≤ 100) (hk : k < t 0 10) (hk9 : t 9 k = f) (w20 : t 0 20 = o.2.1) (w17 : t 0 17 = o.2.2.1) (w19 : t 0 19 = o.2.2.2.1.length) (w18 : t 0 18 + t 0 19 ≤ 42000) (wq : zls (t 12) (t 0 18) (t 0 18 + t 0 19) = o.2.2.2.1) (wl : o.2.2.2.1.length ≤ 255) (hlk : o.2.1 ≠ 0 → ∃ k2, zlkn t o.2.2.1 o.2.2.2.1 (t 0 10) = some k2 ∧ t 9 k2 = o.2.1) (hne : o.2.1 ≠ f) (hq : ∀ v, zPE (zsMv3 t f k o) v → zMI v → Q (some (.int (nI f))) (zmh h0 v)) : zm_wp (d + 4) 101 336 [.ref 194, v1, v2, .int (nI f), .int (nI k), .int (nI b5), .int (nI b6), v7, v8] [] (zmh h0 t) Q := by
  have hB := zMIb hI
  refine wx_aload_n kc101_336 rfl rfl ?_
  refine wm_getf (.ref 199) hS kc101_337 rfl ?_
  refine wx_iload_n kc101_340 rfl rfl ?_
  refine wx_dup2 kc101_341 rfl rfl ?_
  refine wm_iald 199 41 (t 5 f) hS kc101_342 rfl rfl rfl rfl (by omega) (fun _ => rfl) rfl ?_
  have hb343_1 := hB 5 f
  refine wx_iconst (nI 1) kc101_343 (by decide) ?_
  refine wn_iadd ((t 5 f) + 1) kc101_344 rfl ?_
  refine wm_iast (v := ((t 5 f) + 1)) 199 41 hS kc101_345 rfl rfl rfl rfl (by omega) rfl ?_
  refine wx_aload_n kc101_346 rfl rfl ?_
  refine wx_iload kc101_347 rfl rfl ?_
  show zm_wp _ 101 349 [.ref 194, v1, v2, .int (nI f), .int (nI k), .int (nI b5), .int (nI b6), v7, v8] [.int (nI k), .ref 194] (zmh h0 (zup t 5 f ((t 5 f) + 1))) _
  have bh5 : t 5 f ≤ 100 := h100 f
  have b10 : t 0 10 ≤ 60 := hI 0 10
  have hI2 : zMI (zup t 5 f (t 5 f + 1)) := zMI_up hI (a := 5) (j := f) (v := t 5 f + 1) (show t 5 f + 1 ≤ 101 by omega)
  refine wx_virtual kc101_349 rfl (zmh_is hS 194 8 (by decide) (by decide) rfl) rfl ?_
  refine cM_removeName hS hI2 hk ?_
  show zm_wp _ 101 352 [.ref 194, v1, v2, .int (nI f), .int (nI k), .int (nI b5), .int (nI b6), v7, v8] [] (zmh h0 (zsMv1 t f k o)) _
  have hI3 : zMI (zsMv1 t f k o) := zMI_rem hI2 k
  have j : ∀ a i, a ≠ 3 → zsMv1 t f k o a i = zrm1 (zup t 5 f (t 5 f + 1)) k a i := fun a i h => zrem_p k a i h
  obtain ⟨t3, ht3⟩ : ∃ y, y = zsMv1 t f k o := ⟨_, rfl⟩
  rw [← ht3] at hI3 j ⊢
  have u20 : t3 0 20 = t 0 20 := (j 0 20 (by decide)).trans rfl
  have u17 : t3 0 17 = t 0 17 := (j 0 17 (by decide)).trans rfl
  have u18 : t3 0 18 = t 0 18 := (j 0 18 (by decide)).trans rfl
  have u19 : t3 0 19 = t 0 19 := (j 0 19 (by decide)).trans rfl
  have u10 : t3 0 10 = t 0 10 - 1 := (j 0 10 (by decide)).trans rfl
  have u12 : t3 12 = t 12 := funext (fun i => (j 12 i (by decide)).trans rfl)
  have u5 : t3 5 f = t 5 f + 1 := (j 5 f (by decide)).trans (zup_same t 5 f (t 5 f + 1))
  have hB3 := zMIb hI3
  have y17 : t3 0 17 = o.2.2.1 := u17.trans w17
  have y19 : t3 0 19 = o.2.2.2.1.length := u19.trans w19
  have y18 : t3 0 18 + t3 0 19 ≤ 42000 := by omega
  have yq : zls (t3 12) (t3 0 18) (t3 0 18 + t3 0 19) = o.2.2.2.1 := by rw [u12, u18, u19]; exact wq
  show zm_wp _ 101 352 [.ref 194, v1, v2, .int (nI f), .int (nI k), .int (nI b5), .int (nI b6), v7, v8] [] (zmh h0 t3) _
  refine wx_aload_n kc101_352 rfl rfl ?_
  refine wm_getf (.int (nI (t3 0 20))) hS kc101_353 rfl ?_
  have hb356_2 := hB3 0 20
  refine wn_if_le kc101_356 (hB3 _ _) (fun hq356 => ?_) (fun hq356 => ?_)
  · skip
    have e2 : zsMv2 t f k o = t3 := by
      unfold zsMv2
      rw [← ht3, if_neg (by omega)]
    unfold zsMv3 at hq
    rw [e2] at hq
    exact lM_rn0 hS hI3 hf (by omega) (by omega) y17 y19 y18 yq wl hq
  · skip
    refine wx_aload_n kc101_359 rfl rfl ?_
    refine wx_aload_n kc101_360 rfl rfl ?_
    refine wx_aload_n kc101_361 rfl rfl ?_
    refine wm_getf (.int (nI (t3 0 17))) hS kc101_362 rfl ?_
    have hb365_3 := hB3 0 17
    refine wx_aload_n kc101_365 rfl rfl ?_
    refine wm_getf (.int (nI (t3 0 18))) hS kc101_366 rfl ?_
    have hb369_4 := hB3 0 18
    refine wx_aload_n kc101_369 rfl rfl ?_
    refine wm_getf (.int (nI (t3 0 19))) hS kc101_370 rfl ?_
    have hb373_5 := hB3 0 19
    obtain ⟨k2, g1, g2⟩ := hlk (by omega)
    obtain ⟨g3, g4, g5⟩ := zlkn_lt g1
    obtain ⟨k3, g6⟩ := zlkn_rem (s := zup t 5 f (t 5 f + 1)) hI2 hk (k2 := k2) g3 (fun z => hne (by rw [← g2, z, hk9])) g4 g5
    have g7 : zlkn t3 o.2.2.1 o.2.2.2.1 (t3 0 10) = some k3 := by rw [u10, ht3]; exact g6
    refine wx_virtual kc101_373 rfl (zmh_is hS 194 8 (by decide) (by decide) rfl) rfl ?_
    refine dM_findName hS (zPE_rf t3) hI3 y17 y19 y18 yq wl g7 ?_
    show zm_wp _ 101 376 [.ref 194, v1, v2, .int (nI f), .int (nI k), .int (nI b5), .int (nI b6), v7, v8] [.int (nI k3), .ref 194] (zmh h0 t3) _
    refine wx_virtual kc101_376 rfl (zmh_is hS 194 8 (by decide) (by decide) rfl) rfl ?_
    refine cM_removeName hS hI3 (zlkn_lt g7).1 ?_
    show zm_wp _ 101 379 [.ref 194, v1, v2, .int (nI f), .int (nI k), .int (nI b5), .int (nI b6), v7, v8] [] (zmh h0 (zrem t3 k3)) _
    have j4 : ∀ a i, a ≠ 3 → zrem t3 k3 a i = zrm1 t3 k3 a i := fun a i h => zrem_p k3 a i h
    have e2 : zsMv2 t f k o = zrem t3 k3 := by
      unfold zsMv2
      rw [← ht3, if_pos (by omega)]
      unfold zix
      rw [g7]
      rfl
    have z5 : zrem t3 k3 5 f = t 5 f + 1 := ((j4 5 f (by decide)).trans rfl).trans u5
    refine lM_rn0 hS (zMI_rem hI3 k3) hf (by omega) ?_ ((j4 0 17 (by decide)).trans y17) ((j4 0 19 (by decide)).trans y19) ?_ ?_ wl ?_
    · have : zrem t3 k3 0 10 = t3 0 10 - 1 := (j4 0 10 (by decide)).trans rfl
      omega
    · have z1 : zrem t3 k3 0 18 = t3 0 18 := (j4 0 18 (by decide)).trans rfl
      have z2 : zrem t3 k3 0 19 = t3 0 19 := (j4 0 19 (by decide)).trans rfl
      omega
    · have z1 : zrem t3 k3 0 18 = t3 0 18 := (j4 0 18 (by decide)).trans rfl
      have z2 : zrem t3 k3 0 19 = t3 0 19 := (j4 0 19 (by decide)).trans rfl
      have z3 : zrem t3 k3 12 = t3 12 := funext (fun i => (j4 12 i (by decide)).trans rfl)
      rw [z1, z2, z3]
      exact yq
    · unfold zsMv3 at hq
      rw [e2] at hq
      exact hq
theorem lM_rn2 {d : Nat} {h0 : zm_H} {t : Nat → Nat → Nat} {Q : Option Value → zm_H → Prop} {v1 v2 : Value} {b5 b6 : Nat} {f k : Nat} {o : Int32 × Nat × Nat × List Nat × Nat} {goes many : Nat} (hS : zMS h0) (hI : zMI t) (hf : f ≤ 40) (h100 : ∀ g, t 5 g ≤ 100) (hk : k < t 0 10) (hk9 : t 9 k = f) (w20 : t 0 20 = o.2.1) (w17 : t 0 17 = o.2.2.1) (w19 : t 0 19 = o.2.2.2.1.length) (w18 : t 0 18 + t 0 19 ≤ 42000) (wq : zls (t 12) (t 0 18) (t 0 18 + t 0 19) = o.2.2.2.1) (wl : o.2.2.2.1.length ≤ 255) (hlk : o.2.1 ≠ 0 → ∃ k2, zlkn t o.2.2.1 o.2.2.2.1 (t 0 10) = some k2 ∧ t 9 k2 = o.2.1) (hne : o.2.1 ≠ f) (hgo : goes = (if 0 < o.2.1 ∧ zmno t o.2.1 (t 0 10) = 1 ∧ t 5 o.2.1 = 0 then 1 else 0)) (hma : many = (zmni t o.2.2.1 (t 0 10) + 1 - (if t 8 k = o.2.2.1 then 1 else 0) - (if 0 < o.2.1 then 1 else 0))) (hfull : t 0 0 < zmat t - (if 0 < o.2.1 ∧ zmno t o.2.1 (t 0 10) = 1 ∧ t 5 o.2.1 = 0 then zmt t o.2.1 else 0) + zmgr t o.2.2.1 (zmni t o.2.2.1 (t 0 10) + 1 - (if t 8 k = o.2.2.1 then 1 else 0) - (if 0 < o.2.1 then 1 else 0)) → Q (some (.int (-7))) (zmh h0 t)) (hq : ¬ (t 0 0 < zmat t - (if 0 < o.2.1 ∧ zmno t o.2.1 (t 0 10) = 1 ∧ t 5 o.2.1 = 0 then zmt t o.2.1 else 0) + zmgr t o.2.2.1 (zmni t o.2.2.1 (t 0 10) + 1 - (if t 8 k = o.2.2.1 then 1 else 0) - (if 0 < o.2.1 then 1 else 0))) → ∀ v, zPE (zsMv3 t f k o) v → zMI v → Q (some (.int (nI f))) (zmh h0 v)) : zm_wp (d + 4) 101 293 [.ref 194, v1, v2, .int (nI f), .int (nI k), .int (nI b5), .int (nI b6), .int (nI goes), .int (nI many)] [] (zmh h0 t) Q := by
  have hB := zMIb hI
  have b10 : t 0 10 ≤ 60 := hI 0 10
  have b20 : t 0 20 ≤ 40 := hI 0 20
  have b17 : t 0 17 ≤ 40 := hI 0 17
  have bn := zmni_le (s := t) o.2.2.1 (t 0 10)
  have bma : many ≤ 61 := by rw [hma]; omega
  have bm := zmat_le hI
  have bgo : goes ≤ 1 := by rw [hgo]; split <;> omega
  have bgr : zmgr t (t 0 17) many ≤ 100 := by
    unfold zmgr
    split
    · have : zft many ≤ 61 := by unfold zft; split <;> omega
      omega
    · omega
  refine wx_aload_n kc101_293 rfl rfl ?_
  refine wx_virtual kc101_294 rfl (zmh_is hS 194 8 (by decide) (by decide) rfl) rfl ?_
  refine cM_allTake hS hI ?_
  show zm_wp _ 101 297 [.ref 194, v1, v2, .int (nI f), .int (nI k), .int (nI b5), .int (nI b6), .int (nI goes), .int (nI many)] [.int (nI (zmat t))] (zmh h0 t) _
  refine wx_iload kc101_297 rfl rfl ?_
  refine wn_if_eq kc101_299 (by omega) (fun hq299 => ?_) (fun hq299 => ?_)
  · skip
    have hg : ¬ (0 < o.2.1 ∧ zmno t o.2.1 (t 0 10) = 1 ∧ t 5 o.2.1 = 0) := fun z => by rw [hgo, if_pos z] at hq299; exact absurd hq299 (by decide)
    refine wx_iconst (nI 0) kc101_313 (by decide) ?_
    refine wn_isub ((zmat t) - 0) kc101_314 (by omega) ?_
    refine wx_aload_n kc101_315 rfl rfl ?_
    refine wx_aload_n kc101_316 rfl rfl ?_
    refine wm_getf (.int (nI (t 0 17))) hS kc101_317 rfl ?_
    have hb320_1 := hB 0 17
    refine wx_iload kc101_320 rfl rfl ?_
    refine wx_virtual kc101_322 rfl (zmh_is hS 194 8 (by decide) (by decide) rfl) rfl ?_
    refine cM_growth hS hI (by omega) (by omega) ?_
    show zm_wp _ 101 325 [.ref 194, v1, v2, .int (nI f), .int (nI k), .int (nI b5), .int (nI b6), .int (nI goes), .int (nI many)] [.int (nI (zmgr t (t 0 17) many)), .int (nI ((zmat t) - 0))] (zmh h0 t) _
    refine wn_iadd (((zmat t) - 0) + (zmgr t (t 0 17) many)) kc101_325 rfl ?_
    refine wx_aload_n kc101_326 rfl rfl ?_
    refine wm_getf (.int (nI (t 0 0))) hS kc101_327 rfl ?_
    have hb330_2 := hB 0 0
    refine wn_icmp_le kc101_330 (by omega) (hB _ _) (fun hq330 => ?_) (fun hq330 => ?_)
    · skip
      refine lM_rn1 hS hI hf h100 hk hk9 w20 w17 w19 w18 wq wl hlk hne (hq ?_)
      rw [← hma, ← w17, ← w20]
      first | (rw [if_pos (by rw [w20]; exact hg)]; omega) | (rw [if_neg (by rw [w20]; exact hg)]; omega)
    · skip
      refine wx_bipush (-7) kc101_333 (by decide) ?_
      refine wx_ireturn kc101_335 rfl rfl ?_
      refine hfull ?_
      rw [← hma, ← w17, ← w20]
      first | (rw [if_pos (by rw [w20]; exact hg)]; omega) | (rw [if_neg (by rw [w20]; exact hg)]; omega)
  · skip
    have hg : 0 < o.2.1 ∧ zmno t o.2.1 (t 0 10) = 1 ∧ t 5 o.2.1 = 0 := Classical.byContradiction (fun z => hq299 (by rw [hgo, if_neg z]))
    have bt := zmt_at t (f := t 0 20) (by omega) (by omega)
    refine wx_aload_n kc101_302 rfl rfl ?_
    refine wx_aload_n kc101_303 rfl rfl ?_
    refine wm_getf (.int (nI (t 0 20))) hS kc101_304 rfl ?_
    have hb307_1 := hB 0 20
    refine wx_virtual kc101_307 rfl (zmh_is hS 194 8 (by decide) (by decide) rfl) rfl ?_
    refine cM_takes hS hI (by omega) ?_
    show zm_wp _ 101 310 [.ref 194, v1, v2, .int (nI f), .int (nI k), .int (nI b5), .int (nI b6), .int (nI goes), .int (nI many)] [.int (nI (zmt t (t 0 20))), .int (nI (zmat t))] (zmh h0 t) _
    refine wx_goto kc101_310 ?_
    refine wn_isub ((zmat t) - (zmt t (t 0 20))) kc101_314 (by omega) ?_
    refine wx_aload_n kc101_315 rfl rfl ?_
    refine wx_aload_n kc101_316 rfl rfl ?_
    refine wm_getf (.int (nI (t 0 17))) hS kc101_317 rfl ?_
    have hb320_2 := hB 0 17
    refine wx_iload kc101_320 rfl rfl ?_
    refine wx_virtual kc101_322 rfl (zmh_is hS 194 8 (by decide) (by decide) rfl) rfl ?_
    refine cM_growth hS hI (by omega) (by omega) ?_
    show zm_wp _ 101 325 [.ref 194, v1, v2, .int (nI f), .int (nI k), .int (nI b5), .int (nI b6), .int (nI goes), .int (nI many)] [.int (nI (zmgr t (t 0 17) many)), .int (nI ((zmat t) - (zmt t (t 0 20))))] (zmh h0 t) _
    refine wn_iadd (((zmat t) - (zmt t (t 0 20))) + (zmgr t (t 0 17) many)) kc101_325 rfl ?_
    refine wx_aload_n kc101_326 rfl rfl ?_
    refine wm_getf (.int (nI (t 0 0))) hS kc101_327 rfl ?_
    have hb330_3 := hB 0 0
    refine wn_icmp_le kc101_330 (by omega) (hB _ _) (fun hq330 => ?_) (fun hq330 => ?_)
    · skip
      refine lM_rn1 hS hI hf h100 hk hk9 w20 w17 w19 w18 wq wl hlk hne (hq ?_)
      rw [← hma, ← w17, ← w20]
      first | (rw [if_pos (by rw [w20]; exact hg)]; omega) | (rw [if_neg (by rw [w20]; exact hg)]; omega)
    · skip
      refine wx_bipush (-7) kc101_333 (by decide) ?_
      refine wx_ireturn kc101_335 rfl rfl ?_
      refine hfull ?_
      rw [← hma, ← w17, ← w20]
      first | (rw [if_pos (by rw [w20]; exact hg)]; omega) | (rw [if_neg (by rw [w20]; exact hg)]; omega)
theorem lM_rn3 {d : Nat} {h0 : zm_H} {t : Nat → Nat → Nat} {Q : Option Value → zm_H → Prop} {v1 v2 : Value} {b5 b6 : Nat} {f k : Nat} {o : Int32 × Nat × Nat × List Nat × Nat} {goes : Nat} (hS : zMS h0) (hI : zMI t) (hf : f ≤ 40) (h100 : ∀ g, t 5 g ≤ 100) (hk : k < t 0 10) (hk9 : t 9 k = f) (w20 : t 0 20 = o.2.1) (w17 : t 0 17 = o.2.2.1) (w19 : t 0 19 = o.2.2.2.1.length) (w18 : t 0 18 + t 0 19 ≤ 42000) (wq : zls (t 12) (t 0 18) (t 0 18 + t 0 19) = o.2.2.2.1) (wl : o.2.2.2.1.length ≤ 255) (hlk : o.2.1 ≠ 0 → ∃ k2, zlkn t o.2.2.1 o.2.2.2.1 (t 0 10) = some k2 ∧ t 9 k2 = o.2.1) (hne : o.2.1 ≠ f) (hgo : goes = (if 0 < o.2.1 ∧ zmno t o.2.1 (t 0 10) = 1 ∧ t 5 o.2.1 = 0 then 1 else 0)) (hfull : t 0 0 < zmat t - (if 0 < o.2.1 ∧ zmno t o.2.1 (t 0 10) = 1 ∧ t 5 o.2.1 = 0 then zmt t o.2.1 else 0) + zmgr t o.2.2.1 (zmni t o.2.2.1 (t 0 10) + 1 - (if t 8 k = o.2.2.1 then 1 else 0) - (if 0 < o.2.1 then 1 else 0)) → Q (some (.int (-7))) (zmh h0 t)) (hq : ¬ (t 0 0 < zmat t - (if 0 < o.2.1 ∧ zmno t o.2.1 (t 0 10) = 1 ∧ t 5 o.2.1 = 0 then zmt t o.2.1 else 0) + zmgr t o.2.2.1 (zmni t o.2.2.1 (t 0 10) + 1 - (if t 8 k = o.2.2.1 then 1 else 0) - (if 0 < o.2.1 then 1 else 0))) → ∀ v, zPE (zsMv3 t f k o) v → zMI v → Q (some (.int (nI f))) (zmh h0 v)) : zm_wp (d + 4) 101 248 [.ref 194, v1, v2, .int (nI f), .int (nI k), .int (nI b5), .int (nI b6), .int (nI goes), zm_un] [] (zmh h0 t) Q := by
  have hB := zMIb hI
  have b10 : t 0 10 ≤ 60 := hI 0 10
  have b20 : t 0 20 ≤ 40 := hI 0 20
  have b17 : t 0 17 ≤ 40 := hI 0 17
  have bn := zmni_le (s := t) (t 0 17) (t 0 10)
  have bn1 : o.2.1 ≠ 0 → 1 ≤ zmni t (t 0 17) (t 0 10) := by
    intro z
    obtain ⟨k2, g1, g2⟩ := hlk z
    obtain ⟨g3, g4, g5⟩ := zlkn_lt g1
    exact zmni_1 g3 (g4.trans w17.symm)
  refine wx_aload_n kc101_248 rfl rfl ?_
  refine wx_aload_n kc101_249 rfl rfl ?_
  refine wm_getf (.int (nI (t 0 17))) hS kc101_250 rfl ?_
  have hb253_1 := hB 0 17
  refine wx_virtual kc101_253 rfl (zmh_is hS 194 8 (by decide) (by decide) rfl) rfl ?_
  refine cM_namesIn hS hI (by omega) ?_
  show zm_wp _ 101 256 [.ref 194, v1, v2, .int (nI f), .int (nI k), .int (nI b5), .int (nI b6), .int (nI goes), zm_un] [.int (nI (zmni t (t 0 17) (t 0 10)))] (zmh h0 t) _
  refine wx_iconst (nI 1) kc101_256 (by decide) ?_
  refine wn_iadd ((zmni t (t 0 17) (t 0 10)) + 1) kc101_257 rfl ?_
  refine wx_aload_n kc101_258 rfl rfl ?_
  refine wm_getf (.ref 202) hS kc101_259 rfl ?_
  refine wx_iload kc101_262 rfl rfl ?_
  refine wm_iald 202 60 (t 8 k) hS kc101_264 rfl rfl rfl rfl (by omega) (fun _ => rfl) rfl ?_
  have hb265_2 := hB 8 k
  refine wx_aload_n kc101_265 rfl rfl ?_
  refine wm_getf (.int (nI (t 0 17))) hS kc101_266 rfl ?_
  refine wn_icmp_ne kc101_269 (hB _ _) (hB _ _) (fun hq269 => ?_) (fun hq269 => ?_)
  · skip
    refine wx_iconst (nI 0) kc101_276 (by decide) ?_
    refine wn_isub (((zmni t (t 0 17) (t 0 10)) + 1) - 0) kc101_277 (by omega) ?_
    refine wx_aload_n kc101_278 rfl rfl ?_
    refine wm_getf (.int (nI (t 0 20))) hS kc101_279 rfl ?_
    have hb282_3 := hB 0 20
    refine wn_if_le kc101_282 (hB _ _) (fun hq282 => ?_) (fun hq282 => ?_)
    · skip
      refine wx_iconst (nI 0) kc101_289 (by decide) ?_
      refine wn_isub ((((zmni t (t 0 17) (t 0 10)) + 1) - 0) - 0) kc101_290 (by omega) ?_
      refine wx_istore (ls' := [.ref 194, v1, v2, .int (nI f), .int (nI k), .int (nI b5), .int (nI b6), .int (nI goes), .int (nI ((((zmni t (t 0 17) (t 0 10)) + 1) - 0) - 0))]) kc101_291 rfl rfl rfl rfl ?_
      refine lM_rn2 hS hI hf h100 hk hk9 w20 w17 w19 w18 wq wl hlk hne hgo (many := (((zmni t (t 0 17) (t 0 10)) + 1) - 0) - 0) ?_ hfull hq
      rw [← w17, ← w20]
      first | rw [if_pos (by omega), if_pos (by omega)] | rw [if_pos (by omega), if_neg (by omega)] | rw [if_neg (by omega), if_pos (by omega)] | rw [if_neg (by omega), if_neg (by omega)]
    · skip
      refine wx_iconst (nI 1) kc101_285 (by decide) ?_
      refine wx_goto kc101_286 ?_
      refine wn_isub ((((zmni t (t 0 17) (t 0 10)) + 1) - 0) - 1) kc101_290 (by omega) ?_
      refine wx_istore (ls' := [.ref 194, v1, v2, .int (nI f), .int (nI k), .int (nI b5), .int (nI b6), .int (nI goes), .int (nI ((((zmni t (t 0 17) (t 0 10)) + 1) - 0) - 1))]) kc101_291 rfl rfl rfl rfl ?_
      refine lM_rn2 hS hI hf h100 hk hk9 w20 w17 w19 w18 wq wl hlk hne hgo (many := (((zmni t (t 0 17) (t 0 10)) + 1) - 0) - 1) ?_ hfull hq
      rw [← w17, ← w20]
      first | rw [if_pos (by omega), if_pos (by omega)] | rw [if_pos (by omega), if_neg (by omega)] | rw [if_neg (by omega), if_pos (by omega)] | rw [if_neg (by omega), if_neg (by omega)]
  · skip
    refine wx_iconst (nI 1) kc101_272 (by decide) ?_
    refine wx_goto kc101_273 ?_
    refine wn_isub (((zmni t (t 0 17) (t 0 10)) + 1) - 1) kc101_277 (by omega) ?_
    refine wx_aload_n kc101_278 rfl rfl ?_
    refine wm_getf (.int (nI (t 0 20))) hS kc101_279 rfl ?_
    have hb282_3 := hB 0 20
    refine wn_if_le kc101_282 (hB _ _) (fun hq282 => ?_) (fun hq282 => ?_)
    · skip
      refine wx_iconst (nI 0) kc101_289 (by decide) ?_
      refine wn_isub ((((zmni t (t 0 17) (t 0 10)) + 1) - 1) - 0) kc101_290 (by omega) ?_
      refine wx_istore (ls' := [.ref 194, v1, v2, .int (nI f), .int (nI k), .int (nI b5), .int (nI b6), .int (nI goes), .int (nI ((((zmni t (t 0 17) (t 0 10)) + 1) - 1) - 0))]) kc101_291 rfl rfl rfl rfl ?_
      refine lM_rn2 hS hI hf h100 hk hk9 w20 w17 w19 w18 wq wl hlk hne hgo (many := (((zmni t (t 0 17) (t 0 10)) + 1) - 1) - 0) ?_ hfull hq
      rw [← w17, ← w20]
      first | rw [if_pos (by omega), if_pos (by omega)] | rw [if_pos (by omega), if_neg (by omega)] | rw [if_neg (by omega), if_pos (by omega)] | rw [if_neg (by omega), if_neg (by omega)]
    · skip
      refine wx_iconst (nI 1) kc101_285 (by decide) ?_
      refine wx_goto kc101_286 ?_
      refine wn_isub ((((zmni t (t 0 17) (t 0 10)) + 1) - 1) - 1) kc101_290 (by omega) ?_
      refine wx_istore (ls' := [.ref 194, v1, v2, .int (nI f), .int (nI k), .int (nI b5), .int (nI b6), .int (nI goes), .int (nI ((((zmni t (t 0 17) (t 0 10)) + 1) - 1) - 1))]) kc101_291 rfl rfl rfl rfl ?_
      refine lM_rn2 hS hI hf h100 hk hk9 w20 w17 w19 w18 wq wl hlk hne hgo (many := (((zmni t (t 0 17) (t 0 10)) + 1) - 1) - 1) ?_ hfull hq
      rw [← w17, ← w20]
      first | rw [if_pos (by omega), if_pos (by omega)] | rw [if_pos (by omega), if_neg (by omega)] | rw [if_neg (by omega), if_pos (by omega)] | rw [if_neg (by omega), if_neg (by omega)]
theorem lM_rn4 {d : Nat} {h0 : zm_H} {t : Nat → Nat → Nat} {Q : Option Value → zm_H → Prop} {v1 v2 : Value} {b5 b6 : Nat} {f k : Nat} {o : Int32 × Nat × Nat × List Nat × Nat} (hS : zMS h0) (hI : zMI t) (hf : f ≤ 40) (h100 : ∀ g, t 5 g ≤ 100) (hk : k < t 0 10) (hk9 : t 9 k = f) (w20 : t 0 20 = o.2.1) (w17 : t 0 17 = o.2.2.1) (w19 : t 0 19 = o.2.2.2.1.length) (w18 : t 0 18 + t 0 19 ≤ 42000) (wq : zls (t 12) (t 0 18) (t 0 18 + t 0 19) = o.2.2.2.1) (wl : o.2.2.2.1.length ≤ 255) (hlk : o.2.1 ≠ 0 → ∃ k2, zlkn t o.2.2.1 o.2.2.2.1 (t 0 10) = some k2 ∧ t 9 k2 = o.2.1) (hne : o.2.1 ≠ f) (hfull : t 0 0 < zmat t - (if 0 < o.2.1 ∧ zmno t o.2.1 (t 0 10) = 1 ∧ t 5 o.2.1 = 0 then zmt t o.2.1 else 0) + zmgr t o.2.2.1 (zmni t o.2.2.1 (t 0 10) + 1 - (if t 8 k = o.2.2.1 then 1 else 0) - (if 0 < o.2.1 then 1 else 0)) → Q (some (.int (-7))) (zmh h0 t)) (hq : ¬ (t 0 0 < zmat t - (if 0 < o.2.1 ∧ zmno t o.2.1 (t 0 10) = 1 ∧ t 5 o.2.1 = 0 then zmt t o.2.1 else 0) + zmgr t o.2.2.1 (zmni t o.2.2.1 (t 0 10) + 1 - (if t 8 k = o.2.2.1 then 1 else 0) - (if 0 < o.2.1 then 1 else 0))) → ∀ v, zPE (zsMv3 t f k o) v → zMI v → Q (some (.int (nI f))) (zmh h0 v)) : zm_wp (d + 4) 101 210 [.ref 194, v1, v2, .int (nI f), .int (nI k), .int (nI b5), .int (nI b6), zm_un, zm_un] [] (zmh h0 t) Q := by
  have hB := zMIb hI
  have b20 : t 0 20 ≤ 40 := hI 0 20
  have b10 : t 0 10 ≤ 60 := hI 0 10
  refine wx_aload_n kc101_210 rfl rfl ?_
  refine wm_getf (.int (nI (t 0 20))) hS kc101_211 rfl ?_
  have hb214_1 := hB 0 20
  refine wn_if_le kc101_214 (hB _ _) (fun hq214 => ?_) (fun hq214 => ?_)
  · skip
    refine wx_iconst (nI 0) kc101_245 (by decide) ?_
    refine wx_istore (ls' := [.ref 194, v1, v2, .int (nI f), .int (nI k), .int (nI b5), .int (nI b6), .int (nI 0), zm_un]) kc101_246 rfl rfl rfl rfl ?_
    refine lM_rn3 hS hI hf h100 hk hk9 w20 w17 w19 w18 wq wl hlk hne (goes := 0) ?_ hfull hq
    rw [← w20]
    first | (rw [if_pos ⟨by omega, by omega, by omega⟩]; done) | (rw [if_neg (by omega)]; done)
  · skip
    refine wx_aload_n kc101_217 rfl rfl ?_
    refine wx_aload_n kc101_218 rfl rfl ?_
    refine wm_getf (.int (nI (t 0 20))) hS kc101_219 rfl ?_
    have hb222_2 := hB 0 20
    have bno := zmno_le (s := t) (t 0 20) (t 0 10)
    refine wx_virtual kc101_222 rfl (zmh_is hS 194 8 (by decide) (by decide) rfl) rfl ?_
    refine cM_namesOf hS hI (by omega) ?_
    show zm_wp _ 101 225 [.ref 194, v1, v2, .int (nI f), .int (nI k), .int (nI b5), .int (nI b6), zm_un, zm_un] [.int (nI (zmno t (t 0 20) (t 0 10)))] (zmh h0 t) _
    refine wx_iconst (nI 1) kc101_225 (by decide) ?_
    refine wn_icmp_ne kc101_226 (by omega) (by decide) (fun hq226 => ?_) (fun hq226 => ?_)
    · skip
      refine wx_iconst (nI 0) kc101_245 (by decide) ?_
      refine wx_istore (ls' := [.ref 194, v1, v2, .int (nI f), .int (nI k), .int (nI b5), .int (nI b6), .int (nI 0), zm_un]) kc101_246 rfl rfl rfl rfl ?_
      refine lM_rn3 hS hI hf h100 hk hk9 w20 w17 w19 w18 wq wl hlk hne (goes := 0) ?_ hfull hq
      rw [← w20]
      first | (rw [if_pos ⟨by omega, by omega, by omega⟩]; done) | (rw [if_neg (by omega)]; done)
    · skip
      refine wx_aload_n kc101_229 rfl rfl ?_
      refine wm_getf (.ref 199) hS kc101_230 rfl ?_
      refine wx_aload_n kc101_233 rfl rfl ?_
      refine wm_getf (.int (nI (t 0 20))) hS kc101_234 rfl ?_
      have hb237_3 := hB 0 20
      refine wm_iald 199 41 (t 5 (t 0 20)) hS kc101_237 rfl rfl rfl rfl (by omega) (fun _ => rfl) rfl ?_
      have hb238_4 := hB 5 (t 0 20)
      refine wn_if_ne kc101_238 (hB _ _) (fun hq238 => ?_) (fun hq238 => ?_)
      · skip
        refine wx_iconst (nI 0) kc101_245 (by decide) ?_
        refine wx_istore (ls' := [.ref 194, v1, v2, .int (nI f), .int (nI k), .int (nI b5), .int (nI b6), .int (nI 0), zm_un]) kc101_246 rfl rfl rfl rfl ?_
        refine lM_rn3 hS hI hf h100 hk hk9 w20 w17 w19 w18 wq wl hlk hne (goes := 0) ?_ hfull hq
        rw [← w20]
        first | (rw [if_pos ⟨by omega, by omega, by omega⟩]; done) | (rw [if_neg (by omega)]; done)
      · skip
        refine wx_iconst (nI 1) kc101_241 (by decide) ?_
        refine wx_goto kc101_242 ?_
        refine wx_istore (ls' := [.ref 194, v1, v2, .int (nI f), .int (nI k), .int (nI b5), .int (nI b6), .int (nI 1), zm_un]) kc101_246 rfl rfl rfl rfl ?_
        refine lM_rn3 hS hI hf h100 hk hk9 w20 w17 w19 w18 wq wl hlk hne (goes := 1) ?_ hfull hq
        rw [← w20]
        first | (rw [if_pos ⟨by omega, by omega, by omega⟩]; done) | (rw [if_neg (by omega)]; done)
theorem zwi_le (s : Nat → Nat → Nat) (o : Nat) : ∀ m f, zwi s o m f ≤ 1
  | 0, f => by unfold zwi; split <;> omega
  | m + 1, f => by
    unfold zwi
    have := zwi_le s o m (zmpa s f (s 0 10))
    split
    · omega
    · split <;> omega
theorem zsMv_ok {t : Nat → Nat → Nat} {f k m : Nat} {o : Int32 × Nat × Nat × List Nat × Nat} (h1 : ¬ f = 0) (h2 : ¬ o.2.1 = f) (h3 : ¬ (t 3 f = 2 ∧ zwi t f m o.2.2.1 = 1)) (h4 : ¬ (0 < o.2.1 ∧ t 3 f = 2 ∧ t 3 o.2.1 ≠ 2)) (h5 : ¬ (0 < o.2.1 ∧ t 3 f ≠ 2 ∧ t 3 o.2.1 = 2)) (h6 : ¬ (0 < o.2.1 ∧ t 3 o.2.1 = 2 ∧ 0 < zmni t o.2.1 (t 0 10))) (hc : ¬ (t 0 0 < zmat t - (if 0 < o.2.1 ∧ zmno t o.2.1 (t 0 10) = 1 ∧ t 5 o.2.1 = 0 then zmt t o.2.1 else 0) + zmgr t o.2.2.1 (zmni t o.2.2.1 (t 0 10) + 1 - (if t 8 k = o.2.2.1 then 1 else 0) - (if 0 < o.2.1 then 1 else 0)))) : zsMv t f k m o = (nI f, zsMv3 t f k o) := by
  unfold zsMv
  rw [if_neg h1, if_neg h2, if_neg h3, if_neg h4, if_neg h5, if_neg h6, if_neg hc]
theorem lM_rn5 {d : Nat} {h0 : zm_H} {t : Nat → Nat → Nat} {Q : Option Value → zm_H → Prop} {v1 v2 v4 : Value} {m : Nat} {f k : Nat} {o : Int32 × Nat × Nat × List Nat × Nat} (hS : zMS h0) (hI : zMI t) (hf : f ≤ 40) (h100 : ∀ g, t 5 g ≤ 100) (hv4 : f ≠ 0 → v4 = .int (nI k) ∧ k < t 0 10 ∧ t 9 k = f) (w20 : t 0 20 = o.2.1) (w17 : t 0 17 = o.2.2.1) (w19 : t 0 19 = o.2.2.2.1.length) (w18 : t 0 18 + t 0 19 ≤ 42000) (wq : zls (t 12) (t 0 18) (t 0 18 + t 0 19) = o.2.2.2.1) (wl : o.2.2.2.1.length ≤ 255) (hlk : o.2.1 ≠ 0 → ∃ k2, zlkn t o.2.2.1 o.2.2.2.1 (t 0 10) = some k2 ∧ t 9 k2 = o.2.1) (hm : zit t m o.2.2.1 = 1) (hq : ∀ v, zPE (zsMv t f k m o).2 v → zMI v → Q (some (.int (zsMv t f k m o).1)) (zmh h0 v)) : zm_wp (d + 4) 101 77 [.ref 194, v1, v2, .int (nI f), v4, zm_un, zm_un, zm_un, zm_un] [] (zmh h0 t) Q := by
  have hB := zMIb hI
  have b20 : t 0 20 ≤ 40 := hI 0 20
  have b10 : t 0 10 ≤ 60 := hI 0 10
  have b17 : t 0 17 ≤ 40 := hI 0 17
  refine wx_iload_n kc101_77 rfl rfl ?_
  refine wn_if_ne kc101_78 (by omega) (fun hq78 => ?_) (fun hq78 => ?_)
  · skip
    refine wx_aload_n kc101_84 rfl rfl ?_
    refine wm_getf (.int (nI (t 0 20))) hS kc101_85 rfl ?_
    have hb88_1 := hB 0 20
    refine wx_iload_n kc101_88 rfl rfl ?_
    refine wn_icmp_ne kc101_89 (hB _ _) (by omega) (fun hq89 => ?_) (fun hq89 => ?_)
    · skip
      obtain ⟨rfl, hk, hk9⟩ := hv4 (by omega)
      show zm_wp _ 101 94 [.ref 194, v1, v2, .int (nI f), .int (nI k), zm_un, zm_un, zm_un, zm_un] [] (zmh h0 t) _
      refine wx_aload_n kc101_94 rfl rfl ?_
      refine wm_getf (.ref 197) hS kc101_95 rfl ?_
      refine wx_iload_n kc101_98 rfl rfl ?_
      refine wm_iald 197 41 (t 3 f) hS kc101_99 rfl rfl rfl rfl (by omega) (fun _ => rfl) rfl ?_
      have hb100_2 := hB 3 f
      refine wx_iconst (nI 2) kc101_100 (by decide) ?_
      refine wn_icmp_ne kc101_101 (hB _ _) (by decide) (fun hq101 => ?_) (fun hq101 => ?_)
      · skip
        refine wx_iconst (nI 0) kc101_108 (by decide) ?_
        refine wx_istore (ls' := [.ref 194, v1, v2, .int (nI f), .int (nI k), .int (nI 0), zm_un, zm_un, zm_un]) kc101_109 rfl rfl rfl rfl ?_
        refine wx_iload kc101_111 rfl rfl ?_
        refine wn_if_eq kc101_113 (by decide) (fun _ => ?_) (fun z => absurd z (by decide))
        refine wx_aload_n kc101_131 rfl rfl ?_
        refine wm_getf (.int (nI (t 0 20))) hS kc101_132 rfl ?_
        have hb135_3 := hB 0 20
        refine wn_if_le kc101_135 (hB _ _) (fun hq135 => ?_) (fun hq135 => ?_)
        · skip
          refine wx_iconst (nI 0) kc101_155 (by decide) ?_
          refine wx_istore (ls' := [.ref 194, v1, v2, .int (nI f), .int (nI k), .int (nI 0), .int (nI 0), zm_un, zm_un]) kc101_156 rfl rfl rfl rfl ?_
          refine wx_aload_n kc101_158 rfl rfl ?_
          refine wm_getf (.int (nI (t 0 20))) hS kc101_159 rfl ?_
          have hb162_4 := hB 0 20
          refine wn_if_le kc101_162 (hB _ _) (fun hq162 => ?_) (fun hq162 => ?_)
          · skip
            refine wx_iload kc101_178 rfl rfl ?_
            refine wn_if_eq kc101_180 (by decide) (fun _ => ?_) (fun z => absurd z (by decide))
            refine wx_iload kc101_191 rfl rfl ?_
            refine wn_if_eq kc101_193 (by decide) (fun _ => ?_) (fun z => absurd z (by decide))
            refine lM_rn4 hS hI hf h100 hk hk9 w20 w17 w19 w18 wq wl hlk (by omega) (fun hc => ?_) (fun hc v p m3 => ?_)
            · have e : zsMv t f k m o = (-7, t) := by
                unfold zsMv
                rw [if_neg (by omega), if_neg (by omega), if_neg (by rw [← w17]; omega), if_neg (by rw [← w20]; omega), if_neg (by rw [← w20]; omega), if_neg (by rw [← w20]; omega), if_pos hc]
              rw [e] at hq
              exact hq t (zPE_rf t) hI
            · have e := zsMv_ok (m := m) (t := t) (f := f) (k := k) (o := o) (by omega) (by omega) (by rw [← w17]; omega) (by rw [← w20]; omega) (by rw [← w20]; omega) (by rw [← w20]; omega) hc
              rw [e] at hq
              exact hq v p m3
            
          · skip
            refine wx_iload kc101_165 rfl rfl ?_
            refine wn_if_eq kc101_167 (by decide) (fun _ => ?_) (fun z => absurd z (by decide))
            refine wx_iload kc101_178 rfl rfl ?_
            refine wn_if_eq kc101_180 (by decide) (fun _ => ?_) (fun z => absurd z (by decide))
            refine wx_iload kc101_191 rfl rfl ?_
            refine wn_if_eq kc101_193 (by decide) (fun _ => ?_) (fun z => absurd z (by decide))
            refine lM_rn4 hS hI hf h100 hk hk9 w20 w17 w19 w18 wq wl hlk (by omega) (fun hc => ?_) (fun hc v p m3 => ?_)
            · have e : zsMv t f k m o = (-7, t) := by
                unfold zsMv
                rw [if_neg (by omega), if_neg (by omega), if_neg (by rw [← w17]; omega), if_neg (by rw [← w20]; omega), if_neg (by rw [← w20]; omega), if_neg (by rw [← w20]; omega), if_pos hc]
              rw [e] at hq
              exact hq t (zPE_rf t) hI
            · have e := zsMv_ok (m := m) (t := t) (f := f) (k := k) (o := o) (by omega) (by omega) (by rw [← w17]; omega) (by rw [← w20]; omega) (by rw [← w20]; omega) (by rw [← w20]; omega) hc
              rw [e] at hq
              exact hq v p m3
            
        · skip
          refine wx_aload_n kc101_138 rfl rfl ?_
          refine wm_getf (.ref 197) hS kc101_139 rfl ?_
          refine wx_aload_n kc101_142 rfl rfl ?_
          refine wm_getf (.int (nI (t 0 20))) hS kc101_143 rfl ?_
          have hb146_4 := hB 0 20
          refine wm_iald 197 41 (t 3 (t 0 20)) hS kc101_146 rfl rfl rfl rfl (by omega) (fun _ => rfl) rfl ?_
          have hb147_5 := hB 3 (t 0 20)
          refine wx_iconst (nI 2) kc101_147 (by decide) ?_
          refine wn_icmp_ne kc101_148 (hB _ _) (by decide) (fun hq148 => ?_) (fun hq148 => ?_)
          · skip
            refine wx_iconst (nI 0) kc101_155 (by decide) ?_
            refine wx_istore (ls' := [.ref 194, v1, v2, .int (nI f), .int (nI k), .int (nI 0), .int (nI 0), zm_un, zm_un]) kc101_156 rfl rfl rfl rfl ?_
            refine wx_aload_n kc101_158 rfl rfl ?_
            refine wm_getf (.int (nI (t 0 20))) hS kc101_159 rfl ?_
            have hb162_6 := hB 0 20
            refine wn_if_le kc101_162 (hB _ _) (fun hq162 => ?_) (fun hq162 => ?_)
            · skip
              refine wx_iload kc101_178 rfl rfl ?_
              refine wn_if_eq kc101_180 (by decide) (fun _ => ?_) (fun z => absurd z (by decide))
              refine wx_iload kc101_191 rfl rfl ?_
              refine wn_if_eq kc101_193 (by decide) (fun _ => ?_) (fun z => absurd z (by decide))
              refine lM_rn4 hS hI hf h100 hk hk9 w20 w17 w19 w18 wq wl hlk (by omega) (fun hc => ?_) (fun hc v p m3 => ?_)
              · have e : zsMv t f k m o = (-7, t) := by
                  unfold zsMv
                  rw [if_neg (by omega), if_neg (by omega), if_neg (by rw [← w17]; omega), if_neg (by rw [← w20]; omega), if_neg (by rw [← w20]; omega), if_neg (by rw [← w20]; omega), if_pos hc]
                rw [e] at hq
                exact hq t (zPE_rf t) hI
              · have e := zsMv_ok (m := m) (t := t) (f := f) (k := k) (o := o) (by omega) (by omega) (by rw [← w17]; omega) (by rw [← w20]; omega) (by rw [← w20]; omega) (by rw [← w20]; omega) hc
                rw [e] at hq
                exact hq v p m3
              
            · skip
              refine wx_iload kc101_165 rfl rfl ?_
              refine wn_if_eq kc101_167 (by decide) (fun _ => ?_) (fun z => absurd z (by decide))
              refine wx_iload kc101_178 rfl rfl ?_
              refine wn_if_eq kc101_180 (by decide) (fun _ => ?_) (fun z => absurd z (by decide))
              refine wx_iload kc101_191 rfl rfl ?_
              refine wn_if_eq kc101_193 (by decide) (fun _ => ?_) (fun z => absurd z (by decide))
              refine lM_rn4 hS hI hf h100 hk hk9 w20 w17 w19 w18 wq wl hlk (by omega) (fun hc => ?_) (fun hc v p m3 => ?_)
              · have e : zsMv t f k m o = (-7, t) := by
                  unfold zsMv
                  rw [if_neg (by omega), if_neg (by omega), if_neg (by rw [← w17]; omega), if_neg (by rw [← w20]; omega), if_neg (by rw [← w20]; omega), if_neg (by rw [← w20]; omega), if_pos hc]
                rw [e] at hq
                exact hq t (zPE_rf t) hI
              · have e := zsMv_ok (m := m) (t := t) (f := f) (k := k) (o := o) (by omega) (by omega) (by rw [← w17]; omega) (by rw [← w20]; omega) (by rw [← w20]; omega) (by rw [← w20]; omega) hc
                rw [e] at hq
                exact hq v p m3
              
          · skip
            refine wx_iconst (nI 1) kc101_151 (by decide) ?_
            refine wx_goto kc101_152 ?_
            refine wx_istore (ls' := [.ref 194, v1, v2, .int (nI f), .int (nI k), .int (nI 0), .int (nI 1), zm_un, zm_un]) kc101_156 rfl rfl rfl rfl ?_
            refine wx_aload_n kc101_158 rfl rfl ?_
            refine wm_getf (.int (nI (t 0 20))) hS kc101_159 rfl ?_
            have hb162_6 := hB 0 20
            refine wn_if_le kc101_162 (hB _ _) (fun hq162 => ?_) (fun hq162 => ?_)
            · skip
              refine wx_iload kc101_178 rfl rfl ?_
              refine wn_if_eq kc101_180 (by decide) (fun z => absurd z (by decide)) (fun _ => ?_)
              refine wx_iload kc101_183 rfl rfl ?_
              refine wn_if_ne kc101_185 (by decide) (fun z => absurd z (by decide)) (fun _ => ?_)
              refine wx_bipush (-5) kc101_188 (by decide) ?_
              refine wx_ireturn kc101_190 rfl rfl ?_
              have e : zsMv t f k m o = (-5, t) := by
                unfold zsMv
                rw [if_neg (by omega)]
                rw [if_neg (by omega)]
                rw [← w17, ← w20]
                rw [if_neg (by omega), if_neg (by omega), if_pos ⟨by omega, by omega, by omega⟩]
              rw [e] at hq
              exact hq t (zPE_rf t) hI
            · skip
              refine wx_iload kc101_165 rfl rfl ?_
              refine wn_if_eq kc101_167 (by decide) (fun _ => ?_) (fun z => absurd z (by decide))
              refine wx_iload kc101_178 rfl rfl ?_
              refine wn_if_eq kc101_180 (by decide) (fun z => absurd z (by decide)) (fun _ => ?_)
              refine wx_iload kc101_183 rfl rfl ?_
              refine wn_if_ne kc101_185 (by decide) (fun z => absurd z (by decide)) (fun _ => ?_)
              refine wx_bipush (-5) kc101_188 (by decide) ?_
              refine wx_ireturn kc101_190 rfl rfl ?_
              have e : zsMv t f k m o = (-5, t) := by
                unfold zsMv
                rw [if_neg (by omega)]
                rw [if_neg (by omega)]
                rw [← w17, ← w20]
                rw [if_neg (by omega), if_neg (by omega), if_pos ⟨by omega, by omega, by omega⟩]
              rw [e] at hq
              exact hq t (zPE_rf t) hI
      · skip
        refine wx_iconst (nI 1) kc101_104 (by decide) ?_
        refine wx_goto kc101_105 ?_
        refine wx_istore (ls' := [.ref 194, v1, v2, .int (nI f), .int (nI k), .int (nI 1), zm_un, zm_un, zm_un]) kc101_109 rfl rfl rfl rfl ?_
        refine wx_iload kc101_111 rfl rfl ?_
        refine wn_if_eq kc101_113 (by decide) (fun z => absurd z (by decide)) (fun _ => ?_)
        refine wx_aload_n kc101_116 rfl rfl ?_
        refine wx_aload_n kc101_117 rfl rfl ?_
        refine wm_getf (.int (nI (t 0 17))) hS kc101_118 rfl ?_
        have hb121_3 := hB 0 17
        refine wx_iload_n kc101_121 rfl rfl ?_
        have bw : zwi t f m (t 0 17) ≤ 1 := zwi_le t f m (t 0 17)
        refine wx_virtual kc101_122 rfl (zmh_is hS 194 8 (by decide) (by decide) rfl) rfl ?_
        refine cM_isWithin (m := m) hS hI (by omega) (by omega) (by rw [w17]; exact hm) ?_
        show zm_wp _ 101 125 [.ref 194, v1, v2, .int (nI f), .int (nI k), .int (nI 1), zm_un, zm_un, zm_un] [.int (nI (zwi t f m (t 0 17)))] (zmh h0 t) _
        refine wn_if_eq kc101_125 (by omega) (fun hq125 => ?_) (fun hq125 => ?_)
        · skip
          refine wx_aload_n kc101_131 rfl rfl ?_
          refine wm_getf (.int (nI (t 0 20))) hS kc101_132 rfl ?_
          have hb135_4 := hB 0 20
          refine wn_if_le kc101_135 (hB _ _) (fun hq135 => ?_) (fun hq135 => ?_)
          · skip
            refine wx_iconst (nI 0) kc101_155 (by decide) ?_
            refine wx_istore (ls' := [.ref 194, v1, v2, .int (nI f), .int (nI k), .int (nI 1), .int (nI 0), zm_un, zm_un]) kc101_156 rfl rfl rfl rfl ?_
            refine wx_aload_n kc101_158 rfl rfl ?_
            refine wm_getf (.int (nI (t 0 20))) hS kc101_159 rfl ?_
            have hb162_5 := hB 0 20
            refine wn_if_le kc101_162 (hB _ _) (fun hq162 => ?_) (fun hq162 => ?_)
            · skip
              refine wx_iload kc101_178 rfl rfl ?_
              refine wn_if_eq kc101_180 (by decide) (fun _ => ?_) (fun z => absurd z (by decide))
              refine wx_iload kc101_191 rfl rfl ?_
              refine wn_if_eq kc101_193 (by decide) (fun _ => ?_) (fun z => absurd z (by decide))
              refine lM_rn4 hS hI hf h100 hk hk9 w20 w17 w19 w18 wq wl hlk (by omega) (fun hc => ?_) (fun hc v p m3 => ?_)
              · have e : zsMv t f k m o = (-7, t) := by
                  unfold zsMv
                  rw [if_neg (by omega), if_neg (by omega), if_neg (by rw [← w17]; omega), if_neg (by rw [← w20]; omega), if_neg (by rw [← w20]; omega), if_neg (by rw [← w20]; omega), if_pos hc]
                rw [e] at hq
                exact hq t (zPE_rf t) hI
              · have e := zsMv_ok (m := m) (t := t) (f := f) (k := k) (o := o) (by omega) (by omega) (by rw [← w17]; omega) (by rw [← w20]; omega) (by rw [← w20]; omega) (by rw [← w20]; omega) hc
                rw [e] at hq
                exact hq v p m3
              
            · skip
              refine wx_iload kc101_165 rfl rfl ?_
              refine wn_if_eq kc101_167 (by decide) (fun z => absurd z (by decide)) (fun _ => ?_)
              refine wx_iload kc101_170 rfl rfl ?_
              refine wn_if_ne kc101_172 (by decide) (fun z => absurd z (by decide)) (fun _ => ?_)
              refine wx_bipush (-4) kc101_175 (by decide) ?_
              refine wx_ireturn kc101_177 rfl rfl ?_
              have e : zsMv t f k m o = (-4, t) := by
                unfold zsMv
                rw [if_neg (by omega)]
                rw [if_neg (by omega)]
                rw [← w17, ← w20]
                rw [if_neg (by omega), if_pos ⟨by omega, by omega, by omega⟩]
              rw [e] at hq
              exact hq t (zPE_rf t) hI
          · skip
            refine wx_aload_n kc101_138 rfl rfl ?_
            refine wm_getf (.ref 197) hS kc101_139 rfl ?_
            refine wx_aload_n kc101_142 rfl rfl ?_
            refine wm_getf (.int (nI (t 0 20))) hS kc101_143 rfl ?_
            have hb146_5 := hB 0 20
            refine wm_iald 197 41 (t 3 (t 0 20)) hS kc101_146 rfl rfl rfl rfl (by omega) (fun _ => rfl) rfl ?_
            have hb147_6 := hB 3 (t 0 20)
            refine wx_iconst (nI 2) kc101_147 (by decide) ?_
            refine wn_icmp_ne kc101_148 (hB _ _) (by decide) (fun hq148 => ?_) (fun hq148 => ?_)
            · skip
              refine wx_iconst (nI 0) kc101_155 (by decide) ?_
              refine wx_istore (ls' := [.ref 194, v1, v2, .int (nI f), .int (nI k), .int (nI 1), .int (nI 0), zm_un, zm_un]) kc101_156 rfl rfl rfl rfl ?_
              refine wx_aload_n kc101_158 rfl rfl ?_
              refine wm_getf (.int (nI (t 0 20))) hS kc101_159 rfl ?_
              have hb162_7 := hB 0 20
              refine wn_if_le kc101_162 (hB _ _) (fun hq162 => ?_) (fun hq162 => ?_)
              · skip
                refine wx_iload kc101_178 rfl rfl ?_
                refine wn_if_eq kc101_180 (by decide) (fun _ => ?_) (fun z => absurd z (by decide))
                refine wx_iload kc101_191 rfl rfl ?_
                refine wn_if_eq kc101_193 (by decide) (fun _ => ?_) (fun z => absurd z (by decide))
                refine lM_rn4 hS hI hf h100 hk hk9 w20 w17 w19 w18 wq wl hlk (by omega) (fun hc => ?_) (fun hc v p m3 => ?_)
                · have e : zsMv t f k m o = (-7, t) := by
                    unfold zsMv
                    rw [if_neg (by omega), if_neg (by omega), if_neg (by rw [← w17]; omega), if_neg (by rw [← w20]; omega), if_neg (by rw [← w20]; omega), if_neg (by rw [← w20]; omega), if_pos hc]
                  rw [e] at hq
                  exact hq t (zPE_rf t) hI
                · have e := zsMv_ok (m := m) (t := t) (f := f) (k := k) (o := o) (by omega) (by omega) (by rw [← w17]; omega) (by rw [← w20]; omega) (by rw [← w20]; omega) (by rw [← w20]; omega) hc
                  rw [e] at hq
                  exact hq v p m3
                
              · skip
                refine wx_iload kc101_165 rfl rfl ?_
                refine wn_if_eq kc101_167 (by decide) (fun z => absurd z (by decide)) (fun _ => ?_)
                refine wx_iload kc101_170 rfl rfl ?_
                refine wn_if_ne kc101_172 (by decide) (fun z => absurd z (by decide)) (fun _ => ?_)
                refine wx_bipush (-4) kc101_175 (by decide) ?_
                refine wx_ireturn kc101_177 rfl rfl ?_
                have e : zsMv t f k m o = (-4, t) := by
                  unfold zsMv
                  rw [if_neg (by omega)]
                  rw [if_neg (by omega)]
                  rw [← w17, ← w20]
                  rw [if_neg (by omega), if_pos ⟨by omega, by omega, by omega⟩]
                rw [e] at hq
                exact hq t (zPE_rf t) hI
            · skip
              refine wx_iconst (nI 1) kc101_151 (by decide) ?_
              refine wx_goto kc101_152 ?_
              refine wx_istore (ls' := [.ref 194, v1, v2, .int (nI f), .int (nI k), .int (nI 1), .int (nI 1), zm_un, zm_un]) kc101_156 rfl rfl rfl rfl ?_
              refine wx_aload_n kc101_158 rfl rfl ?_
              refine wm_getf (.int (nI (t 0 20))) hS kc101_159 rfl ?_
              have hb162_7 := hB 0 20
              refine wn_if_le kc101_162 (hB _ _) (fun hq162 => ?_) (fun hq162 => ?_)
              · skip
                refine wx_iload kc101_178 rfl rfl ?_
                refine wn_if_eq kc101_180 (by decide) (fun z => absurd z (by decide)) (fun _ => ?_)
                refine wx_iload kc101_183 rfl rfl ?_
                refine wn_if_ne kc101_185 (by decide) (fun _ => ?_) (fun z => absurd z (by decide))
                refine wx_iload kc101_191 rfl rfl ?_
                refine wn_if_eq kc101_193 (by decide) (fun z => absurd z (by decide)) (fun _ => ?_)
                refine wx_aload_n kc101_196 rfl rfl ?_
                refine wx_aload_n kc101_197 rfl rfl ?_
                refine wm_getf (.int (nI (t 0 20))) hS kc101_198 rfl ?_
                have hb201_8 := hB 0 20
                have bni := zmni_le (s := t) (t 0 20) (t 0 10)
                refine wx_virtual kc101_201 rfl (zmh_is hS 194 8 (by decide) (by decide) rfl) rfl ?_
                refine cM_namesIn hS hI (by omega) ?_
                show zm_wp _ 101 204 [.ref 194, v1, v2, .int (nI f), .int (nI k), .int (nI 1), .int (nI 1), zm_un, zm_un] [.int (nI (zmni t (t 0 20) (t 0 10)))] (zmh h0 t) _
                refine wn_if_le kc101_204 (by omega) (fun hq204 => ?_) (fun hq204 => ?_)
                · skip
                  refine lM_rn4 hS hI hf h100 hk hk9 w20 w17 w19 w18 wq wl hlk (by omega) (fun hc => ?_) (fun hc v p m3 => ?_)
                  · have e : zsMv t f k m o = (-7, t) := by
                      unfold zsMv
                      rw [if_neg (by omega), if_neg (by omega), if_neg (by rw [← w17]; omega), if_neg (by rw [← w20]; omega), if_neg (by rw [← w20]; omega), if_neg (by rw [← w20]; omega), if_pos hc]
                    rw [e] at hq
                    exact hq t (zPE_rf t) hI
                  · have e := zsMv_ok (m := m) (t := t) (f := f) (k := k) (o := o) (by omega) (by omega) (by rw [← w17]; omega) (by rw [← w20]; omega) (by rw [← w20]; omega) (by rw [← w20]; omega) hc
                    rw [e] at hq
                    exact hq v p m3
                  
                · skip
                  refine wx_bipush (-6) kc101_207 (by decide) ?_
                  refine wx_ireturn kc101_209 rfl rfl ?_
                  have e : zsMv t f k m o = (-6, t) := by
                    unfold zsMv
                    rw [if_neg (by omega)]
                    rw [if_neg (by omega)]
                    rw [← w17, ← w20]
                    rw [if_neg (by omega), if_neg (by omega), if_neg (by omega), if_pos ⟨by omega, by omega, by omega⟩]
                  rw [e] at hq
                  exact hq t (zPE_rf t) hI
              · skip
                refine wx_iload kc101_165 rfl rfl ?_
                refine wn_if_eq kc101_167 (by decide) (fun z => absurd z (by decide)) (fun _ => ?_)
                refine wx_iload kc101_170 rfl rfl ?_
                refine wn_if_ne kc101_172 (by decide) (fun _ => ?_) (fun z => absurd z (by decide))
                refine wx_iload kc101_178 rfl rfl ?_
                refine wn_if_eq kc101_180 (by decide) (fun z => absurd z (by decide)) (fun _ => ?_)
                refine wx_iload kc101_183 rfl rfl ?_
                refine wn_if_ne kc101_185 (by decide) (fun _ => ?_) (fun z => absurd z (by decide))
                refine wx_iload kc101_191 rfl rfl ?_
                refine wn_if_eq kc101_193 (by decide) (fun z => absurd z (by decide)) (fun _ => ?_)
                refine wx_aload_n kc101_196 rfl rfl ?_
                refine wx_aload_n kc101_197 rfl rfl ?_
                refine wm_getf (.int (nI (t 0 20))) hS kc101_198 rfl ?_
                have hb201_8 := hB 0 20
                have bni := zmni_le (s := t) (t 0 20) (t 0 10)
                refine wx_virtual kc101_201 rfl (zmh_is hS 194 8 (by decide) (by decide) rfl) rfl ?_
                refine cM_namesIn hS hI (by omega) ?_
                show zm_wp _ 101 204 [.ref 194, v1, v2, .int (nI f), .int (nI k), .int (nI 1), .int (nI 1), zm_un, zm_un] [.int (nI (zmni t (t 0 20) (t 0 10)))] (zmh h0 t) _
                refine wn_if_le kc101_204 (by omega) (fun hq204 => ?_) (fun hq204 => ?_)
                · skip
                  refine lM_rn4 hS hI hf h100 hk hk9 w20 w17 w19 w18 wq wl hlk (by omega) (fun hc => ?_) (fun hc v p m3 => ?_)
                  · have e : zsMv t f k m o = (-7, t) := by
                      unfold zsMv
                      rw [if_neg (by omega), if_neg (by omega), if_neg (by rw [← w17]; omega), if_neg (by rw [← w20]; omega), if_neg (by rw [← w20]; omega), if_neg (by rw [← w20]; omega), if_pos hc]
                    rw [e] at hq
                    exact hq t (zPE_rf t) hI
                  · have e := zsMv_ok (m := m) (t := t) (f := f) (k := k) (o := o) (by omega) (by omega) (by rw [← w17]; omega) (by rw [← w20]; omega) (by rw [← w20]; omega) (by rw [← w20]; omega) hc
                    rw [e] at hq
                    exact hq v p m3
                  
                · skip
                  refine wx_bipush (-6) kc101_207 (by decide) ?_
                  refine wx_ireturn kc101_209 rfl rfl ?_
                  have e : zsMv t f k m o = (-6, t) := by
                    unfold zsMv
                    rw [if_neg (by omega)]
                    rw [if_neg (by omega)]
                    rw [← w17, ← w20]
                    rw [if_neg (by omega), if_neg (by omega), if_neg (by omega), if_pos ⟨by omega, by omega, by omega⟩]
                  rw [e] at hq
                  exact hq t (zPE_rf t) hI
        · skip
          refine wx_bipush (-10) kc101_128 (by decide) ?_
          refine wx_ireturn kc101_130 rfl rfl ?_
          have e : zsMv t f k m o = (-10, t) := by
            unfold zsMv
            rw [if_neg (by omega)]
            rw [if_neg (by omega)]
            rw [← w17, ← w20]
            rw [if_pos ⟨by omega, by omega⟩]
          rw [e] at hq
          exact hq t (zPE_rf t) hI
    · skip
      refine wx_iload_n kc101_92 rfl rfl ?_
      refine wx_ireturn kc101_93 rfl rfl ?_
      have e : zsMv t f k m o = (nI f, t) := by
        unfold zsMv
        rw [if_neg (by omega)]
        rw [if_pos (by omega)]
      rw [e] at hq
      exact hq t (zPE_rf t) hI
  · skip
    refine wx_bipush (-2) kc101_81 (by decide) ?_
    refine wx_ireturn kc101_83 rfl rfl ?_
    have e : zsMv t f k m o = (-2, t) := by
      unfold zsMv
      rw [if_pos (by omega)]
    rw [e] at hq
    exact hq t (zPE_rf t) hI
theorem zPE_ix {s t : Nat → Nat → Nat} (h : zPE s t) (o : Int32 × Nat × Nat × List Nat × Nat) : zix t o = zix s o := by
  unfold zix
  rw [zPE_lk h, zPE_0 h 10 (by decide)]
theorem zPE_Mv1 {s t : Nat → Nat → Nat} (h : zPE s t) (f k : Nat) (o : Int32 × Nat × Nat × List Nat × Nat) : zPE (zsMv1 s f k o) (zsMv1 t f k o) := by
  unfold zsMv1
  rw [zPE_a h 5 f (by decide)]
  exact zPE_rem (zPE_up h _ _ _) k
theorem zPE_Mv2 {s t : Nat → Nat → Nat} (h : zPE s t) (f k : Nat) (o : Int32 × Nat × Nat × List Nat × Nat) : zPE (zsMv2 s f k o) (zsMv2 t f k o) := by
  unfold zsMv2
  split
  · rw [zPE_ix (zPE_Mv1 h f k o)]
    exact zPE_rem (zPE_Mv1 h f k o) _
  · exact zPE_Mv1 h f k o
theorem zPE_Mv3 {s t : Nat → Nat → Nat} (h : zPE s t) (f k : Nat) (o : Int32 × Nat × Nat × List Nat × Nat) : zPE (zsMv3 s f k o) (zsMv3 t f k o) := by
  have e := zPE_Mv2 h f k o
  unfold zsMv3
  rw [zPE_a e 5 f (by decide)]
  exact zPE_add (zPE_up e _ _ _) _ _ _ (fun _ _ => rfl)
theorem zPE_Mv {s t : Nat → Nat → Nat} (h : zPE s t) (f k m : Nat) (o : Int32 × Nat × Nat × List Nat × Nat) : (zsMv t f k m o).1 = (zsMv s f k m o).1 ∧ zPE (zsMv s f k m o).2 (zsMv t f k m o).2 := by
  unfold zsMv
  rw [zPE_wi h, zPE_f h 3 (by decide), zPE_f h 5 (by decide), zPE_f h 8 (by decide), zPE_0 h 10 (by decide), zPE_0 h 0 (by decide), zPE_ni h, zPE_ni h, zPE_no h, zPE_at h, zPE_t h, zPE_gr h]
  repeat' split
  all_goals first | exact ⟨rfl, h⟩ | exact ⟨rfl, zPE_Mv3 h f k o⟩
theorem eM_rename {d : Nat} {h0 : zm_H} {s : Nat → Nat → Nat} {Q : Option Value → zm_H → Prop} {m : Nat} (hS : zMS h0) (hI : zMI s) (hl : ∀ g, g ≤ 40 → s 3 g = 3 → 1 ≤ s 6 g) (h100 : ∀ g, s 5 g ≤ 100) (hm : ∀ g, g ≤ 40 → s 3 g = 2 → zit (zt0 s) m g = 1) (hq : ∀ t, zPE (zsRen s m).2 t → zMI t → Q (some (.int (zsRen s m).1)) (zmh h0 t)) : zm_wc (d + 5) mM_rename [.ref 194] (zmh h0 s) Q := by
  refine zm_enter (Nat.le_of_ble_eq_true rfl) ?_
  show zm_wp _ 101 0 [.ref 194, zm_un, zm_un, zm_un, zm_un, zm_un, zm_un, zm_un, zm_un] [] (zmh h0 s) Q
  have hB := zMIb hI
  have hT : s 0 1 ≤ 1200 := hI 0 1
  refine wx_aload_n kc101_0 rfl rfl ?_
  refine wx_virtual kc101_1 rfl (zmh_is hS 194 8 (by decide) (by decide) rfl) rfl ?_
  refine dM_take hS hI ?_
  intro t0 k0
  show zm_wp _ 101 4 [.ref 194, zm_un, zm_un, zm_un, zm_un, zm_un, zm_un, zm_un, zm_un] [.int (zmtk s)] (zmh h0 t0) _
  have hB0 := zMIb k0.2.1
  refine wx_istore_n (ls' := [.ref 194, .int (zmtk s), zm_un, zm_un, zm_un, zm_un, zm_un, zm_un, zm_un]) kc101_4 rfl rfl rfl rfl ?_
  refine wx_iload_n kc101_5 rfl rfl ?_
  refine wx_if_ge kc101_6 (fun hq6 => ?_) (fun hq6 => ?_)
  · skip
    obtain ⟨z, hz1, hz2, hz3⟩ := zmtk_ge hq6 hT
    rw [hz2]
    show zm_wp _ 101 11 [.ref 194, .int (nI z), zm_un, zm_un, zm_un, zm_un, zm_un, zm_un, zm_un] [] (zmh h0 t0) _
    refine wx_aload_n kc101_11 rfl rfl ?_
    refine wx_iconst (nI 0) kc101_12 (by decide) ?_
    refine wx_iload_n kc101_13 rfl rfl ?_
    refine wx_virtual kc101_14 rfl (zmh_is hS 194 8 (by decide) (by decide) rfl) rfl ?_
    refine dM_walkToName hS k0 hT (by omega) hl ?_
    intro t1 k1 w1
    show zm_wp _ 101 17 [.ref 194, .int (nI z), zm_un, zm_un, zm_un, zm_un, zm_un, zm_un, zm_un] [.int (zna (zwt (zt0 s) 0 z 0))] (zmh h0 t1) _
    have hB1 := zMIb k1.2.1
    refine wx_istore_n (ls' := [.ref 194, .int (nI z), .int (zna (zwt (zt0 s) 0 z 0)), zm_un, zm_un, zm_un, zm_un, zm_un, zm_un]) kc101_17 rfl rfl rfl rfl ?_
    refine wx_iload_n kc101_18 rfl rfl ?_
    refine wx_if_ge kc101_19 (fun hq19 => ?_) (fun hq19 => ?_)
    · skip
      have z1 : zna (zwt (zt0 s) 0 z 0) = 0 := zge_0 (zna_cs (zwt_cs _ _ _ _)) hq19
      obtain ⟨a20, a17, a19, a18, aq, al, _, _, ak⟩ := w1 z1
      have b20 : t1 0 20 ≤ 40 := k1.2.1 0 20
      refine wx_aload_n kc101_24 rfl rfl ?_
      refine wm_getf (.int (nI (t1 0 20))) hS kc101_25 rfl ?_
      have hb28_1 := hB1 0 20
      refine wx_istore_n (ls' := [.ref 194, .int (nI z), .int (zna (zwt (zt0 s) 0 z 0)), .int (nI (t1 0 20)), zm_un, zm_un, zm_un, zm_un, zm_un]) kc101_28 rfl rfl rfl rfl ?_
      refine wx_iload_n kc101_29 rfl rfl ?_
      refine wn_if_ne kc101_30 (by omega) (fun hq30 => ?_) (fun hq30 => ?_)
      · skip
        refine wx_aload_n kc101_37 rfl rfl ?_
        refine wx_aload_n kc101_38 rfl rfl ?_
        refine wm_getf (.int (nI (t1 0 17))) hS kc101_39 rfl ?_
        have hb42_2 := hB1 0 17
        refine wx_aload_n kc101_42 rfl rfl ?_
        refine wm_getf (.int (nI (t1 0 18))) hS kc101_43 rfl ?_
        have hb46_3 := hB1 0 18
        refine wx_aload_n kc101_46 rfl rfl ?_
        refine wm_getf (.int (nI (t1 0 19))) hS kc101_47 rfl ?_
        have hb50_4 := hB1 0 19
        obtain ⟨k, hk1, hk2⟩ : ∃ k, zlkn (zt0 s) (zwt (zt0 s) 0 z 0).2.2.1 (zwt (zt0 s) 0 z 0).2.2.2.1 ((zt0 s) 0 10) = some k ∧ (zt0 s) 9 k = (zwt (zt0 s) 0 z 0).2.1 := ak.elim id (fun z => absurd z.2 (by omega))
        have hk3 := (zlkn_lt hk1).1
        refine wx_virtual kc101_50 rfl (zmh_is hS 194 8 (by decide) (by decide) rfl) rfl ?_
        refine dM_findName hS k1.1 k1.2.1 a17 a19 a18 aq al hk1 ?_
        show zm_wp _ 101 53 [.ref 194, .int (nI z), .int (zna (zwt (zt0 s) 0 z 0)), .int (nI (t1 0 20)), zm_un, zm_un, zm_un, zm_un, zm_un] [.int (nI k)] (zmh h0 t1) _
        refine wx_istore (ls' := [.ref 194, .int (nI z), .int (zna (zwt (zt0 s) 0 z 0)), .int (nI (t1 0 20)), .int (nI k), zm_un, zm_un, zm_un, zm_un]) kc101_53 rfl rfl rfl rfl ?_
        refine wx_aload_n kc101_55 rfl rfl ?_
        refine wx_iload_n kc101_56 rfl rfl ?_
        refine wx_iconst (nI 1) kc101_57 (by decide) ?_
        refine wn_iadd (z + 1) kc101_58 rfl ?_
        refine wx_aload_n kc101_59 rfl rfl ?_
        refine wm_getf (.int (nI (s 0 1))) hS kc101_60 (congrArg (fun z => Value.int (nI z)) k1.2.2.2) ?_
        refine wx_iload_n kc101_63 rfl rfl ?_
        refine wn_isub ((s 0 1) - z) kc101_64 (by omega) ?_
        refine wx_iconst (nI 1) kc101_65 (by decide) ?_
        refine wn_isub (((s 0 1) - z) - 1) kc101_66 (by omega) ?_
        show zm_wp _ 101 67 [.ref 194, .int (nI z), .int (zna (zwt (zt0 s) 0 z 0)), .int (nI (t1 0 20)), .int (nI k), zm_un, zm_un, zm_un, zm_un] [.int (nI (s 0 1 - z - 1)), .int (nI (z + 1)), .ref 194] (zmh h0 t1) _
        refine wx_virtual kc101_67 rfl (zmh_is hS 194 8 (by decide) (by decide) rfl) rfl ?_
        refine dM_walkToName hS k1 hT (by omega) hl ?_
        intro t2 k2 w2
        show zm_wp _ 101 70 [.ref 194, .int (nI z), .int (zna (zwt (zt0 s) 0 z 0)), .int (nI (t1 0 20)), .int (nI k), zm_un, zm_un, zm_un, zm_un] [.int (zna (zwt (zt0 s) (z + 1) (s 0 1 - z - 1) 0))] (zmh h0 t2) _
        have hB2 := zMIb k2.2.1
        refine wx_istore_n (ls' := [.ref 194, .int (nI z), .int (zna (zwt (zt0 s) (z + 1) (s 0 1 - z - 1) 0)), .int (nI (t1 0 20)), .int (nI k), zm_un, zm_un, zm_un, zm_un]) kc101_70 rfl rfl rfl rfl ?_
        refine wx_iload_n kc101_71 rfl rfl ?_
        refine wx_if_ge kc101_72 (fun hq72 => ?_) (fun hq72 => ?_)
        · skip
          have z2 : zna (zwt (zt0 s) (z + 1) (s 0 1 - z - 1) 0) = 0 := zge_0 (zna_cs (zwt_cs _ _ _ _)) hq72
          obtain ⟨c20, c17, c19, c18, cq, cl, cd, _, ck⟩ := w2 z2
          have c10 := zPE_0 k2.1 10 (by decide)
          have e : zsRen s m = zsMv (zt0 s) (t1 0 20) (zix (zt0 s) (zwt (zt0 s) 0 z 0)) m (zwt (zt0 s) (z + 1) (s 0 1 - z - 1) 0) := by
            unfold zsRen
            rw [if_neg (Int32.not_lt.mpr hq6), hz3, if_neg (fun z => z z1), if_neg (fun z => z z2), ← a20]
          rw [e] at hq
          obtain ⟨q1, q2⟩ := zPE_Mv k2.1 (t1 0 20) (zix (zt0 s) (zwt (zt0 s) 0 z 0)) m (zwt (zt0 s) (z + 1) (s 0 1 - z - 1) 0)
          refine lM_rn5 (m := m) (k := zix (zt0 s) (zwt (zt0 s) 0 z 0)) hS k2.2.1 b20 (fun g => by rw [zPE_a k2.1 5 g (by decide)]; exact h100 g) ?_ c20 c17 c19 c18 cq cl ?_ ?_ ?_
          · intro _
            have ez : zix (zt0 s) (zwt (zt0 s) 0 z 0) = k := by
              unfold zix
              rw [hk1]
              rfl
            rw [ez]
            exact ⟨rfl, by omega, by rw [zPE_a k2.1 9 k (by decide), hk2, a20]⟩
          · intro z
            rcases ck with ⟨k5, y1, y2⟩ | ⟨y1, y2⟩
            · exact ⟨k5, by rw [zPE_lk k2.1, c10]; exact y1, by rw [zPE_a k2.1 9 k5 (by decide)]; exact y2⟩
            · exact absurd y2 z
          · rw [zPE_it k2.1]
            exact hm _ (by rw [← c17]; exact k2.2.1 0 17) cd
          · intro v p5 m5
            rw [q1]
            exact hq v (zPE_tr q2 p5) m5
        · skip
          refine wx_iload_n kc101_75 rfl rfl ?_
          refine wx_ireturn kc101_76 rfl rfl ?_
          have e : zsRen s m = (zna (zwt (zt0 s) (z + 1) (s 0 1 - z - 1) 0), zt0 s) := by
            unfold zsRen
            rw [if_neg (Int32.not_lt.mpr hq6), hz3]
            rw [if_neg (fun z => z z1), if_pos (znge hq72)]
          rw [e] at hq
          exact hq _ k2.1 k2.2.1
      · skip
        refine wx_iconst (-1) kc101_33 (by decide) ?_
        refine wx_goto kc101_34 ?_
        refine wx_istore (ls' := [.ref 194, .int (nI z), .int (zna (zwt (zt0 s) 0 z 0)), .int (nI (t1 0 20)), .int (-1), zm_un, zm_un, zm_un, zm_un]) kc101_53 rfl rfl rfl rfl ?_
        refine wx_aload_n kc101_55 rfl rfl ?_
        refine wx_iload_n kc101_56 rfl rfl ?_
        refine wx_iconst (nI 1) kc101_57 (by decide) ?_
        refine wn_iadd (z + 1) kc101_58 rfl ?_
        refine wx_aload_n kc101_59 rfl rfl ?_
        refine wm_getf (.int (nI (s 0 1))) hS kc101_60 (congrArg (fun z => Value.int (nI z)) k1.2.2.2) ?_
        refine wx_iload_n kc101_63 rfl rfl ?_
        refine wn_isub ((s 0 1) - z) kc101_64 (by omega) ?_
        refine wx_iconst (nI 1) kc101_65 (by decide) ?_
        refine wn_isub (((s 0 1) - z) - 1) kc101_66 (by omega) ?_
        show zm_wp _ 101 67 [.ref 194, .int (nI z), .int (zna (zwt (zt0 s) 0 z 0)), .int (nI (t1 0 20)), .int (-1), zm_un, zm_un, zm_un, zm_un] [.int (nI (s 0 1 - z - 1)), .int (nI (z + 1)), .ref 194] (zmh h0 t1) _
        refine wx_virtual kc101_67 rfl (zmh_is hS 194 8 (by decide) (by decide) rfl) rfl ?_
        refine dM_walkToName hS k1 hT (by omega) hl ?_
        intro t2 k2 w2
        show zm_wp _ 101 70 [.ref 194, .int (nI z), .int (zna (zwt (zt0 s) 0 z 0)), .int (nI (t1 0 20)), .int (-1), zm_un, zm_un, zm_un, zm_un] [.int (zna (zwt (zt0 s) (z + 1) (s 0 1 - z - 1) 0))] (zmh h0 t2) _
        have hB2 := zMIb k2.2.1
        refine wx_istore_n (ls' := [.ref 194, .int (nI z), .int (zna (zwt (zt0 s) (z + 1) (s 0 1 - z - 1) 0)), .int (nI (t1 0 20)), .int (-1), zm_un, zm_un, zm_un, zm_un]) kc101_70 rfl rfl rfl rfl ?_
        refine wx_iload_n kc101_71 rfl rfl ?_
        refine wx_if_ge kc101_72 (fun hq72 => ?_) (fun hq72 => ?_)
        · skip
          have z2 : zna (zwt (zt0 s) (z + 1) (s 0 1 - z - 1) 0) = 0 := zge_0 (zna_cs (zwt_cs _ _ _ _)) hq72
          obtain ⟨c20, c17, c19, c18, cq, cl, cd, _, ck⟩ := w2 z2
          have c10 := zPE_0 k2.1 10 (by decide)
          have e : zsRen s m = zsMv (zt0 s) (t1 0 20) (zix (zt0 s) (zwt (zt0 s) 0 z 0)) m (zwt (zt0 s) (z + 1) (s 0 1 - z - 1) 0) := by
            unfold zsRen
            rw [if_neg (Int32.not_lt.mpr hq6), hz3, if_neg (fun z => z z1), if_neg (fun z => z z2), ← a20]
          rw [e] at hq
          obtain ⟨q1, q2⟩ := zPE_Mv k2.1 (t1 0 20) (zix (zt0 s) (zwt (zt0 s) 0 z 0)) m (zwt (zt0 s) (z + 1) (s 0 1 - z - 1) 0)
          refine lM_rn5 (m := m) (k := zix (zt0 s) (zwt (zt0 s) 0 z 0)) hS k2.2.1 b20 (fun g => by rw [zPE_a k2.1 5 g (by decide)]; exact h100 g) ?_ c20 c17 c19 c18 cq cl ?_ ?_ ?_
          · intro z
            exact absurd (by omega) z
          · intro z
            rcases ck with ⟨k5, y1, y2⟩ | ⟨y1, y2⟩
            · exact ⟨k5, by rw [zPE_lk k2.1, c10]; exact y1, by rw [zPE_a k2.1 9 k5 (by decide)]; exact y2⟩
            · exact absurd y2 z
          · rw [zPE_it k2.1]
            exact hm _ (by rw [← c17]; exact k2.2.1 0 17) cd
          · intro v p5 m5
            rw [q1]
            exact hq v (zPE_tr q2 p5) m5
        · skip
          refine wx_iload_n kc101_75 rfl rfl ?_
          refine wx_ireturn kc101_76 rfl rfl ?_
          have e : zsRen s m = (zna (zwt (zt0 s) (z + 1) (s 0 1 - z - 1) 0), zt0 s) := by
            unfold zsRen
            rw [if_neg (Int32.not_lt.mpr hq6), hz3]
            rw [if_neg (fun z => z z1), if_pos (znge hq72)]
          rw [e] at hq
          exact hq _ k2.1 k2.2.1
    · skip
      refine wx_iload_n kc101_22 rfl rfl ?_
      refine wx_ireturn kc101_23 rfl rfl ?_
      have e : zsRen s m = (zna (zwt (zt0 s) 0 z 0), zt0 s) := by
        unfold zsRen
        rw [if_neg (Int32.not_lt.mpr hq6), hz3]
        rw [if_pos (znge hq19)]
      rw [e] at hq
      exact hq _ k1.1 k1.2.1
  · skip
    refine wx_iconst (-1) kc101_9 (by decide) ?_
    refine wx_ireturn kc101_10 rfl rfl ?_
    have e : zsRen s m = (-1, zt0 s) := by
      unfold zsRen
      rw [if_pos (Int32.not_le.mp hq6)]
    rw [e] at hq
    exact hq _ k0.1 k0.2.1
