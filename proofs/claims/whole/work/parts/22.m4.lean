theorem lM_hm1 {d : Nat} {h0 : zm_H} {s : Nat → Nat → Nat} {Q : Option Value → zm_H → Prop} {a : Nat} (hS : zMS h0) (hI : zMI s) (ha : a ≤ 42000) (hc : ∀ c, a ≤ c → c ≤ 42000 → (∀ i, a ≤ i → i < c → s 12 i ≠ 47) → (c = 42000 ∨ s 12 c = 47) → zm_wp (d + 0) 89 36 [.ref 194, .int (nI c), .int (nI a)] [] (zmh h0 s) Q) : ∀ (m k : Nat), k + m = 42000 → a ≤ k → (∀ i, a ≤ i → i < k → s 12 i ≠ 47) → zm_wp (d + 0) 89 13 [.ref 194, .int (nI k), .int (nI a)] [] (zmh h0 s) Q := by
  have hB := zMIb hI
  intro m
  induction m with
  | zero =>
    intro k hk hak hno
    refine wx_iload_n kc89_13 rfl rfl ?_
    refine wx_ldc (nI 42000) kc89_14 (by decide) ?_
    refine wn_icmp_ge kc89_16 (by omega) (by decide) (fun hq16 => ?_) (fun hq16 => ?_)
    · skip
      exact hc k hak (by omega) hno (by omega)
    · skip
      exact absurd hq16 (by omega)
  | succ m ih =>
    intro k hk hak hno
    refine wx_iload_n kc89_13 rfl rfl ?_
    refine wx_ldc (nI 42000) kc89_14 (by decide) ?_
    refine wn_icmp_ge kc89_16 (by omega) (by decide) (fun hq16 => ?_) (fun hq16 => ?_)
    · skip
      exact hc k hak (by omega) hno (by omega)
    · skip
      refine wx_aload_n kc89_19 rfl rfl ?_
      refine wm_getf (.ref 206) hS kc89_20 rfl ?_
      refine wx_iload_n kc89_23 rfl rfl ?_
      refine wm_iald 206 42000 (s 12 k) hS kc89_24 rfl rfl rfl rfl (by omega) (fun _ => rfl) rfl ?_
      have hb25_1 := hB 12 k
      refine wx_bipush (nI 47) kc89_25 (by decide) ?_
      refine wn_icmp_eq kc89_27 (hB _ _) (by decide) (fun hq27 => ?_) (fun hq27 => ?_)
      · skip
        exact hc k hak (by omega) hno (by omega)
      · skip
        refine wn_iinc (k + 1) (ls' := [.ref 194, .int (nI (k + 1)), .int (nI a)]) kc89_30 rfl rfl rfl rfl rfl ?_
        refine wx_goto kc89_33 ?_
        exact ih (k + 1) (by omega) (by omega) (fun i h1 h2 => by
          rcases Nat.lt_or_ge i k with h3 | h3
          · exact hno i h1 h3
          · rw [show i = k by omega]; exact hq27)
def zhm (s : Nat → Nat → Nat) (k : Nat) : Nat := if zpt (zls (s 12) k 42000) = [] then 0 else 1
theorem zhm_skip {s : Nat → Nat → Nat} {a c : Nat} (h1 : a ≤ c) (h2 : c ≤ 42000) (hn : ∀ i, a ≤ i → i < c → s 12 i ≠ 47) (he : c = 42000 ∨ s 12 c = 47) (hp : zpk (zls (s 12) a c) = false) : zhm s a = zhm s (c + 1) := by
  have e : zpt (zls (s 12) a 42000) = zpt (zls (s 12) c 42000) := by
    rw [zpt_take (s 12) h1 h2 hn he, hp]
    rfl
  unfold zhm
  rw [e]
  rcases Nat.lt_or_ge c 42000 with h | h
  · rw [zpt_skip (s 12) h (by omega)]
  · rw [zls_nil (s 12) h, zls_nil (s 12) (show 42000 ≤ c + 1 by omega)]
theorem zhm_yes {s : Nat → Nat → Nat} {a c : Nat} (h1 : a ≤ c) (h2 : c ≤ 42000) (hn : ∀ i, a ≤ i → i < c → s 12 i ≠ 47) (he : c = 42000 ∨ s 12 c = 47) (hp : zpk (zls (s 12) a c) = true) : zhm s a = 1 := by
  unfold zhm
  rw [zpt_take (s 12) h1 h2 hn he, if_pos hp]
  rfl
theorem zhm_end {s : Nat → Nat → Nat} {k : Nat} (h : 42000 ≤ k) : zhm s k = 0 := by
  unfold zhm
  rw [zls_nil (s 12) h, zpt_nil]
  rfl
theorem zhm_le (s : Nat → Nat → Nat) (k : Nat) : zhm s k ≤ 1 := by unfold zhm; split <;> omega
theorem zpk_0 {f : Nat → Nat} {a : Nat} : zpk (zls f a a) = false := by rw [zls_nil f (Nat.le_refl a)]; rfl
theorem zpk_1 {f : Nat → Nat} {a : Nat} : zpk (zls f a (a + 1)) = !(f a == 46) := by
  rw [zls_cons f (by omega), zls_nil f (Nat.le_refl _)]
  unfold zpk
  by_cases h : f a = 46
  · rw [h]; rfl
  · have : (f a == 46) = false := by simpa using h
    rw [this]
    simp [h]
theorem zpk_2 {f : Nat → Nat} {a c : Nat} (h : a + 1 < c) : zpk (zls f a c) = true := by
  rw [zls_cons f (by omega), zls_cons f (by omega)]
  unfold zpk
  simp
theorem lM_hm2 {d : Nat} {h0 : zm_H} {s : Nat → Nat → Nat} {Q : Option Value → zm_H → Prop} (hS : zMS h0) (hI : zMI s) (hq : ∀ r, r = zhm s (s 0 16) → Q (some (.int (nI r))) (zmh h0 s)) : ∀ (n k : Nat) (w : Value), 42001 ≤ k + n → k ≤ 42001 → zhm s k = zhm s (s 0 16) → zm_wp (d + 0) 89 5 [.ref 194, .int (nI k), w] [] (zmh h0 s) Q := by
  have hB := zMIb hI
  intro n
  induction n with
  | zero =>
    intro k w hk hk2 hz
    refine wx_iload_n kc89_5 rfl rfl ?_
    refine wx_ldc (nI 42000) kc89_6 (by decide) ?_
    refine wn_icmp_ge kc89_8 (by omega) (by decide) (fun hq8 => ?_) (fun hq8 => ?_)
    · skip
      refine wx_iconst (nI 0) kc89_69 (by decide) ?_
      refine wx_ireturn kc89_70 rfl (by decide) ?_
      exact hq 0 (hz ▸ (zhm_end (by omega)).symm)
    · skip
      exact absurd hq8 (by omega)
  | succ n ih =>
    intro k w hk hk2 hz
    refine wx_iload_n kc89_5 rfl rfl ?_
    refine wx_ldc (nI 42000) kc89_6 (by decide) ?_
    refine wn_icmp_ge kc89_8 (by omega) (by decide) (fun hq8 => ?_) (fun hq8 => ?_)
    · skip
      refine wx_iconst (nI 0) kc89_69 (by decide) ?_
      refine wx_ireturn kc89_70 rfl (by decide) ?_
      exact hq 0 (hz ▸ (zhm_end (by omega)).symm)
    · skip
      refine wx_iload_n kc89_11 rfl rfl ?_
      refine wx_istore_n (ls' := [.ref 194, .int (nI k), .int (nI k)]) kc89_12 rfl rfl rfl rfl ?_
      refine lM_hm1 hS hI (by omega) ?_ (42000 - k) k (by omega) (Nat.le_refl k) (fun i h1 h2 => absurd h1 (by omega))
      intro c hc1 hc2 hno hend
      refine wx_iload_n kc89_36 rfl rfl ?_
      refine wx_iload_n kc89_37 rfl rfl ?_
      refine wn_isub (c - k) kc89_38 (by omega) ?_
      refine wx_iconst (nI 1) kc89_39 (by decide) ?_
      refine wn_icmp_gt kc89_40 (by omega) (by decide) (fun hq40 => ?_) (fun hq40 => ?_)
      · skip
        refine wx_iconst (nI 1) kc89_61 (by decide) ?_
        refine wx_ireturn kc89_62 rfl (by decide) ?_
        refine hq 1 (hz ▸ (zhm_yes hc1 hc2 hno hend ?_).symm)
        first | exact zpk_2 (by omega) | (rw [show c = k + 1 by omega, zpk_1]; simpa using hq58)
      · skip
        refine wx_iload_n kc89_43 rfl rfl ?_
        refine wx_iload_n kc89_44 rfl rfl ?_
        refine wn_isub (c - k) kc89_45 (by omega) ?_
        refine wx_iconst (nI 1) kc89_46 (by decide) ?_
        refine wn_icmp_ne kc89_47 (by omega) (by decide) (fun hq47 => ?_) (fun hq47 => ?_)
        · skip
          refine wn_iinc (c + 1) (ls' := [.ref 194, .int (nI (c + 1)), .int (nI k)]) kc89_63 rfl rfl rfl rfl rfl ?_
          refine wx_goto kc89_66 ?_
          refine ih (c + 1) _ (by omega) (by omega) ((zhm_skip hc1 hc2 hno hend ?_).symm.trans hz)
          first | (rw [show c = k + 1 by omega, zpk_1, hq58]; rfl) | (rw [show c = k by omega]; exact zpk_0)
        · skip
          refine wx_aload_n kc89_50 rfl rfl ?_
          refine wm_getf (.ref 206) hS kc89_51 rfl ?_
          refine wx_iload_n kc89_54 rfl rfl ?_
          refine wm_iald 206 42000 (s 12 k) hS kc89_55 rfl rfl rfl rfl (by omega) (fun _ => rfl) rfl ?_
          have hb56_1 := hB 12 k
          refine wx_bipush (nI 46) kc89_56 (by decide) ?_
          refine wn_icmp_eq kc89_58 (hB _ _) (by decide) (fun hq58 => ?_) (fun hq58 => ?_)
          · skip
            refine wn_iinc (c + 1) (ls' := [.ref 194, .int (nI (c + 1)), .int (nI k)]) kc89_63 rfl rfl rfl rfl rfl ?_
            refine wx_goto kc89_66 ?_
            refine ih (c + 1) _ (by omega) (by omega) ((zhm_skip hc1 hc2 hno hend ?_).symm.trans hz)
            first | (rw [show c = k + 1 by omega, zpk_1, hq58]; rfl) | (rw [show c = k by omega]; exact zpk_0)
          · skip
            refine wx_iconst (nI 1) kc89_61 (by decide) ?_
            refine wx_ireturn kc89_62 rfl (by decide) ?_
            refine hq 1 (hz ▸ (zhm_yes hc1 hc2 hno hend ?_).symm)
            first | exact zpk_2 (by omega) | (rw [show c = k + 1 by omega, zpk_1]; simpa using hq58)
theorem cM_hasMore {d : Nat} {h0 : zm_H} {s : Nat → Nat → Nat} {Q : Option Value → zm_H → Prop}  (hS : zMS h0) (hI : zMI s) (hq : Q (some (.int (nI (zhm s (s 0 16))))) (zmh h0 s)) : zm_wc (d + 1) mM_hasMore [.ref 194] (zmh h0 s) Q := by
  refine zm_enter (Nat.le_of_ble_eq_true rfl) ?_
  show zm_wp _ 89 0 [.ref 194, zm_un, zm_un] [] (zmh h0 s) Q
  have hB := zMIb hI
  have ha : s 0 16 ≤ 42000 := hI 0 16
  refine wx_aload_n kc89_0 rfl rfl ?_
  refine wm_getf (.int (nI (s 0 16))) hS kc89_1 rfl ?_
  have hb4_1 := hB 0 16
  refine wx_istore_n (ls' := [.ref 194, .int (nI (s 0 16)), zm_un]) kc89_4 rfl rfl rfl rfl ?_
  exact lM_hm2 hS hI (fun r hr => hr ▸ hq) 42001 (s 0 16) _ (by omega) (by omega) rfl
