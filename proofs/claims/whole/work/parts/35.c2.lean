theorem cT_hasSpaceFor {d : Nat} {h0 : zm_H} {c : Nat → Nat → Nat} {Q : Option Value → zm_H → Prop} {x : Int32} (hS : zCS h0) (hI : zCI c) (hq0 : nI (1200 - c 0 1) < x → Q (some (.int (nI 0))) (zch h0 c)) (hq1 : ¬ nI (1200 - c 0 1) < x → Q (some (.int (nI 1))) (zch h0 c)) : zm_wc (d + 1) mT_hasSpaceFor [.ref 2, .int x] (zch h0 c) Q := by
  refine zm_enter2 (zfl_cons rfl (zfl_cons rfl zfl_nil)) rfl ?_
  show zm_wp _ 20 0 [.ref 2, .int x] [] (zch h0 c) Q
  have hb1 : c 0 1 ≤ 1200 := hI 0 1
  refine wx_iload_n kc20_0 rfl rfl ?_
  refine wx_sipush (nI 1200) kc20_1 (by decide) ?_
  refine wx_aload_n kc20_4 rfl rfl ?_
  refine wc_get 2 2 (.int (nI (c 0 1))) hS kc20_5 rfl rfl rfl rfl ?_
  have hb8_1 : c 0 1 ≤ 1200 := hI 0 1
  refine wn_isub (1200 - (c 0 1)) kc20_8 (by omega) ?_
  refine wx_icmp_gt kc20_9 (fun hq9 => ?_) (fun hq9 => ?_)
  · skip
    refine wx_iconst (nI 0) kc20_16 (by decide) ?_
    refine wx_ireturn kc20_17 rfl (by decide) ?_
    exact hq0 hq9
  · skip
    refine wx_iconst (nI 1) kc20_12 (by decide) ?_
    refine wx_goto kc20_13 ?_
    refine wx_ireturn kc20_17 rfl (by decide) ?_
    exact hq1 hq9
theorem cT_append {d : Nat} {h0 : zm_H} {c : Nat → Nat → Nat} {Q : Option Value → zm_H → Prop} {x : Int32} {v : Nat} (hS : zCS h0) (hI : zCI c) (hx : x.toInt8.toInt32 = zsg v) (ht : c 0 1 < 1200) (hq : Q none (zch h0 (zup (zup c 19 (1200 * 3 + c 0 1) v) 0 1 (c 0 1 + 1)))) : zm_wc (d + 1) mT_append [.ref 2, .int x] (zch h0 c) Q := by
  refine zm_enter2 (zfl_cons rfl (zfl_cons rfl zfl_nil)) rfl ?_
  show zm_wp _ 21 0 [.ref 2, .int x] [] (zch h0 c) Q
  refine wx_aload_n kc21_0 rfl rfl ?_
  refine wc_get 2 2 (.int (nI (c 0 1))) hS kc21_1 rfl rfl rfl rfl ?_
  have hb4_1 : c 0 1 ≤ 1200 := hI 0 1
  refine wn_if_lt kc21_4 (by omega) ?_
  refine wx_aload_n kc21_7 rfl rfl ?_
  refine wc_get 2 2 (.int (nI (c 0 1))) hS kc21_8 rfl rfl rfl rfl ?_
  refine wx_aload_n kc21_11 rfl rfl ?_
  refine wc_get 2 2 (zrA 3) hS kc21_12 rfl rfl rfl rfl ?_
  refine wcA_len (zga_3 hS) kc21_15 ?_
  refine wn_icmp_ge kc21_16 (by omega) (by decide) (fun hq16 => ?_) (fun hq16 => ?_)
  · skip
    exact absurd hq16 (by omega)
  · skip
    refine wx_aload_n kc21_19 rfl rfl ?_
    refine wc_get 2 2 (zrA 3) hS kc21_20 rfl rfl rfl rfl ?_
    refine wx_aload_n kc21_23 rfl rfl ?_
    refine wc_get 2 2 (.int (nI (c 0 1))) hS kc21_24 rfl rfl rfl rfl ?_
    have hb27_2 : c 0 1 ≤ 1200 := hI 0 1
    refine wx_iload_n kc21_27 rfl rfl ?_
    refine wcA_st (v := v) (zga_3 hS) kc21_28 (by omega) hx ?_
    refine wx_aload_n kc21_29 rfl rfl ?_
    refine wx_dup kc21_30 rfl ?_
    refine wc_get 2 2 (.int (nI (c 0 1))) hS kc21_31 rfl rfl rfl rfl ?_
    refine wx_iconst (nI 1) kc21_34 (by decide) ?_
    refine wn_iadd ((c 0 1) + 1) kc21_35 rfl ?_
    refine wc_put (v := ((c 0 1) + 1)) 2 2 1 hS kc21_36 rfl rfl rfl rfl rfl rfl ?_
    refine wx_return kc21_39 rfl ?_
    exact hq
theorem cT_useUp {d : Nat} {h0 : zm_H} {c : Nat → Nat → Nat} {Q : Option Value → zm_H → Prop}  (hS : zCS h0) (hI : zCI c) (hq : Q (some (.int (nI (c 0 1)))) (zch h0 (zup c 0 1 0))) : zm_wc (d + 1) mT_useUp [.ref 2] (zch h0 c) Q := by
  refine zm_enter2 (zfl_cons rfl zfl_nil) rfl ?_
  show zm_wp _ 22 0 [.ref 2, zm_un] [] (zch h0 c) Q
  refine wx_aload_n kc22_0 rfl rfl ?_
  refine wc_get 2 2 (.int (nI (c 0 1))) hS kc22_1 rfl rfl rfl rfl ?_
  have hb4_1 : c 0 1 ≤ 1200 := hI 0 1
  refine wx_istore_n (ls' := [.ref 2, .int (nI (c 0 1))]) kc22_4 rfl rfl rfl rfl ?_
  refine wx_aload_n kc22_5 rfl rfl ?_
  refine wx_iconst (nI 0) kc22_6 (by decide) ?_
  refine wc_put (v := 0) 2 2 1 hS kc22_7 rfl rfl rfl rfl rfl rfl ?_
  refine wx_iload_n kc22_10 rfl rfl ?_
  refine wx_ireturn kc22_11 rfl rfl ?_
  exact hq
theorem lT_zeroFrom {d : Nat} {h0 : zm_H} {c : Nat → Nat → Nat} {Q : Option Value → zm_H → Prop} {a e : Nat} (hS : zCS h0) (hI : zCI c) (ha1 : a ≤ 1201) (he : e ≤ 1200) (hyes : ∀ k, a ≤ k → k < e → c 19 (1200 * 3 + k) = 0 → (∀ i, a ≤ i → i < k → c 19 (1200 * 3 + i) ≠ 0) → Q (some (.int (nI k))) (zch h0 c)) (hno : (∀ i, a ≤ i → i < e → c 19 (1200 * 3 + i) ≠ 0) → Q (some (.int (-1))) (zch h0 c)) : ∀ (n i : Nat), i + n = max e a → a ≤ i → (∀ j, a ≤ j → j < i → c 19 (1200 * 3 + j) ≠ 0) → zm_wp (d + 0) 25 2 [.ref 2, .int (nI a), .int (nI e), .int (nI i)] [] (zch h0 c) Q := by
  intro n
  induction n with
  | zero =>
    intro i hi
    intro ha hp
    refine wx_iload_n kc25_2 rfl rfl ?_
    refine wn_if_lt kc25_3 (by omega) ?_
    refine wx_iload_n kc25_6 rfl rfl ?_
    refine wx_iload_n kc25_7 rfl rfl ?_
    refine wn_icmp_ge kc25_8 (by omega) (by omega) (fun hq8 => ?_) (fun hq8 => ?_)
    · skip
      refine wx_iconst (-1) kc25_37 (by decide) ?_
      refine wx_ireturn kc25_38 rfl rfl ?_
      first | exact hno (fun j g1 g2 => hp j g1 (by omega)) | exact absurd hq17 (by omega)
    · skip
      exact absurd hq8 (by omega)
  | succ n ih =>
    intro i hi
    intro ha hp
    refine wx_iload_n kc25_2 rfl rfl ?_
    refine wn_if_lt kc25_3 (by omega) ?_
    refine wx_iload_n kc25_6 rfl rfl ?_
    refine wx_iload_n kc25_7 rfl rfl ?_
    refine wn_icmp_ge kc25_8 (by omega) (by omega) (fun hq8 => ?_) (fun hq8 => ?_)
    · skip
      refine wx_iconst (-1) kc25_37 (by decide) ?_
      refine wx_ireturn kc25_38 rfl rfl ?_
      first | exact hno (fun j g1 g2 => hp j g1 (by omega)) | exact absurd hq17 (by omega)
    · skip
      refine wx_iload_n kc25_11 rfl rfl ?_
      refine wx_aload_n kc25_12 rfl rfl ?_
      refine wc_get 2 2 (zrA 3) hS kc25_13 rfl rfl rfl rfl ?_
      refine wcA_len (zga_3 hS) kc25_16 ?_
      refine wn_icmp_ge kc25_17 (by omega) (by decide) (fun hq17 => ?_) (fun hq17 => ?_)
      · skip
        refine wx_iconst (-1) kc25_37 (by decide) ?_
        refine wx_ireturn kc25_38 rfl rfl ?_
        first | exact hno (fun j g1 g2 => hp j g1 (by omega)) | exact absurd hq17 (by omega)
      · skip
        refine wx_aload_n kc25_20 rfl rfl ?_
        refine wc_get 2 2 (zrA 3) hS kc25_21 rfl rfl rfl rfl ?_
        refine wx_iload_n kc25_24 rfl rfl ?_
        refine wcA_ld (c 19 (1200 * 3 + i)) (zga_3 hS) kc25_25 (by omega) rfl ?_
        refine wg_if_ne kc25_26 (Nat.lt_succ_of_le (hI 19 _)) (fun hq26 => ?_) (fun hq26 => ?_)
        · skip
          refine wn_iinc (i + 1) (ls' := [.ref 2, .int (nI a), .int (nI e), .int (nI (i + 1))]) kc25_31 rfl rfl rfl rfl rfl ?_
          refine wx_goto kc25_34 ?_
          refine ih (i + 1) (by omega) (by omega) (fun j g1 g2 => ?_)
          by_cases hj : j = i
          · rw [hj]; exact hq26
          · exact hp j g1 (by omega)
        · skip
          refine wx_iload_n kc25_29 rfl rfl ?_
          refine wx_ireturn kc25_30 rfl rfl ?_
          exact hyes i ha (by omega) hq26 hp
theorem cT_zeroFrom {d : Nat} {h0 : zm_H} {c : Nat → Nat → Nat} {Q : Option Value → zm_H → Prop} {a e : Nat} (hS : zCS h0) (hI : zCI c) (ha : a ≤ 1201) (he : e ≤ 1200) (hyes : ∀ k, a ≤ k → k < e → c 19 (1200 * 3 + k) = 0 → (∀ i, a ≤ i → i < k → c 19 (1200 * 3 + i) ≠ 0) → Q (some (.int (nI k))) (zch h0 c)) (hno : (∀ i, a ≤ i → i < e → c 19 (1200 * 3 + i) ≠ 0) → Q (some (.int (-1))) (zch h0 c)) : zm_wc (d + 1) mT_zeroFrom [.ref 2, .int (nI a), .int (nI e)] (zch h0 c) Q := by
  refine zm_enter2 (zfl_cons rfl (zfl_cons rfl (zfl_cons rfl zfl_nil))) rfl ?_
  show zm_wp _ 25 0 [.ref 2, .int (nI a), .int (nI e), zm_un] [] (zch h0 c) Q
  refine wx_iload_n kc25_0 rfl rfl ?_
  refine wx_istore_n (ls' := [.ref 2, .int (nI a), .int (nI e), .int (nI a)]) kc25_1 rfl rfl rfl rfl ?_
  exact lT_zeroFrom hS hI ha he hyes hno (max e a - a) a (by omega) (by omega) (fun j g1 g2 => absurd g1 (by omega))
theorem cT_hasZero {d : Nat} {h0 : zm_H} {c : Nat → Nat → Nat} {Q : Option Value → zm_H → Prop} {e : Nat} (hS : zCS h0) (hI : zCI c) (he : e ≤ 1200) (hq1 : ∀ k, k < e → c 19 (1200 * 3 + k) = 0 → (∀ i, i < k → c 19 (1200 * 3 + i) ≠ 0) → Q (some (.int (nI 1))) (zch h0 c)) (hq0 : (∀ i, i < e → c 19 (1200 * 3 + i) ≠ 0) → Q (some (.int (nI 0))) (zch h0 c)) : zm_wc (d + 2) mT_hasZero [.ref 2, .int (nI e)] (zch h0 c) Q := by
  refine zm_enter2 (zfl_cons rfl (zfl_cons rfl zfl_nil)) rfl ?_
  show zm_wp _ 23 0 [.ref 2, .int (nI e)] [] (zch h0 c) Q
  refine wx_aload_n kc23_0 rfl rfl ?_
  refine wx_iconst (nI 0) kc23_1 (by decide) ?_
  refine wx_iload_n kc23_2 rfl rfl ?_
  refine wc_call hS kc23_3 rfl rfl rfl rfl rfl ?_
  refine cT_zeroFrom hS hI (by decide) he (fun k g1 g2 g3 g4 => ?_) (fun g1 => ?_)
  · skip
    show zm_wp _ 23 6 [.ref 2, .int (nI e)] [.int (nI k)] (zch h0 c) _
    refine wn_if_lt kc23_6 (by omega) ?_
    refine wx_iconst (nI 1) kc23_9 (by decide) ?_
    refine wx_goto kc23_10 ?_
    refine wx_ireturn kc23_14 rfl (by decide) ?_
    exact hq1 k g2 g3 (fun i h => g4 i (Nat.zero_le _) h)
  · skip
    show zm_wp _ 23 6 [.ref 2, .int (nI e)] [.int (-1)] (zch h0 c) _
    refine wx_if_lt kc23_6 (fun _ => ?_) (fun z => absurd (by decide) z)
    refine wx_iconst (nI 0) kc23_13 (by decide) ?_
    refine wx_ireturn kc23_14 rfl (by decide) ?_
    exact hq0 (fun i h => g1 i (Nat.zero_le _) h)
theorem cT_onlyZero {d : Nat} {h0 : zm_H} {c : Nat → Nat → Nat} {Q : Option Value → zm_H → Prop} {e : Nat} (hS : zCS h0) (hI : zCI c) (he : e ≤ 1200) (hyes : ∀ k, k < e → c 19 (1200 * 3 + k) = 0 → (∀ i, i < e → i ≠ k → c 19 (1200 * 3 + i) ≠ 0) → Q (some (.int (nI k))) (zch h0 c)) (hno : (∀ k, k < e → c 19 (1200 * 3 + k) = 0 → ¬ (∀ i, i < e → i ≠ k → c 19 (1200 * 3 + i) ≠ 0)) → Q (some (.int (-1))) (zch h0 c)) : zm_wc (d + 2) mT_onlyZero [.ref 2, .int (nI e)] (zch h0 c) Q := by
  refine zm_enter2 (zfl_cons rfl (zfl_cons rfl zfl_nil)) rfl ?_
  show zm_wp _ 24 0 [.ref 2, .int (nI e), zm_un] [] (zch h0 c) Q
  refine wx_aload_n kc24_0 rfl rfl ?_
  refine wx_iconst (nI 0) kc24_1 (by decide) ?_
  refine wx_iload_n kc24_2 rfl rfl ?_
  refine wc_call hS kc24_3 rfl rfl rfl rfl rfl ?_
  refine cT_zeroFrom hS hI (by decide) he (fun k g1 g2 g3 g4 => ?_) (fun g1 => ?_)
  · skip
    show zm_wp _ 24 6 [.ref 2, .int (nI e), zm_un] [.int (nI k)] (zch h0 c) _
    refine wx_istore_n (ls' := [.ref 2, .int (nI e), .int (nI k)]) kc24_6 rfl rfl rfl rfl ?_
    refine wx_iload_n kc24_7 rfl rfl ?_
    refine wn_if_lt kc24_8 (by omega) ?_
    refine wx_aload_n kc24_11 rfl rfl ?_
    refine wx_iload_n kc24_12 rfl rfl ?_
    refine wx_iconst (nI 1) kc24_13 (by decide) ?_
    refine wn_iadd (k + 1) kc24_14 rfl ?_
    refine wx_iload_n kc24_15 rfl rfl ?_
    refine wc_call hS kc24_16 rfl rfl rfl rfl rfl ?_
    refine cT_zeroFrom hS hI (by omega) he (fun k2 f1 f2 f3 f4 => ?_) (fun f1 => ?_)
    · skip
      show zm_wp _ 24 19 [.ref 2, .int (nI e), .int (nI k)] [.int (nI k2)] (zch h0 c) _
      refine wn_if_ge kc24_19 (by omega) ?_
      refine wx_iconst (-1) kc24_26 (by decide) ?_
      refine wx_ireturn kc24_27 rfl rfl ?_
      exact hno (fun j h3 h4 h5 => by
        by_cases hj : j = k
        · exact h5 k2 (by omega) (by omega) f3
        · exact h5 k g2 (fun z => hj z.symm) g3)
    · skip
      show zm_wp _ 24 19 [.ref 2, .int (nI e), .int (nI k)] [.int (-1)] (zch h0 c) _
      refine wx_if_ge kc24_19 (fun z => absurd z (by decide)) (fun _ => ?_)
      refine wx_iload_n kc24_22 rfl rfl ?_
      refine wx_goto kc24_23 ?_
      refine wx_ireturn kc24_27 rfl rfl ?_
      refine hyes k g2 g3 (fun j h3 h4 => ?_)
      rcases Nat.lt_or_ge j k with z | z
      · exact g4 j (Nat.zero_le _) z
      · exact f1 j (by omega) h3
  · skip
    show zm_wp _ 24 6 [.ref 2, .int (nI e), zm_un] [.int (-1)] (zch h0 c) _
    refine wx_istore_n (ls' := [.ref 2, .int (nI e), .int (-1)]) kc24_6 rfl rfl rfl rfl ?_
    refine wx_iload_n kc24_7 rfl rfl ?_
    refine wx_if_lt kc24_8 (fun _ => ?_) (fun z => absurd (by decide) z)
    refine wx_iconst (-1) kc24_26 (by decide) ?_
    refine wx_ireturn kc24_27 rfl rfl ?_
    exact hno (fun j g3 g4 g5 => g1 j (Nat.zero_le _) g3 g4)
theorem cN_copyBytes {d : Nat} {h0 : zm_H} {c : Nat → Nat → Nat} {Q : Option Value → zm_H → Prop} {a b na nb k n : Nat} (hI : zCI c) (ga : zga h0 a na) (gb : zga h0 b nb) (h1 : k + n ≤ na) (h2 : n ≤ nb) (hq : Q (some (.int (nI n))) (zch h0 (zwr c 19 (1200 * b) n (fun i => c 19 (1200 * a + (k + i)))))) : zm_wc (d + 1) mN_copyBytes [zrA a, .int (nI k), .int (nI n), zrA b] (zch h0 c) Q := by
  refine zm_enter2 (zfl_cons (zrA_c1 _) (zfl_cons rfl (zfl_cons rfl (zfl_cons (zrA_c1 _) zfl_nil)))) rfl ?_
  show zm_wp _ 72 0 [zrA a, .int (nI k), .int (nI n), zrA b, zm_un] [] (zch h0 c) Q
  have hb1 := ga.2.2.2
  have hb2 := gb.2.2.2
  refine wx_aload_n kc72_0 rfl (zrA_k _) ?_
  refine wcA_null kc72_1 (fun z => absurd z (by have := ga.1; omega)) (fun _ => ?_)
  refine wx_aload_n kc72_4 rfl (zrA_k _) ?_
  refine wcA_null kc72_5 (fun z => absurd z (by have := gb.1; omega)) (fun _ => ?_)
  refine wx_iload_n kc72_8 rfl rfl ?_
  refine wn_if_lt kc72_9 (by omega) ?_
  refine wx_iload_n kc72_12 rfl rfl ?_
  refine wx_aload_n kc72_13 rfl (zrA_k _) ?_
  refine wcA_len ga kc72_14 ?_
  refine wn_icmp_gt kc72_15 (by omega) (by omega) (fun hq15 => ?_) (fun hq15 => ?_)
  · skip
    exact absurd hq15 (by omega)
  · skip
    refine wx_iload_n kc72_18 rfl rfl ?_
    refine wn_if_ge kc72_19 (by omega) ?_
    refine wx_iload_n kc72_24 rfl rfl ?_
    refine wx_aload_n kc72_25 rfl (zrA_k _) ?_
    refine wcA_len ga kc72_26 ?_
    refine wx_iload_n kc72_27 rfl rfl ?_
    refine wn_isub (na - k) kc72_28 (by omega) ?_
    refine wx_aload_n kc72_29 rfl (zrA_k _) ?_
    refine wcA_len gb kc72_30 ?_
    refine wn_min kc72_31 rfl (by omega) (by omega) ?_
    refine wn_min kc72_34 rfl (by omega) (by omega) ?_
    rw [show min n (min (na - k) nb) = n by omega]
    show zm_wp _ 72 37 [zrA a, .int (nI k), .int (nI n), zrA b, zm_un] [.int (nI n)] (zch h0 c) _
    refine wx_istore (ls' := [zrA a, .int (nI k), .int (nI n), zrA b, .int (nI n)]) kc72_37 rfl rfl (zrA_c1 _) rfl ?_
    refine wx_aload_n kc72_39 rfl (zrA_k _) ?_
    refine wx_iload_n kc72_40 rfl rfl ?_
    refine wx_aload_n kc72_41 rfl (zrA_k _) ?_
    refine wx_iconst (nI 0) kc72_42 (by decide) ?_
    refine wx_iload kc72_43 rfl rfl ?_
    refine wcA_cp ga gb (fun i => hI 19 i) kc72_45 rfl (by omega) (by omega) ?_
    refine wx_iload kc72_48 rfl rfl ?_
    refine wx_ireturn kc72_50 rfl rfl ?_
    exact hq
theorem lR_is {d : Nat} {h0 : zm_H} {c : Nat → Nat → Nat} {Q : Option Value → zm_H → Prop} {r b nb k nn : Nat} (hS : zCS h0) (hI : zCI c) (h1 : 1 ≤ r) (h2 : r ≤ 60) (hg : zga h0 (c 13 r) 255) (gb : zga h0 b nb) (hf : k + nn ≤ nb) (hn : nn = c 14 r) (hyes : nn = c 14 r → (∀ i, i < nn → c 19 (1200 * c 13 r + i) = c 19 (1200 * b + (k + i))) → Q (some (.int (nI 1))) (zch h0 c)) (hno : ¬ (∀ i, i < nn → c 19 (1200 * c 13 r + i) = c 19 (1200 * b + (k + i))) → Q (some (.int (nI 0))) (zch h0 c)) : ∀ (n i : Nat), i + n = nn → (∀ j, j < i → c 19 (1200 * c 13 r + j) = c 19 (1200 * b + (k + j))) → zm_wp (d + 0) 9 45 [zrR r, zrA b, .int (nI k), .int (nI nn), .int (nI i)] [] (zch h0 c) Q := by
  intro n
  induction n with
  | zero =>
    intro i hi
    intro hp
    have hb1 := gb.2.2.2
    refine wx_iload kc9_45 rfl rfl ?_
    refine wx_iload_n kc9_47 rfl rfl ?_
    refine wn_icmp_ge kc9_48 (by omega) (by omega) (fun hq48 => ?_) (fun hq48 => ?_)
    · skip
      refine wx_iconst (nI 1) kc9_75 (by decide) ?_
      refine wx_ireturn kc9_76 rfl (by decide) ?_
      exact hyes hn (fun j z => hp j (by omega))
    · skip
      exact absurd hq48 (by omega)
  | succ n ih =>
    intro i hi
    intro hp
    have hb1 := gb.2.2.2
    refine wx_iload kc9_45 rfl rfl ?_
    refine wx_iload_n kc9_47 rfl rfl ?_
    refine wn_icmp_ge kc9_48 (by omega) (by omega) (fun hq48 => ?_) (fun hq48 => ?_)
    · skip
      exact absurd hq48 (by omega)
    · skip
      have hl : c 14 r ≤ 255 := hI 14 r
      refine wx_aload_n kc9_51 rfl (zrR_k _) ?_
      refine wcR_get (zrA (c 13 r)) hS kc9_52 (by omega) (by omega) rfl ?_
      have hb55_1 : c 13 r ≤ 2147483647 := hI 13 r
      refine wx_iload kc9_55 rfl rfl ?_
      refine wcA_ld (c 19 (1200 * (c 13 r) + i)) hg kc9_57 (by omega) rfl ?_
      refine wx_aload_n kc9_58 rfl (zrA_k _) ?_
      refine wx_iload_n kc9_59 rfl rfl ?_
      refine wx_iload kc9_60 rfl rfl ?_
      refine wn_iadd (k + i) kc9_62 rfl ?_
      refine wcA_ld (c 19 (1200 * b + (k + i))) gb kc9_63 (by omega) rfl ?_
      refine wg_icmp_eq kc9_64 (Nat.lt_succ_of_le (hI 19 _)) (Nat.lt_succ_of_le (hI 19 _)) (fun hq64 => ?_) (fun hq64 => ?_)
      · skip
        refine wn_iinc (i + 1) (ls' := [zrR r, zrA b, .int (nI k), .int (nI nn), .int (nI (i + 1))]) kc9_69 rfl rfl rfl rfl rfl ?_
        refine wx_goto kc9_72 ?_
        refine ih (i + 1) (by omega) (fun j z => ?_)
        by_cases hj : j = i
        · rw [hj]; exact hq64
        · exact hp j (by omega)
      · skip
        refine wx_iconst (nI 0) kc9_67 (by decide) ?_
        refine wx_ireturn kc9_68 rfl (by decide) ?_
        exact hno (fun y => hq64 (y i (by omega)))
theorem cR_is {d : Nat} {h0 : zm_H} {c : Nat → Nat → Nat} {Q : Option Value → zm_H → Prop} {r b nb k nn : Nat} (hS : zCS h0) (hI : zCI c) (h1 : 1 ≤ r) (h2 : r ≤ 60) (hg : zga h0 (c 13 r) 255) (gb : zga h0 b nb) (hf : k + nn ≤ nb) (hyes : nn = c 14 r → (∀ i, i < nn → c 19 (1200 * c 13 r + i) = c 19 (1200 * b + (k + i))) → Q (some (.int (nI 1))) (zch h0 c)) (hno : ¬ (nn = c 14 r ∧ (∀ i, i < nn → c 19 (1200 * c 13 r + i) = c 19 (1200 * b + (k + i)))) → Q (some (.int (nI 0))) (zch h0 c)) : zm_wc (d + 1) mR_is [zrR r, zrA b, .int (nI k), .int (nI nn)] (zch h0 c) Q := by
  refine zm_enter2 (zfl_cons (zrR_c1 _) (zfl_cons (zrA_c1 _) (zfl_cons rfl (zfl_cons rfl zfl_nil)))) rfl ?_
  show zm_wp _ 9 0 [zrR r, zrA b, .int (nI k), .int (nI nn), zm_un] [] (zch h0 c) Q
  have hb1 := gb.2.2.2
  have hl : c 14 r ≤ 255 := hI 14 r
  refine wx_aload_n kc9_0 rfl (zrR_k _) ?_
  refine wcR_get (zrA (c 13 r)) hS kc9_1 (by omega) (by omega) rfl ?_
  have hb4_1 : c 13 r ≤ 2147483647 := hI 13 r
  refine wcA_null kc9_4 (fun z => absurd z (by have := hg.1; omega)) (fun _ => ?_)
  refine wx_aload_n kc9_7 rfl (zrA_k _) ?_
  refine wcA_null kc9_8 (fun z => absurd z (by have := gb.1; omega)) (fun _ => ?_)
  refine wx_iload_n kc9_11 rfl rfl ?_
  refine wx_aload_n kc9_12 rfl (zrR_k _) ?_
  refine wcR_get (.int (nI (c 14 r))) hS kc9_13 (by omega) (by omega) rfl ?_
  have hb16_2 : c 14 r ≤ 255 := hI 14 r
  refine wn_icmp_ne kc9_16 (by omega) (by omega) (fun hq16 => ?_) (fun hq16 => ?_)
  · skip
    refine wx_iconst (nI 0) kc9_40 (by decide) ?_
    refine wx_ireturn kc9_41 rfl (by decide) ?_
    first | exact hno (fun z => absurd z.1 (by omega)) | exact absurd hq25 (by omega) | exact absurd hq37 (by omega)
  · skip
    refine wx_iload_n kc9_19 rfl rfl ?_
    refine wx_aload_n kc9_20 rfl (zrR_k _) ?_
    refine wcR_get (zrA (c 13 r)) hS kc9_21 (by omega) (by omega) rfl ?_
    have hb24_3 : c 13 r ≤ 2147483647 := hI 13 r
    refine wcA_len hg kc9_24 ?_
    refine wn_icmp_gt kc9_25 (by omega) (by decide) (fun hq25 => ?_) (fun hq25 => ?_)
    · skip
      refine wx_iconst (nI 0) kc9_40 (by decide) ?_
      refine wx_ireturn kc9_41 rfl (by decide) ?_
      first | exact hno (fun z => absurd z.1 (by omega)) | exact absurd hq25 (by omega) | exact absurd hq37 (by omega)
    · skip
      refine wx_iload_n kc9_28 rfl rfl ?_
      refine wn_if_lt kc9_29 (by omega) ?_
      refine wx_iload_n kc9_32 rfl rfl ?_
      refine wx_aload_n kc9_33 rfl (zrA_k _) ?_
      refine wcA_len gb kc9_34 ?_
      refine wx_iload_n kc9_35 rfl rfl ?_
      refine wn_isub (nb - k) kc9_36 (by omega) ?_
      refine wn_icmp_le kc9_37 (by omega) (by omega) (fun hq37 => ?_) (fun hq37 => ?_)
      · skip
        refine wx_iconst (nI 0) kc9_42 (by decide) ?_
        refine wx_istore (ls' := [zrR r, zrA b, .int (nI k), .int (nI nn), .int (nI 0)]) kc9_43 rfl rfl rfl rfl ?_
        have hno2 := hno
        exact lR_is hS hI h1 h2 hg gb hf (by omega) hyes (fun z => hno (fun y => z y.2)) nn 0 (by omega) (fun j z => absurd z (by omega))
      · skip
        refine wx_iconst (nI 0) kc9_40 (by decide) ?_
        refine wx_ireturn kc9_41 rfl (by decide) ?_
        first | exact hno (fun z => absurd z.1 (by omega)) | exact absurd hq25 (by omega) | exact absurd hq37 (by omega)
