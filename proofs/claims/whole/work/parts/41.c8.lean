/-! names come and go, in the class -/
def zfg (c : Nat → Nat → Nat) (r : Nat) : Nat → Nat → Nat := zup (zup (zup (zup c 5 (c 11 r) (c 5 (c 11 r) - 1)) 3 (c 12 r) (c 3 (c 12 r) - 1)) 11 r 0) 12 r 0
def zdp (c : Nat → Nat → Nat) (i r : Nat) : Nat → Nat → Nat := zfg (zup (zup (zup c 10 i (c 10 (c 0 2 - 1))) 10 (c 0 2 - 1) r) 0 2 (c 0 2 - 1)) r
def zgv (c : Nat → Nat → Nat) (r dd g : Nat) : Nat → Nat → Nat := if c 2 g = 2 then zup (zup (zup (zup (zup (zup c 11 r dd) 12 r g) 5 dd (c 5 dd + 1)) 6 dd (max (c 6 dd) (c 5 dd + 1))) 3 g (c 3 g + 1)) 7 g dd else zup (zup (zup (zup (zup c 11 r dd) 12 r g) 5 dd (c 5 dd + 1)) 6 dd (max (c 6 dd) (c 5 dd + 1))) 3 g (c 3 g + 1)
theorem cQ_forget {d : Nat} {h0 : zm_H} {c : Nat → Nat → Nat} {Q : Option Value → zm_H → Prop} {r : Nat} (hS : zCS h0) (hI : zCI c) (h1 : 1 ≤ r) (h2 : r ≤ 60) (hd : 1 ≤ c 11 r) (hg : 1 ≤ c 12 r) (h5 : 1 ≤ c 5 (c 11 r)) (h3 : 1 ≤ c 3 (c 12 r)) (hq : Q none (zch h0 (zfg c r))) : zm_wc (d + 1) mQ_forget [zrR r] (zch h0 c) Q := by
  refine zm_enter2 (zfl_cons (zrR_c1 _) zfl_nil) rfl ?_
  show zm_wp _ 14 0 [zrR r] [] (zch h0 c) Q
  have hb11 : c 11 r ≤ 40 := hI 11 r
  have hb12 : c 12 r ≤ 40 := hI 12 r
  refine wx_aload_n kc14_0 rfl (zrR_k _) ?_
  refine wcR_nnull kc14_1 (fun _ => ?_) (fun z => absurd z (by omega))
  refine wx_aload_n kc14_5 rfl (zrR_k _) ?_
  refine wcR_get (zrF (c 11 r)) hS kc14_6 (by omega) (by omega) rfl ?_
  have hb9_1 : c 11 r ≤ 40 := hI 11 r
  refine wcF_null kc14_9 (fun z => absurd z (by omega)) (fun _ => ?_)
  refine wx_aload_n kc14_12 rfl (zrR_k _) ?_
  refine wcR_get (zrF (c 11 r)) hS kc14_13 (by omega) (by omega) rfl ?_
  refine wx_dup kc14_16 (zrF_c1 _) ?_
  refine wcF_get (.int (nI (c 5 (c 11 r)))) hS kc14_17 (by omega) (by omega) rfl ?_
  have hb20_2 : c 5 (c 11 r) ≤ 60 := hI 5 (c 11 r)
  refine wx_iconst (nI 1) kc14_20 (by decide) ?_
  refine wn_isub ((c 5 (c 11 r)) - 1) kc14_21 (by omega) ?_
  refine wcF_put (v := ((c 5 (c 11 r)) - 1)) 5 hS kc14_22 (by omega) (by omega) rfl rfl rfl ?_
  refine wx_aload_n kc14_25 rfl (zrR_k _) ?_
  refine wcR_get (zrF (c 12 r)) hS kc14_26 (by omega) (by omega) rfl ?_
  have hb29_3 : c 12 r ≤ 40 := hI 12 r
  refine wcF_null kc14_29 (fun z => absurd z (by omega)) (fun _ => ?_)
  refine wx_aload_n kc14_32 rfl (zrR_k _) ?_
  refine wcR_get (zrF (c 12 r)) hS kc14_33 (by omega) (by omega) rfl ?_
  refine wx_dup kc14_36 (zrF_c1 _) ?_
  refine wcF_get (.int (nI (c 3 (c 12 r)))) hS kc14_37 (by omega) (by omega) rfl ?_
  have hb40_4 : c 3 (c 12 r) ≤ 60 := hI 3 (c 12 r)
  refine wx_iconst (nI 1) kc14_40 (by decide) ?_
  refine wn_isub ((c 3 (c 12 r)) - 1) kc14_41 (by omega) ?_
  refine wcF_put (v := ((c 3 (c 12 r)) - 1)) 3 hS kc14_42 (by omega) (by omega) rfl rfl rfl ?_
  refine wx_aload_n kc14_45 rfl (zrR_k _) ?_
  refine wx_aconst_null kc14_46 ?_
  refine wcR_put (v := 0) 11 hS kc14_47 (by omega) (by omega) rfl rfl rfl ?_
  refine wx_aload_n kc14_50 rfl (zrR_k _) ?_
  refine wx_aconst_null kc14_51 ?_
  refine wcR_put (v := 0) 12 hS kc14_52 (by omega) (by omega) rfl rfl rfl ?_
  refine wx_return kc14_55 rfl ?_
  exact hq
theorem lQ_drop {d : Nat} {h0 : zm_H} {c : Nat → Nat → Nat} {Q : Option Value → zm_H → Prop} {r i0 : Nat} (hS : zCS h0) (hI : zCI c) (h1 : 1 ≤ r) (h2 : r ≤ 60) (hd : 1 ≤ c 11 r) (hg : 1 ≤ c 12 r) (h5 : 1 ≤ c 5 (c 11 r)) (h3 : 1 ≤ c 3 (c 12 r)) (hi0 : i0 < c 0 2) (hr : c 10 i0 = r) (hun : ∀ j, j < i0 → c 10 j ≠ r) (hrow : ∀ j, j < 60 → 1 ≤ c 10 j) (hq : Q none (zch h0 (zdp c i0 r))) : ∀ (n i : Nat), i + n = i0 → zm_wp (d + 1) 13 9 [.ref 46, zrR r, .int (nI (c 0 2 - 1)), .int (nI i)] [] (zch h0 c) Q := by
  intro n
  induction n with
  | zero =>
    intro i hi
    have hb2 : c 0 2 ≤ 60 := hI 0 2
    have hbi : c 10 i ≤ 60 := hI 10 i
    have hbl : c 10 (c 0 2 - 1) ≤ 60 := hI 10 _
    have hl1 := hrow (c 0 2 - 1) (by omega)
    have hl2 := hrow i (by omega)
    refine wx_iload_n kc13_9 rfl rfl ?_
    refine wx_iload_n kc13_10 rfl rfl ?_
    refine wn_icmp_gt kc13_11 (by omega) (by omega) (fun hq11 => ?_) (fun hq11 => ?_)
    · skip
      first | exact absurd hq11 (by omega) | exact absurd hq20 (by omega)
    · skip
      refine wx_iload_n kc13_14 rfl rfl ?_
      refine wx_aload_n kc13_15 rfl rfl ?_
      refine wc_get 46 2 (.ref 47) hS kc13_16 rfl rfl rfl rfl ?_
      refine wc_len 47 201 60 hS kc13_19 rfl rfl rfl rfl ?_
      refine wn_icmp_ge kc13_20 (by omega) (by decide) (fun hq20 => ?_) (fun hq20 => ?_)
      · skip
        first | exact absurd hq11 (by omega) | exact absurd hq20 (by omega)
      · skip
        refine wx_aload_n kc13_23 rfl rfl ?_
        refine wc_get 46 2 (.ref 47) hS kc13_24 rfl rfl rfl rfl ?_
        refine wx_iload_n kc13_27 rfl rfl ?_
        refine wc_rows (c 10 i) hS kc13_28 (by omega) rfl ?_
        have hb29_1 : c 10 i ≤ 60 := hI 10 i
        refine wx_aload_n kc13_29 rfl (zrR_k _) ?_
        refine wcR_ne kc13_30 (fun hq30 => ?_) (fun hq30 => ?_)
        · skip
          exact absurd (show c 10 i = r by rw [show i = i0 by omega]; exact hr) hq30
        · skip
          obtain rfl : i = i0 := by omega
          refine wx_aload_n kc13_33 rfl rfl ?_
          refine wc_get 46 2 (.ref 47) hS kc13_34 rfl rfl rfl rfl ?_
          refine wx_iload_n kc13_37 rfl rfl ?_
          refine wx_aload_n kc13_38 rfl rfl ?_
          refine wc_get 46 2 (.ref 47) hS kc13_39 rfl rfl rfl rfl ?_
          refine wx_iload_n kc13_42 rfl rfl ?_
          refine wc_rows (c 10 (c 0 2 - 1)) hS kc13_43 (by omega) rfl ?_
          have hb44_2 : c 10 (c 0 2 - 1) ≤ 60 := hI 10 (c 0 2 - 1)
          refine wc_rowst hS kc13_44 (by omega) (by omega) (by omega) ?_
          refine wx_aload_n kc13_45 rfl rfl ?_
          refine wc_get 46 2 (.ref 47) hS kc13_46 rfl rfl rfl rfl ?_
          refine wx_iload_n kc13_49 rfl rfl ?_
          refine wx_aload_n kc13_50 rfl (zrR_k _) ?_
          refine wc_rowst hS kc13_51 (by omega) (by omega) (by omega) ?_
          refine wx_aload_n kc13_52 rfl rfl ?_
          refine wx_iload_n kc13_53 rfl rfl ?_
          refine wc_put (v := (c 0 2 - 1)) 46 2 2 hS kc13_54 rfl rfl rfl rfl rfl rfl ?_
          refine wx_aload_n kc13_57 rfl (zrR_k _) ?_
          show zm_wp _ 13 58 [.ref 46, zrR r, .int (nI (c 0 2 - 1)), .int (nI i)] [zrR r] (zch h0 (zup (zup (zup c 10 i (c 10 (c 0 2 - 1))) 10 (c 0 2 - 1) r) 0 2 (c 0 2 - 1))) _
          have hI1 : zCI (zup (zup (zup c 10 i (c 10 (c 0 2 - 1))) 10 (c 0 2 - 1) r) 0 2 (c 0 2 - 1)) := zCI_up (zCI_up (zCI_up hI (show c 10 (c 0 2 - 1) ≤ 60 from hbl)) (show r ≤ 60 from h2)) (show c 0 2 - 1 ≤ 60 by omega)
          refine wx_static kc13_58 rfl rfl rfl ?_
          refine cQ_forget hS hI1 h1 h2 hd hg h5 h3 ?_
          show zm_wp _ 13 61 [.ref 46, zrR r, .int (nI (c 0 2 - 1)), .int (nI i)] [] (zch h0 (zdp c i r)) _
          refine wx_return kc13_61 rfl ?_
          exact hq
  | succ n ih =>
    intro i hi
    have hb2 : c 0 2 ≤ 60 := hI 0 2
    have hbi : c 10 i ≤ 60 := hI 10 i
    have hbl : c 10 (c 0 2 - 1) ≤ 60 := hI 10 _
    have hl1 := hrow (c 0 2 - 1) (by omega)
    have hl2 := hrow i (by omega)
    refine wx_iload_n kc13_9 rfl rfl ?_
    refine wx_iload_n kc13_10 rfl rfl ?_
    refine wn_icmp_gt kc13_11 (by omega) (by omega) (fun hq11 => ?_) (fun hq11 => ?_)
    · skip
      first | exact absurd hq11 (by omega) | exact absurd hq20 (by omega)
    · skip
      refine wx_iload_n kc13_14 rfl rfl ?_
      refine wx_aload_n kc13_15 rfl rfl ?_
      refine wc_get 46 2 (.ref 47) hS kc13_16 rfl rfl rfl rfl ?_
      refine wc_len 47 201 60 hS kc13_19 rfl rfl rfl rfl ?_
      refine wn_icmp_ge kc13_20 (by omega) (by decide) (fun hq20 => ?_) (fun hq20 => ?_)
      · skip
        first | exact absurd hq11 (by omega) | exact absurd hq20 (by omega)
      · skip
        refine wx_aload_n kc13_23 rfl rfl ?_
        refine wc_get 46 2 (.ref 47) hS kc13_24 rfl rfl rfl rfl ?_
        refine wx_iload_n kc13_27 rfl rfl ?_
        refine wc_rows (c 10 i) hS kc13_28 (by omega) rfl ?_
        have hb29_1 : c 10 i ≤ 60 := hI 10 i
        refine wx_aload_n kc13_29 rfl (zrR_k _) ?_
        refine wcR_ne kc13_30 (fun hq30 => ?_) (fun hq30 => ?_)
        · skip
          refine wn_iinc (i + 1) (ls' := [.ref 46, zrR r, .int (nI (c 0 2 - 1)), .int (nI (i + 1))]) kc13_62 rfl rfl rfl rfl rfl ?_
          refine wx_goto kc13_65 ?_
          exact ih (i + 1) (by omega)
        · skip
          exact absurd hq30 (hun i (by omega))
theorem cQ_drop {d : Nat} {h0 : zm_H} {c : Nat → Nat → Nat} {Q : Option Value → zm_H → Prop} {r i0 : Nat} (hS : zCS h0) (hI : zCI c) (h1 : 1 ≤ r) (h2 : r ≤ 60) (hd : 1 ≤ c 11 r) (hg : 1 ≤ c 12 r) (h5 : 1 ≤ c 5 (c 11 r)) (h3 : 1 ≤ c 3 (c 12 r)) (hi0 : i0 < c 0 2) (hr : c 10 i0 = r) (hun : ∀ j, j < i0 → c 10 j ≠ r) (hrow : ∀ j, j < 60 → 1 ≤ c 10 j) (hq : Q none (zch h0 (zdp c i0 r))) : zm_wc (d + 2) mQ_drop [.ref 46, zrR r] (zch h0 c) Q := by
  refine zm_enter2 (zfl_cons rfl (zfl_cons (zrR_c1 _) zfl_nil)) rfl ?_
  show zm_wp _ 13 0 [.ref 46, zrR r, zm_un, zm_un] [] (zch h0 c) Q
  have hb2 : c 0 2 ≤ 60 := hI 0 2
  refine wx_aload_n kc13_0 rfl rfl ?_
  refine wc_get 46 2 (.int (nI (c 0 2))) hS kc13_1 rfl rfl rfl rfl ?_
  have hb4_1 : c 0 2 ≤ 60 := hI 0 2
  refine wx_iconst (nI 1) kc13_4 (by decide) ?_
  refine wn_isub ((c 0 2) - 1) kc13_5 (by omega) ?_
  refine wx_istore_n (ls' := [.ref 46, zrR r, .int (nI ((c 0 2) - 1)), zm_un]) kc13_6 rfl rfl (zrR_c1 _) rfl ?_
  refine wx_iconst (nI 0) kc13_7 (by decide) ?_
  refine wx_istore_n (ls' := [.ref 46, zrR r, .int (nI ((c 0 2) - 1)), .int (nI 0)]) kc13_8 rfl rfl rfl rfl ?_
  exact lQ_drop hS hI h1 h2 hd hg h5 h3 hi0 hr hun hrow hq i0 0 (by omega)
theorem zCI_dp {c : Nat → Nat → Nat} (hI : zCI c) {i r : Nat} (h2 : r ≤ 60) : zCI (zdp c i r) := by
  have hb2 : c 0 2 ≤ 60 := hI 0 2
  have hI1 : zCI (zup (zup (zup c 10 i (c 10 (c 0 2 - 1))) 10 (c 0 2 - 1) r) 0 2 (c 0 2 - 1)) := zCI_up (zCI_up (zCI_up hI (show c 10 (c 0 2 - 1) ≤ 60 from hI 10 _)) (show r ≤ 60 from h2)) (show c 0 2 - 1 ≤ 60 by omega)
  refine zCI_up (zCI_up (zCI_up (zCI_up hI1 ?_) ?_) (Nat.zero_le _)) (Nat.zero_le _)
  · exact Nat.le_trans (Nat.sub_le _ _) (hI1 5 _)
  · exact Nat.le_trans (Nat.sub_le _ _) (hI1 3 _)
theorem zCI_bg {c : Nat → Nat → Nat} (hI : zCI c) {f k : Nat} (hk : k ≤ 3) : zCI (zbg c f k) := zCI_up (zCI_up (zCI_up (zCI_up (zCI_up (zCI_up (zCI_up hI (show k ≤ 3 from hk)) (Nat.zero_le _)) (Nat.zero_le _)) (Nat.zero_le _)) (Nat.zero_le _)) (Nat.zero_le _)) (Nat.zero_le _)
theorem zCI_gu {c : Nat → Nat → Nat} (hI : zCI c) (f : Nat) : zCI (zgu c f) := by
  unfold zgu
  split
  · exact zCI_bg hI (by decide)
  · exact hI
theorem cN_takeAway {d : Nat} {h0 : zm_H} {c : Nat → Nat → Nat} {Q : Option Value → zm_H → Prop} {r i0 : Nat} (hS : zCS h0) (hI : zCI c) (h1 : 1 ≤ r) (h2 : r ≤ 60) (hd : 1 ≤ c 11 r) (hg : 1 ≤ c 12 r) (h5 : 1 ≤ c 5 (c 11 r)) (h3 : 1 ≤ c 3 (c 12 r)) (hi0 : i0 < c 0 2) (hr : c 10 i0 = r) (hun : ∀ j, j < i0 → c 10 j ≠ r) (hrow : ∀ j, j < 60 → 1 ≤ c 10 j) (hq : Q none (zch h0 (zgu (zdp c i0 r) (c 12 r)))) : zm_wc (d + 3) mN_takeAway [.ref 1, zrR r] (zch h0 c) Q := by
  refine zm_enter2 (zfl_cons rfl (zfl_cons (zrR_c1 _) zfl_nil)) rfl ?_
  show zm_wp _ 69 0 [.ref 1, zrR r, zm_un] [] (zch h0 c) Q
  have hb12 : c 12 r ≤ 40 := hI 12 r
  refine wx_aload_n kc69_0 rfl (zrR_k _) ?_
  refine wcR_nnull kc69_1 (fun _ => ?_) (fun z => absurd z (by omega))
  refine wx_aload_n kc69_5 rfl (zrR_k _) ?_
  refine wcR_get (zrF (c 12 r)) hS kc69_6 (by omega) (by omega) rfl ?_
  have hb9_1 : c 12 r ≤ 40 := hI 12 r
  refine wx_astore_n (ls' := [.ref 1, zrR r, zrF (c 12 r)]) kc69_9 (zrF_k _) rfl (zrR_c1 _) rfl ?_
  refine wx_aload_n kc69_10 rfl rfl ?_
  refine wc_get 1 6 (.ref 46) hS kc69_11 rfl rfl rfl rfl ?_
  refine wx_aload_n kc69_14 rfl (zrR_k _) ?_
  refine wc_call hS kc69_15 rfl rfl rfl rfl rfl ?_
  refine cQ_drop hS hI h1 h2 hd hg h5 h3 hi0 hr hun hrow ?_
  show zm_wp _ 69 18 [.ref 1, zrR r, zrF (c 12 r)] [] (zch h0 (zdp c i0 r)) _
  refine wx_aload_n kc69_18 rfl (zrF_k _) ?_
  refine wcF_null kc69_19 (fun z => absurd z (by omega)) (fun _ => ?_)
  refine wx_aload_n kc69_22 rfl (zrF_k _) ?_
  refine wcF_call hS kc69_23 rfl rfl (by omega) (by omega) rfl ?_
  refine cF_goIfUnused hS (zCI_dp hI h2) hg hb12 ?_
  show zm_wp _ 69 26 [.ref 1, zrR r, zrF (c 12 r)] [] (zch h0 (zgu (zdp c i0 r) (c 12 r))) _
  refine wx_return kc69_26 rfl ?_
  exact hq
theorem cN_takeAway0 {d : Nat} {h0 : zm_H} {c : Nat → Nat → Nat} {Q : Option Value → zm_H → Prop} (hq : Q none (zch h0 c)) : zm_wc (d + 3) mN_takeAway [.ref 1, zrR 0] (zch h0 c) Q := by
  refine zm_enter2 (zfl_cons rfl (zfl_cons rfl zfl_nil)) rfl ?_
  refine wx_aload_n kc69_0 rfl rfl ?_
  refine wx_ifnonnullN kc69_1 ?_
  exact wx_return kc69_4 rfl hq
theorem cQ_give {d : Nat} {h0 : zm_H} {c : Nat → Nat → Nat} {Q : Option Value → zm_H → Prop} {w g r dd nb : Nat} (hS : zCS h0) (hI : zCI c) (hw : w ≤ 1) (hu : c 0 2 < 60) (hr : c 10 (c 0 2) = r) (hr1 : 1 ≤ r) (hr2 : r ≤ 60) (hdd : c 21 w = dd) (hd1 : 1 ≤ dd) (hd2 : dd ≤ 40) (hg1 : 1 ≤ g) (hg2 : g ≤ 40) (hga : c 13 r ≠ 0 → zga h0 (c 13 r) 255) (gb : zga h0 (c 17 w) nb) (gl : c 18 w + c 20 w ≤ nb) (hlen : c 20 w ≤ 255) (hx : h0.1 ≤ 2147483647) (hq : ∀ h1 c2 a, zNB 13 14 255 h0 h1 (zup c 0 2 (c 0 2 + 1)) c2 r a (c 20 w) (fun i => c 19 (1200 * c 17 w + (c 18 w + i))) → Q none (zch h1 (zgv c2 r dd g))) : zm_wc (d + 3) mQ_give [.ref 46, zrF g, .ref (108 + 43 * w)] (zch h0 c) Q := by
  refine zm_enter2 (zfl_cons rfl (zfl_cons (zrF_c1 _) (zfl_cons rfl zfl_nil))) rfl ?_
  show zm_wp _ 12 0 [.ref 46, zrF g, .ref (108 + 43 * w), zm_un, zm_un] [] (zch h0 c) Q
  refine wx_aload_n kc12_0 rfl rfl ?_
  refine wc_get 46 2 (.int (nI (c 0 2))) hS kc12_1 rfl rfl rfl rfl ?_
  have hb4_1 : c 0 2 ≤ 60 := hI 0 2
  refine wn_if_lt kc12_4 (by omega) ?_
  refine wx_aload_n kc12_7 rfl rfl ?_
  refine wc_get 46 2 (.int (nI (c 0 2))) hS kc12_8 rfl rfl rfl rfl ?_
  refine wx_aload_n kc12_11 rfl rfl ?_
  refine wc_get 46 2 (.ref 47) hS kc12_12 rfl rfl rfl rfl ?_
  refine wc_len 47 201 60 hS kc12_15 rfl rfl rfl rfl ?_
  refine wn_icmp_lt kc12_16 (by omega) (by decide) (fun hq16 => ?_) (fun hq16 => ?_)
  · skip
    refine wx_aload_n kc12_20 rfl rfl ?_
    refine wc_get 46 2 (.ref 47) hS kc12_21 rfl rfl rfl rfl ?_
    refine wx_aload_n kc12_24 rfl rfl ?_
    refine wc_get 46 2 (.int (nI (c 0 2))) hS kc12_25 rfl rfl rfl rfl ?_
    have hb28_2 : c 0 2 ≤ 60 := hI 0 2
    refine wc_rows r hS kc12_28 (by omega) hr ?_
    refine wx_astore_n (ls' := [.ref 46, zrF g, .ref (108 + 43 * w), zrR r, zm_un]) kc12_29 (zrR_k _) rfl rfl rfl ?_
    refine wx_aload_n kc12_30 rfl rfl ?_
    refine wcW_get (zrF dd) hS kc12_31 hw (congrArg zrF hdd) ?_
    refine wx_astore (ls' := [.ref 46, zrF g, .ref (108 + 43 * w), zrR r, zrF dd]) kc12_34 (zrF_k _) rfl (zrR_c1 _) rfl ?_
    refine wx_aload_n kc12_36 rfl (zrR_k _) ?_
    refine wcR_null kc12_37 (fun z => absurd z (by omega)) (fun _ => ?_)
    refine wx_aload kc12_40 rfl (zrF_k _) ?_
    refine wcF_nnull kc12_42 (fun _ => ?_) (fun z => absurd z (by omega))
    refine wx_aload_n kc12_46 rfl rfl ?_
    refine wx_dup kc12_47 rfl ?_
    refine wc_get 46 2 (.int (nI (c 0 2))) hS kc12_48 rfl rfl rfl rfl ?_
    refine wx_iconst (nI 1) kc12_51 (by decide) ?_
    refine wn_iadd ((c 0 2) + 1) kc12_52 rfl ?_
    refine wc_put (v := ((c 0 2) + 1)) 46 2 2 hS kc12_53 rfl rfl rfl rfl rfl rfl ?_
    refine wx_aload_n kc12_56 rfl (zrR_k _) ?_
    refine wx_aload_n kc12_57 rfl rfl ?_
    refine wcW_get (zrA (c 17 w)) hS kc12_58 hw rfl ?_
    have hb61_3 : c 17 w ≤ 2147483647 := hI 17 w
    refine wx_aload_n kc12_61 rfl rfl ?_
    refine wcW_get (.int (nI (c 18 w))) hS kc12_62 hw rfl ?_
    have hb65_4 : c 18 w ≤ 1200 := hI 18 w
    refine wx_aload_n kc12_65 rfl rfl ?_
    refine wcW_get (.int (nI (c 20 w))) hS kc12_66 hw rfl ?_
    have hb69_5 : c 20 w ≤ 1200 := hI 20 w
    show zm_wp _ 12 69 [.ref 46, zrF g, .ref (108 + 43 * w), zrR r, zrF dd] [.int (nI (c 20 w)), .int (nI (c 18 w)), zrA (c 17 w), zrR r] (zch h0 (zup c 0 2 ((c 0 2) + 1))) _
    have hI1 : zCI (zup c 0 2 (c 0 2 + 1)) := zCI_up hI (show c 0 2 + 1 ≤ 60 by omega)
    refine wcR_call hS kc12_69 rfl rfl (by omega) (by omega) rfl ?_
    refine cR_setBytes (r := r) (b := c 17 w) (nb := nb) (k := c 18 w) (n := c 20 w) hS hI1 hr1 hr2 hga gb gl hlen hx (fun h1 c2 a hN => ?_)
    obtain ⟨n1, n2, n3, n4, n5, n6, n7, n8, hI2⟩ := hN
    have hS1 := zEX_CS n1 hS
    have hN : zNB 13 14 255 h0 h1 (zup c 0 2 (c 0 2 + 1)) c2 r a (c 20 w) (fun i => c 19 (1200 * c 17 w + (c 18 w + i))) := ⟨n1, n2, n3, n4, n5, n6, n7, n8, hI2⟩
    have q5 : c2 5 dd ≤ 60 := hI2 5 dd
    have q6 : c2 6 dd ≤ 60 := hI2 6 dd
    show zm_wp _ 12 72 [.ref 46, zrF g, .ref (108 + 43 * w), zrR r, zrF dd] [] (zch h1 c2) _
    refine wx_aload_n kc12_72 rfl (zrR_k _) ?_
    refine wx_aload kc12_73 rfl (zrF_k _) ?_
    refine wcR_put (v := dd) 11 hS1 kc12_75 (by omega) (by omega) rfl rfl (zrF_fo _ _) ?_
    refine wx_aload_n kc12_78 rfl (zrR_k _) ?_
    refine wx_aload_n kc12_79 rfl (zrF_k _) ?_
    refine wcR_put (v := g) 12 hS1 kc12_80 (by omega) (by omega) rfl rfl (zrF_fo _ _) ?_
    refine wx_aload kc12_83 rfl (zrF_k _) ?_
    refine wx_dup kc12_85 (zrF_c1 _) ?_
    refine wcF_get (.int (nI (c2 5 dd))) hS1 kc12_86 (by omega) (by omega) rfl ?_
    have hb89_6 : c2 5 dd ≤ 60 := hI2 5 dd
    refine wx_iconst (nI 1) kc12_89 (by decide) ?_
    refine wn_iadd ((c2 5 dd) + 1) kc12_90 rfl ?_
    refine wcF_put (v := ((c2 5 dd) + 1)) 5 hS1 kc12_91 (by omega) (by omega) rfl rfl rfl ?_
    refine wx_aload kc12_94 rfl (zrF_k _) ?_
    refine wx_aload kc12_96 rfl (zrF_k _) ?_
    refine wcF_get (.int (nI (c2 6 dd))) hS1 kc12_98 (by omega) (by omega) rfl ?_
    have hb101_7 : c2 6 dd ≤ 60 := hI2 6 dd
    refine wx_aload kc12_101 rfl (zrF_k _) ?_
    refine wcF_get (.int (nI ((c2 5 dd) + 1))) hS1 kc12_103 (by omega) (by omega) (congrArg (fun z => Value.int (nI z)) (show (zup (zup (zup c2 11 r dd) 12 r g) 5 dd ((c2 5 dd) + 1)) 5 dd = ((c2 5 dd) + 1) from zup_same _ _ _ _)) ?_
    refine wn_max kc12_106 rfl (by omega) (by omega) ?_
    refine wcF_put (v := (max (c2 6 dd) ((c2 5 dd) + 1))) 6 hS1 kc12_109 (by omega) (by omega) rfl rfl rfl ?_
    refine wx_aload_n kc12_112 rfl (zrF_k _) ?_
    refine wx_dup kc12_113 (zrF_c1 _) ?_
    refine wcF_get (.int (nI (c2 3 g))) hS1 kc12_114 (by omega) (by omega) rfl ?_
    have hb117_8 : c2 3 g ≤ 60 := hI2 3 g
    refine wx_iconst (nI 1) kc12_117 (by decide) ?_
    refine wn_iadd ((c2 3 g) + 1) kc12_118 rfl ?_
    refine wcF_put (v := ((c2 3 g) + 1)) 3 hS1 kc12_119 (by omega) (by omega) rfl rfl rfl ?_
    refine wx_aload_n kc12_122 rfl (zrF_k _) ?_
    refine wcF_get (.int (nI (c2 2 g))) hS1 kc12_123 (by omega) (by omega) rfl ?_
    have hb126_9 : c2 2 g ≤ 3 := hI2 2 g
    refine wx_iconst (nI 2) kc12_126 (by decide) ?_
    refine wn_icmp_ne kc12_127 (by omega) (by decide) (fun hq127 => ?_) (fun hq127 => ?_)
    · skip
      refine wx_return kc12_136 rfl ?_
      have k := hq h1 c2 a hN
      unfold zgv at k
      first | (rw [if_pos (by omega)] at k; exact k) | (rw [if_neg (by omega)] at k; exact k)
    · skip
      refine wx_aload_n kc12_130 rfl (zrF_k _) ?_
      refine wx_aload kc12_131 rfl (zrF_k _) ?_
      refine wcF_put (v := dd) 7 hS1 kc12_133 (by omega) (by omega) rfl rfl (zrF_fo _ _) ?_
      refine wx_return kc12_136 rfl ?_
      have k := hq h1 c2 a hN
      unfold zgv at k
      first | (rw [if_pos (by omega)] at k; exact k) | (rw [if_neg (by omega)] at k; exact k)
  · skip
    exact absurd hq16 (by omega)
def zcwi (c : Nat → Nat → Nat) (o : Nat) : Nat → Nat → Nat
  | 0, _ => 0
  | n + 1, a => if a = 0 then 0 else if a = o then 1 else zcwi c o n (c 7 a)
theorem lN_isWithin {d : Nat} {h0 : zm_H} {c : Nat → Nat → Nat} {Q : Option Value → zm_H → Prop} {o : Nat} {v0 : Value} (hS : zCS h0) (hI : zCI c) : ∀ (n i a : Nat), i + n = 40 → a ≤ 40 → Q (some (.int (nI (zcwi c o n a)))) (zch h0 c) → zm_wp (d + 0) 68 4 [v0, zrF o, zrF a, .int (nI i)] [] (zch h0 c) Q := by
  intro n
  induction n with
  | zero =>
    intro i a hi ha hq
    refine wx_iload_n kc68_4 rfl rfl ?_
    refine wx_bipush (nI 40) kc68_5 (by decide) ?_
    refine wn_icmp_ge kc68_7 (by omega) (by decide) (fun hq7 => ?_) (fun hq7 => ?_)
    · skip
      refine wx_iconst (nI 0) kc68_32 (by decide) ?_
      refine wx_ireturn kc68_33 rfl (by decide) ?_
      exact hq
    · skip
      exact absurd hq7 (by omega)
  | succ n ih =>
    intro i a hi ha hq
    refine wx_iload_n kc68_4 rfl rfl ?_
    refine wx_bipush (nI 40) kc68_5 (by decide) ?_
    refine wn_icmp_ge kc68_7 (by omega) (by decide) (fun hq7 => ?_) (fun hq7 => ?_)
    · skip
      exact absurd hq7 (by omega)
    · skip
      refine wx_aload_n kc68_10 rfl (zrF_k _) ?_
      refine wcF_null kc68_11 (fun hq11 => ?_) (fun hq11 => ?_)
      · skip
        refine wx_iconst (nI 0) kc68_32 (by decide) ?_
        refine wx_ireturn kc68_33 rfl (by decide) ?_
        have e : zcwi c o (n + 1) a = 0 := by
          show (if a = 0 then 0 else if a = o then 1 else zcwi c o n (c 7 a)) = _
          first | omega | (rw [if_pos (by omega)]; done) | (rw [if_neg (by omega), if_pos (by omega)]; done)
        rw [e] at hq
        exact hq
      · skip
        refine wx_aload_n kc68_14 rfl (zrF_k _) ?_
        refine wx_aload_n kc68_15 rfl (zrF_k _) ?_
        refine wcF_ne kc68_16 (fun hq16 => ?_) (fun hq16 => ?_)
        · skip
          refine wx_aload_n kc68_21 rfl (zrF_k _) ?_
          refine wcF_get (zrF (c 7 a)) hS kc68_22 (by omega) (by omega) rfl ?_
          have hb25_1 : c 7 a ≤ 40 := hI 7 a
          refine wx_astore_n (ls' := [v0, zrF o, zrF (c 7 a), .int (nI i)]) kc68_25 (zrF_k _) rfl (zrF_c1 _) rfl ?_
          refine wn_iinc (i + 1) (ls' := [v0, zrF o, zrF (c 7 a), .int (nI (i + 1))]) kc68_26 rfl rfl (zrF_c1 _) rfl rfl ?_
          refine wx_goto kc68_29 ?_
          refine ih (i + 1) (c 7 a) (by omega) (hI 7 a) ?_
          have e : zcwi c o (n + 1) a = zcwi c o n (c 7 a) := by
            show (if a = 0 then 0 else if a = o then 1 else zcwi c o n (c 7 a)) = _
            rw [if_neg (by omega), if_neg (by omega)]
          rw [e] at hq
          exact hq
        · skip
          refine wx_iconst (nI 1) kc68_19 (by decide) ?_
          refine wx_ireturn kc68_20 rfl (by decide) ?_
          have e : zcwi c o (n + 1) a = 1 := by
            show (if a = 0 then 0 else if a = o then 1 else zcwi c o n (c 7 a)) = _
            first | omega | (rw [if_pos (by omega)]; done) | (rw [if_neg (by omega), if_pos (by omega)]; done)
          rw [e] at hq
          exact hq
theorem cN_isWithin {d : Nat} {h0 : zm_H} {c : Nat → Nat → Nat} {Q : Option Value → zm_H → Prop} {a o : Nat} (hS : zCS h0) (hI : zCI c) (ha : a ≤ 40) (hq : Q (some (.int (nI (zcwi c o 40 a)))) (zch h0 c)) : zm_wc (d + 1) mN_isWithin [zrF a, zrF o] (zch h0 c) Q := by
  refine zm_enter2 (zfl_cons (zrF_c1 _) (zfl_cons (zrF_c1 _) zfl_nil)) rfl ?_
  show zm_wp _ 68 0 [zrF a, zrF o, zm_un, zm_un] [] (zch h0 c) Q
  refine wx_aload_n kc68_0 rfl (zrF_k _) ?_
  refine wx_astore_n (ls' := [zrF a, zrF o, zrF a, zm_un]) kc68_1 (zrF_k _) rfl (zrF_c1 _) rfl ?_
  refine wx_iconst (nI 0) kc68_2 (by decide) ?_
  refine wx_istore_n (ls' := [zrF a, zrF o, zrF a, .int (nI 0)]) kc68_3 rfl rfl (zrF_c1 _) rfl ?_
  exact lN_isWithin hS hI 40 0 a (by omega) ha hq
def zctk (c : Nat → Nat → Nat) : Nat := zsum (fun k => zct c (k + 1)) 40
theorem zctk_le {c : Nat → Nat → Nat} (hI : zCI c) : zctk c ≤ 2400 := zsum_le (g := fun k => zct c (k + 1)) (b := 60) 40 (fun k _ => zct_le hI (k + 1))
def zcgr (c : Nat → Nat → Nat) (f : Nat) : Nat := zft (max (c 6 f) (c 5 f + 1)) - zft (c 6 f)
theorem zcgr_le {c : Nat → Nat → Nat} (hI : zCI c) (f : Nat) : zcgr c f ≤ 61 := by
  unfold zcgr
  have h5 : c 5 f ≤ 60 := hI 5 f
  have h6 : c 6 f ≤ 60 := hI 6 f
  have : zft (max (c 6 f) (c 5 f + 1)) ≤ 61 := by unfold zft; split <;> omega
  omega
theorem cN_isTooMuch {d : Nat} {h0 : zm_H} {c : Nat → Nat → Nat} {Q : Option Value → zm_H → Prop} {dd nf : Nat} (hS : zCS h0) (hI : zCI c) (hd1 : 1 ≤ dd) (hd2 : dd ≤ 40) (hnf : nf ≤ 1) (hq : Q (some (.int (nI (if c 0 0 < zctk c + nf + zcgr c dd then 1 else 0)))) (zch h0 c)) : zm_wc (d + 4) mN_isTooMuch [.ref 1, zrF dd, .int (nI nf)] (zch h0 c) Q := by
  refine zm_enter2 (zfl_cons rfl (zfl_cons (zrF_c1 _) (zfl_cons rfl zfl_nil))) rfl ?_
  show zm_wp _ 65 0 [.ref 1, zrF dd, .int (nI nf), zm_un] [] (zch h0 c) Q
  refine wx_aload_n kc65_0 rfl (zrF_k _) ?_
  refine wcF_nnull kc65_1 (fun _ => ?_) (fun z => absurd z (by omega))
  refine wx_aload_n kc65_8 rfl (zrF_k _) ?_
  have hgr := zcgr_le hI dd
  refine wcF_call hS kc65_9 rfl rfl (by omega) (by omega) rfl ?_
  refine cF_growth hS hI hd1 hd2 ?_
  show zm_wp _ 65 12 [.ref 1, zrF dd, .int (nI nf), zm_un] [.int (nI (zcgr c dd))] (zch h0 c) _
  refine wx_istore_n (ls' := [.ref 1, zrF dd, .int (nI nf), .int (nI (zcgr c dd))]) kc65_12 rfl rfl rfl rfl ?_
  refine wx_aload_n kc65_13 rfl rfl ?_
  refine wc_get 1 6 (.ref 4) hS kc65_14 rfl rfl rfl rfl ?_
  have htk := zctk_le hI
  refine wc_call hS kc65_17 rfl rfl rfl rfl rfl ?_
  refine cL_taken hS hI ?_
  show zm_wp _ 65 20 [.ref 1, zrF dd, .int (nI nf), .int (nI (zcgr c dd))] [.int (nI (zctk c))] (zch h0 c) _
  refine wx_iload_n kc65_20 rfl rfl ?_
  refine wn_iadd ((zctk c) + nf) kc65_21 rfl ?_
  refine wx_iload_n kc65_22 rfl rfl ?_
  refine wn_iadd (((zctk c) + nf) + (zcgr c dd)) kc65_23 rfl ?_
  refine wx_aload_n kc65_24 rfl rfl ?_
  refine wc_get 1 6 (.int (nI (c 0 0))) hS kc65_25 rfl rfl rfl rfl ?_
  have hb28_1 : c 0 0 ≤ 200 := hI 0 0
  refine wn_icmp_le kc65_28 (by omega) (by omega) (fun hq28 => ?_) (fun hq28 => ?_)
  · skip
    refine wx_iconst (nI 0) kc65_35 (by decide) ?_
    refine wx_ireturn kc65_36 rfl (by decide) ?_
    have e : (if c 0 0 < zctk c + nf + zcgr c dd then 1 else 0) = 0 := by first | exact if_pos (by omega) | exact if_neg (by omega)
    rw [e] at hq
    exact hq
  · skip
    refine wx_iconst (nI 1) kc65_31 (by decide) ?_
    refine wx_goto kc65_32 ?_
    refine wx_ireturn kc65_36 rfl (by decide) ?_
    have e : (if c 0 0 < zctk c + nf + zcgr c dd then 1 else 0) = 1 := by first | exact if_pos (by omega) | exact if_neg (by omega)
    rw [e] at hq
    exact hq
theorem cN_isFullFor {d : Nat} {h0 : zm_H} {c : Nat → Nat → Nat} {Q : Option Value → zm_H → Prop} {dd nf : Nat} (hS : zCS h0) (hI : zCI c) (hd1 : 1 ≤ dd) (hd2 : dd ≤ 40) (hnf : nf ≤ 1) (hq : Q (some (.int (nI (if 60 ≤ c 0 2 ∨ c 0 0 < zctk c + nf + zcgr c dd then 1 else 0)))) (zch h0 c)) : zm_wc (d + 5) mN_isFullFor [.ref 1, zrF dd, .int (nI nf)] (zch h0 c) Q := by
  refine zm_enter2 (zfl_cons rfl (zfl_cons (zrF_c1 _) (zfl_cons rfl zfl_nil))) rfl ?_
  show zm_wp _ 64 0 [.ref 1, zrF dd, .int (nI nf)] [] (zch h0 c) Q
  refine wx_aload_n kc64_0 rfl rfl ?_
  refine wc_get 1 6 (.ref 46) hS kc64_1 rfl rfl rfl rfl ?_
  refine wc_get 46 2 (.int (nI (c 0 2))) hS kc64_4 rfl rfl rfl rfl ?_
  have hb7_1 : c 0 2 ≤ 60 := hI 0 2
  refine wx_bipush (nI 60) kc64_7 (by decide) ?_
  refine wn_icmp_ge kc64_9 (by omega) (by decide) (fun hq9 => ?_) (fun hq9 => ?_)
  · skip
    refine wx_iconst (nI 1) kc64_21 (by decide) ?_
    refine wx_goto kc64_22 ?_
    refine wx_ireturn kc64_26 rfl (by decide) ?_
    have e : (if 60 ≤ c 0 2 ∨ c 0 0 < zctk c + nf + zcgr c dd then 1 else 0) = 1 := by
      by_cases hz : c 0 0 < zctk c + nf + zcgr c dd
      · first | exact if_pos (Or.inr hz) | (rw [if_pos hz] at hq18; exact absurd hq18 (by decide))
      · first | exact if_pos (by omega) | exact if_neg (by omega) | (rw [if_neg hz] at hq18; exact absurd rfl hq18)
    rw [e] at hq
    exact hq
  · skip
    refine wx_aload_n kc64_12 rfl rfl ?_
    refine wx_aload_n kc64_13 rfl (zrF_k _) ?_
    refine wx_iload_n kc64_14 rfl rfl ?_
    refine wc_call hS kc64_15 rfl rfl rfl rfl rfl ?_
    refine cN_isTooMuch hS hI hd1 hd2 hnf ?_
    show zm_wp _ 64 18 [.ref 1, zrF dd, .int (nI nf)] [.int (nI (if c 0 0 < zctk c + nf + zcgr c dd then 1 else 0))] (zch h0 c) _
    refine wn_if_eq kc64_18 (by split <;> decide) (fun hq18 => ?_) (fun hq18 => ?_)
    · skip
      refine wx_iconst (nI 0) kc64_25 (by decide) ?_
      refine wx_ireturn kc64_26 rfl (by decide) ?_
      have e : (if 60 ≤ c 0 2 ∨ c 0 0 < zctk c + nf + zcgr c dd then 1 else 0) = 0 := by
        by_cases hz : c 0 0 < zctk c + nf + zcgr c dd
        · first | exact if_pos (Or.inr hz) | (rw [if_pos hz] at hq18; exact absurd hq18 (by decide))
        · first | exact if_pos (by omega) | exact if_neg (by omega) | (rw [if_neg hz] at hq18; exact absurd rfl hq18)
      rw [e] at hq
      exact hq
    · skip
      refine wx_iconst (nI 1) kc64_21 (by decide) ?_
      refine wx_goto kc64_22 ?_
      refine wx_ireturn kc64_26 rfl (by decide) ?_
      have e : (if 60 ≤ c 0 2 ∨ c 0 0 < zctk c + nf + zcgr c dd then 1 else 0) = 1 := by
        by_cases hz : c 0 0 < zctk c + nf + zcgr c dd
        · first | exact if_pos (Or.inr hz) | (rw [if_pos hz] at hq18; exact absurd hq18 (by decide))
        · first | exact if_pos (by omega) | exact if_neg (by omega) | (rw [if_neg hz] at hq18; exact absurd rfl hq18)
      rw [e] at hq
      exact hq
theorem cN_refusalOfMove {d : Nat} {h0 : zm_H} {c : Nat → Nat → Nat} {Q : Option Value → zm_H → Prop}  (hS : zCS h0) (hI : zCI c) (hd : 1 ≤ c 21 1) (hq : Q (some (.int (if c 21 0 ≠ c 21 1 ∧ c 0 0 < zctk c + 0 + zcgr c (c 21 1) then (-7 : Int32) else nI 0))) (zch h0 c)) : zm_wc (d + 5) mN_refusalOfMove [.ref 1] (zch h0 c) Q := by
  refine zm_enter2 (zfl_cons rfl zfl_nil) rfl ?_
  show zm_wp _ 66 0 [.ref 1, zm_un] [] (zch h0 c) Q
  have hb1 : c 21 1 ≤ 40 := hI 21 1
  refine wx_aload_n kc66_0 rfl rfl ?_
  refine wc_get 1 6 (.ref (108 + 43 * 0)) hS kc66_1 rfl rfl rfl rfl ?_
  refine wcW_get (zrF (c 21 0)) hS kc66_4 (by decide) rfl ?_
  have hb7_1 : c 21 0 ≤ 40 := hI 21 0
  refine wx_aload_n kc66_7 rfl rfl ?_
  refine wc_get 1 6 (.ref (108 + 43 * 1)) hS kc66_8 rfl rfl rfl rfl ?_
  refine wcW_get (zrF (c 21 1)) hS kc66_11 (by decide) rfl ?_
  have hb14_2 : c 21 1 ≤ 40 := hI 21 1
  refine wcF_ne kc66_14 (fun hq14 => ?_) (fun hq14 => ?_)
  · skip
    refine wx_iconst (nI 0) kc66_21 (by decide) ?_
    refine wx_istore_n (ls' := [.ref 1, .int (nI 0)]) kc66_22 rfl rfl rfl rfl ?_
    refine wx_iload_n kc66_23 rfl rfl ?_
    refine wn_if_ne kc66_24 (by decide) (fun z => absurd z (by decide)) (fun _ => ?_)
    refine wx_aload_n kc66_27 rfl rfl ?_
    refine wx_aload_n kc66_28 rfl rfl ?_
    refine wc_get 1 6 (.ref (108 + 43 * 1)) hS kc66_29 rfl rfl rfl rfl ?_
    refine wcW_get (zrF (c 21 1)) hS kc66_32 (by decide) rfl ?_
    have hb35_3 : c 21 1 ≤ 40 := hI 21 1
    refine wx_iconst (nI 0) kc66_35 (by decide) ?_
    refine wc_call hS kc66_36 rfl rfl rfl rfl rfl ?_
    refine cN_isTooMuch hS hI hd hb1 (by decide) ?_
    show zm_wp _ 66 39 [.ref 1, .int (nI 0)] [.int (nI (if c 0 0 < zctk c + 0 + zcgr c (c 21 1) then 1 else 0))] (zch h0 c) _
    refine wn_if_eq kc66_39 (by split <;> decide) (fun hq39 => ?_) (fun hq39 => ?_)
    · skip
      refine wx_iconst (nI 0) kc66_47 (by decide) ?_
      refine wx_ireturn kc66_48 rfl rfl ?_
      have e : (if c 21 0 ≠ c 21 1 ∧ c 0 0 < zctk c + 0 + zcgr c (c 21 1) then (-7 : Int32) else nI 0) = (nI 0) := by
        by_cases hz : c 0 0 < zctk c + 0 + zcgr c (c 21 1)
        · first | exact if_pos ⟨hq14, hz⟩ | (rw [if_pos hz] at hq39; exact absurd hq39 (by decide)) | exact if_neg (by omega)
        · first | exact if_neg (fun y => hz y.2) | (rw [if_neg hz] at hq39; exact absurd rfl hq39)
      rw [e] at hq
      exact hq
    · skip
      refine wx_bipush (-7) kc66_42 (by decide) ?_
      refine wx_goto kc66_44 ?_
      refine wx_ireturn kc66_48 rfl rfl ?_
      have e : (if c 21 0 ≠ c 21 1 ∧ c 0 0 < zctk c + 0 + zcgr c (c 21 1) then (-7 : Int32) else nI 0) = (-7) := by
        by_cases hz : c 0 0 < zctk c + 0 + zcgr c (c 21 1)
        · first | exact if_pos ⟨hq14, hz⟩ | (rw [if_pos hz] at hq39; exact absurd hq39 (by decide)) | exact if_neg (by omega)
        · first | exact if_neg (fun y => hz y.2) | (rw [if_neg hz] at hq39; exact absurd rfl hq39)
      rw [e] at hq
      exact hq
  · skip
    refine wx_iconst (nI 1) kc66_17 (by decide) ?_
    refine wx_goto kc66_18 ?_
    refine wx_istore_n (ls' := [.ref 1, .int (nI 1)]) kc66_22 rfl rfl rfl rfl ?_
    refine wx_iload_n kc66_23 rfl rfl ?_
    refine wn_if_ne kc66_24 (by decide) (fun _ => ?_) (fun z => absurd z (by decide))
    refine wx_iconst (nI 0) kc66_47 (by decide) ?_
    refine wx_ireturn kc66_48 rfl rfl ?_
    have e : (if c 21 0 ≠ c 21 1 ∧ c 0 0 < zctk c + 0 + zcgr c (c 21 1) then (-7 : Int32) else nI 0) = (nI 0) := by
      by_cases hz : c 0 0 < zctk c + 0 + zcgr c (c 21 1)
      · first | exact if_pos ⟨hq14, hz⟩ | (rw [if_pos hz] at hq39; exact absurd hq39 (by decide)) | exact if_neg (by omega)
      · first | exact if_neg (fun y => hz y.2) | (rw [if_neg hz] at hq39; exact absurd rfl hq39)
    rw [e] at hq
    exact hq
theorem cN_refusalOfReplacing {d : Nat} {h0 : zm_H} {c : Nat → Nat → Nat} {Q : Option Value → zm_H → Prop} {f g : Nat} (hS : zCS h0) (hI : zCI c) (hf1 : 1 ≤ f) (hf2 : f ≤ 40) (hg1 : 1 ≤ g) (hg2 : g ≤ 40) (hq : Q (some (.int (if c 2 f = 2 ∧ c 2 g ≠ 2 then (-4 : Int32) else if c 2 f ≠ 2 ∧ c 2 g = 2 then -5 else if 0 < c 5 g then -6 else nI 0))) (zch h0 c)) : zm_wc (d + 1) mN_refusalOfReplacing [zrF f, zrF g] (zch h0 c) Q := by
  refine zm_enter2 (zfl_cons (zrF_c1 _) (zfl_cons (zrF_c1 _) zfl_nil)) rfl ?_
  show zm_wp _ 67 0 [zrF f, zrF g] [] (zch h0 c) Q
  refine wx_aload_n kc67_0 rfl (zrF_k _) ?_
  refine wcF_get (.int (nI (c 2 f))) hS kc67_1 (by omega) (by omega) rfl ?_
  have hb4_1 : c 2 f ≤ 3 := hI 2 f
  refine wx_iconst (nI 2) kc67_4 (by decide) ?_
  refine wn_icmp_ne kc67_5 (by omega) (by decide) (fun hq5 => ?_) (fun hq5 => ?_)
  · skip
    refine wx_aload_n kc67_19 rfl (zrF_k _) ?_
    refine wcF_get (.int (nI (c 2 f))) hS kc67_20 (by omega) (by omega) rfl ?_
    have hb23_2 : c 2 f ≤ 3 := hI 2 f
    refine wx_iconst (nI 2) kc67_23 (by decide) ?_
    refine wn_icmp_eq kc67_24 (by omega) (by decide) (fun hq24 => ?_) (fun hq24 => ?_)
    · skip
      refine wx_aload_n kc67_38 rfl (zrF_k _) ?_
      refine wcF_get (.int (nI (c 5 g))) hS kc67_39 (by omega) (by omega) rfl ?_
      have hb42_3 : c 5 g ≤ 60 := hI 5 g
      refine wn_if_le kc67_42 (by omega) (fun hq42 => ?_) (fun hq42 => ?_)
      · skip
        refine wx_iconst (nI 0) kc67_50 (by decide) ?_
        refine wx_ireturn kc67_51 rfl rfl ?_
        have e : (if c 2 f = 2 ∧ c 2 g ≠ 2 then (-4 : Int32) else if c 2 f ≠ 2 ∧ c 2 g = 2 then -5 else if 0 < c 5 g then -6 else nI 0) = (nI 0) := by
          first | (rw [if_pos (by omega)]; done) | (rw [if_neg (by omega), if_pos (by omega)]; done) | (rw [if_neg (by omega), if_neg (by omega), if_pos (by omega)]; done) | (rw [if_neg (by omega), if_neg (by omega), if_neg (by omega)]; done)
        rw [e] at hq
        exact hq
      · skip
        refine wx_bipush (-6) kc67_45 (by decide) ?_
        refine wx_goto kc67_47 ?_
        refine wx_ireturn kc67_51 rfl rfl ?_
        have e : (if c 2 f = 2 ∧ c 2 g ≠ 2 then (-4 : Int32) else if c 2 f ≠ 2 ∧ c 2 g = 2 then -5 else if 0 < c 5 g then -6 else nI 0) = (-6) := by
          first | (rw [if_pos (by omega)]; done) | (rw [if_neg (by omega), if_pos (by omega)]; done) | (rw [if_neg (by omega), if_neg (by omega), if_pos (by omega)]; done) | (rw [if_neg (by omega), if_neg (by omega), if_neg (by omega)]; done)
        rw [e] at hq
        exact hq
    · skip
      refine wx_aload_n kc67_27 rfl (zrF_k _) ?_
      refine wcF_get (.int (nI (c 2 g))) hS kc67_28 (by omega) (by omega) rfl ?_
      have hb31_3 : c 2 g ≤ 3 := hI 2 g
      refine wx_iconst (nI 2) kc67_31 (by decide) ?_
      refine wn_icmp_ne kc67_32 (by omega) (by decide) (fun hq32 => ?_) (fun hq32 => ?_)
      · skip
        refine wx_aload_n kc67_38 rfl (zrF_k _) ?_
        refine wcF_get (.int (nI (c 5 g))) hS kc67_39 (by omega) (by omega) rfl ?_
        have hb42_4 : c 5 g ≤ 60 := hI 5 g
        refine wn_if_le kc67_42 (by omega) (fun hq42 => ?_) (fun hq42 => ?_)
        · skip
          refine wx_iconst (nI 0) kc67_50 (by decide) ?_
          refine wx_ireturn kc67_51 rfl rfl ?_
          have e : (if c 2 f = 2 ∧ c 2 g ≠ 2 then (-4 : Int32) else if c 2 f ≠ 2 ∧ c 2 g = 2 then -5 else if 0 < c 5 g then -6 else nI 0) = (nI 0) := by
            first | (rw [if_pos (by omega)]; done) | (rw [if_neg (by omega), if_pos (by omega)]; done) | (rw [if_neg (by omega), if_neg (by omega), if_pos (by omega)]; done) | (rw [if_neg (by omega), if_neg (by omega), if_neg (by omega)]; done)
          rw [e] at hq
          exact hq
        · skip
          refine wx_bipush (-6) kc67_45 (by decide) ?_
          refine wx_goto kc67_47 ?_
          refine wx_ireturn kc67_51 rfl rfl ?_
          have e : (if c 2 f = 2 ∧ c 2 g ≠ 2 then (-4 : Int32) else if c 2 f ≠ 2 ∧ c 2 g = 2 then -5 else if 0 < c 5 g then -6 else nI 0) = (-6) := by
            first | (rw [if_pos (by omega)]; done) | (rw [if_neg (by omega), if_pos (by omega)]; done) | (rw [if_neg (by omega), if_neg (by omega), if_pos (by omega)]; done) | (rw [if_neg (by omega), if_neg (by omega), if_neg (by omega)]; done)
          rw [e] at hq
          exact hq
      · skip
        refine wx_bipush (-5) kc67_35 (by decide) ?_
        refine wx_ireturn kc67_37 rfl rfl ?_
        have e : (if c 2 f = 2 ∧ c 2 g ≠ 2 then (-4 : Int32) else if c 2 f ≠ 2 ∧ c 2 g = 2 then -5 else if 0 < c 5 g then -6 else nI 0) = (-5) := by
          first | (rw [if_pos (by omega)]; done) | (rw [if_neg (by omega), if_pos (by omega)]; done) | (rw [if_neg (by omega), if_neg (by omega), if_pos (by omega)]; done) | (rw [if_neg (by omega), if_neg (by omega), if_neg (by omega)]; done)
        rw [e] at hq
        exact hq
  · skip
    refine wx_aload_n kc67_8 rfl (zrF_k _) ?_
    refine wcF_get (.int (nI (c 2 g))) hS kc67_9 (by omega) (by omega) rfl ?_
    have hb12_2 : c 2 g ≤ 3 := hI 2 g
    refine wx_iconst (nI 2) kc67_12 (by decide) ?_
    refine wn_icmp_eq kc67_13 (by omega) (by decide) (fun hq13 => ?_) (fun hq13 => ?_)
    · skip
      refine wx_aload_n kc67_19 rfl (zrF_k _) ?_
      refine wcF_get (.int (nI (c 2 f))) hS kc67_20 (by omega) (by omega) rfl ?_
      have hb23_3 : c 2 f ≤ 3 := hI 2 f
      refine wx_iconst (nI 2) kc67_23 (by decide) ?_
      refine wn_icmp_eq kc67_24 (by omega) (by decide) (fun hq24 => ?_) (fun hq24 => ?_)
      · skip
        refine wx_aload_n kc67_38 rfl (zrF_k _) ?_
        refine wcF_get (.int (nI (c 5 g))) hS kc67_39 (by omega) (by omega) rfl ?_
        have hb42_4 : c 5 g ≤ 60 := hI 5 g
        refine wn_if_le kc67_42 (by omega) (fun hq42 => ?_) (fun hq42 => ?_)
        · skip
          refine wx_iconst (nI 0) kc67_50 (by decide) ?_
          refine wx_ireturn kc67_51 rfl rfl ?_
          have e : (if c 2 f = 2 ∧ c 2 g ≠ 2 then (-4 : Int32) else if c 2 f ≠ 2 ∧ c 2 g = 2 then -5 else if 0 < c 5 g then -6 else nI 0) = (nI 0) := by
            first | (rw [if_pos (by omega)]; done) | (rw [if_neg (by omega), if_pos (by omega)]; done) | (rw [if_neg (by omega), if_neg (by omega), if_pos (by omega)]; done) | (rw [if_neg (by omega), if_neg (by omega), if_neg (by omega)]; done)
          rw [e] at hq
          exact hq
        · skip
          refine wx_bipush (-6) kc67_45 (by decide) ?_
          refine wx_goto kc67_47 ?_
          refine wx_ireturn kc67_51 rfl rfl ?_
          have e : (if c 2 f = 2 ∧ c 2 g ≠ 2 then (-4 : Int32) else if c 2 f ≠ 2 ∧ c 2 g = 2 then -5 else if 0 < c 5 g then -6 else nI 0) = (-6) := by
            first | (rw [if_pos (by omega)]; done) | (rw [if_neg (by omega), if_pos (by omega)]; done) | (rw [if_neg (by omega), if_neg (by omega), if_pos (by omega)]; done) | (rw [if_neg (by omega), if_neg (by omega), if_neg (by omega)]; done)
          rw [e] at hq
          exact hq
      · skip
        refine wx_aload_n kc67_27 rfl (zrF_k _) ?_
        refine wcF_get (.int (nI (c 2 g))) hS kc67_28 (by omega) (by omega) rfl ?_
        have hb31_4 : c 2 g ≤ 3 := hI 2 g
        refine wx_iconst (nI 2) kc67_31 (by decide) ?_
        refine wn_icmp_ne kc67_32 (by omega) (by decide) (fun hq32 => ?_) (fun hq32 => ?_)
        · skip
          refine wx_aload_n kc67_38 rfl (zrF_k _) ?_
          refine wcF_get (.int (nI (c 5 g))) hS kc67_39 (by omega) (by omega) rfl ?_
          have hb42_5 : c 5 g ≤ 60 := hI 5 g
          refine wn_if_le kc67_42 (by omega) (fun hq42 => ?_) (fun hq42 => ?_)
          · skip
            refine wx_iconst (nI 0) kc67_50 (by decide) ?_
            refine wx_ireturn kc67_51 rfl rfl ?_
            have e : (if c 2 f = 2 ∧ c 2 g ≠ 2 then (-4 : Int32) else if c 2 f ≠ 2 ∧ c 2 g = 2 then -5 else if 0 < c 5 g then -6 else nI 0) = (nI 0) := by
              first | (rw [if_pos (by omega)]; done) | (rw [if_neg (by omega), if_pos (by omega)]; done) | (rw [if_neg (by omega), if_neg (by omega), if_pos (by omega)]; done) | (rw [if_neg (by omega), if_neg (by omega), if_neg (by omega)]; done)
            rw [e] at hq
            exact hq
          · skip
            refine wx_bipush (-6) kc67_45 (by decide) ?_
            refine wx_goto kc67_47 ?_
            refine wx_ireturn kc67_51 rfl rfl ?_
            have e : (if c 2 f = 2 ∧ c 2 g ≠ 2 then (-4 : Int32) else if c 2 f ≠ 2 ∧ c 2 g = 2 then -5 else if 0 < c 5 g then -6 else nI 0) = (-6) := by
              first | (rw [if_pos (by omega)]; done) | (rw [if_neg (by omega), if_pos (by omega)]; done) | (rw [if_neg (by omega), if_neg (by omega), if_pos (by omega)]; done) | (rw [if_neg (by omega), if_neg (by omega), if_neg (by omega)]; done)
            rw [e] at hq
            exact hq
        · skip
          refine wx_bipush (-5) kc67_35 (by decide) ?_
          refine wx_ireturn kc67_37 rfl rfl ?_
          have e : (if c 2 f = 2 ∧ c 2 g ≠ 2 then (-4 : Int32) else if c 2 f ≠ 2 ∧ c 2 g = 2 then -5 else if 0 < c 5 g then -6 else nI 0) = (-5) := by
            first | (rw [if_pos (by omega)]; done) | (rw [if_neg (by omega), if_pos (by omega)]; done) | (rw [if_neg (by omega), if_neg (by omega), if_pos (by omega)]; done) | (rw [if_neg (by omega), if_neg (by omega), if_neg (by omega)]; done)
          rw [e] at hq
          exact hq
    · skip
      refine wx_bipush (-4) kc67_16 (by decide) ?_
      refine wx_ireturn kc67_18 rfl rfl ?_
      have e : (if c 2 f = 2 ∧ c 2 g ≠ 2 then (-4 : Int32) else if c 2 f ≠ 2 ∧ c 2 g = 2 then -5 else if 0 < c 5 g then -6 else nI 0) = (-4) := by
        first | (rw [if_pos (by omega)]; done) | (rw [if_neg (by omega), if_pos (by omega)]; done) | (rw [if_neg (by omega), if_neg (by omega), if_pos (by omega)]; done) | (rw [if_neg (by omega), if_neg (by omega), if_neg (by omega)]; done)
      rw [e] at hq
      exact hq
