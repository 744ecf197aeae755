theorem cM_isFile {d : Nat} {h0 : zm_H} {s : Nat → Nat → Nat} {Q : Option Value → zm_H → Prop} {x : Int32} (hS : zMS h0) (hI : zMI s) (hyes : ∀ f : Nat, 1 ≤ f → f ≤ 40 → 0 < s 3 f → x = nI f → Q (some (.int (nI 1))) (zmh h0 s)) (hno : (∀ f : Nat, 1 ≤ f → f ≤ 40 → 0 < s 3 f → ¬ x = nI f) → Q (some (.int (nI 0))) (zmh h0 s)) : zm_wc (d + 1) mM_isFile [.ref 194, .int x] (zmh h0 s) Q := by
  refine zm_enter (Nat.le_of_ble_eq_true rfl) ?_
  show zm_wp _ 104 0 [.ref 194, .int x] [] (zmh h0 s) Q
  have hB := zMIb hI
  refine wx_iload_n kc104_0 rfl rfl ?_
  refine wx_iconst (nI 1) kc104_1 (by decide) ?_
  refine wx_icmp_lt kc104_2 (fun hq2 => ?_) (fun hq2 => ?_)
  · skip
    refine wx_iconst (nI 0) kc104_24 (by decide) ?_
    refine wx_ireturn kc104_25 rfl (by decide) ?_
    refine hno (fun g h1 h2 h3 hh => ?_)
    first | (have := (nI_eq (by omega) (by omega)).mp hh; subst this; omega) | (subst hh; exact absurd ((nI_ltI (by omega) (by omega)).mp hq2) (by omega)) | (subst hh; exact absurd ((nI_ltI (by omega) (by omega)).mp hq8) (by omega))
  · skip
    refine wx_iload_n kc104_5 rfl rfl ?_
    refine wx_bipush (nI 40) kc104_6 (by decide) ?_
    refine wx_icmp_gt kc104_8 (fun hq8 => ?_) (fun hq8 => ?_)
    · skip
      refine wx_iconst (nI 0) kc104_24 (by decide) ?_
      refine wx_ireturn kc104_25 rfl (by decide) ?_
      refine hno (fun g h1 h2 h3 hh => ?_)
      first | (have := (nI_eq (by omega) (by omega)).mp hh; subst this; omega) | (subst hh; exact absurd ((nI_ltI (by omega) (by omega)).mp hq2) (by omega)) | (subst hh; exact absurd ((nI_ltI (by omega) (by omega)).mp hq8) (by omega))
    · skip
      obtain ⟨f, hf1, hf2, rfl⟩ := zi_of 1 40 (by decide) (by decide) hq2 hq8
      refine wx_aload_n kc104_11 rfl rfl ?_
      refine wm_getf (.ref 197) hS kc104_12 rfl ?_
      refine wx_iload_n kc104_15 rfl rfl ?_
      refine wm_iald 197 41 (s 3 f) hS kc104_16 rfl rfl rfl rfl (by omega) (fun _ => rfl) rfl ?_
      have hb17_1 := hB 3 f
      refine wn_if_le kc104_17 (hB _ _) (fun hq17 => ?_) (fun hq17 => ?_)
      · skip
        refine wx_iconst (nI 0) kc104_24 (by decide) ?_
        refine wx_ireturn kc104_25 rfl (by decide) ?_
        refine hno (fun g h1 h2 h3 hh => ?_)
        first | (have := (nI_eq (by omega) (by omega)).mp hh; subst this; omega) | (subst hh; exact absurd ((nI_ltI (by omega) (by omega)).mp hq2) (by omega)) | (subst hh; exact absurd ((nI_ltI (by omega) (by omega)).mp hq8) (by omega))
      · skip
        refine wx_iconst (nI 1) kc104_20 (by decide) ?_
        refine wx_goto kc104_21 ?_
        refine wx_ireturn kc104_25 rfl (by decide) ?_
        exact hyes f hf1 hf2 (by omega) rfl
def zmfi (s : Nat → Nat → Nat) (f : Nat) : Nat → Nat := zsum (fun k => if s 8 k = f ∧ s 3 (s 9 k) = 2 then 1 else 0)
theorem lM_foldersIn {d : Nat} {h0 : zm_H} {s : Nat → Nat → Nat} {Q : Option Value → zm_H → Prop} {f : Nat} (hS : zMS h0) (hI : zMI s) (hf : f < 2147483648) (hq : Q (some (.int (nI (zmfi s f (s 0 10))))) (zmh h0 s)) : ∀ (n i : Nat), i + n = s 0 10 → zm_wp (d + 0) 106 4 [.ref 194, .int (nI f), .int (nI (zmfi s f i)), .int (nI i)] [] (zmh h0 s) Q := by
  have hB := zMIb hI
  intro n
  induction n with
  | zero =>
    intro i hi
    have hz := zsum_le (g := fun k => if s 8 k = f ∧ s 3 (s 9 k) = 2 then 1 else 0) (b := 1) i (fun k _ => by split <;> omega)
    have hz : zmfi s f i ≤ i * 1 := hz
    have hN : s 0 10 ≤ 60 := hI 0 10
    have h9 : s 9 i ≤ 40 := hI 9 i
    refine wx_iload_n kc106_4 rfl rfl ?_
    refine wx_aload_n kc106_5 rfl rfl ?_
    refine wm_getf (.int (nI (s 0 10))) hS kc106_6 rfl ?_
    have hb9_1 := hB 0 10
    refine wn_icmp_ge kc106_9 (by omega) (hB _ _) (fun hq9 => ?_) (fun hq9 => ?_)
    · skip
      refine wx_iload_n kc106_51 rfl rfl ?_
      refine wx_ireturn kc106_52 rfl rfl ?_
      obtain rfl : i = s 0 10 := by omega
      exact hq
    · skip
      exact absurd hq9 (by omega)
  | succ n ih =>
    intro i hi
    have hz := zsum_le (g := fun k => if s 8 k = f ∧ s 3 (s 9 k) = 2 then 1 else 0) (b := 1) i (fun k _ => by split <;> omega)
    have hz : zmfi s f i ≤ i * 1 := hz
    have hN : s 0 10 ≤ 60 := hI 0 10
    have h9 : s 9 i ≤ 40 := hI 9 i
    refine wx_iload_n kc106_4 rfl rfl ?_
    refine wx_aload_n kc106_5 rfl rfl ?_
    refine wm_getf (.int (nI (s 0 10))) hS kc106_6 rfl ?_
    have hb9_1 := hB 0 10
    refine wn_icmp_ge kc106_9 (by omega) (hB _ _) (fun hq9 => ?_) (fun hq9 => ?_)
    · skip
      refine wx_iload_n kc106_51 rfl rfl ?_
      refine wx_ireturn kc106_52 rfl rfl ?_
      obtain rfl : i = s 0 10 := by omega
      exact hq
    · skip
      refine wx_iload_n kc106_12 rfl rfl ?_
      refine wx_aload_n kc106_13 rfl rfl ?_
      refine wm_getf (.ref 202) hS kc106_14 rfl ?_
      refine wx_iload_n kc106_17 rfl rfl ?_
      refine wm_iald 202 60 (s 8 i) hS kc106_18 rfl rfl rfl rfl (by omega) (fun _ => rfl) rfl ?_
      have hb19_2 := hB 8 i
      refine wx_iload_n kc106_19 rfl rfl ?_
      refine wn_icmp_ne kc106_20 (hB _ _) (by omega) (fun hq20 => ?_) (fun hq20 => ?_)
      · skip
        refine wx_iconst (nI 0) kc106_42 (by decide) ?_
        refine wn_iadd ((zmfi s f i) + 0) kc106_43 rfl ?_
        refine wx_istore_n (ls' := [.ref 194, .int (nI f), .int (nI ((zmfi s f i) + 0)), .int (nI i)]) kc106_44 rfl rfl rfl rfl ?_
        refine wn_iinc (i + 1) (ls' := [.ref 194, .int (nI f), .int (nI ((zmfi s f i) + 0)), .int (nI (i + 1))]) kc106_45 rfl rfl rfl rfl rfl ?_
        refine wx_goto kc106_48 ?_
        have he : zmfi s f (i + 1) = ((zmfi s f i) + 0) := by
          show zmfi s f i + (if s 8 i = f ∧ s 3 (s 9 i) = 2 then 1 else 0) = _
          first | rw [if_pos (by omega)] | rw [if_neg (by omega)]
        have hih := ih (i + 1) (by omega)
        rw [he] at hih
        exact hih
      · skip
        refine wx_aload_n kc106_23 rfl rfl ?_
        refine wm_getf (.ref 197) hS kc106_24 rfl ?_
        refine wx_aload_n kc106_27 rfl rfl ?_
        refine wm_getf (.ref 203) hS kc106_28 rfl ?_
        refine wx_iload_n kc106_31 rfl rfl ?_
        refine wm_iald 203 60 (s 9 i) hS kc106_32 rfl rfl rfl rfl (by omega) (fun _ => rfl) rfl ?_
        have hb33_3 := hB 9 i
        refine wm_iald 197 41 (s 3 (s 9 i)) hS kc106_33 rfl rfl rfl rfl (by omega) (fun _ => rfl) rfl ?_
        have hb34_4 := hB 3 (s 9 i)
        refine wx_iconst (nI 2) kc106_34 (by decide) ?_
        refine wn_icmp_ne kc106_35 (hB _ _) (by decide) (fun hq35 => ?_) (fun hq35 => ?_)
        · skip
          refine wx_iconst (nI 0) kc106_42 (by decide) ?_
          refine wn_iadd ((zmfi s f i) + 0) kc106_43 rfl ?_
          refine wx_istore_n (ls' := [.ref 194, .int (nI f), .int (nI ((zmfi s f i) + 0)), .int (nI i)]) kc106_44 rfl rfl rfl rfl ?_
          refine wn_iinc (i + 1) (ls' := [.ref 194, .int (nI f), .int (nI ((zmfi s f i) + 0)), .int (nI (i + 1))]) kc106_45 rfl rfl rfl rfl rfl ?_
          refine wx_goto kc106_48 ?_
          have he : zmfi s f (i + 1) = ((zmfi s f i) + 0) := by
            show zmfi s f i + (if s 8 i = f ∧ s 3 (s 9 i) = 2 then 1 else 0) = _
            first | rw [if_pos (by omega)] | rw [if_neg (by omega)]
          have hih := ih (i + 1) (by omega)
          rw [he] at hih
          exact hih
        · skip
          refine wx_iconst (nI 1) kc106_38 (by decide) ?_
          refine wx_goto kc106_39 ?_
          refine wn_iadd ((zmfi s f i) + 1) kc106_43 rfl ?_
          refine wx_istore_n (ls' := [.ref 194, .int (nI f), .int (nI ((zmfi s f i) + 1)), .int (nI i)]) kc106_44 rfl rfl rfl rfl ?_
          refine wn_iinc (i + 1) (ls' := [.ref 194, .int (nI f), .int (nI ((zmfi s f i) + 1)), .int (nI (i + 1))]) kc106_45 rfl rfl rfl rfl rfl ?_
          refine wx_goto kc106_48 ?_
          have he : zmfi s f (i + 1) = ((zmfi s f i) + 1) := by
            show zmfi s f i + (if s 8 i = f ∧ s 3 (s 9 i) = 2 then 1 else 0) = _
            first | rw [if_pos (by omega)] | rw [if_neg (by omega)]
          have hih := ih (i + 1) (by omega)
          rw [he] at hih
          exact hih
theorem cM_foldersIn {d : Nat} {h0 : zm_H} {s : Nat → Nat → Nat} {Q : Option Value → zm_H → Prop} {f : Nat} (hS : zMS h0) (hI : zMI s) (hf : f < 2147483648) (hq : Q (some (.int (nI (zmfi s f (s 0 10))))) (zmh h0 s)) : zm_wc (d + 1) mM_foldersIn [.ref 194, .int (nI f)] (zmh h0 s) Q := by
  refine zm_enter (Nat.le_of_ble_eq_true rfl) ?_
  show zm_wp _ 106 0 [.ref 194, .int (nI f), zm_un, zm_un] [] (zmh h0 s) Q
  refine wx_iconst (nI 0) kc106_0 (by decide) ?_
  refine wx_istore_n (ls' := [.ref 194, .int (nI f), .int (nI 0), zm_un]) kc106_1 rfl rfl rfl rfl ?_
  refine wx_iconst (nI 0) kc106_2 (by decide) ?_
  refine wx_istore_n (ls' := [.ref 194, .int (nI f), .int (nI 0), .int (nI 0)]) kc106_3 rfl rfl rfl rfl ?_
  exact lM_foldersIn hS hI hf hq (s 0 10) 0 (by omega)
theorem zmat_le {s : Nat → Nat → Nat} (hI : zMI s) : zmat s ≤ 2400 := zsum_le (g := fun k => zmt s (k + 1)) (b := 60) 40 (fun k _ => zmt_le hI (k + 1))
theorem cM_room {d : Nat} {h0 : zm_H} {s : Nat → Nat → Nat} {Q : Option Value → zm_H → Prop} {x : Int32} (hS : zMS h0) (hI : zMI s) (hgood : ∀ k : Nat, zmat s ≤ k → k ≤ 200 → x = nI k → Q (some (.int (nI (k - zmat s)))) (zmh h0 (zup s 0 0 k))) (hbad : (∀ k : Nat, zmat s ≤ k → k ≤ 200 → ¬ x = nI k) → Q (some (.int (-1))) (zmh h0 s)) : zm_wc (d + 4) mM_room [.ref 194, .int x] (zmh h0 s) Q := by
  refine zm_enter (Nat.le_of_ble_eq_true rfl) ?_
  show zm_wp _ 93 0 [.ref 194, .int x] [] (zmh h0 s) Q
  have hB := zMIb hI
  have hm := zmat_le hI
  refine wx_iload_n kc93_0 rfl rfl ?_
  refine wx_sipush (nI 200) kc93_1 (by decide) ?_
  refine wx_icmp_gt kc93_4 (fun hq4 => ?_) (fun hq4 => ?_)
  · skip
    refine wx_iconst (-1) kc93_15 (by decide) ?_
    refine wx_ireturn kc93_16 rfl rfl ?_
    refine hbad (fun k h1 h2 hh => ?_)
    subst hh
    first | exact absurd ((nI_ltI (by omega) (by omega)).mp hq4) (by omega) | exact absurd ((nI_leI (by omega) (by omega)).mpr h1) hq12
  · skip
    refine wx_iload_n kc93_7 rfl rfl ?_
    refine wx_aload_n kc93_8 rfl rfl ?_
    refine wx_virtual kc93_9 rfl (zmh_is hS 194 8 (by decide) (by decide) rfl) rfl ?_
    refine cM_allTake hS hI ?_
    show zm_wp _ 93 12 [.ref 194, .int x] [.int (nI (zmat s)), .int x] (zmh h0 s) _
    refine wx_icmp_ge kc93_12 (fun hq12 => ?_) (fun hq12 => ?_)
    · skip
      obtain ⟨k, hk1, hk2, rfl⟩ := zi_of (zmat s) 200 (by omega) (by decide) (fun z => absurd hq12 (Int32.not_le.mpr z)) hq4
      refine wx_aload_n kc93_17 rfl rfl ?_
      refine wx_iload_n kc93_18 rfl rfl ?_
      refine wm_putf (v := k) hS kc93_19 rfl rfl ?_
      refine wx_aload_n kc93_22 rfl rfl ?_
      refine wm_getf (.int (nI k)) hS kc93_23 rfl ?_
      refine wx_aload_n kc93_26 rfl rfl ?_
      have hI2 := zMI_up hI (a := 0) (j := 0) (v := k) (show k ≤ 200 by omega)
      refine wx_virtual kc93_27 rfl (zmh_is hS 194 8 (by decide) (by decide) rfl) rfl ?_
      refine cM_allTake hS hI2 ?_
      show zm_wp _ 93 30 [.ref 194, .int (nI k)] [.int (nI (zmat s)), .int (nI k)] (zmh h0 (zup s 0 0 k)) _
      refine wn_isub (k - (zmat s)) kc93_30 (by omega) ?_
      refine wx_ireturn kc93_31 rfl rfl ?_
      exact hgood k hk1 hk2 rfl
    · skip
      refine wx_iconst (-1) kc93_15 (by decide) ?_
      refine wx_ireturn kc93_16 rfl rfl ?_
      refine hbad (fun k h1 h2 hh => ?_)
      subst hh
      first | exact absurd ((nI_ltI (by omega) (by omega)).mp hq4) (by omega) | exact absurd ((nI_leI (by omega) (by omega)).mpr h1) hq12
def zmct (s : Nat → Nat → Nat) (x : Int32) : Int32 := if x = 0 then nI (zmfc s) else if x = nI 1 then nI (s 0 10) else if x = nI 2 then nI (s 0 1) else if x = nI 3 then nI (zmat s) else -1
theorem cM_count {d : Nat} {h0 : zm_H} {s : Nat → Nat → Nat} {Q : Option Value → zm_H → Prop} {x : Int32} (hS : zMS h0) (hI : zMI s) (hq : Q (some (.int (zmct s x))) (zmh h0 s)) : zm_wc (d + 4) mM_count [.ref 194, .int x] (zmh h0 s) Q := by
  refine zm_enter (Nat.le_of_ble_eq_true rfl) ?_
  show zm_wp _ 109 0 [.ref 194, .int x] [] (zmh h0 s) Q
  have hB := zMIb hI
  refine wx_iload_n kc109_0 rfl rfl ?_
  refine wx_if_ne kc109_1 (fun hq1 => ?_) (fun hq1 => ?_)
  · skip
    refine wx_iload_n kc109_11 rfl rfl ?_
    refine wx_iconst (nI 1) kc109_12 (by decide) ?_
    refine wx_icmp_ne kc109_13 (fun hq13 => ?_) (fun hq13 => ?_)
    · skip
      refine wx_iload_n kc109_23 rfl rfl ?_
      refine wx_iconst (nI 2) kc109_24 (by decide) ?_
      refine wx_icmp_ne kc109_25 (fun hq25 => ?_) (fun hq25 => ?_)
      · skip
        refine wx_iload_n kc109_35 rfl rfl ?_
        refine wx_iconst (nI 3) kc109_36 (by decide) ?_
        refine wx_icmp_ne kc109_37 (fun hq37 => ?_) (fun hq37 => ?_)
        · skip
          refine wx_iconst (-1) kc109_47 (by decide) ?_
          refine wx_ireturn kc109_48 rfl rfl ?_
          exact (show zmct s x = (-1) by unfold zmct; repeat (first | rw [if_pos (by assumption)] | rw [if_neg (by assumption)])) ▸ hq
        · skip
          refine wx_aload_n kc109_40 rfl rfl ?_
          refine wx_virtual kc109_41 rfl (zmh_is hS 194 8 (by decide) (by decide) rfl) rfl ?_
          refine cM_allTake hS hI ?_
          show zm_wp _ 109 44 [.ref 194, .int x] [.int (nI (zmat s))] (zmh h0 s) _
          refine wx_goto kc109_44 ?_
          refine wx_ireturn kc109_48 rfl rfl ?_
          exact (show zmct s x = (nI (zmat s)) by unfold zmct; repeat (first | rw [if_pos (by assumption)] | rw [if_neg (by assumption)])) ▸ hq
      · skip
        refine wx_aload_n kc109_28 rfl rfl ?_
        refine wm_getf (.int (nI (s 0 1))) hS kc109_29 rfl ?_
        have hb32_1 := hB 0 1
        refine wx_goto kc109_32 ?_
        refine wx_ireturn kc109_48 rfl rfl ?_
        exact (show zmct s x = (nI (s 0 1)) by unfold zmct; repeat (first | rw [if_pos (by assumption)] | rw [if_neg (by assumption)])) ▸ hq
    · skip
      refine wx_aload_n kc109_16 rfl rfl ?_
      refine wm_getf (.int (nI (s 0 10))) hS kc109_17 rfl ?_
      have hb20_1 := hB 0 10
      refine wx_goto kc109_20 ?_
      refine wx_ireturn kc109_48 rfl rfl ?_
      exact (show zmct s x = (nI (s 0 10)) by unfold zmct; repeat (first | rw [if_pos (by assumption)] | rw [if_neg (by assumption)])) ▸ hq
  · skip
    refine wx_aload_n kc109_4 rfl rfl ?_
    refine wx_virtual kc109_5 rfl (zmh_is hS 194 8 (by decide) (by decide) rfl) rfl ?_
    refine cM_fileCount hS hI ?_
    show zm_wp _ 109 8 [.ref 194, .int x] [.int (nI (zmfc s))] (zmh h0 s) _
    refine wx_goto kc109_8 ?_
    refine wx_ireturn kc109_48 rfl rfl ?_
    exact (show zmct s x = (nI (zmfc s)) by unfold zmct; repeat (first | rw [if_pos (by assumption)] | rw [if_neg (by assumption)])) ▸ hq
theorem cM_release {d : Nat} {h0 : zm_H} {s : Nat → Nat → Nat} {Q : Option Value → zm_H → Prop} {x : Int32} (hS : zMS h0) (hI : zMI s) (hgood : ∀ f : Nat, 1 ≤ f → f ≤ 40 → 0 < s 3 f → 0 < s 5 f → x = nI f → Q (some (.int (nI (zmno s f (s 0 10))))) (zmh h0 (if zmno s f (s 0 10) = 0 ∧ s 5 f - 1 = 0 then zup (zup s 5 f (s 5 f - 1)) 3 f 0 else zup s 5 f (s 5 f - 1)))) (hbad : (∀ f : Nat, 1 ≤ f → f ≤ 40 → 0 < s 3 f → 0 < s 5 f → ¬ x = nI f) → Q (some (.int (-1))) (zmh h0 s)) : zm_wc (d + 2) mM_release [.ref 194, .int x] (zmh h0 s) Q := by
  refine zm_enter (Nat.le_of_ble_eq_true rfl) ?_
  show zm_wp _ 105 0 [.ref 194, .int x, zm_un] [] (zmh h0 s) Q
  have hB := zMIb hI
  refine wx_aload_n kc105_0 rfl rfl ?_
  refine wx_iload_n kc105_1 rfl rfl ?_
  refine wx_virtual kc105_2 rfl (zmh_is hS 194 8 (by decide) (by decide) rfl) rfl ?_
  refine cM_isFile hS hI (fun f hf1 hf2 hf3 hxf => ?_) (fun hnf => ?_)
  · skip
    subst hxf
    show zm_wp _ 105 5 [.ref 194, .int (nI f), zm_un] [.int (nI 1)] (zmh h0 s) _
    refine wn_if_eq kc105_5 (by decide) (fun z => absurd z (by decide)) (fun _ => ?_)
    refine wx_aload_n kc105_8 rfl rfl ?_
    refine wm_getf (.ref 199) hS kc105_9 rfl ?_
    refine wx_iload_n kc105_12 rfl rfl ?_
    refine wm_iald 199 41 (s 5 f) hS kc105_13 rfl rfl rfl rfl (by omega) (fun _ => rfl) rfl ?_
    have hb14_1 := hB 5 f
    refine wn_if_ne kc105_14 (hB _ _) (fun hq14 => ?_) (fun hq14 => ?_)
    · skip
      refine wx_aload_n kc105_19 rfl rfl ?_
      refine wm_getf (.ref 199) hS kc105_20 rfl ?_
      refine wx_iload_n kc105_23 rfl rfl ?_
      refine wx_dup2 kc105_24 rfl rfl ?_
      refine wm_iald 199 41 (s 5 f) hS kc105_25 rfl rfl rfl rfl (by omega) (fun _ => rfl) rfl ?_
      have hb26_2 := hB 5 f
      refine wx_iconst (nI 1) kc105_26 (by decide) ?_
      refine wn_isub ((s 5 f) - 1) kc105_27 (by omega) ?_
      refine wm_iast (v := ((s 5 f) - 1)) 199 41 hS kc105_28 rfl rfl rfl rfl (by omega) rfl ?_
      refine wx_aload_n kc105_29 rfl rfl ?_
      refine wx_iload_n kc105_30 rfl rfl ?_
      have h5 : s 5 f ≤ 101 := hI 5 f
      have hI2 := zMI_up hI (a := 5) (j := f) (v := s 5 f - 1) (show s 5 f - 1 ≤ 101 by omega)
      have hno : zmno s f (s 0 10) ≤ 60 := by
        have h1 := zsum_le (g := fun k => if s 9 k = f then 1 else 0) (b := 1) (s 0 10) (fun k _ => by split <;> omega)
        have h2 : zmno s f (s 0 10) ≤ s 0 10 * 1 := h1
        have h3 : s 0 10 ≤ 60 := hI 0 10
        omega
      refine wx_virtual kc105_31 rfl (zmh_is hS 194 8 (by decide) (by decide) rfl) rfl ?_
      refine cM_namesOf hS hI2 (by omega) ?_
      show zm_wp _ 105 34 [.ref 194, .int (nI f), zm_un] [.int (nI (zmno s f (s 0 10)))] (zmh h0 (zup s 5 f ((s 5 f) - 1))) _
      refine wx_istore_n (ls' := [.ref 194, .int (nI f), .int (nI (zmno s f (s 0 10)))]) kc105_34 rfl rfl rfl rfl ?_
      refine wx_iload_n kc105_35 rfl rfl ?_
      refine wn_if_ne kc105_36 (by omega) (fun hq36 => ?_) (fun hq36 => ?_)
      · skip
        refine wx_iload_n kc105_55 rfl rfl ?_
        refine wx_ireturn kc105_56 rfl rfl ?_
        have hg := hgood f hf1 hf2 hf3 (by omega) rfl
        first | (rw [if_pos ⟨by omega, by omega⟩] at hg; exact hg) | (rw [if_neg (by omega)] at hg; exact hg)
      · skip
        refine wx_aload_n kc105_39 rfl rfl ?_
        refine wm_getf (.ref 199) hS kc105_40 rfl ?_
        refine wx_iload_n kc105_43 rfl rfl ?_
        refine wm_iald 199 41 (((s 5 f) - 1)) hS kc105_44 rfl rfl rfl rfl (by omega) (fun _ => rfl) (zup_same _ _ _ _) ?_
        refine wn_if_ne kc105_45 (by omega) (fun hq45 => ?_) (fun hq45 => ?_)
        · skip
          refine wx_iload_n kc105_55 rfl rfl ?_
          refine wx_ireturn kc105_56 rfl rfl ?_
          have hg := hgood f hf1 hf2 hf3 (by omega) rfl
          first | (rw [if_pos ⟨by omega, by omega⟩] at hg; exact hg) | (rw [if_neg (by omega)] at hg; exact hg)
        · skip
          refine wx_aload_n kc105_48 rfl rfl ?_
          refine wm_getf (.ref 197) hS kc105_49 rfl ?_
          refine wx_iload_n kc105_52 rfl rfl ?_
          refine wx_iconst (nI 0) kc105_53 (by decide) ?_
          refine wm_iast (v := 0) 197 41 hS kc105_54 rfl rfl rfl rfl (by omega) rfl ?_
          refine wx_iload_n kc105_55 rfl rfl ?_
          refine wx_ireturn kc105_56 rfl rfl ?_
          have hg := hgood f hf1 hf2 hf3 (by omega) rfl
          first | (rw [if_pos ⟨by omega, by omega⟩] at hg; exact hg) | (rw [if_neg (by omega)] at hg; exact hg)
    · skip
      refine wx_iconst (-1) kc105_17 (by decide) ?_
      refine wx_ireturn kc105_18 rfl rfl ?_
      refine hbad (fun g h1 h2 h3 h4 hh => ?_)
      first | exact hnf g h1 h2 h3 hh | (have := (nI_eq (by omega) (by omega)).mp hh; subst this; omega)
  · skip
    show zm_wp _ 105 5 [.ref 194, .int x, zm_un] [.int (nI 0)] (zmh h0 s) _
    refine wn_if_eq kc105_5 (by decide) (fun _ => ?_) (fun z => absurd rfl z)
    refine wx_iconst (-1) kc105_17 (by decide) ?_
    refine wx_ireturn kc105_18 rfl rfl ?_
    refine hbad (fun g h1 h2 h3 h4 hh => ?_)
    first | exact hnf g h1 h2 h3 hh | (have := (nI_eq (by omega) (by omega)).mp hh; subst this; omega)
theorem cM_targetByte {d : Nat} {h0 : zm_H} {s : Nat → Nat → Nat} {Q : Option Value → zm_H → Prop} {x y : Int32} (hS : zMS h0) (hI : zMI s) (hgood : ∀ f i : Nat, 1 ≤ f → f ≤ 40 → s 3 f = 3 → i < s 6 f → x = nI f → y = nI i → Q (some (.int (nI (s 7 (1000 * f + i))))) (zmh h0 s)) (hbad : (∀ f i : Nat, 1 ≤ f → f ≤ 40 → s 3 f = 3 → i < s 6 f → ¬ (x = nI f ∧ y = nI i)) → Q (some (.int (-1))) (zmh h0 s)) : zm_wc (d + 2) mM_targetByte [.ref 194, .int x, .int y] (zmh h0 s) Q := by
  refine zm_enter (Nat.le_of_ble_eq_true rfl) ?_
  show zm_wp _ 108 0 [.ref 194, .int x, .int y] [] (zmh h0 s) Q
  have hB := zMIb hI
  refine wx_aload_n kc108_0 rfl rfl ?_
  refine wx_iload_n kc108_1 rfl rfl ?_
  refine wx_virtual kc108_2 rfl (zmh_is hS 194 8 (by decide) (by decide) rfl) rfl ?_
  refine cM_isFile hS hI (fun f hf1 hf2 hf3 hxf => ?_) (fun hnf => ?_)
  · skip
    subst hxf
    show zm_wp _ 108 5 [.ref 194, .int (nI f), .int y] [.int (nI 1)] (zmh h0 s) _
    refine wn_if_eq kc108_5 (by decide) (fun z => absurd z (by decide)) (fun _ => ?_)
    refine wx_aload_n kc108_8 rfl rfl ?_
    refine wm_getf (.ref 197) hS kc108_9 rfl ?_
    refine wx_iload_n kc108_12 rfl rfl ?_
    refine wm_iald 197 41 (s 3 f) hS kc108_13 rfl rfl rfl rfl (by omega) (fun _ => rfl) rfl ?_
    have hb14_1 := hB 3 f
    refine wx_iconst (nI 3) kc108_14 (by decide) ?_
    refine wn_icmp_ne kc108_15 (hB _ _) (by decide) (fun hq15 => ?_) (fun hq15 => ?_)
    · skip
      refine wx_iconst (-1) kc108_32 (by decide) ?_
      refine wx_goto kc108_33 ?_
      refine wx_ireturn kc108_52 rfl rfl ?_
      refine hbad (fun g j h1 h2 h3 h4 hh => ?_)
      obtain ⟨e1, e2⟩ := hh
      have h6 : s 6 g ≤ 1000 := hI 6 g
      first | exact hnf g h1 h2 (by omega) e1 | (have e3 := (nI_eq (by omega) (by omega)).mp e1; subst e3; first | omega | (subst e2; first | exact absurd hq19 (nI_pos (by omega)) | exact hq29 ((nI_ltI (by omega) (by omega)).mpr h4)))
    · skip
      refine wx_iload_n kc108_18 rfl rfl ?_
      refine wx_if_lt kc108_19 (fun hq19 => ?_) (fun hq19 => ?_)
      · skip
        refine wx_iconst (-1) kc108_32 (by decide) ?_
        refine wx_goto kc108_33 ?_
        refine wx_ireturn kc108_52 rfl rfl ?_
        refine hbad (fun g j h1 h2 h3 h4 hh => ?_)
        obtain ⟨e1, e2⟩ := hh
        have h6 : s 6 g ≤ 1000 := hI 6 g
        first | exact hnf g h1 h2 (by omega) e1 | (have e3 := (nI_eq (by omega) (by omega)).mp e1; subst e3; first | omega | (subst e2; first | exact absurd hq19 (nI_pos (by omega)) | exact hq29 ((nI_ltI (by omega) (by omega)).mpr h4)))
      · skip
        refine wx_iload_n kc108_22 rfl rfl ?_
        refine wx_aload_n kc108_23 rfl rfl ?_
        refine wm_getf (.ref 200) hS kc108_24 rfl ?_
        refine wx_iload_n kc108_27 rfl rfl ?_
        refine wm_iald 200 41 (s 6 f) hS kc108_28 rfl rfl rfl rfl (by omega) (fun _ => rfl) rfl ?_
        have hb29_2 := hB 6 f
        refine wx_icmp_lt kc108_29 (fun hq29 => ?_) (fun hq29 => ?_)
        · skip
          have h6 : s 6 f ≤ 1000 := hI 6 f
          obtain ⟨i, hi1, rfl⟩ := nI_of hq19
          have hi2 := (nI_ltI hi1 (hB _ _)).mp hq29
          have h7 : s 7 (1000 * f + i) < 256 := Nat.lt_succ_of_le (hI 7 _)
          refine wx_aload_n kc108_36 rfl rfl ?_
          refine wm_getf (.ref 201) hS kc108_37 rfl ?_
          refine wx_sipush (nI 1000) kc108_40 (by decide) ?_
          refine wx_iload_n kc108_43 rfl rfl ?_
          refine wn_imul (1000 * f) kc108_44 rfl ?_
          refine wx_iload_n kc108_45 rfl rfl ?_
          refine wn_iadd ((1000 * f) + i) kc108_46 rfl ?_
          refine wm_bald 201 41000 (s 7 ((1000 * f) + i)) hS kc108_47 rfl rfl rfl rfl (by omega) (fun _ => rfl) rfl ?_
          refine wx_sipush (nI 255) kc108_48 (by decide) ?_
          refine wx_iand kc108_51 ?_
          rw [zsg_and h7]
          refine wx_ireturn kc108_52 rfl rfl ?_
          exact hgood f i hf1 hf2 (by omega) hi2 rfl rfl
        · skip
          refine wx_iconst (-1) kc108_32 (by decide) ?_
          refine wx_goto kc108_33 ?_
          refine wx_ireturn kc108_52 rfl rfl ?_
          refine hbad (fun g j h1 h2 h3 h4 hh => ?_)
          obtain ⟨e1, e2⟩ := hh
          have h6 : s 6 g ≤ 1000 := hI 6 g
          first | exact hnf g h1 h2 (by omega) e1 | (have e3 := (nI_eq (by omega) (by omega)).mp e1; subst e3; first | omega | (subst e2; first | exact absurd hq19 (nI_pos (by omega)) | exact hq29 ((nI_ltI (by omega) (by omega)).mpr h4)))
  · skip
    show zm_wp _ 108 5 [.ref 194, .int x, .int y] [.int (nI 0)] (zmh h0 s) _
    refine wn_if_eq kc108_5 (by decide) (fun _ => ?_) (fun z => absurd rfl z)
    refine wx_iconst (-1) kc108_32 (by decide) ?_
    refine wx_goto kc108_33 ?_
    refine wx_ireturn kc108_52 rfl rfl ?_
    refine hbad (fun g j h1 h2 h3 h4 hh => ?_)
    obtain ⟨e1, e2⟩ := hh
    have h6 : s 6 g ≤ 1000 := hI 6 g
    first | exact hnf g h1 h2 (by omega) e1 | (have e3 := (nI_eq (by omega) (by omega)).mp e1; subst e3; first | omega | (subst e2; first | exact absurd hq19 (nI_pos (by omega)) | exact hq29 ((nI_ltI (by omega) (by omega)).mpr h4)))
