/-! the class's calls that read no path -/
theorem zsh_t : ∀ m, m < 8 → (((nI (8 * m)).toInt64 &&& 63).toBitVec.smod 64).toNat = 8 * m ∧ (((nI (8 * m)).toInt64.toUInt64 &&& Int64.toUInt64 63).toBitVec % 64).toNat = 8 * m := by decide +kernel
theorem zsh_b (a : Int64) {m i : Nat} (hm : m < 8) (hi : i < 8) : (a.toUInt64 >>> ((nI (8 * m)).toInt64.toUInt64 &&& Int64.toUInt64 63)).toInt64.toBitVec.getLsbD i = (a >>> ((nI (8 * m)).toInt64 &&& 63)).toBitVec.getLsbD i := by
  obtain ⟨e1, e2⟩ := zsh_t m hm
  have h1 : (a.toUInt64 >>> ((nI (8 * m)).toInt64.toUInt64 &&& Int64.toUInt64 63)).toInt64.toBitVec.getLsbD i = a.toBitVec.getLsbD (8 * m + i) := by
    show (a.toBitVec >>> (((nI (8 * m)).toInt64.toUInt64 &&& Int64.toUInt64 63).toBitVec % 64).toNat).getLsbD i = _
    rw [e2, BitVec.getLsbD_ushiftRight]
  have h2 : (a >>> ((nI (8 * m)).toInt64 &&& 63)).toBitVec.getLsbD i = a.toBitVec.getLsbD (8 * m + i) := by
    show (a.toBitVec.sshiftRight (((nI (8 * m)).toInt64 &&& 63).toBitVec.smod 64).toNat).getLsbD i = _
    rw [e1, BitVec.getLsbD_sshiftRight, if_pos (by omega), decide_eq_false (by omega)]
    rfl
  rw [h1, h2]
theorem zsh_8 (a : Int64) {m : Nat} (hm : m < 8) : (a.toUInt64 >>> ((nI (8 * m)).toInt64.toUInt64 &&& Int64.toUInt64 63)).toInt64.toBitVec.toNat % 256 = zby a m := by
  have e : (a.toUInt64 >>> ((nI (8 * m)).toInt64.toUInt64 &&& Int64.toUInt64 63)).toInt64.toBitVec.setWidth 8 = (a >>> ((nI (8 * m)).toInt64 &&& 63)).toBitVec.setWidth 8 := BitVec.eq_of_getLsbD_eq (fun i hi => by rw [BitVec.getLsbD_setWidth, BitVec.getLsbD_setWidth, zsh_b a hm hi])
  have e2 := congrArg BitVec.toNat e
  rw [BitVec.toNat_setWidth, BitVec.toNat_setWidth] at e2
  exact e2
theorem zlo8 (X : Int64) : X.toInt32.toInt8 = (nI (X.toBitVec.toNat % 256)).toInt8 := by
  apply Int8.toBitVec_inj.mp
  show (X.toBitVec.signExtend 32).signExtend 8 = (nI (X.toBitVec.toNat % 256)).toBitVec.signExtend 8
  rw [BitVec.signExtend_eq_setWidth_of_le _ (by decide), BitVec.signExtend_eq_setWidth_of_le _ (by decide), BitVec.signExtend_eq_setWidth_of_le _ (by decide)]
  apply BitVec.eq_of_toNat_eq
  rw [BitVec.toNat_setWidth, BitVec.toNat_setWidth, BitVec.toNat_setWidth]
  have e : (nI (X.toBitVec.toNat % 256)).toBitVec.toNat = X.toBitVec.toNat % 256 := by
    show (X.toBitVec.toNat % 256) % 2 ^ 32 = _
    omega
  rw [e]
  omega
theorem zsh_v (a : Int64) {m : Nat} (hm : m < 8) : ((a.toUInt64 >>> ((nI (8 * m)).toInt64.toUInt64 &&& Int64.toUInt64 63)).toInt64.toInt32.toInt8.toInt32).toInt8.toInt32 = zsg (zby a m) := by
  rw [zlo8, zsh_8 a hm]
  exact zsg_ii _
theorem zap_s (c : Nat → Nat → Nat) (T i : Nat) {v : Nat} {g : Nat → Nat} (hv : g i = v) : zup (zup (zup (zwr c 19 (1200 * 3 + T) i g) 0 1 (T + i)) 19 (1200 * 3 + (T + i)) v) 0 1 (T + i + 1) = zup (zwr c 19 (1200 * 3 + T) (i + 1) g) 0 1 (T + (i + 1)) := by
  subst hv
  rw [zup_cm _ (by decide : (0 : Nat) ≠ 19), zup_zup, ← Nat.add_assoc (1200 * 3), zwr_s]
  rfl
theorem zap_0 (c : Nat → Nat → Nat) (g : Nat → Nat) : zup (zwr c 19 (1200 * 3 + c 0 1) 0 g) 0 1 (c 0 1 + 0) = c := by
  rw [zwr_0]
  exact zup_id rfl
theorem lN_fill {d : Nat} {h0 : zm_H} {c : Nat → Nat → Nat} {Q : Option Value → zm_H → Prop} {b k : Nat} (hS : zCS h0) (hI : zCI c) (hb : b ≤ 255) (hk : k ≤ 1200) (ht : c 0 1 + k ≤ 1200) (hq : Q (some (.int (nI (c 0 1 + k)))) (zch h0 (zup (zwr c 19 (1200 * 3 + c 0 1) k (fun _ => b)) 0 1 (c 0 1 + k)))) : ∀ (n i : Nat), i + n = k → zm_wp (d + 1) 47 38 [.ref 1, .int (nI b), .int (nI k), .int (nI i)] [] (zch h0 (zup (zwr c 19 (1200 * 3 + c 0 1) i (fun _ => b)) 0 1 (c 0 1 + i))) Q := by
  intro n
  induction n with
  | zero =>
    intro i hi
    have hb1 : c 0 1 ≤ 1200 := hI 0 1
    refine wx_iload_n kc47_38 rfl rfl ?_
    refine wx_iload_n kc47_39 rfl rfl ?_
    refine wn_icmp_ge kc47_40 (by omega) (by omega) (fun hq40 => ?_) (fun hq40 => ?_)
    · skip
      refine wx_aload_n kc47_58 rfl rfl ?_
      refine wc_get 1 6 (.ref 2) hS kc47_59 rfl rfl rfl rfl ?_
      obtain rfl : i = k := by omega
      refine wc_get 2 2 (.int (nI (c 0 1 + i))) hS kc47_62 rfl rfl rfl rfl ?_
      refine wx_ireturn kc47_65 rfl rfl ?_
      exact hq
    · skip
      exact absurd hq40 (by omega)
  | succ n ih =>
    intro i hi
    have hb1 : c 0 1 ≤ 1200 := hI 0 1
    refine wx_iload_n kc47_38 rfl rfl ?_
    refine wx_iload_n kc47_39 rfl rfl ?_
    refine wn_icmp_ge kc47_40 (by omega) (by omega) (fun hq40 => ?_) (fun hq40 => ?_)
    · skip
      exact absurd hq40 (by omega)
    · skip
      refine wx_aload_n kc47_43 rfl rfl ?_
      refine wc_get 1 6 (.ref 2) hS kc47_44 rfl rfl rfl rfl ?_
      refine wx_iload_n kc47_47 rfl rfl ?_
      refine wx_i2b kc47_48 ?_
      have hI2 : zCI (zup (zwr c 19 (1200 * 3 + c 0 1) i (fun _ => b)) 0 1 (c 0 1 + i)) := zCI_up (zCI_wr hI (fun j _ => show b ≤ 255 by omega)) (show c 0 1 + i ≤ 1200 by omega)
      refine wc_call hS kc47_49 rfl rfl rfl rfl rfl ?_
      refine cT_append (v := b) hS hI2 (zsg_ii b) (show c 0 1 + i < 1200 by omega) ?_
      show zm_wp _ _ 52 _ _ (zch h0 (zup (zup (zup (zwr c 19 (1200 * 3 + c 0 1) i (fun _ => b)) 0 1 (c 0 1 + i)) 19 (1200 * 3 + (c 0 1 + i)) b) 0 1 (c 0 1 + i + 1))) _
      rw [zap_s c (c 0 1) i rfl]
      refine wn_iinc (i + 1) (ls' := [.ref 1, .int (nI b), .int (nI k), .int (nI (i + 1))]) kc47_52 rfl rfl rfl rfl rfl ?_
      refine wx_goto kc47_55 ?_
      exact ih (i + 1) (by omega)
theorem fN_fill {d : Nat} {h0 : zm_H} {c : Nat → Nat → Nat} {Q : Option Value → zm_H → Prop} {s : Nat → Nat → Nat} {x y : Int32}  (h : zIV h0 c s) (hbad : (∀ k b : Nat, b ≤ 255 → 1 ≤ k → k ≤ 1200 → s 0 1 + k ≤ 1200 → ¬ (x = nI b ∧ y = nI k)) → Q (some (.int (-1))) (zch h0 c)) (hgood : ∀ k b : Nat, b ≤ 255 → k ≤ 1200 → 1 ≤ k → k ≤ 1200 → s 0 1 + k ≤ 1200 → x = nI b → y = nI k → Q (some (.int (nI (s 0 1 + k)))) (zch h0 (zup (zwr c 19 (1200 * 3 + s 0 1) k (fun _ => b)) 0 1 (s 0 1 + k)))) : zm_wc (d + 2) mN_fill [.ref 1, .int x, .int y] (zch h0 c) Q := by
  refine zm_enter2 (zfl_cons rfl (zfl_cons rfl (zfl_cons rfl zfl_nil))) rfl ?_
  show zm_wp _ 47 0 [.ref 1, .int x, .int y, zm_un] [] (zch h0 c) Q
  obtain ⟨hS, hI, hM, hR, hV, hA⟩ := id h
  have hT : s 0 1 = c 0 1 := hR.1.2.1
  have hT2 : c 0 1 ≤ 1200 := hI 0 1
  rw [hT] at hbad hgood
  refine wx_iload_n kc47_0 rfl rfl ?_
  refine wx_if_lt kc47_1 (fun hq1 => ?_) (fun hq1 => ?_)
  · skip
    refine wx_iconst (-1) kc47_34 (by decide) ?_
    refine wx_ireturn kc47_35 rfl rfl ?_
    refine hbad (fun k b h1 h2 h3 h4 hh => ?_)
    obtain ⟨rfl, rfl⟩ := hh
    first | exact absurd hq1 (nI_pos (by omega)) | exact absurd ((nI_ltI (by omega) (by omega)).mp hq8) (by omega) | exact absurd ((nI_ltI (by omega) (by omega)).mp hq13) (by omega) | exact absurd ((nI_ltI (by omega) (by omega)).mp hq20) (by omega) | exact absurd ((nI_ltI (by omega) (by omega)).mp hsp) (by omega)
  · skip
    refine wx_iload_n kc47_4 rfl rfl ?_
    refine wx_sipush (nI 255) kc47_5 (by decide) ?_
    refine wx_icmp_gt kc47_8 (fun hq8 => ?_) (fun hq8 => ?_)
    · skip
      refine wx_iconst (-1) kc47_34 (by decide) ?_
      refine wx_ireturn kc47_35 rfl rfl ?_
      refine hbad (fun k b h1 h2 h3 h4 hh => ?_)
      obtain ⟨rfl, rfl⟩ := hh
      first | exact absurd hq1 (nI_pos (by omega)) | exact absurd ((nI_ltI (by omega) (by omega)).mp hq8) (by omega) | exact absurd ((nI_ltI (by omega) (by omega)).mp hq13) (by omega) | exact absurd ((nI_ltI (by omega) (by omega)).mp hq20) (by omega) | exact absurd ((nI_ltI (by omega) (by omega)).mp hsp) (by omega)
    · skip
      refine wx_iload_n kc47_11 rfl rfl ?_
      refine wx_iconst (nI 1) kc47_12 (by decide) ?_
      refine wx_icmp_lt kc47_13 (fun hq13 => ?_) (fun hq13 => ?_)
      · skip
        refine wx_iconst (-1) kc47_34 (by decide) ?_
        refine wx_ireturn kc47_35 rfl rfl ?_
        refine hbad (fun k b h1 h2 h3 h4 hh => ?_)
        obtain ⟨rfl, rfl⟩ := hh
        first | exact absurd hq1 (nI_pos (by omega)) | exact absurd ((nI_ltI (by omega) (by omega)).mp hq8) (by omega) | exact absurd ((nI_ltI (by omega) (by omega)).mp hq13) (by omega) | exact absurd ((nI_ltI (by omega) (by omega)).mp hq20) (by omega) | exact absurd ((nI_ltI (by omega) (by omega)).mp hsp) (by omega)
      · skip
        refine wx_iload_n kc47_16 rfl rfl ?_
        refine wx_sipush (nI 1200) kc47_17 (by decide) ?_
        refine wx_icmp_gt kc47_20 (fun hq20 => ?_) (fun hq20 => ?_)
        · skip
          refine wx_iconst (-1) kc47_34 (by decide) ?_
          refine wx_ireturn kc47_35 rfl rfl ?_
          refine hbad (fun k b h1 h2 h3 h4 hh => ?_)
          obtain ⟨rfl, rfl⟩ := hh
          first | exact absurd hq1 (nI_pos (by omega)) | exact absurd ((nI_ltI (by omega) (by omega)).mp hq8) (by omega) | exact absurd ((nI_ltI (by omega) (by omega)).mp hq13) (by omega) | exact absurd ((nI_ltI (by omega) (by omega)).mp hq20) (by omega) | exact absurd ((nI_ltI (by omega) (by omega)).mp hsp) (by omega)
        · skip
          refine wx_aload_n kc47_23 rfl rfl ?_
          refine wc_get 1 6 (.ref 2) hS kc47_24 rfl rfl rfl rfl ?_
          refine wx_iload_n kc47_27 rfl rfl ?_
          refine wc_call hS kc47_28 rfl rfl rfl rfl rfl ?_
          refine cT_hasSpaceFor hS hI (fun hsp => ?_) (fun hsp => ?_)
          · skip
            show zm_wp _ 47 31 [.ref 1, .int x, .int y, zm_un] [.int (nI 0)] (zch h0 c) _
            refine wn_if_ne kc47_31 (by decide) (fun z => absurd z (by decide)) (fun _ => ?_)
            refine wx_iconst (-1) kc47_34 (by decide) ?_
            refine wx_ireturn kc47_35 rfl rfl ?_
            refine hbad (fun k b h1 h2 h3 h4 hh => ?_)
            obtain ⟨rfl, rfl⟩ := hh
            first | exact absurd hq1 (nI_pos (by omega)) | exact absurd ((nI_ltI (by omega) (by omega)).mp hq8) (by omega) | exact absurd ((nI_ltI (by omega) (by omega)).mp hq13) (by omega) | exact absurd ((nI_ltI (by omega) (by omega)).mp hq20) (by omega) | exact absurd ((nI_ltI (by omega) (by omega)).mp hsp) (by omega)
          · skip
            show zm_wp _ 47 31 [.ref 1, .int x, .int y, zm_un] [.int (nI 1)] (zch h0 c) _
            refine wn_if_ne kc47_31 (by decide) (fun _ => ?_) (fun z => absurd z (by decide))
            obtain ⟨k, hk1, hk2, rfl⟩ := zi_of 1 1200 (by decide) (by decide) hq13 hq20
            obtain ⟨b, hb1, hb2, rfl⟩ := zi_of 0 255 (by decide) (by decide) hq1 hq8
            have ht : c 0 1 + k ≤ 1200 := by
              have h9 : ¬ 1200 - c 0 1 < k := fun z => hsp ((nI_ltI (by omega) (by omega)).mpr z)
              omega
            have hw := hgood k b (by omega) (by omega) hk1 hk2 ht rfl rfl
            refine wx_iconst (nI 0) kc47_36 (by decide) ?_
            refine wx_istore_n (ls' := [.ref 1, .int (nI b), .int (nI k), .int (nI 0)]) kc47_37 rfl rfl rfl rfl ?_
            rw [← zap_0 c (fun _ => b)]
            exact lN_fill hS hI (by omega) (by omega) ht hw k 0 (by omega)
theorem lN_type {d : Nat} {h0 : zm_H} {c : Nat → Nat → Nat} {Q : Option Value → zm_H → Prop} {a : Int64} {k : Nat} (hS : zCS h0) (hI : zCI c) (hk : k ≤ 8) (ht : c 0 1 + k ≤ 1200) (hq : Q (some (.int (nI (c 0 1 + k)))) (zch h0 (zup (zwr c 19 (1200 * 3 + c 0 1) k (fun i => zby a (k - 1 - i))) 0 1 (c 0 1 + k)))) : ∀ (m i : Nat), i + m = k → zm_wp (d + 1) 46 29 [.ref 1, .long a, zm_un, .int (nI k), .int (zpm m)] [] (zch h0 (zup (zwr c 19 (1200 * 3 + c 0 1) i (fun i => zby a (k - 1 - i))) 0 1 (c 0 1 + i))) Q := by
  intro m
  induction m with
  | zero =>
    intro i hi
    have hb1 : c 0 1 ≤ 1200 := hI 0 1
    show zm_wp _ 46 29 [.ref 1, .long a, zm_un, .int (nI k), .int (-1)] [] (zch h0 (zup (zwr c 19 (1200 * 3 + c 0 1) i (fun i => zby a (k - 1 - i))) 0 1 (c 0 1 + i))) _
    refine wx_iload kc46_29 rfl rfl ?_
    refine wx_if_lt kc46_31 (fun hq31 => ?_) (fun hq31 => ?_)
    · skip
      refine wx_aload_n kc46_56 rfl rfl ?_
      refine wc_get 1 6 (.ref 2) hS kc46_57 rfl rfl rfl rfl ?_
      obtain rfl : i = k := by omega
      refine wc_get 2 2 (.int (nI (c 0 1 + i))) hS kc46_60 rfl rfl rfl rfl ?_
      refine wx_ireturn kc46_63 rfl rfl ?_
      exact hq
    · skip
      exact absurd (by decide) hq31
  | succ m ih =>
    intro i hi
    have hb1 : c 0 1 ≤ 1200 := hI 0 1
    show zm_wp _ 46 29 [.ref 1, .long a, zm_un, .int (nI k), .int (nI m)] [] (zch h0 (zup (zwr c 19 (1200 * 3 + c 0 1) i (fun i => zby a (k - 1 - i))) 0 1 (c 0 1 + i))) _
    refine wx_iload kc46_29 rfl rfl ?_
    refine wn_if_lt kc46_31 (by omega) ?_
    refine wx_aload_n kc46_34 rfl rfl ?_
    refine wc_get 1 6 (.ref 2) hS kc46_35 rfl rfl rfl rfl ?_
    refine wx_lload_n kc46_38 rfl rfl ?_
    refine wx_bipush (nI 8) kc46_39 (by decide) ?_
    refine wx_iload kc46_41 rfl rfl ?_
    refine wn_imul (8 * m) kc46_43 rfl ?_
    refine wx_lushr kc46_44 ?_
    refine wx_l2i kc46_45 ?_
    refine wx_i2b kc46_46 ?_
    have hI2 : zCI (zup (zwr c 19 (1200 * 3 + c 0 1) i (fun i => zby a (k - 1 - i))) 0 1 (c 0 1 + i)) := zCI_up (zCI_wr hI (fun j _ => show zby a (k - 1 - j) ≤ 255 from Nat.le_of_lt_succ (zby_lt a _))) (show c 0 1 + i ≤ 1200 by omega)
    refine wc_call hS kc46_47 rfl rfl rfl rfl rfl ?_
    refine cT_append (v := zby a m) hS hI2 (zsh_v a (by omega)) (show c 0 1 + i < 1200 by omega) ?_
    show zm_wp _ _ 50 _ _ (zch h0 (zup (zup (zup (zwr c 19 (1200 * 3 + c 0 1) i (fun i => zby a (k - 1 - i))) 0 1 (c 0 1 + i)) 19 (1200 * 3 + (c 0 1 + i)) (zby a m)) 0 1 (c 0 1 + i + 1))) _
    rw [zap_s c (c 0 1) i (show zby a (k - 1 - i) = zby a m by congr 1; omega)]
    refine wx_iinc (z' := zpm m) (ls' := [.ref 1, .long a, zm_un, .int (nI k), .int (zpm m)]) kc46_50 rfl rfl rfl (zpm_dec m) rfl ?_
    refine wx_goto kc46_53 ?_
    exact ih (i + 1) (by omega)
theorem fN_type {d : Nat} {h0 : zm_H} {c : Nat → Nat → Nat} {Q : Option Value → zm_H → Prop} {s : Nat → Nat → Nat} {a : Int64} {y : Int32}  (h : zIV h0 c s) (hbad : (∀ k : Nat, 1 ≤ k → k ≤ 8 → s 0 1 + k ≤ 1200 → ¬ (y = nI k)) → Q (some (.int (-1))) (zch h0 c)) (hgood : ∀ k : Nat, 1 ≤ k → k ≤ 8 → s 0 1 + k ≤ 1200 → y = nI k → Q (some (.int (nI (s 0 1 + k)))) (zch h0 (zup (zwr c 19 (1200 * 3 + s 0 1) k (fun i => zby a (k - 1 - i))) 0 1 (s 0 1 + k)))) : zm_wc (d + 2) mN_type [.ref 1, .long a, .int y] (zch h0 c) Q := by
  refine zm_enter (Nat.le_of_ble_eq_true rfl) ?_
  show zm_wp _ 46 0 [.ref 1, .long a, zm_un, .int y, zm_un] [] (zch h0 c) Q
  obtain ⟨hS, hI, hM, hR, hV, hA⟩ := id h
  have hT : s 0 1 = c 0 1 := hR.1.2.1
  have hT2 : c 0 1 ≤ 1200 := hI 0 1
  rw [hT] at hbad hgood
  refine wx_iload_n kc46_0 rfl rfl ?_
  refine wx_iconst (nI 1) kc46_1 (by decide) ?_
  refine wx_icmp_lt kc46_2 (fun hq2 => ?_) (fun hq2 => ?_)
  · skip
    refine wx_iconst (-1) kc46_22 (by decide) ?_
    refine wx_ireturn kc46_23 rfl rfl ?_
    refine hbad (fun k h1 h2 h3 hh => ?_)
    obtain ⟨rfl⟩ := hh
    first | exact absurd ((nI_ltI (by omega) (by omega)).mp hq2) (by omega) | exact absurd ((nI_ltI (by omega) (by omega)).mp hq8) (by omega) | exact absurd ((nI_ltI (by omega) (by omega)).mp hsp) (by omega)
  · skip
    refine wx_iload_n kc46_5 rfl rfl ?_
    refine wx_bipush (nI 8) kc46_6 (by decide) ?_
    refine wx_icmp_gt kc46_8 (fun hq8 => ?_) (fun hq8 => ?_)
    · skip
      refine wx_iconst (-1) kc46_22 (by decide) ?_
      refine wx_ireturn kc46_23 rfl rfl ?_
      refine hbad (fun k h1 h2 h3 hh => ?_)
      obtain ⟨rfl⟩ := hh
      first | exact absurd ((nI_ltI (by omega) (by omega)).mp hq2) (by omega) | exact absurd ((nI_ltI (by omega) (by omega)).mp hq8) (by omega) | exact absurd ((nI_ltI (by omega) (by omega)).mp hsp) (by omega)
    · skip
      refine wx_aload_n kc46_11 rfl rfl ?_
      refine wc_get 1 6 (.ref 2) hS kc46_12 rfl rfl rfl rfl ?_
      refine wx_iload_n kc46_15 rfl rfl ?_
      refine wc_call hS kc46_16 rfl rfl rfl rfl rfl ?_
      refine cT_hasSpaceFor hS hI (fun hsp => ?_) (fun hsp => ?_)
      · skip
        show zm_wp _ 46 19 [.ref 1, .long a, zm_un, .int y, zm_un] [.int (nI 0)] (zch h0 c) _
        refine wn_if_ne kc46_19 (by decide) (fun z => absurd z (by decide)) (fun _ => ?_)
        refine wx_iconst (-1) kc46_22 (by decide) ?_
        refine wx_ireturn kc46_23 rfl rfl ?_
        refine hbad (fun k h1 h2 h3 hh => ?_)
        obtain ⟨rfl⟩ := hh
        first | exact absurd ((nI_ltI (by omega) (by omega)).mp hq2) (by omega) | exact absurd ((nI_ltI (by omega) (by omega)).mp hq8) (by omega) | exact absurd ((nI_ltI (by omega) (by omega)).mp hsp) (by omega)
      · skip
        show zm_wp _ 46 19 [.ref 1, .long a, zm_un, .int y, zm_un] [.int (nI 1)] (zch h0 c) _
        refine wn_if_ne kc46_19 (by decide) (fun _ => ?_) (fun z => absurd z (by decide))
        obtain ⟨k, hk1, hk2, rfl⟩ := zi_of 1 8 (by decide) (by decide) hq2 hq8
        have ht : c 0 1 + k ≤ 1200 := by
          have h9 : ¬ 1200 - c 0 1 < k := fun z => hsp ((nI_ltI (by omega) (by omega)).mpr z)
          omega
        have hw := hgood k hk1 hk2 ht rfl
        refine wx_iload_n kc46_24 rfl rfl ?_
        refine wx_iconst (nI 1) kc46_25 (by decide) ?_
        refine wn_isub (k - 1) kc46_26 (by omega) ?_
        refine wx_istore (ls' := [.ref 1, .long a, zm_un, .int (nI k), .int (nI (k - 1))]) kc46_27 rfl rfl rfl rfl ?_
        have e9 : nI (k - 1) = zpm k := by
          cases k with
          | zero => omega
          | succ k => rfl
        rw [e9, ← zap_0 c (fun i => zby a (k - 1 - i))]
        exact lN_type hS hI (by omega) ht hw k 0 (by omega)
theorem fN_room {d : Nat} {h0 : zm_H} {c : Nat → Nat → Nat} {Q : Option Value → zm_H → Prop} {s : Nat → Nat → Nat} {x : Int32}  (h : zIV h0 c s) (hgood : ∀ k : Nat, zmat s ≤ k → k ≤ 200 → x = nI k → Q (some (.int (nI (k - zmat s)))) (zch h0 (zup c 0 0 k))) (hbad : (∀ k : Nat, zmat s ≤ k → k ≤ 200 → ¬ x = nI k) → Q (some (.int (-1))) (zch h0 c)) : zm_wc (d + 4) mN_room [.ref 1, .int x] (zch h0 c) Q := by
  refine zm_enter2 (zfl_cons rfl (zfl_cons rfl zfl_nil)) rfl ?_
  show zm_wp _ 48 0 [.ref 1, .int x, zm_un] [] (zch h0 c) Q
  obtain ⟨hS, hI, hM, hR, hV, hA⟩ := id h
  have htk := zctk_t h
  have hm2 := zctk_le hI
  have hm3 : zmat s ≤ 2400 := by omega
  refine wx_aload_n kc48_0 rfl rfl ?_
  refine wc_get 1 6 (.ref 4) hS kc48_1 rfl rfl rfl rfl ?_
  refine wc_call hS kc48_4 rfl rfl rfl rfl rfl ?_
  refine cL_taken hS hI ?_
  show zm_wp _ _ 7 _ [.int (nI (zctk c))] _ _
  rw [htk]
  show zm_wp _ 48 7 [.ref 1, .int x, zm_un] [.int (nI (zmat s))] (zch h0 c) _
  refine wx_istore_n (ls' := [.ref 1, .int x, .int (nI (zmat s))]) kc48_7 rfl rfl rfl rfl ?_
  refine wx_iload_n kc48_8 rfl rfl ?_
  refine wx_sipush (nI 200) kc48_9 (by decide) ?_
  refine wx_icmp_gt kc48_12 (fun hq12 => ?_) (fun hq12 => ?_)
  · skip
    refine wx_iconst (-1) kc48_20 (by decide) ?_
    refine wx_ireturn kc48_21 rfl rfl ?_
    refine hbad (fun k h1 h2 hh => ?_)
    subst hh
    first | exact absurd ((nI_ltI (by omega) (by omega)).mp hq12) (by omega) | exact absurd ((nI_leI (by omega) (by omega)).mpr h1) hq17
  · skip
    refine wx_iload_n kc48_15 rfl rfl ?_
    refine wx_iload_n kc48_16 rfl rfl ?_
    refine wx_icmp_ge kc48_17 (fun hq17 => ?_) (fun hq17 => ?_)
    · skip
      obtain ⟨k, hk1, hk2, rfl⟩ := zi_of (zmat s) 200 (by omega) (by decide) (fun z => absurd hq17 (Int32.not_le.mpr z)) hq12
      refine wx_aload_n kc48_22 rfl rfl ?_
      refine wx_iload_n kc48_23 rfl rfl ?_
      refine wc_put (v := k) 1 6 0 hS kc48_24 rfl rfl rfl rfl rfl rfl ?_
      refine wx_iload_n kc48_27 rfl rfl ?_
      refine wx_iload_n kc48_28 rfl rfl ?_
      refine wn_isub (k - (zmat s)) kc48_29 (by omega) ?_
      refine wx_ireturn kc48_30 rfl rfl ?_
      exact hgood k hk1 hk2 rfl
    · skip
      refine wx_iconst (-1) kc48_20 (by decide) ?_
      refine wx_ireturn kc48_21 rfl rfl ?_
      refine hbad (fun k h1 h2 hh => ?_)
      subst hh
      first | exact absurd ((nI_ltI (by omega) (by omega)).mp hq12) (by omega) | exact absurd ((nI_leI (by omega) (by omega)).mpr h1) hq17
theorem fN_release {d : Nat} {h0 : zm_H} {c : Nat → Nat → Nat} {Q : Option Value → zm_H → Prop} {s : Nat → Nat → Nat} {x : Int32}  (h : zIV h0 c s) (hgood : ∀ f : Nat, 1 ≤ f → f ≤ 40 → 0 < s 3 f → 0 < s 5 f → x = nI f → Q (some (.int (nI (zmno s f (s 0 10))))) (zch h0 (zgu (zup c 4 f (s 5 f - 1)) f))) (hbad : (∀ f : Nat, 1 ≤ f → f ≤ 40 → 0 < s 3 f → 0 < s 5 f → ¬ x = nI f) → Q (some (.int (-1))) (zch h0 c)) : zm_wc (d + 3) mN_release [.ref 1, .int x] (zch h0 c) Q := by
  refine zm_enter2 (zfl_cons rfl (zfl_cons rfl zfl_nil)) rfl ?_
  show zm_wp _ 57 0 [.ref 1, .int x, zm_un, zm_un] [] (zch h0 c) Q
  obtain ⟨hS, hI, hM, hR, hV, hA⟩ := id h
  have hK : ∀ f, f ≤ 40 → c 2 f = s 3 f := hR.2.2.1
  refine wx_aload_n kc57_0 rfl rfl ?_
  refine wc_get 1 6 (.ref 4) hS kc57_1 rfl rfl rfl rfl ?_
  refine wx_iload_n kc57_4 rfl rfl ?_
  refine wc_call hS kc57_5 rfl rfl rfl rfl rfl ?_
  refine cL_at hS hI (fun f f1 f2 f3 he => ?_) (fun hno => ?_)
  · skip
    subst he
    have hsk : s 3 f ≠ 0 := by rw [← hK f f2]; exact f3
    have hF := zRF_of h f1 f2 hsk
    show zm_wp _ 57 8 [.ref 1, .int (nI f), zm_un, zm_un] [zrF f] (zch h0 c) _
    refine wx_astore_n (ls' := [.ref 1, .int (nI f), zrF f, zm_un]) kc57_8 (zrF_k _) rfl rfl rfl ?_
    refine wx_aload_n kc57_9 rfl (zrF_k _) ?_
    refine wcF_null kc57_10 (fun z => absurd z (by omega)) (fun _ => ?_)
    refine wx_aload_n kc57_13 rfl (zrF_k _) ?_
    refine wcF_get (.int (nI (c 4 f))) hS kc57_14 (by omega) (by omega) rfl ?_
    have hb17_1 : c 4 f ≤ 100 := hI 4 f
    refine wx_iconst (nI 1) kc57_17 (by decide) ?_
    refine wn_icmp_ge kc57_18 (by omega) (by decide) (fun hq18 => ?_) (fun hq18 => ?_)
    · skip
      refine wx_aload_n kc57_23 rfl (zrF_k _) ?_
      refine wx_dup kc57_24 (zrF_c1 _) ?_
      refine wcF_get (.int (nI (c 4 f))) hS kc57_25 (by omega) (by omega) rfl ?_
      have hb28_2 : c 4 f ≤ 100 := hI 4 f
      refine wx_iconst (nI 1) kc57_28 (by decide) ?_
      refine wn_isub ((c 4 f) - 1) kc57_29 (by omega) ?_
      refine wcF_put (v := ((c 4 f) - 1)) 4 hS kc57_30 (by omega) (by omega) rfl rfl rfl ?_
      refine wx_aload_n kc57_33 rfl (zrF_k _) ?_
      refine wcF_get (.int (nI (c 3 f))) hS kc57_34 (by omega) (by omega) rfl ?_
      have hb37_3 : c 3 f ≤ 60 := hI 3 f
      refine wx_istore_n (ls' := [.ref 1, .int (nI f), zrF f, .int (nI (c 3 f))]) kc57_37 rfl rfl (zrF_c1 _) rfl ?_
      refine wx_aload_n kc57_38 rfl (zrF_k _) ?_
      show zm_wp _ 57 39 [.ref 1, .int (nI f), zrF f, .int (nI (c 3 f))] [zrF f] (zch h0 (zup c 4 f ((c 4 f) - 1))) _
      have hI4 : zCI (zup c 4 f (c 4 f - 1)) := zCI_up hI (Nat.le_trans (Nat.sub_le _ _) (hI 4 f))
      refine wcF_call hS kc57_39 rfl rfl (by omega) (by omega) rfl ?_
      refine cF_goIfUnused hS hI4 f1 f2 ?_
      show zm_wp _ 57 42 [.ref 1, .int (nI f), zrF f, .int (nI (c 3 f))] [] (zch h0 (zgu (zup c 4 f (c 4 f - 1)) f)) _
      refine wx_iload_n kc57_42 rfl rfl ?_
      refine wx_ireturn kc57_43 rfl rfl ?_
      have k := hgood f f1 f2 (by omega) (by have := hF.2.1; omega) rfl
      rw [← hF.1, ← hF.2.1] at k
      exact k
    · skip
      refine wx_iconst (-1) kc57_21 (by decide) ?_
      refine wx_ireturn kc57_22 rfl rfl ?_
      refine hbad (fun g g1 g2 g3 g4 hh => ?_)
      first
      | exact hno2 g g1 g2 g3 hh
      | (have hgf := (nI_eq (by omega) (by omega)).mp hh
         subst hgf
         have := hF.2.1
         omega)
  · skip
    have hno2 : ∀ f : Nat, 1 ≤ f → f ≤ 40 → 0 < s 3 f → ¬ x = nI f := fun f f1 f2 f3 => hno f f1 f2 (by rw [hK f f2]; omega)
    show zm_wp _ 57 8 [.ref 1, .int x, zm_un, zm_un] [.null] (zch h0 c) _
    refine wx_astore_n (ls' := [.ref 1, .int x, .null, zm_un]) kc57_8 rfl rfl rfl rfl ?_
    refine wx_aload_n kc57_9 rfl rfl ?_
    refine wx_ifnullN kc57_10 ?_
    refine wx_iconst (-1) kc57_21 (by decide) ?_
    refine wx_ireturn kc57_22 rfl rfl ?_
    refine hbad (fun g g1 g2 g3 g4 hh => ?_)
    first
    | exact hno2 g g1 g2 g3 hh
    | (have hgf := (nI_eq (by omega) (by omega)).mp hh
       subst hgf
       have := hF.2.1
       omega)
theorem fN_targetByte {d : Nat} {h0 : zm_H} {c : Nat → Nat → Nat} {Q : Option Value → zm_H → Prop} {s : Nat → Nat → Nat} {x y : Int32}  (h : zIV h0 c s) (hgood : ∀ f i : Nat, 1 ≤ f → f ≤ 40 → s 3 f = 3 → i < s 6 f → x = nI f → y = nI i → Q (some (.int (nI (s 7 (1000 * f + i))))) (zch h0 c)) (hbad : (∀ f i : Nat, 1 ≤ f → f ≤ 40 → s 3 f = 3 → i < s 6 f → ¬ (x = nI f ∧ y = nI i)) → Q (some (.int (-1))) (zch h0 c)) : zm_wc (d + 2) mN_targetByte [.ref 1, .int x, .int y] (zch h0 c) Q := by
  refine zm_enter2 (zfl_cons rfl (zfl_cons rfl (zfl_cons rfl zfl_nil))) rfl ?_
  show zm_wp _ 59 0 [.ref 1, .int x, .int y, zm_un] [] (zch h0 c) Q
  obtain ⟨hS, hI, hM, hR, hV, hA⟩ := id h
  have hK : ∀ f, f ≤ 40 → c 2 f = s 3 f := hR.2.2.1
  refine wx_aload_n kc59_0 rfl rfl ?_
  refine wc_get 1 6 (.ref 4) hS kc59_1 rfl rfl rfl rfl ?_
  refine wx_iload_n kc59_4 rfl rfl ?_
  refine wc_call hS kc59_5 rfl rfl rfl rfl rfl ?_
  refine cL_at hS hI (fun f f1 f2 f3 he => ?_) (fun hno => ?_)
  · skip
    subst he
    have hsk : s 3 f ≠ 0 := by rw [← hK f f2]; exact f3
    have hF := zRF_of h f1 f2 hsk
    show zm_wp _ 59 8 [.ref 1, .int (nI f), .int y, zm_un] [zrF f] (zch h0 c) _
    refine wx_astore_n (ls' := [.ref 1, .int (nI f), .int y, zrF f]) kc59_8 (zrF_k _) rfl rfl rfl ?_
    refine wx_aload_n kc59_9 rfl (zrF_k _) ?_
    refine wcF_nnull kc59_10 (fun _ => ?_) (fun z => absurd z (by omega))
    refine wx_aload_n kc59_17 rfl (zrF_k _) ?_
    refine wx_iload_n kc59_18 rfl rfl ?_
    refine wcF_call hS kc59_19 rfl rfl (by omega) (by omega) rfl ?_
    refine cF_byteOfTarget hS hI f1 f2 (fun z => hA.1 f z) (fun i b1 b2 b3 b4 => ?_) (fun b1 => ?_)
    · skip
      have hk3 : s 3 f = 3 := by rw [← hK f f2]; exact b1
      obtain ⟨t1, t2, t3⟩ := hR.2.2.2.2.2.1 f f2 hk3
      have hg := hgood f i f1 f2 hk3 (by omega) rfl b4
      rw [← t3 i (by omega)] at hg
      show zm_wp _ 59 22 [.ref 1, .int (nI f), .int y, zrF f] [.int (nI (c 19 (1200 * c 8 f + i)))] (zch h0 c) _
      refine wx_ireturn kc59_22 rfl rfl ?_
      exact hg
    · skip
      have hb := hbad (fun g i g1 g2 g3 g4 hh => by
        obtain ⟨h1, h2⟩ := hh
        have hgf := (nI_eq (by omega) (by omega)).mp h1
        subst hgf
        obtain ⟨t1, t2, t3⟩ := hR.2.2.2.2.2.1 f f2 g3
        exact b1 i (by rw [hK f f2]; exact g3) (fun z => by have := t1.1; omega) (by omega) h2)
      show zm_wp _ 59 22 [.ref 1, .int (nI f), .int y, zrF f] [.int (-1)] (zch h0 c) _
      refine wx_ireturn kc59_22 rfl rfl ?_
      first | exact hb | exact hbad (fun g i g1 g2 g3 g4 hh => hno2 g g1 g2 (by omega) hh.1)
  · skip
    have hno2 : ∀ f : Nat, 1 ≤ f → f ≤ 40 → 0 < s 3 f → ¬ x = nI f := fun f f1 f2 f3 => hno f f1 f2 (by rw [hK f f2]; omega)
    show zm_wp _ 59 8 [.ref 1, .int x, .int y, zm_un] [.null] (zch h0 c) _
    refine wx_astore_n (ls' := [.ref 1, .int x, .int y, .null]) kc59_8 rfl rfl rfl rfl ?_
    refine wx_aload_n kc59_9 rfl rfl ?_
    refine wx_ifnonnullN kc59_10 ?_
    refine wx_iconst (-1) kc59_13 (by decide) ?_
    refine wx_goto kc59_14 ?_
    refine wx_ireturn kc59_22 rfl rfl ?_
    first | exact hb | exact hbad (fun g i g1 g2 g3 g4 hh => hno2 g g1 g2 (by omega) hh.1)
theorem fN_count {d : Nat} {h0 : zm_H} {c : Nat → Nat → Nat} {Q : Option Value → zm_H → Prop} {s : Nat → Nat → Nat} {x : Int32}  (h : zIV h0 c s) (hq : Q (some (.int (zmct s x))) (zch h0 c)) : zm_wc (d + 4) mN_count [.ref 1, .int x] (zch h0 c) Q := by
  refine zm_enter2 (zfl_cons rfl (zfl_cons rfl zfl_nil)) rfl ?_
  show zm_wp _ 60 0 [.ref 1, .int x] [] (zch h0 c) Q
  obtain ⟨hS, hI, hM, hR, hV, hA⟩ := id h
  have htk := zctk_t h
  have hm2 := zctk_le hI
  refine wx_iload_n kc60_0 rfl rfl ?_
  by_cases hs0 : x = nI 0
  · subst hs0
    refine wx_tableswitch (tgt := 32) kc60_1 (by decide) ?_
    show zm_wp _ 60 32 [.ref 1, .int (nI 0)] [] (zch h0 c) _
    refine wx_aload_n kc60_32 rfl rfl ?_
    refine wc_get 1 6 (.ref 4) hS kc60_33 rfl rfl rfl rfl ?_
    refine wc_call hS kc60_36 rfl rfl rfl rfl rfl ?_
    refine cL_present hS hI ?_
    rw [zfc_t h]
    show zm_wp _ 60 39 [.ref 1, .int (nI 0)] [.int (nI (zmfc s))] (zch h0 c) _
    refine wx_ireturn kc60_39 rfl rfl ?_
    exact (show zmct s (nI 0) = nI (zmfc s) from if_pos (by decide)) ▸ hq
  by_cases hs1 : x = nI 1
  · subst hs1
    refine wx_tableswitch (tgt := 40) kc60_1 (by decide) ?_
    show zm_wp _ 60 40 [.ref 1, .int (nI 1)] [] (zch h0 c) _
    refine wx_aload_n kc60_40 rfl rfl ?_
    refine wc_get 1 6 (.ref 46) hS kc60_41 rfl rfl rfl rfl ?_
    refine wc_get 46 2 (.int (nI (c 0 2))) hS kc60_44 rfl rfl rfl rfl ?_
    have hb47_1 : c 0 2 ≤ 60 := hI 0 2
    refine wx_ireturn kc60_47 rfl rfl ?_
    exact (show zmct s (nI 1) = nI (c 0 2) by unfold zmct; rw [if_neg (by decide), if_pos rfl, hR.1.2.2]) ▸ hq
  by_cases hs2 : x = nI 2
  · subst hs2
    refine wx_tableswitch (tgt := 48) kc60_1 (by decide) ?_
    show zm_wp _ 60 48 [.ref 1, .int (nI 2)] [] (zch h0 c) _
    refine wx_aload_n kc60_48 rfl rfl ?_
    refine wc_get 1 6 (.ref 2) hS kc60_49 rfl rfl rfl rfl ?_
    refine wc_get 2 2 (.int (nI (c 0 1))) hS kc60_52 rfl rfl rfl rfl ?_
    have hb55_1 : c 0 1 ≤ 1200 := hI 0 1
    refine wx_ireturn kc60_55 rfl rfl ?_
    exact (show zmct s (nI 2) = nI (c 0 1) by unfold zmct; rw [if_neg (by decide), if_neg (by decide), if_pos rfl, hR.1.2.1]) ▸ hq
  by_cases hs3 : x = nI 3
  · subst hs3
    refine wx_tableswitch (tgt := 56) kc60_1 (by decide) ?_
    show zm_wp _ 60 56 [.ref 1, .int (nI 3)] [] (zch h0 c) _
    refine wx_aload_n kc60_56 rfl rfl ?_
    refine wc_get 1 6 (.ref 4) hS kc60_57 rfl rfl rfl rfl ?_
    refine wc_call hS kc60_60 rfl rfl rfl rfl rfl ?_
    refine cL_taken hS hI ?_
    show zm_wp _ _ 63 _ [.int (nI (zctk c))] _ _
    rw [htk]
    show zm_wp _ 60 63 [.ref 1, .int (nI 3)] [.int (nI (zmat s))] (zch h0 c) _
    refine wx_ireturn kc60_63 rfl rfl ?_
    exact (show zmct s (nI 3) = nI (zmat s) by unfold zmct; rw [if_neg (by decide), if_neg (by decide), if_neg (by decide), if_pos rfl]) ▸ hq
  have ht0 : ¬ ((0 : Int) = x.toInt) := fun z => hs0 (Int32.toInt_inj.mp (by rw [← z]; decide))
  have ht1 : ¬ ((1 : Int) = x.toInt) := fun z => hs1 (Int32.toInt_inj.mp (by rw [← z]; decide))
  have ht2 : ¬ ((2 : Int) = x.toInt) := fun z => hs2 (Int32.toInt_inj.mp (by rw [← z]; decide))
  have ht3 : ¬ ((3 : Int) = x.toInt) := fun z => hs3 (Int32.toInt_inj.mp (by rw [← z]; decide))
  refine wx_tableswitch (tgt := 64) kc60_1 (by simp only [zm_sw, ht0, ht1, ht2, ht3, if_false]) ?_
  show zm_wp _ 60 64 [.ref 1, .int x] [] (zch h0 c) _
  refine wx_iconst (-1) kc60_64 (by decide) ?_
  refine wx_ireturn kc60_65 rfl rfl ?_
  exact (show zmct s x = -1 by unfold zmct; rw [if_neg (by rw [← nI_0]; exact hs0), if_neg hs1, if_neg hs2, if_neg hs3]) ▸ hq
theorem fN_about {d : Nat} {h0 : zm_H} {c : Nat → Nat → Nat} {Q : Option Value → zm_H → Prop} {s : Nat → Nat → Nat} {x y : Int32}  (h : zIV h0 c s) (hgood : ∀ f w : Nat, 1 ≤ f → f ≤ 40 → 0 < s 3 f → w ≤ 4 → x = nI f → y = nI w → Q (some (.int (nI (zmab s f w)))) (zch h0 c)) (hbad : (∀ f w : Nat, 1 ≤ f → f ≤ 40 → 0 < s 3 f → w ≤ 4 → ¬ (x = nI f ∧ y = nI w)) → Q (some (.int (-1))) (zch h0 c)) : zm_wc (d + 3) mN_about [.ref 1, .int x, .int y] (zch h0 c) Q := by
  refine zm_enter2 (zfl_cons rfl (zfl_cons rfl (zfl_cons rfl zfl_nil))) rfl ?_
  show zm_wp _ 58 0 [.ref 1, .int x, .int y, zm_un] [] (zch h0 c) Q
  obtain ⟨hS, hI, hM, hR, hV, hA⟩ := id h
  have hK : ∀ f, f ≤ 40 → c 2 f = s 3 f := hR.2.2.1
  refine wx_aload_n kc58_0 rfl rfl ?_
  refine wc_get 1 6 (.ref 4) hS kc58_1 rfl rfl rfl rfl ?_
  refine wx_iload_n kc58_4 rfl rfl ?_
  refine wc_call hS kc58_5 rfl rfl rfl rfl rfl ?_
  refine cL_at hS hI (fun f f1 f2 f3 he => ?_) (fun hno => ?_)
  · skip
    subst he
    have hsk : s 3 f ≠ 0 := by rw [← hK f f2]; exact f3
    have hF := zRF_of h f1 f2 hsk
    show zm_wp _ 58 8 [.ref 1, .int (nI f), .int y, zm_un] [zrF f] (zch h0 c) _
    refine wx_astore_n (ls' := [.ref 1, .int (nI f), .int y, zrF f]) kc58_8 (zrF_k _) rfl rfl rfl ?_
    refine wx_aload_n kc58_9 rfl (zrF_k _) ?_
    refine wcF_nnull kc58_10 (fun _ => ?_) (fun z => absurd z (by omega))
    refine wx_iload_n kc58_15 rfl rfl ?_
    by_cases hs0 : y = nI 0
    · subst hs0
      refine wx_tableswitch (tgt := 52) kc58_16 (by decide) ?_
      show zm_wp _ 58 52 [.ref 1, .int (nI f), .int (nI 0), zrF f] [] (zch h0 c) _
      refine wx_aload_n kc58_52 rfl (zrF_k _) ?_
      refine wcF_get (.int (nI (c 2 f))) hS kc58_53 (by omega) (by omega) rfl ?_
      have hb56_1 : c 2 f ≤ 3 := hI 2 f
      refine wx_ireturn kc58_56 rfl rfl ?_
      have k := hgood f 0 f1 f2 (by omega) (by decide) rfl rfl
      rw [show zmab s f 0 = c 2 f from (hK f f2).symm] at k
      exact k
    by_cases hs1 : y = nI 1
    · subst hs1
      refine wx_tableswitch (tgt := 57) kc58_16 (by decide) ?_
      show zm_wp _ 58 57 [.ref 1, .int (nI f), .int (nI 1), zrF f] [] (zch h0 c) _
      refine wx_aload_n kc58_57 rfl (zrF_k _) ?_
      refine wcF_get (.int (nI (c 2 f))) hS kc58_58 (by omega) (by omega) rfl ?_
      have hb61_1 : c 2 f ≤ 3 := hI 2 f
      refine wx_iconst (nI 2) kc58_61 (by decide) ?_
      refine wn_icmp_ne kc58_62 (by omega) (by decide) (fun hq62 => ?_) (fun hq62 => ?_)
      · skip
        refine wx_aload_n kc58_78 rfl (zrF_k _) ?_
        refine wcF_get (.int (nI (c 3 f))) hS kc58_79 (by omega) (by omega) rfl ?_
        have hb82_2 : c 3 f ≤ 60 := hI 3 f
        refine wx_ireturn kc58_82 rfl rfl ?_
        have k := hgood f 1 f1 f2 (by omega) (by decide) rfl rfl
        have hk2 : ¬ s 3 f = 2 := by rw [← hK f f2]; omega
        rw [show zmab s f 1 = c 3 f from (if_neg hk2).trans hF.1.symm] at k
        exact k
      · skip
        refine wx_iconst (nI 2) kc58_65 (by decide) ?_
        refine wx_aload_n kc58_66 rfl rfl ?_
        refine wc_get 1 6 (.ref 4) hS kc58_67 rfl rfl rfl rfl ?_
        refine wx_aload_n kc58_70 rfl (zrF_k _) ?_
        refine wc_call hS kc58_71 rfl rfl rfl rfl rfl ?_
        refine cL_foldersIn hS hI ?_
        rw [zfi_t h f1]
        show zm_wp _ 58 74 [.ref 1, .int (nI f), .int (nI 1), zrF f] [.int (nI (zmfi s f (s 0 10))), .int (nI 2)] (zch h0 c) _
        refine wn_iadd (2 + (zmfi s f (s 0 10))) kc58_74 rfl ?_
        refine wx_goto kc58_75 ?_
        refine wx_ireturn kc58_82 rfl rfl ?_
        have k := hgood f 1 f1 f2 (by omega) (by decide) rfl rfl
        have hk2 : s 3 f = 2 := by rw [← hK f f2]; omega
        rw [show zmab s f 1 = 2 + zmfi s f (s 0 10) from if_pos hk2] at k
        exact k
    by_cases hs2 : y = nI 2
    · subst hs2
      refine wx_tableswitch (tgt := 83) kc58_16 (by decide) ?_
      show zm_wp _ 58 83 [.ref 1, .int (nI f), .int (nI 2), zrF f] [] (zch h0 c) _
      refine wx_aload_n kc58_83 rfl (zrF_k _) ?_
      refine wcF_call hS kc58_84 rfl rfl (by omega) (by omega) rfl ?_
      refine cF_size hS hI f1 f2 ?_
      rw [zcz_t h f1 f2 (by omega)]
      show zm_wp _ 58 87 [.ref 1, .int (nI f), .int (nI 2), zrF f] [.int (nI (zmab s f 2))] (zch h0 c) _
      refine wx_ireturn kc58_87 rfl rfl ?_
      have k := hgood f 2 f1 f2 (by omega) (by decide) rfl rfl
      exact k
    by_cases hs3 : y = nI 3
    · subst hs3
      refine wx_tableswitch (tgt := 88) kc58_16 (by decide) ?_
      show zm_wp _ 58 88 [.ref 1, .int (nI f), .int (nI 3), zrF f] [] (zch h0 c) _
      refine wx_aload_n kc58_88 rfl (zrF_k _) ?_
      refine wcF_call hS kc58_89 rfl rfl (by omega) (by omega) rfl ?_
      refine cF_takes hS hI f1 f2 ?_
      rw [zct_t h f1 f2]
      show zm_wp _ 58 92 [.ref 1, .int (nI f), .int (nI 3), zrF f] [.int (nI (zmt s f))] (zch h0 c) _
      refine wx_ireturn kc58_92 rfl rfl ?_
      have k := hgood f 3 f1 f2 (by omega) (by decide) rfl rfl
      rw [show zmab s f 3 = zmt s f from rfl] at k
      exact k
    by_cases hs4 : y = nI 4
    · subst hs4
      refine wx_tableswitch (tgt := 93) kc58_16 (by decide) ?_
      show zm_wp _ 58 93 [.ref 1, .int (nI f), .int (nI 4), zrF f] [] (zch h0 c) _
      refine wx_aload_n kc58_93 rfl (zrF_k _) ?_
      refine wcF_get (zrF (c 7 f)) hS kc58_94 (by omega) (by omega) rfl ?_
      have hb97_1 : c 7 f ≤ 40 := hI 7 f
      refine wcF_nnull kc58_97 (fun hq97 => ?_) (fun hq97 => ?_)
      · skip
        refine wx_aload_n kc58_104 rfl (zrF_k _) ?_
        refine wcF_get (zrF (c 7 f)) hS kc58_105 (by omega) (by omega) rfl ?_
        have hb108_2 : c 7 f ≤ 40 := hI 7 f
        refine wcF_get (.int (nI (c 7 f))) hS kc58_108 (by omega) (by omega) rfl ?_
        refine wx_ireturn kc58_111 rfl rfl ?_
        have k := hgood f 4 f1 f2 (by omega) (by decide) rfl rfl
        rw [show zmab s f 4 = c 7 f from (hR.2.2.2.2.1 f f1 f2).symm] at k
        first | exact k | (rw [show c 7 f = 0 by omega] at k; exact k)
      · skip
        refine wx_iconst (nI 0) kc58_100 (by decide) ?_
        refine wx_goto kc58_101 ?_
        refine wx_ireturn kc58_111 rfl rfl ?_
        have k := hgood f 4 f1 f2 (by omega) (by decide) rfl rfl
        rw [show zmab s f 4 = c 7 f from (hR.2.2.2.2.1 f f1 f2).symm] at k
        first | exact k | (rw [show c 7 f = 0 by omega] at k; exact k)
    have ht0 : ¬ ((0 : Int) = y.toInt) := fun z => hs0 (Int32.toInt_inj.mp (by rw [← z]; decide))
    have ht1 : ¬ ((1 : Int) = y.toInt) := fun z => hs1 (Int32.toInt_inj.mp (by rw [← z]; decide))
    have ht2 : ¬ ((2 : Int) = y.toInt) := fun z => hs2 (Int32.toInt_inj.mp (by rw [← z]; decide))
    have ht3 : ¬ ((3 : Int) = y.toInt) := fun z => hs3 (Int32.toInt_inj.mp (by rw [← z]; decide))
    have ht4 : ¬ ((4 : Int) = y.toInt) := fun z => hs4 (Int32.toInt_inj.mp (by rw [← z]; decide))
    refine wx_tableswitch (tgt := 112) kc58_16 (by simp only [zm_sw, ht0, ht1, ht2, ht3, ht4, if_false]) ?_
    show zm_wp _ 58 112 [.ref 1, .int (nI f), .int y, zrF f] [] (zch h0 c) _
    refine wx_iconst (-1) kc58_112 (by decide) ?_
    refine wx_ireturn kc58_113 rfl rfl ?_
    refine hbad (fun g w g1 g2 g3 g4 hh => ?_)
    obtain ⟨_, h2⟩ := hh
    have hw : w = 0 ∨ w = 1 ∨ w = 2 ∨ w = 3 ∨ w = 4 := by omega
    rcases hw with rfl | rfl | rfl | rfl | rfl
    · exact hs0 h2
    · exact hs1 h2
    · exact hs2 h2
    · exact hs3 h2
    · exact hs4 h2
  · skip
    have hno2 : ∀ f : Nat, 1 ≤ f → f ≤ 40 → 0 < s 3 f → ¬ x = nI f := fun f f1 f2 f3 => hno f f1 f2 (by rw [hK f f2]; omega)
    show zm_wp _ 58 8 [.ref 1, .int x, .int y, zm_un] [.null] (zch h0 c) _
    refine wx_astore_n (ls' := [.ref 1, .int x, .int y, .null]) kc58_8 rfl rfl rfl rfl ?_
    refine wx_aload_n kc58_9 rfl rfl ?_
    refine wx_ifnonnullN kc58_10 ?_
    refine wx_iconst (-1) kc58_13 (by decide) ?_
    refine wx_ireturn kc58_14 rfl rfl ?_
    exact hbad (fun g w g1 g2 g3 g4 hh => hno2 g g1 g2 g3 hh.1)
