def zwr (s : Nat → Nat → Nat) (a lo n : Nat) (g : Nat → Nat) : Nat → Nat → Nat := fun b j => bif Nat.beq b a && (Nat.ble lo j && Nat.blt j (lo + n)) then g (j - lo) else s b j
theorem zwr_in (s : Nat → Nat → Nat) {a lo n j : Nat} (g : Nat → Nat) (h1 : lo ≤ j) (h2 : j < lo + n) : zwr s a lo n g a j = g (j - lo) := by
  unfold zwr
  rw [Nat.beq_refl, Nat.ble_eq_true_of_le h1, Nat.blt_eq.mpr h2]
  rfl
theorem zwr_out (s : Nat → Nat → Nat) {a lo n b j : Nat} (g : Nat → Nat) (h : ¬ (b = a ∧ lo ≤ j ∧ j < lo + n)) : zwr s a lo n g b j = s b j := by
  unfold zwr
  cases hc : (Nat.beq b a && (Nat.ble lo j && Nat.blt j (lo + n))) with
  | false => rfl
  | true =>
    simp only [Bool.and_eq_true] at hc
    exact absurd ⟨Nat.eq_of_beq_eq_true hc.1, Nat.le_of_ble_eq_true hc.2.1, Nat.blt_eq.mp hc.2.2⟩ h
theorem zwr_na (s : Nat → Nat → Nat) {a lo n b j : Nat} (g : Nat → Nat) (h : b ≠ a) : zwr s a lo n g b j = s b j := zwr_out s g (fun z => h z.1)
theorem zwr_0 (s : Nat → Nat → Nat) (a lo : Nat) (g : Nat → Nat) : zwr s a lo 0 g = s := by
  funext b j
  exact zwr_out s g (by omega)
theorem zwr_s (s : Nat → Nat → Nat) (a lo n : Nat) (g : Nat → Nat) : zup (zwr s a lo n g) a (lo + n) (g n) = zwr s a lo (n + 1) g := by
  funext b j
  by_cases h : b = a ∧ j = lo + n
  · obtain ⟨rfl, rfl⟩ := h
    rw [zup_same, zwr_in s g (by omega) (by omega), Nat.add_sub_cancel_left]
  · rw [zup_ne _ _ h]
    by_cases h2 : b = a ∧ lo ≤ j ∧ j < lo + n
    · obtain ⟨rfl, h3, h4⟩ := h2
      rw [zwr_in s g h3 h4, zwr_in s g h3 (by omega)]
    · rw [zwr_out s g h2, zwr_out s g (by
        intro z
        apply h2
        refine ⟨z.1, z.2.1, ?_⟩
        have : j ≠ lo + n := fun e => h ⟨z.1, e⟩
        omega)]
theorem zwr_zup (s : Nat → Nat → Nat) {a lo n b j v : Nat} (g : Nat → Nat) (h : b ≠ a) : zup (zwr s a lo n g) b j v = zwr (zup s b j v) a lo n g := by
  funext c i
  by_cases h1 : c = b ∧ i = j
  · obtain ⟨rfl, rfl⟩ := h1
    rw [zup_same, zwr_na _ g h, zup_same]
  · rw [zup_ne _ _ h1]
    by_cases h2 : c = a ∧ lo ≤ i ∧ i < lo + n
    · obtain ⟨rfl, h3, h4⟩ := h2
      rw [zwr_in _ g h3 h4, zwr_in _ g h3 h4]
    · rw [zwr_out _ g h2, zwr_out _ g h2, zup_ne _ _ h1]
theorem zup_zup (s : Nat → Nat → Nat) (a j v w : Nat) : zup (zup s a j v) a j w = zup s a j w := by
  funext b i
  by_cases h : b = a ∧ i = j
  · obtain ⟨rfl, rfl⟩ := h
    rw [zup_same, zup_same]
  · rw [zup_ne _ _ h, zup_ne _ _ h, zup_ne _ _ h]
theorem zup_cm (s : Nat → Nat → Nat) {a b j i v w : Nat} (h : a ≠ b) : zup (zup s a j v) b i w = zup (zup s b i w) a j v := by
  funext c k
  by_cases h1 : c = a ∧ k = j
  · obtain ⟨rfl, rfl⟩ := h1
    rw [zup_na _ _ h, zup_same, zup_same]
  · rw [zup_ne (zup s b i w) _ h1]
    by_cases h2 : c = b ∧ k = i
    · obtain ⟨rfl, rfl⟩ := h2
      rw [zup_same, zup_same]
    · rw [zup_ne _ _ h2, zup_ne _ _ h1, zup_ne _ _ h2]
theorem zMI_wr {s : Nat → Nat → Nat} (h : zMI s) {a lo n : Nat} {g : Nat → Nat} (hv : ∀ i, i < n → g i ≤ zbd a (lo + i)) : zMI (zwr s a lo n g) := by
  intro b i
  by_cases hb : b = a ∧ lo ≤ i ∧ i < lo + n
  · obtain ⟨rfl, h1, h2⟩ := hb
    rw [zwr_in s g h1 h2]
    have := hv (i - lo) (by omega)
    rw [show lo + (i - lo) = i by omega] at this
    exact this
  · rw [zwr_out s g hb]
    exact h b i
/-- an int32 between two small numbers -/
theorem zi_of {x : Int32} (a b : Nat) (ha : a < 2147483648) (hb : b < 2147483648) (h1 : ¬ x < nI a) (h2 : ¬ nI b < x) : ∃ k : Nat, a ≤ k ∧ k ≤ b ∧ x = nI k := by
  have t1 : (nI b).toInt = b := nI_toInt hb
  have h2' : x.toInt ≤ b := by
    have := Int32.not_lt.mp h2
    have := Int32.le_iff_toInt_le.mp this
    rw [t1] at this
    exact this
  have h1' : (nI a).toInt ≤ x.toInt := Int32.le_iff_toInt_le.mp (Int32.not_lt.mp h1)
  rw [nI_toInt ha] at h1'
  refine ⟨x.toInt.toNat, by omega, by omega, ?_⟩
  apply Int32.toInt_inj.mp
  rw [nI_toInt (by omega)]
  omega
/-- a number, or -1 ahead of the first -/
def zpm : Nat → Int32
  | 0 => -1
  | n + 1 => nI n
theorem zpm_dec : ∀ n, nI n + Int32.ofInt (-1) = zpm n
  | 0 => by decide
  | n + 1 => pk_m1 n
theorem zneg : ((-1 : Int32) < 0) = True := by decide
/-- the byte m of a long, from the right -/
def zby (c : Int64) (m : Nat) : Nat := (c >>> ((nI (8 * m)).toInt64 &&& 63)).toBitVec.toNat % 256
theorem zby_lt (c : Int64) (m : Nat) : zby c m < 256 := Nat.mod_lt _ (by decide)
theorem zand255 (x : Int64) : (x &&& 255).toInt32 = nI (x.toBitVec.toNat % 256) := by
  have e : x &&& 255 = lN (x.toBitVec.toNat % 256) := by
    apply Int64.toBitVec_inj.mp
    apply BitVec.eq_of_toNat_eq
    rw [Int64.toBitVec_and, BitVec.toNat_and]
    have e1 : (255 : Int64).toBitVec.toNat = 2 ^ 8 - 1 := by decide
    have e2 : (lN (x.toBitVec.toNat % 256)).toBitVec.toNat = x.toBitVec.toNat % 256 := by
      show (x.toBitVec.toNat % 256) % 2 ^ 64 = _
      omega
    rw [e1, e2, Nat.and_two_pow_sub_one_eq_mod]
  rw [e, lN_i]
theorem zby_eq (c : Int64) (m : Nat) : (c >>> ((nI (8 * m)).toInt64 &&& 63) &&& 255).toInt32 = nI (zby c m) := zand255 _


theorem lM_fill {d : Nat} {h0 : zm_H} {s : Nat → Nat → Nat} {Q : Option Value → zm_H → Prop} {c k : Nat} (hS : zMS h0) (hB : ∀ a j, s a j < 2147483648) (hc : c < 256) (hk : k ≤ 1200) (ht : s 0 1 + k ≤ 1200) (hq : Q (some (.int (nI (s 0 1 + k)))) (zmh h0 (zup (zwr s 1 (s 0 1) k (fun _ => c)) 0 1 (s 0 1 + k)))) : ∀ (n i : Nat), i + n = k → zm_wp (d + 0) 75 39 [.ref 194, .int (nI c), .int (nI k), .int (nI i)] [] (zmh h0 (zwr s 1 (s 0 1) i (fun _ => c))) Q := by
  intro n
  induction n with
  | zero =>
    intro i hi
    refine wx_iload_n kc75_39 rfl rfl ?_
    refine wx_iload_n kc75_40 rfl rfl ?_
    refine wn_icmp_ge kc75_41 (by omega) (by omega) (fun hq41 => ?_) (fun hq41 => ?_)
    · skip
      refine wx_aload_n kc75_62 rfl rfl ?_
      refine wx_dup kc75_63 rfl ?_
      refine wm_getf (.int (nI (s 0 1))) hS kc75_64 rfl ?_
      have hb67_1 := hB 0 1
      refine wx_iload_n kc75_67 rfl rfl ?_
      refine wn_iadd ((s 0 1) + k) kc75_68 rfl ?_
      refine wm_putf (v := ((s 0 1) + k)) hS kc75_69 rfl rfl ?_
      refine wx_aload_n kc75_72 rfl rfl ?_
      refine wm_getf (.int (nI ((s 0 1) + k))) hS kc75_73 rfl ?_
      refine wx_ireturn kc75_76 rfl rfl ?_
      obtain rfl : i = k := by omega
      exact hq
    · skip
      exact absurd hq41 (by omega)
  | succ n ih =>
    intro i hi
    refine wx_iload_n kc75_39 rfl rfl ?_
    refine wx_iload_n kc75_40 rfl rfl ?_
    refine wn_icmp_ge kc75_41 (by omega) (by omega) (fun hq41 => ?_) (fun hq41 => ?_)
    · skip
      refine wx_aload_n kc75_62 rfl rfl ?_
      refine wx_dup kc75_63 rfl ?_
      refine wm_getf (.int (nI (s 0 1))) hS kc75_64 rfl ?_
      have hb67_1 := hB 0 1
      refine wx_iload_n kc75_67 rfl rfl ?_
      refine wn_iadd ((s 0 1) + k) kc75_68 rfl ?_
      refine wm_putf (v := ((s 0 1) + k)) hS kc75_69 rfl rfl ?_
      refine wx_aload_n kc75_72 rfl rfl ?_
      refine wm_getf (.int (nI ((s 0 1) + k))) hS kc75_73 rfl ?_
      refine wx_ireturn kc75_76 rfl rfl ?_
      obtain rfl : i = k := by omega
      exact hq
    · skip
      refine wx_aload_n kc75_44 rfl rfl ?_
      refine wm_getf (.ref 195) hS kc75_45 rfl ?_
      refine wx_aload_n kc75_48 rfl rfl ?_
      refine wm_getf (.int (nI (s 0 1))) hS kc75_49 rfl ?_
      have hb52_1 := hB 0 1
      refine wx_iload_n kc75_52 rfl rfl ?_
      refine wn_iadd ((s 0 1) + i) kc75_53 rfl ?_
      refine wx_iload_n kc75_54 rfl rfl ?_
      refine wm_iast (v := c) 195 1200 hS kc75_55 rfl rfl rfl rfl (by omega) rfl ?_
      refine wn_iinc (i + 1) (ls' := [.ref 194, .int (nI c), .int (nI k), .int (nI (i + 1))]) kc75_56 rfl rfl rfl rfl rfl ?_
      refine wx_goto kc75_59 ?_
      rw [zwr_s]
      exact ih (i + 1) (by omega)
theorem cM_fill {d : Nat} {h0 : zm_H} {s : Nat → Nat → Nat} {Q : Option Value → zm_H → Prop} {x y : Int32} (hS : zMS h0) (hB : ∀ a j, s a j < 2147483648) (ht : s 0 1 ≤ 1200) (hbad : (∀ k c : Nat, c ≤ 255 → 1 ≤ k → k ≤ 1200 → s 0 1 + k ≤ 1200 → ¬ (x = nI c ∧ y = nI k)) → Q (some (.int (-1))) (zmh h0 s)) (hgood : ∀ k c : Nat, c ≤ 255 → k ≤ 1200 → 1 ≤ k → k ≤ 1200 → s 0 1 + k ≤ 1200 → x = nI c → y = nI k → Q (some (.int (nI (s 0 1 + k)))) (zmh h0 (zup (zwr s 1 (s 0 1) k (fun _ => c)) 0 1 (s 0 1 + k)))) : zm_wc (d + 1) mM_fill [.ref 194, .int x, .int y] (zmh h0 s) Q := by
  refine zm_enter (Nat.le_of_ble_eq_true rfl) ?_
  show zm_wp _ 75 0 [.ref 194, .int x, .int y, zm_un] [] (zmh h0 s) Q
  refine wx_iload_n kc75_0 rfl rfl ?_
  refine wx_if_lt kc75_1 (fun hq1 => ?_) (fun hq1 => ?_)
  · skip
    refine wx_iconst (-1) kc75_35 (by decide) ?_
    refine wx_ireturn kc75_36 rfl rfl ?_
    refine hbad (fun k c h1 h2 h3 h4 hh => ?_)
    obtain ⟨rfl, rfl⟩ := hh
    first | exact absurd hq1 (nI_pos (by omega)) | exact absurd ((nI_ltI (by omega) (by omega)).mp hq8) (by omega) | exact absurd ((nI_ltI (by omega) (by omega)).mp hq13) (by omega) | exact absurd ((nI_ltI (by omega) (by omega)).mp hq20) (by omega) | exact absurd ((nI_leI (by omega) (by omega)).mpr h4) (by rw [← nI_add]; exact hq32)
  · skip
    refine wx_iload_n kc75_4 rfl rfl ?_
    refine wx_sipush (nI 255) kc75_5 (by decide) ?_
    refine wx_icmp_gt kc75_8 (fun hq8 => ?_) (fun hq8 => ?_)
    · skip
      refine wx_iconst (-1) kc75_35 (by decide) ?_
      refine wx_ireturn kc75_36 rfl rfl ?_
      refine hbad (fun k c h1 h2 h3 h4 hh => ?_)
      obtain ⟨rfl, rfl⟩ := hh
      first | exact absurd hq1 (nI_pos (by omega)) | exact absurd ((nI_ltI (by omega) (by omega)).mp hq8) (by omega) | exact absurd ((nI_ltI (by omega) (by omega)).mp hq13) (by omega) | exact absurd ((nI_ltI (by omega) (by omega)).mp hq20) (by omega) | exact absurd ((nI_leI (by omega) (by omega)).mpr h4) (by rw [← nI_add]; exact hq32)
    · skip
      refine wx_iload_n kc75_11 rfl rfl ?_
      refine wx_iconst (nI 1) kc75_12 (by decide) ?_
      refine wx_icmp_lt kc75_13 (fun hq13 => ?_) (fun hq13 => ?_)
      · skip
        refine wx_iconst (-1) kc75_35 (by decide) ?_
        refine wx_ireturn kc75_36 rfl rfl ?_
        refine hbad (fun k c h1 h2 h3 h4 hh => ?_)
        obtain ⟨rfl, rfl⟩ := hh
        first | exact absurd hq1 (nI_pos (by omega)) | exact absurd ((nI_ltI (by omega) (by omega)).mp hq8) (by omega) | exact absurd ((nI_ltI (by omega) (by omega)).mp hq13) (by omega) | exact absurd ((nI_ltI (by omega) (by omega)).mp hq20) (by omega) | exact absurd ((nI_leI (by omega) (by omega)).mpr h4) (by rw [← nI_add]; exact hq32)
      · skip
        refine wx_iload_n kc75_16 rfl rfl ?_
        refine wx_sipush (nI 1200) kc75_17 (by decide) ?_
        refine wx_icmp_gt kc75_20 (fun hq20 => ?_) (fun hq20 => ?_)
        · skip
          refine wx_iconst (-1) kc75_35 (by decide) ?_
          refine wx_ireturn kc75_36 rfl rfl ?_
          refine hbad (fun k c h1 h2 h3 h4 hh => ?_)
          obtain ⟨rfl, rfl⟩ := hh
          first | exact absurd hq1 (nI_pos (by omega)) | exact absurd ((nI_ltI (by omega) (by omega)).mp hq8) (by omega) | exact absurd ((nI_ltI (by omega) (by omega)).mp hq13) (by omega) | exact absurd ((nI_ltI (by omega) (by omega)).mp hq20) (by omega) | exact absurd ((nI_leI (by omega) (by omega)).mpr h4) (by rw [← nI_add]; exact hq32)
        · skip
          refine wx_aload_n kc75_23 rfl rfl ?_
          refine wm_getf (.int (nI (s 0 1))) hS kc75_24 rfl ?_
          have hb27_1 := hB 0 1
          refine wx_iload_n kc75_27 rfl rfl ?_
          refine wx_iadd kc75_28 ?_
          refine wx_sipush (nI 1200) kc75_29 (by decide) ?_
          refine wx_icmp_le kc75_32 (fun hq32 => ?_) (fun hq32 => ?_)
          · skip
            obtain ⟨k, hk1, hk2, rfl⟩ := zi_of 1 1200 (by decide) (by decide) hq13 hq20
            obtain ⟨c, hc1, hc2, rfl⟩ := zi_of 0 255 (by decide) (by decide) hq1 hq8
            rw [nI_add] at hq32
            have ht := (nI_leI (by omega) (by decide)).mp hq32
            have hw := hgood k c (by omega) (by omega) hk1 hk2 ht rfl rfl
            refine wx_iconst (nI 0) kc75_37 (by decide) ?_
            refine wx_istore_n (ls' := [.ref 194, .int (nI c), .int (nI k), .int (nI 0)]) kc75_38 rfl rfl rfl rfl ?_
            rw [← zwr_0 s 1 (s 0 1) (fun _ => c)]
            exact lM_fill hS hB (by omega) (by omega) ht hw k 0 (by omega)
          · skip
            refine wx_iconst (-1) kc75_35 (by decide) ?_
            refine wx_ireturn kc75_36 rfl rfl ?_
            refine hbad (fun k c h1 h2 h3 h4 hh => ?_)
            obtain ⟨rfl, rfl⟩ := hh
            first | exact absurd hq1 (nI_pos (by omega)) | exact absurd ((nI_ltI (by omega) (by omega)).mp hq8) (by omega) | exact absurd ((nI_ltI (by omega) (by omega)).mp hq13) (by omega) | exact absurd ((nI_ltI (by omega) (by omega)).mp hq20) (by omega) | exact absurd ((nI_leI (by omega) (by omega)).mpr h4) (by rw [← nI_add]; exact hq32)
theorem lM_type {d : Nat} {h0 : zm_H} {s : Nat → Nat → Nat} {Q : Option Value → zm_H → Prop} {c : Int64} {k : Nat} (hS : zMS h0) (hB : ∀ a j, s a j < 2147483648) (hk : k ≤ 8) (ht : s 0 1 + k ≤ 1200) (hq : Q (some (.int (nI (s 0 1 + k)))) (zmh h0 (zup (zwr s 1 (s 0 1) k (fun i => zby c (k - 1 - i))) 0 1 (s 0 1 + k)))) : ∀ (m i : Nat), i + m = k → zm_wp (d + 0) 74 30 [.ref 194, .long c, zm_un, .int (nI k), .int (zpm m)] [] (zmh h0 (zup (zwr s 1 (s 0 1) i (fun i => zby c (k - 1 - i))) 0 1 (s 0 1 + i))) Q := by
  intro m
  induction m with
  | zero =>
    intro i hi
    show zm_wp _ 74 30 [.ref 194, .long c, zm_un, .int (nI k), .int (-1)] [] (zmh h0 (zup (zwr s 1 (s 0 1) i (fun i => zby c (k - 1 - i))) 0 1 (s 0 1 + i))) _
    refine wx_iload kc74_30 rfl rfl ?_
    refine wx_if_lt kc74_32 (fun hq32 => ?_) (fun hq32 => ?_)
    · skip
      refine wx_aload_n kc74_72 rfl rfl ?_
      refine wm_getf (.int (nI (s 0 1 + i))) hS kc74_73 rfl ?_
      refine wx_ireturn kc74_76 rfl rfl ?_
      obtain rfl : i = k := by omega
      exact hq
    · skip
      exact absurd (by decide) hq32
  | succ m ih =>
    intro i hi
    show zm_wp _ 74 30 [.ref 194, .long c, zm_un, .int (nI k), .int (nI m)] [] (zmh h0 (zup (zwr s 1 (s 0 1) i (fun i => zby c (k - 1 - i))) 0 1 (s 0 1 + i))) _
    refine wx_iload kc74_30 rfl rfl ?_
    refine wn_if_lt kc74_32 (by omega) ?_
    refine wx_aload_n kc74_35 rfl rfl ?_
    refine wm_getf (.ref 195) hS kc74_36 rfl ?_
    refine wx_aload_n kc74_39 rfl rfl ?_
    refine wm_getf (.int (nI (s 0 1 + i))) hS kc74_40 rfl ?_
    refine wx_lload_n kc74_43 rfl rfl ?_
    refine wx_bipush (nI 8) kc74_44 (by decide) ?_
    refine wx_iload kc74_46 rfl rfl ?_
    refine wn_imul (8 * m) kc74_48 rfl ?_
    refine wx_lshr kc74_49 ?_
    refine wx_ldc2_w (255) kc74_50 (by decide) ?_
    refine wx_land kc74_53 ?_
    refine wx_l2i kc74_54 ?_
    rw [zby_eq]
    show zm_wp _ 74 55 [.ref 194, .long c, zm_un, .int (nI k), .int (nI m)] [.int (nI (zby c m)), .int (nI (s 0 1 + i)), .ref 195] (zmh h0 (zup (zwr s 1 (s 0 1) i (fun i => zby c (k - 1 - i))) 0 1 (s 0 1 + i))) _
    refine wm_iast (v := (zby c m)) 195 1200 hS kc74_55 rfl rfl rfl rfl (by omega) rfl ?_
    refine wx_aload_n kc74_56 rfl rfl ?_
    refine wx_dup kc74_57 rfl ?_
    refine wm_getf (.int (nI (s 0 1 + i))) hS kc74_58 rfl ?_
    refine wx_iconst (nI 1) kc74_61 (by decide) ?_
    refine wn_iadd ((s 0 1 + i) + 1) kc74_62 rfl ?_
    refine wm_putf (v := ((s 0 1 + i) + 1)) hS kc74_63 rfl rfl ?_
    refine wx_iinc (z' := zpm m) (ls' := [.ref 194, .long c, zm_un, .int (nI k), .int (zpm m)]) kc74_66 rfl rfl rfl (zpm_dec m) rfl ?_
    refine wx_goto kc74_69 ?_
    show zm_wp _ 74 30 [.ref 194, .long c, zm_un, .int (nI k), .int (zpm m)] [] (zmh h0 (zup (zup (zup (zwr s 1 (s 0 1) i (fun i => zby c (k - 1 - i))) 0 1 (s 0 1 + i)) 1 (s 0 1 + i) (zby c m)) 0 1 ((s 0 1 + i) + 1))) _
    have e1 : zby c m = (fun i => zby c (k - 1 - i)) i := by
      show zby c m = zby c (k - 1 - i)
      congr 1
      omega
    rw [zup_cm _ (by decide : (0 : Nat) ≠ 1), zup_zup, e1, zwr_s]
    exact ih (i + 1) (by omega)
theorem cM_type {d : Nat} {h0 : zm_H} {s : Nat → Nat → Nat} {Q : Option Value → zm_H → Prop} {c : Int64} {y : Int32} (hS : zMS h0) (hB : ∀ a j, s a j < 2147483648) (ht : s 0 1 ≤ 1200) (hbad : (∀ k : Nat, 1 ≤ k → k ≤ 8 → s 0 1 + k ≤ 1200 → ¬ (y = nI k)) → Q (some (.int (-1))) (zmh h0 s)) (hgood : ∀ k : Nat, 1 ≤ k → k ≤ 8 → s 0 1 + k ≤ 1200 → y = nI k → Q (some (.int (nI (s 0 1 + k)))) (zmh h0 (zup (zwr s 1 (s 0 1) k (fun i => zby c (k - 1 - i))) 0 1 (s 0 1 + k)))) : zm_wc (d + 1) mM_type [.ref 194, .long c, .int y] (zmh h0 s) Q := by
  refine zm_enter (Nat.le_of_ble_eq_true rfl) ?_
  show zm_wp _ 74 0 [.ref 194, .long c, zm_un, .int y, zm_un] [] (zmh h0 s) Q
  refine wx_iload_n kc74_0 rfl rfl ?_
  refine wx_iconst (nI 1) kc74_1 (by decide) ?_
  refine wx_icmp_lt kc74_2 (fun hq2 => ?_) (fun hq2 => ?_)
  · skip
    refine wx_iconst (-1) kc74_23 (by decide) ?_
    refine wx_ireturn kc74_24 rfl rfl ?_
    refine hbad (fun k h1 h2 h3 hh => ?_)
    obtain ⟨rfl⟩ := hh
    first | exact absurd ((nI_ltI (by omega) (by omega)).mp hq2) (by omega) | exact absurd ((nI_ltI (by omega) (by omega)).mp hq8) (by omega) | exact absurd ((nI_leI (by omega) (by omega)).mpr h3) (by rw [← nI_add]; exact hq20)
  · skip
    refine wx_iload_n kc74_5 rfl rfl ?_
    refine wx_bipush (nI 8) kc74_6 (by decide) ?_
    refine wx_icmp_gt kc74_8 (fun hq8 => ?_) (fun hq8 => ?_)
    · skip
      refine wx_iconst (-1) kc74_23 (by decide) ?_
      refine wx_ireturn kc74_24 rfl rfl ?_
      refine hbad (fun k h1 h2 h3 hh => ?_)
      obtain ⟨rfl⟩ := hh
      first | exact absurd ((nI_ltI (by omega) (by omega)).mp hq2) (by omega) | exact absurd ((nI_ltI (by omega) (by omega)).mp hq8) (by omega) | exact absurd ((nI_leI (by omega) (by omega)).mpr h3) (by rw [← nI_add]; exact hq20)
    · skip
      refine wx_aload_n kc74_11 rfl rfl ?_
      refine wm_getf (.int (nI (s 0 1))) hS kc74_12 rfl ?_
      have hb15_1 := hB 0 1
      refine wx_iload_n kc74_15 rfl rfl ?_
      refine wx_iadd kc74_16 ?_
      refine wx_sipush (nI 1200) kc74_17 (by decide) ?_
      refine wx_icmp_le kc74_20 (fun hq20 => ?_) (fun hq20 => ?_)
      · skip
        obtain ⟨k, hk1, hk2, rfl⟩ := zi_of 1 8 (by decide) (by decide) hq2 hq8
        rw [nI_add] at hq20
        have ht := (nI_leI (by omega) (by decide)).mp hq20
        have hw := hgood k hk1 hk2 ht rfl
        refine wx_iload_n kc74_25 rfl rfl ?_
        refine wx_iconst (nI 1) kc74_26 (by decide) ?_
        refine wn_isub (k - 1) kc74_27 (by omega) ?_
        refine wx_istore (ls' := [.ref 194, .long c, zm_un, .int (nI k), .int (nI (k - 1))]) kc74_28 rfl rfl rfl rfl ?_
        have e9 : nI (k - 1) = zpm k := by
          cases k with
          | zero => omega
          | succ k => rfl
        have e8 : s = zup (zwr s 1 (s 0 1) 0 (fun i => zby c (k - 1 - i))) 0 1 (s 0 1 + 0) := by
          rw [zwr_0]
          funext b j
          by_cases hbj : b = 0 ∧ j = 1
          · obtain ⟨rfl, rfl⟩ := hbj
            rw [zup_same]
            rfl
          · rw [zup_ne _ _ hbj]
        rw [e9]
        conv => arg 6; rw [e8]
        exact lM_type hS hB (by omega) ht hw k 0 (by omega)
      · skip
        refine wx_iconst (-1) kc74_23 (by decide) ?_
        refine wx_ireturn kc74_24 rfl rfl ?_
        refine hbad (fun k h1 h2 h3 hh => ?_)
        obtain ⟨rfl⟩ := hh
        first | exact absurd ((nI_ltI (by omega) (by omega)).mp hq2) (by omega) | exact absurd ((nI_ltI (by omega) (by omega)).mp hq8) (by omega) | exact absurd ((nI_leI (by omega) (by omega)).mpr h3) (by rw [← nI_add]; exact hq20)
def ztkr (t : Nat → Nat) : Nat → Int32
  | 0 => -1
  | n + 1 => if t n = 0 then (if ztkr t n = -1 then nI n else -2) else ztkr t n
def ztkz (t : Nat → Nat) : Nat → Nat := zsum (fun k => if t k = 0 then 1 else 0)
def zmtk (s : Nat → Nat → Nat) : Int32 := if 1 < ztkz (s 1) (s 0 1) then -2 else ztkr (s 1) (s 0 1)
/-- the numbers behind take() -/
def zmts (s : Nat → Nat → Nat) : Nat → Nat → Nat := zwr (zup (zup s 0 3 (s 0 1)) 0 1 0) 2 0 (s 0 1) (fun i => s 1 i)

theorem lM_take1 {d : Nat} {h0 : zm_H} {s : Nat → Nat → Nat} {Q : Option Value → zm_H → Prop}  (hS : zMS h0) (hB : ∀ a j, s a j < 2147483648) (ht : s 0 1 ≤ 1200) (hq : zm_wp (d + 0) 76 64 [.ref 194, .int (ztkr (s 1) (s 0 1)), .int (nI (s 0 1)), zm_un] [] (zmh h0 (zmts s)) Q) : ∀ (n i : Nat), i + n = s 0 1 → zm_wp (d + 0) 76 17 [.ref 194, .int (ztkr (s 1) i), .int (nI i), zm_un] [] (zmh h0 (zwr (zup (zup s 0 3 (s 0 1)) 0 1 0) 2 0 i (fun i => s 1 i))) Q := by
  intro n
  induction n with
  | zero =>
    intro i hi
    refine wx_iload_n kc76_17 rfl rfl ?_
    refine wx_aload_n kc76_18 rfl rfl ?_
    refine wm_getf (.int (nI (s 0 1))) hS kc76_19 rfl ?_
    have hb22_1 := hB 0 1
    refine wn_icmp_ge kc76_22 (by omega) (hB _ _) (fun hq22 => ?_) (fun hq22 => ?_)
    · skip
      obtain rfl : i = s 0 1 := by omega
      exact hq
    · skip
      exact absurd hq22 (by omega)
  | succ n ih =>
    intro i hi
    refine wx_iload_n kc76_17 rfl rfl ?_
    refine wx_aload_n kc76_18 rfl rfl ?_
    refine wm_getf (.int (nI (s 0 1))) hS kc76_19 rfl ?_
    have hb22_1 := hB 0 1
    refine wn_icmp_ge kc76_22 (by omega) (hB _ _) (fun hq22 => ?_) (fun hq22 => ?_)
    · skip
      obtain rfl : i = s 0 1 := by omega
      exact hq
    · skip
      refine wx_aload_n kc76_25 rfl rfl ?_
      refine wm_getf (.ref 196) hS kc76_26 rfl ?_
      refine wx_iload_n kc76_29 rfl rfl ?_
      refine wx_aload_n kc76_30 rfl rfl ?_
      refine wm_getf (.ref 195) hS kc76_31 rfl ?_
      refine wx_iload_n kc76_34 rfl rfl ?_
      refine wm_iald 195 1200 (s 1 i) hS kc76_35 rfl rfl rfl rfl (by omega) (fun _ => rfl) rfl ?_
      have hb36_2 := hB 1 i
      refine wm_iast (v := (s 1 i)) 196 1200 hS kc76_36 rfl rfl rfl rfl (by omega) rfl ?_
      refine wx_aload_n kc76_37 rfl rfl ?_
      refine wm_getf (.ref 196) hS kc76_38 rfl ?_
      refine wx_iload_n kc76_41 rfl rfl ?_
      refine wm_iald 196 1200 ((s 1 i)) hS kc76_42 rfl rfl rfl rfl (by omega) (fun _ => rfl) (zup_same _ _ _ _) ?_
      refine wn_if_ne kc76_43 (hB _ _) (fun hq43 => ?_) (fun hq43 => ?_)
      · skip
        refine wn_iinc (i + 1) (ls' := [.ref 194, .int (ztkr (s 1) i), .int (nI (i + 1)), zm_un]) kc76_58 rfl rfl rfl rfl rfl ?_
        refine wx_goto kc76_61 ?_
        show zm_wp _ 76 17 [.ref 194, .int (ztkr (s 1) i), .int (nI (i + 1)), zm_un] [] (zmh h0 (zup (zwr (zup (zup s 0 3 (s 0 1)) 0 1 0) 2 0 i (fun i => s 1 i)) 2 i (s 1 i))) _
        have e1 : s 1 i = (fun i => s 1 i) i := rfl
        have e3 : (0 : Nat) + i = i := by omega
        have e2 := zwr_s (zup (zup s 0 3 (s 0 1)) 0 1 0) 2 0 i (fun i => s 1 i)
        rw [e3] at e2
        rw [e2]
        have e4 : ztkr (s 1) (i + 1) = (ztkr (s 1) i) := by
          show (if s 1 i = 0 then (if ztkr (s 1) i = -1 then nI i else -2) else ztkr (s 1) i) = _
          first | rw [if_pos (by omega), if_pos (by assumption)] | rw [if_pos (by omega), if_neg (by assumption)] | rw [if_neg (by omega)]
        rw [← e4]
        exact ih (i + 1) (by omega)
      · skip
        refine wx_iload_n kc76_46 rfl rfl ?_
        refine wx_iconst (-1) kc76_47 (by decide) ?_
        refine wx_icmp_ne kc76_48 (fun hq48 => ?_) (fun hq48 => ?_)
        · skip
          refine wx_bipush (-2) kc76_55 (by decide) ?_
          refine wx_istore_n (ls' := [.ref 194, .int (-2), .int (nI i), zm_un]) kc76_57 rfl rfl rfl rfl ?_
          refine wn_iinc (i + 1) (ls' := [.ref 194, .int (-2), .int (nI (i + 1)), zm_un]) kc76_58 rfl rfl rfl rfl rfl ?_
          refine wx_goto kc76_61 ?_
          show zm_wp _ 76 17 [.ref 194, .int (-2), .int (nI (i + 1)), zm_un] [] (zmh h0 (zup (zwr (zup (zup s 0 3 (s 0 1)) 0 1 0) 2 0 i (fun i => s 1 i)) 2 i (s 1 i))) _
          have e1 : s 1 i = (fun i => s 1 i) i := rfl
          have e3 : (0 : Nat) + i = i := by omega
          have e2 := zwr_s (zup (zup s 0 3 (s 0 1)) 0 1 0) 2 0 i (fun i => s 1 i)
          rw [e3] at e2
          rw [e2]
          have e4 : ztkr (s 1) (i + 1) = (-2) := by
            show (if s 1 i = 0 then (if ztkr (s 1) i = -1 then nI i else -2) else ztkr (s 1) i) = _
            first | rw [if_pos (by omega), if_pos (by assumption)] | rw [if_pos (by omega), if_neg (by assumption)] | rw [if_neg (by omega)]
          rw [← e4]
          exact ih (i + 1) (by omega)
        · skip
          refine wx_iload_n kc76_51 rfl rfl ?_
          refine wx_goto kc76_52 ?_
          refine wx_istore_n (ls' := [.ref 194, .int (nI i), .int (nI i), zm_un]) kc76_57 rfl rfl rfl rfl ?_
          refine wn_iinc (i + 1) (ls' := [.ref 194, .int (nI i), .int (nI (i + 1)), zm_un]) kc76_58 rfl rfl rfl rfl rfl ?_
          refine wx_goto kc76_61 ?_
          show zm_wp _ 76 17 [.ref 194, .int (nI i), .int (nI (i + 1)), zm_un] [] (zmh h0 (zup (zwr (zup (zup s 0 3 (s 0 1)) 0 1 0) 2 0 i (fun i => s 1 i)) 2 i (s 1 i))) _
          have e1 : s 1 i = (fun i => s 1 i) i := rfl
          have e3 : (0 : Nat) + i = i := by omega
          have e2 := zwr_s (zup (zup s 0 3 (s 0 1)) 0 1 0) 2 0 i (fun i => s 1 i)
          rw [e3] at e2
          rw [e2]
          have e4 : ztkr (s 1) (i + 1) = (nI i) := by
            show (if s 1 i = 0 then (if ztkr (s 1) i = -1 then nI i else -2) else ztkr (s 1) i) = _
            first | rw [if_pos (by omega), if_pos (by assumption)] | rw [if_pos (by omega), if_neg (by assumption)] | rw [if_neg (by omega)]
          rw [← e4]
          exact ih (i + 1) (by omega)
