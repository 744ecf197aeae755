/-! the law, round by round -/
theorem zL4 {L i : Nat} (hL : L ≤ 2048) (hi : i ≤ 2048) (h : ¬ nI L - nI 4 < nI i) : i + 4 ≤ L := by
  by_cases h4 : 4 ≤ L
  · rw [pk_sub h4] at h
    have : ¬ L - 4 < i := fun z => h ((nI_ltI (by omega) (by omega)).mpr z)
    omega
  · exfalso
    have hz : ∀ m, m < 4 → nI m - nI 4 < 0 := by decide
    have h0 := hz L (by omega)
    have h1 := Int32.not_lt.mp (znI_ge (k := i) (by omega))
    exact h (Int32.lt_of_lt_of_le h0 h1)
theorem lL_loop {d : Nat} {L : Nat} {xs : Nat → Int32} {Q : Option Value → zm_H → Prop} (hL : L ≤ 2048) (hq : ∀ h1 : zm_H, h1.1 ≤ 207 + 2 * 600 → h1.2.1 ≤ 104000 + 1255 * 600 → Q (some (.int 1)) h1) : ∀ (m n i : Nat) (h0 : zm_H) (c s : Nat → Nat → Nat), m + n = 520 → i = 4 * n → i ≤ 2048 → zLI L xs n h0 c s → zm_wp (d + 8) 0 18 [.ref 0, .ref 1, .ref 194, .int (nI i)] [] (zmh (zch h0 c) s) Q := by
  intro m
  induction m with
  | zero =>
    intro n i h0 c s hm hi hi2 h
    omega
  | succ m ih =>
    intro n i h0 c s hm hi hi2 h
    obtain ⟨hV, hMS, h0t, h0v, hnx, hsl⟩ := id h
    have hx7 : 207 ≤ h0.1 := hMS.1
    have h00h0 : 0 < h0.1 := by omega
    refine wx_iload_n kc0_18 rfl rfl ?_
    refine wx_aload_n kc0_19 rfl rfl ?_
    refine wl_len kc0_20 h0t h00h0 ?_
    refine wx_iconst (nI 4) kc0_21 (by decide) ?_
    refine wx_isub kc0_22 ?_
    refine wx_icmp_gt kc0_23 (fun hg => ?_) (fun hg => ?_)
    · refine wx_iconst (nI 1) kc0_485 (by decide) ?_
      refine wx_ireturn kc0_486 rfl (by decide) ?_
      exact hq _ (show h0.1 ≤ _ by omega) (show h0.2.1 ≤ _ by omega)
    have hi4 := zL4 hL hi2 hg
    have hnext : ∀ h1 c2 t, zLI L xs (n + 1) h1 c2 t → zm_wp (d + 8) 0 479 [.ref 0, .ref 1, .ref 194, .int (nI i)] [] (zmh (zch h1 c2) t) Q := by
      intro h1 c2 t hli
      refine wx_iinc (z' := nI (i + 4)) (ls' := [.ref 0, .ref 1, .ref 194, .int (nI (i + 4))]) kc0_479 rfl rfl rfl (nI_add i 4) rfl ?_
      refine wx_goto kc0_482 ?_
      exact ih (n + 1) (i + 4) h1 c2 t (by omega) (by omega) (by omega) hli
    refine wx_aload_n kc0_26 rfl rfl ?_
    refine wx_iload_n kc0_27 rfl rfl ?_
    refine wl_read kc0_28 h0t h0v h00h0 hL (by omega) ?_
    refine wx_bipush (nI 15) kc0_29 (by decide) ?_
    refine wx_iand kc0_31 ?_
    obtain ⟨op, hop⟩ : ∃ op, op = xs i &&& nI 15 := ⟨_, rfl⟩
    rw [← hop]
    by_cases hs0 : op = nI 0
    · rw [hs0]
      refine wx_tableswitch (tgt := 108) kc0_32 (by decide) ?_
      exact lL_type (by omega) hL hi4 h hnext
    by_cases hs1 : op = nI 1
    · rw [hs1]
      refine wx_tableswitch (tgt := 171) kc0_32 (by decide) ?_
      exact lL_fill (by omega) hL hi4 h hnext
    by_cases hs2 : op = nI 2
    · rw [hs2]
      refine wx_tableswitch (tgt := 204) kc0_32 (by decide) ?_
      exact lL_room (by omega) hL hi4 h hnext
    by_cases hs3 : op = nI 3
    · rw [hs3]
      refine wx_tableswitch (tgt := 227) kc0_32 (by decide) ?_
      exact lL_make (by omega) hL hi4 h hnext
    by_cases hs4 : op = nI 4
    · rw [hs4]
      refine wx_tableswitch (tgt := 250) kc0_32 (by decide) ?_
      exact lL_link (by omega) hL hi4 h hnext
    by_cases hs5 : op = nI 5
    · rw [hs5]
      refine wx_tableswitch (tgt := 263) kc0_32 (by decide) ?_
      exact lL_symlink (by omega) hL hi4 h hnext
    by_cases hs6 : op = nI 6
    · rw [hs6]
      refine wx_tableswitch (tgt := 276) kc0_32 (by decide) ?_
      exact lL_remove (by omega) hL hi4 h hnext
    by_cases hs7 : op = nI 7
    · rw [hs7]
      refine wx_tableswitch (tgt := 289) kc0_32 (by decide) ?_
      exact lL_removeFolder (by omega) hL hi4 h hnext
    by_cases hs8 : op = nI 8
    · rw [hs8]
      refine wx_tableswitch (tgt := 302) kc0_32 (by decide) ?_
      exact lL_rename (by omega) hL hi4 h hnext
    by_cases hs9 : op = nI 9
    · rw [hs9]
      refine wx_tableswitch (tgt := 315) kc0_32 (by decide) ?_
      exact lL_find (by omega) hL hi4 h hnext
    by_cases hs10 : op = nI 10
    · rw [hs10]
      refine wx_tableswitch (tgt := 354) kc0_32 (by decide) ?_
      exact lL_hold (by omega) hL hi4 h hnext
    by_cases hs11 : op = nI 11
    · rw [hs11]
      refine wx_tableswitch (tgt := 367) kc0_32 (by decide) ?_
      exact lL_release (by omega) hL hi4 h hnext
    by_cases hs12 : op = nI 12
    · rw [hs12]
      refine wx_tableswitch (tgt := 390) kc0_32 (by decide) ?_
      exact lL_about (by omega) hL hi4 h hnext
    by_cases hs13 : op = nI 13
    · rw [hs13]
      refine wx_tableswitch (tgt := 423) kc0_32 (by decide) ?_
      exact lL_targetByte (by omega) hL hi4 h hnext
    by_cases hs14 : op = nI 14
    · rw [hs14]
      refine wx_tableswitch (tgt := 456) kc0_32 (by decide) ?_
      exact lL_count (by omega) hL hi4 h hnext
    have ht0 : ¬ ((0 : Int) = op.toInt) := fun z => hs0 (Int32.toInt_inj.mp (by rw [← z]; decide))
    have ht1 : ¬ ((1 : Int) = op.toInt) := fun z => hs1 (Int32.toInt_inj.mp (by rw [← z]; decide))
    have ht2 : ¬ ((2 : Int) = op.toInt) := fun z => hs2 (Int32.toInt_inj.mp (by rw [← z]; decide))
    have ht3 : ¬ ((3 : Int) = op.toInt) := fun z => hs3 (Int32.toInt_inj.mp (by rw [← z]; decide))
    have ht4 : ¬ ((4 : Int) = op.toInt) := fun z => hs4 (Int32.toInt_inj.mp (by rw [← z]; decide))
    have ht5 : ¬ ((5 : Int) = op.toInt) := fun z => hs5 (Int32.toInt_inj.mp (by rw [← z]; decide))
    have ht6 : ¬ ((6 : Int) = op.toInt) := fun z => hs6 (Int32.toInt_inj.mp (by rw [← z]; decide))
    have ht7 : ¬ ((7 : Int) = op.toInt) := fun z => hs7 (Int32.toInt_inj.mp (by rw [← z]; decide))
    have ht8 : ¬ ((8 : Int) = op.toInt) := fun z => hs8 (Int32.toInt_inj.mp (by rw [← z]; decide))
    have ht9 : ¬ ((9 : Int) = op.toInt) := fun z => hs9 (Int32.toInt_inj.mp (by rw [← z]; decide))
    have ht10 : ¬ ((10 : Int) = op.toInt) := fun z => hs10 (Int32.toInt_inj.mp (by rw [← z]; decide))
    have ht11 : ¬ ((11 : Int) = op.toInt) := fun z => hs11 (Int32.toInt_inj.mp (by rw [← z]; decide))
    have ht12 : ¬ ((12 : Int) = op.toInt) := fun z => hs12 (Int32.toInt_inj.mp (by rw [← z]; decide))
    have ht13 : ¬ ((13 : Int) = op.toInt) := fun z => hs13 (Int32.toInt_inj.mp (by rw [← z]; decide))
    have ht14 : ¬ ((14 : Int) = op.toInt) := fun z => hs14 (Int32.toInt_inj.mp (by rw [← z]; decide))
    refine wx_tableswitch (tgt := 479) kc0_32 (by simp only [zm_sw, ht0, ht1, ht2, ht3, ht4, ht5, ht6, ht7, ht8, ht9, ht10, ht11, ht12, ht13, ht14, if_false]) ?_
    exact hnext h0 c s (zLI_gr h (zGR_rf h0) hV)
