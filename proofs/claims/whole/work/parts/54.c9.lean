/-! the class reads its tape -/
theorem znI_ge {k : Nat} (h : k < 2147483648) : ¬ nI k < 0 := by
  intro z
  have z2 := Int32.lt_iff_toInt_lt.mp z
  rw [nI_toInt h, show (0 : Int32).toInt = 0 by decide] at z2
  omega
theorem znI_n1 {k : Nat} (h : k < 2147483648) : nI k ≠ -1 := fun z => znI_ge h (by rw [z]; decide)
theorem zmtk_n1 {s : Nat → Nat → Nat} (hT : s 0 1 ≤ 1200) {k : Nat} (h1 : k < s 0 1) (h2 : s 1 k = 0) : zmtk s ≠ -1 := by
  rcases zmtk_cs s with ⟨_, h4⟩ | ⟨z, h3, h4, _⟩ | ⟨h3, _⟩
  · exact absurd h2 (h4 k h1)
  · rw [h4]
    exact znI_n1 (by omega)
  · rw [h3]
    decide
theorem zmtk_e1 {s : Nat → Nat → Nat} (h : ∀ i, i < s 0 1 → s 1 i ≠ 0) : zmtk s = -1 := by
  rcases zmtk_cs s with ⟨h3, _⟩ | ⟨z, h3, _, h4, _⟩ | ⟨_, i, j, h3, h4, h5, _⟩
  · exact h3
  · exact absurd h4 (h z h3)
  · exact absurd h5 (h i (by omega))
theorem zmtk_k {s : Nat → Nat → Nat} {k : Nat} (h1 : k < s 0 1) (h2 : s 1 k = 0) (h : ∀ i, i < s 0 1 → i ≠ k → s 1 i ≠ 0) : zmtk s = nI k := by
  rcases zmtk_cs s with ⟨_, h4⟩ | ⟨z, h3, h4, h5, _⟩ | ⟨_, i, j, h3, h4, h5, h6⟩
  · exact absurd h2 (h4 k h1)
  · by_cases hz : z = k
    · rw [h4, hz]
    · exact absurd h5 (h z h3 hz)
  · by_cases hi : i = k
    · exact absurd h6 (h j h4 (by omega))
    · exact absurd h5 (h i (by omega) hi)
theorem zmtk_lt {s : Nat → Nat → Nat} (h : ∀ k, k < s 0 1 → s 1 k = 0 → ¬ (∀ i, i < s 0 1 → i ≠ k → s 1 i ≠ 0)) : zmtk s < 0 := by
  rcases zmtk_cs s with ⟨h3, _⟩ | ⟨z, h3, h4, h5, h6⟩ | ⟨h3, _⟩
  · rw [h3]
    decide
  · exact absurd h6 (h z h3 h5)
  · rw [h3]
    decide
theorem zWK_IV {h0 : zm_H} {c s : Nat → Nat → Nat} (h : zIV h0 c s) : zWK h0 c := zWK_of h.2.1 h.2.2.2.1 h.2.2.2.2.1
theorem zcg_IV {h0 : zm_H} {c s : Nat → Nat → Nat} (h : zIV h0 c s) {f k e fo : Nat} (he : f + k = e) (hk : e ≤ 1200) : zcg c 3 f e fo = zwt s f k fo := by
  subst he
  exact zcg_wt h.2.2.2.1 h.2.2.2.2.1 h.2.2.1 hk
theorem cN_readName {d : Nat} {h0 : zm_H} {c : Nat → Nat → Nat} {Q : Option Value → zm_H → Prop} {s : Nat → Nat → Nat}  (h : zIV h0 c s) (hx : h0.1 ≤ 2147483647) (hz : zmtk s ≠ -1 → Q (some (.int (-1))) (zch h0 (zup c 0 1 0))) (hq : zmtk s = -1 → ∀ c2, zWE h0 0 (zup c 0 1 0) c2 (zwt (zt0 s) 0 (s 0 1) 0) → Q (some (.int (zna (zwt (zt0 s) 0 (s 0 1) 0)))) (zch h0 c2)) : zm_wc (d + 6) mN_readName [.ref 1] (zch h0 c) Q := by
  refine zm_enter2 (zfl_cons rfl zfl_nil) rfl ?_
  show zm_wp _ 62 0 [.ref 1, zm_un] [] (zch h0 c) Q
  obtain ⟨hS, hI, hM, hR, hV, hA⟩ := id h
  have hT : s 0 1 = c 0 1 := hR.1.2.1
  have hT2 : c 0 1 ≤ 1200 := hI 0 1
  have hB := hR.2.1
  have h1 := zIV_t0 h
  have hI1 := h1.2.1
  refine wx_aload_n kc62_0 rfl rfl ?_
  refine wc_get 1 6 (.ref 2) hS kc62_1 rfl rfl rfl rfl ?_
  refine wc_call hS kc62_4 rfl rfl rfl rfl rfl ?_
  refine cT_useUp hS hI ?_
  show zm_wp _ 62 7 [.ref 1, zm_un] [.int (nI (c 0 1))] (zch h0 (zup c 0 1 0)) _
  refine wx_istore_n (ls' := [.ref 1, .int (nI (c 0 1))]) kc62_7 rfl rfl rfl rfl ?_
  refine wx_aload_n kc62_8 rfl rfl ?_
  refine wc_get 1 6 (.ref 2) hS kc62_9 rfl rfl rfl rfl ?_
  refine wx_iload_n kc62_12 rfl rfl ?_
  refine wc_call hS kc62_13 rfl rfl rfl rfl rfl ?_
  refine cT_hasZero hS hI1 hT2 (fun k hk1 hk2 hk3 => ?_) (fun hk => ?_)
  · skip
    have hz1 := hz (zmtk_n1 (k := k) (by omega) (by omega) (by rw [← hB k (by omega)]; exact hk2))
    show zm_wp _ 62 16 [.ref 1, .int (nI (c 0 1))] [.int (nI 1)] (zch h0 (zup c 0 1 0)) _
    refine wn_if_eq kc62_16 (by decide) (fun z => absurd z (by decide)) (fun _ => ?_)
    refine wx_iconst (-1) kc62_19 (by decide) ?_
    refine wx_goto kc62_20 ?_
    refine wx_ireturn kc62_39 rfl rfl ?_
    exact hz1
  · skip
    have hz1 := hq (zmtk_e1 (fun i hi => by rw [← hB i (by omega)]; exact hk i (by omega)))
    have hE : zcg (zup c 0 1 0) 3 0 (c 0 1) 0 = zwt (zt0 s) 0 (s 0 1) 0 := zcg_IV h1 (by omega) hT2
    show zm_wp _ 62 16 [.ref 1, .int (nI (c 0 1))] [.int (nI 0)] (zch h0 (zup c 0 1 0)) _
    refine wn_if_eq kc62_16 (by decide) (fun _ => ?_) (fun z => absurd z (by decide))
    refine wx_aload_n kc62_23 rfl rfl ?_
    refine wc_get 1 6 (.ref (108 + 43 * 0)) hS kc62_24 rfl rfl rfl rfl ?_
    refine wx_aload_n kc62_27 rfl rfl ?_
    refine wc_get 1 6 (.ref 2) hS kc62_28 rfl rfl rfl rfl ?_
    refine wc_get 2 2 (zrA 3) hS kc62_31 rfl rfl rfl rfl ?_
    refine wx_iconst (nI 0) kc62_34 (by decide) ?_
    refine wx_iload_n kc62_35 rfl rfl ?_
    refine wcW_call hS kc62_36 rfl rfl (by decide) rfl ?_
    refine cW_goToName hS hI1 (by decide) (zWK_IV h1) (zga_3 hS) (Or.inl rfl) (Nat.zero_le _) hT2 hx (fun c2 h2 => ?_)
    show zm_wp _ 62 39 [.ref 1, .int (nI (c 0 1))] [.int (zna (zcg (zup c 0 1 0) 3 0 (c 0 1) 0))] (zch h0 c2) _
    refine wx_ireturn kc62_39 rfl rfl ?_
    rw [hE] at h2 ⊢
    exact hz1 c2 h2
theorem cN_readPath {d : Nat} {h0 : zm_H} {c : Nat → Nat → Nat} {Q : Option Value → zm_H → Prop} {s : Nat → Nat → Nat} {fo : Nat}  (h : zIV h0 c s) (hx : h0.1 ≤ 2147483647) (hfo : fo ≤ 1) (hz : zmtk s ≠ -1 → Q (some (.int (-1))) (zch h0 (zup c 0 1 0))) (hq : zmtk s = -1 → ∀ c2, zWE h0 0 (zup c 0 1 0) c2 (zwt (zt0 s) 0 (s 0 1) fo) → Q (some (.int ((zwt (zt0 s) 0 (s 0 1) fo).1))) (zch h0 c2)) : zm_wc (d + 5) mN_readPath [.ref 1, .int (nI fo)] (zch h0 c) Q := by
  refine zm_enter2 (zfl_cons rfl (zfl_cons rfl zfl_nil)) rfl ?_
  show zm_wp _ 61 0 [.ref 1, .int (nI fo), zm_un] [] (zch h0 c) Q
  obtain ⟨hS, hI, hM, hR, hV, hA⟩ := id h
  have hT : s 0 1 = c 0 1 := hR.1.2.1
  have hT2 : c 0 1 ≤ 1200 := hI 0 1
  have hB := hR.2.1
  have h1 := zIV_t0 h
  have hI1 := h1.2.1
  refine wx_aload_n kc61_0 rfl rfl ?_
  refine wc_get 1 6 (.ref 2) hS kc61_1 rfl rfl rfl rfl ?_
  refine wc_call hS kc61_4 rfl rfl rfl rfl rfl ?_
  refine cT_useUp hS hI ?_
  show zm_wp _ 61 7 [.ref 1, .int (nI fo), zm_un] [.int (nI (c 0 1))] (zch h0 (zup c 0 1 0)) _
  refine wx_istore_n (ls' := [.ref 1, .int (nI fo), .int (nI (c 0 1))]) kc61_7 rfl rfl rfl rfl ?_
  refine wx_aload_n kc61_8 rfl rfl ?_
  refine wc_get 1 6 (.ref 2) hS kc61_9 rfl rfl rfl rfl ?_
  refine wx_iload_n kc61_12 rfl rfl ?_
  refine wc_call hS kc61_13 rfl rfl rfl rfl rfl ?_
  refine cT_hasZero hS hI1 hT2 (fun k hk1 hk2 hk3 => ?_) (fun hk => ?_)
  · skip
    have hz1 := hz (zmtk_n1 (k := k) (by omega) (by omega) (by rw [← hB k (by omega)]; exact hk2))
    show zm_wp _ 61 16 [.ref 1, .int (nI fo), .int (nI (c 0 1))] [.int (nI 1)] (zch h0 (zup c 0 1 0)) _
    refine wn_if_eq kc61_16 (by decide) (fun z => absurd z (by decide)) (fun _ => ?_)
    refine wx_iconst (-1) kc61_19 (by decide) ?_
    refine wx_goto kc61_20 ?_
    refine wx_ireturn kc61_40 rfl rfl ?_
    exact hz1
  · skip
    have hz1 := hq (zmtk_e1 (fun i hi => by rw [← hB i (by omega)]; exact hk i (by omega)))
    have hE : zcg (zup c 0 1 0) 3 0 (c 0 1) fo = zwt (zt0 s) 0 (s 0 1) fo := zcg_IV h1 (by omega) hT2
    show zm_wp _ 61 16 [.ref 1, .int (nI fo), .int (nI (c 0 1))] [.int (nI 0)] (zch h0 (zup c 0 1 0)) _
    refine wn_if_eq kc61_16 (by decide) (fun _ => ?_) (fun z => absurd z (by decide))
    refine wx_aload_n kc61_23 rfl rfl ?_
    refine wc_get 1 6 (.ref (108 + 43 * 0)) hS kc61_24 rfl rfl rfl rfl ?_
    refine wx_aload_n kc61_27 rfl rfl ?_
    refine wc_get 1 6 (.ref 2) hS kc61_28 rfl rfl rfl rfl ?_
    refine wc_get 2 2 (zrA 3) hS kc61_31 rfl rfl rfl rfl ?_
    refine wx_iconst (nI 0) kc61_34 (by decide) ?_
    refine wx_iload_n kc61_35 rfl rfl ?_
    refine wx_iload_n kc61_36 rfl rfl ?_
    refine wcW_call hS kc61_37 rfl rfl (by decide) rfl ?_
    refine cW_go hS hI1 (by decide) (zWK_IV h1) (zga_3 hS) (Or.inl rfl) (Nat.zero_le _) hT2 hx hfo (fun c2 h2 => ?_)
    show zm_wp _ 61 40 [.ref 1, .int (nI fo), .int (nI (c 0 1))] [.int ((zcg (zup c 0 1 0) 3 0 (c 0 1) fo).1)] (zch h0 c2) _
    refine wx_ireturn kc61_40 rfl rfl ?_
    rw [hE] at h2 ⊢
    exact hz1 c2 h2
theorem cN_readTwo0 {d : Nat} {h0 : zm_H} {c : Nat → Nat → Nat} {Q : Option Value → zm_H → Prop} {s : Nat → Nat → Nat}  (h : zIV h0 c s) (hx : h0.1 ≤ 2147483647) (hz : zmtk s < 0 → Q (some (.int (-1))) (zch h0 (zup c 0 1 0))) (hno : ∀ k, k < s 0 1 → zmtk s = nI k → ∀ c2, zWE h0 0 (zup c 0 1 0) c2 (zwt (zt0 s) 0 k 0) → (zwt (zt0 s) 0 k 0).1 ≠ 0 → Q (some (.int (zwt (zt0 s) 0 k 0).1)) (zch h0 c2)) (hq : ∀ k, k < s 0 1 → zmtk s = nI k → ∀ c2 c3, zWE h0 0 (zup c 0 1 0) c2 (zwt (zt0 s) 0 k 0) → (zwt (zt0 s) 0 k 0).1 = 0 → zWE h0 1 c2 c3 (zwt (zt0 s) (k + 1) (s 0 1 - k - 1) 0) → Q (some (.int (zna (zwt (zt0 s) (k + 1) (s 0 1 - k - 1) 0)))) (zch h0 c3)) : zm_wc (d + 6) mN_readTwoPaths [.ref 1, .int (nI 0)] (zch h0 c) Q := by
  refine zm_enter2 (zfl_cons rfl (zfl_cons rfl zfl_nil)) rfl ?_
  show zm_wp _ 63 0 [.ref 1, .int (nI 0), zm_un, zm_un, zm_un] [] (zch h0 c) Q
  obtain ⟨hS, hI, hM, hR, hV, hA⟩ := id h
  have hT : s 0 1 = c 0 1 := hR.1.2.1
  have hT2 : c 0 1 ≤ 1200 := hI 0 1
  have hB := hR.2.1
  have h1 := zIV_t0 h
  have hI1 := h1.2.1
  refine wx_aload_n kc63_0 rfl rfl ?_
  refine wc_get 1 6 (.ref 2) hS kc63_1 rfl rfl rfl rfl ?_
  refine wc_call hS kc63_4 rfl rfl rfl rfl rfl ?_
  refine cT_useUp hS hI ?_
  show zm_wp _ 63 7 [.ref 1, .int (nI 0), zm_un, zm_un, zm_un] [.int (nI (c 0 1))] (zch h0 (zup c 0 1 0)) _
  refine wx_istore_n (ls' := [.ref 1, .int (nI 0), .int (nI (c 0 1)), zm_un, zm_un]) kc63_7 rfl rfl rfl rfl ?_
  refine wx_aload_n kc63_8 rfl rfl ?_
  refine wc_get 1 6 (.ref 2) hS kc63_9 rfl rfl rfl rfl ?_
  refine wx_iload_n kc63_12 rfl rfl ?_
  refine wc_call hS kc63_13 rfl rfl rfl rfl rfl ?_
  refine cT_onlyZero hS hI1 hT2 (fun k hk1 hk2 hk3 => ?_) (fun hk => ?_)
  · skip
    have hzk : zmtk s = nI k := zmtk_k (by omega) (by rw [← hB k (by omega)]; exact hk2) (fun i hi hn => by rw [← hB i (by omega)]; exact hk3 i (by omega) hn)
    have hk0 : k < s 0 1 := by omega
    have hE : zcg (zup c 0 1 0) 3 0 k 0 = (zwt (zt0 s) 0 k 0) := zcg_IV h1 (by omega) (by omega)
    show zm_wp _ 63 16 [.ref 1, .int (nI 0), .int (nI (c 0 1)), zm_un, zm_un] [.int (nI k)] (zch h0 (zup c 0 1 0)) _
    refine wx_istore_n (ls' := [.ref 1, .int (nI 0), .int (nI (c 0 1)), .int (nI k), zm_un]) kc63_16 rfl rfl rfl rfl ?_
    refine wx_iload_n kc63_17 rfl rfl ?_
    refine wn_if_ge kc63_18 (by omega) ?_
    refine wx_iload_n kc63_23 rfl rfl ?_
    refine wn_if_eq kc63_24 (by decide) (fun _ => ?_) (fun z => absurd z (by decide))
    refine wx_aload_n kc63_46 rfl rfl ?_
    refine wc_get 1 6 (.ref (108 + 43 * 0)) hS kc63_47 rfl rfl rfl rfl ?_
    refine wx_aload_n kc63_50 rfl rfl ?_
    refine wc_get 1 6 (.ref 2) hS kc63_51 rfl rfl rfl rfl ?_
    refine wc_get 2 2 (zrA 3) hS kc63_54 rfl rfl rfl rfl ?_
    refine wx_iconst (nI 0) kc63_57 (by decide) ?_
    refine wx_iload_n kc63_58 rfl rfl ?_
    refine wx_iconst (nI 0) kc63_59 (by decide) ?_
    refine wcW_call hS kc63_60 rfl rfl (by decide) rfl ?_
    refine cW_go hS hI1 (by decide) (zWK_IV h1) (zga_3 hS) (Or.inl rfl) (Nat.zero_le _) (by omega) hx (by decide) (fun c2 h2 => ?_)
    rw [hE] at h2 ⊢
    have hI2 := h2.2.1
    have hV2 := zIV_GF h1 h2.1 hI2
    have hE2 : zcg c2 3 (k + 1) (c 0 1) 0 = (zwt (zt0 s) (k + 1) (s 0 1 - k - 1) 0) := zcg_IV hV2 (by omega) hT2
    show zm_wp _ 63 63 [.ref 1, .int (nI 0), .int (nI (c 0 1)), .int (nI k), zm_un] [.int ((zwt (zt0 s) 0 k 0).1)] (zch h0 c2) _
    refine wx_istore (ls' := [.ref 1, .int (nI 0), .int (nI (c 0 1)), .int (nI k), .int ((zwt (zt0 s) 0 k 0).1)]) kc63_63 rfl rfl rfl rfl ?_
    refine wx_iload kc63_65 rfl rfl ?_
    refine wx_if_eq kc63_67 (fun hq67 => ?_) (fun hq67 => ?_)
    · skip
      refine wx_aload_n kc63_75 rfl rfl ?_
      refine wc_get 1 6 (.ref (108 + 43 * 1)) hS kc63_76 rfl rfl rfl rfl ?_
      refine wx_aload_n kc63_79 rfl rfl ?_
      refine wc_get 1 6 (.ref 2) hS kc63_80 rfl rfl rfl rfl ?_
      refine wc_get 2 2 (zrA 3) hS kc63_83 rfl rfl rfl rfl ?_
      refine wx_iload_n kc63_86 rfl rfl ?_
      refine wx_iconst (nI 1) kc63_87 (by decide) ?_
      refine wn_iadd (k + 1) kc63_88 rfl ?_
      refine wx_iload_n kc63_89 rfl rfl ?_
      refine wcW_call hS kc63_90 rfl rfl (by decide) rfl ?_
      refine cW_goToName hS hI2 (by decide) (zWK_IV hV2) (zga_3 hS) (Or.inl rfl) (by omega) hT2 hx (fun c3 h3 => ?_)
      rw [hE2] at h3 ⊢
      show zm_wp _ 63 93 [.ref 1, .int (nI 0), .int (nI (c 0 1)), .int (nI k), .int ((zwt (zt0 s) 0 k 0).1)] [.int (zna (zwt (zt0 s) (k + 1) (s 0 1 - k - 1) 0))] (zch h0 c3) _
      refine wx_ireturn kc63_93 rfl rfl ?_
      exact hq k hk0 hzk c2 c3 h2 hq67 h3
    · skip
      refine wx_iload kc63_70 rfl rfl ?_
      refine wx_goto kc63_72 ?_
      refine wx_ireturn kc63_93 rfl rfl ?_
      exact hno k hk0 hzk c2 h2 hq67
  · skip
    have hz1 := hz (zmtk_lt (fun k hk1 hk2 hk3 => hk k (by omega) ((hB k (by omega)).trans hk2) (fun i hi hn z => hk3 i (by omega) hn ((hB i (by omega)).symm.trans z))))
    show zm_wp _ 63 16 [.ref 1, .int (nI 0), .int (nI (c 0 1)), zm_un, zm_un] [.int (-1)] (zch h0 (zup c 0 1 0)) _
    refine wx_istore_n (ls' := [.ref 1, .int (nI 0), .int (nI (c 0 1)), .int (-1), zm_un]) kc63_16 rfl rfl rfl rfl ?_
    refine wx_iload_n kc63_17 rfl rfl ?_
    refine wx_if_ge kc63_18 (fun hq18 => ?_) (fun hq18 => ?_)
    · skip
      exact absurd hq18 (by decide)
    · skip
      refine wx_iconst (-1) kc63_21 (by decide) ?_
      refine wx_ireturn kc63_22 rfl rfl ?_
      exact hz1
theorem cN_readTwo1 {d : Nat} {h0 : zm_H} {c : Nat → Nat → Nat} {Q : Option Value → zm_H → Prop} {s : Nat → Nat → Nat}  (h : zIV h0 c s) (hx : h0.1 ≤ 2147483647) (hz : zmtk s < 0 → Q (some (.int (-1))) (zch h0 (zup c 0 1 0))) (hno : ∀ k, k < s 0 1 → zmtk s = nI k → ∀ c2, zWE h0 0 (zup c 0 1 0) c2 (zwt (zt0 s) 0 k 0) → (zna (zwt (zt0 s) 0 k 0)) ≠ 0 → Q (some (.int (zna (zwt (zt0 s) 0 k 0)))) (zch h0 c2)) (hq : ∀ k, k < s 0 1 → zmtk s = nI k → ∀ c2 c3, zWE h0 0 (zup c 0 1 0) c2 (zwt (zt0 s) 0 k 0) → (zna (zwt (zt0 s) 0 k 0)) = 0 → zWE h0 1 c2 c3 (zwt (zt0 s) (k + 1) (s 0 1 - k - 1) 0) → Q (some (.int (zna (zwt (zt0 s) (k + 1) (s 0 1 - k - 1) 0)))) (zch h0 c3)) : zm_wc (d + 6) mN_readTwoPaths [.ref 1, .int (nI 1)] (zch h0 c) Q := by
  refine zm_enter2 (zfl_cons rfl (zfl_cons rfl zfl_nil)) rfl ?_
  show zm_wp _ 63 0 [.ref 1, .int (nI 1), zm_un, zm_un, zm_un] [] (zch h0 c) Q
  obtain ⟨hS, hI, hM, hR, hV, hA⟩ := id h
  have hT : s 0 1 = c 0 1 := hR.1.2.1
  have hT2 : c 0 1 ≤ 1200 := hI 0 1
  have hB := hR.2.1
  have h1 := zIV_t0 h
  have hI1 := h1.2.1
  refine wx_aload_n kc63_0 rfl rfl ?_
  refine wc_get 1 6 (.ref 2) hS kc63_1 rfl rfl rfl rfl ?_
  refine wc_call hS kc63_4 rfl rfl rfl rfl rfl ?_
  refine cT_useUp hS hI ?_
  show zm_wp _ 63 7 [.ref 1, .int (nI 1), zm_un, zm_un, zm_un] [.int (nI (c 0 1))] (zch h0 (zup c 0 1 0)) _
  refine wx_istore_n (ls' := [.ref 1, .int (nI 1), .int (nI (c 0 1)), zm_un, zm_un]) kc63_7 rfl rfl rfl rfl ?_
  refine wx_aload_n kc63_8 rfl rfl ?_
  refine wc_get 1 6 (.ref 2) hS kc63_9 rfl rfl rfl rfl ?_
  refine wx_iload_n kc63_12 rfl rfl ?_
  refine wc_call hS kc63_13 rfl rfl rfl rfl rfl ?_
  refine cT_onlyZero hS hI1 hT2 (fun k hk1 hk2 hk3 => ?_) (fun hk => ?_)
  · skip
    have hzk : zmtk s = nI k := zmtk_k (by omega) (by rw [← hB k (by omega)]; exact hk2) (fun i hi hn => by rw [← hB i (by omega)]; exact hk3 i (by omega) hn)
    have hk0 : k < s 0 1 := by omega
    have hE : zcg (zup c 0 1 0) 3 0 k 0 = (zwt (zt0 s) 0 k 0) := zcg_IV h1 (by omega) (by omega)
    show zm_wp _ 63 16 [.ref 1, .int (nI 1), .int (nI (c 0 1)), zm_un, zm_un] [.int (nI k)] (zch h0 (zup c 0 1 0)) _
    refine wx_istore_n (ls' := [.ref 1, .int (nI 1), .int (nI (c 0 1)), .int (nI k), zm_un]) kc63_16 rfl rfl rfl rfl ?_
    refine wx_iload_n kc63_17 rfl rfl ?_
    refine wn_if_ge kc63_18 (by omega) ?_
    refine wx_iload_n kc63_23 rfl rfl ?_
    refine wn_if_eq kc63_24 (by decide) (fun z => absurd z (by decide)) (fun _ => ?_)
    refine wx_aload_n kc63_27 rfl rfl ?_
    refine wc_get 1 6 (.ref (108 + 43 * 0)) hS kc63_28 rfl rfl rfl rfl ?_
    refine wx_aload_n kc63_31 rfl rfl ?_
    refine wc_get 1 6 (.ref 2) hS kc63_32 rfl rfl rfl rfl ?_
    refine wc_get 2 2 (zrA 3) hS kc63_35 rfl rfl rfl rfl ?_
    refine wx_iconst (nI 0) kc63_38 (by decide) ?_
    refine wx_iload_n kc63_39 rfl rfl ?_
    refine wcW_call hS kc63_40 rfl rfl (by decide) rfl ?_
    refine cW_goToName hS hI1 (by decide) (zWK_IV h1) (zga_3 hS) (Or.inl rfl) (Nat.zero_le _) (by omega) hx (fun c2 h2 => ?_)
    rw [hE] at h2 ⊢
    have hI2 := h2.2.1
    have hV2 := zIV_GF h1 h2.1 hI2
    have hE2 : zcg c2 3 (k + 1) (c 0 1) 0 = (zwt (zt0 s) (k + 1) (s 0 1 - k - 1) 0) := zcg_IV hV2 (by omega) hT2
    show zm_wp _ 63 43 [.ref 1, .int (nI 1), .int (nI (c 0 1)), .int (nI k), zm_un] [.int (zna (zwt (zt0 s) 0 k 0))] (zch h0 c2) _
    refine wx_goto kc63_43 ?_
    refine wx_istore (ls' := [.ref 1, .int (nI 1), .int (nI (c 0 1)), .int (nI k), .int (zna (zwt (zt0 s) 0 k 0))]) kc63_63 rfl rfl rfl rfl ?_
    refine wx_iload kc63_65 rfl rfl ?_
    refine wx_if_eq kc63_67 (fun hq67 => ?_) (fun hq67 => ?_)
    · skip
      refine wx_aload_n kc63_75 rfl rfl ?_
      refine wc_get 1 6 (.ref (108 + 43 * 1)) hS kc63_76 rfl rfl rfl rfl ?_
      refine wx_aload_n kc63_79 rfl rfl ?_
      refine wc_get 1 6 (.ref 2) hS kc63_80 rfl rfl rfl rfl ?_
      refine wc_get 2 2 (zrA 3) hS kc63_83 rfl rfl rfl rfl ?_
      refine wx_iload_n kc63_86 rfl rfl ?_
      refine wx_iconst (nI 1) kc63_87 (by decide) ?_
      refine wn_iadd (k + 1) kc63_88 rfl ?_
      refine wx_iload_n kc63_89 rfl rfl ?_
      refine wcW_call hS kc63_90 rfl rfl (by decide) rfl ?_
      refine cW_goToName hS hI2 (by decide) (zWK_IV hV2) (zga_3 hS) (Or.inl rfl) (by omega) hT2 hx (fun c3 h3 => ?_)
      rw [hE2] at h3 ⊢
      show zm_wp _ 63 93 [.ref 1, .int (nI 1), .int (nI (c 0 1)), .int (nI k), .int (zna (zwt (zt0 s) 0 k 0))] [.int (zna (zwt (zt0 s) (k + 1) (s 0 1 - k - 1) 0))] (zch h0 c3) _
      refine wx_ireturn kc63_93 rfl rfl ?_
      exact hq k hk0 hzk c2 c3 h2 hq67 h3
    · skip
      refine wx_iload kc63_70 rfl rfl ?_
      refine wx_goto kc63_72 ?_
      refine wx_ireturn kc63_93 rfl rfl ?_
      exact hno k hk0 hzk c2 h2 hq67
  · skip
    have hz1 := hz (zmtk_lt (fun k hk1 hk2 hk3 => hk k (by omega) ((hB k (by omega)).trans hk2) (fun i hi hn z => hk3 i (by omega) hn ((hB i (by omega)).symm.trans z))))
    show zm_wp _ 63 16 [.ref 1, .int (nI 1), .int (nI (c 0 1)), zm_un, zm_un] [.int (-1)] (zch h0 (zup c 0 1 0)) _
    refine wx_istore_n (ls' := [.ref 1, .int (nI 1), .int (nI (c 0 1)), .int (-1), zm_un]) kc63_16 rfl rfl rfl rfl ?_
    refine wx_iload_n kc63_17 rfl rfl ?_
    refine wx_if_ge kc63_18 (fun hq18 => ?_) (fun hq18 => ?_)
    · skip
      exact absurd hq18 (by decide)
    · skip
      refine wx_iconst (-1) kc63_21 (by decide) ?_
      refine wx_ireturn kc63_22 rfl rfl ?_
      exact hz1
