/-! symlink and rename, in the class -/
theorem fN_symlink {d : Nat} {h0 : zm_H} {c : Nat → Nat → Nat} {Q : Option Value → zm_H → Prop} {s : Nat → Nat → Nat}  (h : zIV h0 c s) (hx : h0.1 ≤ 2147483646) (hq : ∀ h1 c2, zGR h0 h1 → zIV h1 c2 (zsSym s).2 → Q (some (.int (zsSym s).1)) (zch h1 c2)) : zm_wc (d + 7) mN_symlink [.ref 1] (zch h0 c) Q := by
  refine zm_enter2 (zfl_cons rfl zfl_nil) rfl ?_
  show zm_wp _ 51 0 [.ref 1, zm_un, zm_un, zm_un, zm_un, zm_un] [] (zch h0 c) Q
  obtain ⟨hS, hI, hM, hR, hV, hA⟩ := id h
  have hx1 : h0.1 ≤ 2147483647 := by omega
  have hT : s 0 1 = c 0 1 := hR.1.2.1
  have hT2 : c 0 1 ≤ 1200 := hI 0 1
  have h1 := zIV_t0 h
  have hI1 := h1.2.1
  have hB := hR.2.1
  refine wx_aload_n kc51_0 rfl rfl ?_
  refine wc_get 1 6 (.ref 2) hS kc51_1 rfl rfl rfl rfl ?_
  refine wc_call hS kc51_4 rfl rfl rfl rfl rfl ?_
  refine cT_useUp hS hI ?_
  show zm_wp _ 51 7 [.ref 1, zm_un, zm_un, zm_un, zm_un, zm_un] [.int (nI (c 0 1))] (zch h0 (zup c 0 1 0)) _
  refine wx_istore_n (ls' := [.ref 1, .int (nI (c 0 1)), zm_un, zm_un, zm_un, zm_un]) kc51_7 rfl rfl rfl rfl ?_
  refine wx_aload_n kc51_8 rfl rfl ?_
  refine wc_get 1 6 (.ref 2) hS kc51_9 rfl rfl rfl rfl ?_
  refine wx_iload_n kc51_12 rfl rfl ?_
  refine wc_call hS kc51_13 rfl rfl rfl rfl rfl ?_
  refine cT_onlyZero hS hI1 hT2 (fun k hk1 hk2 hk3 => ?_) (fun hk => ?_)
  · skip
    have hzk : zmtk s = nI k := zmtk_k (by omega) (by rw [← hB k (by omega)]; exact hk2) (fun i hi hn => by rw [← hB i (by omega)]; exact hk3 i (by omega) hn)
    have hk0 : k < s 0 1 := by omega
    have hkc : (zmtk s).toNatClampNeg = k := by rw [hzk]; exact nI_clamp (by omega)
    have hkn : ¬ zmtk s < 0 := by rw [hzk]; exact znI_ge (by omega)
    have hE : zcg (zup c 0 1 0) 3 0 k 0 = (zwt (zt0 s) 0 k 0) := zcg_IV h1 (by omega) (by omega)
    obtain ⟨nt, hnt⟩ : ∃ nt, nt = c 0 1 - k - 1 := ⟨_, rfl⟩
    have hnt2 : s 0 1 - k - 1 = nt := by omega
    have ht7 : ∀ i, i < nt → k + 1 + i < 1200 := fun i hi => by omega
    show zm_wp _ 51 16 [.ref 1, .int (nI (c 0 1)), zm_un, zm_un, zm_un, zm_un] [.int (nI k)] (zch h0 (zup c 0 1 0)) _
    refine wx_istore_n (ls' := [.ref 1, .int (nI (c 0 1)), .int (nI k), zm_un, zm_un, zm_un]) kc51_16 rfl rfl rfl rfl ?_
    refine wx_iload_n kc51_17 rfl rfl ?_
    refine wx_iload_n kc51_18 rfl rfl ?_
    refine wn_isub ((c 0 1) - k) kc51_19 (by omega) ?_
    refine wx_iconst (nI 1) kc51_20 (by decide) ?_
    refine wn_isub (((c 0 1) - k) - 1) kc51_21 (by omega) ?_
    rw [← hnt]
    show zm_wp _ 51 22 [.ref 1, .int (nI (c 0 1)), .int (nI k), zm_un, zm_un, zm_un] [.int (nI nt)] (zch h0 (zup c 0 1 0)) _
    refine wx_istore_n (ls' := [.ref 1, .int (nI (c 0 1)), .int (nI k), .int (nI nt), zm_un, zm_un]) kc51_22 rfl rfl rfl rfl ?_
    refine wx_iload_n kc51_23 rfl rfl ?_
    refine wn_if_lt kc51_24 (by omega) ?_
    refine wx_iload_n kc51_27 rfl rfl ?_
    refine wx_iconst (nI 1) kc51_28 (by decide) ?_
    refine wn_icmp_lt kc51_29 (by omega) (by decide) (fun hq29 => ?_) (fun hq29 => ?_)
    · skip
      refine wx_iconst (-1) kc51_39 (by decide) ?_
      refine wx_ireturn kc51_40 rfl rfl ?_
      have e : zsSym s = (-1, zt0 s) := by
        unfold zsSym
        rw [hkc, hnt2, if_pos (Or.inr (by omega))]
      have k := hq h0 _ (zGR_rf h0) (show zIV h0 _ (zsSym s).2 by rw [e]; exact h1)
      rw [e] at k
      exact k
    · skip
      refine wx_iload_n kc51_32 rfl rfl ?_
      refine wx_sipush (nI 1000) kc51_33 (by decide) ?_
      refine wn_icmp_le kc51_36 (by omega) (by decide) (fun hq36 => ?_) (fun hq36 => ?_)
      · skip
        refine wx_aload_n kc51_41 rfl rfl ?_
        refine wc_get 1 6 (.ref (108 + 43 * 0)) hS kc51_42 rfl rfl rfl rfl ?_
        refine wx_aload_n kc51_45 rfl rfl ?_
        refine wc_get 1 6 (.ref 2) hS kc51_46 rfl rfl rfl rfl ?_
        refine wc_get 2 2 (zrA 3) hS kc51_49 rfl rfl rfl rfl ?_
        refine wx_iconst (nI 0) kc51_52 (by decide) ?_
        refine wx_iload_n kc51_53 rfl rfl ?_
        refine wcW_call hS kc51_54 rfl rfl (by decide) rfl ?_
        refine cW_goToName hS hI1 (by decide) (zWK_IV h1) (zga_3 hS) (Or.inl rfl) (Nat.zero_le _) (by omega) hx1 (fun c2 h2 => ?_)
        rw [hE] at h2 ⊢
        have hI2 := h2.2.1
        have hV2 := zIV_GF h1 h2.1 hI2
        obtain ⟨f, hf⟩ : ∃ f, f = c2 23 0 := ⟨_, rfl⟩
        have hf40 : f ≤ 40 := by rw [hf]; exact hI2 23 0
        show zm_wp _ 51 57 [.ref 1, .int (nI (c 0 1)), .int (nI k), .int (nI nt), zm_un, zm_un] [.int (zna (zwt (zt0 s) 0 k 0))] (zch h0 c2) _
        refine wx_istore (ls' := [.ref 1, .int (nI (c 0 1)), .int (nI k), .int (nI nt), .int (zna (zwt (zt0 s) 0 k 0)), zm_un]) kc51_57 rfl rfl rfl rfl ?_
        refine wx_iload kc51_59 rfl rfl ?_
        refine wx_if_eq kc51_61 (fun hq61 => ?_) (fun hq61 => ?_)
        · skip
          obtain ⟨w1, w2, w3, w4, w5, w6⟩ := zWE_nm h1 (by omega) hq61 h2
          obtain ⟨_, _, a1, a2, a3, a4, a5, a6⟩ := zwt_nm h1 (f := 0) (k := k) (by omega) hq61
          have hfo2 : f = (zwt (zt0 s) 0 k 0).2.1 := hf.trans w1
          obtain ⟨q1, q2⟩ := zNM_q h1 (by omega) hq61 h2
          obtain ⟨dd, hdd⟩ : ∃ dd, dd = (zwt (zt0 s) 0 k 0).2.2.1 := ⟨_, rfl⟩
          obtain ⟨q, hqq⟩ : ∃ q, q = (zwt (zt0 s) 0 k 0).2.2.2.1 := ⟨_, rfl⟩
          rw [← hfo2, ← hdd, ← hqq] at a6
          rw [← hdd] at a1 a2 a3 w2
          rw [← hqq] at a4 a5 w6 q1 q2
          refine wx_aload_n kc51_67 rfl rfl ?_
          refine wc_get 1 6 (.ref (108 + 43 * 0)) hS kc51_68 rfl rfl rfl rfl ?_
          refine wcW_get (zrF f) hS kc51_71 (by decide) (congrArg zrF hf.symm) ?_
          refine wcF_null kc51_74 (fun hq74 => ?_) (fun hq74 => ?_)
          · skip
            refine wx_aload_n kc51_80 rfl rfl ?_
            refine wc_get 1 6 (.ref 4) hS kc51_81 rfl rfl rfl rfl ?_
            obtain ⟨g, hg⟩ : ∃ g, g = zcx c2 40 1 := ⟨_, rfl⟩
            have hgx : g = if zfx (zt0 s) 39 2 ≤ 40 then zfx (zt0 s) 39 2 else 0 := by rw [hg]; exact zcx_t hV2
            have t1 : zctk c2 = zmat (zt0 s) := zctk_t hV2
            have t2 : zcgr c2 dd = zmgr (zt0 s) dd (zmni (zt0 s) dd (zt0 s 0 10) + 1) := zcgr_t hV2 a1 a2 (by rw [a3]; decide)
            have t3 : zt0 s 0 10 = c2 0 2 := hV2.2.2.2.1.1.2.2
            have t4 : zt0 s 0 0 = c2 0 0 := hV2.2.2.2.1.1.1
            refine wc_call hS kc51_84 rfl rfl rfl rfl rfl ?_
            refine cL_absent hS hI2 ?_
            rw [← hg]
            show zm_wp _ 51 87 [.ref 1, .int (nI (c 0 1)), .int (nI k), .int (nI nt), .int (zna (zwt (zt0 s) 0 k 0)), zm_un] [zrF g] (zch h0 c2) _
            refine wx_astore (ls' := [.ref 1, .int (nI (c 0 1)), .int (nI k), .int (nI nt), .int (zna (zwt (zt0 s) 0 k 0)), zrF g]) kc51_87 (zrF_k _) rfl rfl rfl ?_
            refine wx_aload kc51_89 rfl (zrF_k _) ?_
            refine wcF_null kc51_91 (fun hq91 => ?_) (fun hq91 => ?_)
            · skip
              refine wx_bipush (-7) kc51_112 (by decide) ?_
              refine wx_ireturn kc51_114 rfl rfl ?_
              have eN : zsNew (zt0 s) 3 (if 59 < nt then 1 else 0) dd q = (-7, zt0 s) := by
                unfold zsNew
                have h60 : c2 0 2 ≤ 60 := hI2 0 2
                refine if_pos ?_
                by_cases hfx : 40 < zfx (zt0 s) 39 2
                · exact Or.inl hfx
                · rw [if_pos (by omega)] at hgx
                  have hge := (zfx_le (s := zt0 s) 39 2).1
                  refine Or.inr ?_
                  first
                  | exact absurd hq91 (by omega)
                  | (by_cases hcd : 60 ≤ c2 0 2 ∨ c2 0 0 < zctk c2 + mr + zcgr c2 dd
                     · rw [← hmr]
                       omega
                     · exact absurd (if_neg hcd) hq109)
              have e : zsSym s = (-7, zt0 s) := by
                unfold zsSym
                rw [hkc, hnt2, if_neg (fun z => z.elim hkn (fun y => by omega))]
                rw [if_neg (fun z => z hq61), ← hfo2]
                rw [if_neg (by omega), ← hdd, ← hqq, eN]
                unfold zsSy1
                exact if_pos (show (-7 : Int32) < 0 by decide)
              have k := hq h0 _ (zGR_rf h0) (show zIV h0 _ (zsSym s).2 by rw [e]; exact hV2)
              rw [e] at k
              exact k
            · skip
              refine wx_aload_n kc51_94 rfl rfl ?_
              refine wx_aload_n kc51_95 rfl rfl ?_
              refine wc_get 1 6 (.ref (108 + 43 * 0)) hS kc51_96 rfl rfl rfl rfl ?_
              refine wcW_get (zrF dd) hS kc51_99 (by decide) (congrArg zrF w2) ?_
              refine wx_iload_n kc51_102 rfl rfl ?_
              obtain ⟨mr, hmr⟩ : ∃ mr, mr = (if 59 < nt then 1 else 0) := ⟨_, rfl⟩
              have hmr1 : mr ≤ 1 := by rw [hmr]; split <;> decide
              refine wx_static kc51_103 rfl rfl rfl ?_
              refine cN_roomOfTarget (by omega) ?_
              rw [← hmr]
              show zm_wp _ 51 106 [.ref 1, .int (nI (c 0 1)), .int (nI k), .int (nI nt), .int (zna (zwt (zt0 s) 0 k 0)), zrF g] [.int (nI mr), zrF dd, .ref 1] (zch h0 c2) _
              refine wc_call hS kc51_106 rfl rfl rfl rfl rfl ?_
              refine cN_isFullFor hS hI2 a1 a2 hmr1 ?_
              show zm_wp _ 51 109 [.ref 1, .int (nI (c 0 1)), .int (nI k), .int (nI nt), .int (zna (zwt (zt0 s) 0 k 0)), zrF g] [.int (nI (if 60 ≤ c2 0 2 ∨ c2 0 0 < zctk c2 + mr + zcgr c2 dd then 1 else 0))] (zch h0 c2) _
              refine wn_if_eq kc51_109 (by split <;> decide) (fun hq109 => ?_) (fun hq109 => ?_)
              · skip
                have hgz : zfx (zt0 s) 39 2 = g := by
                  split at hgx
                  · exact hgx.symm
                  · omega
                have hg1 : 2 ≤ g := by rw [← hgz]; exact (zfx_le 39 2).1
                have hg2 : g ≤ 40 := by
                  split at hgx
                  · omega
                  · omega
                have hgk : zt0 s 3 g = 0 := by rw [← hgz]; exact zfx_k 39 2 rfl (by omega)
                have hnf : ¬ (60 ≤ c2 0 2 ∨ c2 0 0 < zctk c2 + mr + zcgr c2 dd) := fun z => by
                  rw [if_pos z] at hq109
                  omega
                have hnf2 : ¬ (40 < g ∨ zt0 s 0 10 = 60 ∨ zt0 s 0 0 < zmat (zt0 s) + mr + zmgr (zt0 s) dd (zmni (zt0 s) dd (zt0 s 0 10) + 1)) := by omega
                have hr8 : zmat (zt0 s) + mr + zmgr (zt0 s) dd (zmni (zt0 s) dd (zt0 s 0 10) + 1) ≤ zt0 s 0 0 := by omega
                have hu9 : c2 0 2 < 60 := by omega
                have hn9 : 1 ≤ nt ∧ nt ≤ 1000 := ⟨by omega, by omega⟩
                have hn8 : ¬ (nt < 1 ∨ 1000 < nt) := by omega
                have hf8 : ¬ f ≠ 0 := by omega
                have hg8 : g < 2147483648 := by omega
                have hl9 : zlkn (zt0 s) dd (zls (zgd q) 0 (0 + q.length)) (zt0 s 0 10) = none := by rw [zls_gq]; exact (a6.resolve_left (fun ⟨j, j1, j2⟩ => absurd (hV2.2.2.2.2.1.1.1 j (zlkn_lt j1).1).2.2.1 (by omega))).1
                refine wx_aload kc51_115 rfl (zrF_k _) ?_
                refine wx_iconst (nI 3) kc51_117 (by decide) ?_
                refine wcF_call hS kc51_118 rfl rfl (by omega) (by omega) rfl ?_
                refine cF_begin hS (by omega) hg2 ?_
                show zm_wp _ 51 121 [.ref 1, .int (nI (c 0 1)), .int (nI k), .int (nI nt), .int (zna (zwt (zt0 s) 0 k 0)), zrF g] [] (zch h0 (zbg c2 g 3)) _
                refine wx_aload kc51_121 rfl (zrF_k _) ?_
                refine wx_aload_n kc51_123 rfl rfl ?_
                refine wc_get 1 6 (.ref 2) hS kc51_124 rfl rfl rfl rfl ?_
                refine wc_get 2 2 (zrA 3) hS kc51_127 rfl rfl rfl rfl ?_
                refine wx_iload_n kc51_130 rfl rfl ?_
                refine wx_iconst (nI 1) kc51_131 (by decide) ?_
                refine wn_iadd (k + 1) kc51_132 rfl ?_
                refine wx_iload_n kc51_133 rfl rfl ?_
                show zm_wp _ 51 134 [.ref 1, .int (nI (c 0 1)), .int (nI k), .int (nI nt), .int (zna (zwt (zt0 s) 0 k 0)), zrF g] [.int (nI nt), .int (nI (k + 1)), zrA 3, zrF g] (zch h0 (zbg c2 g 3)) _
                refine wcF_call hS kc51_134 rfl rfl (by omega) (by omega) rfl ?_
                refine cF_setTarget (r := g) (b := 3) (nb := 1200) (k := k + 1) (n := nt) hS (zCI_bg hI2 (by decide)) (by omega) hg2 (fun z => hV2.2.2.2.2.2.1 g z) (zga_3 hS) (by omega) (by omega) hx1 (fun h3 c3 b hNt => ?_)
                have hS3 := zEX_CS hNt.1 hS
                have hI3 := hNt.2.2.2.2.2.2.2.2
                have hn7 := hNt.2.2.2.2.2.2.1
                have m17 : c3 17 0 = c2 17 0 := hn7 17 0 (by decide) (by omega) (by omega)
                have m18 : c3 18 0 = c2 18 0 := hn7 18 0 (by decide) (by omega) (by omega)
                have m20 : c3 20 0 = c2 20 0 := hn7 20 0 (by decide) (by omega) (by omega)
                have m21 : c3 21 0 = c2 21 0 := hn7 21 0 (by decide) (by omega) (by omega)
                have m02 : c3 0 2 = c2 0 2 := hn7 0 2 (by decide) (by omega) (by omega)
                have m10 : ∀ i, c3 10 i = c2 10 i := fun i => hn7 10 i (by decide) (by omega) (by omega)
                have m13 : ∀ i, c3 13 i = c2 13 i := fun i => hn7 13 i (by decide) (by omega) (by omega)
                have hx3 := (zEX_nx hNt.1).2.1
                show zm_wp _ 51 137 [.ref 1, .int (nI (c 0 1)), .int (nI k), .int (nI nt), .int (zna (zwt (zt0 s) 0 k 0)), zrF g] [] (zch h3 c3) _
                refine wx_aload_n kc51_137 rfl rfl ?_
                refine wc_get 1 6 (.ref 46) hS3 kc51_138 rfl rfl rfl rfl ?_
                refine wx_aload kc51_141 rfl (zrF_k _) ?_
                refine wx_aload_n kc51_143 rfl rfl ?_
                refine wc_get 1 6 (.ref (108 + 43 * 0)) hS3 kc51_144 rfl rfl rfl rfl ?_
                obtain ⟨nb, gk, gl⟩ := w5
                have hrow := zIV_row hV2 (i := c2 0 2) (by omega)
                have hne17 := zNB_ne hV2 hNt hgk hg2 gk
                have nb12 := gk.1.2.2.2
                obtain ⟨R, hRR⟩ : ∃ R, R = c2 10 (c2 0 2) := ⟨_, rfl⟩
                rw [← hRR] at hrow
                refine wc_call hS3 kc51_147 rfl rfl rfl rfl rfl ?_
                refine cQ_give (w := 0) (r := R) (dd := dd) (nb := nb) hS3 hI3 (by decide) (by omega) (by rw [m10, m02, hRR]) hrow.1 hrow.2.1 (m21.trans w2) a1 a2 (by omega) hg2 (fun z => by rw [m13] at z ⊢; exact zEX_ga hNt.1 (hrow.2.2 z)) (by rw [m17]; exact zEX_ga hNt.1 gk.1) (by omega) (by omega) (by omega) (fun h4 c4 a hN => ?_)
                have hS4 := zEX_CS hN.1 hS3
                have hN2 : zNB 13 14 255 h3 h4 (zup c3 0 2 (c3 0 2 + 1)) c4 R a q.length (fun i => c3 19 (1200 * c3 17 0 + (c3 18 0 + i))) := by rw [← w6, ← m20]; exact hN
                have q3 : ∀ i, i < q.length → zgd q i = c3 19 (1200 * c3 17 0 + (c3 18 0 + i)) := fun i hi => by
                  rw [q1 i hi, m17, m18]
                  exact (hNt.2.2.2.2.2.2.2.1 (c2 17 0) (c2 18 0 + i) hne17 (by omega)).symm
                show zm_wp _ 51 150 [.ref 1, .int (nI (c 0 1)), .int (nI k), .int (nI nt), .int (zna (zwt (zt0 s) 0 k 0)), zrF g] [] (zch h4 (zgv c4 R dd g)) _
                refine wx_aload kc51_150 rfl (zrF_k _) ?_
                refine wcF_get (.int (nI g)) hS4 kc51_152 (by omega) (by omega) rfl ?_
                refine wx_ireturn kc51_155 rfl rfl ?_
                have ht8 : ∀ j, zt0 s 1 j = s 1 j := fun j => zup_na _ _ (by decide)
                have ht6 : ∀ i, i < 1200 → c2 19 (1200 * 3 + i) = zt0 s 1 i := hV2.2.2.2.1.2.1
                have ht9 : ∀ i, i < nt → (fun i => s 1 (k + 1 + i)) i = (fun i => c2 19 (1200 * 3 + (k + 1 + i))) i := fun i hi => by
                  show s 1 (k + 1 + i) = c2 19 (1200 * 3 + (k + 1 + i))
                  rw [ht6 _ (ht7 i hi), ht8]
                have hNt2 : zNB 8 9 1000 h0 h3 (zbg c2 g 3) c3 g b nt (fun i => c2 19 (1200 * 3 + (k + 1 + i))) := hNt
                have hr9 : zmat (zt0 s) + (if 59 < nt then 1 else 0) + zmgr (zt0 s) dd (zmni (zt0 s) dd (zt0 s 0 10) + 1) ≤ zt0 s 0 0 := by rw [← hmr]; exact hr8
                have hR9 : c3 10 (c3 0 2) = R := by rw [m10, m02, hRR]
                have hv9 : zIV h4 (zgv c4 R dd g) (zadd (zstg (zsbg (zt0 s) g 3) g nt (fun i => s 1 (k + 1 + i))) dd q.length (zgd q) g) := zIV_sy hV2 hNt2 hN2 hR9 hu9 a1 a2 a3 hg1 hg2 hgk a4 hn9 ht9 hl9 q3 q2 hr9
                have eN : zsNew (zt0 s) 3 (if 59 < nt then 1 else 0) dd q = (nI g, zadd (zsbg (zt0 s) g 3) dd q.length (zgd q) g) := by
                  unfold zsNew
                  rw [hgz, ← hmr, if_neg hnf2]
                  rfl
                have e : zsSym s = (nI g, zadd (zstg (zsbg (zt0 s) g 3) g nt (fun i => s 1 (k + 1 + i))) dd q.length (zgd q) g) := by
                  unfold zsSym
                  rw [hkc, hnt2, if_neg (fun z => z.elim hkn hn8), if_neg (fun z => z hq61), ← hfo2, if_neg hf8, ← hdd, ← hqq, eN]
                  unfold zsSy1
                  show (if nI g < 0 then _ else (nI g, zwr (zup (zadd (zsbg (zt0 s) g 3) dd q.length (zgd q) g) 6 (nI g).toNatClampNeg nt) 7 (1000 * (nI g).toNatClampNeg) nt (fun i => s 1 (k + 1 + i)))) = _
                  rw [if_neg (znI_ge hg8), nI_clamp hg8]
                  exact congrArg (Prod.mk _) (funext (fun A => funext (fun j => zadd_tg _ _ _ _ _ _ _ A j)))
                have k := hq h4 _ ⟨h3, hNt.1, hN.1⟩ (show zIV h4 _ (zsSym s).2 by rw [e]; exact hv9)
                rw [e] at k
                exact k
              · skip
                refine wx_bipush (-7) kc51_112 (by decide) ?_
                refine wx_ireturn kc51_114 rfl rfl ?_
                have eN : zsNew (zt0 s) 3 (if 59 < nt then 1 else 0) dd q = (-7, zt0 s) := by
                  unfold zsNew
                  have h60 : c2 0 2 ≤ 60 := hI2 0 2
                  refine if_pos ?_
                  by_cases hfx : 40 < zfx (zt0 s) 39 2
                  · exact Or.inl hfx
                  · rw [if_pos (by omega)] at hgx
                    have hge := (zfx_le (s := zt0 s) 39 2).1
                    refine Or.inr ?_
                    first
                    | exact absurd hq91 (by omega)
                    | (by_cases hcd : 60 ≤ c2 0 2 ∨ c2 0 0 < zctk c2 + mr + zcgr c2 dd
                       · rw [← hmr]
                         omega
                       · exact absurd (if_neg hcd) hq109)
                have e : zsSym s = (-7, zt0 s) := by
                  unfold zsSym
                  rw [hkc, hnt2, if_neg (fun z => z.elim hkn (fun y => by omega))]
                  rw [if_neg (fun z => z hq61), ← hfo2]
                  rw [if_neg (by omega), ← hdd, ← hqq, eN]
                  unfold zsSy1
                  exact if_pos (show (-7 : Int32) < 0 by decide)
                have k := hq h0 _ (zGR_rf h0) (show zIV h0 _ (zsSym s).2 by rw [e]; exact hV2)
                rw [e] at k
                exact k
          · skip
            refine wx_bipush (-3) kc51_77 (by decide) ?_
            refine wx_ireturn kc51_79 rfl rfl ?_
            have e : zsSym s = (-3, zt0 s) := by
              unfold zsSym
              rw [hkc, hnt2, if_neg (fun z => z.elim hkn (fun y => by omega))]
              rw [if_neg (fun z => z hq61), ← hfo2]
              rw [if_pos (by omega)]
            have k := hq h0 _ (zGR_rf h0) (show zIV h0 _ (zsSym s).2 by rw [e]; exact hV2)
            rw [e] at k
            exact k
        · skip
          refine wx_iload kc51_64 rfl rfl ?_
          refine wx_ireturn kc51_66 rfl rfl ?_
          have e : zsSym s = (zna (zwt (zt0 s) 0 k 0), zt0 s) := by
            unfold zsSym
            rw [hkc, hnt2, if_neg (fun z => z.elim hkn (fun y => by omega))]
            rw [if_pos hq61]
          have k := hq h0 _ (zGR_rf h0) (show zIV h0 _ (zsSym s).2 by rw [e]; exact hV2)
          rw [e] at k
          exact k
      · skip
        refine wx_iconst (-1) kc51_39 (by decide) ?_
        refine wx_ireturn kc51_40 rfl rfl ?_
        have e : zsSym s = (-1, zt0 s) := by
          unfold zsSym
          rw [hkc, hnt2, if_pos (Or.inr (by omega))]
        have k := hq h0 _ (zGR_rf h0) (show zIV h0 _ (zsSym s).2 by rw [e]; exact h1)
        rw [e] at k
        exact k
  · skip
    have hz := zmtk_lt (s := s) (fun k hk1 hk2 hk3 => hk k (by omega) ((hB k (by omega)).trans hk2) (fun i hi hn z => hk3 i (by omega) hn ((hB i (by omega)).symm.trans z)))
    show zm_wp _ 51 16 [.ref 1, .int (nI (c 0 1)), zm_un, zm_un, zm_un, zm_un] [.int (-1)] (zch h0 (zup c 0 1 0)) _
    refine wx_istore_n (ls' := [.ref 1, .int (nI (c 0 1)), .int (-1), zm_un, zm_un, zm_un]) kc51_16 rfl rfl rfl rfl ?_
    refine wx_iload_n kc51_17 rfl rfl ?_
    refine wx_iload_n kc51_18 rfl rfl ?_
    refine wx_isub kc51_19 ?_
    refine wx_iconst (nI 1) kc51_20 (by decide) ?_
    refine wx_isub kc51_21 ?_
    refine wx_istore_n (ls' := [.ref 1, .int (nI (c 0 1)), .int (-1), .int (nI (c 0 1) - (-1) - nI 1), zm_un, zm_un]) kc51_22 rfl rfl rfl rfl ?_
    refine wx_iload_n kc51_23 rfl rfl ?_
    refine wx_if_lt kc51_24 (fun hq24 => ?_) (fun hq24 => ?_)
    · skip
      refine wx_iconst (-1) kc51_39 (by decide) ?_
      refine wx_ireturn kc51_40 rfl rfl ?_
      have e : zsSym s = (-1, zt0 s) := by
        unfold zsSym
        rw [if_pos (Or.inl hz)]
      have k := hq h0 _ (zGR_rf h0) (show zIV h0 _ (zsSym s).2 by rw [e]; exact h1)
      rw [e] at k
      exact k
    · skip
      first | exact absurd hq24 (by decide) | exact absurd (by decide) hq24
