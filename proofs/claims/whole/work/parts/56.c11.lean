/-! calls of the class that give names -/
theorem fN_make {d : Nat} {h0 : zm_H} {c : Nat → Nat → Nat} {Q : Option Value → zm_H → Prop} {s : Nat → Nat → Nat} {x : Int32}  (h : zIV h0 c s) (hx : h0.1 ≤ 2147483646) (hq : ∀ h1 c2, zGR h0 h1 → zIV h1 c2 (zsMake s x).2 → Q (some (.int (zsMake s x).1)) (zch h1 c2)) : zm_wc (d + 7) mN_make [.ref 1, .int x] (zch h0 c) Q := by
  refine zm_enter2 (zfl_cons rfl (zfl_cons rfl zfl_nil)) rfl ?_
  show zm_wp _ 49 0 [.ref 1, .int x, zm_un, zm_un] [] (zch h0 c) Q
  obtain ⟨hS, hI, hM, hR, hV, hA⟩ := id h
  have hx1 : h0.1 ≤ 2147483647 := by omega
  have hT : s 0 1 = c 0 1 := hR.1.2.1
  have hT2 : c 0 1 ≤ 1200 := hI 0 1
  have h1 := zIV_t0 h
  refine wx_aload_n kc49_0 rfl rfl ?_
  refine wc_call hS kc49_1 rfl rfl rfl rfl rfl ?_
  refine cN_readName h hx1 (fun hz => ?_) (fun hz c2 h2 => ?_)
  · skip
    show zm_wp _ 49 4 [.ref 1, .int x, zm_un, zm_un] [.int (-1)] (zch h0 (zup c 0 1 0)) _
    refine wx_istore_n (ls' := [.ref 1, .int x, .int (-1), zm_un]) kc49_4 rfl rfl rfl rfl ?_
    refine wx_iload_n kc49_5 rfl rfl ?_
    refine wx_iconst (nI 1) kc49_6 (by decide) ?_
    refine wx_icmp_eq kc49_7 (fun hq7 => ?_) (fun hq7 => ?_)
    · skip
      subst hq7
      show zm_wp _ 49 17 [.ref 1, .int (nI 1), .int (-1), zm_un] [] (zch h0 (zup c 0 1 0)) _
      refine wx_iload_n kc49_17 rfl rfl ?_
      refine wx_if_eq kc49_18 (fun hq18 => ?_) (fun hq18 => ?_)
      · skip
        exact absurd hq18 (by decide)
      · skip
        refine wx_iload_n kc49_21 rfl rfl ?_
        refine wx_ireturn kc49_22 rfl rfl ?_
        have e : zsMake s (nI 1) = (-1, zt0 s) := by
          unfold zsMake
          rw [if_pos (Or.inr hz)]
        have k := hq h0 _ (zGR_rf h0) (show zIV h0 _ (zsMake s (nI 1)).2 by rw [e]; exact h1)
        rw [e] at k
        exact k
    · skip
      refine wx_iload_n kc49_10 rfl rfl ?_
      refine wx_iconst (nI 2) kc49_11 (by decide) ?_
      refine wx_icmp_eq kc49_12 (fun hq12 => ?_) (fun hq12 => ?_)
      · skip
        subst hq12
        show zm_wp _ 49 17 [.ref 1, .int (nI 2), .int (-1), zm_un] [] (zch h0 (zup c 0 1 0)) _
        refine wx_iload_n kc49_17 rfl rfl ?_
        refine wx_if_eq kc49_18 (fun hq18 => ?_) (fun hq18 => ?_)
        · skip
          exact absurd hq18 (by decide)
        · skip
          refine wx_iload_n kc49_21 rfl rfl ?_
          refine wx_ireturn kc49_22 rfl rfl ?_
          have e : zsMake s (nI 2) = (-1, zt0 s) := by
            unfold zsMake
            rw [if_pos (Or.inr hz)]
          have k := hq h0 _ (zGR_rf h0) (show zIV h0 _ (zsMake s (nI 2)).2 by rw [e]; exact h1)
          rw [e] at k
          exact k
      · skip
        refine wx_iconst (-1) kc49_15 (by decide) ?_
        refine wx_ireturn kc49_16 rfl rfl ?_
        have e : zsMake s x = (-1, zt0 s) := by
          unfold zsMake
          rw [if_pos (Or.inl (fun z => z.elim hq7 hq12))]
        have k := hq h0 _ (zGR_rf h0) (show zIV h0 _ (zsMake s x).2 by rw [e]; exact h1)
        rw [e] at k
        exact k
  · skip
    have hI2 := h2.2.1
    have hV2 := zIV_GF h1 h2.1 hI2
    obtain ⟨f, hf⟩ : ∃ f, f = c2 23 0 := ⟨_, rfl⟩
    have hf40 : f ≤ 40 := by rw [hf]; exact hI2 23 0
    show zm_wp _ 49 4 [.ref 1, .int x, zm_un, zm_un] [.int (zna (zwt (zt0 s) 0 (s 0 1) 0))] (zch h0 c2) _
    refine wx_istore_n (ls' := [.ref 1, .int x, .int (zna (zwt (zt0 s) 0 (s 0 1) 0)), zm_un]) kc49_4 rfl rfl rfl rfl ?_
    refine wx_iload_n kc49_5 rfl rfl ?_
    refine wx_iconst (nI 1) kc49_6 (by decide) ?_
    refine wx_icmp_eq kc49_7 (fun hq7 => ?_) (fun hq7 => ?_)
    · skip
      subst hq7
      show zm_wp _ 49 17 [.ref 1, .int (nI 1), .int (zna (zwt (zt0 s) 0 (s 0 1) 0)), zm_un] [] (zch h0 c2) _
      refine wx_iload_n kc49_17 rfl rfl ?_
      refine wx_if_eq kc49_18 (fun hq18 => ?_) (fun hq18 => ?_)
      · skip
        obtain ⟨w1, w2, w3, w4, w5, w6⟩ := zWE_nm h1 (by omega) hq18 h2
        obtain ⟨_, _, a1, a2, a3, a4, a5, a6⟩ := zwt_nm h1 (f := 0) (k := s 0 1) (by omega) hq18
        have hfo2 : f = (zwt (zt0 s) 0 (s 0 1) 0).2.1 := hf.trans w1
        obtain ⟨q1, q2⟩ := zNM_q h1 (by omega) hq18 h2
        obtain ⟨dd, hdd⟩ : ∃ dd, dd = (zwt (zt0 s) 0 (s 0 1) 0).2.2.1 := ⟨_, rfl⟩
        obtain ⟨q, hqq⟩ : ∃ q, q = (zwt (zt0 s) 0 (s 0 1) 0).2.2.2.1 := ⟨_, rfl⟩
        rw [← hfo2, ← hdd, ← hqq] at a6
        rw [← hdd] at a1 a2 a3 w2
        rw [← hqq] at a4 a5 w6 q1 q2
        refine wx_aload_n kc49_23 rfl rfl ?_
        refine wc_get 1 6 (.ref (108 + 43 * 0)) hS kc49_24 rfl rfl rfl rfl ?_
        refine wcW_get (zrF f) hS kc49_27 (by decide) (congrArg zrF hf.symm) ?_
        refine wcF_null kc49_30 (fun hq30 => ?_) (fun hq30 => ?_)
        · skip
          refine wx_aload_n kc49_36 rfl rfl ?_
          refine wc_get 1 6 (.ref 4) hS kc49_37 rfl rfl rfl rfl ?_
          obtain ⟨g, hg⟩ : ∃ g, g = zcx c2 40 1 := ⟨_, rfl⟩
          have hgx : g = if zfx (zt0 s) 39 2 ≤ 40 then zfx (zt0 s) 39 2 else 0 := by rw [hg]; exact zcx_t hV2
          have t1 : zctk c2 = zmat (zt0 s) := zctk_t hV2
          have t2 : zcgr c2 dd = zmgr (zt0 s) dd (zmni (zt0 s) dd (zt0 s 0 10) + 1) := zcgr_t hV2 a1 a2 (by rw [a3]; decide)
          have t3 : zt0 s 0 10 = c2 0 2 := hV2.2.2.2.1.1.2.2
          have t4 : zt0 s 0 0 = c2 0 0 := hV2.2.2.2.1.1.1
          refine wc_call hS kc49_40 rfl rfl rfl rfl rfl ?_
          refine cL_absent hS hI2 ?_
          rw [← hg]
          show zm_wp _ 49 43 [.ref 1, .int (nI 1), .int (zna (zwt (zt0 s) 0 (s 0 1) 0)), zm_un] [zrF g] (zch h0 c2) _
          refine wx_astore_n (ls' := [.ref 1, .int (nI 1), .int (zna (zwt (zt0 s) 0 (s 0 1) 0)), zrF g]) kc49_43 (zrF_k _) rfl rfl rfl ?_
          refine wx_aload_n kc49_44 rfl (zrF_k _) ?_
          refine wcF_null kc49_45 (fun hq45 => ?_) (fun hq45 => ?_)
          · skip
            refine wx_bipush (-7) kc49_63 (by decide) ?_
            refine wx_ireturn kc49_65 rfl rfl ?_
            have hfl : 40 < zfx (zt0 s) 39 2 ∨ zt0 s 0 10 = 60 ∨ zt0 s 0 0 < zmat (zt0 s) + 1 + zmgr (zt0 s) dd (zmni (zt0 s) dd (zt0 s 0 10) + 1) := by
              have h60 : c2 0 2 ≤ 60 := hI2 0 2
              by_cases hfx : 40 < zfx (zt0 s) 39 2
              · exact Or.inl hfx
              · rw [if_pos (by omega)] at hgx
                have hge := (zfx_le (s := zt0 s) 39 2).1
                refine Or.inr ?_
                first
                | exact absurd hq45 (by omega)
                | (by_cases hcd : 60 ≤ c2 0 2 ∨ c2 0 0 < zctk c2 + 1 + zcgr c2 dd
                   · omega
                   · exact absurd (if_neg hcd) hq60)
            have e : zsMake s (nI 1) = (-7, zt0 s) := by
              unfold zsMake
              rw [if_neg (fun z => z.elim (fun y => y (by decide)) (fun y => y hz))]
              rw [if_neg (fun z => z hq18), ← hfo2]
              rw [if_neg (by omega), ← hdd, ← hqq]
              unfold zsNew
              rw [if_pos hfl]
            have k := hq h0 _ (zGR_rf h0) (show zIV h0 _ (zsMake s (nI 1)).2 by rw [e]; exact hV2)
            rw [e] at k
            exact k
          · skip
            refine wx_aload_n kc49_48 rfl rfl ?_
            refine wx_aload_n kc49_49 rfl rfl ?_
            refine wc_get 1 6 (.ref (108 + 43 * 0)) hS kc49_50 rfl rfl rfl rfl ?_
            refine wcW_get (zrF dd) hS kc49_53 (by decide) (congrArg zrF w2) ?_
            refine wx_iconst (nI 1) kc49_56 (by decide) ?_
            refine wc_call hS kc49_57 rfl rfl rfl rfl rfl ?_
            refine cN_isFullFor hS hI2 a1 a2 (by decide) ?_
            show zm_wp _ 49 60 [.ref 1, .int (nI 1), .int (zna (zwt (zt0 s) 0 (s 0 1) 0)), zrF g] [.int (nI (if 60 ≤ c2 0 2 ∨ c2 0 0 < zctk c2 + 1 + zcgr c2 dd then 1 else 0))] (zch h0 c2) _
            refine wn_if_eq kc49_60 (by split <;> decide) (fun hq60 => ?_) (fun hq60 => ?_)
            · skip
              have hgz : zfx (zt0 s) 39 2 = g := by
                split at hgx
                · exact hgx.symm
                · omega
              have hg1 : 2 ≤ g := by rw [← hgz]; exact (zfx_le 39 2).1
              have hg2 : g ≤ 40 := by
                split at hgx
                · omega
                · omega
              have hgk : zt0 s 3 g = 0 := by rw [← hgz]; exact zfx_k 39 2 rfl (by omega)
              have hnf : ¬ (60 ≤ c2 0 2 ∨ c2 0 0 < zctk c2 + 1 + zcgr c2 dd) := fun z => by
                rw [if_pos z] at hq60
                omega
              refine wx_aload_n kc49_66 rfl (zrF_k _) ?_
              refine wx_iload_n kc49_67 rfl rfl ?_
              refine wcF_call hS kc49_68 rfl rfl (by omega) (by omega) rfl ?_
              refine cF_begin hS (by omega) hg2 ?_
              show zm_wp _ 49 71 [.ref 1, .int (nI 1), .int (zna (zwt (zt0 s) 0 (s 0 1) 0)), zrF g] [] (zch h0 (zbg c2 g 1)) _
              refine wx_aload_n kc49_71 rfl rfl ?_
              refine wc_get 1 6 (.ref 46) hS kc49_72 rfl rfl rfl rfl ?_
              refine wx_aload_n kc49_75 rfl (zrF_k _) ?_
              refine wx_aload_n kc49_76 rfl rfl ?_
              refine wc_get 1 6 (.ref (108 + 43 * 0)) hS kc49_77 rfl rfl rfl rfl ?_
              obtain ⟨nb, gk, gl⟩ := w5
              have hrow := zIV_row hV2 (i := c2 0 2) (by omega)
              refine wc_call hS kc49_80 rfl rfl rfl rfl rfl ?_
              refine cQ_give (w := 0) (r := c2 10 (c2 0 2)) (dd := dd) (nb := nb) hS (zCI_bg hI2 (by decide)) (by decide) (show c2 0 2 < 60 by omega) rfl hrow.1 hrow.2.1 w2 a1 a2 (by omega) hg2 hrow.2.2 gk.1 gl (show c2 20 0 ≤ 255 by omega) hx1 (fun h3 c3 a hN => ?_)
              have hS3 := zEX_CS hN.1 hS
              have hN2 : zNB 13 14 255 h0 h3 (zup (zbg c2 g 1) 0 2 (c2 0 2 + 1)) c3 (c2 10 (c2 0 2)) a q.length (fun i => c2 19 (1200 * c2 17 0 + (c2 18 0 + i))) := by rw [← w6]; exact hN
              show zm_wp _ 49 83 [.ref 1, .int (nI 1), .int (zna (zwt (zt0 s) 0 (s 0 1) 0)), zrF g] [] (zch h3 (zgv c3 (c2 10 (c2 0 2)) dd g)) _
              refine wx_aload_n kc49_83 rfl (zrF_k _) ?_
              refine wcF_get (.int (nI g)) hS3 kc49_84 (by omega) (by omega) rfl ?_
              refine wx_ireturn kc49_87 rfl rfl ?_
              have e : zsMake s (nI 1) = (nI g, zadd (zsbg (zt0 s) g 1) dd q.length (zgd q) g) := by
                unfold zsMake
                rw [if_neg (fun z => z.elim (fun y => y (by decide)) (fun y => y hz))]
                rw [if_neg (fun z => z hq18), ← hfo2]
                rw [if_neg (by omega), ← hdd, ← hqq]
                unfold zsNew
                rw [hgz, if_neg (by omega), if_pos rfl]
                rfl
              have k := hq h3 _ (zGR_n hN.1) (show zIV h3 _ (zsMake s (nI 1)).2 by rw [e]; exact zIV_nw hV2 hN2 rfl (by omega) a1 a2 a3 hg1 hg2 hgk (by omega) a4 (by rw [zls_gq]; exact (a6.resolve_left (fun ⟨j, j1, j2⟩ => absurd (hV2.2.2.2.2.1.1.1 j (zlkn_lt j1).1).2.2.1 (by omega))).1) q1 q2 (by omega))
              rw [e] at k
              exact k
            · skip
              refine wx_bipush (-7) kc49_63 (by decide) ?_
              refine wx_ireturn kc49_65 rfl rfl ?_
              have hfl : 40 < zfx (zt0 s) 39 2 ∨ zt0 s 0 10 = 60 ∨ zt0 s 0 0 < zmat (zt0 s) + 1 + zmgr (zt0 s) dd (zmni (zt0 s) dd (zt0 s 0 10) + 1) := by
                have h60 : c2 0 2 ≤ 60 := hI2 0 2
                by_cases hfx : 40 < zfx (zt0 s) 39 2
                · exact Or.inl hfx
                · rw [if_pos (by omega)] at hgx
                  have hge := (zfx_le (s := zt0 s) 39 2).1
                  refine Or.inr ?_
                  first
                  | exact absurd hq45 (by omega)
                  | (by_cases hcd : 60 ≤ c2 0 2 ∨ c2 0 0 < zctk c2 + 1 + zcgr c2 dd
                     · omega
                     · exact absurd (if_neg hcd) hq60)
              have e : zsMake s (nI 1) = (-7, zt0 s) := by
                unfold zsMake
                rw [if_neg (fun z => z.elim (fun y => y (by decide)) (fun y => y hz))]
                rw [if_neg (fun z => z hq18), ← hfo2]
                rw [if_neg (by omega), ← hdd, ← hqq]
                unfold zsNew
                rw [if_pos hfl]
              have k := hq h0 _ (zGR_rf h0) (show zIV h0 _ (zsMake s (nI 1)).2 by rw [e]; exact hV2)
              rw [e] at k
              exact k
        · skip
          refine wx_bipush (-3) kc49_33 (by decide) ?_
          refine wx_ireturn kc49_35 rfl rfl ?_
          have e : zsMake s (nI 1) = (-3, zt0 s) := by
            unfold zsMake
            rw [if_neg (fun z => z.elim (fun y => y (by decide)) (fun y => y hz))]
            rw [if_neg (fun z => z hq18), ← hfo2]
            rw [if_pos (by omega)]
          have k := hq h0 _ (zGR_rf h0) (show zIV h0 _ (zsMake s (nI 1)).2 by rw [e]; exact hV2)
          rw [e] at k
          exact k
      · skip
        refine wx_iload_n kc49_21 rfl rfl ?_
        refine wx_ireturn kc49_22 rfl rfl ?_
        have e : zsMake s (nI 1) = (zna (zwt (zt0 s) 0 (s 0 1) 0), zt0 s) := by
          unfold zsMake
          rw [if_neg (fun z => z.elim (fun y => y (by decide)) (fun y => y hz))]
          rw [if_pos hq18]
        have k := hq h0 _ (zGR_rf h0) (show zIV h0 _ (zsMake s (nI 1)).2 by rw [e]; exact hV2)
        rw [e] at k
        exact k
    · skip
      refine wx_iload_n kc49_10 rfl rfl ?_
      refine wx_iconst (nI 2) kc49_11 (by decide) ?_
      refine wx_icmp_eq kc49_12 (fun hq12 => ?_) (fun hq12 => ?_)
      · skip
        subst hq12
        show zm_wp _ 49 17 [.ref 1, .int (nI 2), .int (zna (zwt (zt0 s) 0 (s 0 1) 0)), zm_un] [] (zch h0 c2) _
        refine wx_iload_n kc49_17 rfl rfl ?_
        refine wx_if_eq kc49_18 (fun hq18 => ?_) (fun hq18 => ?_)
        · skip
          obtain ⟨w1, w2, w3, w4, w5, w6⟩ := zWE_nm h1 (by omega) hq18 h2
          obtain ⟨_, _, a1, a2, a3, a4, a5, a6⟩ := zwt_nm h1 (f := 0) (k := s 0 1) (by omega) hq18
          have hfo2 : f = (zwt (zt0 s) 0 (s 0 1) 0).2.1 := hf.trans w1
          obtain ⟨q1, q2⟩ := zNM_q h1 (by omega) hq18 h2
          obtain ⟨dd, hdd⟩ : ∃ dd, dd = (zwt (zt0 s) 0 (s 0 1) 0).2.2.1 := ⟨_, rfl⟩
          obtain ⟨q, hqq⟩ : ∃ q, q = (zwt (zt0 s) 0 (s 0 1) 0).2.2.2.1 := ⟨_, rfl⟩
          rw [← hfo2, ← hdd, ← hqq] at a6
          rw [← hdd] at a1 a2 a3 w2
          rw [← hqq] at a4 a5 w6 q1 q2
          refine wx_aload_n kc49_23 rfl rfl ?_
          refine wc_get 1 6 (.ref (108 + 43 * 0)) hS kc49_24 rfl rfl rfl rfl ?_
          refine wcW_get (zrF f) hS kc49_27 (by decide) (congrArg zrF hf.symm) ?_
          refine wcF_null kc49_30 (fun hq30 => ?_) (fun hq30 => ?_)
          · skip
            refine wx_aload_n kc49_36 rfl rfl ?_
            refine wc_get 1 6 (.ref 4) hS kc49_37 rfl rfl rfl rfl ?_
            obtain ⟨g, hg⟩ : ∃ g, g = zcx c2 40 1 := ⟨_, rfl⟩
            have hgx : g = if zfx (zt0 s) 39 2 ≤ 40 then zfx (zt0 s) 39 2 else 0 := by rw [hg]; exact zcx_t hV2
            have t1 : zctk c2 = zmat (zt0 s) := zctk_t hV2
            have t2 : zcgr c2 dd = zmgr (zt0 s) dd (zmni (zt0 s) dd (zt0 s 0 10) + 1) := zcgr_t hV2 a1 a2 (by rw [a3]; decide)
            have t3 : zt0 s 0 10 = c2 0 2 := hV2.2.2.2.1.1.2.2
            have t4 : zt0 s 0 0 = c2 0 0 := hV2.2.2.2.1.1.1
            refine wc_call hS kc49_40 rfl rfl rfl rfl rfl ?_
            refine cL_absent hS hI2 ?_
            rw [← hg]
            show zm_wp _ 49 43 [.ref 1, .int (nI 2), .int (zna (zwt (zt0 s) 0 (s 0 1) 0)), zm_un] [zrF g] (zch h0 c2) _
            refine wx_astore_n (ls' := [.ref 1, .int (nI 2), .int (zna (zwt (zt0 s) 0 (s 0 1) 0)), zrF g]) kc49_43 (zrF_k _) rfl rfl rfl ?_
            refine wx_aload_n kc49_44 rfl (zrF_k _) ?_
            refine wcF_null kc49_45 (fun hq45 => ?_) (fun hq45 => ?_)
            · skip
              refine wx_bipush (-7) kc49_63 (by decide) ?_
              refine wx_ireturn kc49_65 rfl rfl ?_
              have hfl : 40 < zfx (zt0 s) 39 2 ∨ zt0 s 0 10 = 60 ∨ zt0 s 0 0 < zmat (zt0 s) + 1 + zmgr (zt0 s) dd (zmni (zt0 s) dd (zt0 s 0 10) + 1) := by
                have h60 : c2 0 2 ≤ 60 := hI2 0 2
                by_cases hfx : 40 < zfx (zt0 s) 39 2
                · exact Or.inl hfx
                · rw [if_pos (by omega)] at hgx
                  have hge := (zfx_le (s := zt0 s) 39 2).1
                  refine Or.inr ?_
                  first
                  | exact absurd hq45 (by omega)
                  | (by_cases hcd : 60 ≤ c2 0 2 ∨ c2 0 0 < zctk c2 + 1 + zcgr c2 dd
                     · omega
                     · exact absurd (if_neg hcd) hq60)
              have e : zsMake s (nI 2) = (-7, zt0 s) := by
                unfold zsMake
                rw [if_neg (fun z => z.elim (fun y => y (by decide)) (fun y => y hz))]
                rw [if_neg (fun z => z hq18), ← hfo2]
                rw [if_neg (by omega), ← hdd, ← hqq]
                unfold zsNew
                rw [if_pos hfl]
              have k := hq h0 _ (zGR_rf h0) (show zIV h0 _ (zsMake s (nI 2)).2 by rw [e]; exact hV2)
              rw [e] at k
              exact k
            · skip
              refine wx_aload_n kc49_48 rfl rfl ?_
              refine wx_aload_n kc49_49 rfl rfl ?_
              refine wc_get 1 6 (.ref (108 + 43 * 0)) hS kc49_50 rfl rfl rfl rfl ?_
              refine wcW_get (zrF dd) hS kc49_53 (by decide) (congrArg zrF w2) ?_
              refine wx_iconst (nI 1) kc49_56 (by decide) ?_
              refine wc_call hS kc49_57 rfl rfl rfl rfl rfl ?_
              refine cN_isFullFor hS hI2 a1 a2 (by decide) ?_
              show zm_wp _ 49 60 [.ref 1, .int (nI 2), .int (zna (zwt (zt0 s) 0 (s 0 1) 0)), zrF g] [.int (nI (if 60 ≤ c2 0 2 ∨ c2 0 0 < zctk c2 + 1 + zcgr c2 dd then 1 else 0))] (zch h0 c2) _
              refine wn_if_eq kc49_60 (by split <;> decide) (fun hq60 => ?_) (fun hq60 => ?_)
              · skip
                have hgz : zfx (zt0 s) 39 2 = g := by
                  split at hgx
                  · exact hgx.symm
                  · omega
                have hg1 : 2 ≤ g := by rw [← hgz]; exact (zfx_le 39 2).1
                have hg2 : g ≤ 40 := by
                  split at hgx
                  · omega
                  · omega
                have hgk : zt0 s 3 g = 0 := by rw [← hgz]; exact zfx_k 39 2 rfl (by omega)
                have hnf : ¬ (60 ≤ c2 0 2 ∨ c2 0 0 < zctk c2 + 1 + zcgr c2 dd) := fun z => by
                  rw [if_pos z] at hq60
                  omega
                refine wx_aload_n kc49_66 rfl (zrF_k _) ?_
                refine wx_iload_n kc49_67 rfl rfl ?_
                refine wcF_call hS kc49_68 rfl rfl (by omega) (by omega) rfl ?_
                refine cF_begin hS (by omega) hg2 ?_
                show zm_wp _ 49 71 [.ref 1, .int (nI 2), .int (zna (zwt (zt0 s) 0 (s 0 1) 0)), zrF g] [] (zch h0 (zbg c2 g 2)) _
                refine wx_aload_n kc49_71 rfl rfl ?_
                refine wc_get 1 6 (.ref 46) hS kc49_72 rfl rfl rfl rfl ?_
                refine wx_aload_n kc49_75 rfl (zrF_k _) ?_
                refine wx_aload_n kc49_76 rfl rfl ?_
                refine wc_get 1 6 (.ref (108 + 43 * 0)) hS kc49_77 rfl rfl rfl rfl ?_
                obtain ⟨nb, gk, gl⟩ := w5
                have hrow := zIV_row hV2 (i := c2 0 2) (by omega)
                refine wc_call hS kc49_80 rfl rfl rfl rfl rfl ?_
                refine cQ_give (w := 0) (r := c2 10 (c2 0 2)) (dd := dd) (nb := nb) hS (zCI_bg hI2 (by decide)) (by decide) (show c2 0 2 < 60 by omega) rfl hrow.1 hrow.2.1 w2 a1 a2 (by omega) hg2 hrow.2.2 gk.1 gl (show c2 20 0 ≤ 255 by omega) hx1 (fun h3 c3 a hN => ?_)
                have hS3 := zEX_CS hN.1 hS
                have hN2 : zNB 13 14 255 h0 h3 (zup (zbg c2 g 2) 0 2 (c2 0 2 + 1)) c3 (c2 10 (c2 0 2)) a q.length (fun i => c2 19 (1200 * c2 17 0 + (c2 18 0 + i))) := by rw [← w6]; exact hN
                show zm_wp _ 49 83 [.ref 1, .int (nI 2), .int (zna (zwt (zt0 s) 0 (s 0 1) 0)), zrF g] [] (zch h3 (zgv c3 (c2 10 (c2 0 2)) dd g)) _
                refine wx_aload_n kc49_83 rfl (zrF_k _) ?_
                refine wcF_get (.int (nI g)) hS3 kc49_84 (by omega) (by omega) rfl ?_
                refine wx_ireturn kc49_87 rfl rfl ?_
                have e : zsMake s (nI 2) = (nI g, zadd (zsbg (zt0 s) g 2) dd q.length (zgd q) g) := by
                  unfold zsMake
                  rw [if_neg (fun z => z.elim (fun y => y (by decide)) (fun y => y hz))]
                  rw [if_neg (fun z => z hq18), ← hfo2]
                  rw [if_neg (by omega), ← hdd, ← hqq]
                  unfold zsNew
                  rw [hgz, if_neg (by omega), if_neg (by decide)]
                  rfl
                have k := hq h3 _ (zGR_n hN.1) (show zIV h3 _ (zsMake s (nI 2)).2 by rw [e]; exact zIV_nw hV2 hN2 rfl (by omega) a1 a2 a3 hg1 hg2 hgk (by omega) a4 (by rw [zls_gq]; exact (a6.resolve_left (fun ⟨j, j1, j2⟩ => absurd (hV2.2.2.2.2.1.1.1 j (zlkn_lt j1).1).2.2.1 (by omega))).1) q1 q2 (by omega))
                rw [e] at k
                exact k
              · skip
                refine wx_bipush (-7) kc49_63 (by decide) ?_
                refine wx_ireturn kc49_65 rfl rfl ?_
                have hfl : 40 < zfx (zt0 s) 39 2 ∨ zt0 s 0 10 = 60 ∨ zt0 s 0 0 < zmat (zt0 s) + 1 + zmgr (zt0 s) dd (zmni (zt0 s) dd (zt0 s 0 10) + 1) := by
                  have h60 : c2 0 2 ≤ 60 := hI2 0 2
                  by_cases hfx : 40 < zfx (zt0 s) 39 2
                  · exact Or.inl hfx
                  · rw [if_pos (by omega)] at hgx
                    have hge := (zfx_le (s := zt0 s) 39 2).1
                    refine Or.inr ?_
                    first
                    | exact absurd hq45 (by omega)
                    | (by_cases hcd : 60 ≤ c2 0 2 ∨ c2 0 0 < zctk c2 + 1 + zcgr c2 dd
                       · omega
                       · exact absurd (if_neg hcd) hq60)
                have e : zsMake s (nI 2) = (-7, zt0 s) := by
                  unfold zsMake
                  rw [if_neg (fun z => z.elim (fun y => y (by decide)) (fun y => y hz))]
                  rw [if_neg (fun z => z hq18), ← hfo2]
                  rw [if_neg (by omega), ← hdd, ← hqq]
                  unfold zsNew
                  rw [if_pos hfl]
                have k := hq h0 _ (zGR_rf h0) (show zIV h0 _ (zsMake s (nI 2)).2 by rw [e]; exact hV2)
                rw [e] at k
                exact k
          · skip
            refine wx_bipush (-3) kc49_33 (by decide) ?_
            refine wx_ireturn kc49_35 rfl rfl ?_
            have e : zsMake s (nI 2) = (-3, zt0 s) := by
              unfold zsMake
              rw [if_neg (fun z => z.elim (fun y => y (by decide)) (fun y => y hz))]
              rw [if_neg (fun z => z hq18), ← hfo2]
              rw [if_pos (by omega)]
            have k := hq h0 _ (zGR_rf h0) (show zIV h0 _ (zsMake s (nI 2)).2 by rw [e]; exact hV2)
            rw [e] at k
            exact k
        · skip
          refine wx_iload_n kc49_21 rfl rfl ?_
          refine wx_ireturn kc49_22 rfl rfl ?_
          have e : zsMake s (nI 2) = (zna (zwt (zt0 s) 0 (s 0 1) 0), zt0 s) := by
            unfold zsMake
            rw [if_neg (fun z => z.elim (fun y => y (by decide)) (fun y => y hz))]
            rw [if_pos hq18]
          have k := hq h0 _ (zGR_rf h0) (show zIV h0 _ (zsMake s (nI 2)).2 by rw [e]; exact hV2)
          rw [e] at k
          exact k
      · skip
        refine wx_iconst (-1) kc49_15 (by decide) ?_
        refine wx_ireturn kc49_16 rfl rfl ?_
        have e : zsMake s x = (-1, zt0 s) := by
          unfold zsMake
          rw [if_pos (Or.inl (fun z => z.elim hq7 hq12))]
        have k := hq h0 _ (zGR_rf h0) (show zIV h0 _ (zsMake s x).2 by rw [e]; exact hV2)
        rw [e] at k
        exact k
theorem fN_link {d : Nat} {h0 : zm_H} {c : Nat → Nat → Nat} {Q : Option Value → zm_H → Prop} {s : Nat → Nat → Nat}  (h : zIV h0 c s) (hx : h0.1 ≤ 2147483646) (hq : ∀ h1 c2, zGR h0 h1 → zIV h1 c2 (zsLink s).2 → Q (some (.int (zsLink s).1)) (zch h1 c2)) : zm_wc (d + 7) mN_link [.ref 1] (zch h0 c) Q := by
  refine zm_enter2 (zfl_cons rfl zfl_nil) rfl ?_
  show zm_wp _ 50 0 [.ref 1, zm_un, zm_un] [] (zch h0 c) Q
  obtain ⟨hS, hI, hM, hR, hV, hA⟩ := id h
  have hx1 : h0.1 ≤ 2147483647 := by omega
  have hT : s 0 1 = c 0 1 := hR.1.2.1
  have hT2 : c 0 1 ≤ 1200 := hI 0 1
  have h1 := zIV_t0 h
  refine wx_aload_n kc50_0 rfl rfl ?_
  refine wx_iconst (nI 0) kc50_1 (by decide) ?_
  refine wc_call hS kc50_2 rfl rfl rfl rfl rfl ?_
  refine cN_readTwo0 h hx1 (fun hz => ?_) (fun k hk0 hzk c2 h2 hne => ?_) (fun k hk0 hzk c2 c3 h2 hz0 h3 => ?_)
  · skip
    show zm_wp _ 50 5 [.ref 1, zm_un, zm_un] [.int (-1)] (zch h0 (zup c 0 1 0)) _
    refine wx_istore_n (ls' := [.ref 1, .int (-1), zm_un]) kc50_5 rfl rfl rfl rfl ?_
    refine wx_iload_n kc50_6 rfl rfl ?_
    refine wx_if_eq kc50_7 (fun hq7 => ?_) (fun hq7 => ?_)
    · skip
      exact absurd hq7 (by decide)
    · skip
      refine wx_iload_n kc50_10 rfl rfl ?_
      refine wx_ireturn kc50_11 rfl rfl ?_
      have e : zsLink s = (-1, zt0 s) := by
        unfold zsLink
        rw [if_pos hz]
      have k := hq h0 _ (zGR_rf h0) (show zIV h0 _ (zsLink s).2 by rw [e]; exact h1)
      rw [e] at k
      exact k
  · skip
    have hkc : (zmtk s).toNatClampNeg = k := by rw [hzk]; exact nI_clamp (by omega)
    have hkn : ¬ zmtk s < 0 := by rw [hzk]; exact znI_ge (by omega)
    have hV2 := zIV_GF h1 h2.1 h2.2.1
    show zm_wp _ 50 5 [.ref 1, zm_un, zm_un] [.int ((zwt (zt0 s) 0 k 0).1)] (zch h0 c2) _
    refine wx_istore_n (ls' := [.ref 1, .int ((zwt (zt0 s) 0 k 0).1), zm_un]) kc50_5 rfl rfl rfl rfl ?_
    refine wx_iload_n kc50_6 rfl rfl ?_
    refine wx_if_eq kc50_7 (fun hq7 => ?_) (fun hq7 => ?_)
    · skip
      exact absurd hq7 hne
    · skip
      refine wx_iload_n kc50_10 rfl rfl ?_
      refine wx_ireturn kc50_11 rfl rfl ?_
      have hlt := (zwt_cs (zt0 s) 0 k 0).resolve_left hne
      have e : zsLink s = ((zwt (zt0 s) 0 k 0).1, zt0 s) := by
        unfold zsLink
        rw [if_neg hkn, hkc]
        rw [if_pos hlt]
      have k := hq h0 _ (zGR_rf h0) (show zIV h0 _ (zsLink s).2 by rw [e]; exact hV2)
      rw [e] at k
      exact k
  · skip
    have hkc : (zmtk s).toNatClampNeg = k := by rw [hzk]; exact nI_clamp (by omega)
    have hkn : ¬ zmtk s < 0 := by rw [hzk]; exact znI_ge (by omega)
    have hV2 := zIV_GF h1 h2.1 h2.2.1
    have hI3 := h3.2.1
    have hV3 := zIV_GF hV2 h3.1 hI3
    obtain ⟨f, hf⟩ : ∃ f, f = c3 23 0 := ⟨_, rfl⟩
    have hf40 : f ≤ 40 := by rw [hf]; exact hI3 23 0
    obtain ⟨f2, hf2⟩ : ∃ f, f = c3 23 1 := ⟨_, rfl⟩
    have hf240 : f2 ≤ 40 := by rw [hf2]; exact hI3 23 1
    have hG0 : ∀ A, c3 A 0 = c2 A 0 ∨ (24 ≤ A ∧ A ≤ 26) := fun A => by
      by_cases hA : 24 ≤ A ∧ A ≤ 26
      · exact Or.inr hA
      · exact Or.inl (h3.1 A 0 (by omega) (by omega) (by omega) (by omega))
    show zm_wp _ 50 5 [.ref 1, zm_un, zm_un] [.int (zna (zwt (zt0 s) (k + 1) (s 0 1 - k - 1) 0))] (zch h0 c3) _
    refine wx_istore_n (ls' := [.ref 1, .int (zna (zwt (zt0 s) (k + 1) (s 0 1 - k - 1) 0)), zm_un]) kc50_5 rfl rfl rfl rfl ?_
    refine wx_iload_n kc50_6 rfl rfl ?_
    refine wx_if_eq kc50_7 (fun hq7 => ?_) (fun hq7 => ?_)
    · skip
      obtain ⟨w1, w2, w3, w4, w5, w6⟩ := zWE_nm hV2 (by omega) hq7 h3
      obtain ⟨_, _, a1, a2, a3, a4, a5, a6⟩ := zwt_nm hV2 (f := k + 1) (k := s 0 1 - k - 1) (by omega) hq7
      have hfo2 : f2 = (zwt (zt0 s) (k + 1) (s 0 1 - k - 1) 0).2.1 := hf2.trans w1
      obtain ⟨q1, q2⟩ := zNM_q hV2 (by omega) hq7 h3
      obtain ⟨dd, hdd⟩ : ∃ dd, dd = (zwt (zt0 s) (k + 1) (s 0 1 - k - 1) 0).2.2.1 := ⟨_, rfl⟩
      obtain ⟨q, hqq⟩ : ∃ q, q = (zwt (zt0 s) (k + 1) (s 0 1 - k - 1) 0).2.2.2.1 := ⟨_, rfl⟩
      rw [← hfo2, ← hdd, ← hqq] at a6
      rw [← hdd] at a1 a2 a3 w2
      rw [← hdd, ← hqq] at w3
      rw [← hqq] at a4 a5 w6 q1 q2
      have hfo1 : f = (zwt (zt0 s) 0 k 0).2.1 := hf.trans (((hG0 23).resolve_right (by omega)).trans (h2.2.2 hz0).1)
      have hin := (zwt_in hV2 0 k 0).1
      rw [← hfo1] at hin
      refine wx_aload_n kc50_12 rfl rfl ?_
      refine wc_get 1 6 (.ref (108 + 43 * 0)) hS kc50_13 rfl rfl rfl rfl ?_
      refine wcW_get (zrF f) hS kc50_16 (by decide) (congrArg zrF hf.symm) ?_
      refine wx_astore_n (ls' := [.ref 1, .int (zna (zwt (zt0 s) (k + 1) (s 0 1 - k - 1) 0)), zrF f]) kc50_19 (zrF_k _) rfl rfl rfl ?_
      refine wx_aload_n kc50_20 rfl (zrF_k _) ?_
      refine wcF_nnull kc50_21 (fun hq21 => ?_) (fun hq21 => ?_)
      · skip
        have hp := hin.resolve_left (by omega)
        have hk : c3 2 f = zt0 s 3 f := zK_of hV3 hf40
        refine wx_aload_n kc50_27 rfl (zrF_k _) ?_
        refine wcF_get (.int (nI (c3 2 f))) hS kc50_28 (by omega) (by omega) rfl ?_
        have hb31_1 : c3 2 f ≤ 3 := hI3 2 f
        refine wx_iconst (nI 2) kc50_31 (by decide) ?_
        refine wn_icmp_ne kc50_32 (by omega) (by decide) (fun hq32 => ?_) (fun hq32 => ?_)
        · skip
          refine wx_aload_n kc50_38 rfl rfl ?_
          refine wc_get 1 6 (.ref (108 + 43 * 1)) hS kc50_39 rfl rfl rfl rfl ?_
          refine wcW_get (zrF f2) hS kc50_42 (by decide) (congrArg zrF hf2.symm) ?_
          refine wcF_null kc50_45 (fun hq45 => ?_) (fun hq45 => ?_)
          · skip
            refine wx_aload_n kc50_51 rfl rfl ?_
            refine wx_aload_n kc50_52 rfl rfl ?_
            refine wc_get 1 6 (.ref (108 + 43 * 1)) hS kc50_53 rfl rfl rfl rfl ?_
            refine wcW_get (zrF dd) hS kc50_56 (by decide) (congrArg zrF w2) ?_
            refine wx_iconst (nI 0) kc50_59 (by decide) ?_
            have t1 : zctk c3 = zmat (zt0 s) := zctk_t hV3
            have t2 : zcgr c3 dd = zmgr (zt0 s) dd (zmni (zt0 s) dd (zt0 s 0 10) + 1) := zcgr_t hV3 a1 a2 (by rw [a3]; decide)
            have t3 : zt0 s 0 10 = c3 0 2 := hV3.2.2.2.1.1.2.2
            have t4 : zt0 s 0 0 = c3 0 0 := hV3.2.2.2.1.1.1
            refine wc_call hS kc50_60 rfl rfl rfl rfl rfl ?_
            refine cN_isFullFor hS hI3 a1 a2 (by decide) ?_
            show zm_wp _ 50 63 [.ref 1, .int (zna (zwt (zt0 s) (k + 1) (s 0 1 - k - 1) 0)), zrF f] [.int (nI (if 60 ≤ c3 0 2 ∨ c3 0 0 < zctk c3 + 0 + zcgr c3 dd then 1 else 0))] (zch h0 c3) _
            refine wn_if_eq kc50_63 (by split <;> decide) (fun hq63 => ?_) (fun hq63 => ?_)
            · skip
              have hnf : ¬ (60 ≤ c3 0 2 ∨ c3 0 0 < zctk c3 + 0 + zcgr c3 dd) := fun z => by
                rw [if_pos z] at hq63
                omega
              refine wx_aload_n kc50_69 rfl rfl ?_
              refine wc_get 1 6 (.ref 46) hS kc50_70 rfl rfl rfl rfl ?_
              refine wx_aload_n kc50_73 rfl (zrF_k _) ?_
              refine wx_aload_n kc50_74 rfl rfl ?_
              refine wc_get 1 6 (.ref (108 + 43 * 1)) hS kc50_75 rfl rfl rfl rfl ?_
              obtain ⟨nb, gk, gl⟩ := w5
              have hrow := zIV_row hV3 (i := c3 0 2) (by omega)
              refine wc_call hS kc50_78 rfl rfl rfl rfl rfl ?_
              refine cQ_give (w := 1) (r := c3 10 (c3 0 2)) (dd := dd) (nb := nb) hS hI3 (by decide) (by omega) rfl hrow.1 hrow.2.1 w2 a1 a2 hp.1 hf40 hrow.2.2 gk.1 gl (by omega) hx1 (fun h4 c4 a hN => ?_)
              have hS4 := zEX_CS hN.1 hS
              have hN2 : zNB 13 14 255 h0 h4 (zup c3 0 2 (c3 0 2 + 1)) c4 (c3 10 (c3 0 2)) a q.length (fun i => c3 19 (1200 * c3 17 1 + (c3 18 1 + i))) := by rw [← w6]; exact hN
              show zm_wp _ 50 81 [.ref 1, .int (zna (zwt (zt0 s) (k + 1) (s 0 1 - k - 1) 0)), zrF f] [] (zch h4 (zgv c4 (c3 10 (c3 0 2)) dd f)) _
              refine wx_aload_n kc50_81 rfl (zrF_k _) ?_
              refine wcF_get (.int (nI f)) hS4 kc50_82 (by omega) (by omega) rfl ?_
              refine wx_ireturn kc50_85 rfl rfl ?_
              have e : zsLink s = (nI f, zadd (zt0 s) dd q.length (zgd q) f) := by
                unfold zsLink
                rw [if_neg hkn, hkc]
                rw [hz0, if_neg (by decide)]
                rw [if_neg (fun z => z hq7), ← hfo1]
                unfold zsLnk
                rw [if_neg (by omega)]
                rw [if_neg (by omega), ← hfo2]
                rw [if_neg (by omega), ← hdd, ← hqq]
                rw [if_neg (by omega)]
              have k := hq h4 _ (zGR_n hN.1) (show zIV h4 _ (zsLink s).2 by rw [e]; exact zIV_ln hV3 hN2 rfl (by omega) a1 a2 a3 hp.1 hf40 hp.2.2 (by omega) a4 (by rw [zls_gq]; exact (a6.resolve_left (fun ⟨j, j1, j2⟩ => absurd (hV3.2.2.2.2.1.1.1 j (zlkn_lt j1).1).2.2.1 (by omega))).1) q1 q2 (by omega))
              rw [e] at k
              exact k
            · skip
              refine wx_bipush (-7) kc50_66 (by decide) ?_
              refine wx_ireturn kc50_68 rfl rfl ?_
              have h60 : c3 0 2 ≤ 60 := hI3 0 2
              have hfl : zt0 s 0 10 = 60 ∨ zt0 s 0 0 < zmat (zt0 s) + zmgr (zt0 s) dd (zmni (zt0 s) dd (zt0 s 0 10) + 1) := by
                by_cases hcd : 60 ≤ c3 0 2 ∨ c3 0 0 < zctk c3 + 0 + zcgr c3 dd
                · omega
                · exact absurd (if_neg hcd) hq63
              have e : zsLink s = (-7, zt0 s) := by
                unfold zsLink
                rw [if_neg hkn, hkc]
                rw [hz0, if_neg (by decide)]
                rw [if_neg (fun z => z hq7), ← hfo1]
                unfold zsLnk
                rw [if_neg (by omega)]
                rw [if_neg (by omega), ← hfo2]
                rw [if_neg (by omega), ← hdd, ← hqq]
                rw [if_pos hfl]
              have k := hq h0 _ (zGR_rf h0) (show zIV h0 _ (zsLink s).2 by rw [e]; exact hV3)
              rw [e] at k
              exact k
          · skip
            refine wx_bipush (-3) kc50_48 (by decide) ?_
            refine wx_ireturn kc50_50 rfl rfl ?_
            have e : zsLink s = (-3, zt0 s) := by
              unfold zsLink
              rw [if_neg hkn, hkc]
              rw [hz0, if_neg (by decide)]
              rw [if_neg (fun z => z hq7), ← hfo1]
              unfold zsLnk
              rw [if_neg (by omega)]
              rw [if_neg (by omega), ← hfo2]
              rw [if_pos (by omega)]
            have k := hq h0 _ (zGR_rf h0) (show zIV h0 _ (zsLink s).2 by rw [e]; exact hV3)
            rw [e] at k
            exact k
        · skip
          refine wx_bipush (-5) kc50_35 (by decide) ?_
          refine wx_ireturn kc50_37 rfl rfl ?_
          have e : zsLink s = (-5, zt0 s) := by
            unfold zsLink
            rw [if_neg hkn, hkc]
            rw [hz0, if_neg (by decide)]
            rw [if_neg (fun z => z hq7), ← hfo1]
            unfold zsLnk
            rw [if_neg (by omega)]
            rw [if_pos (by omega)]
          have k := hq h0 _ (zGR_rf h0) (show zIV h0 _ (zsLink s).2 by rw [e]; exact hV3)
          rw [e] at k
          exact k
      · skip
        refine wx_bipush (-2) kc50_24 (by decide) ?_
        refine wx_ireturn kc50_26 rfl rfl ?_
        have e : zsLink s = (-2, zt0 s) := by
          unfold zsLink
          rw [if_neg hkn, hkc]
          rw [hz0, if_neg (by decide)]
          rw [if_neg (fun z => z hq7), ← hfo1]
          unfold zsLnk
          rw [if_pos (by omega)]
        have k := hq h0 _ (zGR_rf h0) (show zIV h0 _ (zsLink s).2 by rw [e]; exact hV3)
        rw [e] at k
        exact k
    · skip
      refine wx_iload_n kc50_10 rfl rfl ?_
      refine wx_ireturn kc50_11 rfl rfl ?_
      have e : zsLink s = (zna (zwt (zt0 s) (k + 1) (s 0 1 - k - 1) 0), zt0 s) := by
        unfold zsLink
        rw [if_neg hkn, hkc]
        rw [hz0, if_neg (by decide)]
        rw [if_pos hq7]
      have k := hq h0 _ (zGR_rf h0) (show zIV h0 _ (zsLink s).2 by rw [e]; exact hV3)
      rw [e] at k
      exact k
