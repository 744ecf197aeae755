/-! rename, in the class -/
theorem fN_rename {d : Nat} {h0 : zm_H} {c : Nat → Nat → Nat} {Q : Option Value → zm_H → Prop} {s : Nat → Nat → Nat}  (h : zIV h0 c s) (hx : h0.1 ≤ 2147483646) (hq : ∀ h1 c2, zGR h0 h1 → zIV h1 c2 (zsRen s 39).2 → Q (some (.int (zsRen s 39).1)) (zch h1 c2)) : zm_wc (d + 7) mN_rename [.ref 1] (zch h0 c) Q := by
  refine zm_enter2 (zfl_cons rfl zfl_nil) rfl ?_
  show zm_wp _ 54 0 [.ref 1, zm_un, zm_un, zm_un] [] (zch h0 c) Q
  obtain ⟨hS, hI, hM, hR, hV, hA⟩ := id h
  have hx1 : h0.1 ≤ 2147483647 := by omega
  have hT : s 0 1 = c 0 1 := hR.1.2.1
  have hT2 : c 0 1 ≤ 1200 := hI 0 1
  have h1 := zIV_t0 h
  refine wx_aload_n kc54_0 rfl rfl ?_
  refine wx_iconst (nI 1) kc54_1 (by decide) ?_
  refine wc_call hS kc54_2 rfl rfl rfl rfl rfl ?_
  refine cN_readTwo1 h hx1 (fun hz => ?_) (fun k hk0 hzk c2 h2 hne => ?_) (fun k hk0 hzk c2 c3 h2 hz0 h3 => ?_)
  · skip
    show zm_wp _ 54 5 [.ref 1, zm_un, zm_un, zm_un] [.int (-1)] (zch h0 (zup c 0 1 0)) _
    refine wx_istore_n (ls' := [.ref 1, .int (-1), zm_un, zm_un]) kc54_5 rfl rfl rfl rfl ?_
    refine wx_iload_n kc54_6 rfl rfl ?_
    refine wx_if_eq kc54_7 (fun hq7 => ?_) (fun hq7 => ?_)
    · skip
      exact absurd hq7 (by decide)
    · skip
      refine wx_iload_n kc54_10 rfl rfl ?_
      refine wx_ireturn kc54_11 rfl rfl ?_
      have e : zsRen s 39 = (-1, zt0 s) := by
        unfold zsRen
        rw [if_pos hz]
      have k := hq h0 _ (zGR_rf h0) (show zIV h0 _ (zsRen s 39).2 by rw [e]; exact h1)
      rw [e] at k
      exact k
  · skip
    have hkc : (zmtk s).toNatClampNeg = k := by rw [hzk]; exact nI_clamp (by omega)
    have hkn : ¬ zmtk s < 0 := by rw [hzk]; exact znI_ge (by omega)
    have hV2 := zIV_GF h1 h2.1 h2.2.1
    show zm_wp _ 54 5 [.ref 1, zm_un, zm_un, zm_un] [.int (zna (zwt (zt0 s) 0 k 0))] (zch h0 c2) _
    refine wx_istore_n (ls' := [.ref 1, .int (zna (zwt (zt0 s) 0 k 0)), zm_un, zm_un]) kc54_5 rfl rfl rfl rfl ?_
    refine wx_iload_n kc54_6 rfl rfl ?_
    refine wx_if_eq kc54_7 (fun hq7 => ?_) (fun hq7 => ?_)
    · skip
      exact absurd hq7 hne
    · skip
      refine wx_iload_n kc54_10 rfl rfl ?_
      refine wx_ireturn kc54_11 rfl rfl ?_
      have e : zsRen s 39 = (zna (zwt (zt0 s) 0 k 0), zt0 s) := by
        unfold zsRen
        rw [if_neg hkn, hkc]
        rw [if_pos hne]
      have k := hq h0 _ (zGR_rf h0) (show zIV h0 _ (zsRen s 39).2 by rw [e]; exact hV2)
      rw [e] at k
      exact k
  · skip
    have hkc : (zmtk s).toNatClampNeg = k := by rw [hzk]; exact nI_clamp (by omega)
    have hkn : ¬ zmtk s < 0 := by rw [hzk]; exact znI_ge (by omega)
    have hV2 := zIV_GF h1 h2.1 h2.2.1
    have hI3 := h3.2.1
    have hV3 := zIV_GF hV2 h3.1 hI3
    obtain ⟨f, hf⟩ : ∃ f, f = c3 23 0 := ⟨_, rfl⟩
    have hf40 : f ≤ 40 := by rw [hf]; exact hI3 23 0
    obtain ⟨f2, hf2⟩ : ∃ f, f = c3 23 1 := ⟨_, rfl⟩
    have hf240 : f2 ≤ 40 := by rw [hf2]; exact hI3 23 1
    have hG0 : ∀ A, c3 A 0 = c2 A 0 ∨ (24 ≤ A ∧ A ≤ 26) := fun A => by
      by_cases hA : 24 ≤ A ∧ A ≤ 26
      · exact Or.inr hA
      · exact Or.inl (h3.1 A 0 (by omega) (by omega) (by omega) (by omega))
    show zm_wp _ 54 5 [.ref 1, zm_un, zm_un, zm_un] [.int (zna (zwt (zt0 s) (k + 1) (s 0 1 - k - 1) 0))] (zch h0 c3) _
    refine wx_istore_n (ls' := [.ref 1, .int (zna (zwt (zt0 s) (k + 1) (s 0 1 - k - 1) 0)), zm_un, zm_un]) kc54_5 rfl rfl rfl rfl ?_
    refine wx_iload_n kc54_6 rfl rfl ?_
    refine wx_if_eq kc54_7 (fun hq7 => ?_) (fun hq7 => ?_)
    · skip
      obtain ⟨w1, w2, w3, w4, w5, w6⟩ := zWE_nm hV2 (by omega) hq7 h3
      obtain ⟨_, _, a1, a2, a3, a4, a5, a6⟩ := zwt_nm hV2 (f := k + 1) (k := s 0 1 - k - 1) (by omega) hq7
      have hfo2 : f2 = (zwt (zt0 s) (k + 1) (s 0 1 - k - 1) 0).2.1 := hf2.trans w1
      obtain ⟨q1, q2⟩ := zNM_q hV2 (by omega) hq7 h3
      obtain ⟨dd, hdd⟩ : ∃ dd, dd = (zwt (zt0 s) (k + 1) (s 0 1 - k - 1) 0).2.2.1 := ⟨_, rfl⟩
      obtain ⟨q, hqq⟩ : ∃ q, q = (zwt (zt0 s) (k + 1) (s 0 1 - k - 1) 0).2.2.2.1 := ⟨_, rfl⟩
      rw [← hfo2, ← hdd, ← hqq] at a6
      rw [← hdd] at a1 a2 a3 w2
      rw [← hdd, ← hqq] at w3
      rw [← hqq] at a4 a5 w6 q1 q2
      obtain ⟨u1, u2, u3, u4, _, _⟩ := zWE_nm h1 (by omega) hz0 h2
      obtain ⟨_, _, b1, b2, b3, b4, b5, b6⟩ := zwt_nm h1 (f := 0) (k := k) (by omega) hz0
      have hfo1 : f = (zwt (zt0 s) 0 k 0).2.1 := hf.trans (((hG0 23).resolve_right (by omega)).trans u1)
      have hin := (zwt_in hV2 0 k 0).1
      obtain ⟨dk, hdk⟩ : ∃ dd, dd = (zwt (zt0 s) 0 k 0).2.2.1 := ⟨_, rfl⟩
      obtain ⟨p1, hp1⟩ : ∃ q, q = (zwt (zt0 s) 0 k 0).2.2.2.1 := ⟨_, rfl⟩
      rw [← hfo1] at hin
      rw [← hfo1, ← hdk, ← hp1] at b6
      rw [← hdk] at b1 b2 b3 u2
      rw [← hdk, ← hp1] at u3
      refine wx_aload_n kc54_12 rfl rfl ?_
      refine wc_get 1 6 (.ref (108 + 43 * 0)) hS kc54_13 rfl rfl rfl rfl ?_
      refine wcW_get (zrF f) hS kc54_16 (by decide) (congrArg zrF hf.symm) ?_
      refine wx_astore_n (ls' := [.ref 1, .int (zna (zwt (zt0 s) (k + 1) (s 0 1 - k - 1) 0)), zrF f, zm_un]) kc54_19 (zrF_k _) rfl rfl rfl ?_
      refine wx_aload_n kc54_20 rfl (zrF_k _) ?_
      refine wcF_nnull kc54_21 (fun hq21 => ?_) (fun hq21 => ?_)
      · skip
        have hp := hin.resolve_left (by omega)
        have hk : c3 2 f = zt0 s 3 f := zK_of hV3 hf40
        have hF := zRF_of hV3 hp.1 hp.2.1 hp.2.2
        obtain ⟨j, j1, j2⟩ := b6.resolve_right (fun z => by have := z.2; omega)
        obtain ⟨R, i, r1, r2, r3, r4, r5, r6, r7, r8, r9, r10, r11, r12⟩ := zrow_some (zIX_of hV3) j1
        have hR1 : c3 22 0 = R := by rw [(hG0 22).resolve_right (by omega), u3, ← zGF_lk h2.1, ← zGF_lk h3.1, r1]; rfl
        have hf1 : f ≠ 1 := by rw [← j2]; exact (hV3.2.2.2.2.1.1.1 j r9).2.2.2.2
        have hix : zix (zt0 s) (zwt (zt0 s) 0 k 0) = j := by unfold zix; rw [← hdk, ← hp1, j1]; rfl
        have hwi : zcwi c3 f 40 dd = zwi (zt0 s) f 39 dd := zcwi_t hV3 hf1 a1 a2 a3
        refine wx_aload_n kc54_27 rfl rfl ?_
        refine wc_get 1 6 (.ref (108 + 43 * 1)) hS kc54_28 rfl rfl rfl rfl ?_
        refine wcW_get (zrF f2) hS kc54_31 (by decide) (congrArg zrF hf2.symm) ?_
        refine wx_astore_n (ls' := [.ref 1, .int (zna (zwt (zt0 s) (k + 1) (s 0 1 - k - 1) 0)), zrF f, zrF f2]) kc54_34 (zrF_k _) rfl (zrF_c1 _) rfl ?_
        refine wx_aload_n kc54_35 rfl (zrF_k _) ?_
        refine wx_aload_n kc54_36 rfl (zrF_k _) ?_
        refine wcF_ne kc54_37 (fun hq37 => ?_) (fun hq37 => ?_)
        · skip
          have hf0 : ¬ f = 0 := by omega
          have hf2f : ¬ f2 = f := hq37
          have h60 : c3 0 2 ≤ 60 := hI3 0 2
          have h59 : c3 0 2 - 1 < 60 := by omega
          have h20 : c3 20 1 ≤ 255 := by rw [w6]; exact a4
          have key : (zt0 s 3 f = 2 → zwi (zt0 s) f 39 dd ≠ 1) → zm_wp (d + 6) 54 70 [.ref 1, .int (zna (zwt (zt0 s) (k + 1) (s 0 1 - k - 1) 0)), zrF f, zrF f2] [] (zch h0 c3) Q := by
            intro hch
            have hch2 : zt0 s 3 f = 2 → ∀ m, zit (zt0 s) m dd ≠ f := fun z => zwi_0 hf1 (zmpa_r hV3.2.2.2.2.1.1) 39 dd (hch z) (zIV_39 hV3 a1 a2 a3)
            have s10 := hV3.2.2.2.2.1.2.2.2.2.2.2.2.2.2 dd a2
            have t1 : zctk c3 = zmat (zt0 s) := zctk_t hV3
            have t2 : zcgr c3 dd = zmgr (zt0 s) dd (zmni (zt0 s) dd (zt0 s 0 10) + 1) := zcgr_t hV3 a1 a2 (by rw [a3]; decide)
            have t3 : zt0 s 0 10 = c3 0 2 := hV3.2.2.2.1.1.2.2
            have t4 : zt0 s 0 0 = c3 0 0 := hV3.2.2.2.1.1.1
            refine wx_aload_n kc54_70 rfl (zrF_k _) ?_
            refine wcF_nnull kc54_71 (fun hq71 => ?_) (fun hq71 => ?_)
            · skip
              have hf2p : 0 < f2 := by omega
              have hff : f ≠ f2 := fun z => hf2f z.symm
              have hin2 := (zwt_in hV2 (k + 1) (s 0 1 - k - 1) 0).1
              rw [← hfo2] at hin2
              have hp2 := hin2.resolve_left (by omega)
              have hk2 : c3 2 f2 = zt0 s 3 f2 := zK_of hV3 hf240
              have hF2 := zRF_of hV3 hp2.1 hp2.2.1 hp2.2.2
              have hin5 : c3 5 f2 = zmni (zt0 s) f2 (zt0 s 0 10) := hF2.2.2.1
              obtain ⟨jj, jj1, jj2⟩ := a6.resolve_right (fun z => by have := z.2; omega)
              obtain ⟨R2, i2, x1, x2, x3, x4, x5, x6, x7, x8, x9, x10, x11, x12⟩ := zrow_some (zIX_of hV3) jj1
              have hR2 : c3 22 1 = R2 := by rw [w3, ← zGF_lk h3.1, x1]; rfl
              refine wx_aload_n kc54_81 rfl (zrF_k _) ?_
              refine wx_aload_n kc54_82 rfl (zrF_k _) ?_
              refine wx_static kc54_83 rfl rfl rfl ?_
              refine cN_refusalOfReplacing hS hI3 hp.1 hf40 hp2.1 hf240 ?_
              show zm_wp _ 54 86 [.ref 1, .int (zna (zwt (zt0 s) (k + 1) (s 0 1 - k - 1) 0)), zrF f, zrF f2] [.int (if c3 2 f = 2 ∧ c3 2 f2 ≠ 2 then (-4 : Int32) else if c3 2 f ≠ 2 ∧ c3 2 f2 = 2 then -5 else if 0 < c3 5 f2 then -6 else nI 0)] (zch h0 c3) _
              refine wx_istore_n (ls' := [.ref 1, .int (if c3 2 f = 2 ∧ c3 2 f2 ≠ 2 then (-4 : Int32) else if c3 2 f ≠ 2 ∧ c3 2 f2 = 2 then -5 else if 0 < c3 5 f2 then -6 else nI 0), zrF f, zrF f2]) kc54_86 rfl rfl rfl rfl ?_
              refine wx_iload_n kc54_87 rfl rfl ?_
              refine wx_if_eq kc54_88 (fun hq88 => ?_) (fun hq88 => ?_)
              · skip
                have y1 : ¬ (c3 2 f = 2 ∧ c3 2 f2 ≠ 2) := fun z => by
                  rw [if_pos z] at hq88
                  exact absurd hq88 (by decide)
                have y2 : ¬ (c3 2 f ≠ 2 ∧ c3 2 f2 = 2) := fun z => by
                  rw [if_neg y1, if_pos z] at hq88
                  exact absurd hq88 (by decide)
                have y3 : ¬ (0 < c3 5 f2) := fun z => by
                  rw [if_neg y1, if_neg y2, if_pos z] at hq88
                  exact absurd hq88 (by decide)
                have hemp : zt0 s 3 f2 = 2 → zmni (zt0 s) f2 (zt0 s 0 10) = 0 := fun _ => by rw [← hin5]; exact Nat.eq_zero_of_not_pos y3
                have y1a : ¬ (0 < f2 ∧ zt0 s 3 f = 2 ∧ zt0 s 3 f2 ≠ 2) := fun z => y1 ⟨hk.trans z.2.1, fun w => z.2.2 (hk2.symm.trans w)⟩
                have y2a : ¬ (0 < f2 ∧ zt0 s 3 f ≠ 2 ∧ zt0 s 3 f2 = 2) := fun z => y2 ⟨fun w => z.2.1 (hk.symm.trans w), hk2.trans z.2.2⟩
                have y3a : ¬ (0 < f2 ∧ zt0 s 3 f2 = 2 ∧ 0 < zmni (zt0 s) f2 (zt0 s 0 10)) := fun z => y3 (by rw [hin5]; exact z.2.2)
                have hrr := zRF_of hV3 (f := zt0 s 8 j) (by rw [r10]; exact b1) (by rw [r10]; exact b2) (by rw [r10, b3]; decide)
                have hi8 : 1 ≤ zmni (zt0 s) (zt0 s 8 j) (zt0 s 0 10) := zmni_1 r9 rfl
                have hi9 : 1 ≤ zmno (zt0 s) f (zt0 s 0 10) := zmno_p r9 j2
                obtain ⟨_, _, _, _, _, _, _, _, rw9, rw10⟩ := hV3.2.2.2.1
                refine wx_aload_n kc54_93 rfl rfl ?_
                refine wx_aload_n kc54_94 rfl rfl ?_
                refine wc_get 1 6 (.ref (108 + 43 * 1)) hS kc54_95 rfl rfl rfl rfl ?_
                refine wcW_get (zrR R2) hS kc54_98 (by decide) (congrArg zrR hR2) ?_
                refine wc_call hS kc54_101 rfl rfl rfl rfl rfl ?_
                have g12 : c3 12 R2 = f2 := x8.trans jj2
                have hrr2 := zRF_of hV3 (f := zt0 s 8 jj) (by rw [x10]; exact a1) (by rw [x10]; exact a2) (by rw [x10, a3]; decide)
                have gi8 : 1 ≤ zmni (zt0 s) (zt0 s 8 jj) (zt0 s 0 10) := zmni_1 x9 rfl
                have gi9 : 1 ≤ zmno (zt0 s) f2 (zt0 s 0 10) := zmno_p x9 jj2
                refine cN_takeAway hS hI3 x4 x5 (by rw [x6, x10]; exact a1) (by rw [g12]; exact hp2.1) (by rw [x6]; exact Nat.le_trans gi8 (Nat.le_of_eq hrr2.2.2.1.symm)) (by rw [g12, hF2.1]; exact gi9) x2 x3 x12 (fun l hl => (zIV_row hV3 hl).1) ?_
                rw [g12]
                obtain ⟨v1, v2, v3, v4, v5, v6, v7, ⟨jd, v8, v9, v10⟩, v11, v12, v13⟩ := zIV_mvd hV3 r9 r2 r3 r6 r7 r8 x9 x2 x3 x6 x7 x8 jj2 (by rw [j2]; exact hff) hemp
                show zm_wp _ 54 104 [.ref 1, .int (if c3 2 f = 2 ∧ c3 2 f2 ≠ 2 then (-4 : Int32) else if c3 2 f ≠ 2 ∧ c3 2 f2 = 2 then -5 else if 0 < c3 5 f2 then -6 else nI 0), zrF f, zrF f2] [] (zch h0 (zgu (zdp c3 i2 R2) f2)) _
                refine wx_aload_n kc54_104 rfl rfl ?_
                refine wc_get 1 6 (.ref 46) hS kc54_105 rfl rfl rfl rfl ?_
                refine wx_aload_n kc54_108 rfl rfl ?_
                refine wc_get 1 6 (.ref (108 + 43 * 0)) hS kc54_109 rfl rfl rfl rfl ?_
                refine wcW_get (zrR R) hS kc54_112 (by decide) (congrArg zrR (show (zgu (zdp c3 i2 R2) f2) 22 0 = R by rw [zgu_a _ _ 22 (by omega)]; exact hR1)) ?_
                refine wc_call hS kc54_115 rfl rfl rfl rfl rfl ?_
                refine cQ_drop hS v3 r4 r5 (by rw [v4, r10]; exact b1) (by rw [v5, j2]; exact hp.1) (by rw [v4]; exact v6) (by rw [v5]; exact v7) v8 v9 v10 v11 ?_
                show zm_wp _ 54 118 [.ref 1, .int (if c3 2 f = 2 ∧ c3 2 f2 ≠ 2 then (-4 : Int32) else if c3 2 f ≠ 2 ∧ c3 2 f2 = 2 then -5 else if 0 < c3 5 f2 then -6 else nI 0), zrF f, zrF f2] [] (zch h0 (zdp (zgu (zdp c3 i2 R2) f2) jd R)) _
                refine wx_aload_n kc54_118 rfl rfl ?_
                refine wc_get 1 6 (.ref 46) hS kc54_119 rfl rfl rfl rfl ?_
                refine wx_aload_n kc54_122 rfl (zrF_k _) ?_
                refine wx_aload_n kc54_123 rfl rfl ?_
                refine wc_get 1 6 (.ref (108 + 43 * 1)) hS kc54_124 rfl rfl rfl rfl ?_
                have hzr := zdp_rows v8 (Nat.le_of_lt v13) v9 v11 v12
                have hYI : zCI (zdp (zgu (zdp c3 i2 R2) f2) jd R) := zCI_dp v3 r5
                have hY2 : (zdp (zgu (zdp c3 i2 R2) f2) jd R) 0 2 < 60 := by rw [zdp_2]; exact Nat.lt_of_le_of_lt (Nat.sub_le _ _) v13
                have eA : ∀ A, 13 ≤ A → (A = 2 ∨ A = 4 ∨ A = 6 ∨ A = 7 ∨ A = 8 ∨ A = 9 ∨ 13 ≤ A) := fun A hA => Or.inr (Or.inr (Or.inr (Or.inr (Or.inr (Or.inr hA)))))
                have eY : ∀ A, 13 ≤ A → (zdp (zgu (zdp c3 i2 R2) f2) jd R) A = c3 A := fun A hA => by rw [zdp_a _ _ _ A (eA A hA), zgu_a _ _ A (Or.inr (Or.inr (Nat.le_trans (by decide) hA))), zdp_a _ _ _ A (eA A hA)]
                obtain ⟨nb, gk, gl⟩ := w5
                obtain ⟨Y, hY⟩ : ∃ Y, Y = (zdp (zgu (zdp c3 i2 R2) f2) jd R) := ⟨_, rfl⟩
                rw [← hY] at hYI hY2 hzr eY ⊢
                have hrow := hzr.1 (Y 0 2) hY2
                show zm_wp _ 54 127 [.ref 1, .int (if c3 2 f = 2 ∧ c3 2 f2 ≠ 2 then (-4 : Int32) else if c3 2 f ≠ 2 ∧ c3 2 f2 = 2 then -5 else if 0 < c3 5 f2 then -6 else nI 0), zrF f, zrF f2] [.ref (108 + 43 * 1), zrF f, .ref 46] (zch h0 Y) _
                refine wc_call hS kc54_127 rfl rfl rfl rfl rfl ?_
                refine cQ_give (w := 1) (r := Y 10 (Y 0 2)) (dd := dd) (nb := nb) hS hYI (by decide) hY2 rfl hrow (hYI 10 _) (by rw [eY 21 (by decide)]; exact w2) a1 a2 hp.1 hf40 (fun z => by rw [eY 13 (by decide)] at z ⊢; exact hV3.2.2.2.2.2.2.1 _ z) (by rw [eY 17 (by decide)]; exact gk.1) (by rw [eY 18 (by decide), eY 20 (by decide)]; exact gl) (by rw [eY 20 (by decide)]; exact h20) hx1 (fun h4 c4 a hN => ?_)
                have hS4 := zEX_CS hN.1 hS
                have hN2 : zNB 13 14 255 h0 h4 (zup Y 0 2 (Y 0 2 + 1)) c4 (Y 10 (Y 0 2)) a q.length (fun i => Y 19 (1200 * Y 17 1 + (Y 18 1 + i))) := by rw [← w6, ← eY 20 (by decide)]; exact hN
                have q3 : ∀ i, i < q.length → zgd q i = Y 19 (1200 * Y 17 1 + (Y 18 1 + i)) := fun i hi => by
                  rw [eY 17 (by decide), eY 18 (by decide), eY 19 (by decide)]
                  exact q1 i hi
                show zm_wp _ 54 130 [.ref 1, .int (if c3 2 f = 2 ∧ c3 2 f2 ≠ 2 then (-4 : Int32) else if c3 2 f ≠ 2 ∧ c3 2 f2 = 2 then -5 else if 0 < c3 5 f2 then -6 else nI 0), zrF f, zrF f2] [] (zch h4 (zgv c4 (Y 10 (Y 0 2)) dd f)) _
                refine wx_aload_n kc54_130 rfl (zrF_k _) ?_
                refine wcF_get (.int (nI f)) hS4 kc54_131 (by omega) (by omega) rfl ?_
                refine wx_ireturn kc54_134 rfl rfl ?_
                obtain ⟨l2, l21, l22, l23⟩ := zrm_ix hV3.2.2.1 hV3.2.2.2.2.1.1 r9 x9 v2 x10 x11
                have hl2 : zix (zrm1 (zt0 s) j) (zwt (zt0 s) (k + 1) (s 0 1 - k - 1) 0) = l2 := by
                  unfold zix
                  rw [← hdd, ← hqq]
                  show (zlkn (zrm1 (zt0 s) j) dd q (zt0 s 0 10 - 1)).getD 0 = l2
                  rw [l23]
                  rfl
                have hl9 : zrm1 (zt0 s) j 9 l2 = f2 := by rw [zrm_9, l22]; exact jj2
                have hr1 := zMv_r1 (t := zt0 s) (k := j) hf2p s10
                have hm0 := zIV_m hV3
                have hv9 : zIV h4 (zgv c4 (Y 10 (Y 0 2)) dd f) (zadd (zsgu (zrm1 (zrm1 (zt0 s) j) l2) f2) dd q.length (zgd q) f) := (by subst hY; exact zIV_mv1 hV3 r9 r2 r3 r6 r7 x9 x2 x3 x6 x7 j2 jj2 hff l21 l22 hemp v8 v9 hN2 rfl x10 (by rw [zls_gq]; exact x11) a4 hch2 q3 q2)
                have e : zsRen s 39 = (nI f, zadd (zsgu (zrm1 (zrm1 (zt0 s) j) l2) f2) dd q.length (zgd q) f) := by
                  unfold zsRen
                  rw [if_neg hkn, hkc]
                  rw [if_neg (fun z => z hz0)]
                  rw [if_neg (fun z => z hq7), ← hfo1]
                  rw [hix]
                  rw [zsMv_ok hf0 (by rw [← hfo2]; exact hf2f) (by rw [← hdd]; exact fun z => hch z.1 z.2) (by rw [← hfo2]; exact y1a) (by rw [← hfo2]; exact y2a) (by rw [← hfo2]; exact y3a) (by rw [← hfo2, ← hdd]; exact Nat.not_lt.mpr (Nat.le_trans hr1 hm0))]
                  unfold zsMv3
                  rw [zMv_eq j2 (by rw [hl2, hl9]; exact fun _ => hf2f), hl2, hl9, ← hfo2, ← hdd, ← hqq, if_pos hf2p]
                have k := hq h4 _ (zGR_n hN.1) (show zIV h4 _ (zsRen s 39).2 by rw [e]; exact hv9)
                rw [e] at k
                exact k
              · skip
                refine wx_iload_n kc54_91 rfl rfl ?_
                refine wx_ireturn kc54_92 rfl rfl ?_
                by_cases y1 : c3 2 f = 2 ∧ c3 2 f2 ≠ 2
                · rw [if_pos y1]
                  have e : zsRen s 39 = (-4, zt0 s) := by
                    unfold zsRen
                    rw [if_neg hkn, hkc]
                    rw [if_neg (fun z => z hz0)]
                    rw [if_neg (fun z => z hq7), ← hfo1]
                    rw [hix]
                    unfold zsMv
                    rw [← hfo2, ← hdd]
                    rw [if_neg (show ¬ f = 0 by omega)]
                    rw [if_neg (show ¬ f2 = f by omega)]
                    rw [if_neg (show ¬ (zt0 s 3 f = 2 ∧ zwi (zt0 s) f 39 dd = 1) from fun z => hch z.1 z.2)]
                    exact if_pos ⟨by omega, by omega, by omega⟩
                  have k := hq h0 _ (zGR_rf h0) (show zIV h0 _ (zsRen s 39).2 by rw [e]; exact hV3)
                  rw [e] at k
                  exact k
                by_cases y2 : c3 2 f ≠ 2 ∧ c3 2 f2 = 2
                · rw [if_neg y1, if_pos y2]
                  have e : zsRen s 39 = (-5, zt0 s) := by
                    unfold zsRen
                    rw [if_neg hkn, hkc]
                    rw [if_neg (fun z => z hz0)]
                    rw [if_neg (fun z => z hq7), ← hfo1]
                    rw [hix]
                    unfold zsMv
                    rw [← hfo2, ← hdd]
                    rw [if_neg (show ¬ f = 0 by omega)]
                    rw [if_neg (show ¬ f2 = f by omega)]
                    rw [if_neg (show ¬ (zt0 s 3 f = 2 ∧ zwi (zt0 s) f 39 dd = 1) from fun z => hch z.1 z.2)]
                    rw [if_neg (show ¬ (0 < f2 ∧ zt0 s 3 f = 2 ∧ zt0 s 3 f2 ≠ 2) from fun z => y1 ⟨by omega, by omega⟩)]
                    exact if_pos ⟨by omega, by omega, by omega⟩
                  have k := hq h0 _ (zGR_rf h0) (show zIV h0 _ (zsRen s 39).2 by rw [e]; exact hV3)
                  rw [e] at k
                  exact k
                by_cases y3 : 0 < c3 5 f2
                · rw [if_neg y1, if_neg y2, if_pos y3]
                  have y4 := zmni_e hV3.2.2.2.2.1.1 (f := f2) (by omega)
                  have e : zsRen s 39 = (-6, zt0 s) := by
                    unfold zsRen
                    rw [if_neg hkn, hkc]
                    rw [if_neg (fun z => z hz0)]
                    rw [if_neg (fun z => z hq7), ← hfo1]
                    rw [hix]
                    unfold zsMv
                    rw [← hfo2, ← hdd]
                    rw [if_neg (show ¬ f = 0 by omega)]
                    rw [if_neg (show ¬ f2 = f by omega)]
                    rw [if_neg (show ¬ (zt0 s 3 f = 2 ∧ zwi (zt0 s) f 39 dd = 1) from fun z => hch z.1 z.2)]
                    rw [if_neg (show ¬ (0 < f2 ∧ zt0 s 3 f = 2 ∧ zt0 s 3 f2 ≠ 2) from fun z => y1 ⟨by omega, by omega⟩)]
                    rw [if_neg (show ¬ (0 < f2 ∧ zt0 s 3 f ≠ 2 ∧ zt0 s 3 f2 = 2) from fun z => y2 ⟨by omega, by omega⟩)]
                    exact if_pos ⟨by omega, y4, by omega⟩
                  have k := hq h0 _ (zGR_rf h0) (show zIV h0 _ (zsRen s 39).2 by rw [e]; exact hV3)
                  rw [e] at k
                  exact k
                exact absurd (by rw [if_neg y1, if_neg y2, if_neg y3]; rfl) hq88
            · skip
              have hf20 : f2 = 0 := by omega
              have hnp : ¬ 0 < f2 := by omega
              have hn2 : zlkn (zt0 s) dd q (zt0 s 0 10) = none := (a6.resolve_left (fun ⟨jj, jj1, jj2⟩ => absurd (hV3.2.2.2.2.1.1.1 jj (zlkn_lt jj1).1).2.2.1 (by omega))).1
              have hR20 : c3 22 1 = 0 := by rw [w3, ← zGF_lk h3.1, zrow_none (zIX_of hV3) hn2]; rfl
              have hd21 : c3 21 0 = zt0 s 8 j := ((hG0 21).resolve_right (by omega)).trans (u2.trans r10.symm)
              refine wx_aload_n kc54_74 rfl rfl ?_
              refine wc_call hS kc54_75 rfl rfl rfl rfl rfl ?_
              refine cN_refusalOfMove hS hI3 (by rw [w2]; exact a1) ?_
              show zm_wp _ 54 78 [.ref 1, .int (zna (zwt (zt0 s) (k + 1) (s 0 1 - k - 1) 0)), zrF f, zrF f2] [.int (if c3 21 0 ≠ c3 21 1 ∧ c3 0 0 < zctk c3 + 0 + zcgr c3 (c3 21 1) then (-7 : Int32) else nI 0)] (zch h0 c3) _
              refine wx_goto kc54_78 ?_
              refine wx_istore_n (ls' := [.ref 1, .int (if c3 21 0 ≠ c3 21 1 ∧ c3 0 0 < zctk c3 + 0 + zcgr c3 (c3 21 1) then (-7 : Int32) else nI 0), zrF f, zrF f2]) kc54_86 rfl rfl rfl rfl ?_
              refine wx_iload_n kc54_87 rfl rfl ?_
              refine wx_if_eq kc54_88 (fun hq88 => ?_) (fun hq88 => ?_)
              · skip
                have y0 : ¬ (c3 21 0 ≠ c3 21 1 ∧ c3 0 0 < zctk c3 + 0 + zcgr c3 (c3 21 1)) := fun z => by
                  rw [if_pos z] at hq88
                  exact absurd hq88 (by decide)
                rw [w2] at y0
                have hrm : zmat (zt0 s) + zmgr (zt0 s) dd (zmni (zt0 s) dd (zt0 s 0 10) + 1 - (if zt0 s 8 j = dd then 1 else 0)) ≤ zt0 s 0 0 := by
                  have m0 := zIV_m hV3
                  by_cases hjd : zt0 s 8 j = dd
                  · rw [if_pos hjd, Nat.add_sub_cancel, zmgr_0 s10]
                    omega
                  · rw [if_neg hjd, Nat.sub_zero]
                    omega
                have hrr := zRF_of hV3 (f := zt0 s 8 j) (by rw [r10]; exact b1) (by rw [r10]; exact b2) (by rw [r10, b3]; decide)
                have hi8 : 1 ≤ zmni (zt0 s) (zt0 s 8 j) (zt0 s 0 10) := zmni_1 r9 rfl
                have hi9 : 1 ≤ zmno (zt0 s) f (zt0 s 0 10) := zmno_p r9 j2
                obtain ⟨_, _, _, _, _, _, _, _, rw9, rw10⟩ := hV3.2.2.2.1
                refine wx_aload_n kc54_93 rfl rfl ?_
                refine wx_aload_n kc54_94 rfl rfl ?_
                refine wc_get 1 6 (.ref (108 + 43 * 1)) hS kc54_95 rfl rfl rfl rfl ?_
                refine wcW_get (zrR 0) hS kc54_98 (by decide) (congrArg zrR hR20) ?_
                refine wc_call hS kc54_101 rfl rfl rfl rfl rfl ?_
                refine cN_takeAway0 ?_
                show zm_wp _ 54 104 [.ref 1, .int (if c3 21 0 ≠ c3 21 1 ∧ c3 0 0 < zctk c3 + 0 + zcgr c3 (c3 21 1) then (-7 : Int32) else nI 0), zrF f, zrF f2] [] (zch h0 c3) _
                refine wx_aload_n kc54_104 rfl rfl ?_
                refine wc_get 1 6 (.ref 46) hS kc54_105 rfl rfl rfl rfl ?_
                refine wx_aload_n kc54_108 rfl rfl ?_
                refine wc_get 1 6 (.ref (108 + 43 * 0)) hS kc54_109 rfl rfl rfl rfl ?_
                refine wcW_get (zrR R) hS kc54_112 (by decide) (congrArg zrR hR1) ?_
                refine wc_call hS kc54_115 rfl rfl rfl rfl rfl ?_
                refine cQ_drop hS hI3 r4 r5 (by rw [r6, r10]; exact b1) (by rw [r8, j2]; exact hp.1) (by rw [r6]; exact Nat.le_trans hi8 (Nat.le_of_eq hrr.2.2.1.symm)) (by rw [r8, j2, hF.1]; exact hi9) r2 r3 r12 (fun l hl => (zIV_row hV3 hl).1) ?_
                show zm_wp _ 54 118 [.ref 1, .int (if c3 21 0 ≠ c3 21 1 ∧ c3 0 0 < zctk c3 + 0 + zcgr c3 (c3 21 1) then (-7 : Int32) else nI 0), zrF f, zrF f2] [] (zch h0 (zdp c3 i R)) _
                refine wx_aload_n kc54_118 rfl rfl ?_
                refine wc_get 1 6 (.ref 46) hS kc54_119 rfl rfl rfl rfl ?_
                refine wx_aload_n kc54_122 rfl (zrF_k _) ?_
                refine wx_aload_n kc54_123 rfl rfl ?_
                refine wc_get 1 6 (.ref (108 + 43 * 1)) hS kc54_124 rfl rfl rfl rfl ?_
                have hzr := zdp_rows r2 h60 r3 rw9 rw10
                have hYI : zCI (zdp c3 i R) := zCI_dp hI3 r5
                have hY2 : (zdp c3 i R) 0 2 < 60 := by rw [zdp_2]; exact h59
                have eY : ∀ A, 13 ≤ A → (zdp c3 i R) A = c3 A := fun A hA => zdp_a _ _ _ A (Or.inr (Or.inr (Or.inr (Or.inr (Or.inr (Or.inr hA))))))
                obtain ⟨nb, gk, gl⟩ := w5
                obtain ⟨Y, hY⟩ : ∃ Y, Y = (zdp c3 i R) := ⟨_, rfl⟩
                rw [← hY] at hYI hY2 hzr eY ⊢
                have hrow := hzr.1 (Y 0 2) hY2
                show zm_wp _ 54 127 [.ref 1, .int (if c3 21 0 ≠ c3 21 1 ∧ c3 0 0 < zctk c3 + 0 + zcgr c3 (c3 21 1) then (-7 : Int32) else nI 0), zrF f, zrF f2] [.ref (108 + 43 * 1), zrF f, .ref 46] (zch h0 Y) _
                refine wc_call hS kc54_127 rfl rfl rfl rfl rfl ?_
                refine cQ_give (w := 1) (r := Y 10 (Y 0 2)) (dd := dd) (nb := nb) hS hYI (by decide) hY2 rfl hrow (hYI 10 _) (by rw [eY 21 (by decide)]; exact w2) a1 a2 hp.1 hf40 (fun z => by rw [eY 13 (by decide)] at z ⊢; exact hV3.2.2.2.2.2.2.1 _ z) (by rw [eY 17 (by decide)]; exact gk.1) (by rw [eY 18 (by decide), eY 20 (by decide)]; exact gl) (by rw [eY 20 (by decide)]; exact h20) hx1 (fun h4 c4 a hN => ?_)
                have hS4 := zEX_CS hN.1 hS
                have hN2 : zNB 13 14 255 h0 h4 (zup Y 0 2 (Y 0 2 + 1)) c4 (Y 10 (Y 0 2)) a q.length (fun i => Y 19 (1200 * Y 17 1 + (Y 18 1 + i))) := by rw [← w6, ← eY 20 (by decide)]; exact hN
                have q3 : ∀ i, i < q.length → zgd q i = Y 19 (1200 * Y 17 1 + (Y 18 1 + i)) := fun i hi => by
                  rw [eY 17 (by decide), eY 18 (by decide), eY 19 (by decide)]
                  exact q1 i hi
                show zm_wp _ 54 130 [.ref 1, .int (if c3 21 0 ≠ c3 21 1 ∧ c3 0 0 < zctk c3 + 0 + zcgr c3 (c3 21 1) then (-7 : Int32) else nI 0), zrF f, zrF f2] [] (zch h4 (zgv c4 (Y 10 (Y 0 2)) dd f)) _
                refine wx_aload_n kc54_130 rfl (zrF_k _) ?_
                refine wcF_get (.int (nI f)) hS4 kc54_131 (by omega) (by omega) rfl ?_
                refine wx_ireturn kc54_134 rfl rfl ?_
                have hv9 : zIV h4 (zgv c4 (Y 10 (Y 0 2)) dd f) (zadd (zrm1 (zt0 s) j) dd q.length (zgd q) f) := (by subst hY; exact zIV_mv0 hV3 r9 r2 r3 r6 r7 j2 hN2 rfl a1 a2 a3 a4 (by rw [zls_gq]; exact hn2) hch2 q3 q2 hrm)
                have e : zsRen s 39 = (nI f, zadd (zrm1 (zt0 s) j) dd q.length (zgd q) f) := by
                  unfold zsRen
                  rw [if_neg hkn, hkc]
                  rw [if_neg (fun z => z hz0)]
                  rw [if_neg (fun z => z hq7), ← hfo1]
                  rw [hix]
                  rw [zsMv_ok hf0 (by rw [← hfo2]; exact hf2f) (by rw [← hdd]; exact fun z => hch z.1 z.2) (by rw [← hfo2]; exact fun z => hnp z.1) (by rw [← hfo2]; exact fun z => hnp z.1) (by rw [← hfo2]; exact fun z => hnp z.1) (by rw [← hfo2, ← hdd, zMv_r0 hf20]; exact Nat.not_lt.mpr hrm)]
                  unfold zsMv3
                  rw [zMv_eq j2 (by rw [← hfo2]; exact fun z => absurd z hnp), ← hfo2, ← hdd, ← hqq, if_neg hnp]
                have k := hq h4 _ (zGR_n hN.1) (show zIV h4 _ (zsRen s 39).2 by rw [e]; exact hv9)
                rw [e] at k
                exact k
              · skip
                refine wx_iload_n kc54_91 rfl rfl ?_
                refine wx_ireturn kc54_92 rfl rfl ?_
                have y0 : c3 21 0 ≠ c3 21 1 ∧ c3 0 0 < zctk c3 + 0 + zcgr c3 (c3 21 1) := by
                  by_cases hcd : c3 21 0 ≠ c3 21 1 ∧ c3 0 0 < zctk c3 + 0 + zcgr c3 (c3 21 1)
                  · exact hcd
                  · exact absurd (if_neg hcd) hq88
                rw [if_pos y0]
                rw [w2] at y0
                have e : zsRen s 39 = (-7, zt0 s) := by
                  unfold zsRen
                  rw [if_neg hkn, hkc]
                  rw [if_neg (fun z => z hz0)]
                  rw [if_neg (fun z => z hq7), ← hfo1]
                  rw [hix]
                  unfold zsMv
                  rw [← hfo2, ← hdd]
                  rw [if_neg (show ¬ f = 0 by omega)]
                  rw [if_neg (show ¬ f2 = f by omega)]
                  rw [if_neg (show ¬ (zt0 s 3 f = 2 ∧ zwi (zt0 s) f 39 dd = 1) from fun z => hch z.1 z.2)]
                  rw [if_neg (fun z => absurd z.1 (by omega)), if_neg (fun z => absurd z.1 (by omega)), if_neg (fun z => absurd z.1 (by omega)), zMv_r0 (show f2 = 0 by omega), if_neg (show ¬ zt0 s 8 j = dd from fun z => y0.1 (by rw [hd21]; exact z)), Nat.sub_zero]
                  exact if_pos (by omega)
                have k := hq h0 _ (zGR_rf h0) (show zIV h0 _ (zsRen s 39).2 by rw [e]; exact hV3)
                rw [e] at k
                exact k
          refine wx_aload_n kc54_45 rfl (zrF_k _) ?_
          refine wcF_get (.int (nI (c3 2 f))) hS kc54_46 (by omega) (by omega) rfl ?_
          have hb49_1 : c3 2 f ≤ 3 := hI3 2 f
          refine wx_iconst (nI 2) kc54_49 (by decide) ?_
          refine wn_icmp_ne kc54_50 (by omega) (by decide) (fun hq50 => ?_) (fun hq50 => ?_)
          · skip
            first | exact key (fun z => absurd z (by omega)) | exact key (fun _ => by omega)
          · skip
            refine wx_aload_n kc54_53 rfl rfl ?_
            refine wc_get 1 6 (.ref (108 + 43 * 1)) hS kc54_54 rfl rfl rfl rfl ?_
            refine wcW_get (zrF dd) hS kc54_57 (by decide) (congrArg zrF w2) ?_
            refine wx_aload_n kc54_60 rfl (zrF_k _) ?_
            refine wx_static kc54_61 rfl rfl rfl ?_
            refine cN_isWithin hS hI3 a2 ?_
            show zm_wp _ 54 64 [.ref 1, .int (zna (zwt (zt0 s) (k + 1) (s 0 1 - k - 1) 0)), zrF f, zrF f2] [.int (nI (zcwi c3 f 40 dd))] (zch h0 c3) _
            refine wn_if_eq kc54_64 (by rw [hwi]; exact Nat.lt_of_le_of_lt (zwi_le _ _ _ _) (by decide)) (fun hq64 => ?_) (fun hq64 => ?_)
            · skip
              first | exact key (fun z => absurd z (by omega)) | exact key (fun _ => by omega)
            · skip
              refine wx_bipush (-10) kc54_67 (by decide) ?_
              refine wx_ireturn kc54_69 rfl rfl ?_
              have hw1 := zwi_le (zt0 s) f 39 dd
              have e : zsRen s 39 = (-10, zt0 s) := by
                unfold zsRen
                rw [if_neg hkn, hkc]
                rw [if_neg (fun z => z hz0)]
                rw [if_neg (fun z => z hq7), ← hfo1]
                rw [hix]
                unfold zsMv
                rw [← hfo2, ← hdd]
                rw [if_neg (show ¬ f = 0 by omega)]
                rw [if_neg (show ¬ f2 = f by omega)]
                rw [if_pos (show zt0 s 3 f = 2 ∧ zwi (zt0 s) f 39 dd = 1 from ⟨by omega, by omega⟩)]
              have k := hq h0 _ (zGR_rf h0) (show zIV h0 _ (zsRen s 39).2 by rw [e]; exact hV3)
              rw [e] at k
              exact k
        · skip
          refine wx_aload_n kc54_40 rfl (zrF_k _) ?_
          refine wcF_get (.int (nI f)) hS kc54_41 (by omega) (by omega) rfl ?_
          refine wx_ireturn kc54_44 rfl rfl ?_
          have e : zsRen s 39 = (nI f, zt0 s) := by
            unfold zsRen
            rw [if_neg hkn, hkc]
            rw [if_neg (fun z => z hz0)]
            rw [if_neg (fun z => z hq7), ← hfo1]
            rw [hix]
            unfold zsMv
            rw [← hfo2, ← hdd]
            rw [if_neg (show ¬ f = 0 by omega)]
            rw [if_pos (show f2 = f by omega)]
          have k := hq h0 _ (zGR_rf h0) (show zIV h0 _ (zsRen s 39).2 by rw [e]; exact hV3)
          rw [e] at k
          exact k
      · skip
        refine wx_bipush (-2) kc54_24 (by decide) ?_
        refine wx_ireturn kc54_26 rfl rfl ?_
        have e : zsRen s 39 = (-2, zt0 s) := by
          unfold zsRen
          rw [if_neg hkn, hkc]
          rw [if_neg (fun z => z hz0)]
          rw [if_neg (fun z => z hq7), ← hfo1]
          unfold zsMv
          rw [← hfo2, ← hdd]
          rw [if_pos (by omega)]
        have k := hq h0 _ (zGR_rf h0) (show zIV h0 _ (zsRen s 39).2 by rw [e]; exact hV3)
        rw [e] at k
        exact k
    · skip
      refine wx_iload_n kc54_10 rfl rfl ?_
      refine wx_ireturn kc54_11 rfl rfl ?_
      have e : zsRen s 39 = (zna (zwt (zt0 s) (k + 1) (s 0 1 - k - 1) 0), zt0 s) := by
        unfold zsRen
        rw [if_neg hkn, hkc]
        rw [if_neg (fun z => z hz0)]
        rw [if_pos hq7]
      have k := hq h0 _ (zGR_rf h0) (show zIV h0 _ (zsRen s 39).2 by rw [e]; exact hV3)
      rw [e] at k
      exact k
