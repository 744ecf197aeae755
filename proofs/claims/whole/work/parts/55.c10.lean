/-! calls of the class, held against the reference's numbers -/
def zGR (h0 h1 : zm_H) : Prop := ∃ hm, zEX 1000 h0 hm ∧ zEX 255 hm h1
theorem zGR_rf (h0 : zm_H) : zGR h0 h0 := ⟨h0, Or.inl rfl, Or.inl rfl⟩
theorem zGR_n {h0 h1 : zm_H} (h : zEX 255 h0 h1) : zGR h0 h1 := ⟨h0, Or.inl rfl, h⟩
theorem zRF_of {h0 : zm_H} {c s : Nat → Nat → Nat} (h : zIV h0 c s) {f : Nat} (h1 : 1 ≤ f) (h2 : f ≤ 40) (h3 : s 3 f ≠ 0) : zRF c s f := h.2.2.2.1.2.2.2.1 f h1 h2 h3
theorem zK_of {h0 : zm_H} {c s : Nat → Nat → Nat} (h : zIV h0 c s) {f : Nat} (h2 : f ≤ 40) : c 2 f = s 3 f := h.2.2.2.1.2.2.1 f h2
theorem fN_find {d : Nat} {h0 : zm_H} {c : Nat → Nat → Nat} {Q : Option Value → zm_H → Prop} {s : Nat → Nat → Nat} {fo : Nat}  (h : zIV h0 c s) (hx : h0.1 ≤ 2147483646) (hfo : fo ≤ 1) (hq : ∀ h1 c2, zGR h0 h1 → zIV h1 c2 (zsFind s fo).2 → Q (some (.int (zsFind s fo).1)) (zch h1 c2)) : zm_wc (d + 6) mN_find [.ref 1, .int (nI fo)] (zch h0 c) Q := by
  refine zm_enter2 (zfl_cons rfl (zfl_cons rfl zfl_nil)) rfl ?_
  show zm_wp _ 55 0 [.ref 1, .int (nI fo), zm_un] [] (zch h0 c) Q
  obtain ⟨hS, hI, hM, hR, hV, hA⟩ := id h
  have hx1 : h0.1 ≤ 2147483647 := by omega
  have hT : s 0 1 = c 0 1 := hR.1.2.1
  have hT2 : c 0 1 ≤ 1200 := hI 0 1
  have h1 := zIV_t0 h
  refine wx_aload_n kc55_0 rfl rfl ?_
  refine wx_iload_n kc55_1 rfl rfl ?_
  refine wc_call hS kc55_2 rfl rfl rfl rfl rfl ?_
  refine cN_readPath h hx1 hfo (fun hz => ?_) (fun hz c2 h2 => ?_)
  · skip
    show zm_wp _ 55 5 [.ref 1, .int (nI fo), zm_un] [.int (-1)] (zch h0 (zup c 0 1 0)) _
    refine wx_istore_n (ls' := [.ref 1, .int (nI fo), .int (-1)]) kc55_5 rfl rfl rfl rfl ?_
    refine wx_iload_n kc55_6 rfl rfl ?_
    refine wx_if_eq kc55_7 (fun hq7 => ?_) (fun hq7 => ?_)
    · skip
      exact absurd hq7 (by decide)
    · skip
      refine wx_iload_n kc55_10 rfl rfl ?_
      refine wx_ireturn kc55_11 rfl rfl ?_
      have e : zsFind s fo = (-1, zt0 s) := by
        unfold zsFind
        rw [if_pos hz]
      have k := hq h0 _ (zGR_rf h0) (show zIV h0 _ (zsFind s fo).2 by rw [e]; exact h1)
      rw [e] at k
      exact k
  · skip
    have hI2 := h2.2.1
    have hV2 := zIV_GF h1 h2.1 hI2
    obtain ⟨f, hf⟩ : ∃ f, f = c2 23 0 := ⟨_, rfl⟩
    have hf40 : f ≤ 40 := by rw [hf]; exact hI2 23 0
    show zm_wp _ 55 5 [.ref 1, .int (nI fo), zm_un] [.int ((zwt (zt0 s) 0 (s 0 1) fo).1)] (zch h0 c2) _
    refine wx_istore_n (ls' := [.ref 1, .int (nI fo), .int ((zwt (zt0 s) 0 (s 0 1) fo).1)]) kc55_5 rfl rfl rfl rfl ?_
    refine wx_iload_n kc55_6 rfl rfl ?_
    refine wx_if_eq kc55_7 (fun hq7 => ?_) (fun hq7 => ?_)
    · skip
      have hfo2 : f = (zwt (zt0 s) 0 (s 0 1) fo).2.1 := hf.trans (h2.2.2 hq7).1
      have hin := (zwt_in hV2 0 (s 0 1) fo).1
      rw [← hfo2] at hin
      refine wx_aload_n kc55_12 rfl rfl ?_
      refine wc_get 1 6 (.ref (108 + 43 * 0)) hS kc55_13 rfl rfl rfl rfl ?_
      refine wcW_get (zrF f) hS kc55_16 (by decide) (congrArg zrF hf.symm) ?_
      refine wcF_nnull kc55_19 (fun hq19 => ?_) (fun hq19 => ?_)
      · skip
        refine wx_aload_n kc55_27 rfl rfl ?_
        refine wc_get 1 6 (.ref (108 + 43 * 0)) hS kc55_28 rfl rfl rfl rfl ?_
        refine wcW_get (zrF f) hS kc55_31 (by decide) (congrArg zrF hf.symm) ?_
        refine wcF_get (.int (nI f)) hS kc55_34 (by omega) (by omega) rfl ?_
        refine wx_ireturn kc55_37 rfl rfl ?_
        have e : zsFind s fo = (nI f, zt0 s) := by
          unfold zsFind
          rw [if_neg (fun z => z hz)]
          unfold zsFnd
          rw [hq7, if_neg (by decide)]
          rw [← hfo2, if_neg (by omega)]
        have k := hq h0 _ (zGR_rf h0) (show zIV h0 _ (zsFind s fo).2 by rw [e]; exact hV2)
        rw [e] at k
        exact k
      · skip
        refine wx_bipush (-2) kc55_22 (by decide) ?_
        refine wx_goto kc55_24 ?_
        refine wx_ireturn kc55_37 rfl rfl ?_
        have hf0 : f = 0 := by omega
        have e : zsFind s fo = (-2, zt0 s) := by
          unfold zsFind
          rw [if_neg (fun z => z hz)]
          unfold zsFnd
          rw [hq7, if_neg (by decide)]
          rw [← hfo2, if_pos hf0]
        have k := hq h0 _ (zGR_rf h0) (show zIV h0 _ (zsFind s fo).2 by rw [e]; exact hV2)
        rw [e] at k
        exact k
    · skip
      refine wx_iload_n kc55_10 rfl rfl ?_
      refine wx_ireturn kc55_11 rfl rfl ?_
      have hlt := (zwt_cs (zt0 s) 0 (s 0 1) fo).resolve_left hq7
      have e : zsFind s fo = ((zwt (zt0 s) 0 (s 0 1) fo).1, zt0 s) := by
        unfold zsFind
        rw [if_neg (fun z => z hz)]
        unfold zsFnd
        rw [if_pos hlt]
      have k := hq h0 _ (zGR_rf h0) (show zIV h0 _ (zsFind s fo).2 by rw [e]; exact hV2)
      rw [e] at k
      exact k
theorem fN_hold {d : Nat} {h0 : zm_H} {c : Nat → Nat → Nat} {Q : Option Value → zm_H → Prop} {s : Nat → Nat → Nat}  (h : zIV h0 c s) (hx : h0.1 ≤ 2147483646) (hq : ∀ h1 c2, zGR h0 h1 → zIV h1 c2 (zsHold s).2 → Q (some (.int (zsHold s).1)) (zch h1 c2)) : zm_wc (d + 6) mN_hold [.ref 1] (zch h0 c) Q := by
  refine zm_enter2 (zfl_cons rfl zfl_nil) rfl ?_
  show zm_wp _ 56 0 [.ref 1, zm_un, zm_un] [] (zch h0 c) Q
  obtain ⟨hS, hI, hM, hR, hV, hA⟩ := id h
  have hx1 : h0.1 ≤ 2147483647 := by omega
  have hT : s 0 1 = c 0 1 := hR.1.2.1
  have hT2 : c 0 1 ≤ 1200 := hI 0 1
  have h1 := zIV_t0 h
  refine wx_aload_n kc56_0 rfl rfl ?_
  refine wx_iconst (nI 1) kc56_1 (by decide) ?_
  refine wc_call hS kc56_2 rfl rfl rfl rfl rfl ?_
  refine cN_readPath h hx1 (by decide) (fun hz => ?_) (fun hz c2 h2 => ?_)
  · skip
    show zm_wp _ 56 5 [.ref 1, zm_un, zm_un] [.int (-1)] (zch h0 (zup c 0 1 0)) _
    refine wx_istore_n (ls' := [.ref 1, .int (-1), zm_un]) kc56_5 rfl rfl rfl rfl ?_
    refine wx_iload_n kc56_6 rfl rfl ?_
    refine wx_if_eq kc56_7 (fun hq7 => ?_) (fun hq7 => ?_)
    · skip
      exact absurd hq7 (by decide)
    · skip
      refine wx_iload_n kc56_10 rfl rfl ?_
      refine wx_ireturn kc56_11 rfl rfl ?_
      have e : zsHold s = (-1, zt0 s) := by
        unfold zsHold
        rw [if_pos hz]
      have k := hq h0 _ (zGR_rf h0) (show zIV h0 _ (zsHold s).2 by rw [e]; exact h1)
      rw [e] at k
      exact k
  · skip
    have hI2 := h2.2.1
    have hV2 := zIV_GF h1 h2.1 hI2
    obtain ⟨f, hf⟩ : ∃ f, f = c2 23 0 := ⟨_, rfl⟩
    have hf40 : f ≤ 40 := by rw [hf]; exact hI2 23 0
    show zm_wp _ 56 5 [.ref 1, zm_un, zm_un] [.int ((zwt (zt0 s) 0 (s 0 1) 1).1)] (zch h0 c2) _
    refine wx_istore_n (ls' := [.ref 1, .int ((zwt (zt0 s) 0 (s 0 1) 1).1), zm_un]) kc56_5 rfl rfl rfl rfl ?_
    refine wx_iload_n kc56_6 rfl rfl ?_
    refine wx_if_eq kc56_7 (fun hq7 => ?_) (fun hq7 => ?_)
    · skip
      have hfo2 : f = (zwt (zt0 s) 0 (s 0 1) 1).2.1 := hf.trans (h2.2.2 hq7).1
      have hin := (zwt_in hV2 0 (s 0 1) 1).1
      rw [← hfo2] at hin
      refine wx_aload_n kc56_12 rfl rfl ?_
      refine wc_get 1 6 (.ref (108 + 43 * 0)) hS kc56_13 rfl rfl rfl rfl ?_
      refine wcW_get (zrF f) hS kc56_16 (by decide) (congrArg zrF hf.symm) ?_
      refine wx_astore_n (ls' := [.ref 1, .int ((zwt (zt0 s) 0 (s 0 1) 1).1), zrF f]) kc56_19 (zrF_k _) rfl rfl rfl ?_
      refine wx_aload_n kc56_20 rfl (zrF_k _) ?_
      refine wcF_nnull kc56_21 (fun hq21 => ?_) (fun hq21 => ?_)
      · skip
        refine wx_aload_n kc56_27 rfl (zrF_k _) ?_
        refine wcF_get (.int (nI (c2 2 f))) hS kc56_28 (by omega) (by omega) rfl ?_
        have hb31_1 : c2 2 f ≤ 3 := hI2 2 f
        refine wx_iconst (nI 1) kc56_31 (by decide) ?_
        refine wn_icmp_ne kc56_32 (by omega) (by decide) (fun hq32 => ?_) (fun hq32 => ?_)
        · skip
          refine wx_iconst (-1) kc56_44 (by decide) ?_
          refine wx_ireturn kc56_45 rfl rfl ?_
          have hp := hin.resolve_left (by omega)
          have hk : c2 2 f = zt0 s 3 f := zK_of hV2 hf40
          have hh : c2 4 f = zt0 s 5 f := (zRF_of hV2 hp.1 hp.2.1 hp.2.2).2.1
          have e : zsHold s = (-1, zt0 s) := by
            unfold zsHold
            rw [if_neg (fun z => z hz)]
            unfold zsHd1
            rw [hq7, if_neg (by decide)]
            rw [← hfo2, if_neg (by omega)]
            have h100 := hV2.2.2.2.2.1.2.2.2.2.2.1 f
            rw [if_pos (by omega)]
          have k := hq h0 _ (zGR_rf h0) (show zIV h0 _ (zsHold s).2 by rw [e]; exact hV2)
          rw [e] at k
          exact k
        · skip
          refine wx_aload_n kc56_35 rfl (zrF_k _) ?_
          refine wcF_get (.int (nI (c2 4 f))) hS kc56_36 (by omega) (by omega) rfl ?_
          have hb39_2 : c2 4 f ≤ 100 := hI2 4 f
          refine wx_bipush (nI 100) kc56_39 (by decide) ?_
          refine wn_icmp_lt kc56_41 (by omega) (by decide) (fun hq41 => ?_) (fun hq41 => ?_)
          · skip
            refine wx_aload_n kc56_46 rfl (zrF_k _) ?_
            refine wx_dup kc56_47 (zrF_c1 _) ?_
            refine wcF_get (.int (nI (c2 4 f))) hS kc56_48 (by omega) (by omega) rfl ?_
            have hb51_3 : c2 4 f ≤ 100 := hI2 4 f
            refine wx_iconst (nI 1) kc56_51 (by decide) ?_
            refine wn_iadd ((c2 4 f) + 1) kc56_52 rfl ?_
            refine wcF_put (v := ((c2 4 f) + 1)) 4 hS kc56_53 (by omega) (by omega) rfl rfl rfl ?_
            refine wx_aload_n kc56_56 rfl (zrF_k _) ?_
            refine wcF_get (.int (nI f)) hS kc56_57 (by omega) (by omega) rfl ?_
            refine wx_ireturn kc56_60 rfl rfl ?_
            have hp := hin.resolve_left (by omega)
            have hk : c2 2 f = zt0 s 3 f := zK_of hV2 hf40
            have hh : c2 4 f = zt0 s 5 f := (zRF_of hV2 hp.1 hp.2.1 hp.2.2).2.1
            have hv9 : zIV h0 (zup c2 4 f (c2 4 f + 1)) (zup (zt0 s) 5 f (zt0 s 5 f + 1)) := by rw [hh]; exact zIV_hd hV2 (by omega) (by omega) (Or.inr (by omega))
            have e : zsHold s = (nI f, zup (zt0 s) 5 f (zt0 s 5 f + 1)) := by
              unfold zsHold
              rw [if_neg (fun z => z hz)]
              unfold zsHd1
              rw [hq7, if_neg (by decide)]
              rw [← hfo2, if_neg (by omega)]
              have h100 := hV2.2.2.2.2.1.2.2.2.2.2.1 f
              rw [if_neg (by omega)]
            have k := hq h0 _ (zGR_rf h0) (show zIV h0 _ (zsHold s).2 by rw [e]; exact hv9)
            rw [e] at k
            exact k
          · skip
            refine wx_iconst (-1) kc56_44 (by decide) ?_
            refine wx_ireturn kc56_45 rfl rfl ?_
            have hp := hin.resolve_left (by omega)
            have hk : c2 2 f = zt0 s 3 f := zK_of hV2 hf40
            have hh : c2 4 f = zt0 s 5 f := (zRF_of hV2 hp.1 hp.2.1 hp.2.2).2.1
            have e : zsHold s = (-1, zt0 s) := by
              unfold zsHold
              rw [if_neg (fun z => z hz)]
              unfold zsHd1
              rw [hq7, if_neg (by decide)]
              rw [← hfo2, if_neg (by omega)]
              have h100 := hV2.2.2.2.2.1.2.2.2.2.2.1 f
              rw [if_pos (by omega)]
            have k := hq h0 _ (zGR_rf h0) (show zIV h0 _ (zsHold s).2 by rw [e]; exact hV2)
            rw [e] at k
            exact k
      · skip
        refine wx_bipush (-2) kc56_24 (by decide) ?_
        refine wx_ireturn kc56_26 rfl rfl ?_
        have hf0 : f = 0 := by omega
        have e : zsHold s = (-2, zt0 s) := by
          unfold zsHold
          rw [if_neg (fun z => z hz)]
          unfold zsHd1
          rw [hq7, if_neg (by decide)]
          rw [← hfo2, if_pos hf0]
        have k := hq h0 _ (zGR_rf h0) (show zIV h0 _ (zsHold s).2 by rw [e]; exact hV2)
        rw [e] at k
        exact k
    · skip
      refine wx_iload_n kc56_10 rfl rfl ?_
      refine wx_ireturn kc56_11 rfl rfl ?_
      have hlt := (zwt_cs (zt0 s) 0 (s 0 1) 1).resolve_left hq7
      have e : zsHold s = ((zwt (zt0 s) 0 (s 0 1) 1).1, zt0 s) := by
        unfold zsHold
        rw [if_neg (fun z => z hz)]
        unfold zsHd1
        rw [if_pos hlt]
      have k := hq h0 _ (zGR_rf h0) (show zIV h0 _ (zsHold s).2 by rw [e]; exact hV2)
      rw [e] at k
      exact k
theorem zNM_q {h0 : zm_H} {c c2 s : Nat → Nat → Nat} {w : Nat} (h : zIV h0 c s) {f k : Nat} (hk : f + k ≤ 1200) (hz : zna (zwt s f k 0) = 0) (hW : zWE h0 w c c2 (zwt s f k 0)) : (∀ i, i < (zwt s f k 0).2.2.2.1.length → zgd (zwt s f k 0).2.2.2.1 i = c2 19 (1200 * c2 17 w + (c2 18 w + i))) ∧ (∀ i, zgd (zwt s f k 0).2.2.2.1 i ≤ 255) := by
  obtain ⟨_, _, _, w4, _, w6⟩ := zWE_nm h hk hz hW
  have e : zls (fun j => c2 19 (1200 * c2 17 w + j)) (c2 18 w) (c2 18 w + c2 20 w) = (zwt s f k 0).2.2.2.1 := w4
  refine ⟨fun i hi => (zls_gd e i (by omega)).symm, zgd_le e (fun i => hW.2.1 19 _)⟩
theorem fN_remove {d : Nat} {h0 : zm_H} {c : Nat → Nat → Nat} {Q : Option Value → zm_H → Prop} {s : Nat → Nat → Nat}  (h : zIV h0 c s) (hx : h0.1 ≤ 2147483646) (hq : ∀ h1 c2, zGR h0 h1 → zIV h1 c2 (zsRm s false).2 → Q (some (.int (zsRm s false).1)) (zch h1 c2)) : zm_wc (d + 7) mN_remove [.ref 1] (zch h0 c) Q := by
  refine zm_enter2 (zfl_cons rfl zfl_nil) rfl ?_
  show zm_wp _ 52 0 [.ref 1, zm_un, zm_un] [] (zch h0 c) Q
  obtain ⟨hS, hI, hM, hR, hV, hA⟩ := id h
  have hx1 : h0.1 ≤ 2147483647 := by omega
  have hT : s 0 1 = c 0 1 := hR.1.2.1
  have hT2 : c 0 1 ≤ 1200 := hI 0 1
  have h1 := zIV_t0 h
  refine wx_aload_n kc52_0 rfl rfl ?_
  refine wc_call hS kc52_1 rfl rfl rfl rfl rfl ?_
  refine cN_readName h hx1 (fun hz => ?_) (fun hz c2 h2 => ?_)
  · skip
    show zm_wp _ 52 4 [.ref 1, zm_un, zm_un] [.int (-1)] (zch h0 (zup c 0 1 0)) _
    refine wx_istore_n (ls' := [.ref 1, .int (-1), zm_un]) kc52_4 rfl rfl rfl rfl ?_
    refine wx_iload_n kc52_5 rfl rfl ?_
    refine wx_if_eq kc52_6 (fun hq6 => ?_) (fun hq6 => ?_)
    · skip
      exact absurd hq6 (by decide)
    · skip
      refine wx_iload_n kc52_9 rfl rfl ?_
      refine wx_ireturn kc52_10 rfl rfl ?_
      have e : zsRm s false = (-1, zt0 s) := by
        unfold zsRm
        rw [if_pos hz]
      have k := hq h0 _ (zGR_rf h0) (show zIV h0 _ (zsRm s false).2 by rw [e]; exact h1)
      rw [e] at k
      exact k
  · skip
    have hI2 := h2.2.1
    have hV2 := zIV_GF h1 h2.1 hI2
    obtain ⟨f, hf⟩ : ∃ f, f = c2 23 0 := ⟨_, rfl⟩
    have hf40 : f ≤ 40 := by rw [hf]; exact hI2 23 0
    show zm_wp _ 52 4 [.ref 1, zm_un, zm_un] [.int (zna (zwt (zt0 s) 0 (s 0 1) 0))] (zch h0 c2) _
    refine wx_istore_n (ls' := [.ref 1, .int (zna (zwt (zt0 s) 0 (s 0 1) 0)), zm_un]) kc52_4 rfl rfl rfl rfl ?_
    refine wx_iload_n kc52_5 rfl rfl ?_
    refine wx_if_eq kc52_6 (fun hq6 => ?_) (fun hq6 => ?_)
    · skip
      obtain ⟨w1, w2, w3, w4, w5, w6⟩ := zWE_nm h1 (by omega) hq6 h2
      obtain ⟨_, _, a1, a2, a3, a4, a5, a6⟩ := zwt_nm h1 (f := 0) (k := s 0 1) (by omega) hq6
      have hfo2 : f = (zwt (zt0 s) 0 (s 0 1) 0).2.1 := hf.trans w1
      have hin := (zwt_in hV2 0 (s 0 1) 0).1
      rw [← hfo2] at hin a6
      refine wx_aload_n kc52_11 rfl rfl ?_
      refine wc_get 1 6 (.ref (108 + 43 * 0)) hS kc52_12 rfl rfl rfl rfl ?_
      refine wcW_get (zrF f) hS kc52_15 (by decide) (congrArg zrF hf.symm) ?_
      refine wx_astore_n (ls' := [.ref 1, .int (zna (zwt (zt0 s) 0 (s 0 1) 0)), zrF f]) kc52_18 (zrF_k _) rfl rfl rfl ?_
      refine wx_aload_n kc52_19 rfl (zrF_k _) ?_
      refine wcF_nnull kc52_20 (fun hq20 => ?_) (fun hq20 => ?_)
      · skip
        have hp := hin.resolve_left (by omega)
        have hk : c2 2 f = zt0 s 3 f := zK_of hV2 hf40
        have hF := zRF_of hV2 hp.1 hp.2.1 hp.2.2
        obtain ⟨j, j1, j2⟩ := a6.resolve_right (fun z => by have := z.2; omega)
        obtain ⟨R, i, r1, r2, r3, r4, r5, r6, r7, r8, r9, r10, r11, r12⟩ := zrow_some (zIX_of hV2) j1
        have hR22 : c2 22 0 = R := by rw [w3, ← zGF_lk h2.1, r1]; rfl
        have hrr := zRF_of hV2 (f := s 8 j) (by rw [show s 8 j = zt0 s 8 j from rfl, r10]; exact a1) (by rw [show s 8 j = zt0 s 8 j from rfl, r10]; exact a2) (by rw [show s 8 j = zt0 s 8 j from rfl, r10, a3]; decide)
        refine wx_aload_n kc52_26 rfl (zrF_k _) ?_
        refine wcF_get (.int (nI (c2 2 f))) hS kc52_27 (by omega) (by omega) rfl ?_
        have hb30_1 : c2 2 f ≤ 3 := hI2 2 f
        refine wx_iconst (nI 2) kc52_30 (by decide) ?_
        refine wn_icmp_ne kc52_31 (by omega) (by decide) (fun hq31 => ?_) (fun hq31 => ?_)
        · skip
          refine wx_aload_n kc52_37 rfl rfl ?_
          refine wx_aload_n kc52_38 rfl rfl ?_
          refine wc_get 1 6 (.ref (108 + 43 * 0)) hS kc52_39 rfl rfl rfl rfl ?_
          refine wcW_get (zrR R) hS kc52_42 (by decide) (congrArg zrR hR22) ?_
          have h12 : c2 12 R = f := r8.trans j2
          have hi8 : 1 ≤ zmni (zt0 s) (s 8 j) (zt0 s 0 10) := zmni_1 r9 rfl
          have hi9 : 1 ≤ zmno (zt0 s) f (zt0 s 0 10) := zmno_p r9 j2
          have hix : zix (zt0 s) (zwt (zt0 s) 0 (s 0 1) 0) = j := by unfold zix; rw [j1]; rfl
          refine wc_call hS kc52_45 rfl rfl rfl rfl rfl ?_
          refine cN_takeAway hS hI2 r4 r5 (by rw [r6, r10]; exact a1) (by rw [h12]; exact hp.1) (by rw [r6]; exact Nat.le_trans hi8 (Nat.le_of_eq hrr.2.2.1.symm)) (by rw [h12, hF.1]; exact hi9) r2 r3 r12 (fun j hj => (zIV_row hV2 hj).1) ?_
          show zm_wp _ 52 48 [.ref 1, .int (zna (zwt (zt0 s) 0 (s 0 1) 0)), zrF f] [] (zch h0 (zgu (zdp c2 i R) (c2 12 R))) _
          refine wx_aload_n kc52_48 rfl (zrF_k _) ?_
          refine wcF_get (.int (nI f)) hS kc52_49 (by omega) (by omega) rfl ?_
          refine wx_ireturn kc52_52 rfl rfl ?_
          have e : zsRm s false = (nI f, zrem (zt0 s) j) := by
            unfold zsRm
            rw [if_neg (fun z => z hz)]
            unfold zsRm1
            rw [if_neg (fun z => z hq6), ← hfo2]
            rw [if_neg (by omega)]
            rw [if_neg (fun z => absurd z.2 (by omega)), if_neg (fun z => absurd z.1 (by decide)), if_neg (fun z => absurd z.1 (by decide)), hix]
          have k := hq h0 _ (zGR_rf h0) (show zIV h0 _ (zsRm s false).2 by rw [e]; exact zIV_rm hV2 r9 r2 r3 r6 r7 (fun z => absurd (show zt0 s 3 f = 2 by rw [← j2]; exact z) (by omega)))
          rw [e] at k
          exact k
        · skip
          refine wx_bipush (-5) kc52_34 (by decide) ?_
          refine wx_ireturn kc52_36 rfl rfl ?_
          have e : zsRm s false = (-5, zt0 s) := by
            unfold zsRm
            rw [if_neg (fun z => z hz)]
            unfold zsRm1
            rw [if_neg (fun z => z hq6), ← hfo2]
            rw [if_neg (by omega)]
            rw [if_pos ⟨rfl, by omega⟩]
          have k := hq h0 _ (zGR_rf h0) (show zIV h0 _ (zsRm s false).2 by rw [e]; exact hV2)
          rw [e] at k
          exact k
      · skip
        refine wx_bipush (-2) kc52_23 (by decide) ?_
        refine wx_ireturn kc52_25 rfl rfl ?_
        have e : zsRm s false = (-2, zt0 s) := by
          unfold zsRm
          rw [if_neg (fun z => z hz)]
          unfold zsRm1
          rw [if_neg (fun z => z hq6), ← hfo2]
          rw [if_pos (by omega)]
        have k := hq h0 _ (zGR_rf h0) (show zIV h0 _ (zsRm s false).2 by rw [e]; exact hV2)
        rw [e] at k
        exact k
    · skip
      refine wx_iload_n kc52_9 rfl rfl ?_
      refine wx_ireturn kc52_10 rfl rfl ?_
      have e : zsRm s false = (zna (zwt (zt0 s) 0 (s 0 1) 0), zt0 s) := by
        unfold zsRm
        rw [if_neg (fun z => z hz)]
        unfold zsRm1
        rw [if_pos hq6]
      have k := hq h0 _ (zGR_rf h0) (show zIV h0 _ (zsRm s false).2 by rw [e]; exact hV2)
      rw [e] at k
      exact k
theorem fN_removeFolder {d : Nat} {h0 : zm_H} {c : Nat → Nat → Nat} {Q : Option Value → zm_H → Prop} {s : Nat → Nat → Nat}  (h : zIV h0 c s) (hx : h0.1 ≤ 2147483646) (hq : ∀ h1 c2, zGR h0 h1 → zIV h1 c2 (zsRm s true).2 → Q (some (.int (zsRm s true).1)) (zch h1 c2)) : zm_wc (d + 7) mN_removeFolder [.ref 1] (zch h0 c) Q := by
  refine zm_enter2 (zfl_cons rfl zfl_nil) rfl ?_
  show zm_wp _ 53 0 [.ref 1, zm_un, zm_un] [] (zch h0 c) Q
  obtain ⟨hS, hI, hM, hR, hV, hA⟩ := id h
  have hx1 : h0.1 ≤ 2147483647 := by omega
  have hT : s 0 1 = c 0 1 := hR.1.2.1
  have hT2 : c 0 1 ≤ 1200 := hI 0 1
  have h1 := zIV_t0 h
  refine wx_aload_n kc53_0 rfl rfl ?_
  refine wc_call hS kc53_1 rfl rfl rfl rfl rfl ?_
  refine cN_readName h hx1 (fun hz => ?_) (fun hz c2 h2 => ?_)
  · skip
    show zm_wp _ 53 4 [.ref 1, zm_un, zm_un] [.int (-1)] (zch h0 (zup c 0 1 0)) _
    refine wx_istore_n (ls' := [.ref 1, .int (-1), zm_un]) kc53_4 rfl rfl rfl rfl ?_
    refine wx_iload_n kc53_5 rfl rfl ?_
    refine wx_if_eq kc53_6 (fun hq6 => ?_) (fun hq6 => ?_)
    · skip
      exact absurd hq6 (by decide)
    · skip
      refine wx_iload_n kc53_9 rfl rfl ?_
      refine wx_ireturn kc53_10 rfl rfl ?_
      have e : zsRm s true = (-1, zt0 s) := by
        unfold zsRm
        rw [if_pos hz]
      have k := hq h0 _ (zGR_rf h0) (show zIV h0 _ (zsRm s true).2 by rw [e]; exact h1)
      rw [e] at k
      exact k
  · skip
    have hI2 := h2.2.1
    have hV2 := zIV_GF h1 h2.1 hI2
    obtain ⟨f, hf⟩ : ∃ f, f = c2 23 0 := ⟨_, rfl⟩
    have hf40 : f ≤ 40 := by rw [hf]; exact hI2 23 0
    show zm_wp _ 53 4 [.ref 1, zm_un, zm_un] [.int (zna (zwt (zt0 s) 0 (s 0 1) 0))] (zch h0 c2) _
    refine wx_istore_n (ls' := [.ref 1, .int (zna (zwt (zt0 s) 0 (s 0 1) 0)), zm_un]) kc53_4 rfl rfl rfl rfl ?_
    refine wx_iload_n kc53_5 rfl rfl ?_
    refine wx_if_eq kc53_6 (fun hq6 => ?_) (fun hq6 => ?_)
    · skip
      obtain ⟨w1, w2, w3, w4, w5, w6⟩ := zWE_nm h1 (by omega) hq6 h2
      obtain ⟨_, _, a1, a2, a3, a4, a5, a6⟩ := zwt_nm h1 (f := 0) (k := s 0 1) (by omega) hq6
      have hfo2 : f = (zwt (zt0 s) 0 (s 0 1) 0).2.1 := hf.trans w1
      have hin := (zwt_in hV2 0 (s 0 1) 0).1
      rw [← hfo2] at hin a6
      refine wx_aload_n kc53_11 rfl rfl ?_
      refine wc_get 1 6 (.ref (108 + 43 * 0)) hS kc53_12 rfl rfl rfl rfl ?_
      refine wcW_get (zrF f) hS kc53_15 (by decide) (congrArg zrF hf.symm) ?_
      refine wx_astore_n (ls' := [.ref 1, .int (zna (zwt (zt0 s) 0 (s 0 1) 0)), zrF f]) kc53_18 (zrF_k _) rfl rfl rfl ?_
      refine wx_aload_n kc53_19 rfl (zrF_k _) ?_
      refine wcF_nnull kc53_20 (fun hq20 => ?_) (fun hq20 => ?_)
      · skip
        have hp := hin.resolve_left (by omega)
        have hk : c2 2 f = zt0 s 3 f := zK_of hV2 hf40
        have hF := zRF_of hV2 hp.1 hp.2.1 hp.2.2
        obtain ⟨j, j1, j2⟩ := a6.resolve_right (fun z => by have := z.2; omega)
        obtain ⟨R, i, r1, r2, r3, r4, r5, r6, r7, r8, r9, r10, r11, r12⟩ := zrow_some (zIX_of hV2) j1
        have hR22 : c2 22 0 = R := by rw [w3, ← zGF_lk h2.1, r1]; rfl
        have hrr := zRF_of hV2 (f := s 8 j) (by rw [show s 8 j = zt0 s 8 j from rfl, r10]; exact a1) (by rw [show s 8 j = zt0 s 8 j from rfl, r10]; exact a2) (by rw [show s 8 j = zt0 s 8 j from rfl, r10, a3]; decide)
        refine wx_aload_n kc53_26 rfl (zrF_k _) ?_
        refine wcF_get (.int (nI (c2 2 f))) hS kc53_27 (by omega) (by omega) rfl ?_
        have hb30_1 : c2 2 f ≤ 3 := hI2 2 f
        refine wx_iconst (nI 2) kc53_30 (by decide) ?_
        refine wn_icmp_eq kc53_31 (by omega) (by decide) (fun hq31 => ?_) (fun hq31 => ?_)
        · skip
          refine wx_aload_n kc53_37 rfl (zrF_k _) ?_
          refine wcF_get (.int (nI (c2 5 f))) hS kc53_38 (by omega) (by omega) rfl ?_
          have hb41_2 : c2 5 f ≤ 60 := hI2 5 f
          refine wn_if_le kc53_41 (by omega) (fun hq41 => ?_) (fun hq41 => ?_)
          · skip
            refine wx_aload_n kc53_47 rfl rfl ?_
            refine wx_aload_n kc53_48 rfl rfl ?_
            refine wc_get 1 6 (.ref (108 + 43 * 0)) hS kc53_49 rfl rfl rfl rfl ?_
            refine wcW_get (zrR R) hS kc53_52 (by decide) (congrArg zrR hR22) ?_
            have h12 : c2 12 R = f := r8.trans j2
            have hi8 : 1 ≤ zmni (zt0 s) (s 8 j) (zt0 s 0 10) := zmni_1 r9 rfl
            have hi9 : 1 ≤ zmno (zt0 s) f (zt0 s 0 10) := zmno_p r9 j2
            have hix : zix (zt0 s) (zwt (zt0 s) 0 (s 0 1) 0) = j := by unfold zix; rw [j1]; rfl
            refine wc_call hS kc53_55 rfl rfl rfl rfl rfl ?_
            refine cN_takeAway hS hI2 r4 r5 (by rw [r6, r10]; exact a1) (by rw [h12]; exact hp.1) (by rw [r6]; exact Nat.le_trans hi8 (Nat.le_of_eq hrr.2.2.1.symm)) (by rw [h12, hF.1]; exact hi9) r2 r3 r12 (fun j hj => (zIV_row hV2 hj).1) ?_
            show zm_wp _ 53 58 [.ref 1, .int (zna (zwt (zt0 s) 0 (s 0 1) 0)), zrF f] [] (zch h0 (zgu (zdp c2 i R) (c2 12 R))) _
            refine wx_aload_n kc53_58 rfl (zrF_k _) ?_
            refine wcF_get (.int (nI f)) hS kc53_59 (by omega) (by omega) rfl ?_
            refine wx_ireturn kc53_62 rfl rfl ?_
            have hin5 := hF.2.2.1
            have e : zsRm s true = (nI f, zrem (zt0 s) j) := by
              unfold zsRm
              rw [if_neg (fun z => z hz)]
              unfold zsRm1
              rw [if_neg (fun z => z hq6), ← hfo2]
              rw [if_neg (by omega)]
              rw [if_neg (fun z => absurd z.1 (by decide))]
              rw [if_neg (fun z => absurd z.2 (by omega)), if_neg (fun z => absurd z.2 (by omega)), hix]
            have k := hq h0 _ (zGR_rf h0) (show zIV h0 _ (zsRm s true).2 by rw [e]; exact zIV_rm hV2 r9 r2 r3 r6 r7 (fun _ => by rw [j2]; omega))
            rw [e] at k
            exact k
          · skip
            refine wx_bipush (-6) kc53_44 (by decide) ?_
            refine wx_ireturn kc53_46 rfl rfl ?_
            have hin5 := hF.2.2.1
            have e : zsRm s true = (-6, zt0 s) := by
              unfold zsRm
              rw [if_neg (fun z => z hz)]
              unfold zsRm1
              rw [if_neg (fun z => z hq6), ← hfo2]
              rw [if_neg (by omega)]
              rw [if_neg (fun z => absurd z.1 (by decide))]
              rw [if_neg (fun z => absurd z.2 (by omega)), if_pos ⟨rfl, by omega⟩]
            have k := hq h0 _ (zGR_rf h0) (show zIV h0 _ (zsRm s true).2 by rw [e]; exact hV2)
            rw [e] at k
            exact k
        · skip
          refine wx_bipush (-4) kc53_34 (by decide) ?_
          refine wx_ireturn kc53_36 rfl rfl ?_
          have e : zsRm s true = (-4, zt0 s) := by
            unfold zsRm
            rw [if_neg (fun z => z hz)]
            unfold zsRm1
            rw [if_neg (fun z => z hq6), ← hfo2]
            rw [if_neg (by omega)]
            rw [if_neg (fun z => absurd z.1 (by decide))]
            rw [if_pos ⟨rfl, by omega⟩]
          have k := hq h0 _ (zGR_rf h0) (show zIV h0 _ (zsRm s true).2 by rw [e]; exact hV2)
          rw [e] at k
          exact k
      · skip
        refine wx_bipush (-2) kc53_23 (by decide) ?_
        refine wx_ireturn kc53_25 rfl rfl ?_
        have e : zsRm s true = (-2, zt0 s) := by
          unfold zsRm
          rw [if_neg (fun z => z hz)]
          unfold zsRm1
          rw [if_neg (fun z => z hq6), ← hfo2]
          rw [if_pos (by omega)]
        have k := hq h0 _ (zGR_rf h0) (show zIV h0 _ (zsRm s true).2 by rw [e]; exact hV2)
        rw [e] at k
        exact k
    · skip
      refine wx_iload_n kc53_9 rfl rfl ?_
      refine wx_ireturn kc53_10 rfl rfl ?_
      have e : zsRm s true = (zna (zwt (zt0 s) 0 (s 0 1) 0), zt0 s) := by
        unfold zsRm
        rw [if_neg (fun z => z hz)]
        unfold zsRm1
        rw [if_pos hq6]
      have k := hq h0 _ (zGR_rf h0) (show zIV h0 _ (zsRm s true).2 by rw [e]; exact hV2)
      rw [e] at k
      exact k
