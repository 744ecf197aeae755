theorem zck1_cg {c c2 : Nat → Nat → Nat} (h10 : c2 10 = c 10) (h11 : c2 11 = c 11) (h13 : c2 13 = c 13) (h14 : c2 14 = c 14) (h19 : c2 19 = c 19) (dd : Nat) (q : List Nat) : ∀ n i, zck1 c2 dd q n i = zck1 c dd q n i
  | 0, _ => rfl
  | n + 1, i => by
    show (if c2 11 (c2 10 i) = dd ∧ zcn c2 (c2 10 i) = q then some (c2 10 i) else zck1 c2 dd q n (i + 1)) = (if c 11 (c 10 i) = dd ∧ zcn c (c 10 i) = q then some (c 10 i) else zck1 c dd q n (i + 1))
    unfold zcn
    rw [zck1_cg h10 h11 h13 h14 h19 dd q n (i + 1), h10, h11, h13, h14, h19]
theorem zclk_cg {c c2 : Nat → Nat → Nat} (h0 : c2 0 2 = c 0 2) (h10 : c2 10 = c 10) (h11 : c2 11 = c 11) (h13 : c2 13 = c 13) (h14 : c2 14 = c 14) (h19 : c2 19 = c 19) (dd : Nat) (q : List Nat) : zclk c2 dd q = zclk c dd q := by
  unfold zclk
  rw [h0, zck1_cg h10 h11 h13 h14 h19]
theorem zck1_some {c : Nat → Nat → Nat} {dd : Nat} {q : List Nat} {r : Nat} : ∀ n i, zck1 c dd q n i = some r → ∃ j, i ≤ j ∧ j < i + n ∧ r = c 10 j ∧ c 11 r = dd ∧ zcn c r = q
  | 0, _, h => by cases h
  | n + 1, i, h => by
    unfold zck1 at h
    split at h
    · next hc => cases h; exact ⟨i, Nat.le_refl _, by omega, rfl, hc.1, hc.2⟩
    · obtain ⟨j, h1, h2, h3⟩ := zck1_some n (i + 1) h
      exact ⟨j, by omega, by omega, h3⟩
theorem zclk_some {c : Nat → Nat → Nat} {dd : Nat} {q : List Nat} {r : Nat} (h : zclk c dd q = some r) : ∃ j, j < c 0 2 ∧ r = c 10 j ∧ c 11 r = dd ∧ zcn c r = q := by
  obtain ⟨j, h1, h2, h3⟩ := zck1_some _ _ h
  exact ⟨j, by omega, h3⟩
/-- what a walk needs of the class -/
def zWK (h0 : zm_H) (c : Nat → Nat → Nat) : Prop := zCR h0 c ∧ (∀ i, i < c 0 2 → 1 ≤ c 12 (c 10 i)) ∧ (∀ g, g ≤ 40 → c 2 g = 3 → zga h0 (c 8 g) 1000 ∧ 1 ≤ c 9 g) ∧ c 2 0 = 0
theorem cW_goThrough {d : Nat} {h0 : zm_H} {c : Nat → Nat → Nat} {Q : Option Value → zm_H → Prop} {w g : Nat} (hS : zCS h0) (hI : zCI c) (hw : w ≤ 1) (hg1 : 1 ≤ g) (hg2 : g ≤ 40) (hk : c 2 g = 3) (hL : zga h0 (c 8 g) 1000 ∧ 1 ≤ c 9 g) (hdp : c 15 w ≤ c 16 w + 1) (hloop : 40 ≤ c 16 w → Q (some (.int (-8))) (zch h0 c)) (hok : c 16 w < 40 → Q (some (.int (nI 0))) (zch h0 (zup (zup (zup (zup (zup (zup c 16 w (c 16 w + 1)) 24 (41 * w + c 15 w) (c 8 g)) 25 (41 * w + c 15 w) 0) 26 (41 * w + c 15 w) (c 9 g)) 15 w (c 15 w + 1)) 23 w (if (zctg c g).head? = some 47 then 1 else c 21 w)))) : zm_wc (d + 2) mW_goThrough [.ref (108 + 43 * w), zrF g] (zch h0 c) Q := by
  refine zm_enter2 (zfl_cons rfl (zfl_cons (zrF_c1 _) zfl_nil)) rfl ?_
  show zm_wp _ 43 0 [.ref (108 + 43 * w), zrF g] [] (zch h0 c) Q
  obtain ⟨gt, gl⟩ := hL
  have gt1 := gt.1
  refine wx_aload_n kc43_0 rfl rfl ?_
  refine wcW_get (.int (nI (c 16 w))) hS kc43_1 hw rfl ?_
  have hb4_1 : c 16 w ≤ 40 := hI 16 w
  refine wx_bipush (nI 40) kc43_4 (by decide) ?_
  refine wn_icmp_lt kc43_6 (by omega) (by decide) (fun hq6 => ?_) (fun hq6 => ?_)
  · skip
    refine wx_aload_n kc43_12 rfl rfl ?_
    refine wx_dup kc43_13 rfl ?_
    refine wcW_get (.int (nI (c 16 w))) hS kc43_14 hw rfl ?_
    have hb17_2 : c 16 w ≤ 40 := hI 16 w
    refine wx_iconst (nI 1) kc43_17 (by decide) ?_
    refine wn_iadd ((c 16 w) + 1) kc43_18 rfl ?_
    refine wcW_put (v := ((c 16 w) + 1)) 16 hS kc43_19 hw rfl rfl rfl ?_
    show zm_wp _ 43 22 [.ref (108 + 43 * w), zrF g] [] (zch h0 (zup c 16 w ((c 16 w) + 1))) _
    have hI1 : zCI (zup c 16 w (c 16 w + 1)) := zCI_up hI (show c 16 w + 1 ≤ 40 by omega)
    refine wx_aload_n kc43_22 rfl rfl ?_
    refine wx_aload_n kc43_23 rfl (zrF_k _) ?_
    refine wcF_get (zrA (c 8 g)) hS kc43_24 (by omega) (by omega) rfl ?_
    have hb27_3 : c 8 g ≤ 2147483647 := hI 8 g
    refine wx_iconst (nI 0) kc43_27 (by decide) ?_
    refine wx_aload_n kc43_28 rfl (zrF_k _) ?_
    refine wcF_get (.int (nI (c 9 g))) hS kc43_29 (by omega) (by omega) rfl ?_
    have hb32_4 : c 9 g ≤ 1000 := hI 9 g
    have hb9 : c 9 g ≤ 1000 := hI 9 g
    have hb8 : c 8 g ≤ 2147483647 := hI 8 g
    have hb0 : c 15 w ≤ 41 := hI 15 w
    refine wcW_call hS kc43_32 rfl rfl hw rfl ?_
    refine cW_push hS hI1 hw (show c 15 w < 41 by omega) ?_
    show zm_wp _ 43 35 [.ref (108 + 43 * w), zrF g] [] (zch h0 (zup (zup (zup (zup (zup c 16 w (c 16 w + 1)) 24 (41 * w + c 15 w) (c 8 g)) 25 (41 * w + c 15 w) 0) 26 (41 * w + c 15 w) (c 9 g)) 15 w (c 15 w + 1))) _
    have hI2 : zCI (zup (zup (zup (zup (zup c 16 w (c 16 w + 1)) 24 (41 * w + c 15 w) (c 8 g)) 25 (41 * w + c 15 w) 0) 26 (41 * w + c 15 w) (c 9 g)) 15 w (c 15 w + 1)) := zCI_up (zCI_up (zCI_up (zCI_up hI1 (show c 8 g ≤ 2147483647 from hb8)) (Nat.zero_le _)) (show c 9 g ≤ 1200 by omega)) (show c 15 w + 1 ≤ 41 by omega)
    refine wx_aload_n kc43_35 rfl rfl ?_
    refine wx_aload_n kc43_36 rfl (zrF_k _) ?_
    refine wx_iconst (nI 0) kc43_37 (by decide) ?_
    refine wcF_call hS kc43_38 rfl rfl (by omega) (by omega) rfl ?_
    refine cF_byteOfTarget (x := nI 0) hS hI2 hg1 hg2 (fun _ => gt) (fun i b1 b2 b3 b4 => ?_) (fun b1 => ?_)
    · skip
      obtain rfl : i = 0 := ((nI_eq (by decide) (by have : i < c 9 g := b3; omega)).mp b4).symm
      have hb19 : c 19 (1200 * c 8 g + 0) ≤ 255 := hI 19 _
      have hd : (zctg c g).head? = some 47 ↔ c 19 (1200 * c 8 g + 0) = 47 := by
        unfold zctg
        rw [zls_cons _ (by omega)]
        simp
      show zm_wp _ 43 41 [.ref (108 + 43 * w), zrF g] [.int (nI (c 19 (1200 * c 8 g + 0))), .ref (108 + 43 * w)] (zch h0 (zup (zup (zup (zup (zup c 16 w (c 16 w + 1)) 24 (41 * w + c 15 w) (c 8 g)) 25 (41 * w + c 15 w) 0) 26 (41 * w + c 15 w) (c 9 g)) 15 w (c 15 w + 1))) _
      refine wx_bipush (nI 47) kc43_41 (by decide) ?_
      refine wn_icmp_ne kc43_43 (by omega) (by decide) (fun hq43 => ?_) (fun hq43 => ?_)
      · skip
        refine wx_aload_n kc43_53 rfl rfl ?_
        refine wcW_get (zrF (c 21 w)) hS kc43_54 hw rfl ?_
        have hb57_5 : c 21 w ≤ 40 := hI 21 w
        refine wcW_put (v := (c 21 w)) 23 hS kc43_57 hw rfl rfl (zrF_fo _ _) ?_
        refine wx_iconst (nI 0) kc43_60 (by decide) ?_
        refine wx_ireturn kc43_61 rfl rfl ?_
        have e : (if (zctg c g).head? = some 47 then 1 else c 21 w) = (c 21 w) := by first | exact if_pos (hd.mpr (by omega)) | exact if_neg (fun z => absurd (hd.mp z) (by omega))
        have k := hok (by omega)
        rw [e] at k
        exact k
      · skip
        refine wx_aload_n kc43_46 rfl rfl ?_
        refine wcW_get (zrF 1) hS kc43_47 hw rfl ?_
        refine wx_goto kc43_50 ?_
        refine wcW_put (v := 1) 23 hS kc43_57 hw rfl rfl (zrF_fo _ _) ?_
        refine wx_iconst (nI 0) kc43_60 (by decide) ?_
        refine wx_ireturn kc43_61 rfl rfl ?_
        have e : (if (zctg c g).head? = some 47 then 1 else c 21 w) = 1 := by first | exact if_pos (hd.mpr (by omega)) | exact if_neg (fun z => absurd (hd.mp z) (by omega))
        have k := hok (by omega)
        rw [e] at k
        exact k
    · exact absurd rfl (b1 0 hk (by show c 8 g ≠ 0; omega) (by show 0 < c 9 g; omega))
  · skip
    refine wx_bipush (-8) kc43_9 (by decide) ?_
    refine wx_ireturn kc43_11 rfl rfl ?_
    exact hloop (by omega)
theorem cW_step {d : Nat} {h0 : zm_H} {c : Nat → Nat → Nat} {Q : Option Value → zm_H → Prop} {w la fo : Nat} (hS : zCS h0) (hI : zCI c) (hw : w ≤ 1) (hW : zWK h0 c) (hp : zPG h0 c w) (h17 : c 17 w ≠ 0) (hla : la ≤ 1) (hfo : fo ≤ 1) (hdp : c 15 w ≤ c 16 w + 1) (k1 : 255 < (zpw c w).length → Q (some (.int (-9))) (zch h0 c)) (k2 : (zpw c w).length ≤ 255 → c 2 (c 23 w) ≠ 2 → Q (some (.int (-4))) (zch h0 c)) (k3 : (zpw c w).length ≤ 255 → c 2 (c 23 w) = 2 → zpw c w = [46, 46] → Q (some (.int (nI 0))) (zch h0 (zup (zup (zup c 21 w (c 23 w)) 22 w 0) 23 w (c 7 (c 23 w))))) (k4 : (zpw c w).length ≤ 255 → c 2 (c 23 w) = 2 → ¬ zpw c w = [46, 46] → zclk c (c 23 w) (zpw c w) = none → Q (some (.int (if la = 1 then nI 0 else -2))) (zch h0 (zup (zup (zup c 21 w (c 23 w)) 22 w 0) 23 w 0))) (k5 : (zpw c w).length ≤ 255 → c 2 (c 23 w) = 2 → ¬ zpw c w = [46, 46] → ∀ r, zclk c (c 23 w) (zpw c w) = some r → ¬ (c 2 (c 12 r) = 3 ∧ (la ≠ 1 ∨ fo = 1)) → Q (some (.int (nI 0))) (zch h0 (zup (zup (zup c 21 w (c 23 w)) 22 w r) 23 w (c 12 r)))) (k6 : (zpw c w).length ≤ 255 → c 2 (c 23 w) = 2 → ¬ zpw c w = [46, 46] → ∀ r, zclk c (c 23 w) (zpw c w) = some r → (c 2 (c 12 r) = 3 ∧ (la ≠ 1 ∨ fo = 1)) → 40 ≤ c 16 w → Q (some (.int (-8))) (zch h0 (zup (zup (zup c 21 w (c 23 w)) 22 w r) 23 w (c 12 r)))) (k7 : (zpw c w).length ≤ 255 → c 2 (c 23 w) = 2 → ¬ zpw c w = [46, 46] → ∀ r, zclk c (c 23 w) (zpw c w) = some r → (c 2 (c 12 r) = 3 ∧ (la ≠ 1 ∨ fo = 1)) → c 16 w < 40 → Q (some (.int (nI 0))) (zch h0 (zup (zup (zup (zup (zup (zup (zup (zup (zup c 21 w (c 23 w)) 22 w r) 23 w (c 12 r)) 16 w (c 16 w + 1)) 24 (41 * w + c 15 w) (c 8 (c 12 r))) 25 (41 * w + c 15 w) 0) 26 (41 * w + c 15 w) (c 9 (c 12 r))) 15 w (c 15 w + 1)) 23 w (if (zctg c (c 12 r)).head? = some 47 then 1 else c 23 w)))) : zm_wc (d + 3) mW_step [.ref (108 + 43 * w), .int (nI la), .int (nI fo)] (zch h0 c) Q := by
  refine zm_enter2 (zfl_cons rfl (zfl_cons rfl (zfl_cons rfl zfl_nil))) rfl ?_
  show zm_wp _ 42 0 [.ref (108 + 43 * w), .int (nI la), .int (nI fo), zm_un] [] (zch h0 c) Q
  obtain ⟨hR, hF, hT, hK0⟩ := hW
  have hb20 : c 20 w ≤ 1200 := hI 20 w
  have hb23 : c 23 w ≤ 40 := hI 23 w
  have hlen := zpw_len c w
  obtain ⟨nb, ⟨gb, _⟩, gl⟩ := hp.2 h17
  refine wx_aload_n kc42_0 rfl rfl ?_
  refine wcW_get (.int (nI (c 20 w))) hS kc42_1 hw rfl ?_
  have hb4_1 : c 20 w ≤ 1200 := hI 20 w
  refine wx_sipush (nI 255) kc42_4 (by decide) ?_
  refine wn_icmp_le kc42_7 (by omega) (by decide) (fun hq7 => ?_) (fun hq7 => ?_)
  · skip
    refine wx_aload_n kc42_13 rfl rfl ?_
    refine wcW_get (zrF (c 23 w)) hS kc42_14 hw rfl ?_
    have hb17_2 : c 23 w ≤ 40 := hI 23 w
    refine wcF_null kc42_17 (fun hq17 => ?_) (fun hq17 => ?_)
    · skip
      refine wx_bipush (-4) kc42_31 (by decide) ?_
      refine wx_ireturn kc42_33 rfl rfl ?_
      exact k2 (by omega) (by first | omega | (rw [show c 23 w = 0 by omega, hK0]; decide))
    · skip
      refine wx_aload_n kc42_20 rfl rfl ?_
      refine wcW_get (zrF (c 23 w)) hS kc42_21 hw rfl ?_
      have hb24_3 : c 23 w ≤ 40 := hI 23 w
      refine wcF_get (.int (nI (c 2 (c 23 w)))) hS kc42_24 (by omega) (by omega) rfl ?_
      have hb27_4 : c 2 (c 23 w) ≤ 3 := hI 2 (c 23 w)
      refine wx_iconst (nI 2) kc42_27 (by decide) ?_
      refine wn_icmp_eq kc42_28 (by omega) (by decide) (fun hq28 => ?_) (fun hq28 => ?_)
      · skip
        have hI1 : zCI (zup c 21 w (c 23 w)) := zCI_up hI (show c 23 w ≤ 40 from hb23)
        refine wx_aload_n kc42_34 rfl rfl ?_
        refine wx_aload_n kc42_35 rfl rfl ?_
        refine wcW_get (zrF (c 23 w)) hS kc42_36 hw rfl ?_
        have hb39_5 : c 23 w ≤ 40 := hI 23 w
        refine wcW_put (v := (c 23 w)) 21 hS kc42_39 hw rfl rfl (zrF_fo _ _) ?_
        refine wx_aload_n kc42_42 rfl rfl ?_
        refine wcW_call hS kc42_43 rfl rfl hw rfl ?_
        refine cW_isUp hS hI1 hw hp ?_
        show zm_wp _ 42 46 [.ref (108 + 43 * w), .int (nI la), .int (nI fo), zm_un] [.int (nI (if zpw c w = [46, 46] then 1 else 0))] (zch h0 (zup c 21 w (c 23 w))) _
        refine wn_if_eq kc42_46 (by split <;> decide) (fun hq46 => ?_) (fun hq46 => ?_)
        · skip
          have hu : ¬ zpw c w = [46, 46] := fun z => by rw [if_pos z] at hq46; exact absurd hq46 (by decide)
          refine wx_aload_n kc42_67 rfl rfl ?_
          refine wx_aload_n kc42_68 rfl rfl ?_
          refine wcW_get (.ref 46) hS kc42_69 hw rfl ?_
          refine wx_aload_n kc42_72 rfl rfl ?_
          refine wcW_get (zrF (c 23 w)) hS kc42_73 hw (congrArg zrF (show (zup c 21 w (c 23 w)) 21 w = (c 23 w) from zup_same _ _ _ _)) ?_
          refine wx_aload_n kc42_76 rfl rfl ?_
          refine wcW_get (zrA (c 17 w)) hS kc42_77 hw rfl ?_
          have hb80_6 : c 17 w ≤ 2147483647 := hI 17 w
          refine wx_aload_n kc42_80 rfl rfl ?_
          refine wcW_get (.int (nI (c 18 w))) hS kc42_81 hw rfl ?_
          have hb84_7 : c 18 w ≤ 1200 := hI 18 w
          refine wx_aload_n kc42_84 rfl rfl ?_
          refine wcW_get (.int (nI (c 20 w))) hS kc42_85 hw rfl ?_
          have hb88_8 : c 20 w ≤ 1200 := hI 20 w
          refine wc_call hS kc42_88 rfl rfl rfl rfl rfl ?_
          refine cQ_lookUp (dd := c 23 w) (b := c 17 w) (k := c 18 w) (nn := c 20 w) hS hI1 hR gb (by omega) ?_
          have ek : zclk (zup c 21 w (c 23 w)) (c 23 w) (zpw c w) = zclk c (c 23 w) (zpw c w) := zclk_cg (c := c) (c2 := zup c 21 w (c 23 w)) rfl rfl rfl rfl rfl rfl _ _
          show zm_wp _ 42 91 [.ref (108 + 43 * w), .int (nI la), .int (nI fo), zm_un] (zrR (zon (zclk (zup c 21 w (c 23 w)) (c 23 w) (zpw c w))) :: [.ref (108 + 43 * w)]) (zch h0 (zup c 21 w (c 23 w))) _
          rw [ek]
          cases hk : zclk c (c 23 w) (zpw c w) with
          | none =>
            show zm_wp _ 42 91 [.ref (108 + 43 * w), .int (nI la), .int (nI fo), zm_un] [zrR 0, .ref (108 + 43 * w)] (zch h0 (zup c 21 w (c 23 w))) _
            refine wcW_put (v := 0) 22 hS kc42_91 hw rfl rfl (zrR_fo _ _) ?_
            refine wx_aload_n kc42_94 rfl rfl ?_
            refine wcW_get (zrR 0) hS kc42_95 hw (congrArg zrR (show (zup (zup c 21 w (c 23 w)) 22 w 0) 22 w = 0 from zup_same _ _ _ _)) ?_
            refine wx_ifnonnullN kc42_98 ?_
            refine wx_aload_n kc42_101 rfl rfl ?_
            refine wx_aconst_null kc42_102 ?_
            refine wcW_put (v := 0) 23 hS kc42_103 hw rfl rfl rfl ?_
            refine wx_iload_n kc42_106 rfl rfl ?_
            refine wn_if_eq kc42_107 (by omega) (fun hq107 => ?_) (fun hq107 => ?_)
            · skip
              refine wx_bipush (-2) kc42_114 (by decide) ?_
              refine wx_ireturn kc42_116 rfl rfl ?_
              have k := k4 (by omega) (by omega) hu hk
              first | (rw [if_pos (by omega)] at k; exact k) | (rw [if_neg (by omega)] at k; exact k)
            · skip
              refine wx_iconst (nI 0) kc42_110 (by decide) ?_
              refine wx_goto kc42_111 ?_
              refine wx_ireturn kc42_116 rfl rfl ?_
              have k := k4 (by omega) (by omega) hu hk
              first | (rw [if_pos (by omega)] at k; exact k) | (rw [if_neg (by omega)] at k; exact k)
          | some r =>
            obtain ⟨i, i1, i2, i3, i4⟩ := zclk_some hk
            have r1 : 1 ≤ r := by rw [i2]; exact (hR i i1).1
            have r2 : r ≤ 60 := by rw [i2]; exact hI 10 i
            have r3 : 1 ≤ c 12 r := by rw [i2]; exact hF i i1
            have r4 : c 12 r ≤ 40 := hI 12 r
            show zm_wp _ 42 91 [.ref (108 + 43 * w), .int (nI la), .int (nI fo), zm_un] [zrR r, .ref (108 + 43 * w)] (zch h0 (zup c 21 w (c 23 w))) _
            refine wcW_put (v := r) 22 hS kc42_91 hw rfl rfl (zrR_fo _ _) ?_
            refine wx_aload_n kc42_94 rfl rfl ?_
            refine wcW_get (zrR r) hS kc42_95 hw (congrArg zrR (show (zup (zup c 21 w (c 23 w)) 22 w r) 22 w = r from zup_same _ _ _ _)) ?_
            refine wcR_nnull kc42_98 (fun _ => ?_) (fun z => absurd z (by omega))
            refine wx_aload_n kc42_117 rfl rfl ?_
            refine wx_aload_n kc42_118 rfl rfl ?_
            refine wcW_get (zrR r) hS kc42_119 hw (congrArg zrR (show (zup (zup c 21 w (c 23 w)) 22 w r) 22 w = r from zup_same _ _ _ _)) ?_
            refine wcR_get (zrF (c 12 r)) hS kc42_122 (by omega) (by omega) rfl ?_
            have hb125_9 : c 12 r ≤ 40 := hI 12 r
            refine wcW_put (v := (c 12 r)) 23 hS kc42_125 hw rfl rfl (zrF_fo _ _) ?_
            refine wx_aload_n kc42_128 rfl rfl ?_
            refine wcW_get (zrF (c 12 r)) hS kc42_129 hw (congrArg zrF (show (zup (zup (zup c 21 w (c 23 w)) 22 w r) 23 w (c 12 r)) 23 w = (c 12 r) from zup_same _ _ _ _)) ?_
            refine wcF_null kc42_132 (fun z => absurd z (by omega)) (fun _ => ?_)
            refine wx_aload_n kc42_135 rfl rfl ?_
            refine wcW_get (zrF (c 12 r)) hS kc42_136 hw (congrArg zrF (show (zup (zup (zup c 21 w (c 23 w)) 22 w r) 23 w (c 12 r)) 23 w = (c 12 r) from zup_same _ _ _ _)) ?_
            refine wcF_get (.int (nI (c 2 (c 12 r)))) hS kc42_139 (by omega) (by omega) rfl ?_
            have hb142_10 : c 2 (c 12 r) ≤ 3 := hI 2 (c 12 r)
            refine wx_iconst (nI 3) kc42_142 (by decide) ?_
            refine wn_icmp_ne kc42_143 (by omega) (by decide) (fun hq143 => ?_) (fun hq143 => ?_)
            · skip
              refine wx_iconst (nI 0) kc42_158 (by decide) ?_
              refine wx_istore_n (ls' := [.ref (108 + 43 * w), .int (nI la), .int (nI fo), .int (nI 0)]) kc42_159 rfl rfl rfl rfl ?_
              refine wx_iload_n kc42_160 rfl rfl ?_
              refine wn_if_eq kc42_161 (by decide) (fun _ => ?_) (fun z => absurd z (by decide))
              refine wx_iconst (nI 0) kc42_175 (by decide) ?_
              refine wx_ireturn kc42_176 rfl rfl ?_
              exact k5 (by omega) (by omega) hu r hk (by omega)
            · skip
              refine wx_iload_n kc42_146 rfl rfl ?_
              refine wn_if_ne kc42_147 (by omega) (fun hq147 => ?_) (fun hq147 => ?_)
              · skip
                refine wx_iconst (nI 1) kc42_154 (by decide) ?_
                refine wx_goto kc42_155 ?_
                refine wx_istore_n (ls' := [.ref (108 + 43 * w), .int (nI la), .int (nI fo), .int (nI 1)]) kc42_159 rfl rfl rfl rfl ?_
                refine wx_iload_n kc42_160 rfl rfl ?_
                refine wn_if_eq kc42_161 (by decide) (fun z => absurd z (by decide)) (fun _ => ?_)
                refine wx_aload_n kc42_164 rfl rfl ?_
                refine wx_aload_n kc42_165 rfl rfl ?_
                refine wcW_get (zrF (c 12 r)) hS kc42_166 hw (congrArg zrF (show (zup (zup (zup c 21 w (c 23 w)) 22 w r) 23 w (c 12 r)) 23 w = (c 12 r) from zup_same _ _ _ _)) ?_
                show zm_wp _ 42 169 [.ref (108 + 43 * w), .int (nI la), .int (nI fo), .int (nI 1)] [zrF (c 12 r), .ref (108 + 43 * w)] (zch h0 (zup (zup (zup c 21 w (c 23 w)) 22 w r) 23 w (c 12 r))) _
                have hI5 : zCI (zup (zup (zup c 21 w (c 23 w)) 22 w r) 23 w (c 12 r)) := zCI_up (zCI_up hI1 (show r ≤ 60 from r2)) (show c 12 r ≤ 40 from r4)
                refine wcW_call hS kc42_169 rfl rfl hw rfl ?_
                have hth : c 2 (c 12 r) = 3 ∧ (la ≠ 1 ∨ fo = 1) := ⟨by omega, by omega⟩
                refine cW_goThrough hS hI5 hw r3 r4 (by show c 2 (c 12 r) = 3; omega) (hT _ r4 (by omega)) hdp (fun q8 => ?_) (fun q8 => ?_)
                · skip
                  show zm_wp _ 42 172 [.ref (108 + 43 * w), .int (nI la), .int (nI fo), .int (nI 1)] [.int (-8)] (zch h0 (zup (zup (zup c 21 w (c 23 w)) 22 w r) 23 w (c 12 r))) _
                  refine wx_goto kc42_172 ?_
                  refine wx_ireturn kc42_176 rfl rfl ?_
                  exact k6 (by omega) (by omega) hu r hk hth q8
                · skip
                  refine wx_goto kc42_172 ?_
                  refine wx_ireturn kc42_176 rfl rfl ?_
                  have e21 : (zup (zup (zup c 21 w (c 23 w)) 22 w r) 23 w (c 12 r)) 21 w = c 23 w := (show zup c 21 w (c 23 w) 21 w = c 23 w from zup_same _ _ _ _)
                  rw [e21]
                  exact k7 (by omega) (by omega) hu r hk hth q8
              · skip
                refine wx_iload_n kc42_150 rfl rfl ?_
                refine wn_if_ne kc42_151 (by omega) (fun hq151 => ?_) (fun hq151 => ?_)
                · skip
                  refine wx_iconst (nI 0) kc42_158 (by decide) ?_
                  refine wx_istore_n (ls' := [.ref (108 + 43 * w), .int (nI la), .int (nI fo), .int (nI 0)]) kc42_159 rfl rfl rfl rfl ?_
                  refine wx_iload_n kc42_160 rfl rfl ?_
                  refine wn_if_eq kc42_161 (by decide) (fun _ => ?_) (fun z => absurd z (by decide))
                  refine wx_iconst (nI 0) kc42_175 (by decide) ?_
                  refine wx_ireturn kc42_176 rfl rfl ?_
                  exact k5 (by omega) (by omega) hu r hk (by omega)
                · skip
                  refine wx_iconst (nI 1) kc42_154 (by decide) ?_
                  refine wx_goto kc42_155 ?_
                  refine wx_istore_n (ls' := [.ref (108 + 43 * w), .int (nI la), .int (nI fo), .int (nI 1)]) kc42_159 rfl rfl rfl rfl ?_
                  refine wx_iload_n kc42_160 rfl rfl ?_
                  refine wn_if_eq kc42_161 (by decide) (fun z => absurd z (by decide)) (fun _ => ?_)
                  refine wx_aload_n kc42_164 rfl rfl ?_
                  refine wx_aload_n kc42_165 rfl rfl ?_
                  refine wcW_get (zrF (c 12 r)) hS kc42_166 hw (congrArg zrF (show (zup (zup (zup c 21 w (c 23 w)) 22 w r) 23 w (c 12 r)) 23 w = (c 12 r) from zup_same _ _ _ _)) ?_
                  show zm_wp _ 42 169 [.ref (108 + 43 * w), .int (nI la), .int (nI fo), .int (nI 1)] [zrF (c 12 r), .ref (108 + 43 * w)] (zch h0 (zup (zup (zup c 21 w (c 23 w)) 22 w r) 23 w (c 12 r))) _
                  have hI5 : zCI (zup (zup (zup c 21 w (c 23 w)) 22 w r) 23 w (c 12 r)) := zCI_up (zCI_up hI1 (show r ≤ 60 from r2)) (show c 12 r ≤ 40 from r4)
                  refine wcW_call hS kc42_169 rfl rfl hw rfl ?_
                  have hth : c 2 (c 12 r) = 3 ∧ (la ≠ 1 ∨ fo = 1) := ⟨by omega, by omega⟩
                  refine cW_goThrough hS hI5 hw r3 r4 (by show c 2 (c 12 r) = 3; omega) (hT _ r4 (by omega)) hdp (fun q8 => ?_) (fun q8 => ?_)
                  · skip
                    show zm_wp _ 42 172 [.ref (108 + 43 * w), .int (nI la), .int (nI fo), .int (nI 1)] [.int (-8)] (zch h0 (zup (zup (zup c 21 w (c 23 w)) 22 w r) 23 w (c 12 r))) _
                    refine wx_goto kc42_172 ?_
                    refine wx_ireturn kc42_176 rfl rfl ?_
                    exact k6 (by omega) (by omega) hu r hk hth q8
                  · skip
                    refine wx_goto kc42_172 ?_
                    refine wx_ireturn kc42_176 rfl rfl ?_
                    have e21 : (zup (zup (zup c 21 w (c 23 w)) 22 w r) 23 w (c 12 r)) 21 w = c 23 w := (show zup c 21 w (c 23 w) 21 w = c 23 w from zup_same _ _ _ _)
                    rw [e21]
                    exact k7 (by omega) (by omega) hu r hk hth q8
        · skip
          have hu : zpw c w = [46, 46] := Classical.byContradiction (fun z => by rw [if_neg z] at hq46; exact absurd rfl hq46)
          refine wx_aload_n kc42_49 rfl rfl ?_
          refine wx_aconst_null kc42_50 ?_
          refine wcW_put (v := 0) 22 hS kc42_51 hw rfl rfl rfl ?_
          refine wx_aload_n kc42_54 rfl rfl ?_
          refine wx_aload_n kc42_55 rfl rfl ?_
          refine wcW_get (zrF (c 23 w)) hS kc42_56 hw (congrArg zrF (show (zup c 21 w (c 23 w)) 21 w = (c 23 w) from zup_same _ _ _ _)) ?_
          refine wcF_get (zrF (c 7 (c 23 w))) hS kc42_59 (by omega) (by omega) rfl ?_
          have hb62_9 : c 7 (c 23 w) ≤ 40 := hI 7 (c 23 w)
          refine wcW_put (v := (c 7 (c 23 w))) 23 hS kc42_62 hw rfl rfl (zrF_fo _ _) ?_
          refine wx_iconst (nI 0) kc42_65 (by decide) ?_
          refine wx_ireturn kc42_66 rfl rfl ?_
          exact k3 (by omega) (by omega) hu
      · skip
        refine wx_bipush (-4) kc42_31 (by decide) ?_
        refine wx_ireturn kc42_33 rfl rfl ?_
        exact k2 (by omega) (by first | omega | (rw [show c 23 w = 0 by omega, hK0]; decide))
  · skip
    refine wx_bipush (-9) kc42_10 (by decide) ?_
    refine wx_ireturn kc42_12 rfl rfl ?_
    exact k1 (by omega)
