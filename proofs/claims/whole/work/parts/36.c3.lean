/-- a heap that may have got one more byte row -/
def zEX (n : Nat) (h0 h1 : zm_H) : Prop := h1 = h0 ∨ h1 = zm_mk h0 100 n (fun _ => .int 0)
theorem zEX_CS {n : Nat} {h0 h1 : zm_H} (h : zEX n h0 h1) (hS : zCS h0) : zCS h1 := by
  rcases h with rfl | rfl
  · exact hS
  · refine ⟨Nat.le_succ_of_le hS.1, fun a h1 h2 => ?_⟩
    have := hS.1
    show (if a = h0.1 then (100, n) else h0.2.2.1 a) = _
    rw [if_neg (by omega)]
    exact hS.2 a h1 h2
theorem zEX_MS {n : Nat} {h0 h1 : zm_H} (h : zEX n h0 h1) (hS : zMS h0) : zMS h1 := by
  rcases h with rfl | rfl
  · exact hS
  · refine ⟨Nat.le_succ_of_le hS.1, fun a h1 h2 => ?_⟩
    have := hS.1
    show (if a = h0.1 then (100, n) else h0.2.2.1 a) = _
    rw [if_neg (by omega)]
    exact hS.2 a h1 h2
theorem zEX_ga {n : Nat} {h0 h1 : zm_H} (h : zEX n h0 h1) {b m : Nat} (hg : zga h0 b m) : zga h1 b m := by
  rcases h with rfl | rfl
  · exact hg
  · obtain ⟨g1, g2, g3, g4⟩ := hg
    refine ⟨g1, Nat.lt_succ_of_lt g2, ?_, g4⟩
    show (if b = h0.1 then (100, n) else h0.2.2.1 b) = _
    rw [if_neg (by omega)]
    exact g3
theorem zEX_nx {n : Nat} {h0 h1 : zm_H} (h : zEX n h0 h1) : h0.1 ≤ h1.1 ∧ h1.1 ≤ h0.1 + 1 ∧ h1.2.1 ≤ h0.2.1 + n := by
  rcases h with rfl | rfl
  · omega
  · exact ⟨Nat.le_succ _, Nat.le_refl _, Nat.le_refl _⟩
/-- bytes were put into the row that r points at (AA), n of them (AL) -/
def zNB (AA AL len : Nat) (h0 h1 : zm_H) (c c2 : Nat → Nat → Nat) (r a n : Nat) (g : Nat → Nat) : Prop :=
  zEX len h0 h1 ∧ zga h1 a len ∧ (c AA r = a ∨ (c AA r = 0 ∧ a = h0.1)) ∧ c2 AA r = a ∧ c2 AL r = n ∧ (∀ i, i < n → c2 19 (1200 * a + i) = g i) ∧ (∀ A j, A ≠ 19 → ¬ (A = AA ∧ j = r) → ¬ (A = AL ∧ j = r) → c2 A j = c A j) ∧ (∀ b j, b ≠ a → j < 1200 → c2 19 (1200 * b + j) = c 19 (1200 * b + j)) ∧ zCI c2
theorem zNB_old {AA AL len : Nat} {h0 : zm_H} {c : Nat → Nat → Nat} {r n b k : Nat} (hA : AA ≠ AL ∧ AA ≠ 19 ∧ AL ≠ 19) (hI : zCI c) (hg : zga h0 (c AA r) len) (hn : n ≤ zcb AL r) (hn2 : n ≤ len) : zNB AA AL len h0 h0 c (zup (zwr c 19 (1200 * c AA r) n (fun i => c 19 (1200 * b + (k + i)))) AL r n) r (c AA r) n (fun i => c 19 (1200 * b + (k + i))) := by
  have hl := hg.2.2.2
  refine ⟨Or.inl rfl, hg, Or.inl rfl, ?_, zup_same _ _ _ _, fun i hi => ?_, fun A j h1 h2 h3 => ?_, fun x j h1 h2 => ?_, zCI_up (zCI_wr hI (fun i _ => show c 19 _ ≤ 255 from hI 19 _)) hn⟩
  · rw [zup_na _ _ hA.1, zwr_na _ _ hA.2.1]
  · rw [zup_na _ _ (Ne.symm hA.2.2), zwr_in _ _ (by omega) (by omega), Nat.add_sub_cancel_left]
  · rw [zup_ne _ _ h3, zwr_na _ _ h1]
  · rw [zup_na _ _ (Ne.symm hA.2.2), zwr_out _ _ (by omega)]
theorem zNB_new {AA AL len : Nat} {h0 : zm_H} {c : Nat → Nat → Nat} {r n b k nb : Nat} (hA : AA ≠ AL ∧ AA ≠ 19 ∧ AL ≠ 19) (hI : zCI c) (h0r : c AA r = 0) (ga : zga (zm_mk h0 100 len (fun _ => .int 0)) h0.1 len) (gb : zga h0 b nb) (hk : k + n ≤ nb) (hn : n ≤ zcb AL r) (hn2 : n ≤ len) (hx : h0.1 ≤ zcb AA r) : zNB AA AL len h0 (zm_mk h0 100 len (fun _ => .int 0)) c (zup (zwr (zup (zwr c 19 (1200 * h0.1) 1200 (fun _ => 0)) AA r h0.1) 19 (1200 * h0.1) n (fun i => (zup (zwr c 19 (1200 * h0.1) 1200 (fun _ => 0)) AA r h0.1) 19 (1200 * b + (k + i)))) AL r n) r h0.1 n (fun i => c 19 (1200 * b + (k + i))) := by
  have hl := ga.2.2.2
  have hb1 := gb.2.1
  have hb2 := gb.2.2.2
  have e : ∀ x j, x ≠ h0.1 → j < 1200 → (zup (zwr c 19 (1200 * h0.1) 1200 (fun _ => 0)) AA r h0.1) 19 (1200 * x + j) = c 19 (1200 * x + j) := fun x j h1 h2 => by
    rw [zup_na _ _ (Ne.symm hA.2.1), zwr_out _ _ (by omega)]
  refine ⟨Or.inr rfl, ga, Or.inr ⟨h0r, rfl⟩, ?_, zup_same _ _ _ _, fun i hi => ?_, fun A j h1 h2 h3 => ?_, fun x j h1 h2 => ?_, ?_⟩
  · rw [zup_na _ _ hA.1, zwr_na _ _ hA.2.1, zup_same]
  · rw [zup_na _ _ (Ne.symm hA.2.2), zwr_in _ _ (by omega) (by omega), Nat.add_sub_cancel_left]
    exact e b (k + i) (by omega) (by omega)
  · rw [zup_ne _ _ h3, zwr_na _ _ h1, zup_ne _ _ h2, zwr_na _ _ h1]
  · rw [zup_na _ _ (Ne.symm hA.2.2), zwr_out _ _ (by omega)]
    exact e x j h1 h2
  · have i1 : zCI (zup (zwr c 19 (1200 * h0.1) 1200 (fun _ => 0)) AA r h0.1) := zCI_up (zCI_wr hI (fun i _ => Nat.zero_le _)) hx
    exact zCI_up (zCI_wr i1 (fun i _ => show _ ≤ 255 from i1 19 _)) hn
theorem cR_setBytes {d : Nat} {h0 : zm_H} {c : Nat → Nat → Nat} {Q : Option Value → zm_H → Prop} {r b nb k n : Nat} (hS : zCS h0) (hI : zCI c) (h1 : 1 ≤ r) (h2 : r ≤ 60) (hg : c 13 r ≠ 0 → zga h0 (c 13 r) 255) (gb : zga h0 b nb) (hk : k + n ≤ nb) (hn : n ≤ 255) (hx : h0.1 ≤ 2147483647) (hq : ∀ h1 c2 a, zNB 13 14 255 h0 h1 c c2 r a n (fun i => c 19 (1200 * b + (k + i))) → Q none (zch h1 c2)) : zm_wc (d + 2) mR_setBytes [zrR r, zrA b, .int (nI k), .int (nI n)] (zch h0 c) Q := by
  refine zm_enter2 (zfl_cons (zrR_c1 _) (zfl_cons (zrA_c1 _) (zfl_cons rfl (zfl_cons rfl zfl_nil)))) rfl ?_
  show zm_wp _ 8 0 [zrR r, zrA b, .int (nI k), .int (nI n)] [] (zch h0 c) Q
  have hb2 := gb.2.2.2
  refine wx_aload_n kc8_0 rfl (zrR_k _) ?_
  refine wcR_get (zrA (c 13 r)) hS kc8_1 (by omega) (by omega) rfl ?_
  have hb4_1 : c 13 r ≤ 2147483647 := hI 13 r
  refine wcA_nnull kc8_4 (fun hq4 => ?_) (fun hq4 => ?_)
  · skip
    refine wx_aload_n kc8_16 rfl (zrR_k _) ?_
    refine wx_aload_n kc8_17 rfl (zrA_k _) ?_
    refine wx_iload_n kc8_18 rfl rfl ?_
    refine wx_iload_n kc8_19 rfl rfl ?_
    refine wx_aload_n kc8_20 rfl (zrR_k _) ?_
    refine wcR_get (zrA (c 13 r)) hS kc8_21 (by omega) (by omega) rfl ?_
    have hb24_2 : c 13 r ≤ 2147483647 := hI 13 r
    refine wx_static kc8_24 rfl rfl rfl ?_
    refine cN_copyBytes (a := b) (b := c 13 r) (na := nb) (nb := 255) hI gb (hg (by omega)) hk hn ?_
    show zm_wp _ 8 27 [zrR r, zrA b, .int (nI k), .int (nI n)] [.int (nI n), zrR r] (zch h0 (zwr c 19 (1200 * c 13 r) n (fun i => c 19 (1200 * b + (k + i))))) _
    refine wcR_put (v := n) 14 hS kc8_27 (by omega) (by omega) rfl rfl rfl ?_
    refine wx_return kc8_30 rfl ?_
    exact hq _ _ _ (zNB_old (by decide) hI (hg (by omega)) (show n ≤ 255 from hn) hn)
  · skip
    refine wx_aload_n kc8_7 rfl (zrR_k _) ?_
    refine wx_sipush (nI 255) kc8_8 (by decide) ?_
    refine wcA_new 255 hS kc8_11 (by decide) (fun ga => ?_)
    have hS1 := zEX_CS (Or.inr rfl : zEX 255 h0 (zm_mk h0 100 255 (fun _ => .int 0))) hS
    show zm_wp _ 8 13 [zrR r, zrA b, .int (nI k), .int (nI n)] [zrA (h0.1), zrR r] (zch (zm_mk h0 100 255 (fun _ => .int 0)) (zwr c 19 (1200 * h0.1) 1200 (fun _ => 0))) _
    refine wcR_put (v := h0.1) 13 hS1 kc8_13 (by omega) (by omega) rfl rfl (zrA_fa _ _) ?_
    refine wx_aload_n kc8_16 rfl (zrR_k _) ?_
    refine wx_aload_n kc8_17 rfl (zrA_k _) ?_
    refine wx_iload_n kc8_18 rfl rfl ?_
    refine wx_iload_n kc8_19 rfl rfl ?_
    refine wx_aload_n kc8_20 rfl (zrR_k _) ?_
    refine wcR_get (zrA (h0.1)) hS1 kc8_21 (by omega) (by omega) (congrArg zrA (show (zup (zwr c 19 (1200 * h0.1) 1200 (fun _ => 0)) 13 r (h0.1)) 13 r = h0.1 from zup_same _ _ _ _)) ?_
    show zm_wp _ 8 24 [zrR r, zrA b, .int (nI k), .int (nI n)] [zrA (h0.1), .int (nI n), .int (nI k), zrA b, zrR r] (zch (zm_mk h0 100 255 (fun _ => .int 0)) (zup (zwr c 19 (1200 * h0.1) 1200 (fun _ => 0)) 13 r (h0.1))) _
    have hI1 : zCI (zup (zwr c 19 (1200 * h0.1) 1200 (fun _ => 0)) 13 r h0.1) := zCI_up (zCI_wr hI (fun i _ => Nat.zero_le _)) (show h0.1 ≤ 2147483647 from hx)
    refine wx_static kc8_24 rfl rfl rfl ?_
    refine cN_copyBytes (a := b) (b := h0.1) (na := nb) (nb := 255) hI1 (zEX_ga (Or.inr rfl) gb) ga hk hn ?_
    show zm_wp _ 8 27 [zrR r, zrA b, .int (nI k), .int (nI n)] [.int (nI n), zrR r] (zch (zm_mk h0 100 255 (fun _ => .int 0)) (zwr (zup (zwr c 19 (1200 * h0.1) 1200 (fun _ => 0)) 13 r (h0.1)) 19 (1200 * h0.1) n (fun i => (zup (zwr c 19 (1200 * h0.1) 1200 (fun _ => 0)) 13 r h0.1) 19 (1200 * b + (k + i))))) _
    refine wcR_put (v := n) 14 hS1 kc8_27 (by omega) (by omega) rfl rfl rfl ?_
    refine wx_return kc8_30 rfl ?_
    exact hq _ _ _ (zNB_new (by decide) hI (by omega) ga gb hk (show n ≤ 255 from hn) hn (show h0.1 ≤ 2147483647 from hx))
theorem cF_setTarget {d : Nat} {h0 : zm_H} {c : Nat → Nat → Nat} {Q : Option Value → zm_H → Prop} {r b nb k n : Nat} (hS : zCS h0) (hI : zCI c) (h1 : 1 ≤ r) (h2 : r ≤ 40) (hg : c 8 r ≠ 0 → zga h0 (c 8 r) 1000) (gb : zga h0 b nb) (hk : k + n ≤ nb) (hn : n ≤ 1000) (hx : h0.1 ≤ 2147483647) (hq : ∀ h1 c2 a, zNB 8 9 1000 h0 h1 c c2 r a n (fun i => c 19 (1200 * b + (k + i))) → Q none (zch h1 c2)) : zm_wc (d + 2) mF_setTarget [zrF r, zrA b, .int (nI k), .int (nI n)] (zch h0 c) Q := by
  refine zm_enter2 (zfl_cons (zrF_c1 _) (zfl_cons (zrA_c1 _) (zfl_cons rfl (zfl_cons rfl zfl_nil)))) rfl ?_
  show zm_wp _ 28 0 [zrF r, zrA b, .int (nI k), .int (nI n)] [] (zch h0 c) Q
  have hb2 := gb.2.2.2
  refine wx_aload_n kc28_0 rfl (zrF_k _) ?_
  refine wcF_get (zrA (c 8 r)) hS kc28_1 (by omega) (by omega) rfl ?_
  have hb4_1 : c 8 r ≤ 2147483647 := hI 8 r
  refine wcA_nnull kc28_4 (fun hq4 => ?_) (fun hq4 => ?_)
  · skip
    refine wx_aload_n kc28_16 rfl (zrF_k _) ?_
    refine wx_aload_n kc28_17 rfl (zrA_k _) ?_
    refine wx_iload_n kc28_18 rfl rfl ?_
    refine wx_iload_n kc28_19 rfl rfl ?_
    refine wx_aload_n kc28_20 rfl (zrF_k _) ?_
    refine wcF_get (zrA (c 8 r)) hS kc28_21 (by omega) (by omega) rfl ?_
    have hb24_2 : c 8 r ≤ 2147483647 := hI 8 r
    refine wx_static kc28_24 rfl rfl rfl ?_
    refine cN_copyBytes (a := b) (b := c 8 r) (na := nb) (nb := 1000) hI gb (hg (by omega)) hk hn ?_
    show zm_wp _ 28 27 [zrF r, zrA b, .int (nI k), .int (nI n)] [.int (nI n), zrF r] (zch h0 (zwr c 19 (1200 * c 8 r) n (fun i => c 19 (1200 * b + (k + i))))) _
    refine wcF_put (v := n) 9 hS kc28_27 (by omega) (by omega) rfl rfl rfl ?_
    refine wx_return kc28_30 rfl ?_
    exact hq _ _ _ (zNB_old (by decide) hI (hg (by omega)) (show n ≤ 1000 from hn) hn)
  · skip
    refine wx_aload_n kc28_7 rfl (zrF_k _) ?_
    refine wx_sipush (nI 1000) kc28_8 (by decide) ?_
    refine wcA_new 1000 hS kc28_11 (by decide) (fun ga => ?_)
    have hS1 := zEX_CS (Or.inr rfl : zEX 1000 h0 (zm_mk h0 100 1000 (fun _ => .int 0))) hS
    show zm_wp _ 28 13 [zrF r, zrA b, .int (nI k), .int (nI n)] [zrA (h0.1), zrF r] (zch (zm_mk h0 100 1000 (fun _ => .int 0)) (zwr c 19 (1200 * h0.1) 1200 (fun _ => 0))) _
    refine wcF_put (v := h0.1) 8 hS1 kc28_13 (by omega) (by omega) rfl rfl (zrA_fa _ _) ?_
    refine wx_aload_n kc28_16 rfl (zrF_k _) ?_
    refine wx_aload_n kc28_17 rfl (zrA_k _) ?_
    refine wx_iload_n kc28_18 rfl rfl ?_
    refine wx_iload_n kc28_19 rfl rfl ?_
    refine wx_aload_n kc28_20 rfl (zrF_k _) ?_
    refine wcF_get (zrA (h0.1)) hS1 kc28_21 (by omega) (by omega) (congrArg zrA (show (zup (zwr c 19 (1200 * h0.1) 1200 (fun _ => 0)) 8 r (h0.1)) 8 r = h0.1 from zup_same _ _ _ _)) ?_
    show zm_wp _ 28 24 [zrF r, zrA b, .int (nI k), .int (nI n)] [zrA (h0.1), .int (nI n), .int (nI k), zrA b, zrF r] (zch (zm_mk h0 100 1000 (fun _ => .int 0)) (zup (zwr c 19 (1200 * h0.1) 1200 (fun _ => 0)) 8 r (h0.1))) _
    have hI1 : zCI (zup (zwr c 19 (1200 * h0.1) 1200 (fun _ => 0)) 8 r h0.1) := zCI_up (zCI_wr hI (fun i _ => Nat.zero_le _)) (show h0.1 ≤ 2147483647 from hx)
    refine wx_static kc28_24 rfl rfl rfl ?_
    refine cN_copyBytes (a := b) (b := h0.1) (na := nb) (nb := 1000) hI1 (zEX_ga (Or.inr rfl) gb) ga hk hn ?_
    show zm_wp _ 28 27 [zrF r, zrA b, .int (nI k), .int (nI n)] [.int (nI n), zrF r] (zch (zm_mk h0 100 1000 (fun _ => .int 0)) (zwr (zup (zwr c 19 (1200 * h0.1) 1200 (fun _ => 0)) 8 r (h0.1)) 19 (1200 * h0.1) n (fun i => (zup (zwr c 19 (1200 * h0.1) 1200 (fun _ => 0)) 8 r h0.1) 19 (1200 * b + (k + i))))) _
    refine wcF_put (v := n) 9 hS1 kc28_27 (by omega) (by omega) rfl rfl rfl ?_
    refine wx_return kc28_30 rfl ?_
    exact hq _ _ _ (zNB_new (by decide) hI (by omega) ga gb hk (show n ≤ 1000 from hn) hn (show h0.1 ≤ 2147483647 from hx))
theorem cS_holds {d : Nat} {h0 : zm_H} {c : Nat → Nat → Nat} {Q : Option Value → zm_H → Prop} {w i nb k bb : Nat} (hS : zCS h0) (hI : zCI c) (hw : w ≤ 1) (hi41 : i < 41) (hg : zga h0 (c 24 (41 * w + i)) nb) (hk : k < nb) (hb128 : bb < 128) (hq : Q (some (.int (nI (if c 19 (1200 * c 24 (41 * w + i) + k) = bb then 1 else 0)))) (zch h0 c)) : zm_wc (d + 1) mS_holds [.ref (110 + 43 * w + i), .int (nI k), .int (nI bb)] (zch h0 c) Q := by
  refine zm_enter2 (zfl_cons rfl (zfl_cons rfl (zfl_cons rfl zfl_nil))) rfl ?_
  show zm_wp _ 18 0 [.ref (110 + 43 * w + i), .int (nI k), .int (nI bb)] [] (zch h0 c) Q
  have hb2 := hg.2.2.2
  refine wx_aload_n kc18_0 rfl rfl ?_
  refine wcS_get (zrA (c 24 (41 * w + i))) hS kc18_1 hw (by omega) rfl ?_
  have hb4_1 : c 24 (41 * w + i) ≤ 2147483647 := hI 24 (41 * w + i)
  refine wcA_null kc18_4 (fun z => absurd z (by have := hg.1; omega)) (fun _ => ?_)
  refine wx_iload_n kc18_7 rfl rfl ?_
  refine wn_if_lt kc18_8 (by omega) ?_
  refine wx_iload_n kc18_11 rfl rfl ?_
  refine wx_aload_n kc18_12 rfl rfl ?_
  refine wcS_get (zrA (c 24 (41 * w + i))) hS kc18_13 hw (by omega) rfl ?_
  refine wcA_len hg kc18_16 ?_
  refine wn_icmp_ge kc18_17 (by omega) (by omega) (fun hq17 => ?_) (fun hq17 => ?_)
  · skip
    refine wx_iconst (nI 0) kc18_34 (by decide) ?_
    refine wx_ireturn kc18_35 rfl (by decide) ?_
    have e : (if c 19 (1200 * c 24 (41 * w + i) + k) = bb then 1 else 0) = 0 := by first | exact if_pos (by omega) | exact if_neg (by omega) | exact absurd hq17 (by omega)
    rw [e] at hq
    exact hq
  · skip
    refine wx_aload_n kc18_20 rfl rfl ?_
    refine wcS_get (zrA (c 24 (41 * w + i))) hS kc18_21 hw (by omega) rfl ?_
    have hb24_2 : c 24 (41 * w + i) ≤ 2147483647 := hI 24 (41 * w + i)
    refine wx_iload_n kc18_24 rfl rfl ?_
    refine wcA_ld (c 19 (1200 * (c 24 (41 * w + i)) + k)) hg kc18_25 (by omega) rfl ?_
    refine wx_iload_n kc18_26 rfl rfl ?_
    refine wh_icmp_ne kc18_27 (Nat.lt_succ_of_le (hI 19 _)) hb128 (fun hq27 => ?_) (fun hq27 => ?_)
    · skip
      refine wx_iconst (nI 0) kc18_34 (by decide) ?_
      refine wx_ireturn kc18_35 rfl (by decide) ?_
      have e : (if c 19 (1200 * c 24 (41 * w + i) + k) = bb then 1 else 0) = 0 := by first | exact if_pos (by omega) | exact if_neg (by omega) | exact absurd hq17 (by omega)
      rw [e] at hq
      exact hq
    · skip
      refine wx_iconst (nI 1) kc18_30 (by decide) ?_
      refine wx_goto kc18_31 ?_
      refine wx_ireturn kc18_35 rfl (by decide) ?_
      have e : (if c 19 (1200 * c 24 (41 * w + i) + k) = bb then 1 else 0) = 1 := by first | exact if_pos (by omega) | exact if_neg (by omega) | exact absurd hq17 (by omega)
      rw [e] at hq
      exact hq
theorem lS_passPart {d : Nat} {h0 : zm_H} {c : Nat → Nat → Nat} {Q : Option Value → zm_H → Prop} {w i nb a0 : Nat} (hS : zCS h0) (hI : zCI c) (hw : w ≤ 1) (hi41 : i < 41) (hg : zga h0 (c 24 (41 * w + i)) nb) (he : c 26 (41 * w + i) ≤ nb) (hq : ∀ e, a0 ≤ e → e ≤ c 26 (41 * w + i) → (∀ j, a0 ≤ j → j < e → c 19 (1200 * c 24 (41 * w + i) + j) ≠ 47) → (e = c 26 (41 * w + i) ∨ c 19 (1200 * c 24 (41 * w + i) + e) = 47) → Q (some (.int (nI e))) (zch h0 (zup c 25 (41 * w + i) e))) : ∀ (n a : Nat), a + n = c 26 (41 * w + i) → a0 ≤ a → (∀ j, a0 ≤ j → j < a → c 19 (1200 * c 24 (41 * w + i) + j) ≠ 47) → zm_wp (d + 1) 17 0 [.ref (110 + 43 * w + i)] [] (zch h0 (zup c 25 (41 * w + i) a)) Q := by
  intro n
  induction n with
  | zero =>
    intro a hi
    intro ha hp
    have hb2 := hg.2.2.2
    refine wx_aload_n kc17_0 rfl rfl ?_
    refine wcS_get (.int (nI a)) hS kc17_1 hw (by omega) (congrArg (fun z => Value.int (nI z)) (show (zup c 25 (41 * w + i) a) 25 (41 * w + i) = a from zup_same _ _ _ _)) ?_
    refine wx_aload_n kc17_4 rfl rfl ?_
    refine wcS_get (.int (nI (c 26 (41 * w + i)))) hS kc17_5 hw (by omega) rfl ?_
    have hb8_1 : c 26 (41 * w + i) ≤ 1200 := hI 26 (41 * w + i)
    refine wn_icmp_ge kc17_8 (by omega) (by omega) (fun hq8 => ?_) (fun hq8 => ?_)
    · skip
      refine wx_aload_n kc17_37 rfl rfl ?_
      refine wcS_get (.int (nI a)) hS kc17_38 hw (by omega) (congrArg (fun z => Value.int (nI z)) (show (zup c 25 (41 * w + i) a) 25 (41 * w + i) = a from zup_same _ _ _ _)) ?_
      refine wx_ireturn kc17_41 rfl rfl ?_
      exact hq a ha (by omega) hp (by first | exact Or.inr hc21 | exact Or.inl (by omega))
    · skip
      exact absurd hq8 (by omega)
  | succ n ih =>
    intro a hi
    intro ha hp
    have hb2 := hg.2.2.2
    refine wx_aload_n kc17_0 rfl rfl ?_
    refine wcS_get (.int (nI a)) hS kc17_1 hw (by omega) (congrArg (fun z => Value.int (nI z)) (show (zup c 25 (41 * w + i) a) 25 (41 * w + i) = a from zup_same _ _ _ _)) ?_
    refine wx_aload_n kc17_4 rfl rfl ?_
    refine wcS_get (.int (nI (c 26 (41 * w + i)))) hS kc17_5 hw (by omega) rfl ?_
    have hb8_1 : c 26 (41 * w + i) ≤ 1200 := hI 26 (41 * w + i)
    refine wn_icmp_ge kc17_8 (by omega) (by omega) (fun hq8 => ?_) (fun hq8 => ?_)
    · skip
      refine wx_aload_n kc17_37 rfl rfl ?_
      refine wcS_get (.int (nI a)) hS kc17_38 hw (by omega) (congrArg (fun z => Value.int (nI z)) (show (zup c 25 (41 * w + i) a) 25 (41 * w + i) = a from zup_same _ _ _ _)) ?_
      refine wx_ireturn kc17_41 rfl rfl ?_
      exact hq a ha (by omega) hp (by first | exact Or.inr hc21 | exact Or.inl (by omega))
    · skip
      refine wx_aload_n kc17_11 rfl rfl ?_
      refine wx_aload_n kc17_12 rfl rfl ?_
      refine wcS_get (.int (nI a)) hS kc17_13 hw (by omega) (congrArg (fun z => Value.int (nI z)) (show (zup c 25 (41 * w + i) a) 25 (41 * w + i) = a from zup_same _ _ _ _)) ?_
      refine wx_bipush (nI 47) kc17_16 (by decide) ?_
      refine wcS_call hS kc17_18 rfl rfl hw (by omega) rfl ?_
      refine cS_holds (nb := nb) hS (zCI_up hI (a := 25) (j := 41 * w + i) (v := a) (show a ≤ 1200 by omega)) hw hi41 hg (by omega) (by decide) ?_
      show zm_wp _ 17 21 [.ref (110 + 43 * w + i)] [.int (nI (if c 19 (1200 * c 24 (41 * w + i) + a) = 47 then 1 else 0))] (zch h0 (zup c 25 (41 * w + i) a)) _
      refine wn_if_ne kc17_21 (by split <;> decide) (fun hq21 => ?_) (fun hq21 => ?_)
      · skip
        have hc21 : c 19 (1200 * c 24 (41 * w + i) + a) = 47 := Classical.byContradiction (fun z => by rw [if_neg z] at hq21; exact absurd hq21 (by decide))
        refine wx_aload_n kc17_37 rfl rfl ?_
        refine wcS_get (.int (nI a)) hS kc17_38 hw (by omega) (congrArg (fun z => Value.int (nI z)) (show (zup c 25 (41 * w + i) a) 25 (41 * w + i) = a from zup_same _ _ _ _)) ?_
        refine wx_ireturn kc17_41 rfl rfl ?_
        exact hq a ha (by omega) hp (by first | exact Or.inr hc21 | exact Or.inl (by omega))
      · skip
        have hc21 : ¬ c 19 (1200 * c 24 (41 * w + i) + a) = 47 := fun z => by rw [if_pos z] at hq21; exact absurd hq21 (by decide)
        refine wx_aload_n kc17_24 rfl rfl ?_
        refine wx_dup kc17_25 rfl ?_
        refine wcS_get (.int (nI a)) hS kc17_26 hw (by omega) (congrArg (fun z => Value.int (nI z)) (show (zup c 25 (41 * w + i) a) 25 (41 * w + i) = a from zup_same _ _ _ _)) ?_
        refine wx_iconst (nI 1) kc17_29 (by decide) ?_
        refine wn_iadd (a + 1) kc17_30 rfl ?_
        refine wcS_put (v := (a + 1)) 25 hS kc17_31 hw (by omega) rfl rfl rfl ?_
        refine wx_goto kc17_34 ?_
        show zm_wp _ 17 0 [.ref (110 + 43 * w + i)] [] (zch h0 (zup (zup c 25 (41 * w + i) a) 25 (41 * w + i) (a + 1))) _
        rw [zup_zup]
        refine ih (a + 1) (by omega) (by omega) (fun j g1 g2 => ?_)
        by_cases hj : j = a
        · rw [hj]; exact hc21
        · exact hp j g1 (by omega)
theorem cS_passPart {d : Nat} {h0 : zm_H} {c : Nat → Nat → Nat} {Q : Option Value → zm_H → Prop} {w i nb : Nat} (hS : zCS h0) (hI : zCI c) (hw : w ≤ 1) (hi41 : i < 41) (hg : zga h0 (c 24 (41 * w + i)) nb) (he : c 26 (41 * w + i) ≤ nb) (hae : c 25 (41 * w + i) ≤ c 26 (41 * w + i)) (hq : ∀ e, c 25 (41 * w + i) ≤ e → e ≤ c 26 (41 * w + i) → (∀ j, c 25 (41 * w + i) ≤ j → j < e → c 19 (1200 * c 24 (41 * w + i) + j) ≠ 47) → (e = c 26 (41 * w + i) ∨ c 19 (1200 * c 24 (41 * w + i) + e) = 47) → Q (some (.int (nI e))) (zch h0 (zup c 25 (41 * w + i) e))) : zm_wc (d + 2) mS_passPart [.ref (110 + 43 * w + i)] (zch h0 c) Q := by
  refine zm_enter2 (zfl_cons rfl zfl_nil) rfl ?_
  have k := lS_passPart (d := d) hS hI hw hi41 hg he hq (c 26 (41 * w + i) - c 25 (41 * w + i)) (c 25 (41 * w + i)) (by omega) (Nat.le_refl _) (fun j g1 g2 => absurd g1 (by omega))
  rw [zup_id rfl] at k
  exact k
theorem zpt_dot {f : Nat → Nat} {a e : Nat} (h : a < e) (h1 : f a = 46) (h2 : a + 1 = e ∨ f (a + 1) = 47) : zpt (zls f a e) = zpt (zls f (a + 1) e) := by
  rw [zpt_take f (a := a) (b := e) (c := a + 1) (by omega) (by omega) (fun i g1 g2 => by rw [show i = a by omega, h1]; decide) h2]
  have e1 : zls f a (a + 1) = [46] := by rw [zls_cons f (by omega), h1, zls_nil f (Nat.le_refl _)]
  rw [e1]
  rfl
theorem lS_goToPart {d : Nat} {h0 : zm_H} {c : Nat → Nat → Nat} {Q : Option Value → zm_H → Prop} {w i nb a0 : Nat} (hS : zCS h0) (hI : zCI c) (hw : w ≤ 1) (hi41 : i < 41) (hg : zga h0 (c 24 (41 * w + i)) nb) (he : c 26 (41 * w + i) ≤ nb) (hyes : ∀ a, a0 ≤ a → a < c 26 (41 * w + i) → c 19 (1200 * c 24 (41 * w + i) + a) ≠ 47 → ¬ (c 19 (1200 * c 24 (41 * w + i) + a) = 46 ∧ (a + 1 = c 26 (41 * w + i) ∨ c 19 (1200 * c 24 (41 * w + i) + (a + 1)) = 47)) → zpt (zls (fun j => c 19 (1200 * c 24 (41 * w + i) + j)) a0 (c 26 (41 * w + i))) = zpt (zls (fun j => c 19 (1200 * c 24 (41 * w + i) + j)) a (c 26 (41 * w + i))) → Q (some (.int (nI 1))) (zch h0 (zup c 25 (41 * w + i) a))) (hno : zpt (zls (fun j => c 19 (1200 * c 24 (41 * w + i) + j)) a0 (c 26 (41 * w + i))) = [] → Q (some (.int (nI 0))) (zch h0 (zup c 25 (41 * w + i) (c 26 (41 * w + i))))) : ∀ (n a : Nat), a + n = c 26 (41 * w + i) → ∀ v : Value, a0 ≤ a → zpt (zls (fun j => c 19 (1200 * c 24 (41 * w + i) + j)) a0 (c 26 (41 * w + i))) = zpt (zls (fun j => c 19 (1200 * c 24 (41 * w + i) + j)) a (c 26 (41 * w + i))) → zm_wp (d + 1) 16 0 [.ref (110 + 43 * w + i), v] [] (zch h0 (zup c 25 (41 * w + i) a)) Q := by
  intro n
  induction n with
  | zero =>
    intro a hi
    intro v ha hp
    have hb2 := hg.2.2.2
    refine wx_aload_n kc16_0 rfl rfl ?_
    refine wcS_get (.int (nI a)) hS kc16_1 hw (by omega) (congrArg (fun z => Value.int (nI z)) (show (zup c 25 (41 * w + i) a) 25 (41 * w + i) = a from zup_same _ _ _ _)) ?_
    refine wx_aload_n kc16_4 rfl rfl ?_
    refine wcS_get (.int (nI (c 26 (41 * w + i)))) hS kc16_5 hw (by omega) rfl ?_
    have hb8_1 : c 26 (41 * w + i) ≤ 1200 := hI 26 (41 * w + i)
    refine wn_icmp_ge kc16_8 (by omega) (by omega) (fun hq8 => ?_) (fun hq8 => ?_)
    · skip
      refine wx_iconst (nI 0) kc16_90 (by decide) ?_
      refine wx_ireturn kc16_91 rfl (by decide) ?_
      obtain rfl : a = c 26 (41 * w + i) := by omega
      refine hno ?_
      rw [hp, zls_nil _ (Nat.le_refl _)]
      rfl
    · skip
      exact absurd hq8 (by omega)
  | succ n ih =>
    intro a hi
    intro v ha hp
    have hb2 := hg.2.2.2
    refine wx_aload_n kc16_0 rfl rfl ?_
    refine wcS_get (.int (nI a)) hS kc16_1 hw (by omega) (congrArg (fun z => Value.int (nI z)) (show (zup c 25 (41 * w + i) a) 25 (41 * w + i) = a from zup_same _ _ _ _)) ?_
    refine wx_aload_n kc16_4 rfl rfl ?_
    refine wcS_get (.int (nI (c 26 (41 * w + i)))) hS kc16_5 hw (by omega) rfl ?_
    have hb8_1 : c 26 (41 * w + i) ≤ 1200 := hI 26 (41 * w + i)
    refine wn_icmp_ge kc16_8 (by omega) (by omega) (fun hq8 => ?_) (fun hq8 => ?_)
    · skip
      exact absurd hq8 (by omega)
    · skip
      refine wx_aload_n kc16_11 rfl rfl ?_
      refine wx_aload_n kc16_12 rfl rfl ?_
      refine wcS_get (.int (nI a)) hS kc16_13 hw (by omega) (congrArg (fun z => Value.int (nI z)) (show (zup c 25 (41 * w + i) a) 25 (41 * w + i) = a from zup_same _ _ _ _)) ?_
      refine wx_bipush (nI 47) kc16_16 (by decide) ?_
      refine wcS_call hS kc16_18 rfl rfl hw (by omega) rfl ?_
      refine cS_holds (nb := nb) hS (zCI_up hI (a := 25) (j := 41 * w + i) (v := a) (show a ≤ 1200 by omega)) hw hi41 hg (by omega) (by decide) ?_
      show zm_wp _ 16 21 [.ref (110 + 43 * w + i), v] [.int (nI (if c 19 (1200 * c 24 (41 * w + i) + a) = 47 then 1 else 0))] (zch h0 (zup c 25 (41 * w + i) a)) _
      refine wn_if_ne kc16_21 (by split <;> decide) (fun hq21 => ?_) (fun hq21 => ?_)
      · skip
        have hc21 : c 19 (1200 * c 24 (41 * w + i) + a) = 47 := Classical.byContradiction (fun z => by rw [if_neg z] at hq21; exact absurd hq21 (by decide))
        refine wx_iconst (nI 1) kc16_65 (by decide) ?_
        refine wx_goto kc16_66 ?_
        refine wx_istore_n (ls' := [.ref (110 + 43 * w + i), .int (nI 1)]) kc16_70 rfl rfl rfl rfl ?_
        refine wx_iload_n kc16_71 rfl rfl ?_
        refine wn_if_ne kc16_72 (by decide) (fun _ => ?_) (fun z => absurd z (by decide))
        refine wx_aload_n kc16_77 rfl rfl ?_
        refine wx_dup kc16_78 rfl ?_
        refine wcS_get (.int (nI a)) hS kc16_79 hw (by omega) (congrArg (fun z => Value.int (nI z)) (show (zup c 25 (41 * w + i) a) 25 (41 * w + i) = a from zup_same _ _ _ _)) ?_
        refine wx_iconst (nI 1) kc16_82 (by decide) ?_
        refine wn_iadd (a + 1) kc16_83 rfl ?_
        refine wcS_put (v := (a + 1)) 25 hS kc16_84 hw (by omega) rfl rfl rfl ?_
        refine wx_goto kc16_87 ?_
        show zm_wp _ 16 0 [.ref (110 + 43 * w + i), .int (nI 1)] [] (zch h0 (zup (zup c 25 (41 * w + i) a) 25 (41 * w + i) (a + 1))) _
        rw [zup_zup]
        refine ih (a + 1) (by omega) _ (by omega) (hp.trans ?_)
        first | exact zpt_skip (fun j => c 19 (1200 * c 24 (41 * w + i) + j)) (by omega) hc21 | exact zpt_dot (f := (fun j => c 19 (1200 * c 24 (41 * w + i) + j))) (by omega) hc34 (by first | exact Or.inl (by omega) | exact Or.inr hc62)
      · skip
        have hc21 : ¬ c 19 (1200 * c 24 (41 * w + i) + a) = 47 := fun z => by rw [if_pos z] at hq21; exact absurd hq21 (by decide)
        refine wx_aload_n kc16_24 rfl rfl ?_
        refine wx_aload_n kc16_25 rfl rfl ?_
        refine wcS_get (.int (nI a)) hS kc16_26 hw (by omega) (congrArg (fun z => Value.int (nI z)) (show (zup c 25 (41 * w + i) a) 25 (41 * w + i) = a from zup_same _ _ _ _)) ?_
        refine wx_bipush (nI 46) kc16_29 (by decide) ?_
        refine wcS_call hS kc16_31 rfl rfl hw (by omega) rfl ?_
        refine cS_holds (nb := nb) hS (zCI_up hI (a := 25) (j := 41 * w + i) (v := a) (show a ≤ 1200 by omega)) hw hi41 hg (by omega) (by decide) ?_
        show zm_wp _ 16 34 [.ref (110 + 43 * w + i), v] [.int (nI (if c 19 (1200 * c 24 (41 * w + i) + a) = 46 then 1 else 0))] (zch h0 (zup c 25 (41 * w + i) a)) _
        refine wn_if_eq kc16_34 (by split <;> decide) (fun hq34 => ?_) (fun hq34 => ?_)
        · skip
          have hc34 : ¬ c 19 (1200 * c 24 (41 * w + i) + a) = 46 := fun z => by rw [if_pos z] at hq34; exact absurd hq34 (by decide)
          refine wx_iconst (nI 0) kc16_69 (by decide) ?_
          refine wx_istore_n (ls' := [.ref (110 + 43 * w + i), .int (nI 0)]) kc16_70 rfl rfl rfl rfl ?_
          refine wx_iload_n kc16_71 rfl rfl ?_
          refine wn_if_ne kc16_72 (by decide) (fun z => absurd z (by decide)) (fun _ => ?_)
          refine wx_iconst (nI 1) kc16_75 (by decide) ?_
          refine wx_ireturn kc16_76 rfl (by decide) ?_
          exact hyes a ha (by omega) hc21 (fun z => by first | exact hc34 z.1 | (rcases z.2 with y | y; first | omega; first | exact hc62 y | omega)) hp
        · skip
          have hc34 : c 19 (1200 * c 24 (41 * w + i) + a) = 46 := Classical.byContradiction (fun z => by rw [if_neg z] at hq34; exact absurd hq34 (by decide))
          refine wx_aload_n kc16_37 rfl rfl ?_
          refine wcS_get (.int (nI a)) hS kc16_38 hw (by omega) (congrArg (fun z => Value.int (nI z)) (show (zup c 25 (41 * w + i) a) 25 (41 * w + i) = a from zup_same _ _ _ _)) ?_
          refine wx_iconst (nI 1) kc16_41 (by decide) ?_
          refine wn_iadd (a + 1) kc16_42 rfl ?_
          refine wx_aload_n kc16_43 rfl rfl ?_
          refine wcS_get (.int (nI (c 26 (41 * w + i)))) hS kc16_44 hw (by omega) rfl ?_
          have hb47_2 : c 26 (41 * w + i) ≤ 1200 := hI 26 (41 * w + i)
          refine wn_icmp_ge kc16_47 (by omega) (by omega) (fun hq47 => ?_) (fun hq47 => ?_)
          · skip
            refine wx_iconst (nI 1) kc16_65 (by decide) ?_
            refine wx_goto kc16_66 ?_
            refine wx_istore_n (ls' := [.ref (110 + 43 * w + i), .int (nI 1)]) kc16_70 rfl rfl rfl rfl ?_
            refine wx_iload_n kc16_71 rfl rfl ?_
            refine wn_if_ne kc16_72 (by decide) (fun _ => ?_) (fun z => absurd z (by decide))
            refine wx_aload_n kc16_77 rfl rfl ?_
            refine wx_dup kc16_78 rfl ?_
            refine wcS_get (.int (nI a)) hS kc16_79 hw (by omega) (congrArg (fun z => Value.int (nI z)) (show (zup c 25 (41 * w + i) a) 25 (41 * w + i) = a from zup_same _ _ _ _)) ?_
            refine wx_iconst (nI 1) kc16_82 (by decide) ?_
            refine wn_iadd (a + 1) kc16_83 rfl ?_
            refine wcS_put (v := (a + 1)) 25 hS kc16_84 hw (by omega) rfl rfl rfl ?_
            refine wx_goto kc16_87 ?_
            show zm_wp _ 16 0 [.ref (110 + 43 * w + i), .int (nI 1)] [] (zch h0 (zup (zup c 25 (41 * w + i) a) 25 (41 * w + i) (a + 1))) _
            rw [zup_zup]
            refine ih (a + 1) (by omega) _ (by omega) (hp.trans ?_)
            first | exact zpt_skip (fun j => c 19 (1200 * c 24 (41 * w + i) + j)) (by omega) hc21 | exact zpt_dot (f := (fun j => c 19 (1200 * c 24 (41 * w + i) + j))) (by omega) hc34 (by first | exact Or.inl (by omega) | exact Or.inr hc62)
          · skip
            refine wx_aload_n kc16_50 rfl rfl ?_
            refine wx_aload_n kc16_51 rfl rfl ?_
            refine wcS_get (.int (nI a)) hS kc16_52 hw (by omega) (congrArg (fun z => Value.int (nI z)) (show (zup c 25 (41 * w + i) a) 25 (41 * w + i) = a from zup_same _ _ _ _)) ?_
            refine wx_iconst (nI 1) kc16_55 (by decide) ?_
            refine wn_iadd (a + 1) kc16_56 rfl ?_
            refine wx_bipush (nI 47) kc16_57 (by decide) ?_
            refine wcS_call hS kc16_59 rfl rfl hw (by omega) rfl ?_
            refine cS_holds (nb := nb) hS (zCI_up hI (a := 25) (j := 41 * w + i) (v := a) (show a ≤ 1200 by omega)) hw hi41 hg (by omega) (by decide) ?_
            show zm_wp _ 16 62 [.ref (110 + 43 * w + i), v] [.int (nI (if c 19 (1200 * c 24 (41 * w + i) + (a + 1)) = 47 then 1 else 0))] (zch h0 (zup c 25 (41 * w + i) a)) _
            refine wn_if_eq kc16_62 (by split <;> decide) (fun hq62 => ?_) (fun hq62 => ?_)
            · skip
              have hc62 : ¬ c 19 (1200 * c 24 (41 * w + i) + (a + 1)) = 47 := fun z => by rw [if_pos z] at hq62; exact absurd hq62 (by decide)
              refine wx_iconst (nI 0) kc16_69 (by decide) ?_
              refine wx_istore_n (ls' := [.ref (110 + 43 * w + i), .int (nI 0)]) kc16_70 rfl rfl rfl rfl ?_
              refine wx_iload_n kc16_71 rfl rfl ?_
              refine wn_if_ne kc16_72 (by decide) (fun z => absurd z (by decide)) (fun _ => ?_)
              refine wx_iconst (nI 1) kc16_75 (by decide) ?_
              refine wx_ireturn kc16_76 rfl (by decide) ?_
              exact hyes a ha (by omega) hc21 (fun z => by first | exact hc34 z.1 | (rcases z.2 with y | y; first | omega; first | exact hc62 y | omega)) hp
            · skip
              have hc62 : c 19 (1200 * c 24 (41 * w + i) + (a + 1)) = 47 := Classical.byContradiction (fun z => by rw [if_neg z] at hq62; exact absurd hq62 (by decide))
              refine wx_iconst (nI 1) kc16_65 (by decide) ?_
              refine wx_goto kc16_66 ?_
              refine wx_istore_n (ls' := [.ref (110 + 43 * w + i), .int (nI 1)]) kc16_70 rfl rfl rfl rfl ?_
              refine wx_iload_n kc16_71 rfl rfl ?_
              refine wn_if_ne kc16_72 (by decide) (fun _ => ?_) (fun z => absurd z (by decide))
              refine wx_aload_n kc16_77 rfl rfl ?_
              refine wx_dup kc16_78 rfl ?_
              refine wcS_get (.int (nI a)) hS kc16_79 hw (by omega) (congrArg (fun z => Value.int (nI z)) (show (zup c 25 (41 * w + i) a) 25 (41 * w + i) = a from zup_same _ _ _ _)) ?_
              refine wx_iconst (nI 1) kc16_82 (by decide) ?_
              refine wn_iadd (a + 1) kc16_83 rfl ?_
              refine wcS_put (v := (a + 1)) 25 hS kc16_84 hw (by omega) rfl rfl rfl ?_
              refine wx_goto kc16_87 ?_
              show zm_wp _ 16 0 [.ref (110 + 43 * w + i), .int (nI 1)] [] (zch h0 (zup (zup c 25 (41 * w + i) a) 25 (41 * w + i) (a + 1))) _
              rw [zup_zup]
              refine ih (a + 1) (by omega) _ (by omega) (hp.trans ?_)
              first | exact zpt_skip (fun j => c 19 (1200 * c 24 (41 * w + i) + j)) (by omega) hc21 | exact zpt_dot (f := (fun j => c 19 (1200 * c 24 (41 * w + i) + j))) (by omega) hc34 (by first | exact Or.inl (by omega) | exact Or.inr hc62)
theorem cS_goToPart {d : Nat} {h0 : zm_H} {c : Nat → Nat → Nat} {Q : Option Value → zm_H → Prop} {w i nb : Nat} (hS : zCS h0) (hI : zCI c) (hw : w ≤ 1) (hi41 : i < 41) (hg : zga h0 (c 24 (41 * w + i)) nb) (he : c 26 (41 * w + i) ≤ nb) (hae : c 25 (41 * w + i) ≤ c 26 (41 * w + i)) (hyes : ∀ a, (c 25 (41 * w + i)) ≤ a → a < c 26 (41 * w + i) → c 19 (1200 * c 24 (41 * w + i) + a) ≠ 47 → ¬ (c 19 (1200 * c 24 (41 * w + i) + a) = 46 ∧ (a + 1 = c 26 (41 * w + i) ∨ c 19 (1200 * c 24 (41 * w + i) + (a + 1)) = 47)) → zpt (zls (fun j => c 19 (1200 * c 24 (41 * w + i) + j)) (c 25 (41 * w + i)) (c 26 (41 * w + i))) = zpt (zls (fun j => c 19 (1200 * c 24 (41 * w + i) + j)) a (c 26 (41 * w + i))) → Q (some (.int (nI 1))) (zch h0 (zup c 25 (41 * w + i) a))) (hno : zpt (zls (fun j => c 19 (1200 * c 24 (41 * w + i) + j)) (c 25 (41 * w + i)) (c 26 (41 * w + i))) = [] → Q (some (.int (nI 0))) (zch h0 (zup c 25 (41 * w + i) (c 26 (41 * w + i))))) : zm_wc (d + 2) mS_goToPart [.ref (110 + 43 * w + i)] (zch h0 c) Q := by
  refine zm_enter2 (zfl_cons rfl zfl_nil) rfl ?_
  have k := lS_goToPart (d := d) hS hI hw hi41 hg he hyes hno (c 26 (41 * w + i) - c 25 (41 * w + i)) (c 25 (41 * w + i)) (by omega) zm_un (Nat.le_refl _) rfl
  rw [zup_id rfl] at k
  exact k
