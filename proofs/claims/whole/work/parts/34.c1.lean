/-! more rows for the class; what its numbers keep to -/
section
variable {d M pc np x y o : Nat} {sw : List (Int × Nat)} {ls st : List Value} {h0 h : zm_H} {c : Nat → Nat → Nat} {Q : Option Value → zm_H → Prop}
theorem wn_max {a b : Nat} (hc : zt_code M pc = some (.invokestatic o, np, 1001, y, sw)) (h4 : Nat.ble st.length 4 = true) (ha : a < 2147483648) (hb : b < 2147483648) (kk : zm_wp d M np ls (.int (nI (max a b)) :: st) h Q) : zm_wp d M pc ls (.int (nI b) :: .int (nI a) :: st) h Q := by
  refine wx_max hc h4 ?_
  have e : (if nI a < nI b then nI b else nI a) = nI (max a b) := by
    by_cases h : a < b
    · rw [if_pos ((nI_ltI ha hb).mpr h), show max a b = b by omega]
    · rw [if_neg (fun z => h ((nI_ltI ha hb).mp z)), show max a b = a by omega]
  rw [e]
  exact kk
theorem wn_min {a b : Nat} (hc : zt_code M pc = some (.invokestatic o, np, 1002, y, sw)) (h4 : Nat.ble st.length 4 = true) (ha : a < 2147483648) (hb : b < 2147483648) (kk : zm_wp d M np ls (.int (nI (min a b)) :: st) h Q) : zm_wp d M pc ls (.int (nI b) :: .int (nI a) :: st) h Q := by
  refine wx_min hc h4 ?_
  have e : (if nI b < nI a then nI b else nI a) = nI (min a b) := by
    by_cases h : b < a
    · rw [if_pos ((nI_ltI hb ha).mpr h), show min a b = b by omega]
    · rw [if_neg (fun z => h ((nI_ltI hb ha).mp z)), show min a b = a by omega]
  rw [e]
  exact kk
theorem zsg_lit : ∀ b, b < 128 → zsg b = nI b := by decide +kernel
theorem wg_icmp_ne {a b : Nat} {o : Int} (hc : zt_code M pc = some (.if_icmp .ne o, np, x, y, sw)) (ha : a < 256) (hb : b < 256) (kt : a ≠ b → zm_wp d M x ls st h Q) (kf : a = b → zm_wp d M np ls st h Q) : zm_wp d M pc ls (.int (zsg b) :: .int (zsg a) :: st) h Q :=
  wx_icmp_ne hc (fun q => kt (fun z => q (by rw [z]))) (fun q => kf (zsg_inj ha hb q))
theorem wg_icmp_eq {a b : Nat} {o : Int} (hc : zt_code M pc = some (.if_icmp .eq o, np, x, y, sw)) (ha : a < 256) (hb : b < 256) (kt : a = b → zm_wp d M x ls st h Q) (kf : a ≠ b → zm_wp d M np ls st h Q) : zm_wp d M pc ls (.int (zsg b) :: .int (zsg a) :: st) h Q :=
  wx_icmp_eq hc (fun q => kt (zsg_inj ha hb q)) (fun q => kf (fun z => q (by rw [z])))
theorem wh_icmp_ne {a b : Nat} {o : Int} (hc : zt_code M pc = some (.if_icmp .ne o, np, x, y, sw)) (ha : a < 256) (hb : b < 128) (kt : a ≠ b → zm_wp d M x ls st h Q) (kf : a = b → zm_wp d M np ls st h Q) : zm_wp d M pc ls (.int (nI b) :: .int (zsg a) :: st) h Q := by
  rw [← zsg_lit b hb]
  exact wg_icmp_ne hc ha (by omega) kt kf
theorem wg_if_ne {a : Nat} {o : Int} (hc : zt_code M pc = some (.ifCond .ne o, np, x, y, sw)) (ha : a < 256) (kt : a ≠ 0 → zm_wp d M x ls st h Q) (kf : a = 0 → zm_wp d M np ls st h Q) : zm_wp d M pc ls (.int (zsg a) :: st) h Q := by
  have e0 : zsg 0 = 0 := by decide
  exact wx_if_ne hc (fun q => kt (fun z => q (by rw [z, e0]))) (fun q => kf (zsg_inj ha (by decide) (by rw [q, e0])))
theorem zfl_nil : zm_fl [] = [] := rfl
theorem zfl_cons {v : Value} {t : List Value} (hv : zm_c1 v = true) (ht : zm_fl t = t) : zm_fl (v :: t) = v :: t := by
  show (if zm_c1 v = true then [v] else [v, zm_un]) ++ zm_fl t = v :: t
  rw [if_pos hv, ht]
  rfl
theorem zm_enter2 {a : List Value} (hf : zm_fl a = a) (hl : Nat.ble a.length (zt_ml M) = true) (k : zm_wp d M 0 (a ++ List.replicate (zt_ml M - a.length) zm_un) [] h Q) : zm_wc (d + 1) M a h Q := by
  refine zm_enter (by rw [hf]; exact Nat.le_of_ble_eq_true hl) ?_
  unfold zm_lo
  rw [hf]
  exact k
theorem wcF_call {f : Nat} (hS : zCS h0) (hc : zt_code M pc = some (.invokevirtual o, np, x, y, sw)) (ha : st[y]? = some (zrF f)) (hm : zt_mc x = 5) (h1 : 1 ≤ f) (h2 : f ≤ 40) (h4 : Nat.ble (st.drop (y + 1)).length 4 = true) (kk : zm_wc d x (zm_ar (y + 1) st) (zch h0 c) (fun r1 h1 => zm_wp d M np ls (r1.toList ++ st.drop (y + 1)) h1 Q)) : zm_wp d M pc ls st (zch h0 c) Q := by
  rw [zrF_r h1] at ha
  exact wx_virtual hc ha (by rw [hm]; exact zch_is hS (5 + f) 5 (by omega) (by omega) (by rw [zck_F h1 h2])) h4 kk
theorem wcR_call {f : Nat} (hS : zCS h0) (hc : zt_code M pc = some (.invokevirtual o, np, x, y, sw)) (ha : st[y]? = some (zrR f)) (hm : zt_mc x = 1) (h1 : 1 ≤ f) (h2 : f ≤ 60) (h4 : Nat.ble (st.drop (y + 1)).length 4 = true) (kk : zm_wc d x (zm_ar (y + 1) st) (zch h0 c) (fun r1 h1 => zm_wp d M np ls (r1.toList ++ st.drop (y + 1)) h1 Q)) : zm_wp d M pc ls st (zch h0 c) Q := by
  rw [zrR_r h1] at ha
  exact wx_virtual hc ha (by rw [hm]; exact zch_is hS (47 + f) 1 (by omega) (by omega) (by rw [zck_R h1 h2])) h4 kk
theorem wcW_call {w : Nat} (hS : zCS h0) (hc : zt_code M pc = some (.invokevirtual o, np, x, y, sw)) (ha : st[y]? = some (.ref (108 + 43 * w))) (hm : zt_mc x = 6) (hw : w ≤ 1) (h4 : Nat.ble (st.drop (y + 1)).length 4 = true) (kk : zm_wc d x (zm_ar (y + 1) st) (zch h0 c) (fun r1 h1 => zm_wp d M np ls (r1.toList ++ st.drop (y + 1)) h1 Q)) : zm_wp d M pc ls st (zch h0 c) Q :=
  wx_virtual hc ha (by rw [hm]; exact zch_is hS (108 + 43 * w) 6 (by omega) (by omega) (by rw [zck_W hw])) h4 kk
theorem wcS_call {w i : Nat} (hS : zCS h0) (hc : zt_code M pc = some (.invokevirtual o, np, x, y, sw)) (ha : st[y]? = some (.ref (110 + 43 * w + i))) (hm : zt_mc x = 3) (hw : w ≤ 1) (hi : i < 41) (h4 : Nat.ble (st.drop (y + 1)).length 4 = true) (kk : zm_wc d x (zm_ar (y + 1) st) (zch h0 c) (fun r1 h1 => zm_wp d M np ls (r1.toList ++ st.drop (y + 1)) h1 Q)) : zm_wp d M pc ls st (zch h0 c) Q :=
  wx_virtual hc ha (by rw [hm]; exact zch_is hS (110 + 43 * w + i) 3 (by omega) (by omega) (by rw [zck_S hw hi])) h4 kk
theorem wc_call {a : Nat} (hS : zCS h0) (hc : zt_code M pc = some (.invokevirtual o, np, x, y, sw)) (ha : st[y]? = some (.ref a)) (h1 : Nat.ble 1 a = true) (h2 : Nat.blt a 194 = true) (hm : (zck a).1 = zt_mc x) (h4 : Nat.ble (st.drop (y + 1)).length 4 = true) (kk : zm_wc d x (zm_ar (y + 1) st) (zch h0 c) (fun r1 h1 => zm_wp d M np ls (r1.toList ++ st.drop (y + 1)) h1 Q)) : zm_wp d M pc ls st (zch h0 c) Q :=
  wx_virtual hc ha (zch_is hS a _ (Nat.le_of_ble_eq_true h1) (Nat.blt_eq.mp h2) hm) h4 kk
end
def zcb : Nat → Nat → Nat
  | 0, 0 => 200
  | 0, 1 => 1200
  | 0, 2 => 60
  | 0, _ => 0
  | 2, _ => 3
  | 3, _ => 60
  | 4, _ => 100
  | 5, _ => 60
  | 6, _ => 60
  | 7, _ => 40
  | 8, _ => 2147483647
  | 9, _ => 1000
  | 10, _ => 60
  | 11, _ => 40
  | 12, _ => 40
  | 13, _ => 2147483647
  | 14, _ => 255
  | 15, _ => 41
  | 16, _ => 40
  | 17, _ => 2147483647
  | 18, _ => 1200
  | 19, _ => 255
  | 20, _ => 1200
  | 21, _ => 40
  | 22, _ => 60
  | 23, _ => 40
  | 24, _ => 2147483647
  | 25, _ => 1200
  | 26, _ => 1200
  | _, _ => 0
theorem zcb_le (a j : Nat) : zcb a j ≤ 2147483647 := by
  unfold zcb
  split <;> decide
def zCI (c : Nat → Nat → Nat) : Prop := ∀ a j, c a j ≤ zcb a j
theorem zCIb {c : Nat → Nat → Nat} (h : zCI c) (a j : Nat) : c a j < 2147483648 := by
  have h1 := h a j
  have h2 := zcb_le a j
  omega
theorem zCI_up {s : Nat → Nat → Nat} (h : zCI s) {a j v : Nat} (hv : v ≤ zcb a j) : zCI (zup s a j v) := by
  intro b i
  by_cases hb : b = a ∧ i = j
  · obtain ⟨rfl, rfl⟩ := hb
    rw [zup_same]
    exact hv
  · rw [zup_ne _ _ hb]
    exact h b i
theorem zCI_wr {s : Nat → Nat → Nat} (h : zCI s) {a lo n : Nat} {g : Nat → Nat} (hv : ∀ i, i < n → g i ≤ zcb a (lo + i)) : zCI (zwr s a lo n g) := by
  intro b i
  by_cases hb : b = a ∧ lo ≤ i ∧ i < lo + n
  · obtain ⟨rfl, h1, h2⟩ := hb
    rw [zwr_in _ _ h1 h2]
    have := hv (i - lo) (by omega)
    rw [show lo + (i - lo) = i by omega] at this
    exact this
  · rw [zwr_out _ _ hb]
    exact h b i
/-- the byte rows that are pointed at -/
def zCG (h0 : zm_H) (c : Nat → Nat → Nat) : Prop := (∀ f, c 8 f ≠ 0 → zga h0 (c 8 f) 1000) ∧ (∀ r, c 13 r ≠ 0 → zga h0 (c 13 r) 255)
theorem cN_roomOfTarget {d : Nat} {h0 : zm_H} {c : Nat → Nat → Nat} {Q : Option Value → zm_H → Prop} {n : Nat} (hn : n < 2147483648) (hq : Q (some (.int (nI (if 59 < n then 1 else 0)))) (zch h0 c)) : zm_wc (d + 1) mN_roomOfTarget [.int (nI n)] (zch h0 c) Q := by
  refine zm_enter2 (zfl_cons rfl zfl_nil) rfl ?_
  show zm_wp _ 70 0 [.int (nI n)] [] (zch h0 c) Q
  refine wx_iload_n kc70_0 rfl rfl ?_
  refine wx_bipush (nI 59) kc70_1 (by decide) ?_
  refine wn_icmp_le kc70_3 (by omega) (by decide) (fun hq3 => ?_) (fun hq3 => ?_)
  · skip
    refine wx_iconst (nI 0) kc70_10 (by decide) ?_
    refine wx_ireturn kc70_11 rfl rfl ?_
    exact (show (if 59 < n then 1 else 0) = 0 by first | rw [if_pos (by omega)] | rw [if_neg (by omega)]) ▸ hq
  · skip
    refine wx_iconst (nI 1) kc70_6 (by decide) ?_
    refine wx_goto kc70_7 ?_
    refine wx_ireturn kc70_11 rfl rfl ?_
    exact (show (if 59 < n then 1 else 0) = 1 by first | rw [if_pos (by omega)] | rw [if_neg (by omega)]) ▸ hq
theorem cN_roomOfFolder {d : Nat} {h0 : zm_H} {c : Nat → Nat → Nat} {Q : Option Value → zm_H → Prop} {n : Nat} (hn : n < 2147483648) (hq : Q (some (.int (nI (zft n)))) (zch h0 c)) : zm_wc (d + 1) mN_roomOfFolder [.int (nI n)] (zch h0 c) Q := by
  refine zm_enter2 (zfl_cons rfl zfl_nil) rfl ?_
  show zm_wp _ 71 0 [.int (nI n)] [] (zch h0 c) Q
  refine wx_iload_n kc71_0 rfl rfl ?_
  refine wx_iconst (nI 3) kc71_1 (by decide) ?_
  refine wn_icmp_le kc71_2 (by omega) (by decide) (fun hq2 => ?_) (fun hq2 => ?_)
  · skip
    refine wx_iconst (nI 1) kc71_9 (by decide) ?_
    refine wx_ireturn kc71_10 rfl rfl ?_
    exact (show zft n = 1 by unfold zft; first | rw [if_pos (by omega)] | rw [if_neg (by omega)]) ▸ hq
  · skip
    refine wx_iload_n kc71_5 rfl rfl ?_
    refine wx_goto kc71_6 ?_
    refine wx_ireturn kc71_10 rfl rfl ?_
    exact (show zft n = n by unfold zft; first | rw [if_pos (by omega)] | rw [if_neg (by omega)]) ▸ hq
def zbg (c : Nat → Nat → Nat) (f k : Nat) : Nat → Nat → Nat := zup (zup (zup (zup (zup (zup (zup c 2 f k) 3 f 0) 4 f 0) 5 f 0) 6 f 0) 7 f 0) 9 f 0
theorem cF_begin {d : Nat} {h0 : zm_H} {c : Nat → Nat → Nat} {Q : Option Value → zm_H → Prop} {f k : Nat} (hS : zCS h0) (h1 : 1 ≤ f) (h2 : f ≤ 40) (hq : Q none (zch h0 (zbg c f k))) : zm_wc (d + 1) mF_begin [zrF f, .int (nI k)] (zch h0 c) Q := by
  refine zm_enter2 (zfl_cons (zrF_c1 _) (zfl_cons rfl zfl_nil)) rfl ?_
  show zm_wp _ 27 0 [zrF f, .int (nI k)] [] (zch h0 c) Q
  refine wx_aload_n kc27_0 rfl (zrF_k _) ?_
  refine wx_iload_n kc27_1 rfl rfl ?_
  refine wcF_put (v := k) 2 hS kc27_2 (by omega) (by omega) rfl rfl rfl ?_
  refine wx_aload_n kc27_5 rfl (zrF_k _) ?_
  refine wx_iconst (nI 0) kc27_6 (by decide) ?_
  refine wcF_put (v := 0) 3 hS kc27_7 (by omega) (by omega) rfl rfl rfl ?_
  refine wx_aload_n kc27_10 rfl (zrF_k _) ?_
  refine wx_iconst (nI 0) kc27_11 (by decide) ?_
  refine wcF_put (v := 0) 4 hS kc27_12 (by omega) (by omega) rfl rfl rfl ?_
  refine wx_aload_n kc27_15 rfl (zrF_k _) ?_
  refine wx_iconst (nI 0) kc27_16 (by decide) ?_
  refine wcF_put (v := 0) 5 hS kc27_17 (by omega) (by omega) rfl rfl rfl ?_
  refine wx_aload_n kc27_20 rfl (zrF_k _) ?_
  refine wx_iconst (nI 0) kc27_21 (by decide) ?_
  refine wcF_put (v := 0) 6 hS kc27_22 (by omega) (by omega) rfl rfl rfl ?_
  refine wx_aload_n kc27_25 rfl (zrF_k _) ?_
  refine wx_aconst_null kc27_26 ?_
  refine wcF_put (v := 0) 7 hS kc27_27 (by omega) (by omega) rfl rfl rfl ?_
  refine wx_aload_n kc27_30 rfl (zrF_k _) ?_
  refine wx_iconst (nI 0) kc27_31 (by decide) ?_
  refine wcF_put (v := 0) 9 hS kc27_32 (by omega) (by omega) rfl rfl rfl ?_
  refine wx_return kc27_35 rfl ?_
  exact hq
def zct (c : Nat → Nat → Nat) (f : Nat) : Nat := if c 2 f = 1 then 1 else if c 2 f = 2 then zft (c 6 f) else if c 2 f = 3 then (if 59 < c 9 f then 1 else 0) else 0
theorem cF_takes {d : Nat} {h0 : zm_H} {c : Nat → Nat → Nat} {Q : Option Value → zm_H → Prop} {f : Nat} (hS : zCS h0) (hI : zCI c) (h1 : 1 ≤ f) (h2 : f ≤ 40) (hq : Q (some (.int (nI (zct c f)))) (zch h0 c)) : zm_wc (d + 2) mF_takes [zrF f] (zch h0 c) Q := by
  refine zm_enter2 (zfl_cons (zrF_c1 _) zfl_nil) rfl ?_
  show zm_wp _ 30 0 [zrF f] [] (zch h0 c) Q
  have hk3 : c 2 f ≤ 3 := hI 2 f
  refine wx_aload_n kc30_0 rfl (zrF_k _) ?_
  refine wcF_get (.int (nI (c 2 f))) hS kc30_1 (by omega) (by omega) rfl ?_
  have hb4_1 : c 2 f ≤ 3 := hI 2 f
  rcases (show c 2 f = 0 ∨ c 2 f = 1 ∨ c 2 f = 2 ∨ c 2 f = 3 by omega) with hk | hk | hk | hk
  · skip
    refine wx_tableswitch (tgt := 50) kc30_4 (by rw [hk]; decide) ?_
    refine wx_iconst (nI 0) kc30_50 (by decide) ?_
    refine wx_ireturn kc30_51 rfl rfl ?_
    exact (show zct c f = 0 by unfold zct; rw [hk]; rfl) ▸ hq
  · skip
    refine wx_tableswitch (tgt := 32) kc30_4 (by rw [hk]; decide) ?_
    refine wx_iconst (nI 1) kc30_32 (by decide) ?_
    refine wx_ireturn kc30_33 rfl rfl ?_
    exact (show zct c f = 1 by unfold zct; rw [hk]; rfl) ▸ hq
  · skip
    refine wx_tableswitch (tgt := 34) kc30_4 (by rw [hk]; decide) ?_
    refine wx_aload_n kc30_34 rfl (zrF_k _) ?_
    refine wcF_get (.int (nI (c 6 f))) hS kc30_35 (by omega) (by omega) rfl ?_
    have hb38_2 : c 6 f ≤ 60 := hI 6 f
    refine wx_static kc30_38 rfl rfl rfl ?_
    refine cN_roomOfFolder (by omega) ?_
    show zm_wp _ 30 41 [zrF f] [.int (nI (zft (c 6 f)))] (zch h0 c) _
    refine wx_ireturn kc30_41 rfl rfl ?_
    exact (show zct c f = (zft (c 6 f)) by unfold zct; rw [hk]; rfl) ▸ hq
  · skip
    refine wx_tableswitch (tgt := 42) kc30_4 (by rw [hk]; decide) ?_
    refine wx_aload_n kc30_42 rfl (zrF_k _) ?_
    refine wcF_get (.int (nI (c 9 f))) hS kc30_43 (by omega) (by omega) rfl ?_
    have hb46_2 : c 9 f ≤ 1000 := hI 9 f
    refine wx_static kc30_46 rfl rfl rfl ?_
    refine cN_roomOfTarget (by omega) ?_
    show zm_wp _ 30 49 [zrF f] [.int (nI (if 59 < c 9 f then 1 else 0))] (zch h0 c) _
    refine wx_ireturn kc30_49 rfl rfl ?_
    exact (show zct c f = (if 59 < c 9 f then 1 else 0) by unfold zct; rw [hk]; rfl) ▸ hq
theorem cF_growth {d : Nat} {h0 : zm_H} {c : Nat → Nat → Nat} {Q : Option Value → zm_H → Prop} {f : Nat} (hS : zCS h0) (hI : zCI c) (h1 : 1 ≤ f) (h2 : f ≤ 40) (hq : Q (some (.int (nI (zft (max (c 6 f) (c 5 f + 1)) - zft (c 6 f))))) (zch h0 c)) : zm_wc (d + 2) mF_growthByOneName [zrF f] (zch h0 c) Q := by
  refine zm_enter2 (zfl_cons (zrF_c1 _) zfl_nil) rfl ?_
  show zm_wp _ 31 0 [zrF f] [] (zch h0 c) Q
  refine wx_aload_n kc31_0 rfl (zrF_k _) ?_
  refine wcF_get (.int (nI (c 6 f))) hS kc31_1 (by omega) (by omega) rfl ?_
  have hb4_1 : c 6 f ≤ 60 := hI 6 f
  refine wx_aload_n kc31_4 rfl (zrF_k _) ?_
  refine wcF_get (.int (nI (c 5 f))) hS kc31_5 (by omega) (by omega) rfl ?_
  have hb8_2 : c 5 f ≤ 60 := hI 5 f
  refine wx_iconst (nI 1) kc31_8 (by decide) ?_
  refine wn_iadd ((c 5 f) + 1) kc31_9 rfl ?_
  refine wn_max kc31_10 rfl (by omega) (by omega) ?_
  refine wx_static kc31_13 rfl rfl rfl ?_
  refine cN_roomOfFolder (by omega) ?_
  show zm_wp _ 31 16 [zrF f] [.int (nI (zft (max (c 6 f) (c 5 f + 1))))] (zch h0 c) _
  refine wx_aload_n kc31_16 rfl (zrF_k _) ?_
  refine wcF_get (.int (nI (c 6 f))) hS kc31_17 (by omega) (by omega) rfl ?_
  have hz := zft_mono (show c 6 f ≤ max (c 6 f) (c 5 f + 1) by omega)
  refine wx_static kc31_20 rfl rfl rfl ?_
  refine cN_roomOfFolder (by omega) ?_
  show zm_wp _ 31 23 [zrF f] [.int (nI (zft (c 6 f))), .int (nI (zft (max (c 6 f) (c 5 f + 1))))] (zch h0 c) _
  refine wn_isub ((zft (max (c 6 f) (c 5 f + 1))) - (zft (c 6 f))) kc31_23 (by omega) ?_
  refine wx_ireturn kc31_24 rfl rfl ?_
  exact hq
def zcz (c : Nat → Nat → Nat) (f : Nat) : Nat := if c 2 f = 1 then c 4 f else if c 2 f = 2 then c 5 f else if c 2 f = 3 then c 9 f else 0
theorem cF_size {d : Nat} {h0 : zm_H} {c : Nat → Nat → Nat} {Q : Option Value → zm_H → Prop} {f : Nat} (hS : zCS h0) (hI : zCI c) (h1 : 1 ≤ f) (h2 : f ≤ 40) (hq : Q (some (.int (nI (zcz c f)))) (zch h0 c)) : zm_wc (d + 1) mF_size [zrF f] (zch h0 c) Q := by
  refine zm_enter2 (zfl_cons (zrF_c1 _) zfl_nil) rfl ?_
  show zm_wp _ 32 0 [zrF f] [] (zch h0 c) Q
  have hk3 : c 2 f ≤ 3 := hI 2 f
  refine wx_aload_n kc32_0 rfl (zrF_k _) ?_
  refine wcF_get (.int (nI (c 2 f))) hS kc32_1 (by omega) (by omega) rfl ?_
  have hb4_1 : c 2 f ≤ 3 := hI 2 f
  rcases (show c 2 f = 0 ∨ c 2 f = 1 ∨ c 2 f = 2 ∨ c 2 f = 3 by omega) with hk | hk | hk | hk
  · skip
    refine wx_tableswitch (tgt := 47) kc32_4 (by rw [hk]; decide) ?_
    refine wx_iconst (nI 0) kc32_47 (by decide) ?_
    refine wx_ireturn kc32_48 rfl rfl ?_
    exact (show zcz c f = 0 by unfold zcz; rw [hk]; rfl) ▸ hq
  · skip
    refine wx_tableswitch (tgt := 32) kc32_4 (by rw [hk]; decide) ?_
    refine wx_aload_n kc32_32 rfl (zrF_k _) ?_
    refine wcF_get (.int (nI (c 4 f))) hS kc32_33 (by omega) (by omega) rfl ?_
    have hb36_2 : c 4 f ≤ 100 := hI 4 f
    refine wx_ireturn kc32_36 rfl rfl ?_
    exact (show zcz c f = (c 4 f) by unfold zcz; rw [hk]; rfl) ▸ hq
  · skip
    refine wx_tableswitch (tgt := 37) kc32_4 (by rw [hk]; decide) ?_
    refine wx_aload_n kc32_37 rfl (zrF_k _) ?_
    refine wcF_get (.int (nI (c 5 f))) hS kc32_38 (by omega) (by omega) rfl ?_
    have hb41_2 : c 5 f ≤ 60 := hI 5 f
    refine wx_ireturn kc32_41 rfl rfl ?_
    exact (show zcz c f = (c 5 f) by unfold zcz; rw [hk]; rfl) ▸ hq
  · skip
    refine wx_tableswitch (tgt := 42) kc32_4 (by rw [hk]; decide) ?_
    refine wx_aload_n kc32_42 rfl (zrF_k _) ?_
    refine wcF_get (.int (nI (c 9 f))) hS kc32_43 (by omega) (by omega) rfl ?_
    have hb46_2 : c 9 f ≤ 1000 := hI 9 f
    refine wx_ireturn kc32_46 rfl rfl ?_
    exact (show zcz c f = (c 9 f) by unfold zcz; rw [hk]; rfl) ▸ hq
def zgu (c : Nat → Nat → Nat) (f : Nat) : Nat → Nat → Nat := if c 3 f = 0 ∧ c 4 f = 0 then zbg c f 0 else c
theorem cF_goIfUnused {d : Nat} {h0 : zm_H} {c : Nat → Nat → Nat} {Q : Option Value → zm_H → Prop} {f : Nat} (hS : zCS h0) (hI : zCI c) (h1 : 1 ≤ f) (h2 : f ≤ 40) (hq : Q none (zch h0 (zgu c f))) : zm_wc (d + 2) mF_goIfUnused [zrF f] (zch h0 c) Q := by
  refine zm_enter2 (zfl_cons (zrF_c1 _) zfl_nil) rfl ?_
  show zm_wp _ 33 0 [zrF f] [] (zch h0 c) Q
  refine wx_aload_n kc33_0 rfl (zrF_k _) ?_
  refine wcF_get (.int (nI (c 3 f))) hS kc33_1 (by omega) (by omega) rfl ?_
  have hb4_1 : c 3 f ≤ 60 := hI 3 f
  refine wn_if_ne kc33_4 (by omega) (fun hq4 => ?_) (fun hq4 => ?_)
  · skip
    refine wx_return kc33_19 rfl ?_
    exact (show zgu c f = c by unfold zgu; first | rw [if_pos ⟨by omega, by omega⟩] | rw [if_neg (by omega)]) ▸ hq
  · skip
    refine wx_aload_n kc33_7 rfl (zrF_k _) ?_
    refine wcF_get (.int (nI (c 4 f))) hS kc33_8 (by omega) (by omega) rfl ?_
    have hb11_2 : c 4 f ≤ 100 := hI 4 f
    refine wn_if_ne kc33_11 (by omega) (fun hq11 => ?_) (fun hq11 => ?_)
    · skip
      refine wx_return kc33_19 rfl ?_
      exact (show zgu c f = c by unfold zgu; first | rw [if_pos ⟨by omega, by omega⟩] | rw [if_neg (by omega)]) ▸ hq
    · skip
      refine wx_aload_n kc33_14 rfl (zrF_k _) ?_
      refine wx_iconst (nI 0) kc33_15 (by decide) ?_
      refine wcF_call hS kc33_16 rfl rfl (by omega) (by omega) rfl ?_
      refine cF_begin hS h1 h2 ?_
      show zm_wp _ 33 19 [zrF f] [] (zch h0 (zbg c f 0)) _
      refine wx_return kc33_19 rfl ?_
      exact (show zgu c f = (zbg c f 0) by unfold zgu; first | rw [if_pos ⟨by omega, by omega⟩] | rw [if_neg (by omega)]) ▸ hq
theorem cF_byteOfTarget {d : Nat} {h0 : zm_H} {c : Nat → Nat → Nat} {Q : Option Value → zm_H → Prop} {f : Nat} {x : Int32} (hS : zCS h0) (hI : zCI c) (h1 : 1 ≤ f) (h2 : f ≤ 40) (hG : c 8 f ≠ 0 → zga h0 (c 8 f) 1000) (hgood : ∀ i : Nat, c 2 f = 3 → c 8 f ≠ 0 → i < c 9 f → x = nI i → Q (some (.int (nI (c 19 (1200 * c 8 f + i))))) (zch h0 c)) (hbad : (∀ i : Nat, c 2 f = 3 → c 8 f ≠ 0 → i < c 9 f → ¬ x = nI i) → Q (some (.int (-1))) (zch h0 c)) : zm_wc (d + 1) mF_byteOfTarget [zrF f, .int x] (zch h0 c) Q := by
  refine zm_enter2 (zfl_cons (zrF_c1 _) (zfl_cons rfl zfl_nil)) rfl ?_
  show zm_wp _ 29 0 [zrF f, .int x] [] (zch h0 c) Q
  have hb9 : c 9 f ≤ 1000 := hI 9 f
  refine wx_aload_n kc29_0 rfl (zrF_k _) ?_
  refine wcF_get (.int (nI (c 2 f))) hS kc29_1 (by omega) (by omega) rfl ?_
  have hb4_1 : c 2 f ≤ 3 := hI 2 f
  refine wx_iconst (nI 3) kc29_4 (by decide) ?_
  refine wn_icmp_ne kc29_5 (by omega) (by decide) (fun hq5 => ?_) (fun hq5 => ?_)
  · skip
    refine wx_iconst (-1) kc29_36 (by decide) ?_
    refine wx_ireturn kc29_37 rfl rfl ?_
    refine hbad (fun j g1 g2 g3 g4 => ?_)
    first | omega | (subst g4; first | omega | exact absurd hq16 (nI_pos (by omega))) | (have := (nI_eq (by omega) (by omega)).mp g4; omega)
  · skip
    refine wx_aload_n kc29_8 rfl (zrF_k _) ?_
    refine wcF_get (zrA (c 8 f)) hS kc29_9 (by omega) (by omega) rfl ?_
    have hb12_2 : c 8 f ≤ 2147483647 := hI 8 f
    refine wcA_null kc29_12 (fun hq12 => ?_) (fun hq12 => ?_)
    · skip
      refine wx_iconst (-1) kc29_36 (by decide) ?_
      refine wx_ireturn kc29_37 rfl rfl ?_
      refine hbad (fun j g1 g2 g3 g4 => ?_)
      first | omega | (subst g4; first | omega | exact absurd hq16 (nI_pos (by omega))) | (have := (nI_eq (by omega) (by omega)).mp g4; omega)
    · skip
      refine wx_iload_n kc29_15 rfl rfl ?_
      refine wx_if_lt kc29_16 (fun hq16 => ?_) (fun hq16 => ?_)
      · skip
        refine wx_iconst (-1) kc29_36 (by decide) ?_
        refine wx_ireturn kc29_37 rfl rfl ?_
        refine hbad (fun j g1 g2 g3 g4 => ?_)
        first | omega | (subst g4; first | omega | exact absurd hq16 (nI_pos (by omega))) | (have := (nI_eq (by omega) (by omega)).mp g4; omega)
      · skip
        obtain ⟨i, hi1, rfl⟩ := nI_of hq16
        refine wx_iload_n kc29_19 rfl rfl ?_
        refine wx_aload_n kc29_20 rfl (zrF_k _) ?_
        refine wcF_get (.int (nI (c 9 f))) hS kc29_21 (by omega) (by omega) rfl ?_
        have hb24_3 : c 9 f ≤ 1000 := hI 9 f
        refine wn_icmp_ge kc29_24 (by omega) (by omega) (fun hq24 => ?_) (fun hq24 => ?_)
        · skip
          refine wx_iconst (-1) kc29_36 (by decide) ?_
          refine wx_ireturn kc29_37 rfl rfl ?_
          refine hbad (fun j g1 g2 g3 g4 => ?_)
          first | omega | (subst g4; first | omega | exact absurd hq16 (nI_pos (by omega))) | (have := (nI_eq (by omega) (by omega)).mp g4; omega)
        · skip
          refine wx_iload_n kc29_27 rfl rfl ?_
          refine wx_aload_n kc29_28 rfl (zrF_k _) ?_
          refine wcF_get (zrA (c 8 f)) hS kc29_29 (by omega) (by omega) rfl ?_
          have hb32_4 : c 8 f ≤ 2147483647 := hI 8 f
          refine wcA_len (hG (by omega)) kc29_32 ?_
          refine wn_icmp_lt kc29_33 (by omega) (by decide) (fun hq33 => ?_) (fun hq33 => ?_)
          · skip
            refine wx_aload_n kc29_38 rfl (zrF_k _) ?_
            refine wcF_get (zrA (c 8 f)) hS kc29_39 (by omega) (by omega) rfl ?_
            have hb42_5 : c 8 f ≤ 2147483647 := hI 8 f
            refine wx_iload_n kc29_42 rfl rfl ?_
            refine wcA_ld (c 19 (1200 * (c 8 f) + i)) (hG (by omega)) kc29_43 (by omega) rfl ?_
            refine wx_sipush (nI 255) kc29_44 (by decide) ?_
            refine wx_iand kc29_47 ?_
            rw [zsg_and (Nat.lt_succ_of_le (hI 19 _))]
            refine wx_ireturn kc29_48 rfl rfl ?_
            exact hgood i (by omega) (by omega) (by omega) rfl
          · skip
            refine wx_iconst (-1) kc29_36 (by decide) ?_
            refine wx_ireturn kc29_37 rfl rfl ?_
            refine hbad (fun j g1 g2 g3 g4 => ?_)
            first | omega | (subst g4; first | omega | exact absurd hq16 (nI_pos (by omega))) | (have := (nI_eq (by omega) (by omega)).mp g4; omega)
theorem cL_at {d : Nat} {h0 : zm_H} {c : Nat → Nat → Nat} {Q : Option Value → zm_H → Prop} {x : Int32} (hS : zCS h0) (hI : zCI c) (hyes : ∀ f : Nat, 1 ≤ f → f ≤ 40 → c 2 f ≠ 0 → x = nI f → Q (some (zrF f)) (zch h0 c)) (hno : (∀ f : Nat, 1 ≤ f → f ≤ 40 → c 2 f ≠ 0 → ¬ x = nI f) → Q (some .null) (zch h0 c)) : zm_wc (d + 1) mL_at [.ref 4, .int x] (zch h0 c) Q := by
  refine zm_enter2 (zfl_cons rfl (zfl_cons rfl zfl_nil)) rfl ?_
  show zm_wp _ 2 0 [.ref 4, .int x, zm_un] [] (zch h0 c) Q
  refine wx_iload_n kc2_0 rfl rfl ?_
  refine wx_iconst (nI 1) kc2_1 (by decide) ?_
  refine wx_icmp_lt kc2_2 (fun hq2 => ?_) (fun hq2 => ?_)
  · skip
    refine wx_aconst_null kc2_14 ?_
    refine wx_areturn kc2_15 rfl rfl rfl ?_
    refine hno (fun g g1 g2 g3 hh => ?_)
    first | (have := (nI_eq (by omega) (by omega)).mp hh; subst this; omega) | (subst hh; exact absurd ((nI_ltI (by omega) (by omega)).mp hq2) (by omega)) | (subst hh; exact hq11 ((nI_leI (by omega) (by omega)).mpr g2))
  · skip
    refine wx_iload_n kc2_5 rfl rfl ?_
    refine wx_aload_n kc2_6 rfl rfl ?_
    refine wc_get 4 2 (.ref 5) hS kc2_7 rfl rfl rfl rfl ?_
    refine wc_len 5 205 40 hS kc2_10 rfl rfl rfl rfl ?_
    refine wx_icmp_le kc2_11 (fun hq11 => ?_) (fun hq11 => ?_)
    · skip
      obtain ⟨f, hf1, hf2, rfl⟩ := zi_of 1 40 (by decide) (by decide) hq2 (Int32.not_lt.mpr hq11)
      refine wx_aload_n kc2_16 rfl rfl ?_
      refine wc_get 4 2 (.ref 5) hS kc2_17 rfl rfl rfl rfl ?_
      refine wx_iload_n kc2_20 rfl rfl ?_
      refine wx_iconst (nI 1) kc2_21 (by decide) ?_
      refine wn_isub (f - 1) kc2_22 (by omega) ?_
      refine wc_all hS kc2_23 (by omega) ?_
      rw [Nat.sub_add_cancel hf1]
      refine wx_astore_n (ls' := [.ref 4, .int (nI f), zrF f]) kc2_24 (zrF_k _) rfl rfl rfl ?_
      refine wx_aload_n kc2_25 rfl (zrF_k _) ?_
      refine wcF_null kc2_26 (fun z => absurd z (by omega)) (fun _ => ?_)
      refine wx_aload_n kc2_29 rfl (zrF_k _) ?_
      refine wcF_get (.int (nI (c 2 f))) hS kc2_30 (by omega) (by omega) rfl ?_
      have hb33_1 : c 2 f ≤ 3 := hI 2 f
      refine wn_if_ne kc2_33 (by omega) (fun hq33 => ?_) (fun hq33 => ?_)
      · skip
        refine wx_aload_n kc2_40 rfl (zrF_k _) ?_
        refine wx_areturn kc2_41 (zrF_k _) rfl (zrF_fo _ _) ?_
        exact hyes f hf1 hf2 (by omega) rfl
      · skip
        refine wx_aconst_null kc2_36 ?_
        refine wx_goto kc2_37 ?_
        refine wx_areturn kc2_41 rfl rfl rfl ?_
        refine hno (fun g g1 g2 g3 hh => ?_)
        first | (have := (nI_eq (by omega) (by omega)).mp hh; subst this; omega) | (subst hh; exact absurd ((nI_ltI (by omega) (by omega)).mp hq2) (by omega)) | (subst hh; exact hq11 ((nI_leI (by omega) (by omega)).mpr g2))
    · skip
      refine wx_aconst_null kc2_14 ?_
      refine wx_areturn kc2_15 rfl rfl rfl ?_
      refine hno (fun g g1 g2 g3 hh => ?_)
      first | (have := (nI_eq (by omega) (by omega)).mp hh; subst this; omega) | (subst hh; exact absurd ((nI_ltI (by omega) (by omega)).mp hq2) (by omega)) | (subst hh; exact hq11 ((nI_leI (by omega) (by omega)).mpr g2))
def zcx (c : Nat → Nat → Nat) : Nat → Nat → Nat
  | 0, _ => 0
  | n + 1, f => if c 2 f = 0 then f else zcx c n (f + 1)
theorem lL_absent {d : Nat} {h0 : zm_H} {c : Nat → Nat → Nat} {Q : Option Value → zm_H → Prop}  (hS : zCS h0) (hI : zCI c) (hq : Q (some (zrF (zcx c 40 1))) (zch h0 c)) : ∀ (n i : Nat), i + n = 40 → ∀ v : Value, zcx c n (i + 1) = zcx c 40 1 → zm_wp (d + 0) 3 10 [.ref 4, .ref 5, .int (nI 40), .int (nI i), v] [] (zch h0 c) Q := by
  intro n
  induction n with
  | zero =>
    intro i hi
    intro v he
    refine wx_iload_n kc3_10 rfl rfl ?_
    refine wx_iload_n kc3_11 rfl rfl ?_
    refine wn_icmp_ge kc3_12 (by omega) (by decide) (fun hq12 => ?_) (fun hq12 => ?_)
    · skip
      refine wx_aconst_null kc3_42 ?_
      refine wx_areturn kc3_43 rfl rfl rfl ?_
      have e : zcx c 40 1 = 0 := he.symm
      rw [e] at hq
      exact hq
    · skip
      exact absurd hq12 (by omega)
  | succ n ih =>
    intro i hi
    intro v he
    refine wx_iload_n kc3_10 rfl rfl ?_
    refine wx_iload_n kc3_11 rfl rfl ?_
    refine wn_icmp_ge kc3_12 (by omega) (by decide) (fun hq12 => ?_) (fun hq12 => ?_)
    · skip
      exact absurd hq12 (by omega)
    · skip
      have hb : c 2 (i + 1) ≤ 3 := hI 2 (i + 1)
      have he2 : (if c 2 (i + 1) = 0 then i + 1 else zcx c n (i + 1 + 1)) = zcx c 40 1 := he
      refine wx_aload_n kc3_15 rfl rfl ?_
      refine wx_iload_n kc3_16 rfl rfl ?_
      refine wc_all hS kc3_17 (by omega) ?_
      refine wx_astore (ls' := [.ref 4, .ref 5, .int (nI 40), .int (nI i), zrF (i + 1)]) kc3_18 (zrF_k _) rfl rfl rfl ?_
      refine wx_aload kc3_20 rfl (zrF_k _) ?_
      refine wcF_null kc3_22 (fun z => absurd z (by omega)) (fun _ => ?_)
      refine wx_aload kc3_25 rfl (zrF_k _) ?_
      refine wcF_get (.int (nI (c 2 (i + 1)))) hS kc3_27 (by omega) (by omega) rfl ?_
      have hb30_1 : c 2 (i + 1) ≤ 3 := hI 2 (i + 1)
      refine wn_if_ne kc3_30 (by omega) (fun hq30 => ?_) (fun hq30 => ?_)
      · skip
        refine wn_iinc (i + 1) (ls' := [.ref 4, .ref 5, .int (nI 40), .int (nI (i + 1)), zrF (i + 1)]) kc3_36 rfl rfl rfl rfl rfl ?_
        refine wx_goto kc3_39 ?_
        rw [if_neg hq30] at he2
        exact ih (i + 1) (by omega) _ he2
      · skip
        refine wx_aload kc3_33 rfl (zrF_k _) ?_
        refine wx_areturn kc3_35 (zrF_k _) rfl (zrF_fo _ _) ?_
        rw [if_pos hq30] at he2
        rw [← he2] at hq
        exact hq
theorem cL_absent {d : Nat} {h0 : zm_H} {c : Nat → Nat → Nat} {Q : Option Value → zm_H → Prop}  (hS : zCS h0) (hI : zCI c) (hq : Q (some (zrF (zcx c 40 1))) (zch h0 c)) : zm_wc (d + 1) mL_absent [.ref 4] (zch h0 c) Q := by
  refine zm_enter2 (zfl_cons rfl zfl_nil) rfl ?_
  show zm_wp _ 3 0 [.ref 4, zm_un, zm_un, zm_un, zm_un] [] (zch h0 c) Q
  refine wx_aload_n kc3_0 rfl rfl ?_
  refine wc_get 4 2 (.ref 5) hS kc3_1 rfl rfl rfl rfl ?_
  refine wx_astore_n (ls' := [.ref 4, .ref 5, zm_un, zm_un, zm_un]) kc3_4 rfl rfl rfl rfl ?_
  refine wx_aload_n kc3_5 rfl rfl ?_
  refine wc_len 5 205 40 hS kc3_6 rfl rfl rfl rfl ?_
  refine wx_istore_n (ls' := [.ref 4, .ref 5, .int (nI 40), zm_un, zm_un]) kc3_7 rfl rfl rfl rfl ?_
  refine wx_iconst (nI 0) kc3_8 (by decide) ?_
  refine wx_istore_n (ls' := [.ref 4, .ref 5, .int (nI 40), .int (nI 0), zm_un]) kc3_9 rfl rfl rfl rfl ?_
  exact lL_absent hS hI hq 40 0 (by omega) _ rfl
theorem lL_present {d : Nat} {h0 : zm_H} {c : Nat → Nat → Nat} {Q : Option Value → zm_H → Prop}  (hS : zCS h0) (hI : zCI c) (hq : Q (some (.int (nI (zsum (fun k => if c 2 (k + 1) ≠ 0 then 1 else 0) 40)))) (zch h0 c)) : ∀ (n i : Nat), i + n = 40 → ∀ v : Value, zm_wp (d + 0) 4 13 [.ref 4, .int (nI (zsum (fun k => if c 2 (k + 1) ≠ 0 then 1 else 0) i)), .ref 5, .int (nI 40), .int (nI i), v] [] (zch h0 c) Q := by
  intro n
  induction n with
  | zero =>
    intro i hi
    intro v
    have hz := zsum_le (g := fun k => if c 2 (k + 1) ≠ 0 then 1 else 0) (b := 1) i (fun k _ => by split <;> omega)
    refine wx_iload kc4_13 rfl rfl ?_
    refine wx_iload_n kc4_15 rfl rfl ?_
    refine wn_icmp_ge kc4_16 (by omega) (by decide) (fun hq16 => ?_) (fun hq16 => ?_)
    · skip
      refine wx_iload_n kc4_47 rfl rfl ?_
      refine wx_ireturn kc4_48 rfl rfl ?_
      obtain rfl : i = 40 := by omega
      exact hq
    · skip
      exact absurd hq16 (by omega)
  | succ n ih =>
    intro i hi
    intro v
    have hz := zsum_le (g := fun k => if c 2 (k + 1) ≠ 0 then 1 else 0) (b := 1) i (fun k _ => by split <;> omega)
    refine wx_iload kc4_13 rfl rfl ?_
    refine wx_iload_n kc4_15 rfl rfl ?_
    refine wn_icmp_ge kc4_16 (by omega) (by decide) (fun hq16 => ?_) (fun hq16 => ?_)
    · skip
      exact absurd hq16 (by omega)
    · skip
      refine wx_aload_n kc4_19 rfl rfl ?_
      refine wx_iload kc4_20 rfl rfl ?_
      refine wc_all hS kc4_22 (by omega) ?_
      refine wx_astore (ls' := [.ref 4, .int (nI (zsum (fun k => if c 2 (k + 1) ≠ 0 then 1 else 0) i)), .ref 5, .int (nI 40), .int (nI i), zrF (i + 1)]) kc4_23 (zrF_k _) rfl rfl rfl ?_
      refine wx_aload kc4_25 rfl (zrF_k _) ?_
      refine wcF_null kc4_27 (fun z => absurd z (by omega)) (fun _ => ?_)
      refine wx_aload kc4_30 rfl (zrF_k _) ?_
      refine wcF_get (.int (nI (c 2 (i + 1)))) hS kc4_32 (by omega) (by omega) rfl ?_
      have hb35_1 : c 2 (i + 1) ≤ 3 := hI 2 (i + 1)
      refine wn_if_eq kc4_35 (by omega) (fun hq35 => ?_) (fun hq35 => ?_)
      · skip
        refine wn_iinc (i + 1) (ls' := [.ref 4, .int (nI (zsum (fun k => if c 2 (k + 1) ≠ 0 then 1 else 0) i)), .ref 5, .int (nI 40), .int (nI (i + 1)), zrF (i + 1)]) kc4_41 rfl rfl rfl rfl rfl ?_
        refine wx_goto kc4_44 ?_
        have he : zsum (fun k => if c 2 (k + 1) ≠ 0 then 1 else 0) (i + 1) = (zsum (fun k => if c 2 (k + 1) ≠ 0 then 1 else 0) i) := by
          show zsum (fun k => if c 2 (k + 1) ≠ 0 then 1 else 0) i + (if c 2 (i + 1) ≠ 0 then 1 else 0) = _
          first | rfl | (rw [if_pos (by omega)]; done) | (rw [if_neg (by omega)]; rfl) | (rw [if_pos ⟨by omega, by omega⟩]; done)
        have hih := ih (i + 1) (by omega) (zrF (i + 1))
        rw [he] at hih
        exact hih
      · skip
        refine wn_iinc ((zsum (fun k => if c 2 (k + 1) ≠ 0 then 1 else 0) i) + 1) (ls' := [.ref 4, .int (nI ((zsum (fun k => if c 2 (k + 1) ≠ 0 then 1 else 0) i) + 1)), .ref 5, .int (nI 40), .int (nI i), zrF (i + 1)]) kc4_38 rfl rfl rfl rfl rfl ?_
        refine wn_iinc (i + 1) (ls' := [.ref 4, .int (nI ((zsum (fun k => if c 2 (k + 1) ≠ 0 then 1 else 0) i) + 1)), .ref 5, .int (nI 40), .int (nI (i + 1)), zrF (i + 1)]) kc4_41 rfl rfl rfl rfl rfl ?_
        refine wx_goto kc4_44 ?_
        have he : zsum (fun k => if c 2 (k + 1) ≠ 0 then 1 else 0) (i + 1) = (zsum (fun k => if c 2 (k + 1) ≠ 0 then 1 else 0) i) + 1 := by
          show zsum (fun k => if c 2 (k + 1) ≠ 0 then 1 else 0) i + (if c 2 (i + 1) ≠ 0 then 1 else 0) = _
          first | rfl | (rw [if_pos (by omega)]; done) | (rw [if_neg (by omega)]; rfl) | (rw [if_pos ⟨by omega, by omega⟩]; done)
        have hih := ih (i + 1) (by omega) (zrF (i + 1))
        rw [he] at hih
        exact hih
theorem cL_present {d : Nat} {h0 : zm_H} {c : Nat → Nat → Nat} {Q : Option Value → zm_H → Prop}  (hS : zCS h0) (hI : zCI c) (hq : Q (some (.int (nI (zsum (fun k => if c 2 (k + 1) ≠ 0 then 1 else 0) 40)))) (zch h0 c)) : zm_wc (d + 1) mL_present [.ref 4] (zch h0 c) Q := by
  refine zm_enter2 (zfl_cons rfl zfl_nil) rfl ?_
  show zm_wp _ 4 0 [.ref 4, zm_un, zm_un, zm_un, zm_un, zm_un] [] (zch h0 c) Q
  refine wx_iconst (nI 0) kc4_0 (by decide) ?_
  refine wx_istore_n (ls' := [.ref 4, .int (nI 0), zm_un, zm_un, zm_un, zm_un]) kc4_1 rfl rfl rfl rfl ?_
  refine wx_aload_n kc4_2 rfl rfl ?_
  refine wc_get 4 2 (.ref 5) hS kc4_3 rfl rfl rfl rfl ?_
  refine wx_astore_n (ls' := [.ref 4, .int (nI 0), .ref 5, zm_un, zm_un, zm_un]) kc4_6 rfl rfl rfl rfl ?_
  refine wx_aload_n kc4_7 rfl rfl ?_
  refine wc_len 5 205 40 hS kc4_8 rfl rfl rfl rfl ?_
  refine wx_istore_n (ls' := [.ref 4, .int (nI 0), .ref 5, .int (nI 40), zm_un, zm_un]) kc4_9 rfl rfl rfl rfl ?_
  refine wx_iconst (nI 0) kc4_10 (by decide) ?_
  refine wx_istore (ls' := [.ref 4, .int (nI 0), .ref 5, .int (nI 40), .int (nI 0), zm_un]) kc4_11 rfl rfl rfl rfl ?_
  exact lL_present hS hI hq 40 0 (by omega) _
theorem zct_le {c : Nat → Nat → Nat} (hI : zCI c) (f : Nat) : zct c f ≤ 60 := by
  unfold zct
  have h6 : c 6 f ≤ 60 := hI 6 f
  have h7 := zft_le h6
  split
  · omega
  split
  · omega
  split
  · split <;> omega
  · omega
theorem lL_taken {d : Nat} {h0 : zm_H} {c : Nat → Nat → Nat} {Q : Option Value → zm_H → Prop}  (hS : zCS h0) (hI : zCI c) (hq : Q (some (.int (nI (zsum (fun k => zct c (k + 1)) 40)))) (zch h0 c)) : ∀ (n i : Nat), i + n = 40 → ∀ v : Value, zm_wp (d + 2) 5 13 [.ref 4, .int (nI (zsum (fun k => zct c (k + 1)) i)), .ref 5, .int (nI 40), .int (nI i), v] [] (zch h0 c) Q := by
  intro n
  induction n with
  | zero =>
    intro i hi
    intro v
    have hz := zsum_le (g := fun k => zct c (k + 1)) (b := 60) i (fun k _ => zct_le hI (k + 1))
    refine wx_iload kc5_13 rfl rfl ?_
    refine wx_iload_n kc5_15 rfl rfl ?_
    refine wn_icmp_ge kc5_16 (by omega) (by decide) (fun hq16 => ?_) (fun hq16 => ?_)
    · skip
      refine wx_iload_n kc5_44 rfl rfl ?_
      refine wx_ireturn kc5_45 rfl rfl ?_
      obtain rfl : i = 40 := by omega
      exact hq
    · skip
      exact absurd hq16 (by omega)
  | succ n ih =>
    intro i hi
    intro v
    have hz := zsum_le (g := fun k => zct c (k + 1)) (b := 60) i (fun k _ => zct_le hI (k + 1))
    refine wx_iload kc5_13 rfl rfl ?_
    refine wx_iload_n kc5_15 rfl rfl ?_
    refine wn_icmp_ge kc5_16 (by omega) (by decide) (fun hq16 => ?_) (fun hq16 => ?_)
    · skip
      exact absurd hq16 (by omega)
    · skip
      refine wx_aload_n kc5_19 rfl rfl ?_
      refine wx_iload kc5_20 rfl rfl ?_
      refine wc_all hS kc5_22 (by omega) ?_
      refine wx_astore (ls' := [.ref 4, .int (nI (zsum (fun k => zct c (k + 1)) i)), .ref 5, .int (nI 40), .int (nI i), zrF (i + 1)]) kc5_23 (zrF_k _) rfl rfl rfl ?_
      refine wx_aload kc5_25 rfl (zrF_k _) ?_
      refine wcF_null kc5_27 (fun z => absurd z (by omega)) (fun _ => ?_)
      refine wx_iload_n kc5_30 rfl rfl ?_
      refine wx_aload kc5_31 rfl (zrF_k _) ?_
      have ht := zct_le hI (i + 1)
      refine wcF_call hS kc5_33 rfl rfl (by omega) (by omega) rfl ?_
      refine cF_takes hS hI (by omega) (by omega) ?_
      show zm_wp _ 5 36 [.ref 4, .int (nI (zsum (fun k => zct c (k + 1)) i)), .ref 5, .int (nI 40), .int (nI i), zrF (i + 1)] [.int (nI (zct c (i + 1))), .int (nI (zsum (fun k => zct c (k + 1)) i))] (zch h0 c) _
      refine wn_iadd ((zsum (fun k => zct c (k + 1)) i) + (zct c (i + 1))) kc5_36 rfl ?_
      refine wx_istore_n (ls' := [.ref 4, .int (nI ((zsum (fun k => zct c (k + 1)) i) + (zct c (i + 1)))), .ref 5, .int (nI 40), .int (nI i), zrF (i + 1)]) kc5_37 rfl rfl rfl rfl ?_
      refine wn_iinc (i + 1) (ls' := [.ref 4, .int (nI ((zsum (fun k => zct c (k + 1)) i) + (zct c (i + 1)))), .ref 5, .int (nI 40), .int (nI (i + 1)), zrF (i + 1)]) kc5_38 rfl rfl rfl rfl rfl ?_
      refine wx_goto kc5_41 ?_
      have he : zsum (fun k => zct c (k + 1)) (i + 1) = ((zsum (fun k => zct c (k + 1)) i) + (zct c (i + 1))) := by
        show zsum (fun k => zct c (k + 1)) i + zct c (i + 1) = _
        first | rfl | (rw [if_pos (by omega)]; done) | (rw [if_neg (by omega)]; rfl) | (rw [if_pos ⟨by omega, by omega⟩]; done)
      have hih := ih (i + 1) (by omega) (zrF (i + 1))
      rw [he] at hih
      exact hih
theorem cL_taken {d : Nat} {h0 : zm_H} {c : Nat → Nat → Nat} {Q : Option Value → zm_H → Prop}  (hS : zCS h0) (hI : zCI c) (hq : Q (some (.int (nI (zsum (fun k => zct c (k + 1)) 40)))) (zch h0 c)) : zm_wc (d + 3) mL_taken [.ref 4] (zch h0 c) Q := by
  refine zm_enter2 (zfl_cons rfl zfl_nil) rfl ?_
  show zm_wp _ 5 0 [.ref 4, zm_un, zm_un, zm_un, zm_un, zm_un] [] (zch h0 c) Q
  refine wx_iconst (nI 0) kc5_0 (by decide) ?_
  refine wx_istore_n (ls' := [.ref 4, .int (nI 0), zm_un, zm_un, zm_un, zm_un]) kc5_1 rfl rfl rfl rfl ?_
  refine wx_aload_n kc5_2 rfl rfl ?_
  refine wc_get 4 2 (.ref 5) hS kc5_3 rfl rfl rfl rfl ?_
  refine wx_astore_n (ls' := [.ref 4, .int (nI 0), .ref 5, zm_un, zm_un, zm_un]) kc5_6 rfl rfl rfl rfl ?_
  refine wx_aload_n kc5_7 rfl rfl ?_
  refine wc_len 5 205 40 hS kc5_8 rfl rfl rfl rfl ?_
  refine wx_istore_n (ls' := [.ref 4, .int (nI 0), .ref 5, .int (nI 40), zm_un, zm_un]) kc5_9 rfl rfl rfl rfl ?_
  refine wx_iconst (nI 0) kc5_10 (by decide) ?_
  refine wx_istore (ls' := [.ref 4, .int (nI 0), .ref 5, .int (nI 40), .int (nI 0), zm_un]) kc5_11 rfl rfl rfl rfl ?_
  exact lL_taken hS hI hq 40 0 (by omega) _
theorem lL_foldersIn {d : Nat} {h0 : zm_H} {c : Nat → Nat → Nat} {Q : Option Value → zm_H → Prop} {g : Nat} (hS : zCS h0) (hI : zCI c) (hq : Q (some (.int (nI (zsum (fun k => if k ≠ 0 ∧ c 7 (k + 1) = g then 1 else 0) 40)))) (zch h0 c)) : ∀ (n i : Nat), i + n = 40 → ∀ v : Value, zm_wp (d + 0) 6 14 [.ref 4, zrF g, .int (nI (zsum (fun k => if k ≠ 0 ∧ c 7 (k + 1) = g then 1 else 0) i)), .ref 5, .int (nI 40), .int (nI i), v] [] (zch h0 c) Q := by
  intro n
  induction n with
  | zero =>
    intro i hi
    intro v
    have hz := zsum_le (g := fun k => if k ≠ 0 ∧ c 7 (k + 1) = g then 1 else 0) (b := 1) i (fun k _ => by split <;> omega)
    refine wx_iload kc6_14 rfl rfl ?_
    refine wx_iload kc6_16 rfl rfl ?_
    refine wn_icmp_ge kc6_18 (by omega) (by decide) (fun hq18 => ?_) (fun hq18 => ?_)
    · skip
      refine wx_iload_n kc6_59 rfl rfl ?_
      refine wx_ireturn kc6_60 rfl rfl ?_
      obtain rfl : i = 40 := by omega
      exact hq
    · skip
      exact absurd hq18 (by omega)
  | succ n ih =>
    intro i hi
    intro v
    have hz := zsum_le (g := fun k => if k ≠ 0 ∧ c 7 (k + 1) = g then 1 else 0) (b := 1) i (fun k _ => by split <;> omega)
    refine wx_iload kc6_14 rfl rfl ?_
    refine wx_iload kc6_16 rfl rfl ?_
    refine wn_icmp_ge kc6_18 (by omega) (by decide) (fun hq18 => ?_) (fun hq18 => ?_)
    · skip
      exact absurd hq18 (by omega)
    · skip
      have hb7 : c 7 (i + 1) ≤ 40 := hI 7 (i + 1)
      refine wx_aload_n kc6_21 rfl rfl ?_
      refine wx_iload kc6_22 rfl rfl ?_
      refine wc_all hS kc6_24 (by omega) ?_
      refine wx_astore (ls' := [.ref 4, zrF g, .int (nI (zsum (fun k => if k ≠ 0 ∧ c 7 (k + 1) = g then 1 else 0) i)), .ref 5, .int (nI 40), .int (nI i), zrF (i + 1)]) kc6_25 (zrF_k _) rfl rfl rfl ?_
      refine wx_aload kc6_27 rfl (zrF_k _) ?_
      refine wcF_null kc6_29 (fun z => absurd z (by omega)) (fun _ => ?_)
      refine wx_aload kc6_32 rfl (zrF_k _) ?_
      refine wx_aload_n kc6_34 rfl rfl ?_
      refine wc_get 4 2 (zrF 1) hS kc6_35 rfl rfl rfl rfl ?_
      refine wcF_eq kc6_38 (fun hq38 => ?_) (fun hq38 => ?_)
      · skip
        refine wn_iinc (i + 1) (ls' := [.ref 4, zrF g, .int (nI (zsum (fun k => if k ≠ 0 ∧ c 7 (k + 1) = g then 1 else 0) i)), .ref 5, .int (nI 40), .int (nI (i + 1)), zrF (i + 1)]) kc6_53 rfl rfl rfl rfl rfl ?_
        refine wx_goto kc6_56 ?_
        have he : zsum (fun k => if k ≠ 0 ∧ c 7 (k + 1) = g then 1 else 0) (i + 1) = (zsum (fun k => if k ≠ 0 ∧ c 7 (k + 1) = g then 1 else 0) i) := by
          show zsum (fun k => if k ≠ 0 ∧ c 7 (k + 1) = g then 1 else 0) i + (if i ≠ 0 ∧ c 7 (i + 1) = g then 1 else 0) = _
          first | rfl | (rw [if_pos (by omega)]; done) | (rw [if_neg (by omega)]; rfl) | (rw [if_pos ⟨by omega, by omega⟩]; done)
        have hih := ih (i + 1) (by omega) (zrF (i + 1))
        rw [he] at hih
        exact hih
      · skip
        refine wx_aload kc6_41 rfl (zrF_k _) ?_
        refine wcF_get (zrF (c 7 (i + 1))) hS kc6_43 (by omega) (by omega) rfl ?_
        have hb46_1 : c 7 (i + 1) ≤ 40 := hI 7 (i + 1)
        refine wx_aload_n kc6_46 rfl (zrF_k _) ?_
        refine wcF_ne kc6_47 (fun hq47 => ?_) (fun hq47 => ?_)
        · skip
          refine wn_iinc (i + 1) (ls' := [.ref 4, zrF g, .int (nI (zsum (fun k => if k ≠ 0 ∧ c 7 (k + 1) = g then 1 else 0) i)), .ref 5, .int (nI 40), .int (nI (i + 1)), zrF (i + 1)]) kc6_53 rfl rfl rfl rfl rfl ?_
          refine wx_goto kc6_56 ?_
          have he : zsum (fun k => if k ≠ 0 ∧ c 7 (k + 1) = g then 1 else 0) (i + 1) = (zsum (fun k => if k ≠ 0 ∧ c 7 (k + 1) = g then 1 else 0) i) := by
            show zsum (fun k => if k ≠ 0 ∧ c 7 (k + 1) = g then 1 else 0) i + (if i ≠ 0 ∧ c 7 (i + 1) = g then 1 else 0) = _
            first | rfl | (rw [if_pos (by omega)]; done) | (rw [if_neg (by omega)]; rfl) | (rw [if_pos ⟨by omega, by omega⟩]; done)
          have hih := ih (i + 1) (by omega) (zrF (i + 1))
          rw [he] at hih
          exact hih
        · skip
          refine wn_iinc ((zsum (fun k => if k ≠ 0 ∧ c 7 (k + 1) = g then 1 else 0) i) + 1) (ls' := [.ref 4, zrF g, .int (nI ((zsum (fun k => if k ≠ 0 ∧ c 7 (k + 1) = g then 1 else 0) i) + 1)), .ref 5, .int (nI 40), .int (nI i), zrF (i + 1)]) kc6_50 rfl rfl (zrF_c1 _) rfl rfl ?_
          refine wn_iinc (i + 1) (ls' := [.ref 4, zrF g, .int (nI ((zsum (fun k => if k ≠ 0 ∧ c 7 (k + 1) = g then 1 else 0) i) + 1)), .ref 5, .int (nI 40), .int (nI (i + 1)), zrF (i + 1)]) kc6_53 rfl rfl rfl rfl rfl ?_
          refine wx_goto kc6_56 ?_
          have he : zsum (fun k => if k ≠ 0 ∧ c 7 (k + 1) = g then 1 else 0) (i + 1) = (zsum (fun k => if k ≠ 0 ∧ c 7 (k + 1) = g then 1 else 0) i) + 1 := by
            show zsum (fun k => if k ≠ 0 ∧ c 7 (k + 1) = g then 1 else 0) i + (if i ≠ 0 ∧ c 7 (i + 1) = g then 1 else 0) = _
            first | rfl | (rw [if_pos (by omega)]; done) | (rw [if_neg (by omega)]; rfl) | (rw [if_pos ⟨by omega, by omega⟩]; done)
          have hih := ih (i + 1) (by omega) (zrF (i + 1))
          rw [he] at hih
          exact hih
theorem cL_foldersIn {d : Nat} {h0 : zm_H} {c : Nat → Nat → Nat} {Q : Option Value → zm_H → Prop} {g : Nat} (hS : zCS h0) (hI : zCI c) (hq : Q (some (.int (nI (zsum (fun k => if k ≠ 0 ∧ c 7 (k + 1) = g then 1 else 0) 40)))) (zch h0 c)) : zm_wc (d + 1) mL_foldersIn [.ref 4, zrF g] (zch h0 c) Q := by
  refine zm_enter2 (zfl_cons rfl (zfl_cons (zrF_c1 _) zfl_nil)) rfl ?_
  show zm_wp _ 6 0 [.ref 4, zrF g, zm_un, zm_un, zm_un, zm_un, zm_un] [] (zch h0 c) Q
  refine wx_iconst (nI 0) kc6_0 (by decide) ?_
  refine wx_istore_n (ls' := [.ref 4, zrF g, .int (nI 0), zm_un, zm_un, zm_un, zm_un]) kc6_1 rfl rfl (zrF_c1 _) rfl ?_
  refine wx_aload_n kc6_2 rfl rfl ?_
  refine wc_get 4 2 (.ref 5) hS kc6_3 rfl rfl rfl rfl ?_
  refine wx_astore_n (ls' := [.ref 4, zrF g, .int (nI 0), .ref 5, zm_un, zm_un, zm_un]) kc6_6 rfl rfl rfl rfl ?_
  refine wx_aload_n kc6_7 rfl rfl ?_
  refine wc_len 5 205 40 hS kc6_8 rfl rfl rfl rfl ?_
  refine wx_istore (ls' := [.ref 4, zrF g, .int (nI 0), .ref 5, .int (nI 40), zm_un, zm_un]) kc6_9 rfl rfl rfl rfl ?_
  refine wx_iconst (nI 0) kc6_11 (by decide) ?_
  refine wx_istore (ls' := [.ref 4, zrF g, .int (nI 0), .ref 5, .int (nI 40), .int (nI 0), zm_un]) kc6_12 rfl rfl rfl rfl ?_
  exact lL_foldersIn hS hI hq 40 0 (by omega) _
