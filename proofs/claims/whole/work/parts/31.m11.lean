theorem zmtk_ge {s : Nat → Nat → Nat} (h : 0 ≤ zmtk s) (hT : s 0 1 ≤ 1200) : ∃ z, z < s 0 1 ∧ zmtk s = nI z ∧ (zmtk s).toNatClampNeg = z := by
  rcases zmtk_cs s with ⟨h1, _⟩ | ⟨z, h1, h2, _⟩ | ⟨h1, _⟩
  · rw [h1] at h
    exact absurd h (by decide)
  · exact ⟨z, h1, h2, by rw [h2]; exact nI_clamp (by omega)⟩
  · rw [h1] at h
    exact absurd h (by decide)
theorem zge_0 {a : Int32} (h : a = 0 ∨ a < 0) (h2 : 0 ≤ a) : a = 0 := h.elim id (fun z => absurd z (Int32.not_lt.mpr h2))
theorem zsNew_cs (s : Nat → Nat → Nat) (kind more dd : Nat) (w : List Nat) : (zsNew s kind more dd w).1 < 0 ∨ ((zsNew s kind more dd w).1 = nI (zfx s 39 2) ∧ zfx s 39 2 ≤ 40) := by
  unfold zsNew
  split
  · exact Or.inl (show (-7 : Int32) < 0 by decide)
  · next hn => exact Or.inr ⟨rfl, by omega⟩
theorem znge {a : Int32} (h : ¬ 0 ≤ a) : a ≠ 0 := fun z => h (by rw [z]; decide)
theorem eM_find {d : Nat} {h0 : zm_H} {s : Nat → Nat → Nat} {Q : Option Value → zm_H → Prop} {fo : Nat} (hS : zMS h0) (hI : zMI s) (hl : ∀ g, g ≤ 40 → s 3 g = 3 → 1 ≤ s 6 g) (hfo : fo ≤ 1) (hq : ∀ t, zPE (zsFind s fo).2 t → zMI t → Q (some (.int (zsFind s fo).1)) (zmh h0 t)) : zm_wc (d + 4) mM_find [.ref 194, .int (nI fo)] (zmh h0 s) Q := by
  refine zm_enter (Nat.le_of_ble_eq_true rfl) ?_
  show zm_wp _ 102 0 [.ref 194, .int (nI fo), zm_un, zm_un] [] (zmh h0 s) Q
  have hB := zMIb hI
  have hT : s 0 1 ≤ 1200 := hI 0 1
  refine wx_aload_n kc102_0 rfl rfl ?_
  refine wx_virtual kc102_1 rfl (zmh_is hS 194 8 (by decide) (by decide) rfl) rfl ?_
  refine dM_take hS hI ?_
  intro t0 k0
  show zm_wp _ 102 4 [.ref 194, .int (nI fo), zm_un, zm_un] [.int (zmtk s)] (zmh h0 t0) _
  have hB0 := zMIb k0.2.1
  refine wx_istore_n (ls' := [.ref 194, .int (nI fo), .int (zmtk s), zm_un]) kc102_4 rfl rfl rfl rfl ?_
  refine wx_iload_n kc102_5 rfl rfl ?_
  refine wx_iconst (-1) kc102_6 (by decide) ?_
  refine wx_icmp_eq kc102_7 (fun hq7 => ?_) (fun hq7 => ?_)
  · skip
    refine wx_aload_n kc102_12 rfl rfl ?_
    refine wx_iconst (nI 0) kc102_13 (by decide) ?_
    refine wx_aload_n kc102_14 rfl rfl ?_
    refine wm_getf (.int (nI (s 0 1))) hS kc102_15 (congrArg (fun z => Value.int (nI z)) k0.2.2.2) ?_
    refine wx_iload_n kc102_18 rfl rfl ?_
    refine wx_virtual kc102_19 rfl (zmh_is hS 194 8 (by decide) (by decide) rfl) rfl ?_
    refine dM_walk hS k0 hT (by omega) hfo hl ?_
    intro t1 k1 w1
    show zm_wp _ 102 22 [.ref 194, .int (nI fo), .int (zmtk s), zm_un] [.int ((zwt (zt0 s) 0 (s 0 1) fo).1)] (zmh h0 t1) _
    have hB1 := zMIb k1.2.1
    refine wx_istore_n (ls' := [.ref 194, .int (nI fo), .int (zmtk s), .int ((zwt (zt0 s) 0 (s 0 1) fo).1)]) kc102_22 rfl rfl rfl rfl ?_
    refine wx_iload_n kc102_23 rfl rfl ?_
    refine wx_if_ge kc102_24 (fun hq24 => ?_) (fun hq24 => ?_)
    · skip
      have z1 : (zwt (zt0 s) 0 (s 0 1) fo).1 = 0 := zge_0 (zwt_cs _ _ _ _) hq24
      obtain ⟨a1, a2, a3⟩ := w1 z1
      have b20 : t1 0 20 ≤ 40 := k1.2.1 0 20
      have c3 := zPE_a k1.1 3 (t1 0 20) (by decide)
      have c5 := zPE_a k1.1 5 (t1 0 20) (by decide)
      refine wx_aload_n kc102_31 rfl rfl ?_
      refine wm_getf (.int (nI (t1 0 20))) hS kc102_32 rfl ?_
      have hb35_1 := hB1 0 20
      refine wn_if_ne kc102_35 (hB1 _ _) (fun hq35 => ?_) (fun hq35 => ?_)
      · skip
        refine wx_aload_n kc102_43 rfl rfl ?_
        refine wm_getf (.int (nI (t1 0 20))) hS kc102_44 rfl ?_
        have hb47_2 := hB1 0 20
        refine wx_ireturn kc102_47 rfl rfl ?_
        have e : zsFind s fo = ((nI (t1 0 20)), zt0 s) := by
          unfold zsFind
          rw [if_neg (fun z => z hq7)]
          unfold zsFnd
          rw [if_neg (Int32.not_lt.mpr hq24), if_neg (by omega), a1]
        rw [e] at hq
        exact hq _ k1.1 k1.2.1
      · skip
        refine wx_bipush (-2) kc102_38 (by decide) ?_
        refine wx_goto kc102_40 ?_
        refine wx_ireturn kc102_47 rfl rfl ?_
        have e : zsFind s fo = (-2, zt0 s) := by
          unfold zsFind
          rw [if_neg (fun z => z hq7)]
          unfold zsFnd
          rw [if_neg (Int32.not_lt.mpr hq24), if_pos (by omega)]
        rw [e] at hq
        exact hq _ k1.1 k1.2.1
    · skip
      refine wx_iload_n kc102_27 rfl rfl ?_
      refine wx_goto kc102_28 ?_
      refine wx_ireturn kc102_47 rfl rfl ?_
      have e : zsFind s fo = ((zwt (zt0 s) 0 (s 0 1) fo).1, zt0 s) := by
        unfold zsFind
        rw [if_neg (fun z => z hq7)]
        unfold zsFnd
        rw [if_pos (Int32.not_le.mp hq24)]
      rw [e] at hq
      exact hq _ k1.1 k1.2.1
  · skip
    refine wx_iconst (-1) kc102_10 (by decide) ?_
    refine wx_ireturn kc102_11 rfl rfl ?_
    have e : zsFind s fo = (-1, zt0 s) := by
      unfold zsFind
      rw [if_pos hq7]
    rw [e] at hq
    exact hq _ k0.1 k0.2.1
theorem eM_hold {d : Nat} {h0 : zm_H} {s : Nat → Nat → Nat} {Q : Option Value → zm_H → Prop}  (hS : zMS h0) (hI : zMI s) (hl : ∀ g, g ≤ 40 → s 3 g = 3 → 1 ≤ s 6 g) (h100 : ∀ g, s 5 g ≤ 100) (hq : ∀ t, zPE (zsHold s).2 t → zMI t → Q (some (.int (zsHold s).1)) (zmh h0 t)) : zm_wc (d + 4) mM_hold [.ref 194] (zmh h0 s) Q := by
  refine zm_enter (Nat.le_of_ble_eq_true rfl) ?_
  show zm_wp _ 103 0 [.ref 194, zm_un, zm_un] [] (zmh h0 s) Q
  have hB := zMIb hI
  have hT : s 0 1 ≤ 1200 := hI 0 1
  refine wx_aload_n kc103_0 rfl rfl ?_
  refine wx_virtual kc103_1 rfl (zmh_is hS 194 8 (by decide) (by decide) rfl) rfl ?_
  refine dM_take hS hI ?_
  intro t0 k0
  show zm_wp _ 103 4 [.ref 194, zm_un, zm_un] [.int (zmtk s)] (zmh h0 t0) _
  have hB0 := zMIb k0.2.1
  refine wx_istore_n (ls' := [.ref 194, .int (zmtk s), zm_un]) kc103_4 rfl rfl rfl rfl ?_
  refine wx_iload_n kc103_5 rfl rfl ?_
  refine wx_iconst (-1) kc103_6 (by decide) ?_
  refine wx_icmp_eq kc103_7 (fun hq7 => ?_) (fun hq7 => ?_)
  · skip
    refine wx_aload_n kc103_12 rfl rfl ?_
    refine wx_iconst (nI 0) kc103_13 (by decide) ?_
    refine wx_aload_n kc103_14 rfl rfl ?_
    refine wm_getf (.int (nI (s 0 1))) hS kc103_15 (congrArg (fun z => Value.int (nI z)) k0.2.2.2) ?_
    refine wx_iconst (nI 1) kc103_18 (by decide) ?_
    refine wx_virtual kc103_19 rfl (zmh_is hS 194 8 (by decide) (by decide) rfl) rfl ?_
    refine dM_walk hS k0 hT (by omega) (by decide) hl ?_
    intro t1 k1 w1
    show zm_wp _ 103 22 [.ref 194, .int (zmtk s), zm_un] [.int ((zwt (zt0 s) 0 (s 0 1) 1).1)] (zmh h0 t1) _
    have hB1 := zMIb k1.2.1
    refine wx_istore_n (ls' := [.ref 194, .int (zmtk s), .int ((zwt (zt0 s) 0 (s 0 1) 1).1)]) kc103_22 rfl rfl rfl rfl ?_
    refine wx_iload_n kc103_23 rfl rfl ?_
    refine wx_if_ge kc103_24 (fun hq24 => ?_) (fun hq24 => ?_)
    · skip
      have z1 : (zwt (zt0 s) 0 (s 0 1) 1).1 = 0 := zge_0 (zwt_cs _ _ _ _) hq24
      obtain ⟨a1, a2, a3⟩ := w1 z1
      have b20 : t1 0 20 ≤ 40 := k1.2.1 0 20
      have c3 := zPE_a k1.1 3 (t1 0 20) (by decide)
      have c5 := zPE_a k1.1 5 (t1 0 20) (by decide)
      refine wx_aload_n kc103_29 rfl rfl ?_
      refine wm_getf (.int (nI (t1 0 20))) hS kc103_30 rfl ?_
      have hb33_1 := hB1 0 20
      refine wn_if_ne kc103_33 (hB1 _ _) (fun hq33 => ?_) (fun hq33 => ?_)
      · skip
        refine wx_aload_n kc103_39 rfl rfl ?_
        refine wm_getf (.ref 197) hS kc103_40 rfl ?_
        refine wx_aload_n kc103_43 rfl rfl ?_
        refine wm_getf (.int (nI (t1 0 20))) hS kc103_44 rfl ?_
        have hb47_2 := hB1 0 20
        refine wm_iald 197 41 (t1 3 (t1 0 20)) hS kc103_47 rfl rfl rfl rfl (by omega) (fun _ => rfl) rfl ?_
        have hb48_3 := hB1 3 (t1 0 20)
        refine wx_iconst (nI 1) kc103_48 (by decide) ?_
        refine wn_icmp_ne kc103_49 (hB1 _ _) (by decide) (fun hq49 => ?_) (fun hq49 => ?_)
        · skip
          refine wx_iconst (-1) kc103_66 (by decide) ?_
          refine wx_ireturn kc103_67 rfl rfl ?_
          have e : zsHold s = (-1, zt0 s) := by
            unfold zsHold
            rw [if_neg (fun z => z hq7)]
            unfold zsHd1
            rw [if_neg (Int32.not_lt.mpr hq24), if_neg (by omega), ← a1, ← c3, ← c5, if_pos (by omega)]
          rw [e] at hq
          exact hq _ k1.1 k1.2.1
        · skip
          refine wx_aload_n kc103_52 rfl rfl ?_
          refine wm_getf (.ref 199) hS kc103_53 rfl ?_
          refine wx_aload_n kc103_56 rfl rfl ?_
          refine wm_getf (.int (nI (t1 0 20))) hS kc103_57 rfl ?_
          have hb60_4 := hB1 0 20
          refine wm_iald 199 41 (t1 5 (t1 0 20)) hS kc103_60 rfl rfl rfl rfl (by omega) (fun _ => rfl) rfl ?_
          have hb61_5 := hB1 5 (t1 0 20)
          refine wx_bipush (nI 100) kc103_61 (by decide) ?_
          refine wn_icmp_ne kc103_63 (hB1 _ _) (by decide) (fun hq63 => ?_) (fun hq63 => ?_)
          · skip
            refine wx_aload_n kc103_68 rfl rfl ?_
            refine wm_getf (.ref 199) hS kc103_69 rfl ?_
            refine wx_aload_n kc103_72 rfl rfl ?_
            refine wm_getf (.int (nI (t1 0 20))) hS kc103_73 rfl ?_
            have hb76_6 := hB1 0 20
            refine wx_dup2 kc103_76 rfl rfl ?_
            refine wm_iald 199 41 (t1 5 (t1 0 20)) hS kc103_77 rfl rfl rfl rfl (by omega) (fun _ => rfl) rfl ?_
            have hb78_7 := hB1 5 (t1 0 20)
            refine wx_iconst (nI 1) kc103_78 (by decide) ?_
            refine wn_iadd ((t1 5 (t1 0 20)) + 1) kc103_79 rfl ?_
            refine wm_iast (v := ((t1 5 (t1 0 20)) + 1)) 199 41 hS kc103_80 rfl rfl rfl rfl (by omega) rfl ?_
            refine wx_aload_n kc103_81 rfl rfl ?_
            refine wm_getf (.int (nI (t1 0 20))) hS kc103_82 rfl ?_
            refine wx_ireturn kc103_85 rfl rfl ?_
            have b5 : t1 5 (t1 0 20) ≤ 100 := by rw [c5]; exact h100 _
            have e1 := zPE_up k1.1 5 (t1 0 20) (t1 5 (t1 0 20) + 1)
            have e : zsHold s = (nI (t1 0 20), zup (zt0 s) 5 (t1 0 20) (t1 5 (t1 0 20) + 1)) := by
              unfold zsHold
              rw [if_neg (fun z => z hq7)]
              unfold zsHd1
              rw [if_neg (Int32.not_lt.mpr hq24), if_neg (by omega), ← a1, ← c3, ← c5, if_neg (by omega)]
            rw [e] at hq
            exact hq _ e1 (zMI_up k1.2.1 (show t1 5 (t1 0 20) + 1 ≤ 101 by omega))
          · skip
            refine wx_iconst (-1) kc103_66 (by decide) ?_
            refine wx_ireturn kc103_67 rfl rfl ?_
            have e : zsHold s = (-1, zt0 s) := by
              unfold zsHold
              rw [if_neg (fun z => z hq7)]
              unfold zsHd1
              rw [if_neg (Int32.not_lt.mpr hq24), if_neg (by omega), ← a1, ← c3, ← c5, if_pos (by omega)]
            rw [e] at hq
            exact hq _ k1.1 k1.2.1
      · skip
        refine wx_bipush (-2) kc103_36 (by decide) ?_
        refine wx_ireturn kc103_38 rfl rfl ?_
        have e : zsHold s = (-2, zt0 s) := by
          unfold zsHold
          rw [if_neg (fun z => z hq7)]
          unfold zsHd1
          rw [if_neg (Int32.not_lt.mpr hq24), if_pos (by omega)]
        rw [e] at hq
        exact hq _ k1.1 k1.2.1
    · skip
      refine wx_iload_n kc103_27 rfl rfl ?_
      refine wx_ireturn kc103_28 rfl rfl ?_
      have e : zsHold s = ((zwt (zt0 s) 0 (s 0 1) 1).1, zt0 s) := by
        unfold zsHold
        rw [if_neg (fun z => z hq7)]
        unfold zsHd1
        rw [if_pos (Int32.not_le.mp hq24)]
      rw [e] at hq
      exact hq _ k1.1 k1.2.1
  · skip
    refine wx_iconst (-1) kc103_10 (by decide) ?_
    refine wx_ireturn kc103_11 rfl rfl ?_
    have e : zsHold s = (-1, zt0 s) := by
      unfold zsHold
      rw [if_pos hq7]
    rw [e] at hq
    exact hq _ k0.1 k0.2.1
theorem eM_make {d : Nat} {h0 : zm_H} {s : Nat → Nat → Nat} {Q : Option Value → zm_H → Prop} {x : Int32} (hS : zMS h0) (hI : zMI s) (hl : ∀ g, g ≤ 40 → s 3 g = 3 → 1 ≤ s 6 g) (hq : ∀ t, zPE (zsMake s x).2 t → zMI t → Q (some (.int (zsMake s x).1)) (zmh h0 t)) : zm_wc (d + 5) mM_make [.ref 194, .int x] (zmh h0 s) Q := by
  refine zm_enter (Nat.le_of_ble_eq_true rfl) ?_
  show zm_wp _ 95 0 [.ref 194, .int x, zm_un, zm_un] [] (zmh h0 s) Q
  have hB := zMIb hI
  have hT : s 0 1 ≤ 1200 := hI 0 1
  refine wx_aload_n kc95_0 rfl rfl ?_
  refine wx_virtual kc95_1 rfl (zmh_is hS 194 8 (by decide) (by decide) rfl) rfl ?_
  refine dM_take hS hI ?_
  intro t0 k0
  show zm_wp _ 95 4 [.ref 194, .int x, zm_un, zm_un] [.int (zmtk s)] (zmh h0 t0) _
  have hB0 := zMIb k0.2.1
  refine wx_istore_n (ls' := [.ref 194, .int x, .int (zmtk s), zm_un]) kc95_4 rfl rfl rfl rfl ?_
  refine wx_iload_n kc95_5 rfl rfl ?_
  refine wx_iconst (nI 1) kc95_6 (by decide) ?_
  refine wx_icmp_eq kc95_7 (fun hq7 => ?_) (fun hq7 => ?_)
  · skip
    have hx : x = nI 1 := hq7
    subst hx
    refine wx_iload_n kc95_15 rfl rfl ?_
    refine wx_iconst (-1) kc95_16 (by decide) ?_
    refine wx_icmp_eq kc95_17 (fun hq17 => ?_) (fun hq17 => ?_)
    · skip
      refine wx_aload_n kc95_22 rfl rfl ?_
      refine wx_iconst (nI 0) kc95_23 (by decide) ?_
      refine wx_aload_n kc95_24 rfl rfl ?_
      refine wm_getf (.int (nI (s 0 1))) hS kc95_25 (congrArg (fun z => Value.int (nI z)) k0.2.2.2) ?_
      refine wx_virtual kc95_28 rfl (zmh_is hS 194 8 (by decide) (by decide) rfl) rfl ?_
      refine dM_walkToName hS k0 hT (by omega) hl ?_
      intro t1 k1 w1
      show zm_wp _ 95 31 [.ref 194, .int (nI 1), .int (zmtk s), zm_un] [.int (zna (zwt (zt0 s) 0 (s 0 1) 0))] (zmh h0 t1) _
      have hB1 := zMIb k1.2.1
      refine wx_istore_n (ls' := [.ref 194, .int (nI 1), .int (zmtk s), .int (zna (zwt (zt0 s) 0 (s 0 1) 0))]) kc95_31 rfl rfl rfl rfl ?_
      refine wx_iload_n kc95_32 rfl rfl ?_
      refine wx_if_ge kc95_33 (fun hq33 => ?_) (fun hq33 => ?_)
      · skip
        have z1 : zna (zwt (zt0 s) 0 (s 0 1) 0) = 0 := zge_0 (zna_cs (zwt_cs _ _ _ _)) hq33
        obtain ⟨a20, a17, a19, a18, aq, al, _⟩ := w1 z1
        refine wx_aload_n kc95_38 rfl rfl ?_
        refine wm_getf (.int (nI (t1 0 20))) hS kc95_39 rfl ?_
        have hb42_1 := hB1 0 20
        refine wn_if_le kc95_42 (hB1 _ _) (fun hq42 => ?_) (fun hq42 => ?_)
        · skip
          refine wx_aload_n kc95_50 rfl rfl ?_
          refine wx_iload_n kc95_51 rfl rfl ?_
          refine wx_iconst (nI 1) kc95_52 (by decide) ?_
          refine wx_virtual kc95_53 rfl (zmh_is hS 194 8 (by decide) (by decide) rfl) rfl ?_
          refine dM_newFile hS k1.1 k1.2.1 (by decide) (by decide) a17 a19 a18 aq al ?_
          intro t2 p2 m2 _
          show zm_wp _ 95 56 [.ref 194, .int (nI 1), .int (zmtk s), .int (zna (zwt (zt0 s) 0 (s 0 1) 0))] [.int ((zsNew (zt0 s) 1 1 (zwt (zt0 s) 0 (s 0 1) 0).2.2.1 (zwt (zt0 s) 0 (s 0 1) 0).2.2.2.1).1)] (zmh h0 t2) _
          refine wx_ireturn kc95_56 rfl rfl ?_
          have e : zsMake s (nI 1) = ((zsNew (zt0 s) 1 1 (zwt (zt0 s) 0 (s 0 1) 0).2.2.1 (zwt (zt0 s) 0 (s 0 1) 0).2.2.2.1).1, (zsNew (zt0 s) 1 1 (zwt (zt0 s) 0 (s 0 1) 0).2.2.1 (zwt (zt0 s) 0 (s 0 1) 0).2.2.2.1).2) := by
            unfold zsMake
            rw [if_neg (fun z => z.elim (fun y => y (by decide)) (fun y => y hq17))]
            rw [if_neg (fun z => z z1), if_neg (by omega)]
            rw [if_pos rfl]
          rw [e] at hq
          exact hq _ p2 m2
        · skip
          refine wx_bipush (-3) kc95_45 (by decide) ?_
          refine wx_goto kc95_47 ?_
          refine wx_ireturn kc95_56 rfl rfl ?_
          have e : zsMake s (nI 1) = (-3, zt0 s) := by
            unfold zsMake
            rw [if_neg (fun z => z.elim (fun y => y (by decide)) (fun y => y hq17))]
            rw [if_neg (fun z => z z1), if_pos (by omega)]
          rw [e] at hq
          exact hq _ k1.1 k1.2.1
      · skip
        refine wx_iload_n kc95_36 rfl rfl ?_
        refine wx_ireturn kc95_37 rfl rfl ?_
        have e : zsMake s (nI 1) = (zna (zwt (zt0 s) 0 (s 0 1) 0), zt0 s) := by
          unfold zsMake
          rw [if_neg (fun z => z.elim (fun y => y (by decide)) (fun y => y hq17))]
          rw [if_pos (znge hq33)]
        rw [e] at hq
        exact hq _ k1.1 k1.2.1
    · skip
      refine wx_iconst (-1) kc95_20 (by decide) ?_
      refine wx_ireturn kc95_21 rfl rfl ?_
      have e : zsMake s (nI 1) = (-1, zt0 s) := by
        unfold zsMake
        rw [if_pos (Or.inr hq17)]
      rw [e] at hq
      exact hq _ k0.1 k0.2.1
  · skip
    refine wx_iload_n kc95_10 rfl rfl ?_
    refine wx_iconst (nI 2) kc95_11 (by decide) ?_
    refine wx_icmp_ne kc95_12 (fun hq12 => ?_) (fun hq12 => ?_)
    · skip
      refine wx_iconst (-1) kc95_20 (by decide) ?_
      refine wx_ireturn kc95_21 rfl rfl ?_
      have e : zsMake s x = (-1, zt0 s) := by
        unfold zsMake
        rw [if_pos (Or.inl (fun z => z.elim hq7 hq12))]
      rw [e] at hq
      exact hq _ k0.1 k0.2.1
    · skip
      have hx : x = nI 2 := hq12
      subst hx
      refine wx_iload_n kc95_15 rfl rfl ?_
      refine wx_iconst (-1) kc95_16 (by decide) ?_
      refine wx_icmp_eq kc95_17 (fun hq17 => ?_) (fun hq17 => ?_)
      · skip
        refine wx_aload_n kc95_22 rfl rfl ?_
        refine wx_iconst (nI 0) kc95_23 (by decide) ?_
        refine wx_aload_n kc95_24 rfl rfl ?_
        refine wm_getf (.int (nI (s 0 1))) hS kc95_25 (congrArg (fun z => Value.int (nI z)) k0.2.2.2) ?_
        refine wx_virtual kc95_28 rfl (zmh_is hS 194 8 (by decide) (by decide) rfl) rfl ?_
        refine dM_walkToName hS k0 hT (by omega) hl ?_
        intro t1 k1 w1
        show zm_wp _ 95 31 [.ref 194, .int (nI 2), .int (zmtk s), zm_un] [.int (zna (zwt (zt0 s) 0 (s 0 1) 0))] (zmh h0 t1) _
        have hB1 := zMIb k1.2.1
        refine wx_istore_n (ls' := [.ref 194, .int (nI 2), .int (zmtk s), .int (zna (zwt (zt0 s) 0 (s 0 1) 0))]) kc95_31 rfl rfl rfl rfl ?_
        refine wx_iload_n kc95_32 rfl rfl ?_
        refine wx_if_ge kc95_33 (fun hq33 => ?_) (fun hq33 => ?_)
        · skip
          have z1 : zna (zwt (zt0 s) 0 (s 0 1) 0) = 0 := zge_0 (zna_cs (zwt_cs _ _ _ _)) hq33
          obtain ⟨a20, a17, a19, a18, aq, al, _⟩ := w1 z1
          refine wx_aload_n kc95_38 rfl rfl ?_
          refine wm_getf (.int (nI (t1 0 20))) hS kc95_39 rfl ?_
          have hb42_1 := hB1 0 20
          refine wn_if_le kc95_42 (hB1 _ _) (fun hq42 => ?_) (fun hq42 => ?_)
          · skip
            refine wx_aload_n kc95_50 rfl rfl ?_
            refine wx_iload_n kc95_51 rfl rfl ?_
            refine wx_iconst (nI 1) kc95_52 (by decide) ?_
            refine wx_virtual kc95_53 rfl (zmh_is hS 194 8 (by decide) (by decide) rfl) rfl ?_
            refine dM_newFile hS k1.1 k1.2.1 (by decide) (by decide) a17 a19 a18 aq al ?_
            intro t2 p2 m2 _
            show zm_wp _ 95 56 [.ref 194, .int (nI 2), .int (zmtk s), .int (zna (zwt (zt0 s) 0 (s 0 1) 0))] [.int ((zsNew (zt0 s) 2 1 (zwt (zt0 s) 0 (s 0 1) 0).2.2.1 (zwt (zt0 s) 0 (s 0 1) 0).2.2.2.1).1)] (zmh h0 t2) _
            refine wx_ireturn kc95_56 rfl rfl ?_
            have e : zsMake s (nI 2) = ((zsNew (zt0 s) 2 1 (zwt (zt0 s) 0 (s 0 1) 0).2.2.1 (zwt (zt0 s) 0 (s 0 1) 0).2.2.2.1).1, (zsNew (zt0 s) 2 1 (zwt (zt0 s) 0 (s 0 1) 0).2.2.1 (zwt (zt0 s) 0 (s 0 1) 0).2.2.2.1).2) := by
              unfold zsMake
              rw [if_neg (fun z => z.elim (fun y => y (by decide)) (fun y => y hq17))]
              rw [if_neg (fun z => z z1), if_neg (by omega)]
              rw [if_neg (by decide)]
            rw [e] at hq
            exact hq _ p2 m2
          · skip
            refine wx_bipush (-3) kc95_45 (by decide) ?_
            refine wx_goto kc95_47 ?_
            refine wx_ireturn kc95_56 rfl rfl ?_
            have e : zsMake s (nI 2) = (-3, zt0 s) := by
              unfold zsMake
              rw [if_neg (fun z => z.elim (fun y => y (by decide)) (fun y => y hq17))]
              rw [if_neg (fun z => z z1), if_pos (by omega)]
            rw [e] at hq
            exact hq _ k1.1 k1.2.1
        · skip
          refine wx_iload_n kc95_36 rfl rfl ?_
          refine wx_ireturn kc95_37 rfl rfl ?_
          have e : zsMake s (nI 2) = (zna (zwt (zt0 s) 0 (s 0 1) 0), zt0 s) := by
            unfold zsMake
            rw [if_neg (fun z => z.elim (fun y => y (by decide)) (fun y => y hq17))]
            rw [if_pos (znge hq33)]
          rw [e] at hq
          exact hq _ k1.1 k1.2.1
      · skip
        refine wx_iconst (-1) kc95_20 (by decide) ?_
        refine wx_ireturn kc95_21 rfl rfl ?_
        have e : zsMake s (nI 2) = (-1, zt0 s) := by
          unfold zsMake
          rw [if_pos (Or.inr hq17)]
        rw [e] at hq
        exact hq _ k0.1 k0.2.1
theorem eM_remove {d : Nat} {h0 : zm_H} {s : Nat → Nat → Nat} {Q : Option Value → zm_H → Prop}  (hS : zMS h0) (hI : zMI s) (hl : ∀ g, g ≤ 40 → s 3 g = 3 → 1 ≤ s 6 g) (hq : ∀ t, zPE (zsRm s false).2 t → zMI t → Q (some (.int (zsRm s false).1)) (zmh h0 t)) : zm_wc (d + 5) mM_remove [.ref 194] (zmh h0 s) Q := by
  refine zm_enter (Nat.le_of_ble_eq_true rfl) ?_
  show zm_wp _ 98 0 [.ref 194, zm_un, zm_un] [] (zmh h0 s) Q
  have hB := zMIb hI
  have hT : s 0 1 ≤ 1200 := hI 0 1
  refine wx_aload_n kc98_0 rfl rfl ?_
  refine wx_virtual kc98_1 rfl (zmh_is hS 194 8 (by decide) (by decide) rfl) rfl ?_
  refine dM_take hS hI ?_
  intro t0 k0
  show zm_wp _ 98 4 [.ref 194, zm_un, zm_un] [.int (zmtk s)] (zmh h0 t0) _
  have hB0 := zMIb k0.2.1
  refine wx_istore_n (ls' := [.ref 194, .int (zmtk s), zm_un]) kc98_4 rfl rfl rfl rfl ?_
  refine wx_iload_n kc98_5 rfl rfl ?_
  refine wx_iconst (-1) kc98_6 (by decide) ?_
  refine wx_icmp_eq kc98_7 (fun hq7 => ?_) (fun hq7 => ?_)
  · skip
    refine wx_aload_n kc98_12 rfl rfl ?_
    refine wx_iconst (nI 0) kc98_13 (by decide) ?_
    refine wx_aload_n kc98_14 rfl rfl ?_
    refine wm_getf (.int (nI (s 0 1))) hS kc98_15 (congrArg (fun z => Value.int (nI z)) k0.2.2.2) ?_
    refine wx_virtual kc98_18 rfl (zmh_is hS 194 8 (by decide) (by decide) rfl) rfl ?_
    refine dM_walkToName hS k0 hT (by omega) hl ?_
    intro t1 k1 w1
    show zm_wp _ 98 21 [.ref 194, .int (zmtk s), zm_un] [.int (zna (zwt (zt0 s) 0 (s 0 1) 0))] (zmh h0 t1) _
    have hB1 := zMIb k1.2.1
    refine wx_istore_n (ls' := [.ref 194, .int (zmtk s), .int (zna (zwt (zt0 s) 0 (s 0 1) 0))]) kc98_21 rfl rfl rfl rfl ?_
    refine wx_iload_n kc98_22 rfl rfl ?_
    refine wx_if_ge kc98_23 (fun hq23 => ?_) (fun hq23 => ?_)
    · skip
      have z1 : zna (zwt (zt0 s) 0 (s 0 1) 0) = 0 := zge_0 (zna_cs (zwt_cs _ _ _ _)) hq23
      obtain ⟨a20, a17, a19, a18, aq, al, _, _, ak⟩ := w1 z1
      have b20 : t1 0 20 ≤ 40 := k1.2.1 0 20
      have c3 := zPE_a k1.1 3 (t1 0 20) (by decide)
      refine wx_aload_n kc98_28 rfl rfl ?_
      refine wm_getf (.int (nI (t1 0 20))) hS kc98_29 rfl ?_
      have hb32_1 := hB1 0 20
      refine wn_if_ne kc98_32 (hB1 _ _) (fun hq32 => ?_) (fun hq32 => ?_)
      · skip
        refine wx_aload_n kc98_38 rfl rfl ?_
        refine wm_getf (.ref 197) hS kc98_39 rfl ?_
        refine wx_aload_n kc98_42 rfl rfl ?_
        refine wm_getf (.int (nI (t1 0 20))) hS kc98_43 rfl ?_
        have hb46_2 := hB1 0 20
        refine wm_iald 197 41 (t1 3 (t1 0 20)) hS kc98_46 rfl rfl rfl rfl (by omega) (fun _ => rfl) rfl ?_
        have hb47_3 := hB1 3 (t1 0 20)
        refine wx_iconst (nI 2) kc98_47 (by decide) ?_
        refine wn_icmp_ne kc98_48 (hB1 _ _) (by decide) (fun hq48 => ?_) (fun hq48 => ?_)
        · skip
          refine wx_aload_n kc98_54 rfl rfl ?_
          refine wx_aload_n kc98_55 rfl rfl ?_
          refine wx_aload_n kc98_56 rfl rfl ?_
          refine wm_getf (.int (nI (t1 0 17))) hS kc98_57 rfl ?_
          have hb60_4 := hB1 0 17
          refine wx_aload_n kc98_60 rfl rfl ?_
          refine wm_getf (.int (nI (t1 0 18))) hS kc98_61 rfl ?_
          have hb64_5 := hB1 0 18
          refine wx_aload_n kc98_64 rfl rfl ?_
          refine wm_getf (.int (nI (t1 0 19))) hS kc98_65 rfl ?_
          have hb68_6 := hB1 0 19
          obtain ⟨k, hk1, hk2⟩ : ∃ k, zlkn (zt0 s) (zwt (zt0 s) 0 (s 0 1) 0).2.2.1 (zwt (zt0 s) 0 (s 0 1) 0).2.2.2.1 ((zt0 s) 0 10) = some k ∧ (zt0 s) 9 k = (zwt (zt0 s) 0 (s 0 1) 0).2.1 := ak.elim id (fun z => absurd z.2 (by omega))
          have hk3 := (zlkn_lt hk1).1
          have b10 := zPE_0 k1.1 10 (by decide)
          refine wx_virtual kc98_68 rfl (zmh_is hS 194 8 (by decide) (by decide) rfl) rfl ?_
          refine dM_findName hS k1.1 k1.2.1 a17 a19 a18 aq al hk1 ?_
          show zm_wp _ 98 71 [.ref 194, .int (zmtk s), .int (zna (zwt (zt0 s) 0 (s 0 1) 0))] [.int (nI k), .ref 194] (zmh h0 t1) _
          refine wx_virtual kc98_71 rfl (zmh_is hS 194 8 (by decide) (by decide) rfl) rfl ?_
          refine cM_removeName hS k1.2.1 (by omega) ?_
          show zm_wp _ 98 74 [.ref 194, .int (zmtk s), .int (zna (zwt (zt0 s) 0 (s 0 1) 0))] [] (zmh h0 (zrem t1 k)) _
          have e20 : (zrem t1 k) 0 20 = t1 0 20 := by unfold zrem; split <;> rfl
          refine wx_aload_n kc98_74 rfl rfl ?_
          refine wm_getf (.int (nI (t1 0 20))) hS kc98_75 (congrArg (fun z => Value.int (nI z)) e20) ?_
          refine wx_ireturn kc98_78 rfl rfl ?_
          have e : zsRm s false = (nI (t1 0 20), zrem (zt0 s) k) := by
            unfold zsRm
            rw [if_neg (fun z => z hq7)]
            unfold zsRm1
            rw [if_neg (fun z => z z1)]
            rw [if_neg (by omega), ← a20, ← c3]
            rw [if_neg (fun z => absurd z.2 (by omega)), if_neg (fun z => absurd z.1 (by decide)), if_neg (fun z => absurd z.1 (by decide))]
            have ez : zix (zt0 s) (zwt (zt0 s) 0 (s 0 1) 0) = k := by
              unfold zix
              rw [hk1]
              rfl
            rw [ez]
          rw [e] at hq
          exact hq _ (zPE_rem k1.1 k) (zMI_rem k1.2.1 k)
        · skip
          refine wx_bipush (-5) kc98_51 (by decide) ?_
          refine wx_ireturn kc98_53 rfl rfl ?_
          have e : zsRm s false = (-5, zt0 s) := by
            unfold zsRm
            rw [if_neg (fun z => z hq7)]
            unfold zsRm1
            rw [if_neg (fun z => z z1)]
            rw [if_neg (by omega), ← a20, ← c3]
            rw [if_pos ⟨rfl, by omega⟩]
          rw [e] at hq
          exact hq _ k1.1 k1.2.1
      · skip
        refine wx_bipush (-2) kc98_35 (by decide) ?_
        refine wx_ireturn kc98_37 rfl rfl ?_
        have e : zsRm s false = (-2, zt0 s) := by
          unfold zsRm
          rw [if_neg (fun z => z hq7)]
          unfold zsRm1
          rw [if_neg (fun z => z z1)]
          rw [if_pos (by omega)]
        rw [e] at hq
        exact hq _ k1.1 k1.2.1
    · skip
      refine wx_iload_n kc98_26 rfl rfl ?_
      refine wx_ireturn kc98_27 rfl rfl ?_
      have e : zsRm s false = (zna (zwt (zt0 s) 0 (s 0 1) 0), zt0 s) := by
        unfold zsRm
        rw [if_neg (fun z => z hq7)]
        unfold zsRm1
        rw [if_pos (znge hq23)]
      rw [e] at hq
      exact hq _ k1.1 k1.2.1
  · skip
    refine wx_iconst (-1) kc98_10 (by decide) ?_
    refine wx_ireturn kc98_11 rfl rfl ?_
    have e : zsRm s false = (-1, zt0 s) := by
      unfold zsRm
      rw [if_pos hq7]
    rw [e] at hq
    exact hq _ k0.1 k0.2.1
theorem eM_removeFolder {d : Nat} {h0 : zm_H} {s : Nat → Nat → Nat} {Q : Option Value → zm_H → Prop}  (hS : zMS h0) (hI : zMI s) (hl : ∀ g, g ≤ 40 → s 3 g = 3 → 1 ≤ s 6 g) (hq : ∀ t, zPE (zsRm s true).2 t → zMI t → Q (some (.int (zsRm s true).1)) (zmh h0 t)) : zm_wc (d + 5) mM_removeFolder [.ref 194] (zmh h0 s) Q := by
  refine zm_enter (Nat.le_of_ble_eq_true rfl) ?_
  show zm_wp _ 99 0 [.ref 194, zm_un, zm_un] [] (zmh h0 s) Q
  have hB := zMIb hI
  have hT : s 0 1 ≤ 1200 := hI 0 1
  refine wx_aload_n kc99_0 rfl rfl ?_
  refine wx_virtual kc99_1 rfl (zmh_is hS 194 8 (by decide) (by decide) rfl) rfl ?_
  refine dM_take hS hI ?_
  intro t0 k0
  show zm_wp _ 99 4 [.ref 194, zm_un, zm_un] [.int (zmtk s)] (zmh h0 t0) _
  have hB0 := zMIb k0.2.1
  refine wx_istore_n (ls' := [.ref 194, .int (zmtk s), zm_un]) kc99_4 rfl rfl rfl rfl ?_
  refine wx_iload_n kc99_5 rfl rfl ?_
  refine wx_iconst (-1) kc99_6 (by decide) ?_
  refine wx_icmp_eq kc99_7 (fun hq7 => ?_) (fun hq7 => ?_)
  · skip
    refine wx_aload_n kc99_12 rfl rfl ?_
    refine wx_iconst (nI 0) kc99_13 (by decide) ?_
    refine wx_aload_n kc99_14 rfl rfl ?_
    refine wm_getf (.int (nI (s 0 1))) hS kc99_15 (congrArg (fun z => Value.int (nI z)) k0.2.2.2) ?_
    refine wx_virtual kc99_18 rfl (zmh_is hS 194 8 (by decide) (by decide) rfl) rfl ?_
    refine dM_walkToName hS k0 hT (by omega) hl ?_
    intro t1 k1 w1
    show zm_wp _ 99 21 [.ref 194, .int (zmtk s), zm_un] [.int (zna (zwt (zt0 s) 0 (s 0 1) 0))] (zmh h0 t1) _
    have hB1 := zMIb k1.2.1
    refine wx_istore_n (ls' := [.ref 194, .int (zmtk s), .int (zna (zwt (zt0 s) 0 (s 0 1) 0))]) kc99_21 rfl rfl rfl rfl ?_
    refine wx_iload_n kc99_22 rfl rfl ?_
    refine wx_if_ge kc99_23 (fun hq23 => ?_) (fun hq23 => ?_)
    · skip
      have z1 : zna (zwt (zt0 s) 0 (s 0 1) 0) = 0 := zge_0 (zna_cs (zwt_cs _ _ _ _)) hq23
      obtain ⟨a20, a17, a19, a18, aq, al, _, _, ak⟩ := w1 z1
      have b20 : t1 0 20 ≤ 40 := k1.2.1 0 20
      have c3 := zPE_a k1.1 3 (t1 0 20) (by decide)
      refine wx_aload_n kc99_28 rfl rfl ?_
      refine wm_getf (.int (nI (t1 0 20))) hS kc99_29 rfl ?_
      have hb32_1 := hB1 0 20
      refine wn_if_ne kc99_32 (hB1 _ _) (fun hq32 => ?_) (fun hq32 => ?_)
      · skip
        refine wx_aload_n kc99_38 rfl rfl ?_
        refine wm_getf (.ref 197) hS kc99_39 rfl ?_
        refine wx_aload_n kc99_42 rfl rfl ?_
        refine wm_getf (.int (nI (t1 0 20))) hS kc99_43 rfl ?_
        have hb46_2 := hB1 0 20
        refine wm_iald 197 41 (t1 3 (t1 0 20)) hS kc99_46 rfl rfl rfl rfl (by omega) (fun _ => rfl) rfl ?_
        have hb47_3 := hB1 3 (t1 0 20)
        refine wx_iconst (nI 2) kc99_47 (by decide) ?_
        refine wn_icmp_eq kc99_48 (hB1 _ _) (by decide) (fun hq48 => ?_) (fun hq48 => ?_)
        · skip
          refine wx_aload_n kc99_54 rfl rfl ?_
          refine wx_aload_n kc99_55 rfl rfl ?_
          refine wm_getf (.int (nI (t1 0 20))) hS kc99_56 rfl ?_
          have hb59_4 := hB1 0 20
          have hn := zmni_le (s := t1) (t1 0 20) (t1 0 10)
          have b10 : t1 0 10 ≤ 60 := k1.2.1 0 10
          have c8 : zmni t1 (t1 0 20) (t1 0 10) = zmni (zt0 s) (t1 0 20) ((zt0 s) 0 10) := by rw [zPE_ni k1.1, zPE_0 k1.1 10 (by decide)]
          refine wx_virtual kc99_59 rfl (zmh_is hS 194 8 (by decide) (by decide) rfl) rfl ?_
          refine cM_namesIn hS k1.2.1 (by omega) ?_
          show zm_wp _ 99 62 [.ref 194, .int (zmtk s), .int (zna (zwt (zt0 s) 0 (s 0 1) 0))] [.int (nI (zmni t1 (t1 0 20) (t1 0 10)))] (zmh h0 t1) _
          refine wn_if_le kc99_62 (by omega) (fun hq62 => ?_) (fun hq62 => ?_)
          · skip
            refine wx_aload_n kc99_68 rfl rfl ?_
            refine wx_aload_n kc99_69 rfl rfl ?_
            refine wx_aload_n kc99_70 rfl rfl ?_
            refine wm_getf (.int (nI (t1 0 17))) hS kc99_71 rfl ?_
            have hb74_5 := hB1 0 17
            refine wx_aload_n kc99_74 rfl rfl ?_
            refine wm_getf (.int (nI (t1 0 18))) hS kc99_75 rfl ?_
            have hb78_6 := hB1 0 18
            refine wx_aload_n kc99_78 rfl rfl ?_
            refine wm_getf (.int (nI (t1 0 19))) hS kc99_79 rfl ?_
            have hb82_7 := hB1 0 19
            obtain ⟨k, hk1, hk2⟩ : ∃ k, zlkn (zt0 s) (zwt (zt0 s) 0 (s 0 1) 0).2.2.1 (zwt (zt0 s) 0 (s 0 1) 0).2.2.2.1 ((zt0 s) 0 10) = some k ∧ (zt0 s) 9 k = (zwt (zt0 s) 0 (s 0 1) 0).2.1 := ak.elim id (fun z => absurd z.2 (by omega))
            have hk3 := (zlkn_lt hk1).1
            have b10 := zPE_0 k1.1 10 (by decide)
            refine wx_virtual kc99_82 rfl (zmh_is hS 194 8 (by decide) (by decide) rfl) rfl ?_
            refine dM_findName hS k1.1 k1.2.1 a17 a19 a18 aq al hk1 ?_
            show zm_wp _ 99 85 [.ref 194, .int (zmtk s), .int (zna (zwt (zt0 s) 0 (s 0 1) 0))] [.int (nI k), .ref 194] (zmh h0 t1) _
            refine wx_virtual kc99_85 rfl (zmh_is hS 194 8 (by decide) (by decide) rfl) rfl ?_
            refine cM_removeName hS k1.2.1 (by omega) ?_
            show zm_wp _ 99 88 [.ref 194, .int (zmtk s), .int (zna (zwt (zt0 s) 0 (s 0 1) 0))] [] (zmh h0 (zrem t1 k)) _
            have e20 : (zrem t1 k) 0 20 = t1 0 20 := by unfold zrem; split <;> rfl
            refine wx_aload_n kc99_88 rfl rfl ?_
            refine wm_getf (.int (nI (t1 0 20))) hS kc99_89 (congrArg (fun z => Value.int (nI z)) e20) ?_
            refine wx_ireturn kc99_92 rfl rfl ?_
            have e : zsRm s true = (nI (t1 0 20), zrem (zt0 s) k) := by
              unfold zsRm
              rw [if_neg (fun z => z hq7)]
              unfold zsRm1
              rw [if_neg (fun z => z z1)]
              rw [if_neg (by omega), ← a20, ← c3, ← c8]
              rw [if_neg (fun z => absurd z.1 (by decide)), if_neg (fun z => z.2 (by omega)), if_neg (fun z => absurd z.2 (by omega))]
              have ez : zix (zt0 s) (zwt (zt0 s) 0 (s 0 1) 0) = k := by
                unfold zix
                rw [hk1]
                rfl
              rw [ez]
            rw [e] at hq
            exact hq _ (zPE_rem k1.1 k) (zMI_rem k1.2.1 k)
          · skip
            refine wx_bipush (-6) kc99_65 (by decide) ?_
            refine wx_ireturn kc99_67 rfl rfl ?_
            have e : zsRm s true = (-6, zt0 s) := by
              unfold zsRm
              rw [if_neg (fun z => z hq7)]
              unfold zsRm1
              rw [if_neg (fun z => z z1)]
              rw [if_neg (by omega), ← a20, ← c3, ← c8]
              rw [if_neg (fun z => absurd z.1 (by decide)), if_neg (fun z => z.2 (by omega)), if_pos ⟨rfl, by omega⟩]
            rw [e] at hq
            exact hq _ k1.1 k1.2.1
        · skip
          refine wx_bipush (-4) kc99_51 (by decide) ?_
          refine wx_ireturn kc99_53 rfl rfl ?_
          have e : zsRm s true = (-4, zt0 s) := by
            unfold zsRm
            rw [if_neg (fun z => z hq7)]
            unfold zsRm1
            rw [if_neg (fun z => z z1)]
            rw [if_neg (by omega), ← a20, ← c3]
            rw [if_neg (fun z => absurd z.1 (by decide)), if_pos ⟨rfl, by omega⟩]
          rw [e] at hq
          exact hq _ k1.1 k1.2.1
      · skip
        refine wx_bipush (-2) kc99_35 (by decide) ?_
        refine wx_ireturn kc99_37 rfl rfl ?_
        have e : zsRm s true = (-2, zt0 s) := by
          unfold zsRm
          rw [if_neg (fun z => z hq7)]
          unfold zsRm1
          rw [if_neg (fun z => z z1)]
          rw [if_pos (by omega)]
        rw [e] at hq
        exact hq _ k1.1 k1.2.1
    · skip
      refine wx_iload_n kc99_26 rfl rfl ?_
      refine wx_ireturn kc99_27 rfl rfl ?_
      have e : zsRm s true = (zna (zwt (zt0 s) 0 (s 0 1) 0), zt0 s) := by
        unfold zsRm
        rw [if_neg (fun z => z hq7)]
        unfold zsRm1
        rw [if_pos (znge hq23)]
      rw [e] at hq
      exact hq _ k1.1 k1.2.1
  · skip
    refine wx_iconst (-1) kc99_10 (by decide) ?_
    refine wx_ireturn kc99_11 rfl rfl ?_
    have e : zsRm s true = (-1, zt0 s) := by
      unfold zsRm
      rw [if_pos hq7]
    rw [e] at hq
    exact hq _ k0.1 k0.2.1
theorem eM_link {d : Nat} {h0 : zm_H} {s : Nat → Nat → Nat} {Q : Option Value → zm_H → Prop}  (hS : zMS h0) (hI : zMI s) (hl : ∀ g, g ≤ 40 → s 3 g = 3 → 1 ≤ s 6 g) (hq : ∀ t, zPE (zsLink s).2 t → zMI t → Q (some (.int (zsLink s).1)) (zmh h0 t)) : zm_wc (d + 5) mM_link [.ref 194] (zmh h0 s) Q := by
  refine zm_enter (Nat.le_of_ble_eq_true rfl) ?_
  show zm_wp _ 96 0 [.ref 194, zm_un, zm_un, zm_un] [] (zmh h0 s) Q
  have hB := zMIb hI
  have hT : s 0 1 ≤ 1200 := hI 0 1
  refine wx_aload_n kc96_0 rfl rfl ?_
  refine wx_virtual kc96_1 rfl (zmh_is hS 194 8 (by decide) (by decide) rfl) rfl ?_
  refine dM_take hS hI ?_
  intro t0 k0
  show zm_wp _ 96 4 [.ref 194, zm_un, zm_un, zm_un] [.int (zmtk s)] (zmh h0 t0) _
  have hB0 := zMIb k0.2.1
  refine wx_istore_n (ls' := [.ref 194, .int (zmtk s), zm_un, zm_un]) kc96_4 rfl rfl rfl rfl ?_
  refine wx_iload_n kc96_5 rfl rfl ?_
  refine wx_if_ge kc96_6 (fun hq6 => ?_) (fun hq6 => ?_)
  · skip
    obtain ⟨z, hz1, hz2, hz3⟩ := zmtk_ge hq6 hT
    rw [hz2]
    show zm_wp _ 96 11 [.ref 194, .int (nI z), zm_un, zm_un] [] (zmh h0 t0) _
    refine wx_aload_n kc96_11 rfl rfl ?_
    refine wx_iconst (nI 0) kc96_12 (by decide) ?_
    refine wx_iload_n kc96_13 rfl rfl ?_
    refine wx_iconst (nI 0) kc96_14 (by decide) ?_
    refine wx_virtual kc96_15 rfl (zmh_is hS 194 8 (by decide) (by decide) rfl) rfl ?_
    refine dM_walk hS k0 hT (by omega) (by decide) hl ?_
    intro t1 k1 w1
    show zm_wp _ 96 18 [.ref 194, .int (nI z), zm_un, zm_un] [.int ((zwt (zt0 s) 0 z 0).1)] (zmh h0 t1) _
    have hB1 := zMIb k1.2.1
    refine wx_istore_n (ls' := [.ref 194, .int (nI z), .int ((zwt (zt0 s) 0 z 0).1), zm_un]) kc96_18 rfl rfl rfl rfl ?_
    refine wx_iload_n kc96_19 rfl rfl ?_
    refine wx_if_ge kc96_20 (fun hq20 => ?_) (fun hq20 => ?_)
    · skip
      have z1 : (zwt (zt0 s) 0 z 0).1 = 0 := zge_0 (zwt_cs _ _ _ _) hq20
      obtain ⟨a1, a2, a3⟩ := w1 z1
      have b20 : t1 0 20 ≤ 40 := k1.2.1 0 20
      refine wx_aload_n kc96_25 rfl rfl ?_
      refine wm_getf (.int (nI (t1 0 20))) hS kc96_26 rfl ?_
      have hb29_1 := hB1 0 20
      refine wx_istore_n (ls' := [.ref 194, .int (nI z), .int ((zwt (zt0 s) 0 z 0).1), .int (nI (t1 0 20))]) kc96_29 rfl rfl rfl rfl ?_
      refine wx_aload_n kc96_30 rfl rfl ?_
      refine wx_iload_n kc96_31 rfl rfl ?_
      refine wx_iconst (nI 1) kc96_32 (by decide) ?_
      refine wn_iadd (z + 1) kc96_33 rfl ?_
      refine wx_aload_n kc96_34 rfl rfl ?_
      refine wm_getf (.int (nI (s 0 1))) hS kc96_35 (congrArg (fun z => Value.int (nI z)) k1.2.2.2) ?_
      refine wx_iload_n kc96_38 rfl rfl ?_
      refine wn_isub ((s 0 1) - z) kc96_39 (by omega) ?_
      refine wx_iconst (nI 1) kc96_40 (by decide) ?_
      refine wn_isub (((s 0 1) - z) - 1) kc96_41 (by omega) ?_
      show zm_wp _ 96 42 [.ref 194, .int (nI z), .int ((zwt (zt0 s) 0 z 0).1), .int (nI (t1 0 20))] [.int (nI (s 0 1 - z - 1)), .int (nI (z + 1)), .ref 194] (zmh h0 t1) _
      refine wx_virtual kc96_42 rfl (zmh_is hS 194 8 (by decide) (by decide) rfl) rfl ?_
      refine dM_walkToName hS k1 hT (by omega) hl ?_
      intro t2 k2 w2
      show zm_wp _ 96 45 [.ref 194, .int (nI z), .int ((zwt (zt0 s) 0 z 0).1), .int (nI (t1 0 20))] [.int (zna (zwt (zt0 s) (z + 1) (s 0 1 - z - 1) 0))] (zmh h0 t2) _
      have hB2 := zMIb k2.2.1
      refine wx_istore_n (ls' := [.ref 194, .int (nI z), .int (zna (zwt (zt0 s) (z + 1) (s 0 1 - z - 1) 0)), .int (nI (t1 0 20))]) kc96_45 rfl rfl rfl rfl ?_
      refine wx_iload_n kc96_46 rfl rfl ?_
      refine wx_if_ge kc96_47 (fun hq47 => ?_) (fun hq47 => ?_)
      · skip
        have z2 : zna (zwt (zt0 s) (z + 1) (s 0 1 - z - 1) 0) = 0 := zge_0 (zna_cs (zwt_cs _ _ _ _)) hq47
        obtain ⟨a20, a17, a19, a18, aq, al, _⟩ := w2 z2
        have c3 := zPE_a k2.1 3 (t1 0 20) (by decide)
        have c10 := zPE_0 k2.1 10 (by decide)
        have c00 := zPE_0 k2.1 0 (by decide)
        have b10 : t2 0 10 ≤ 60 := k2.2.1 0 10
        have b17 : t2 0 17 ≤ 40 := k2.2.1 0 17
        have bm := zmat_le k2.2.1
        have bn := zmni_le (s := t2) (t2 0 17) (t2 0 10)
        have bg : zmgr t2 (t2 0 17) (zmni t2 (t2 0 17) (t2 0 10) + 1) ≤ 100 := by
          unfold zmgr
          split
          · have : zft (zmni t2 (t2 0 17) (t2 0 10) + 1) ≤ 61 := by unfold zft; split <;> omega
            omega
          · omega
        have ca : zmat t2 = zmat (zt0 s) := zPE_at k2.1
        have cg : zmgr t2 (t2 0 17) (zmni t2 (t2 0 17) (t2 0 10) + 1) = zmgr (zt0 s) (zwt (zt0 s) (z + 1) (s 0 1 - z - 1) 0).2.2.1 (zmni (zt0 s) (zwt (zt0 s) (z + 1) (s 0 1 - z - 1) 0).2.2.1 ((zt0 s) 0 10) + 1) := by rw [zPE_gr k2.1, zPE_ni k2.1, a17, zPE_0 k2.1 10 (by decide)]
        refine wx_iload_n kc96_52 rfl rfl ?_
        refine wn_if_ne kc96_53 (by omega) (fun hq53 => ?_) (fun hq53 => ?_)
        · skip
          refine wx_aload_n kc96_59 rfl rfl ?_
          refine wm_getf (.ref 197) hS kc96_60 rfl ?_
          refine wx_iload_n kc96_63 rfl rfl ?_
          refine wm_iald 197 41 (t2 3 (t1 0 20)) hS kc96_64 rfl rfl rfl rfl (by omega) (fun _ => rfl) rfl ?_
          have hb65_2 := hB2 3 (t1 0 20)
          refine wx_iconst (nI 2) kc96_65 (by decide) ?_
          refine wn_icmp_ne kc96_66 (hB2 _ _) (by decide) (fun hq66 => ?_) (fun hq66 => ?_)
          · skip
            refine wx_aload_n kc96_72 rfl rfl ?_
            refine wm_getf (.int (nI (t2 0 20))) hS kc96_73 rfl ?_
            have hb76_3 := hB2 0 20
            refine wn_if_le kc96_76 (hB2 _ _) (fun hq76 => ?_) (fun hq76 => ?_)
            · skip
              refine wx_aload_n kc96_82 rfl rfl ?_
              refine wm_getf (.int (nI (t2 0 10))) hS kc96_83 rfl ?_
              have hb86_4 := hB2 0 10
              refine wx_bipush (nI 60) kc96_86 (by decide) ?_
              refine wn_icmp_eq kc96_88 (hB2 _ _) (by decide) (fun hq88 => ?_) (fun hq88 => ?_)
              · skip
                refine wx_bipush (-7) kc96_121 (by decide) ?_
                refine wx_ireturn kc96_123 rfl rfl ?_
                have e : zsLink s = (-7, zt0 s) := by
                  unfold zsLink
                  rw [if_neg (Int32.not_lt.mpr hq6), hz3]
                  rw [if_neg (Int32.not_lt.mpr hq20)]
                  rw [if_neg (fun z => z z2)]
                  unfold zsLnk
                  rw [if_neg (by omega), ← a1, ← c3]
                  rw [if_neg (by omega)]
                  rw [if_neg (by omega)]
                  rw [if_pos (by omega)]
                rw [e] at hq
                exact hq _ k2.1 k2.2.1
              · skip
                refine wx_aload_n kc96_91 rfl rfl ?_
                refine wx_virtual kc96_92 rfl (zmh_is hS 194 8 (by decide) (by decide) rfl) rfl ?_
                refine cM_allTake hS k2.2.1 ?_
                show zm_wp _ 96 95 [.ref 194, .int (nI z), .int (zna (zwt (zt0 s) (z + 1) (s 0 1 - z - 1) 0)), .int (nI (t1 0 20))] [.int (nI (zmat t2))] (zmh h0 t2) _
                refine wx_aload_n kc96_95 rfl rfl ?_
                refine wx_aload_n kc96_96 rfl rfl ?_
                refine wm_getf (.int (nI (t2 0 17))) hS kc96_97 rfl ?_
                have hb100_5 := hB2 0 17
                refine wx_aload_n kc96_100 rfl rfl ?_
                refine wx_aload_n kc96_101 rfl rfl ?_
                refine wm_getf (.int (nI (t2 0 17))) hS kc96_102 rfl ?_
                refine wx_virtual kc96_105 rfl (zmh_is hS 194 8 (by decide) (by decide) rfl) rfl ?_
                refine cM_namesIn hS k2.2.1 (by omega) ?_
                show zm_wp _ 96 108 [.ref 194, .int (nI z), .int (zna (zwt (zt0 s) (z + 1) (s 0 1 - z - 1) 0)), .int (nI (t1 0 20))] [.int (nI (zmni t2 (t2 0 17) (t2 0 10))), .int (nI (t2 0 17)), .ref 194, .int (nI (zmat t2))] (zmh h0 t2) _
                refine wx_iconst (nI 1) kc96_108 (by decide) ?_
                refine wn_iadd ((zmni t2 (t2 0 17) (t2 0 10)) + 1) kc96_109 rfl ?_
                refine wx_virtual kc96_110 rfl (zmh_is hS 194 8 (by decide) (by decide) rfl) rfl ?_
                refine cM_growth hS k2.2.1 (by omega) (by omega) ?_
                show zm_wp _ 96 113 [.ref 194, .int (nI z), .int (zna (zwt (zt0 s) (z + 1) (s 0 1 - z - 1) 0)), .int (nI (t1 0 20))] [.int (nI (zmgr t2 (t2 0 17) (zmni t2 (t2 0 17) (t2 0 10) + 1))), .int (nI (zmat t2))] (zmh h0 t2) _
                refine wn_iadd ((zmat t2) + (zmgr t2 (t2 0 17) (zmni t2 (t2 0 17) (t2 0 10) + 1))) kc96_113 rfl ?_
                refine wx_aload_n kc96_114 rfl rfl ?_
                refine wm_getf (.int (nI (t2 0 0))) hS kc96_115 rfl ?_
                have hb118_6 := hB2 0 0
                refine wn_icmp_le kc96_118 (by omega) (hB2 _ _) (fun hq118 => ?_) (fun hq118 => ?_)
                · skip
                  refine wx_aload_n kc96_124 rfl rfl ?_
                  refine wx_iload_n kc96_125 rfl rfl ?_
                  refine wx_virtual kc96_126 rfl (zmh_is hS 194 8 (by decide) (by decide) rfl) rfl ?_
                  refine dM_addName hS k2.1 k2.2.1 (by omega) (by omega) a17 a19 a18 aq al ?_
                  intro t3 p3 m3 _
                  show zm_wp _ 96 129 [.ref 194, .int (nI z), .int (zna (zwt (zt0 s) (z + 1) (s 0 1 - z - 1) 0)), .int (nI (t1 0 20))] [] (zmh h0 t3) _
                  refine wx_iload_n kc96_129 rfl rfl ?_
                  refine wx_ireturn kc96_130 rfl rfl ?_
                  have e : zsLink s = (nI (t1 0 20), zadd (zt0 s) (zwt (zt0 s) (z + 1) (s 0 1 - z - 1) 0).2.2.1 (zwt (zt0 s) (z + 1) (s 0 1 - z - 1) 0).2.2.2.1.length (zgd (zwt (zt0 s) (z + 1) (s 0 1 - z - 1) 0).2.2.2.1) (t1 0 20)) := by
                    unfold zsLink
                    rw [if_neg (Int32.not_lt.mpr hq6), hz3]
                    rw [if_neg (Int32.not_lt.mpr hq20)]
                    rw [if_neg (fun z => z z2)]
                    unfold zsLnk
                    rw [if_neg (by omega), ← a1, ← c3]
                    rw [if_neg (by omega)]
                    rw [if_neg (by omega)]
                    rw [if_neg (by omega)]
                  rw [e] at hq
                  exact hq _ p3 m3
                · skip
                  refine wx_bipush (-7) kc96_121 (by decide) ?_
                  refine wx_ireturn kc96_123 rfl rfl ?_
                  have e : zsLink s = (-7, zt0 s) := by
                    unfold zsLink
                    rw [if_neg (Int32.not_lt.mpr hq6), hz3]
                    rw [if_neg (Int32.not_lt.mpr hq20)]
                    rw [if_neg (fun z => z z2)]
                    unfold zsLnk
                    rw [if_neg (by omega), ← a1, ← c3]
                    rw [if_neg (by omega)]
                    rw [if_neg (by omega)]
                    rw [if_pos (by omega)]
                  rw [e] at hq
                  exact hq _ k2.1 k2.2.1
            · skip
              refine wx_bipush (-3) kc96_79 (by decide) ?_
              refine wx_ireturn kc96_81 rfl rfl ?_
              have e : zsLink s = (-3, zt0 s) := by
                unfold zsLink
                rw [if_neg (Int32.not_lt.mpr hq6), hz3]
                rw [if_neg (Int32.not_lt.mpr hq20)]
                rw [if_neg (fun z => z z2)]
                unfold zsLnk
                rw [if_neg (by omega), ← a1, ← c3]
                rw [if_neg (by omega)]
                rw [if_pos (by omega)]
              rw [e] at hq
              exact hq _ k2.1 k2.2.1
          · skip
            refine wx_bipush (-5) kc96_69 (by decide) ?_
            refine wx_ireturn kc96_71 rfl rfl ?_
            have e : zsLink s = (-5, zt0 s) := by
              unfold zsLink
              rw [if_neg (Int32.not_lt.mpr hq6), hz3]
              rw [if_neg (Int32.not_lt.mpr hq20)]
              rw [if_neg (fun z => z z2)]
              unfold zsLnk
              rw [if_neg (by omega), ← a1, ← c3]
              rw [if_pos (by omega)]
            rw [e] at hq
            exact hq _ k2.1 k2.2.1
        · skip
          refine wx_bipush (-2) kc96_56 (by decide) ?_
          refine wx_ireturn kc96_58 rfl rfl ?_
          have e : zsLink s = (-2, zt0 s) := by
            unfold zsLink
            rw [if_neg (Int32.not_lt.mpr hq6), hz3]
            rw [if_neg (Int32.not_lt.mpr hq20)]
            rw [if_neg (fun z => z z2)]
            unfold zsLnk
            rw [if_pos (by omega)]
          rw [e] at hq
          exact hq _ k2.1 k2.2.1
      · skip
        refine wx_iload_n kc96_50 rfl rfl ?_
        refine wx_ireturn kc96_51 rfl rfl ?_
        have e : zsLink s = (zna (zwt (zt0 s) (z + 1) (s 0 1 - z - 1) 0), zt0 s) := by
          unfold zsLink
          rw [if_neg (Int32.not_lt.mpr hq6), hz3]
          rw [if_neg (Int32.not_lt.mpr hq20)]
          rw [if_pos (znge hq47)]
        rw [e] at hq
        exact hq _ k2.1 k2.2.1
    · skip
      refine wx_iload_n kc96_23 rfl rfl ?_
      refine wx_ireturn kc96_24 rfl rfl ?_
      have e : zsLink s = ((zwt (zt0 s) 0 z 0).1, zt0 s) := by
        unfold zsLink
        rw [if_neg (Int32.not_lt.mpr hq6), hz3]
        rw [if_pos (Int32.not_le.mp hq20)]
      rw [e] at hq
      exact hq _ k1.1 k1.2.1
  · skip
    refine wx_iconst (-1) kc96_9 (by decide) ?_
    refine wx_ireturn kc96_10 rfl rfl ?_
    have e : zsLink s = (-1, zt0 s) := by
      unfold zsLink
      rw [if_pos (Int32.not_le.mp hq6)]
    rw [e] at hq
    exact hq _ k0.1 k0.2.1
theorem lM_symlink {d : Nat} {h0 : zm_H} {s t : Nat → Nat → Nat} {Q : Option Value → zm_H → Prop} {z nn f T : Nat} {v3 : Value} (hS : zMS h0) (hI : zMI t) (hT : T ≤ 1200) (hin : ∀ i, i < T → t 2 i = s 1 i) (hz : z + 1 + nn ≤ T) (hn : nn ≤ 1000) (hf : f ≤ 40) (hq : Q (some (.int (nI f))) (zmh h0 (zwr t 7 (1000 * f) nn (fun i => s 1 (z + 1 + i))))) : ∀ (n i : Nat), i + n = nn → zm_wp (d + 4) 97 92 [.ref 194, .int (nI z), .int (nI nn), v3, .int (nI f), .int (nI i)] [] (zmh h0 (zwr t 7 (1000 * f) i (fun i => s 1 (z + 1 + i)))) Q := by
  have hB := zMIb hI
  intro n
  induction n with
  | zero =>
    intro i hi
    refine wx_iload kc97_92 rfl rfl ?_
    refine wx_iload_n kc97_94 rfl rfl ?_
    refine wn_icmp_ge kc97_95 (by omega) (by omega) (fun hq95 => ?_) (fun hq95 => ?_)
    · skip
      refine wx_iload kc97_130 rfl rfl ?_
      refine wx_ireturn kc97_132 rfl rfl ?_
      obtain rfl : i = nn := by omega
      exact hq
    · skip
      exact absurd hq95 (by omega)
  | succ n ih =>
    intro i hi
    refine wx_iload kc97_92 rfl rfl ?_
    refine wx_iload_n kc97_94 rfl rfl ?_
    refine wn_icmp_ge kc97_95 (by omega) (by omega) (fun hq95 => ?_) (fun hq95 => ?_)
    · skip
      exact absurd hq95 (by omega)
    · skip
      refine wx_aload_n kc97_98 rfl rfl ?_
      refine wm_getf (.ref 201) hS kc97_99 rfl ?_
      refine wx_sipush (nI 1000) kc97_102 (by decide) ?_
      refine wx_iload kc97_105 rfl rfl ?_
      refine wn_imul (1000 * f) kc97_107 rfl ?_
      refine wx_iload kc97_108 rfl rfl ?_
      refine wn_iadd ((1000 * f) + i) kc97_110 rfl ?_
      refine wx_aload_n kc97_111 rfl rfl ?_
      refine wm_getf (.ref 196) hS kc97_112 rfl ?_
      refine wx_iload_n kc97_115 rfl rfl ?_
      refine wx_iconst (nI 1) kc97_116 (by decide) ?_
      refine wn_iadd (z + 1) kc97_117 rfl ?_
      refine wx_iload kc97_118 rfl rfl ?_
      refine wn_iadd ((z + 1) + i) kc97_120 rfl ?_
      refine wm_iald 196 1200 (s 1 (z + 1 + i)) hS kc97_121 rfl rfl rfl rfl (by omega) (fun _ => rfl) (hin (z + 1 + i) (by omega)) ?_
      have hb122_1 := hB 1 (z + 1 + i)
      refine wx_i2b kc97_122 ?_
      refine wm_bast (v := (s 1 (z + 1 + i))) 201 41000 hS kc97_123 rfl rfl rfl rfl (by omega) (zsg_ii _) rfl ?_
      refine wn_iinc (i + 1) (ls' := [.ref 194, .int (nI z), .int (nI nn), v3, .int (nI f), .int (nI (i + 1))]) kc97_124 rfl rfl rfl rfl rfl ?_
      refine wx_goto kc97_127 ?_
      have e1 := zwr_s t 7 (1000 * f) i (fun i => s 1 (z + 1 + i))
      show zm_wp _ 97 92 [.ref 194, .int (nI z), .int (nI nn), v3, .int (nI f), .int (nI (i + 1))] [] (zmh h0 (zup (zwr t 7 (1000 * f) i (fun i => s 1 (z + 1 + i))) 7 ((1000 * f) + i) (s 1 (z + 1 + i)))) _
      refine Eq.mp (congrArg (fun y => zm_wp _ 97 92 [.ref 194, .int (nI z), .int (nI nn), v3, .int (nI f), .int (nI (i + 1))] [] (zmh h0 y) Q) e1.symm) ?_
      exact ih (i + 1) (by omega)
theorem eM_symlink {d : Nat} {h0 : zm_H} {s : Nat → Nat → Nat} {Q : Option Value → zm_H → Prop}  (hS : zMS h0) (hI : zMI s) (hl : ∀ g, g ≤ 40 → s 3 g = 3 → 1 ≤ s 6 g) (hq : ∀ t, zPE (zsSym s).2 t → zMI t → Q (some (.int (zsSym s).1)) (zmh h0 t)) : zm_wc (d + 5) mM_symlink [.ref 194] (zmh h0 s) Q := by
  refine zm_enter (Nat.le_of_ble_eq_true rfl) ?_
  show zm_wp _ 97 0 [.ref 194, zm_un, zm_un, zm_un, zm_un, zm_un] [] (zmh h0 s) Q
  have hB := zMIb hI
  have hT : s 0 1 ≤ 1200 := hI 0 1
  refine wx_aload_n kc97_0 rfl rfl ?_
  refine wx_virtual kc97_1 rfl (zmh_is hS 194 8 (by decide) (by decide) rfl) rfl ?_
  refine dM_take hS hI ?_
  intro t0 k0
  show zm_wp _ 97 4 [.ref 194, zm_un, zm_un, zm_un, zm_un, zm_un] [.int (zmtk s)] (zmh h0 t0) _
  have hB0 := zMIb k0.2.1
  refine wx_istore_n (ls' := [.ref 194, .int (zmtk s), zm_un, zm_un, zm_un, zm_un]) kc97_4 rfl rfl rfl rfl ?_
  refine wx_aload_n kc97_5 rfl rfl ?_
  refine wm_getf (.int (nI (s 0 1))) hS kc97_6 (congrArg (fun z => Value.int (nI z)) k0.2.2.2) ?_
  refine wx_iload_n kc97_9 rfl rfl ?_
  rcases zmtk_cs s with ⟨y1, y2⟩ | ⟨z, hz1, hz2, y3⟩ | ⟨y1, y2⟩
  · skip
    have hm : zmtk s < 0 := by rw [y1]; decide
    refine wx_isub kc97_10 ?_
    refine wx_iconst (nI 1) kc97_11 (by decide) ?_
    refine wx_isub kc97_12 ?_
    refine wx_istore_n (ls' := [.ref 194, .int (zmtk s), .int (nI (s 0 1) - zmtk s - nI 1), zm_un, zm_un, zm_un]) kc97_13 rfl rfl rfl rfl ?_
    refine wx_iload_n kc97_14 rfl rfl ?_
    refine wx_if_lt kc97_15 (fun hq15 => ?_) (fun hq15 => ?_)
    · skip
      refine wx_iconst (-1) kc97_30 (by decide) ?_
      refine wx_ireturn kc97_31 rfl rfl ?_
      have e : zsSym s = (-1, zt0 s) := by
        unfold zsSym
        rw [if_pos (Or.inl hm)]
      rw [e] at hq
      exact hq _ k0.1 k0.2.1
    · skip
      exact absurd hm hq15
  · skip
    have hz3 : (zmtk s).toNatClampNeg = z := by rw [hz2]; exact nI_clamp (by omega)
    have hz0 : ¬ zmtk s < 0 := by rw [hz2]; exact nI_pos (by omega)
    obtain ⟨zz, hzz⟩ : ∃ y, y = zmtk s := ⟨_, rfl⟩
    rw [hz2]
    show zm_wp _ 97 10 [.ref 194, .int (nI z), zm_un, zm_un, zm_un, zm_un] [.int (nI z), .int (nI (s 0 1))] (zmh h0 t0) _
    refine wn_isub ((s 0 1) - z) kc97_10 (by omega) ?_
    refine wx_iconst (nI 1) kc97_11 (by decide) ?_
    refine wn_isub (s 0 1 - z - 1) kc97_12 (by omega) ?_
    refine wx_istore_n (ls' := [.ref 194, .int (nI z), .int (nI (s 0 1 - z - 1)), zm_un, zm_un, zm_un]) kc97_13 rfl rfl rfl rfl ?_
    refine wx_iload_n kc97_14 rfl rfl ?_
    refine wn_if_lt kc97_15 (by omega) ?_
    refine wx_iload_n kc97_18 rfl rfl ?_
    refine wx_iconst (nI 1) kc97_19 (by decide) ?_
    refine wn_icmp_lt kc97_20 (by omega) (by decide) (fun hq20 => ?_) (fun hq20 => ?_)
    · skip
      refine wx_iconst (-1) kc97_30 (by decide) ?_
      refine wx_ireturn kc97_31 rfl rfl ?_
      have e : zsSym s = (-1, zt0 s) := by
        unfold zsSym
        rw [hz3, if_pos (Or.inr (by omega))]
      rw [e] at hq
      exact hq _ k0.1 k0.2.1
    · skip
      refine wx_iload_n kc97_23 rfl rfl ?_
      refine wx_sipush (nI 1000) kc97_24 (by decide) ?_
      refine wn_icmp_le kc97_27 (by omega) (by decide) (fun hq27 => ?_) (fun hq27 => ?_)
      · skip
        refine wx_aload_n kc97_32 rfl rfl ?_
        refine wx_iconst (nI 0) kc97_33 (by decide) ?_
        refine wx_iload_n kc97_34 rfl rfl ?_
        refine wx_virtual kc97_35 rfl (zmh_is hS 194 8 (by decide) (by decide) rfl) rfl ?_
        refine dM_walkToName hS k0 hT (by omega) hl ?_
        intro t1 k1 w1
        show zm_wp _ 97 38 [.ref 194, .int (nI z), .int (nI (s 0 1 - z - 1)), zm_un, zm_un, zm_un] [.int (zna (zwt (zt0 s) 0 z 0))] (zmh h0 t1) _
        have hB1 := zMIb k1.2.1
        refine wx_istore_n (ls' := [.ref 194, .int (nI z), .int (nI (s 0 1 - z - 1)), .int (zna (zwt (zt0 s) 0 z 0)), zm_un, zm_un]) kc97_38 rfl rfl rfl rfl ?_
        refine wx_iload_n kc97_39 rfl rfl ?_
        refine wx_if_ge kc97_40 (fun hq40 => ?_) (fun hq40 => ?_)
        · skip
          have z1 : zna (zwt (zt0 s) 0 z 0) = 0 := zge_0 (zna_cs (zwt_cs _ _ _ _)) hq40
          obtain ⟨a20, a17, a19, a18, aq, al, _⟩ := w1 z1
          refine wx_aload_n kc97_45 rfl rfl ?_
          refine wm_getf (.int (nI (t1 0 20))) hS kc97_46 rfl ?_
          have hb49_1 := hB1 0 20
          refine wn_if_le kc97_49 (hB1 _ _) (fun hq49 => ?_) (fun hq49 => ?_)
          · skip
            refine wx_aload_n kc97_55 rfl rfl ?_
            refine wx_iconst (nI 3) kc97_56 (by decide) ?_
            refine wx_iload_n kc97_57 rfl rfl ?_
            refine wx_bipush (nI 59) kc97_58 (by decide) ?_
            refine wn_icmp_le kc97_60 (by omega) (by decide) (fun hq60 => ?_) (fun hq60 => ?_)
            · skip
              refine wx_iconst (nI 0) kc97_67 (by decide) ?_
              have em : 0 = (if 59 < s 0 1 - z - 1 then 1 else 0) := by first | rw [if_pos (by omega)] | rw [if_neg (by omega)]
              refine Eq.mpr (congrArg (fun y => zm_wp _ 97 68 [.ref 194, .int (nI z), .int (nI (s 0 1 - z - 1)), .int (zna (zwt (zt0 s) 0 z 0)), zm_un, zm_un] [.int (nI y), .int (nI 3), .ref 194] (zmh h0 t1) Q) em) ?_
              show zm_wp _ 97 68 [.ref 194, .int (nI z), .int (nI (s 0 1 - z - 1)), .int (zna (zwt (zt0 s) 0 z 0)), zm_un, zm_un] [.int (nI (if 59 < s 0 1 - z - 1 then 1 else 0)), .int (nI 3), .ref 194] (zmh h0 t1) _
              refine wx_virtual kc97_68 rfl (zmh_is hS 194 8 (by decide) (by decide) rfl) rfl ?_
              refine dM_newFile hS k1.1 k1.2.1 (by decide) (by split <;> omega) a17 a19 a18 aq al ?_
              intro t2 p2 m2 n2
              show zm_wp _ 97 71 [.ref 194, .int (nI z), .int (nI (s 0 1 - z - 1)), .int (zna (zwt (zt0 s) 0 z 0)), zm_un, zm_un] [.int ((zsNew (zt0 s) 3 (if 59 < s 0 1 - z - 1 then 1 else 0) (zwt (zt0 s) 0 z 0).2.2.1 (zwt (zt0 s) 0 z 0).2.2.2.1).1)] (zmh h0 t2) _
              have rc := zsNew_cs (zt0 s) 3 (if 59 < s 0 1 - z - 1 then 1 else 0) (zwt (zt0 s) 0 z 0).2.2.1 (zwt (zt0 s) 0 z 0).2.2.2.1
              refine wx_istore (ls' := [.ref 194, .int (nI z), .int (nI (s 0 1 - z - 1)), .int (zna (zwt (zt0 s) 0 z 0)), .int ((zsNew (zt0 s) 3 (if 59 < s 0 1 - z - 1 then 1 else 0) (zwt (zt0 s) 0 z 0).2.2.1 (zwt (zt0 s) 0 z 0).2.2.2.1).1), zm_un]) kc97_71 rfl rfl rfl rfl ?_
              refine wx_iload kc97_73 rfl rfl ?_
              refine wx_if_ge kc97_75 (fun hq75 => ?_) (fun hq75 => ?_)
              · skip
                obtain ⟨r1, r2⟩ : (zsNew (zt0 s) 3 (if 59 < s 0 1 - z - 1 then 1 else 0) (zwt (zt0 s) 0 z 0).2.2.1 (zwt (zt0 s) 0 z 0).2.2.2.1).1 = nI (zfx (zt0 s) 39 2) ∧ zfx (zt0 s) 39 2 ≤ 40 := rc.elim (fun z => absurd z (Int32.not_lt.mpr hq75)) id
                have r3 : ((zsNew (zt0 s) 3 (if 59 < s 0 1 - z - 1 then 1 else 0) (zwt (zt0 s) 0 z 0).2.2.1 (zwt (zt0 s) 0 z 0).2.2.2.1).1).toNatClampNeg = zfx (zt0 s) 39 2 := by rw [r1]; exact nI_clamp (by omega)
                obtain ⟨f, hf⟩ : ∃ y, y = zfx (zt0 s) 39 2 := ⟨_, rfl⟩
                rw [← hf] at r1 r2 r3
                rw [r1]
                show zm_wp _ 97 81 [.ref 194, .int (nI z), .int (nI (s 0 1 - z - 1)), .int (zna (zwt (zt0 s) 0 z 0)), .int (nI f), zm_un] [] (zmh h0 t2) _
                have n3 : ∀ i, i < s 0 1 → t2 2 i = s 1 i := fun i hi => (n2 i).trans (k1.2.2.1 i hi)
                have hB2 := zMIb m2
                refine wx_aload_n kc97_81 rfl rfl ?_
                refine wm_getf (.ref 200) hS kc97_82 rfl ?_
                refine wx_iload kc97_85 rfl rfl ?_
                refine wx_iload_n kc97_87 rfl rfl ?_
                refine wm_iast (v := (s 0 1 - z - 1)) 200 41 hS kc97_88 rfl rfl rfl rfl (by omega) rfl ?_
                refine wx_iconst (nI 0) kc97_89 (by decide) ?_
                refine wx_istore (ls' := [.ref 194, .int (nI z), .int (nI (s 0 1 - z - 1)), .int (zna (zwt (zt0 s) 0 z 0)), .int (nI f), .int (nI 0)]) kc97_90 rfl rfl rfl rfl ?_
                show zm_wp _ 97 92 [.ref 194, .int (nI z), .int (nI (s 0 1 - z - 1)), .int (zna (zwt (zt0 s) 0 z 0)), .int (nI f), .int (nI 0)] [] (zmh h0 (zup t2 6 f (s 0 1 - z - 1))) _
                rw [← zwr_0 (zup t2 6 f (s 0 1 - z - 1)) 7 (1000 * f) (fun i => s 1 (z + 1 + i))]
                refine lM_symlink (z := z) (f := f) (nn := s 0 1 - z - 1) (T := s 0 1) (s := s) hS (zMI_up m2 (a := 6) (j := f) (v := s 0 1 - z - 1) (show s 0 1 - z - 1 ≤ 1000 by omega)) hT n3 (by omega) (by omega) r2 ?_ (s 0 1 - z - 1) 0 (by omega)
                have e : zsSym s = ((zsNew (zt0 s) 3 (if 59 < s 0 1 - z - 1 then 1 else 0) (zwt (zt0 s) 0 z 0).2.2.1 (zwt (zt0 s) 0 z 0).2.2.2.1).1, zwr (zup (zsNew (zt0 s) 3 (if 59 < s 0 1 - z - 1 then 1 else 0) (zwt (zt0 s) 0 z 0).2.2.1 (zwt (zt0 s) 0 z 0).2.2.2.1).2 6 f (s 0 1 - z - 1)) 7 (1000 * f) (s 0 1 - z - 1) (fun i => s 1 (z + 1 + i))) := by
                  unfold zsSym
                  rw [hz3, if_neg (fun y => y.elim hz0 (fun y => by omega)), if_neg (fun z => z z1), if_neg (by omega)]
                  unfold zsSy1
                  rw [if_neg (Int32.not_lt.mpr hq75), r3]
                rw [e] at hq
                rw [← r1]
                exact hq _ (zPE_wr (zPE_up p2 6 f _) 7 _ _ (fun _ _ => rfl)) (zMI_wr (zMI_up m2 (a := 6) (j := f) (v := s 0 1 - z - 1) (show s 0 1 - z - 1 ≤ 1000 by omega)) (fun i _ => show s 1 _ ≤ 255 from hI 1 _))
              · skip
                refine wx_iload kc97_78 rfl rfl ?_
                refine wx_ireturn kc97_80 rfl rfl ?_
                have e : zsSym s = ((zsNew (zt0 s) 3 (if 59 < s 0 1 - z - 1 then 1 else 0) (zwt (zt0 s) 0 z 0).2.2.1 (zwt (zt0 s) 0 z 0).2.2.2.1).1, (zsNew (zt0 s) 3 (if 59 < s 0 1 - z - 1 then 1 else 0) (zwt (zt0 s) 0 z 0).2.2.1 (zwt (zt0 s) 0 z 0).2.2.2.1).2) := by
                  unfold zsSym
                  rw [hz3, if_neg (fun y => y.elim hz0 (fun y => by omega))]
                  rw [if_neg (fun z => z z1)]
                  rw [if_neg (by omega)]
                  unfold zsSy1
                  rw [if_pos (Int32.not_le.mp hq75)]
                rw [e] at hq
                exact hq _ p2 m2
            · skip
              refine wx_iconst (nI 1) kc97_63 (by decide) ?_
              refine wx_goto kc97_64 ?_
              have em : 1 = (if 59 < s 0 1 - z - 1 then 1 else 0) := by first | rw [if_pos (by omega)] | rw [if_neg (by omega)]
              refine Eq.mpr (congrArg (fun y => zm_wp _ 97 68 [.ref 194, .int (nI z), .int (nI (s 0 1 - z - 1)), .int (zna (zwt (zt0 s) 0 z 0)), zm_un, zm_un] [.int (nI y), .int (nI 3), .ref 194] (zmh h0 t1) Q) em) ?_
              show zm_wp _ 97 68 [.ref 194, .int (nI z), .int (nI (s 0 1 - z - 1)), .int (zna (zwt (zt0 s) 0 z 0)), zm_un, zm_un] [.int (nI (if 59 < s 0 1 - z - 1 then 1 else 0)), .int (nI 3), .ref 194] (zmh h0 t1) _
              refine wx_virtual kc97_68 rfl (zmh_is hS 194 8 (by decide) (by decide) rfl) rfl ?_
              refine dM_newFile hS k1.1 k1.2.1 (by decide) (by split <;> omega) a17 a19 a18 aq al ?_
              intro t2 p2 m2 n2
              show zm_wp _ 97 71 [.ref 194, .int (nI z), .int (nI (s 0 1 - z - 1)), .int (zna (zwt (zt0 s) 0 z 0)), zm_un, zm_un] [.int ((zsNew (zt0 s) 3 (if 59 < s 0 1 - z - 1 then 1 else 0) (zwt (zt0 s) 0 z 0).2.2.1 (zwt (zt0 s) 0 z 0).2.2.2.1).1)] (zmh h0 t2) _
              have rc := zsNew_cs (zt0 s) 3 (if 59 < s 0 1 - z - 1 then 1 else 0) (zwt (zt0 s) 0 z 0).2.2.1 (zwt (zt0 s) 0 z 0).2.2.2.1
              refine wx_istore (ls' := [.ref 194, .int (nI z), .int (nI (s 0 1 - z - 1)), .int (zna (zwt (zt0 s) 0 z 0)), .int ((zsNew (zt0 s) 3 (if 59 < s 0 1 - z - 1 then 1 else 0) (zwt (zt0 s) 0 z 0).2.2.1 (zwt (zt0 s) 0 z 0).2.2.2.1).1), zm_un]) kc97_71 rfl rfl rfl rfl ?_
              refine wx_iload kc97_73 rfl rfl ?_
              refine wx_if_ge kc97_75 (fun hq75 => ?_) (fun hq75 => ?_)
              · skip
                obtain ⟨r1, r2⟩ : (zsNew (zt0 s) 3 (if 59 < s 0 1 - z - 1 then 1 else 0) (zwt (zt0 s) 0 z 0).2.2.1 (zwt (zt0 s) 0 z 0).2.2.2.1).1 = nI (zfx (zt0 s) 39 2) ∧ zfx (zt0 s) 39 2 ≤ 40 := rc.elim (fun z => absurd z (Int32.not_lt.mpr hq75)) id
                have r3 : ((zsNew (zt0 s) 3 (if 59 < s 0 1 - z - 1 then 1 else 0) (zwt (zt0 s) 0 z 0).2.2.1 (zwt (zt0 s) 0 z 0).2.2.2.1).1).toNatClampNeg = zfx (zt0 s) 39 2 := by rw [r1]; exact nI_clamp (by omega)
                obtain ⟨f, hf⟩ : ∃ y, y = zfx (zt0 s) 39 2 := ⟨_, rfl⟩
                rw [← hf] at r1 r2 r3
                rw [r1]
                show zm_wp _ 97 81 [.ref 194, .int (nI z), .int (nI (s 0 1 - z - 1)), .int (zna (zwt (zt0 s) 0 z 0)), .int (nI f), zm_un] [] (zmh h0 t2) _
                have n3 : ∀ i, i < s 0 1 → t2 2 i = s 1 i := fun i hi => (n2 i).trans (k1.2.2.1 i hi)
                have hB2 := zMIb m2
                refine wx_aload_n kc97_81 rfl rfl ?_
                refine wm_getf (.ref 200) hS kc97_82 rfl ?_
                refine wx_iload kc97_85 rfl rfl ?_
                refine wx_iload_n kc97_87 rfl rfl ?_
                refine wm_iast (v := (s 0 1 - z - 1)) 200 41 hS kc97_88 rfl rfl rfl rfl (by omega) rfl ?_
                refine wx_iconst (nI 0) kc97_89 (by decide) ?_
                refine wx_istore (ls' := [.ref 194, .int (nI z), .int (nI (s 0 1 - z - 1)), .int (zna (zwt (zt0 s) 0 z 0)), .int (nI f), .int (nI 0)]) kc97_90 rfl rfl rfl rfl ?_
                show zm_wp _ 97 92 [.ref 194, .int (nI z), .int (nI (s 0 1 - z - 1)), .int (zna (zwt (zt0 s) 0 z 0)), .int (nI f), .int (nI 0)] [] (zmh h0 (zup t2 6 f (s 0 1 - z - 1))) _
                rw [← zwr_0 (zup t2 6 f (s 0 1 - z - 1)) 7 (1000 * f) (fun i => s 1 (z + 1 + i))]
                refine lM_symlink (z := z) (f := f) (nn := s 0 1 - z - 1) (T := s 0 1) (s := s) hS (zMI_up m2 (a := 6) (j := f) (v := s 0 1 - z - 1) (show s 0 1 - z - 1 ≤ 1000 by omega)) hT n3 (by omega) (by omega) r2 ?_ (s 0 1 - z - 1) 0 (by omega)
                have e : zsSym s = ((zsNew (zt0 s) 3 (if 59 < s 0 1 - z - 1 then 1 else 0) (zwt (zt0 s) 0 z 0).2.2.1 (zwt (zt0 s) 0 z 0).2.2.2.1).1, zwr (zup (zsNew (zt0 s) 3 (if 59 < s 0 1 - z - 1 then 1 else 0) (zwt (zt0 s) 0 z 0).2.2.1 (zwt (zt0 s) 0 z 0).2.2.2.1).2 6 f (s 0 1 - z - 1)) 7 (1000 * f) (s 0 1 - z - 1) (fun i => s 1 (z + 1 + i))) := by
                  unfold zsSym
                  rw [hz3, if_neg (fun y => y.elim hz0 (fun y => by omega)), if_neg (fun z => z z1), if_neg (by omega)]
                  unfold zsSy1
                  rw [if_neg (Int32.not_lt.mpr hq75), r3]
                rw [e] at hq
                rw [← r1]
                exact hq _ (zPE_wr (zPE_up p2 6 f _) 7 _ _ (fun _ _ => rfl)) (zMI_wr (zMI_up m2 (a := 6) (j := f) (v := s 0 1 - z - 1) (show s 0 1 - z - 1 ≤ 1000 by omega)) (fun i _ => show s 1 _ ≤ 255 from hI 1 _))
              · skip
                refine wx_iload kc97_78 rfl rfl ?_
                refine wx_ireturn kc97_80 rfl rfl ?_
                have e : zsSym s = ((zsNew (zt0 s) 3 (if 59 < s 0 1 - z - 1 then 1 else 0) (zwt (zt0 s) 0 z 0).2.2.1 (zwt (zt0 s) 0 z 0).2.2.2.1).1, (zsNew (zt0 s) 3 (if 59 < s 0 1 - z - 1 then 1 else 0) (zwt (zt0 s) 0 z 0).2.2.1 (zwt (zt0 s) 0 z 0).2.2.2.1).2) := by
                  unfold zsSym
                  rw [hz3, if_neg (fun y => y.elim hz0 (fun y => by omega))]
                  rw [if_neg (fun z => z z1)]
                  rw [if_neg (by omega)]
                  unfold zsSy1
                  rw [if_pos (Int32.not_le.mp hq75)]
                rw [e] at hq
                exact hq _ p2 m2
          · skip
            refine wx_bipush (-3) kc97_52 (by decide) ?_
            refine wx_ireturn kc97_54 rfl rfl ?_
            have e : zsSym s = (-3, zt0 s) := by
              unfold zsSym
              rw [hz3, if_neg (fun y => y.elim hz0 (fun y => by omega))]
              rw [if_neg (fun z => z z1)]
              rw [if_pos (by omega)]
            rw [e] at hq
            exact hq _ k1.1 k1.2.1
        · skip
          refine wx_iload_n kc97_43 rfl rfl ?_
          refine wx_ireturn kc97_44 rfl rfl ?_
          have e : zsSym s = (zna (zwt (zt0 s) 0 z 0), zt0 s) := by
            unfold zsSym
            rw [hz3, if_neg (fun y => y.elim hz0 (fun y => by omega))]
            rw [if_pos (znge hq40)]
          rw [e] at hq
          exact hq _ k1.1 k1.2.1
      · skip
        refine wx_iconst (-1) kc97_30 (by decide) ?_
        refine wx_ireturn kc97_31 rfl rfl ?_
        have e : zsSym s = (-1, zt0 s) := by
          unfold zsSym
          rw [hz3, if_pos (Or.inr (by omega))]
        rw [e] at hq
        exact hq _ k0.1 k0.2.1
  · skip
    have hm : zmtk s < 0 := by rw [y1]; decide
    refine wx_isub kc97_10 ?_
    refine wx_iconst (nI 1) kc97_11 (by decide) ?_
    refine wx_isub kc97_12 ?_
    refine wx_istore_n (ls' := [.ref 194, .int (zmtk s), .int (nI (s 0 1) - zmtk s - nI 1), zm_un, zm_un, zm_un]) kc97_13 rfl rfl rfl rfl ?_
    refine wx_iload_n kc97_14 rfl rfl ?_
    refine wx_if_lt kc97_15 (fun hq15 => ?_) (fun hq15 => ?_)
    · skip
      refine wx_iconst (-1) kc97_30 (by decide) ?_
      refine wx_ireturn kc97_31 rfl rfl ?_
      have e : zsSym s = (-1, zt0 s) := by
        unfold zsSym
        rw [if_pos (Or.inl hm)]
      rw [e] at hq
      exact hq _ k0.1 k0.2.1
    · skip
      exact absurd hm hq15
