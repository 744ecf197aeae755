theorem lM_take2 {d : Nat} {h0 : zm_H} {s : Nat → Nat → Nat} {Q : Option Value → zm_H → Prop}  (hS : zMS h0) (hB : ∀ a j, s a j < 2147483648) (ht : s 0 1 ≤ 1200) (hq : Q (some (.int (zmtk s))) (zmh h0 (zmts s))) : ∀ (n i : Nat), i + n = s 0 1 → zm_wp (d + 0) 76 68 [.ref 194, .int (ztkr (s 1) (s 0 1)), .int (nI (ztkz (s 1) i)), .int (nI i)] [] (zmh h0 (zwr (zup (zup s 0 3 (s 0 1)) 0 1 0) 2 0 (s 0 1) (fun i => s 1 i))) Q := by
  intro n
  induction n with
  | zero =>
    intro i hi
    have hz := zsum_le (g := fun k => if s 1 k = 0 then 1 else 0) (b := 1) i (fun k _ => by split <;> omega)
    have hz : ztkz (s 1) i ≤ i * 1 := hz
    refine wx_iload_n kc76_68 rfl rfl ?_
    refine wx_aload_n kc76_69 rfl rfl ?_
    refine wm_getf (.int (nI (s 0 1))) hS kc76_70 rfl ?_
    have hb73_1 := hB 0 1
    refine wn_icmp_ge kc76_73 (by omega) (hB _ _) (fun hq73 => ?_) (fun hq73 => ?_)
    · skip
      obtain rfl : i = s 0 1 := by omega
      refine wx_iload_n kc76_99 rfl rfl ?_
      refine wx_iconst (nI 1) kc76_100 (by decide) ?_
      refine wn_icmp_le kc76_101 (by omega) (by decide) (fun hq101 => ?_) (fun hq101 => ?_)
      · skip
        refine wx_iload_n kc76_109 rfl rfl ?_
        refine wx_ireturn kc76_110 rfl rfl ?_
        exact (show zmtk s = (ztkr (s 1) (s 0 1)) by unfold zmtk; first | rw [if_pos (by omega)] | rw [if_neg (by omega)]) ▸ hq
      · skip
        refine wx_bipush (-2) kc76_104 (by decide) ?_
        refine wx_goto kc76_106 ?_
        refine wx_ireturn kc76_110 rfl rfl ?_
        exact (show zmtk s = (-2) by unfold zmtk; first | rw [if_pos (by omega)] | rw [if_neg (by omega)]) ▸ hq
    · skip
      exact absurd hq73 (by omega)
  | succ n ih =>
    intro i hi
    have hz := zsum_le (g := fun k => if s 1 k = 0 then 1 else 0) (b := 1) i (fun k _ => by split <;> omega)
    have hz : ztkz (s 1) i ≤ i * 1 := hz
    refine wx_iload_n kc76_68 rfl rfl ?_
    refine wx_aload_n kc76_69 rfl rfl ?_
    refine wm_getf (.int (nI (s 0 1))) hS kc76_70 rfl ?_
    have hb73_1 := hB 0 1
    refine wn_icmp_ge kc76_73 (by omega) (hB _ _) (fun hq73 => ?_) (fun hq73 => ?_)
    · skip
      exact absurd hq73 (by omega)
    · skip
      refine wx_iload_n kc76_76 rfl rfl ?_
      refine wx_aload_n kc76_77 rfl rfl ?_
      refine wm_getf (.ref 196) hS kc76_78 rfl ?_
      refine wx_iload_n kc76_81 rfl rfl ?_
      refine wm_iald 196 1200 (s 1 i) hS kc76_82 rfl rfl rfl rfl (by omega) (fun _ => rfl) (by rw [show 196 - 194 = 2 from rfl, zwr_in _ _ (by omega) (by omega)]; rfl) ?_
      have hb83_2 := hB 1 i
      refine wn_if_ne kc76_83 (hB _ _) (fun hq83 => ?_) (fun hq83 => ?_)
      · skip
        refine wx_iconst (nI 0) kc76_90 (by decide) ?_
        refine wn_iadd ((ztkz (s 1) i) + 0) kc76_91 rfl ?_
        refine wx_istore_n (ls' := [.ref 194, .int (ztkr (s 1) (s 0 1)), .int (nI ((ztkz (s 1) i) + 0)), .int (nI i)]) kc76_92 rfl rfl rfl rfl ?_
        refine wn_iinc (i + 1) (ls' := [.ref 194, .int (ztkr (s 1) (s 0 1)), .int (nI ((ztkz (s 1) i) + 0)), .int (nI (i + 1))]) kc76_93 rfl rfl rfl rfl rfl ?_
        refine wx_goto kc76_96 ?_
        have he : ztkz (s 1) (i + 1) = ((ztkz (s 1) i) + 0) := by
          show ztkz (s 1) i + (if s 1 i = 0 then 1 else 0) = _
          first | rw [if_pos (by omega)] | rw [if_neg (by omega)]
        have hih := ih (i + 1) (by omega)
        rw [he] at hih
        exact hih
      · skip
        refine wx_iconst (nI 1) kc76_86 (by decide) ?_
        refine wx_goto kc76_87 ?_
        refine wn_iadd ((ztkz (s 1) i) + 1) kc76_91 rfl ?_
        refine wx_istore_n (ls' := [.ref 194, .int (ztkr (s 1) (s 0 1)), .int (nI ((ztkz (s 1) i) + 1)), .int (nI i)]) kc76_92 rfl rfl rfl rfl ?_
        refine wn_iinc (i + 1) (ls' := [.ref 194, .int (ztkr (s 1) (s 0 1)), .int (nI ((ztkz (s 1) i) + 1)), .int (nI (i + 1))]) kc76_93 rfl rfl rfl rfl rfl ?_
        refine wx_goto kc76_96 ?_
        have he : ztkz (s 1) (i + 1) = ((ztkz (s 1) i) + 1) := by
          show ztkz (s 1) i + (if s 1 i = 0 then 1 else 0) = _
          first | rw [if_pos (by omega)] | rw [if_neg (by omega)]
        have hih := ih (i + 1) (by omega)
        rw [he] at hih
        exact hih
theorem cM_take {d : Nat} {h0 : zm_H} {s : Nat → Nat → Nat} {Q : Option Value → zm_H → Prop}  (hS : zMS h0) (hB : ∀ a j, s a j < 2147483648) (ht : s 0 1 ≤ 1200) (hq : Q (some (.int (zmtk s))) (zmh h0 (zmts s))) : zm_wc (d + 1) mM_take [.ref 194] (zmh h0 s) Q := by
  refine zm_enter (Nat.le_of_ble_eq_true rfl) ?_
  show zm_wp _ 76 0 [.ref 194, zm_un, zm_un, zm_un] [] (zmh h0 s) Q
  refine wx_aload_n kc76_0 rfl rfl ?_
  refine wx_aload_n kc76_1 rfl rfl ?_
  refine wm_getf (.int (nI (s 0 1))) hS kc76_2 rfl ?_
  have hb5_1 := hB 0 1
  refine wm_putf (v := s 0 1) hS kc76_5 rfl rfl ?_
  refine wx_aload_n kc76_8 rfl rfl ?_
  refine wx_iconst (nI 0) kc76_9 (by decide) ?_
  refine wm_putf (v := 0) hS kc76_10 rfl rfl ?_
  refine wx_iconst (-1) kc76_13 (by decide) ?_
  refine wx_istore_n (ls' := [.ref 194, .int (-1), zm_un, zm_un]) kc76_14 rfl rfl rfl rfl ?_
  refine wx_iconst (nI 0) kc76_15 (by decide) ?_
  refine wx_istore_n (ls' := [.ref 194, .int (-1), .int (nI 0), zm_un]) kc76_16 rfl rfl rfl rfl ?_
  show zm_wp _ 76 17 [.ref 194, .int (-1), .int (nI 0), zm_un] [] (zmh h0 (zup (zup s 0 3 (s 0 1)) 0 1 0)) _
  rw [← zwr_0 (zup (zup s 0 3 (s 0 1)) 0 1 0) 2 0 (fun i => s 1 i)]
  refine lM_take1 hS hB ht ?_ (s 0 1) 0 (by omega)
  refine wx_iconst (nI 0) kc76_64 (by decide) ?_
  refine wx_istore_n (ls' := [.ref 194, .int (ztkr (s 1) (s 0 1)), .int (nI 0), zm_un]) kc76_65 rfl rfl rfl rfl ?_
  refine wx_iconst (nI 0) kc76_66 (by decide) ?_
  refine wx_istore_n (ls' := [.ref 194, .int (ztkr (s 1) (s 0 1)), .int (nI 0), .int (nI 0)]) kc76_67 rfl rfl rfl rfl ?_
  exact lM_take2 hS hB ht hq (s 0 1) 0 (by omega)
def zil (s : Nat → Nat → Nat) (k f n : Nat) : Nat → Nat
  | 0 => if s 10 k = n then 1 else 0
  | i + 1 => if zil s k f n i = 1 ∧ s 11 (255 * k + i) = s 12 (f + i) then 1 else 0
theorem zil_le (s : Nat → Nat → Nat) (k f n : Nat) : ∀ i, zil s k f n i ≤ 1
  | 0 => by unfold zil; split <;> omega
  | i + 1 => by unfold zil; split <;> omega
theorem zil_0 {s : Nat → Nat → Nat} {k f n : Nat} : ∀ (m i : Nat), zil s k f n i = 0 → zil s k f n (i + m) = 0
  | 0, i, h => h
  | m + 1, i, h => by
    show (if zil s k f n (i + m) = 1 ∧ s 11 (255 * k + (i + m)) = s 12 (f + (i + m)) then 1 else 0) = 0
    rw [zil_0 m i h, if_neg (by omega)]
theorem lM_isName {d : Nat} {h0 : zm_H} {s : Nat → Nat → Nat} {Q : Option Value → zm_H → Prop} {k f n : Nat} (hS : zMS h0) (hI : zMI s) (hk : k < 60) (hn : n ≤ 255) (hf : f + n ≤ 42000) (hq : Q (some (.int (nI (zil s k f n n)))) (zmh h0 s)) : ∀ (m i : Nat), i + m = n → zm_wp (d + 0) 84 20 [.ref 194, .int (nI k), .int (nI f), .int (nI n), .int (nI (zil s k f n i)), .int (nI i)] [] (zmh h0 s) Q := by
  have hB := zMIb hI
  intro m
  induction m with
  | zero =>
    intro i hi
    have hz := zil_le s k f n i
    have h11 : s 11 (255 * k + i) < 256 := Nat.lt_succ_of_le (hI 11 (255 * k + i))
    refine wx_iload kc84_20 rfl rfl ?_
    refine wx_iload_n kc84_22 rfl rfl ?_
    refine wn_icmp_ge kc84_23 (by omega) (by omega) (fun hq23 => ?_) (fun hq23 => ?_)
    · skip
      have hend : zil s k f n n = zil s k f n i := by
        rcases Nat.lt_or_ge i n with hlt | hge
        · have h0 : zil s k f n i = 0 := by omega
          have := zil_0 (n - i) i h0
          rw [show i + (n - i) = n by omega] at this
          omega
        · rw [show i = n by omega]
      rw [← hend]
      have hfit : zm_fit .boolean (.int (nI (zil s k f n n))) = true := by
        have := zil_le s k f n n
        rcases (show zil s k f n n = 0 ∨ zil s k f n n = 1 by omega) with e | e <;> rw [e] <;> decide
      refine wx_iload kc84_73 rfl rfl ?_
      refine wx_ireturn kc84_75 rfl hfit ?_
      exact hq
    · skip
      exact absurd hq23 (by omega)
  | succ m ih =>
    intro i hi
    have hz := zil_le s k f n i
    have h11 : s 11 (255 * k + i) < 256 := Nat.lt_succ_of_le (hI 11 (255 * k + i))
    refine wx_iload kc84_20 rfl rfl ?_
    refine wx_iload_n kc84_22 rfl rfl ?_
    refine wn_icmp_ge kc84_23 (by omega) (by omega) (fun hq23 => ?_) (fun hq23 => ?_)
    · skip
      have hend : zil s k f n n = zil s k f n i := by
        rcases Nat.lt_or_ge i n with hlt | hge
        · have h0 : zil s k f n i = 0 := by omega
          have := zil_0 (n - i) i h0
          rw [show i + (n - i) = n by omega] at this
          omega
        · rw [show i = n by omega]
      rw [← hend]
      have hfit : zm_fit .boolean (.int (nI (zil s k f n n))) = true := by
        have := zil_le s k f n n
        rcases (show zil s k f n n = 0 ∨ zil s k f n n = 1 by omega) with e | e <;> rw [e] <;> decide
      refine wx_iload kc84_73 rfl rfl ?_
      refine wx_ireturn kc84_75 rfl hfit ?_
      exact hq
    · skip
      refine wx_iload kc84_26 rfl rfl ?_
      refine wn_if_eq kc84_28 (by omega) (fun hq28 => ?_) (fun hq28 => ?_)
      · skip
        have hend : zil s k f n n = zil s k f n i := by
          rcases Nat.lt_or_ge i n with hlt | hge
          · have h0 : zil s k f n i = 0 := by omega
            have := zil_0 (n - i) i h0
            rw [show i + (n - i) = n by omega] at this
            omega
          · rw [show i = n by omega]
        rw [← hend]
        have hfit : zm_fit .boolean (.int (nI (zil s k f n n))) = true := by
          have := zil_le s k f n n
          rcases (show zil s k f n n = 0 ∨ zil s k f n n = 1 by omega) with e | e <;> rw [e] <;> decide
        refine wx_iload kc84_73 rfl rfl ?_
        refine wx_ireturn kc84_75 rfl hfit ?_
        exact hq
      · skip
        have hi1 : zil s k f n i = 1 := by omega
        refine wx_aload_n kc84_31 rfl rfl ?_
        refine wm_getf (.ref 205) hS kc84_32 rfl ?_
        refine wx_sipush (nI 255) kc84_35 (by decide) ?_
        refine wx_iload_n kc84_38 rfl rfl ?_
        refine wn_imul (255 * k) kc84_39 rfl ?_
        refine wx_iload kc84_40 rfl rfl ?_
        refine wn_iadd ((255 * k) + i) kc84_42 rfl ?_
        refine wm_bald 205 15300 (s 11 ((255 * k) + i)) hS kc84_43 rfl rfl rfl rfl (by omega) (fun _ => rfl) rfl ?_
        refine wx_sipush (nI 255) kc84_44 (by decide) ?_
        refine wx_iand kc84_47 ?_
        rw [zsg_and h11]
        refine wx_aload_n kc84_48 rfl rfl ?_
        refine wm_getf (.ref 206) hS kc84_49 rfl ?_
        refine wx_iload_n kc84_52 rfl rfl ?_
        refine wx_iload kc84_53 rfl rfl ?_
        refine wn_iadd (f + i) kc84_55 rfl ?_
        refine wm_iald 206 42000 (s 12 (f + i)) hS kc84_56 rfl rfl rfl rfl (by omega) (fun _ => rfl) rfl ?_
        have hb57_1 := hB 12 (f + i)
        refine wn_icmp_ne kc84_57 (hB _ _) (hB _ _) (fun hq57 => ?_) (fun hq57 => ?_)
        · skip
          refine wx_iconst (nI 0) kc84_64 (by decide) ?_
          refine wx_istore (ls' := [.ref 194, .int (nI k), .int (nI f), .int (nI n), .int (nI 0), .int (nI i)]) kc84_65 rfl rfl rfl rfl ?_
          refine wn_iinc (i + 1) (ls' := [.ref 194, .int (nI k), .int (nI f), .int (nI n), .int (nI 0), .int (nI (i + 1))]) kc84_67 rfl rfl rfl rfl rfl ?_
          refine wx_goto kc84_70 ?_
          have he : zil s k f n (i + 1) = 0 := by
            show (if zil s k f n i = 1 ∧ s 11 (255 * k + i) = s 12 (f + i) then 1 else 0) = _
            first | rw [if_pos (by omega)] | rw [if_neg (by omega)]
          have hih := ih (i + 1) (by omega)
          rw [he] at hih
          exact hih
        · skip
          refine wx_iconst (nI 1) kc84_60 (by decide) ?_
          refine wx_goto kc84_61 ?_
          refine wx_istore (ls' := [.ref 194, .int (nI k), .int (nI f), .int (nI n), .int (nI 1), .int (nI i)]) kc84_65 rfl rfl rfl rfl ?_
          refine wn_iinc (i + 1) (ls' := [.ref 194, .int (nI k), .int (nI f), .int (nI n), .int (nI 1), .int (nI (i + 1))]) kc84_67 rfl rfl rfl rfl rfl ?_
          refine wx_goto kc84_70 ?_
          have he : zil s k f n (i + 1) = 1 := by
            show (if zil s k f n i = 1 ∧ s 11 (255 * k + i) = s 12 (f + i) then 1 else 0) = _
            first | rw [if_pos (by omega)] | rw [if_neg (by omega)]
          have hih := ih (i + 1) (by omega)
          rw [he] at hih
          exact hih
theorem cM_isName {d : Nat} {h0 : zm_H} {s : Nat → Nat → Nat} {Q : Option Value → zm_H → Prop} {k f n : Nat} (hS : zMS h0) (hI : zMI s) (hk : k < 60) (hn : n ≤ 255) (hf : f + n ≤ 42000) (hq : Q (some (.int (nI (zil s k f n n)))) (zmh h0 s)) : zm_wc (d + 1) mM_isName [.ref 194, .int (nI k), .int (nI f), .int (nI n)] (zmh h0 s) Q := by
  refine zm_enter (Nat.le_of_ble_eq_true rfl) ?_
  show zm_wp _ 84 0 [.ref 194, .int (nI k), .int (nI f), .int (nI n), zm_un, zm_un] [] (zmh h0 s) Q
  have hB := zMIb hI
  refine wx_aload_n kc84_0 rfl rfl ?_
  refine wm_getf (.ref 204) hS kc84_1 rfl ?_
  refine wx_iload_n kc84_4 rfl rfl ?_
  refine wm_iald 204 60 (s 10 k) hS kc84_5 rfl rfl rfl rfl (by omega) (fun _ => rfl) rfl ?_
  have hb6_1 := hB 10 k
  refine wx_iload_n kc84_6 rfl rfl ?_
  refine wn_icmp_ne kc84_7 (hB _ _) (by omega) (fun hq7 => ?_) (fun hq7 => ?_)
  · skip
    refine wx_iconst (nI 0) kc84_14 (by decide) ?_
    refine wx_istore (ls' := [.ref 194, .int (nI k), .int (nI f), .int (nI n), .int (nI 0), zm_un]) kc84_15 rfl rfl rfl rfl ?_
    refine wx_iconst (nI 0) kc84_17 (by decide) ?_
    refine wx_istore (ls' := [.ref 194, .int (nI k), .int (nI f), .int (nI n), .int (nI 0), .int (nI 0)]) kc84_18 rfl rfl rfl rfl ?_
    have he : zil s k f n 0 = 0 := by
      show (if s 10 k = n then 1 else 0) = _
      first | rw [if_pos (by omega)] | rw [if_neg (by omega)]
    have hih := lM_isName (d := d) hS hI hk hn hf hq n 0 (by omega)
    rw [he] at hih
    exact hih
  · skip
    refine wx_iconst (nI 1) kc84_10 (by decide) ?_
    refine wx_goto kc84_11 ?_
    refine wx_istore (ls' := [.ref 194, .int (nI k), .int (nI f), .int (nI n), .int (nI 1), zm_un]) kc84_15 rfl rfl rfl rfl ?_
    refine wx_iconst (nI 0) kc84_17 (by decide) ?_
    refine wx_istore (ls' := [.ref 194, .int (nI k), .int (nI f), .int (nI n), .int (nI 1), .int (nI 0)]) kc84_18 rfl rfl rfl rfl ?_
    have he : zil s k f n 0 = 1 := by
      show (if s 10 k = n then 1 else 0) = _
      first | rw [if_pos (by omega)] | rw [if_neg (by omega)]
    have hih := lM_isName (d := d) hS hI hk hn hf hq n 0 (by omega)
    rw [he] at hih
    exact hih
def zfn (s : Nat → Nat → Nat) (g f n : Nat) : Nat → Int32
  | 0 => -1
  | k + 1 => if s 8 k = g ∧ zil s k f n n = 1 then nI k else zfn s g f n k
theorem lM_findName {d : Nat} {h0 : zm_H} {s : Nat → Nat → Nat} {Q : Option Value → zm_H → Prop} {g f n : Nat} (hS : zMS h0) (hI : zMI s) (hg : g < 2147483648) (hn : n ≤ 255) (hf : f + n ≤ 42000) (hq : Q (some (.int (zfn s g f n (s 0 10)))) (zmh h0 s)) : ∀ (m i : Nat), i + m = s 0 10 → zm_wp (d + 1) 85 6 [.ref 194, .int (nI g), .int (nI f), .int (nI n), .int (zfn s g f n i), .int (nI i)] [] (zmh h0 s) Q := by
  have hB := zMIb hI
  intro m
  induction m with
  | zero =>
    intro i hi
    have hz := zil_le s i f n n
    have hN : s 0 10 ≤ 60 := hI 0 10
    refine wx_iload kc85_6 rfl rfl ?_
    refine wx_aload_n kc85_8 rfl rfl ?_
    refine wm_getf (.int (nI (s 0 10))) hS kc85_9 rfl ?_
    have hb12_1 := hB 0 10
    refine wn_icmp_ge kc85_12 (by omega) (hB _ _) (fun hq12 => ?_) (fun hq12 => ?_)
    · skip
      refine wx_iload kc85_52 rfl rfl ?_
      refine wx_ireturn kc85_54 rfl rfl ?_
      obtain rfl : i = s 0 10 := by omega
      exact hq
    · skip
      exact absurd hq12 (by omega)
  | succ m ih =>
    intro i hi
    have hz := zil_le s i f n n
    have hN : s 0 10 ≤ 60 := hI 0 10
    refine wx_iload kc85_6 rfl rfl ?_
    refine wx_aload_n kc85_8 rfl rfl ?_
    refine wm_getf (.int (nI (s 0 10))) hS kc85_9 rfl ?_
    have hb12_1 := hB 0 10
    refine wn_icmp_ge kc85_12 (by omega) (hB _ _) (fun hq12 => ?_) (fun hq12 => ?_)
    · skip
      refine wx_iload kc85_52 rfl rfl ?_
      refine wx_ireturn kc85_54 rfl rfl ?_
      obtain rfl : i = s 0 10 := by omega
      exact hq
    · skip
      refine wx_aload_n kc85_15 rfl rfl ?_
      refine wm_getf (.ref 202) hS kc85_16 rfl ?_
      refine wx_iload kc85_19 rfl rfl ?_
      refine wm_iald 202 60 (s 8 i) hS kc85_21 rfl rfl rfl rfl (by omega) (fun _ => rfl) rfl ?_
      have hb22_2 := hB 8 i
      refine wx_iload_n kc85_22 rfl rfl ?_
      refine wn_icmp_ne kc85_23 (hB _ _) (by omega) (fun hq23 => ?_) (fun hq23 => ?_)
      · skip
        refine wx_iload kc85_42 rfl rfl ?_
        refine wx_istore (ls' := [.ref 194, .int (nI g), .int (nI f), .int (nI n), .int (zfn s g f n i), .int (nI i)]) kc85_44 rfl rfl rfl rfl ?_
        refine wn_iinc (i + 1) (ls' := [.ref 194, .int (nI g), .int (nI f), .int (nI n), .int (zfn s g f n i), .int (nI (i + 1))]) kc85_46 rfl rfl rfl rfl rfl ?_
        refine wx_goto kc85_49 ?_
        have he : zfn s g f n (i + 1) = (zfn s g f n i) := by
          show (if s 8 i = g ∧ zil s i f n n = 1 then nI i else zfn s g f n i) = _
          first | rw [if_pos (by omega)] | rw [if_neg (by omega)]
        have hih := ih (i + 1) (by omega)
        rw [he] at hih
        exact hih
      · skip
        refine wx_aload_n kc85_26 rfl rfl ?_
        refine wx_iload kc85_27 rfl rfl ?_
        refine wx_iload_n kc85_29 rfl rfl ?_
        refine wx_iload_n kc85_30 rfl rfl ?_
        refine wx_virtual kc85_31 rfl (zmh_is hS 194 8 (by decide) (by decide) rfl) rfl ?_
        refine cM_isName hS hI (by omega) hn hf ?_
        show zm_wp _ 85 34 [.ref 194, .int (nI g), .int (nI f), .int (nI n), .int (zfn s g f n i), .int (nI i)] [.int (nI (zil s i f n n))] (zmh h0 s) _
        refine wn_if_eq kc85_34 (by omega) (fun hq34 => ?_) (fun hq34 => ?_)
        · skip
          refine wx_iload kc85_42 rfl rfl ?_
          refine wx_istore (ls' := [.ref 194, .int (nI g), .int (nI f), .int (nI n), .int (zfn s g f n i), .int (nI i)]) kc85_44 rfl rfl rfl rfl ?_
          refine wn_iinc (i + 1) (ls' := [.ref 194, .int (nI g), .int (nI f), .int (nI n), .int (zfn s g f n i), .int (nI (i + 1))]) kc85_46 rfl rfl rfl rfl rfl ?_
          refine wx_goto kc85_49 ?_
          have he : zfn s g f n (i + 1) = (zfn s g f n i) := by
            show (if s 8 i = g ∧ zil s i f n n = 1 then nI i else zfn s g f n i) = _
            first | rw [if_pos (by omega)] | rw [if_neg (by omega)]
          have hih := ih (i + 1) (by omega)
          rw [he] at hih
          exact hih
        · skip
          refine wx_iload kc85_37 rfl rfl ?_
          refine wx_goto kc85_39 ?_
          refine wx_istore (ls' := [.ref 194, .int (nI g), .int (nI f), .int (nI n), .int (nI i), .int (nI i)]) kc85_44 rfl rfl rfl rfl ?_
          refine wn_iinc (i + 1) (ls' := [.ref 194, .int (nI g), .int (nI f), .int (nI n), .int (nI i), .int (nI (i + 1))]) kc85_46 rfl rfl rfl rfl rfl ?_
          refine wx_goto kc85_49 ?_
          have he : zfn s g f n (i + 1) = (nI i) := by
            show (if s 8 i = g ∧ zil s i f n n = 1 then nI i else zfn s g f n i) = _
            first | rw [if_pos (by omega)] | rw [if_neg (by omega)]
          have hih := ih (i + 1) (by omega)
          rw [he] at hih
          exact hih
theorem cM_findName {d : Nat} {h0 : zm_H} {s : Nat → Nat → Nat} {Q : Option Value → zm_H → Prop} {g f n : Nat} (hS : zMS h0) (hI : zMI s) (hg : g < 2147483648) (hn : n ≤ 255) (hf : f + n ≤ 42000) (hq : Q (some (.int (zfn s g f n (s 0 10)))) (zmh h0 s)) : zm_wc (d + 2) mM_findName [.ref 194, .int (nI g), .int (nI f), .int (nI n)] (zmh h0 s) Q := by
  refine zm_enter (Nat.le_of_ble_eq_true rfl) ?_
  show zm_wp _ 85 0 [.ref 194, .int (nI g), .int (nI f), .int (nI n), zm_un, zm_un] [] (zmh h0 s) Q
  have hB := zMIb hI
  refine wx_iconst (-1) kc85_0 (by decide) ?_
  refine wx_istore (ls' := [.ref 194, .int (nI g), .int (nI f), .int (nI n), .int (-1), zm_un]) kc85_1 rfl rfl rfl rfl ?_
  refine wx_iconst (nI 0) kc85_3 (by decide) ?_
  refine wx_istore (ls' := [.ref 194, .int (nI g), .int (nI f), .int (nI n), .int (-1), .int (nI 0)]) kc85_4 rfl rfl rfl rfl ?_
  exact lM_findName hS hI hg hn hf hq (s 0 10) 0 (by omega)
