/-! the reference's small methods, as functions of its numbers -/
def zsum (g : Nat → Nat) : Nat → Nat
  | 0 => 0
  | n + 1 => zsum g n + g n
theorem zsum_le {g : Nat → Nat} {b : Nat} : ∀ n, (∀ i, i < n → g i ≤ b) → zsum g n ≤ n * b
  | 0, _ => Nat.zero_le _
  | n + 1, h => by
    have h1 := zsum_le n (fun i hi => h i (by omega))
    have h2 := h n (by omega)
    show zsum g n + g n ≤ (n + 1) * b
    rw [Nat.succ_mul]
    omega
def zft (n : Nat) : Nat := if 3 < n then n else 1
/-- what the reference's numbers keep to -/
def zbd : Nat → Nat → Nat
  | 0, 0 => 200
  | 0, 1 => 1200
  | 0, 3 => 1200
  | 0, 10 => 60
  | 0, 16 => 42000
  | 0, 17 => 40
  | 0, 18 => 42000
  | 0, 19 => 42000
  | 0, 20 => 40
  | 0, 21 => 1
  | 0, _ => 2147483647
  | 3, _ => 3
  | 4, _ => 60
  | 5, _ => 101
  | 6, _ => 1000
  | 8, _ => 40
  | 9, _ => 40
  | _, _ => 255
theorem zbd_le (a j : Nat) : zbd a j ≤ 2147483647 := by
  unfold zbd
  split <;> decide
def zMI (s : Nat → Nat → Nat) : Prop := ∀ a j, s a j ≤ zbd a j
theorem zMIb {s : Nat → Nat → Nat} (h : zMI s) (a j : Nat) : s a j < 2147483648 := by
  have h1 := h a j
  have h2 := zbd_le a j
  omega
theorem zMI_up {s : Nat → Nat → Nat} (h : zMI s) {a j v : Nat} (hv : v ≤ zbd a j) : zMI (zup s a j v) := by
  intro b i
  by_cases hb : b = a ∧ i = j
  · obtain ⟨rfl, rfl⟩ := hb
    rw [zup_same]
    exact hv
  · rw [zup_ne _ _ hb]
    exact h b i
def zmt (s : Nat → Nat → Nat) (f : Nat) : Nat := if s 3 f = 0 then 0 else if s 3 f = 1 then 1 else if s 3 f = 3 then (if 59 < s 6 f then 1 else 0) else zft (s 4 f)
theorem zft_le {n : Nat} (h : n ≤ 60) : zft n ≤ 60 := by unfold zft; split <;> omega
theorem zmt_le {s : Nat → Nat → Nat} (hI : zMI s) (f : Nat) : zmt s f ≤ 60 := by
  have h4 : s 4 f ≤ 60 := hI 4 f
  unfold zmt
  split
  · omega
  · split
    · omega
    · split
      · split <;> omega
      · exact zft_le h4
def zmat (s : Nat → Nat → Nat) : Nat := zsum (fun k => zmt s (k + 1)) 40
def zmfc (s : Nat → Nat → Nat) : Nat := zsum (fun k => if 0 < s 3 (k + 1) then 1 else 0) 40
def zmno (s : Nat → Nat → Nat) (f : Nat) : Nat → Nat := zsum (fun k => if s 9 k = f then 1 else 0)
def zmni (s : Nat → Nat → Nat) (f : Nat) : Nat → Nat := zsum (fun k => if s 8 k = f then 1 else 0)
def zmpa (s : Nat → Nat → Nat) (f : Nat) : Nat → Nat
  | 0 => 1
  | n + 1 => if s 9 n = f then s 8 n else zmpa s f n
theorem zmpa_le {s : Nat → Nat → Nat} (hI : zMI s) (f : Nat) : ∀ n, zmpa s f n ≤ 40
  | 0 => Nat.le_of_ble_eq_true rfl
  | n + 1 => by
    unfold zmpa
    split
    · exact hI 8 n
    · exact zmpa_le hI f n

theorem cM_folderTakes {d : Nat} {h0 : zm_H} {s : Nat → Nat → Nat} {Q : Option Value → zm_H → Prop} {n : Nat} (hn : n < 2147483648) (hq : Q (some (.int (nI (zft n)))) (zmh h0 s)) : zm_wc (d + 1) mM_folderTakes [.int (nI n)] (zmh h0 s) Q := by
  refine zm_enter (Nat.le_of_ble_eq_true rfl) ?_
  show zm_wp _ 77 0 [.int (nI n)] [] (zmh h0 s) Q
  refine wx_iload_n kc77_0 rfl rfl ?_
  refine wx_iconst (nI 3) kc77_1 (by decide) ?_
  refine wn_icmp_le kc77_2 (by omega) (by decide) (fun hq2 => ?_) (fun hq2 => ?_)
  · skip
    refine wx_iconst (nI 1) kc77_9 (by decide) ?_
    refine wx_ireturn kc77_10 rfl rfl ?_
    exact (show zft n = 1 by unfold zft; split <;> omega) ▸ hq
  · skip
    refine wx_iload_n kc77_5 rfl rfl ?_
    refine wx_goto kc77_6 ?_
    refine wx_ireturn kc77_10 rfl rfl ?_
    exact (show zft n = n by unfold zft; split <;> omega) ▸ hq
theorem cM_takes {d : Nat} {h0 : zm_H} {s : Nat → Nat → Nat} {Q : Option Value → zm_H → Prop} {f : Nat} (hS : zMS h0) (hI : zMI s) (hf : f ≤ 40) (hq : Q (some (.int (nI (zmt s f)))) (zmh h0 s)) : zm_wc (d + 2) mM_takes [.ref 194, .int (nI f)] (zmh h0 s) Q := by
  refine zm_enter (Nat.le_of_ble_eq_true rfl) ?_
  show zm_wp _ 78 0 [.ref 194, .int (nI f)] [] (zmh h0 s) Q
  have hB := zMIb hI
  refine wx_aload_n kc78_0 rfl rfl ?_
  refine wm_getf (.ref 197) hS kc78_1 rfl ?_
  refine wx_iload_n kc78_4 rfl rfl ?_
  refine wm_iald 197 41 (s 3 f) hS kc78_5 rfl rfl rfl rfl (by omega) (fun _ => rfl) rfl ?_
  have hb6_1 := hB 3 f
  refine wn_if_ne kc78_6 (hB _ _) (fun hq6 => ?_) (fun hq6 => ?_)
  · skip
    refine wx_aload_n kc78_11 rfl rfl ?_
    refine wm_getf (.ref 197) hS kc78_12 rfl ?_
    refine wx_iload_n kc78_15 rfl rfl ?_
    refine wm_iald 197 41 (s 3 f) hS kc78_16 rfl rfl rfl rfl (by omega) (fun _ => rfl) rfl ?_
    have hb17_2 := hB 3 f
    refine wx_iconst (nI 1) kc78_17 (by decide) ?_
    refine wn_icmp_ne kc78_18 (hB _ _) (by decide) (fun hq18 => ?_) (fun hq18 => ?_)
    · skip
      refine wx_aload_n kc78_25 rfl rfl ?_
      refine wm_getf (.ref 197) hS kc78_26 rfl ?_
      refine wx_iload_n kc78_29 rfl rfl ?_
      refine wm_iald 197 41 (s 3 f) hS kc78_30 rfl rfl rfl rfl (by omega) (fun _ => rfl) rfl ?_
      have hb31_3 := hB 3 f
      refine wx_iconst (nI 3) kc78_31 (by decide) ?_
      refine wn_icmp_ne kc78_32 (hB _ _) (by decide) (fun hq32 => ?_) (fun hq32 => ?_)
      · skip
        refine wx_aload_n kc78_54 rfl rfl ?_
        refine wm_getf (.ref 198) hS kc78_55 rfl ?_
        refine wx_iload_n kc78_58 rfl rfl ?_
        refine wm_iald 198 41 (s 4 f) hS kc78_59 rfl rfl rfl rfl (by omega) (fun _ => rfl) rfl ?_
        have hb60_4 := hB 4 f
        refine wx_static kc78_60 rfl rfl rfl ?_
        refine cM_folderTakes (hB _ _) ?_
        show zm_wp _ 78 63 [.ref 194, .int (nI f)] [.int (nI (zft (s 4 f)))] (zmh h0 s) _
        refine wx_ireturn kc78_63 rfl rfl ?_
        exact (show zmt s f = (zft (s 4 f)) by unfold zmt; repeat (first | rw [if_pos (by omega)] | rw [if_neg (by omega)])) ▸ hq
      · skip
        refine wx_aload_n kc78_35 rfl rfl ?_
        refine wm_getf (.ref 200) hS kc78_36 rfl ?_
        refine wx_iload_n kc78_39 rfl rfl ?_
        refine wm_iald 200 41 (s 6 f) hS kc78_40 rfl rfl rfl rfl (by omega) (fun _ => rfl) rfl ?_
        have hb41_4 := hB 6 f
        refine wx_bipush (nI 59) kc78_41 (by decide) ?_
        refine wn_icmp_le kc78_43 (hB _ _) (by decide) (fun hq43 => ?_) (fun hq43 => ?_)
        · skip
          refine wx_iconst (nI 0) kc78_50 (by decide) ?_
          refine wx_goto kc78_51 ?_
          refine wx_ireturn kc78_63 rfl rfl ?_
          exact (show zmt s f = 0 by unfold zmt; repeat (first | rw [if_pos (by omega)] | rw [if_neg (by omega)])) ▸ hq
        · skip
          refine wx_iconst (nI 1) kc78_46 (by decide) ?_
          refine wx_goto kc78_47 ?_
          refine wx_ireturn kc78_63 rfl rfl ?_
          exact (show zmt s f = 1 by unfold zmt; repeat (first | rw [if_pos (by omega)] | rw [if_neg (by omega)])) ▸ hq
    · skip
      refine wx_iconst (nI 1) kc78_21 (by decide) ?_
      refine wx_goto kc78_22 ?_
      refine wx_ireturn kc78_63 rfl rfl ?_
      exact (show zmt s f = 1 by unfold zmt; repeat (first | rw [if_pos (by omega)] | rw [if_neg (by omega)])) ▸ hq
  · skip
    refine wx_iconst (nI 0) kc78_9 (by decide) ?_
    refine wx_ireturn kc78_10 rfl rfl ?_
    exact (show zmt s f = 0 by unfold zmt; repeat (first | rw [if_pos (by omega)] | rw [if_neg (by omega)])) ▸ hq
theorem lM_allTake {d : Nat} {h0 : zm_H} {s : Nat → Nat → Nat} {Q : Option Value → zm_H → Prop}  (hS : zMS h0) (hI : zMI s) (hq : Q (some (.int (nI (zmat s)))) (zmh h0 s)) : ∀ (n i : Nat), i + n = 40 → zm_wp (d + 2) 79 4 [.ref 194, .int (nI (zsum (fun k => zmt s (k + 1)) i)), .int (nI (i + 1))] [] (zmh h0 s) Q := by
  intro n
  induction n with
  | zero =>
    intro i hi
    have hz := zsum_le (g := fun k => zmt s (k + 1)) (b := 60) i (fun k _ => zmt_le hI (k + 1))
    refine wx_iload_n kc79_4 rfl rfl ?_
    refine wx_bipush (nI 40) kc79_5 (by decide) ?_
    refine wn_icmp_gt kc79_7 (by omega) (by decide) (fun hq7 => ?_) (fun hq7 => ?_)
    · skip
      refine wx_iload_n kc79_24 rfl rfl ?_
      refine wx_ireturn kc79_25 rfl rfl ?_
      obtain rfl : i = 40 := by omega
      exact hq
    · skip
      refine wx_iload_n kc79_10 rfl rfl ?_
      refine wx_aload_n kc79_11 rfl rfl ?_
      refine wx_iload_n kc79_12 rfl rfl ?_
      exact absurd hq7 (by omega)
  | succ n ih =>
    intro i hi
    have hz := zsum_le (g := fun k => zmt s (k + 1)) (b := 60) i (fun k _ => zmt_le hI (k + 1))
    refine wx_iload_n kc79_4 rfl rfl ?_
    refine wx_bipush (nI 40) kc79_5 (by decide) ?_
    refine wn_icmp_gt kc79_7 (by omega) (by decide) (fun hq7 => ?_) (fun hq7 => ?_)
    · skip
      refine wx_iload_n kc79_24 rfl rfl ?_
      refine wx_ireturn kc79_25 rfl rfl ?_
      obtain rfl : i = 40 := by omega
      exact hq
    · skip
      refine wx_iload_n kc79_10 rfl rfl ?_
      refine wx_aload_n kc79_11 rfl rfl ?_
      refine wx_iload_n kc79_12 rfl rfl ?_
      refine wx_virtual kc79_13 rfl (zmh_is hS 194 8 (by decide) (by decide) rfl) rfl ?_
      refine cM_takes hS hI (by omega) ?_
      show zm_wp _ 79 16 [.ref 194, .int (nI (zsum (fun k => zmt s (k + 1)) i)), .int (nI (i + 1))] [.int (nI (zmt s (i + 1))), .int (nI (zsum (fun k => zmt s (k + 1)) i))] (zmh h0 s) _
      refine wn_iadd ((zsum (fun k => zmt s (k + 1)) i) + (zmt s (i + 1))) kc79_16 rfl ?_
      refine wx_istore_n (ls' := [.ref 194, .int (nI ((zsum (fun k => zmt s (k + 1)) i) + (zmt s (i + 1)))), .int (nI (i + 1))]) kc79_17 rfl rfl rfl rfl ?_
      refine wn_iinc ((i + 1) + 1) (ls' := [.ref 194, .int (nI ((zsum (fun k => zmt s (k + 1)) i) + (zmt s (i + 1)))), .int (nI ((i + 1) + 1))]) kc79_18 rfl rfl rfl rfl rfl ?_
      refine wx_goto kc79_21 ?_
      exact ih (i + 1) (by omega)
theorem cM_allTake {d : Nat} {h0 : zm_H} {s : Nat → Nat → Nat} {Q : Option Value → zm_H → Prop}  (hS : zMS h0) (hI : zMI s) (hq : Q (some (.int (nI (zmat s)))) (zmh h0 s)) : zm_wc (d + 3) mM_allTake [.ref 194] (zmh h0 s) Q := by
  refine zm_enter (Nat.le_of_ble_eq_true rfl) ?_
  show zm_wp _ 79 0 [.ref 194, zm_un, zm_un] [] (zmh h0 s) Q
  refine wx_iconst (nI 0) kc79_0 (by decide) ?_
  refine wx_istore_n (ls' := [.ref 194, .int (nI 0), zm_un]) kc79_1 rfl rfl rfl rfl ?_
  refine wx_iconst (nI 1) kc79_2 (by decide) ?_
  refine wx_istore_n (ls' := [.ref 194, .int (nI 0), .int (nI 1)]) kc79_3 rfl rfl rfl rfl ?_
  exact lM_allTake hS hI hq 40 0 rfl
theorem lM_fileCount {d : Nat} {h0 : zm_H} {s : Nat → Nat → Nat} {Q : Option Value → zm_H → Prop}  (hS : zMS h0) (hI : zMI s) (hq : Q (some (.int (nI (zmfc s)))) (zmh h0 s)) : ∀ (n i : Nat), i + n = 40 → zm_wp (d + 0) 80 4 [.ref 194, .int (nI (zsum (fun k => if 0 < s 3 (k + 1) then 1 else 0) i)), .int (nI (i + 1))] [] (zmh h0 s) Q := by
  have hB := zMIb hI
  intro n
  induction n with
  | zero =>
    intro i hi
    have hz := zsum_le (g := fun k => if 0 < s 3 (k + 1) then 1 else 0) (b := 1) i (fun k _ => by split <;> omega)
    refine wx_iload_n kc80_4 rfl rfl ?_
    refine wx_bipush (nI 40) kc80_5 (by decide) ?_
    refine wn_icmp_gt kc80_7 (by omega) (by decide) (fun hq7 => ?_) (fun hq7 => ?_)
    · skip
      refine wx_iload_n kc80_33 rfl rfl ?_
      refine wx_ireturn kc80_34 rfl rfl ?_
      obtain rfl : i = 40 := by omega
      exact hq
    · skip
      exact absurd hq7 (by omega)
  | succ n ih =>
    intro i hi
    have hz := zsum_le (g := fun k => if 0 < s 3 (k + 1) then 1 else 0) (b := 1) i (fun k _ => by split <;> omega)
    refine wx_iload_n kc80_4 rfl rfl ?_
    refine wx_bipush (nI 40) kc80_5 (by decide) ?_
    refine wn_icmp_gt kc80_7 (by omega) (by decide) (fun hq7 => ?_) (fun hq7 => ?_)
    · skip
      refine wx_iload_n kc80_33 rfl rfl ?_
      refine wx_ireturn kc80_34 rfl rfl ?_
      obtain rfl : i = 40 := by omega
      exact hq
    · skip
      refine wx_iload_n kc80_10 rfl rfl ?_
      refine wx_aload_n kc80_11 rfl rfl ?_
      refine wm_getf (.ref 197) hS kc80_12 rfl ?_
      refine wx_iload_n kc80_15 rfl rfl ?_
      refine wm_iald 197 41 (s 3 (i + 1)) hS kc80_16 rfl rfl rfl rfl (by omega) (fun _ => rfl) rfl ?_
      have hb17_1 := hB 3 (i + 1)
      refine wn_if_le kc80_17 (hB _ _) (fun hq17 => ?_) (fun hq17 => ?_)
      · skip
        refine wx_iconst (nI 0) kc80_24 (by decide) ?_
        refine wn_iadd ((zsum (fun k => if 0 < s 3 (k + 1) then 1 else 0) i) + 0) kc80_25 rfl ?_
        refine wx_istore_n (ls' := [.ref 194, .int (nI ((zsum (fun k => if 0 < s 3 (k + 1) then 1 else 0) i) + 0)), .int (nI (i + 1))]) kc80_26 rfl rfl rfl rfl ?_
        refine wn_iinc ((i + 1) + 1) (ls' := [.ref 194, .int (nI ((zsum (fun k => if 0 < s 3 (k + 1) then 1 else 0) i) + 0)), .int (nI ((i + 1) + 1))]) kc80_27 rfl rfl rfl rfl rfl ?_
        refine wx_goto kc80_30 ?_
        have he : zsum (fun k => if 0 < s 3 (k + 1) then 1 else 0) (i + 1) = ((zsum (fun k => if 0 < s 3 (k + 1) then 1 else 0) i) + 0) := by
          show zsum (fun k => if 0 < s 3 (k + 1) then 1 else 0) i + (if 0 < s 3 (i + 1) then 1 else 0) = _
          first | rw [if_pos (by omega)] | rw [if_neg (by omega)]
        have hih := ih (i + 1) (by omega)
        rw [he] at hih
        exact hih
      · skip
        refine wx_iconst (nI 1) kc80_20 (by decide) ?_
        refine wx_goto kc80_21 ?_
        refine wn_iadd ((zsum (fun k => if 0 < s 3 (k + 1) then 1 else 0) i) + 1) kc80_25 rfl ?_
        refine wx_istore_n (ls' := [.ref 194, .int (nI ((zsum (fun k => if 0 < s 3 (k + 1) then 1 else 0) i) + 1)), .int (nI (i + 1))]) kc80_26 rfl rfl rfl rfl ?_
        refine wn_iinc ((i + 1) + 1) (ls' := [.ref 194, .int (nI ((zsum (fun k => if 0 < s 3 (k + 1) then 1 else 0) i) + 1)), .int (nI ((i + 1) + 1))]) kc80_27 rfl rfl rfl rfl rfl ?_
        refine wx_goto kc80_30 ?_
        have he : zsum (fun k => if 0 < s 3 (k + 1) then 1 else 0) (i + 1) = ((zsum (fun k => if 0 < s 3 (k + 1) then 1 else 0) i) + 1) := by
          show zsum (fun k => if 0 < s 3 (k + 1) then 1 else 0) i + (if 0 < s 3 (i + 1) then 1 else 0) = _
          first | rw [if_pos (by omega)] | rw [if_neg (by omega)]
        have hih := ih (i + 1) (by omega)
        rw [he] at hih
        exact hih
theorem cM_fileCount {d : Nat} {h0 : zm_H} {s : Nat → Nat → Nat} {Q : Option Value → zm_H → Prop}  (hS : zMS h0) (hI : zMI s) (hq : Q (some (.int (nI (zmfc s)))) (zmh h0 s)) : zm_wc (d + 1) mM_fileCount [.ref 194] (zmh h0 s) Q := by
  refine zm_enter (Nat.le_of_ble_eq_true rfl) ?_
  show zm_wp _ 80 0 [.ref 194, zm_un, zm_un] [] (zmh h0 s) Q
  refine wx_iconst (nI 0) kc80_0 (by decide) ?_
  refine wx_istore_n (ls' := [.ref 194, .int (nI 0), zm_un]) kc80_1 rfl rfl rfl rfl ?_
  refine wx_iconst (nI 1) kc80_2 (by decide) ?_
  refine wx_istore_n (ls' := [.ref 194, .int (nI 0), .int (nI 1)]) kc80_3 rfl rfl rfl rfl ?_
  exact lM_fileCount hS hI hq 40 0 rfl
theorem lM_namesOf {d : Nat} {h0 : zm_H} {s : Nat → Nat → Nat} {Q : Option Value → zm_H → Prop} {f : Nat} (hS : zMS h0) (hI : zMI s) (hf : f < 2147483648) (hq : Q (some (.int (nI (zmno s f (s 0 10))))) (zmh h0 s)) : ∀ (n i : Nat), i + n = (s 0 10) → zm_wp (d + 0) 81 4 [.ref 194, .int (nI f), .int (nI (zmno s f i)), .int (nI i)] [] (zmh h0 s) Q := by
  have hB := zMIb hI
  intro n
  induction n with
  | zero =>
    intro i hi
    have hz := zsum_le (g := fun k => if s 9 k = f then 1 else 0) (b := 1) i (fun k _ => by split <;> omega)
    have hz : zmno s f i ≤ i * 1 := hz
    have hN : s 0 10 ≤ 60 := hI 0 10
    refine wx_iload_n kc81_4 rfl rfl ?_
    refine wx_aload_n kc81_5 rfl rfl ?_
    refine wm_getf (.int (nI (s 0 10))) hS kc81_6 rfl ?_
    have hb9_1 := hB 0 10
    refine wn_icmp_ge kc81_9 (by omega) (hB _ _) (fun hq9 => ?_) (fun hq9 => ?_)
    · skip
      refine wx_iload_n kc81_36 rfl rfl ?_
      refine wx_ireturn kc81_37 rfl rfl ?_
      obtain rfl : i = s 0 10 := by omega
      exact hq
    · skip
      exact absurd hq9 (by omega)
  | succ n ih =>
    intro i hi
    have hz := zsum_le (g := fun k => if s 9 k = f then 1 else 0) (b := 1) i (fun k _ => by split <;> omega)
    have hz : zmno s f i ≤ i * 1 := hz
    have hN : s 0 10 ≤ 60 := hI 0 10
    refine wx_iload_n kc81_4 rfl rfl ?_
    refine wx_aload_n kc81_5 rfl rfl ?_
    refine wm_getf (.int (nI (s 0 10))) hS kc81_6 rfl ?_
    have hb9_1 := hB 0 10
    refine wn_icmp_ge kc81_9 (by omega) (hB _ _) (fun hq9 => ?_) (fun hq9 => ?_)
    · skip
      refine wx_iload_n kc81_36 rfl rfl ?_
      refine wx_ireturn kc81_37 rfl rfl ?_
      obtain rfl : i = s 0 10 := by omega
      exact hq
    · skip
      refine wx_iload_n kc81_12 rfl rfl ?_
      refine wx_aload_n kc81_13 rfl rfl ?_
      refine wm_getf (.ref 203) hS kc81_14 rfl ?_
      refine wx_iload_n kc81_17 rfl rfl ?_
      refine wm_iald 203 60 (s 9 i) hS kc81_18 rfl rfl rfl rfl (by omega) (fun _ => rfl) rfl ?_
      have hb19_2 := hB 9 i
      refine wx_iload_n kc81_19 rfl rfl ?_
      refine wn_icmp_ne kc81_20 (hB _ _) (by omega) (fun hq20 => ?_) (fun hq20 => ?_)
      · skip
        refine wx_iconst (nI 0) kc81_27 (by decide) ?_
        refine wn_iadd ((zmno s f i) + 0) kc81_28 rfl ?_
        refine wx_istore_n (ls' := [.ref 194, .int (nI f), .int (nI ((zmno s f i) + 0)), .int (nI i)]) kc81_29 rfl rfl rfl rfl ?_
        refine wn_iinc (i + 1) (ls' := [.ref 194, .int (nI f), .int (nI ((zmno s f i) + 0)), .int (nI (i + 1))]) kc81_30 rfl rfl rfl rfl rfl ?_
        refine wx_goto kc81_33 ?_
        have he : zmno s f (i + 1) = ((zmno s f i) + 0) := by
          show zmno s f i + (if s 9 i = f then 1 else 0) = _
          first | rw [if_pos (by omega)] | rw [if_neg (by omega)]
        have hih := ih (i + 1) (by omega)
        rw [he] at hih
        exact hih
      · skip
        refine wx_iconst (nI 1) kc81_23 (by decide) ?_
        refine wx_goto kc81_24 ?_
        refine wn_iadd ((zmno s f i) + 1) kc81_28 rfl ?_
        refine wx_istore_n (ls' := [.ref 194, .int (nI f), .int (nI ((zmno s f i) + 1)), .int (nI i)]) kc81_29 rfl rfl rfl rfl ?_
        refine wn_iinc (i + 1) (ls' := [.ref 194, .int (nI f), .int (nI ((zmno s f i) + 1)), .int (nI (i + 1))]) kc81_30 rfl rfl rfl rfl rfl ?_
        refine wx_goto kc81_33 ?_
        have he : zmno s f (i + 1) = ((zmno s f i) + 1) := by
          show zmno s f i + (if s 9 i = f then 1 else 0) = _
          first | rw [if_pos (by omega)] | rw [if_neg (by omega)]
        have hih := ih (i + 1) (by omega)
        rw [he] at hih
        exact hih
theorem cM_namesOf {d : Nat} {h0 : zm_H} {s : Nat → Nat → Nat} {Q : Option Value → zm_H → Prop} {f : Nat} (hS : zMS h0) (hI : zMI s) (hf : f < 2147483648) (hq : Q (some (.int (nI (zmno s f (s 0 10))))) (zmh h0 s)) : zm_wc (d + 1) mM_namesOf [.ref 194, .int (nI f)] (zmh h0 s) Q := by
  refine zm_enter (Nat.le_of_ble_eq_true rfl) ?_
  show zm_wp _ 81 0 [.ref 194, .int (nI f), zm_un, zm_un] [] (zmh h0 s) Q
  refine wx_iconst (nI 0) kc81_0 (by decide) ?_
  refine wx_istore_n (ls' := [.ref 194, .int (nI f), .int (nI 0), zm_un]) kc81_1 rfl rfl rfl rfl ?_
  refine wx_iconst (nI 0) kc81_2 (by decide) ?_
  refine wx_istore_n (ls' := [.ref 194, .int (nI f), .int (nI 0), .int (nI 0)]) kc81_3 rfl rfl rfl rfl ?_
  exact lM_namesOf hS hI hf hq (s 0 10) 0 (by omega)
theorem lM_namesIn {d : Nat} {h0 : zm_H} {s : Nat → Nat → Nat} {Q : Option Value → zm_H → Prop} {f : Nat} (hS : zMS h0) (hI : zMI s) (hf : f < 2147483648) (hq : Q (some (.int (nI (zmni s f (s 0 10))))) (zmh h0 s)) : ∀ (n i : Nat), i + n = (s 0 10) → zm_wp (d + 0) 82 4 [.ref 194, .int (nI f), .int (nI (zmni s f i)), .int (nI i)] [] (zmh h0 s) Q := by
  have hB := zMIb hI
  intro n
  induction n with
  | zero =>
    intro i hi
    have hz := zsum_le (g := fun k => if s 8 k = f then 1 else 0) (b := 1) i (fun k _ => by split <;> omega)
    have hz : zmni s f i ≤ i * 1 := hz
    have hN : s 0 10 ≤ 60 := hI 0 10
    refine wx_iload_n kc82_4 rfl rfl ?_
    refine wx_aload_n kc82_5 rfl rfl ?_
    refine wm_getf (.int (nI (s 0 10))) hS kc82_6 rfl ?_
    have hb9_1 := hB 0 10
    refine wn_icmp_ge kc82_9 (by omega) (hB _ _) (fun hq9 => ?_) (fun hq9 => ?_)
    · skip
      refine wx_iload_n kc82_36 rfl rfl ?_
      refine wx_ireturn kc82_37 rfl rfl ?_
      obtain rfl : i = s 0 10 := by omega
      exact hq
    · skip
      exact absurd hq9 (by omega)
  | succ n ih =>
    intro i hi
    have hz := zsum_le (g := fun k => if s 8 k = f then 1 else 0) (b := 1) i (fun k _ => by split <;> omega)
    have hz : zmni s f i ≤ i * 1 := hz
    have hN : s 0 10 ≤ 60 := hI 0 10
    refine wx_iload_n kc82_4 rfl rfl ?_
    refine wx_aload_n kc82_5 rfl rfl ?_
    refine wm_getf (.int (nI (s 0 10))) hS kc82_6 rfl ?_
    have hb9_1 := hB 0 10
    refine wn_icmp_ge kc82_9 (by omega) (hB _ _) (fun hq9 => ?_) (fun hq9 => ?_)
    · skip
      refine wx_iload_n kc82_36 rfl rfl ?_
      refine wx_ireturn kc82_37 rfl rfl ?_
      obtain rfl : i = s 0 10 := by omega
      exact hq
    · skip
      refine wx_iload_n kc82_12 rfl rfl ?_
      refine wx_aload_n kc82_13 rfl rfl ?_
      refine wm_getf (.ref 202) hS kc82_14 rfl ?_
      refine wx_iload_n kc82_17 rfl rfl ?_
      refine wm_iald 202 60 (s 8 i) hS kc82_18 rfl rfl rfl rfl (by omega) (fun _ => rfl) rfl ?_
      have hb19_2 := hB 8 i
      refine wx_iload_n kc82_19 rfl rfl ?_
      refine wn_icmp_ne kc82_20 (hB _ _) (by omega) (fun hq20 => ?_) (fun hq20 => ?_)
      · skip
        refine wx_iconst (nI 0) kc82_27 (by decide) ?_
        refine wn_iadd ((zmni s f i) + 0) kc82_28 rfl ?_
        refine wx_istore_n (ls' := [.ref 194, .int (nI f), .int (nI ((zmni s f i) + 0)), .int (nI i)]) kc82_29 rfl rfl rfl rfl ?_
        refine wn_iinc (i + 1) (ls' := [.ref 194, .int (nI f), .int (nI ((zmni s f i) + 0)), .int (nI (i + 1))]) kc82_30 rfl rfl rfl rfl rfl ?_
        refine wx_goto kc82_33 ?_
        have he : zmni s f (i + 1) = ((zmni s f i) + 0) := by
          show zmni s f i + (if s 8 i = f then 1 else 0) = _
          first | rw [if_pos (by omega)] | rw [if_neg (by omega)]
        have hih := ih (i + 1) (by omega)
        rw [he] at hih
        exact hih
      · skip
        refine wx_iconst (nI 1) kc82_23 (by decide) ?_
        refine wx_goto kc82_24 ?_
        refine wn_iadd ((zmni s f i) + 1) kc82_28 rfl ?_
        refine wx_istore_n (ls' := [.ref 194, .int (nI f), .int (nI ((zmni s f i) + 1)), .int (nI i)]) kc82_29 rfl rfl rfl rfl ?_
        refine wn_iinc (i + 1) (ls' := [.ref 194, .int (nI f), .int (nI ((zmni s f i) + 1)), .int (nI (i + 1))]) kc82_30 rfl rfl rfl rfl rfl ?_
        refine wx_goto kc82_33 ?_
        have he : zmni s f (i + 1) = ((zmni s f i) + 1) := by
          show zmni s f i + (if s 8 i = f then 1 else 0) = _
          first | rw [if_pos (by omega)] | rw [if_neg (by omega)]
        have hih := ih (i + 1) (by omega)
        rw [he] at hih
        exact hih
theorem cM_namesIn {d : Nat} {h0 : zm_H} {s : Nat → Nat → Nat} {Q : Option Value → zm_H → Prop} {f : Nat} (hS : zMS h0) (hI : zMI s) (hf : f < 2147483648) (hq : Q (some (.int (nI (zmni s f (s 0 10))))) (zmh h0 s)) : zm_wc (d + 1) mM_namesIn [.ref 194, .int (nI f)] (zmh h0 s) Q := by
  refine zm_enter (Nat.le_of_ble_eq_true rfl) ?_
  show zm_wp _ 82 0 [.ref 194, .int (nI f), zm_un, zm_un] [] (zmh h0 s) Q
  refine wx_iconst (nI 0) kc82_0 (by decide) ?_
  refine wx_istore_n (ls' := [.ref 194, .int (nI f), .int (nI 0), zm_un]) kc82_1 rfl rfl rfl rfl ?_
  refine wx_iconst (nI 0) kc82_2 (by decide) ?_
  refine wx_istore_n (ls' := [.ref 194, .int (nI f), .int (nI 0), .int (nI 0)]) kc82_3 rfl rfl rfl rfl ?_
  exact lM_namesIn hS hI hf hq (s 0 10) 0 (by omega)
theorem lM_parent {d : Nat} {h0 : zm_H} {s : Nat → Nat → Nat} {Q : Option Value → zm_H → Prop} {f : Nat} (hS : zMS h0) (hI : zMI s) (hf : f < 2147483648) (hq : Q (some (.int (nI (zmpa s f (s 0 10))))) (zmh h0 s)) : ∀ (n i : Nat), i + n = (s 0 10) → zm_wp (d + 0) 83 4 [.ref 194, .int (nI f), .int (nI (zmpa s f i)), .int (nI i)] [] (zmh h0 s) Q := by
  have hB := zMIb hI
  intro n
  induction n with
  | zero =>
    intro i hi
    have hz := zmpa_le hI f i
    have hN : s 0 10 ≤ 60 := hI 0 10
    refine wx_iload_n kc83_4 rfl rfl ?_
    refine wx_aload_n kc83_5 rfl rfl ?_
    refine wm_getf (.int (nI (s 0 10))) hS kc83_6 rfl ?_
    have hb9_1 := hB 0 10
    refine wn_icmp_ge kc83_9 (by omega) (hB _ _) (fun hq9 => ?_) (fun hq9 => ?_)
    · skip
      refine wx_iload_n kc83_39 rfl rfl ?_
      refine wx_ireturn kc83_40 rfl rfl ?_
      obtain rfl : i = s 0 10 := by omega
      exact hq
    · skip
      exact absurd hq9 (by omega)
  | succ n ih =>
    intro i hi
    have hz := zmpa_le hI f i
    have hN : s 0 10 ≤ 60 := hI 0 10
    refine wx_iload_n kc83_4 rfl rfl ?_
    refine wx_aload_n kc83_5 rfl rfl ?_
    refine wm_getf (.int (nI (s 0 10))) hS kc83_6 rfl ?_
    have hb9_1 := hB 0 10
    refine wn_icmp_ge kc83_9 (by omega) (hB _ _) (fun hq9 => ?_) (fun hq9 => ?_)
    · skip
      refine wx_iload_n kc83_39 rfl rfl ?_
      refine wx_ireturn kc83_40 rfl rfl ?_
      obtain rfl : i = s 0 10 := by omega
      exact hq
    · skip
      refine wx_aload_n kc83_12 rfl rfl ?_
      refine wm_getf (.ref 203) hS kc83_13 rfl ?_
      refine wx_iload_n kc83_16 rfl rfl ?_
      refine wm_iald 203 60 (s 9 i) hS kc83_17 rfl rfl rfl rfl (by omega) (fun _ => rfl) rfl ?_
      have hb18_2 := hB 9 i
      refine wx_iload_n kc83_18 rfl rfl ?_
      refine wn_icmp_ne kc83_19 (hB _ _) (by omega) (fun hq19 => ?_) (fun hq19 => ?_)
      · skip
        refine wx_iload_n kc83_31 rfl rfl ?_
        refine wx_istore_n (ls' := [.ref 194, .int (nI f), .int (nI (zmpa s f i)), .int (nI i)]) kc83_32 rfl rfl rfl rfl ?_
        refine wn_iinc (i + 1) (ls' := [.ref 194, .int (nI f), .int (nI (zmpa s f i)), .int (nI (i + 1))]) kc83_33 rfl rfl rfl rfl rfl ?_
        refine wx_goto kc83_36 ?_
        have he : zmpa s f (i + 1) = (zmpa s f i) := by
          show (if s 9 i = f then s 8 i else zmpa s f i) = _
          first | rw [if_pos (by omega)] | rw [if_neg (by omega)]
        have hih := ih (i + 1) (by omega)
        rw [he] at hih
        exact hih
      · skip
        refine wx_aload_n kc83_22 rfl rfl ?_
        refine wm_getf (.ref 202) hS kc83_23 rfl ?_
        refine wx_iload_n kc83_26 rfl rfl ?_
        refine wm_iald 202 60 (s 8 i) hS kc83_27 rfl rfl rfl rfl (by omega) (fun _ => rfl) rfl ?_
        have hb28_3 := hB 8 i
        refine wx_goto kc83_28 ?_
        refine wx_istore_n (ls' := [.ref 194, .int (nI f), .int (nI (s 8 i)), .int (nI i)]) kc83_32 rfl rfl rfl rfl ?_
        refine wn_iinc (i + 1) (ls' := [.ref 194, .int (nI f), .int (nI (s 8 i)), .int (nI (i + 1))]) kc83_33 rfl rfl rfl rfl rfl ?_
        refine wx_goto kc83_36 ?_
        have he : zmpa s f (i + 1) = (s 8 i) := by
          show (if s 9 i = f then s 8 i else zmpa s f i) = _
          first | rw [if_pos (by omega)] | rw [if_neg (by omega)]
        have hih := ih (i + 1) (by omega)
        rw [he] at hih
        exact hih
theorem cM_parent {d : Nat} {h0 : zm_H} {s : Nat → Nat → Nat} {Q : Option Value → zm_H → Prop} {f : Nat} (hS : zMS h0) (hI : zMI s) (hf : f < 2147483648) (hq : Q (some (.int (nI (zmpa s f (s 0 10))))) (zmh h0 s)) : zm_wc (d + 1) mM_parent [.ref 194, .int (nI f)] (zmh h0 s) Q := by
  refine zm_enter (Nat.le_of_ble_eq_true rfl) ?_
  show zm_wp _ 83 0 [.ref 194, .int (nI f), zm_un, zm_un] [] (zmh h0 s) Q
  refine wx_iconst (nI 1) kc83_0 (by decide) ?_
  refine wx_istore_n (ls' := [.ref 194, .int (nI f), .int (nI 1), zm_un]) kc83_1 rfl rfl rfl rfl ?_
  refine wx_iconst (nI 0) kc83_2 (by decide) ?_
  refine wx_istore_n (ls' := [.ref 194, .int (nI f), .int (nI 1), .int (nI 0)]) kc83_3 rfl rfl rfl rfl ?_
  exact lM_parent hS hI hf hq (s 0 10) 0 (by omega)
def zmgr (s : Nat → Nat → Nat) (f many : Nat) : Nat := if s 4 f < many then zft many - zft (s 4 f) else 0
theorem zft_mono {a b : Nat} (h : a ≤ b) : zft a ≤ zft b := by unfold zft; split <;> split <;> omega
theorem cM_growth {d : Nat} {h0 : zm_H} {s : Nat → Nat → Nat} {Q : Option Value → zm_H → Prop} {f k : Nat} (hS : zMS h0) (hI : zMI s) (hf : f ≤ 40) (hk : k ≤ 100) (hq : Q (some (.int (nI (zmgr s f k)))) (zmh h0 s)) : zm_wc (d + 2) mM_growth [.ref 194, .int (nI f), .int (nI k)] (zmh h0 s) Q := by
  refine zm_enter (Nat.le_of_ble_eq_true rfl) ?_
  show zm_wp _ 86 0 [.ref 194, .int (nI f), .int (nI k)] [] (zmh h0 s) Q
  have hB := zMIb hI
  refine wx_iload_n kc86_0 rfl rfl ?_
  refine wx_aload_n kc86_1 rfl rfl ?_
  refine wm_getf (.ref 198) hS kc86_2 rfl ?_
  refine wx_iload_n kc86_5 rfl rfl ?_
  refine wm_iald 198 41 (s 4 f) hS kc86_6 rfl rfl rfl rfl (by omega) (fun _ => rfl) rfl ?_
  have hb7_1 := hB 4 f
  refine wn_icmp_le kc86_7 (by omega) (hB _ _) (fun hq7 => ?_) (fun hq7 => ?_)
  · skip
    refine wx_iconst (nI 0) kc86_27 (by decide) ?_
    refine wx_ireturn kc86_28 rfl rfl ?_
    exact (show zmgr s f k = 0 by unfold zmgr; first | rw [if_pos (by omega)] | rw [if_neg (by omega)]) ▸ hq
  · skip
    refine wx_iload_n kc86_10 rfl rfl ?_
    refine wx_static kc86_11 rfl rfl rfl ?_
    refine cM_folderTakes (by omega) ?_
    show zm_wp _ 86 14 [.ref 194, .int (nI f), .int (nI k)] [.int (nI (zft k))] (zmh h0 s) _
    refine wx_aload_n kc86_14 rfl rfl ?_
    refine wm_getf (.ref 198) hS kc86_15 rfl ?_
    refine wx_iload_n kc86_18 rfl rfl ?_
    refine wm_iald 198 41 (s 4 f) hS kc86_19 rfl rfl rfl rfl (by omega) (fun _ => rfl) rfl ?_
    have hb20_2 := hB 4 f
    refine wx_static kc86_20 rfl rfl rfl ?_
    refine cM_folderTakes (hB _ _) ?_
    show zm_wp _ 86 23 [.ref 194, .int (nI f), .int (nI k)] [.int (nI (zft (s 4 f))), .int (nI (zft k))] (zmh h0 s) _
    have hm := zft_mono (show s 4 f ≤ k by omega)
    refine wn_isub ((zft k) - (zft (s 4 f))) kc86_23 (by omega) ?_
    refine wx_goto kc86_24 ?_
    refine wx_ireturn kc86_28 rfl rfl ?_
    exact (show zmgr s f k = ((zft k) - (zft (s 4 f))) by unfold zmgr; first | rw [if_pos (by omega)] | rw [if_neg (by omega)]) ▸ hq
