/-! the reference's constructor, and the law from its first instruction on -/
theorem eu_cm (e : Nat → Option (Nat → Value)) {a b : Nat} (f g : Nat → Value) (h : a ≠ b) : eu (eu e a f) b g = eu (eu e b g) a f := by
  funext x
  simp only [eu]
  by_cases h1 : x = b
  · rw [if_pos h1, if_neg (by omega), if_pos h1]
  · rw [if_neg h1, if_neg h1]
theorem wk_ist {d M pc np x y N sl L a j n : Nat} {v : Int32} {sw : List (Int × Nat)} {ls st : List Value} {xs : Nat → Int32} {e : Nat → Option (Nat → Value)} {Q : Option Value → zm_H → Prop} {f : Nat → Value} (hc : zt_code M pc = some (.iastore, np, x, y, sw)) (he : e a = some f) (h1 : 0 < a) (h2 : a < N) (h3 : zkT L a = (101, n)) (hj : j < n) (hn : n < 2 ^ 31) (kk : zm_wp d M np ls st (zkH L xs (eu e a (fu f j (.int v))) N sl) Q) : zm_wp d M pc ls (.int v :: .int (nI j) :: .ref a :: st) (zkH L xs e N sl) Q := by
  have hl : zm_ln (zkH L xs e N sl) a = n := zk_ln h2 (by rw [h3])
  refine wx_iastore hc (zk_is h1 h2 (by rw [h3])) (by rw [hl]; exact hj) (by rw [hl]; exact hn) ?_
  rw [zk_put he]
  exact kk
theorem zkM_v (xs : Nat → Int32) (j : Nat) : fu (fu (fu (fu (fu (fu (fu (fu (fu (fu (fu (fu (fu (zt_df 8) 0 (.int (nI 40))) 2 (.ref 195)) 4 (.ref 196)) 5 (.ref 197)) 6 (.ref 198)) 7 (.ref 199)) 8 (.ref 200)) 9 (.ref 201)) 11 (.ref 202)) 12 (.ref 203)) 13 (.ref 204)) 14 (.ref 205)) 15 (.ref 206) j = zkV xs 194 j := by
  match j with
  | 0 => rfl
  | 1 => rfl
  | 2 => rfl
  | 3 => rfl
  | 4 => rfl
  | 5 => rfl
  | 6 => rfl
  | 7 => rfl
  | 8 => rfl
  | 9 => rfl
  | 10 => rfl
  | 11 => rfl
  | 12 => rfl
  | 13 => rfl
  | 14 => rfl
  | 15 => rfl
  | 16 => rfl
  | 17 => rfl
  | 18 => rfl
  | 19 => rfl
  | 20 => rfl
  | 21 => rfl
  | n + 22 => rfl
theorem zkM_197 (xs : Nat → Int32) (j : Nat) : fu (fun _ => zm_df 101) 1 (.int (nI 2)) j = zkV xs 197 j := by
  match j with
  | 0 => rfl
  | 1 => rfl
  | n + 2 => rfl
theorem cI_M {d L sl : Nat} {xs : Nat → Int32} {Q : Option Value → zm_H → Prop} (hq : Q none (zkH L xs e0 207 (sl + 101044))) : zm_wc (d + 1) mM_init [.ref 194] (zkH L xs (eu e0 194 (zt_df 8)) 195 sl) Q := by
  refine zm_enter (Nat.le_of_ble_eq_true rfl) ?_
  show zm_wp _ 73 0 [.ref 194] [] _ Q
  refine wx_aload_n kc73_0 rfl rfl ?_
  refine wx_objinit kc73_1 rfl ?_
  refine wx_aload_n kc73_4 rfl rfl ?_
  refine wx_bipush (nI 40) kc73_5 (by decide) ?_
  refine wk_put kc73_7 (eu_s _ _ _) (by decide) (by decide) rfl rfl ?_
  rw [eu_eu]
  refine wx_aload_n kc73_10 rfl rfl ?_
  refine wx_sipush (nI 1200) kc73_11 (by decide) ?_
  refine wk_na kc73_14 (by decide) ((eu_n _ _ (by decide)).trans rfl) rfl (fun j => rfl) ?_
  refine wk_put kc73_16 (eu_s _ _ _) (by decide) (by decide) rfl rfl ?_
  rw [eu_eu]
  refine wx_aload_n kc73_19 rfl rfl ?_
  refine wx_sipush (nI 1200) kc73_20 (by decide) ?_
  refine wk_na kc73_23 (by decide) ((eu_n _ _ (by decide)).trans rfl) rfl (fun j => rfl) ?_
  refine wk_put kc73_25 (eu_s _ _ _) (by decide) (by decide) rfl rfl ?_
  rw [eu_eu]
  refine wx_aload_n kc73_28 rfl rfl ?_
  refine wx_bipush (nI 41) kc73_29 (by decide) ?_
  refine wk_nx kc73_31 (by decide) rfl ?_
  rw [eu_cm e0 _ _ (show (194 : Nat) ≠ 197 by decide)]
  refine wk_put kc73_33 (eu_s _ _ _) (by decide) (by decide) rfl rfl ?_
  rw [eu_eu]
  refine wx_aload_n kc73_36 rfl rfl ?_
  refine wx_bipush (nI 41) kc73_37 (by decide) ?_
  refine wk_na kc73_39 (by decide) ((eu_n _ _ (by decide)).trans ((eu_n _ _ (by decide)).trans rfl)) rfl (fun j => rfl) ?_
  refine wk_put kc73_41 (eu_s _ _ _) (by decide) (by decide) rfl rfl ?_
  rw [eu_eu]
  refine wx_aload_n kc73_44 rfl rfl ?_
  refine wx_bipush (nI 41) kc73_45 (by decide) ?_
  refine wk_na kc73_47 (by decide) ((eu_n _ _ (by decide)).trans ((eu_n _ _ (by decide)).trans rfl)) rfl (fun j => rfl) ?_
  refine wk_put kc73_49 (eu_s _ _ _) (by decide) (by decide) rfl rfl ?_
  rw [eu_eu]
  refine wx_aload_n kc73_52 rfl rfl ?_
  refine wx_bipush (nI 41) kc73_53 (by decide) ?_
  refine wk_na kc73_55 (by decide) ((eu_n _ _ (by decide)).trans ((eu_n _ _ (by decide)).trans rfl)) rfl (fun j => rfl) ?_
  refine wk_put kc73_57 (eu_s _ _ _) (by decide) (by decide) rfl rfl ?_
  rw [eu_eu]
  refine wx_aload_n kc73_60 rfl rfl ?_
  refine wx_ldc (nI 41000) kc73_61 (by decide) ?_
  refine wk_na kc73_63 (by decide) ((eu_n _ _ (by decide)).trans ((eu_n _ _ (by decide)).trans rfl)) rfl (fun j => rfl) ?_
  refine wk_put kc73_65 (eu_s _ _ _) (by decide) (by decide) rfl rfl ?_
  rw [eu_eu]
  refine wx_aload_n kc73_68 rfl rfl ?_
  refine wx_bipush (nI 60) kc73_69 (by decide) ?_
  refine wk_na kc73_71 (by decide) ((eu_n _ _ (by decide)).trans ((eu_n _ _ (by decide)).trans rfl)) rfl (fun j => rfl) ?_
  refine wk_put kc73_73 (eu_s _ _ _) (by decide) (by decide) rfl rfl ?_
  rw [eu_eu]
  refine wx_aload_n kc73_76 rfl rfl ?_
  refine wx_bipush (nI 60) kc73_77 (by decide) ?_
  refine wk_na kc73_79 (by decide) ((eu_n _ _ (by decide)).trans ((eu_n _ _ (by decide)).trans rfl)) rfl (fun j => rfl) ?_
  refine wk_put kc73_81 (eu_s _ _ _) (by decide) (by decide) rfl rfl ?_
  rw [eu_eu]
  refine wx_aload_n kc73_84 rfl rfl ?_
  refine wx_bipush (nI 60) kc73_85 (by decide) ?_
  refine wk_na kc73_87 (by decide) ((eu_n _ _ (by decide)).trans ((eu_n _ _ (by decide)).trans rfl)) rfl (fun j => rfl) ?_
  refine wk_put kc73_89 (eu_s _ _ _) (by decide) (by decide) rfl rfl ?_
  rw [eu_eu]
  refine wx_aload_n kc73_92 rfl rfl ?_
  refine wx_sipush (nI 15300) kc73_93 (by decide) ?_
  refine wk_na kc73_96 (by decide) ((eu_n _ _ (by decide)).trans ((eu_n _ _ (by decide)).trans rfl)) rfl (fun j => rfl) ?_
  refine wk_put kc73_98 (eu_s _ _ _) (by decide) (by decide) rfl rfl ?_
  rw [eu_eu]
  refine wx_aload_n kc73_101 rfl rfl ?_
  refine wx_ldc (nI 42000) kc73_102 (by decide) ?_
  refine wk_na kc73_104 (by decide) ((eu_n _ _ (by decide)).trans ((eu_n _ _ (by decide)).trans rfl)) rfl (fun j => rfl) ?_
  refine wk_put kc73_106 (eu_s _ _ _) (by decide) (by decide) rfl rfl ?_
  rw [eu_eu]
  refine wx_aload_n kc73_109 rfl rfl ?_
  refine wk_get (v := .ref 197) kc73_110 (eu_s _ _ _) (by decide) (by decide) rfl rfl ?_
  refine wx_iconst (nI 1) kc73_113 (by decide) ?_
  refine wx_iconst (nI 2) kc73_114 (by decide) ?_
  refine wk_ist (n := 41) kc73_115 ((eu_n _ _ (by decide)).trans (eu_s _ _ _)) (by decide) (by decide) rfl (by decide) (by decide) ?_
  rw [eu_cm (eu e0 197 _) _ _ (show (194 : Nat) ≠ 197 by decide), eu_eu, zk_cm (eu_s _ 194 _) (by decide) (zkM_v xs), en_eu _ 194 _ rfl, zk_cm (eu_s _ 197 _) (by decide) (zkM_197 xs), en_eu _ 197 _ rfl]
  rw [show sl + 1200 + 1200 + 41 + 41 + 41 + 41 + 41000 + 60 + 60 + 60 + 15300 + 42000 = sl + 101044 by omega]
  exact wx_return kc73_116 rfl hq
theorem zk_h0 (L : Nat) (xs : Nat → Int32) : zm_h0 L xs = zkH L xs e0 1 0 := by
  have k1 : (fun _ : Nat => (101, L)) = (fun a => if a < 1 then zkT L a else (101, L)) := by
    funext a
    by_cases h : a < 1
    · obtain rfl : a = 0 := by omega
      rfl
    · rw [if_neg h]
  have k2 : (fun b j => if b = 0 then Value.int (xs j) else .int 0) = zkR xs e0 1 := by
    funext b j
    show _ = if b < 1 then zkV xs b j else .int 0
    by_cases h : b = 0
    · subst h
      rfl
    · rw [if_neg h, if_neg (by omega)]
  show (1, 0, (fun _ : Nat => (101, L)), (fun b j => if b = 0 then Value.int (xs j) else .int 0)) = _
  rw [k1, k2]
  rfl
def zkB (L : Nat) (xs : Nat → Int32) (sl : Nat) : zm_H := (207, sl, fun a => if a < 207 then zkT L a else (101, L), fun a j => if a = 0 then .int (xs j) else .int 0)
theorem zqc_19 (n : Nat) : zqc 19 n = 0 := by
  unfold zqc
  rw [if_neg (by omega), if_neg (by omega), if_neg (by omega), if_neg (by omega)]
theorem zk_end (L : Nat) (xs : Nat → Int32) (sl : Nat) : zkH L xs e0 207 sl = zmh (zch (zkB L xs sl) zqc) zqs := by
  have k : zkR xs e0 207 = (fun a j => bif Nat.ble 194 a && Nat.blt a 207 then zme a j (zqs (a - 194) j) else (zch (zkB L xs sl) zqc).2.2.2 a j) := by
    funext a j
    show (if a < 207 then zkV xs a j else .int 0) = (bif Nat.ble 194 a && Nat.blt a 207 then zme a j (zqs (a - 194) j) else (if (1 ≤ a ∧ a < 194) ∨ 207 ≤ a then zcv zqc a j else (if a = 0 then .int (xs j) else .int 0)))
    by_cases h1 : 194 ≤ a ∧ a < 207
    · have hb : (Nat.ble 194 a && Nat.blt a 207) = true := by
        rw [Bool.and_eq_true]
        exact ⟨Nat.ble_eq_true_of_le h1.1, Nat.ble_eq_true_of_le h1.2⟩
      rw [hb, if_pos h1.2]
      unfold zkV
      rw [if_neg (by omega), if_neg (by omega), if_pos h1.2]
      rfl
    · have hb : (Nat.ble 194 a && Nat.blt a 207) = false := by
        cases hx : (Nat.ble 194 a && Nat.blt a 207) with
        | false => rfl
        | true =>
          rw [Bool.and_eq_true] at hx
          exact absurd ⟨Nat.le_of_ble_eq_true hx.1, Nat.le_of_ble_eq_true hx.2⟩ h1
      rw [hb]
      show _ = if (1 ≤ a ∧ a < 194) ∨ 207 ≤ a then zcv zqc a j else (if a = 0 then .int (xs j) else .int 0)
      by_cases h2 : a < 207
      · rw [if_pos h2]
        unfold zkV
        by_cases h3 : a = 0
        · rw [if_pos h3, if_neg (by omega), if_pos h3]
        · rw [if_neg h3, if_pos (by omega), if_pos (by omega)]
      · rw [if_neg h2, if_pos (by omega)]
        unfold zcv zia
        rw [if_pos (Or.inr (by omega))]
        by_cases hj : j < 1200
        · rw [if_pos hj]
          show Value.int 0 = zdc 19 (zqc 19 (1200 * a + j))
          rw [zqc_19]
          rfl
        · rw [if_neg hj]
          show Value.int 0 = zcc a j
          unfold zcc
          rw [if_pos (Or.inr (by omega))]
  unfold zkH
  rw [k]
  rfl
theorem zqc_z {A j : Nat} (h : ¬ (A = 0 ∧ j = 0) ∧ ¬ (A = 2 ∧ j = 1) ∧ ¬ (A = 7 ∧ j = 1) ∧ A ≠ 10) : zqc A j = 0 := by
  unfold zqc
  rw [if_neg h.1, if_neg h.2.1, if_neg h.2.2.1, if_neg (fun z => h.2.2.2 z.1)]
theorem zqs_z {A j : Nat} (h : ¬ (A = 0 ∧ j = 0) ∧ ¬ (A = 3 ∧ j = 1)) : zqs A j = 0 := by
  unfold zqs
  rw [if_neg h.1, if_neg h.2]
theorem zqc_I : zCI zqc := by
  intro a j
  by_cases h1 : a = 0 ∧ j = 0
  · obtain ⟨rfl, rfl⟩ := h1
    decide
  by_cases h2 : a = 2 ∧ j = 1
  · obtain ⟨rfl, rfl⟩ := h2
    decide
  by_cases h3 : a = 7 ∧ j = 1
  · obtain ⟨rfl, rfl⟩ := h3
    decide
  by_cases h4 : a = 10
  · subst h4
    show zqc 10 j ≤ 60
    unfold zqc
    rw [if_neg (by omega), if_neg (by omega), if_neg (by omega)]
    split <;> omega
  · rw [zqc_z ⟨h1, h2, h3, h4⟩]
    exact Nat.zero_le _
theorem zqs_I : zMI zqs := by
  intro a j
  by_cases h1 : a = 0 ∧ j = 0
  · obtain ⟨rfl, rfl⟩ := h1
    decide
  by_cases h2 : a = 3 ∧ j = 1
  · obtain ⟨rfl, rfl⟩ := h2
    decide
  · rw [zqs_z ⟨h1, h2⟩]
    exact Nat.zero_le _
theorem zqs_3 (f : Nat) (h : f ≠ 1) : zqs 3 f = 0 := zqs_z ⟨by omega, by omega⟩
theorem zIV_0 (L : Nat) (xs : Nat → Int32) (sl : Nat) : zIV (zkB L xs sl) zqc zqs := by
  have c8 : ∀ f, zqc 8 f = 0 := fun f => zqc_z ⟨by omega, by omega, by omega, by omega⟩
  have c13 : ∀ f, zqc 13 f = 0 := fun f => zqc_z ⟨by omega, by omega, by omega, by omega⟩
  have c10 : ∀ i, i < 60 → zqc 10 i = i + 1 := fun i hi => by
    unfold zqc
    rw [if_neg (by omega), if_neg (by omega), if_neg (by omega), if_pos ⟨rfl, hi⟩]
  have hs : zCS (zkB L xs sl) := by
    refine ⟨Nat.le_refl _, fun a h1 h2 => ?_⟩
    show (if a < 207 then zkT L a else (101, L)) = zck a
    rw [if_pos (by omega)]
    exact zkT_c L h1 h2
  have hu : ∀ R, ¬ zUS zqc R := fun R ⟨i, h1, _⟩ => by
    have : zqc 0 2 = 0 := rfl
    omega
  refine ⟨hs, zqc_I, zqs_I, ⟨⟨rfl, rfl, rfl⟩, fun i hi => ?_, fun f hf => ?_, fun f f1 f2 f3 => ?_, fun f f1 f2 => ?_, fun f f1 f2 => ?_, ⟨fun _ => 0, ⟨fun k hk => absurd hk (Nat.not_lt_zero k), fun R hR => absurd hR (hu R), fun k l hk => absurd hk (Nat.not_lt_zero k)⟩⟩, fun R hR => absurd hR (hu R), fun i hi => ?_, fun i j hi hj e => ?_⟩, ⟨⟨fun k hk => absurd hk (Nat.not_lt_zero k), fun k l hk => absurd hk (Nat.not_lt_zero k), fun k l hk => absurd hk (Nat.not_lt_zero k)⟩, rfl, rfl, fun f f1 f2 f3 => ?_, fun f _ => ?_, fun f => ?_, fun f f1 f2 => ?_, fun f f1 f2 => ?_, ?_, fun f f1 => ?_⟩, ⟨fun f hf => absurd (c8 f) hf, fun r hr => absurd (c13 r) hr, fun f g hf => absurd (c8 f) hf, fun f g hf => absurd (c13 f) hf⟩⟩
  · rw [zqc_19]
    exact (zqs_z ⟨by omega, by omega⟩).symm
  · by_cases h : f = 1
    · subst h
      rfl
    · rw [zqs_3 f h]
      exact zqc_z ⟨by omega, by omega, by omega, by omega⟩
  · by_cases h : f = 1
    · subst h
      exact ⟨rfl, rfl, rfl, rfl⟩
    · exact absurd (zqs_3 f h) f3
  · by_cases h : f = 1
    · subst h
      rfl
    · rw [zqs_3 f h, if_neg (by decide)]
      exact zqc_z ⟨by omega, by omega, by omega, by omega⟩
  · by_cases h : f = 1
    · subst h
      exact absurd f2 (by decide)
    · rw [zqs_3 f h] at f2
      exact absurd f2 (by decide)
  · rw [c10 i hi]
    omega
  · rw [c10 i hi, c10 j hj] at e
    omega
  · exact absurd (zqs_3 f (by omega)) f3
  · exact zqs_z ⟨by omega, by omega⟩
  · rw [zqs_z (A := 5) (j := f) ⟨by omega, by omega⟩]
    exact Nat.zero_le _
  · by_cases h : f = 1
    · exact ⟨0, h⟩
    · rw [zqs_3 f h] at f2
      exact absurd f2 (by decide)
  · by_cases h : f = 1
    · subst h
      exact absurd f2 (by decide)
    · rw [zqs_3 f h] at f2
      exact absurd f2 (by decide)
  · exact Nat.le_of_ble_eq_true rfl
  · exact Nat.zero_le _
theorem zLI_0 (L : Nat) (xs : Nat → Int32) (sl : Nat) (h : sl ≤ 104000) : zLI L xs 0 (zkB L xs sl) zqc zqs := by
  refine ⟨zIV_0 L xs sl, ⟨Nat.le_refl _, fun a h1 h2 => ?_⟩, rfl, fun j _ => rfl, Nat.le_refl _, h⟩
  show (if a < 207 then zkT L a else (101, L)) = zmk a
  rw [if_pos h2]
  unfold zkT
  rw [if_neg (by omega), if_neg (by omega), if_pos h2]
theorem zz_law {L : Nat} (hL : L ≤ 2048) (xs : Nat → Int32) : zm_wp 12 0 0 (zm_lo [.ref 0] 4) [] (zm_h0 L xs) (fun r h' => r = some (.int 1) ∧ zm_nx h' ≤ 600001 ∧ zm_sl h' ≤ 7302250) := by
  show zm_wp 12 0 0 [.ref 0, zm_un, zm_un, zm_un] [] (zm_h0 L xs) _
  rw [zk_h0]
  refine wk_mk kc0_0 rfl ?_
  refine wx_dup kc0_3 rfl ?_
  refine wx_special kc0_4 rfl rfl rfl ?_
  refine cI_N ?_
  show zm_wp _ 0 7 _ [.ref 1] _ _
  refine wx_astore_n (ls' := [.ref 0, .ref 1, zm_un, zm_un]) kc0_7 rfl rfl rfl rfl ?_
  refine wk_mk kc0_8 rfl ?_
  refine wx_dup kc0_11 rfl ?_
  refine wx_special kc0_12 rfl rfl rfl ?_
  refine cI_M ?_
  show zm_wp _ 0 15 _ [.ref 194] _ _
  refine wx_astore_n (ls' := [.ref 0, .ref 1, .ref 194, zm_un]) kc0_15 rfl rfl rfl rfl ?_
  refine wx_iconst (nI 0) kc0_16 (by decide) ?_
  refine wx_istore_n (ls' := [.ref 0, .ref 1, .ref 194, .int (nI 0)]) kc0_17 rfl rfl rfl rfl ?_
  rw [zk_end]
  refine lL_loop (d := 4) hL (fun h1 a b => ⟨rfl, ?_, ?_⟩) 520 0 0 _ zqc zqs rfl rfl (by decide) (zLI_0 L xs _ (by decide))
  · show h1.1 ≤ 600001
    omega
  · show h1.2.1 ≤ 7302250
    omega
