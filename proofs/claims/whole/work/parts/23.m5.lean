/-- two states of the reference that differ in a walk's own numbers alone -/
def zZF (s t : Nat → Nat → Nat) : Prop := ∀ a j, a ≠ 12 → ¬ (a = 0 ∧ 16 ≤ j) → t a j = s a j
theorem zZF_rf (s : Nat → Nat → Nat) : zZF s s := fun _ _ _ _ => rfl
theorem zZF_up {s t : Nat → Nat → Nat} (h : zZF s t) {j v : Nat} (hj : 16 ≤ j) : zZF s (zup t 0 j v) := by
  intro a i h1 h2
  rw [zup_ne _ _ (by omega)]
  exact h a i h1 h2
theorem zZF_p {s t : Nat → Nat → Nat} (h : zZF s t) {j v : Nat} : zZF s (zup t 12 j v) := by
  intro a i h1 h2
  rw [zup_ne _ _ (by omega)]
  exact h a i h1 h2
theorem zZF_w {s t : Nat → Nat → Nat} (h : zZF s t) {lo n : Nat} {g : Nat → Nat} : zZF s (zwr t 12 lo n g) := by
  intro a i h1 h2
  rw [zwr_na _ _ h1]
  exact h a i h1 h2
/-- a link's target -/
def ztg (s : Nat → Nat → Nat) (g : Nat) : List Nat := zls (s 7) (1000 * g) (1000 * g + s 6 g)

theorem lM_splice {d : Nat} {h0 : zm_H} {s : Nat → Nat → Nat} {Q : Option Value → zm_H → Prop} {g : Nat} (hS : zMS h0) (hI : zMI s) (hg : g ≤ 40) (hat : s 6 g + 1 ≤ s 0 16) (hq : zm_wp (d + 0) 91 81 [.ref 194, .int (nI g), .int (nI (s 6 g))] [] (zmh h0 (zwr (zup (zup (zup s 0 16 (s 0 16 - 1)) 12 (s 0 16 - 1) 47) 0 16 (s 0 16 - 1 - s 6 g)) 12 (s 0 16 - 1 - s 6 g) (s 6 g) (fun i => s 7 (1000 * g + i)))) Q) : ∀ (n i : Nat), i + n = s 6 g → zm_wp (d + 0) 91 38 [.ref 194, .int (nI g), .int (nI i)] [] (zmh h0 (zwr (zup (zup (zup s 0 16 (s 0 16 - 1)) 12 (s 0 16 - 1) 47) 0 16 (s 0 16 - 1 - s 6 g)) 12 (s 0 16 - 1 - s 6 g) i (fun i => s 7 (1000 * g + i)))) Q := by
  have hB := zMIb hI
  intro n
  induction n with
  | zero =>
    intro i hi
    have h7 : s 7 (1000 * g + i) < 256 := Nat.lt_succ_of_le (hI 7 (1000 * g + i))
    have h6 : s 6 g ≤ 1000 := hI 6 g
    have h16 : s 0 16 ≤ 42000 := hI 0 16
    refine wx_iload_n kc91_38 rfl rfl ?_
    refine wx_aload_n kc91_39 rfl rfl ?_
    refine wm_getf (.ref 200) hS kc91_40 rfl ?_
    refine wx_iload_n kc91_43 rfl rfl ?_
    refine wm_iald 200 41 (s 6 g) hS kc91_44 rfl rfl rfl rfl (by omega) (fun _ => rfl) rfl ?_
    have hb45_1 := hB 6 g
    refine wn_icmp_ge kc91_45 (by omega) (hB _ _) (fun hq45 => ?_) (fun hq45 => ?_)
    · skip
      obtain rfl : i = s 6 g := by omega
      exact hq
    · skip
      exact absurd hq45 (by omega)
  | succ n ih =>
    intro i hi
    have h7 : s 7 (1000 * g + i) < 256 := Nat.lt_succ_of_le (hI 7 (1000 * g + i))
    have h6 : s 6 g ≤ 1000 := hI 6 g
    have h16 : s 0 16 ≤ 42000 := hI 0 16
    refine wx_iload_n kc91_38 rfl rfl ?_
    refine wx_aload_n kc91_39 rfl rfl ?_
    refine wm_getf (.ref 200) hS kc91_40 rfl ?_
    refine wx_iload_n kc91_43 rfl rfl ?_
    refine wm_iald 200 41 (s 6 g) hS kc91_44 rfl rfl rfl rfl (by omega) (fun _ => rfl) rfl ?_
    have hb45_1 := hB 6 g
    refine wn_icmp_ge kc91_45 (by omega) (hB _ _) (fun hq45 => ?_) (fun hq45 => ?_)
    · skip
      exact absurd hq45 (by omega)
    · skip
      refine wx_aload_n kc91_48 rfl rfl ?_
      refine wm_getf (.ref 206) hS kc91_49 rfl ?_
      refine wx_aload_n kc91_52 rfl rfl ?_
      refine wm_getf (.int (nI (s 0 16 - 1 - s 6 g))) hS kc91_53 rfl ?_
      refine wx_iload_n kc91_56 rfl rfl ?_
      refine wn_iadd ((s 0 16 - 1 - s 6 g) + i) kc91_57 rfl ?_
      refine wx_aload_n kc91_58 rfl rfl ?_
      refine wm_getf (.ref 201) hS kc91_59 rfl ?_
      refine wx_sipush (nI 1000) kc91_62 (by decide) ?_
      refine wx_iload_n kc91_65 rfl rfl ?_
      refine wn_imul (1000 * g) kc91_66 rfl ?_
      refine wx_iload_n kc91_67 rfl rfl ?_
      refine wn_iadd ((1000 * g) + i) kc91_68 rfl ?_
      refine wm_bald 201 41000 (s 7 ((1000 * g) + i)) hS kc91_69 rfl rfl rfl rfl (by omega) (fun _ => rfl) rfl ?_
      refine wx_sipush (nI 255) kc91_70 (by decide) ?_
      refine wx_iand kc91_73 ?_
      rw [zsg_and h7]
      refine wm_iast (v := (s 7 ((1000 * g) + i))) 206 42000 hS kc91_74 rfl rfl rfl rfl (by omega) rfl ?_
      refine wn_iinc (i + 1) (ls' := [.ref 194, .int (nI g), .int (nI (i + 1))]) kc91_75 rfl rfl rfl rfl rfl ?_
      refine wx_goto kc91_78 ?_
      show zm_wp _ 91 38 [.ref 194, .int (nI g), .int (nI (i + 1))] [] (zmh h0 (zup (zwr (zup (zup (zup s 0 16 (s 0 16 - 1)) 12 (s 0 16 - 1) 47) 0 16 (s 0 16 - 1 - s 6 g)) 12 (s 0 16 - 1 - s 6 g) i (fun i => s 7 (1000 * g + i))) 12 ((s 0 16 - 1 - s 6 g) + i) (s 7 ((1000 * g) + i)))) _
      have e1 := zwr_s (zup (zup (zup s 0 16 (s 0 16 - 1)) 12 (s 0 16 - 1) 47) 0 16 (s 0 16 - 1 - s 6 g)) 12 (s 0 16 - 1 - s 6 g) i (fun i => s 7 (1000 * g + i))
      rw [e1]
      exact ih (i + 1) (by omega)
/-- the numbers behind splice(g) -/
def zZS (s t : Nat → Nat → Nat) (g : Nat) : Prop := zZF s t ∧ zMI t ∧ t 0 16 = s 0 16 - 1 - s 6 g ∧ zls (t 12) (t 0 16) 42000 = ztg s g ++ 47 :: zls (s 12) (s 0 16) 42000 ∧ t 0 20 = (if (ztg s g).head? = some 47 ∨ s 6 g = 0 then 1 else s 0 17) ∧ t 0 21 = 1
theorem zZS_mk {s : Nat → Nat → Nat} (hI : zMI s) {g v : Nat} (hg : g ≤ 40) (hat : s 6 g + 1 ≤ s 0 16) (hv : v = (if (ztg s g).head? = some 47 ∨ s 6 g = 0 then 1 else s 0 17)) : zZS s (zup (zup (zwr (zup (zup (zup s 0 16 (s 0 16 - 1)) 12 (s 0 16 - 1) 47) 0 16 (s 0 16 - 1 - s 6 g)) 12 (s 0 16 - 1 - s 6 g) (s 6 g) (fun i => s 7 (1000 * g + i))) 0 20 v) 0 21 1) g := by
  have h6 : s 6 g ≤ 1000 := hI 6 g
  have h16 : s 0 16 ≤ 42000 := hI 0 16
  have h17 : s 0 17 ≤ 40 := hI 0 17
  refine ⟨zZF_up (zZF_up (zZF_w (zZF_up (zZF_p (zZF_up (zZF_rf s) (by decide))) (by decide))) (by decide)) (by decide), ?_, rfl, ?_, hv, rfl⟩
  · refine zMI_up (zMI_up (zMI_wr (zMI_up (zMI_up (zMI_up hI (show _ ≤ 42000 by omega)) (show 47 ≤ 255 by decide)) (show _ ≤ 42000 by omega)) (fun i _ => show s 7 (1000 * g + i) ≤ 255 from hI 7 (1000 * g + i))) (show v ≤ 40 by rw [hv]; split <;> omega)) (show 1 ≤ 1 by decide)
  · show zls _ (s 0 16 - 1 - s 6 g) 42000 = _
    rw [zls_app _ (b := s 0 16 - 1) (c := 42000) _ _ rfl (by omega) (by omega)]
    congr 1
    · unfold ztg
      have e2 : s 0 16 - 1 = (s 0 16 - 1 - s 6 g) + s 6 g := by omega
      have : ∀ i, i < s 6 g → (zup (zup (zwr (zup (zup (zup s 0 16 (s 0 16 - 1)) 12 (s 0 16 - 1) 47) 0 16 (s 0 16 - 1 - s 6 g)) 12 (s 0 16 - 1 - s 6 g) (s 6 g) (fun i => s 7 (1000 * g + i))) 0 20 v) 0 21 1) 12 ((s 0 16 - 1 - s 6 g) + i) = s 7 (1000 * g + i) := by
        intro i hi
        show (zwr (zup (zup (zup s 0 16 (s 0 16 - 1)) 12 (s 0 16 - 1) 47) 0 16 (s 0 16 - 1 - s 6 g)) 12 (s 0 16 - 1 - s 6 g) (s 6 g) (fun i => s 7 (1000 * g + i))) 12 _ = _
        rw [zwr_in _ _ (by omega) (by omega), Nat.add_sub_cancel_left]
      have e3 := zls_shift (f := (zup (zup (zwr (zup (zup (zup s 0 16 (s 0 16 - 1)) 12 (s 0 16 - 1) 47) 0 16 (s 0 16 - 1 - s 6 g)) 12 (s 0 16 - 1 - s 6 g) (s 6 g) (fun i => s 7 (1000 * g + i))) 0 20 v) 0 21 1) 12) (g := s 7) (a := s 0 16 - 1 - s 6 g) (b := 1000 * g) (n := s 6 g) this
      rw [← e2] at e3
      exact e3
    · rw [zls_cons _ (show s 0 16 - 1 < 42000 by omega)]
      congr 1
      · show (zwr (zup (zup (zup s 0 16 (s 0 16 - 1)) 12 (s 0 16 - 1) 47) 0 16 (s 0 16 - 1 - s 6 g)) 12 (s 0 16 - 1 - s 6 g) (s 6 g) (fun i => s 7 (1000 * g + i))) 12 _ = _
        rw [zwr_out _ _ (by omega)]
        show zup (zup s 0 16 (s 0 16 - 1)) 12 (s 0 16 - 1) 47 12 (s 0 16 - 1) = 47
        rw [zup_same]
      · rw [show s 0 16 - 1 + 1 = s 0 16 by omega]
        apply zls_congr
        intro i h1 h2
        show (zwr (zup (zup (zup s 0 16 (s 0 16 - 1)) 12 (s 0 16 - 1) 47) 0 16 (s 0 16 - 1 - s 6 g)) 12 (s 0 16 - 1 - s 6 g) (s 6 g) (fun i => s 7 (1000 * g + i))) 12 _ = _
        rw [zwr_out _ _ (by omega)]
        show zup (zup s 0 16 (s 0 16 - 1)) 12 (s 0 16 - 1) 47 12 i = s 12 i
        rw [zup_nj _ _ (by omega)]
        rfl

theorem cM_splice {d : Nat} {h0 : zm_H} {s : Nat → Nat → Nat} {Q : Option Value → zm_H → Prop} {g : Nat} (hS : zMS h0) (hI : zMI s) (hg : g ≤ 40) (hat : s 6 g + 1 ≤ s 0 16) (hq : ∀ t, zZS s t g → Q none (zmh h0 t)) : zm_wc (d + 1) mM_splice [.ref 194, .int (nI g)] (zmh h0 s) Q := by
  refine zm_enter (Nat.le_of_ble_eq_true rfl) ?_
  show zm_wp _ 91 0 [.ref 194, .int (nI g), zm_un] [] (zmh h0 s) Q
  have hB := zMIb hI
  have h6 : s 6 g ≤ 1000 := hI 6 g
  have h16 : s 0 16 ≤ 42000 := hI 0 16
  refine wx_aload_n kc91_0 rfl rfl ?_
  refine wx_dup kc91_1 rfl ?_
  refine wm_getf (.int (nI (s 0 16))) hS kc91_2 rfl ?_
  have hb5_1 := hB 0 16
  refine wx_iconst (nI 1) kc91_5 (by decide) ?_
  refine wn_isub ((s 0 16) - 1) kc91_6 (by omega) ?_
  refine wm_putf (v := ((s 0 16) - 1)) hS kc91_7 rfl rfl ?_
  refine wx_aload_n kc91_10 rfl rfl ?_
  refine wm_getf (.ref 206) hS kc91_11 rfl ?_
  refine wx_aload_n kc91_14 rfl rfl ?_
  refine wm_getf (.int (nI ((s 0 16) - 1))) hS kc91_15 rfl ?_
  refine wx_bipush (nI 47) kc91_18 (by decide) ?_
  refine wm_iast (v := 47) 206 42000 hS kc91_20 rfl rfl rfl rfl (by omega) rfl ?_
  refine wx_aload_n kc91_21 rfl rfl ?_
  refine wx_dup kc91_22 rfl ?_
  refine wm_getf (.int (nI ((s 0 16) - 1))) hS kc91_23 rfl ?_
  refine wx_aload_n kc91_26 rfl rfl ?_
  refine wm_getf (.ref 200) hS kc91_27 rfl ?_
  refine wx_iload_n kc91_30 rfl rfl ?_
  refine wm_iald 200 41 (s 6 g) hS kc91_31 rfl rfl rfl rfl (by omega) (fun _ => rfl) rfl ?_
  have hb32_2 := hB 6 g
  refine wn_isub (((s 0 16) - 1) - (s 6 g)) kc91_32 (by omega) ?_
  refine wm_putf (v := (((s 0 16) - 1) - (s 6 g))) hS kc91_33 rfl rfl ?_
  refine wx_iconst (nI 0) kc91_36 (by decide) ?_
  refine wx_istore_n (ls' := [.ref 194, .int (nI g), .int (nI 0)]) kc91_37 rfl rfl rfl rfl ?_
  show zm_wp _ 91 38 [.ref 194, .int (nI g), .int (nI 0)] [] (zmh h0 (zup (zup (zup s 0 16 ((s 0 16) - 1)) 12 ((s 0 16) - 1) 47) 0 16 (((s 0 16) - 1) - (s 6 g)))) _
  rw [← zwr_0 (zup (zup (zup s 0 16 (s 0 16 - 1)) 12 (s 0 16 - 1) 47) 0 16 (s 0 16 - 1 - s 6 g)) 12 (s 0 16 - 1 - s 6 g) (fun i => s 7 (1000 * g + i))]
  refine lM_splice hS hI hg hat ?_ (s 6 g) 0 (by omega)
  have hhd : (zwr (zup (zup (zup s 0 16 (s 0 16 - 1)) 12 (s 0 16 - 1) 47) 0 16 (s 0 16 - 1 - s 6 g)) 12 (s 0 16 - 1 - s 6 g) (s 6 g) (fun i => s 7 (1000 * g + i))) 12 (s 0 16 - 1 - s 6 g) = 47 ↔ ((ztg s g).head? = some 47 ∨ s 6 g = 0) := by
    unfold ztg
    rcases Nat.eq_zero_or_pos (s 6 g) with h0' | h0'
    · rw [zwr_out _ _ (by omega)]
      show zup (zup s 0 16 (s 0 16 - 1)) 12 (s 0 16 - 1) 47 12 _ = 47 ↔ _
      rw [h0', Nat.sub_zero, zup_same]
      simp
    · rw [zwr_in _ _ (Nat.le_refl _) (by omega), Nat.sub_self, zls_cons _ (by omega)]
      show s 7 (1000 * g + 0) = 47 ↔ _
      simp
      omega
  have hB2 := zMIb ((zMI_wr (zMI_up (zMI_up (zMI_up hI (show s 0 16 - 1 ≤ zbd 0 16 from (show _ ≤ 42000 by omega))) (show 47 ≤ zbd 12 (s 0 16 - 1) from (by decide : 47 ≤ 255))) (show s 0 16 - 1 - s 6 g ≤ zbd 0 16 from (show _ ≤ 42000 by omega))) (fun i (_ : i < s 6 g) => show s 7 (1000 * g + i) ≤ zbd 12 (s 0 16 - 1 - s 6 g + i) from hI 7 (1000 * g + i))))
  refine wx_aload_n kc91_81 rfl rfl ?_
  refine wx_aload_n kc91_82 rfl rfl ?_
  refine wm_getf (.ref 206) hS kc91_83 rfl ?_
  refine wx_aload_n kc91_86 rfl rfl ?_
  refine wm_getf (.int (nI (s 0 16 - 1 - s 6 g))) hS kc91_87 rfl ?_
  refine wm_iald 206 42000 ((zwr (zup (zup (zup s 0 16 (s 0 16 - 1)) 12 (s 0 16 - 1) 47) 0 16 (s 0 16 - 1 - s 6 g)) 12 (s 0 16 - 1 - s 6 g) (s 6 g) (fun i => s 7 (1000 * g + i))) 12 (s 0 16 - 1 - s 6 g)) hS kc91_90 rfl rfl rfl rfl (by omega) (fun _ => rfl) rfl ?_
  refine wx_bipush (nI 47) kc91_91 (by decide) ?_
  refine wn_icmp_ne kc91_93 (hB2 _ _) (by decide) (fun hq93 => ?_) (fun hq93 => ?_)
  · skip
    refine wx_aload_n kc91_100 rfl rfl ?_
    refine wm_getf (.int (nI (s 0 17))) hS kc91_101 rfl ?_
    have hb104_3 := hB 0 17
    refine wm_putf (v := s 0 17) hS kc91_104 rfl rfl ?_
    refine wx_aload_n kc91_107 rfl rfl ?_
    refine wx_iconst (nI 1) kc91_108 (by decide) ?_
    refine wm_putf (v := 1) hS kc91_109 rfl rfl ?_
    refine wx_return kc91_112 rfl ?_
    refine hq _ (zZS_mk hI hg hat ?_)
    first | (rw [if_pos (hhd.mp hq93)]) | (rw [if_neg (fun z => hq93 (hhd.mpr z))])
  · skip
    refine wx_iconst (nI 1) kc91_96 (by decide) ?_
    refine wx_goto kc91_97 ?_
    refine wm_putf (v := 1) hS kc91_104 rfl rfl ?_
    refine wx_aload_n kc91_107 rfl rfl ?_
    refine wx_iconst (nI 1) kc91_108 (by decide) ?_
    refine wm_putf (v := 1) hS kc91_109 rfl rfl ?_
    refine wx_return kc91_112 rfl ?_
    refine hq _ (zZS_mk hI hg hat ?_)
    first | (rw [if_pos (hhd.mp hq93)]) | (rw [if_neg (fun z => hq93 (hhd.mpr z))])
