theorem zsg_sg {v : Nat} (h : v < 256) : (zsg v).toInt8.toInt32 = zsg v := (zsg_inj_t v h).1
/-! a name comes, a name goes -/
def zad1 (s : Nat → Nat → Nat) (dd n : Nat) (g : Nat → Nat) (f : Nat) : Nat → Nat → Nat := zup (zwr (zup (zup (zup s 8 (s 0 10) dd) 9 (s 0 10) f) 10 (s 0 10) n) 11 (255 * s 0 10) n g) 0 10 (s 0 10 + 1)
def zadd (s : Nat → Nat → Nat) (dd n : Nat) (g : Nat → Nat) (f : Nat) : Nat → Nat → Nat := zup (zad1 s dd n g f) 4 dd (if s 4 dd < zmni (zad1 s dd n g f) dd (s 0 10 + 1) then zmni (zad1 s dd n g f) dd (s 0 10 + 1) else s 4 dd)
theorem zmni_le {s : Nat → Nat → Nat} (f n : Nat) : zmni s f n ≤ n := by
  have h := zsum_le (g := fun k => if s 8 k = f then 1 else 0) (b := 1) n (fun k _ => by split <;> omega)
  have h2 : zmni s f n ≤ n * 1 := h
  omega
theorem zmno_le {s : Nat → Nat → Nat} (f n : Nat) : zmno s f n ≤ n := by
  have h := zsum_le (g := fun k => if s 9 k = f then 1 else 0) (b := 1) n (fun k _ => by split <;> omega)
  have h2 : zmno s f n ≤ n * 1 := h
  omega
theorem zMI_ad1 {s : Nat → Nat → Nat} (hI : zMI s) {dd n f : Nat} {g : Nat → Nat} (hd : dd ≤ 40) (hn : n ≤ 255) (hg : ∀ i, g i ≤ 255) (hf : f ≤ 40) (hN : s 0 10 < 60) : zMI (zad1 s dd n g f) :=
  zMI_up (zMI_wr (zMI_up (zMI_up (zMI_up hI (show dd ≤ 40 from hd)) (show f ≤ 40 from hf)) (show n ≤ 255 from hn)) (fun i _ => show g i ≤ 255 from hg i)) (show s 0 10 + 1 ≤ 60 by omega)
theorem zMI_add {s : Nat → Nat → Nat} (hI : zMI s) {dd n f : Nat} {g : Nat → Nat} (hd : dd ≤ 40) (hn : n ≤ 255) (hg : ∀ i, g i ≤ 255) (hf : f ≤ 40) (hN : s 0 10 < 60) : zMI (zadd s dd n g f) := by
  refine zMI_up (zMI_ad1 hI hd hn hg hf hN) ?_
  show (if _ < _ then _ else _) ≤ 60
  have h1 := zmni_le (s := zad1 s dd n g f) dd (s 0 10 + 1)
  have h2 : s 4 dd ≤ 60 := hI 4 dd
  split <;> omega
theorem lM_addName {d : Nat} {h0 : zm_H} {s : Nat → Nat → Nat} {Q : Option Value → zm_H → Prop} {f : Nat} (hS : zMS h0) (hI : zMI s) (hN : s 0 10 < 60) (hl : s 0 19 ≤ 255) (hp : s 0 18 + s 0 19 ≤ 42000) (hf : f ≤ 40) (hq : zm_wp (d + 1) 87 79 [.ref 194, .int (nI f), .int (nI (s 0 19))] [] (zmh h0 (zwr (zup (zup (zup s 8 (s 0 10) (s 0 17)) 9 (s 0 10) f) 10 (s 0 10) (s 0 19)) 11 (255 * s 0 10) (s 0 19) (fun i => s 12 (s 0 18 + i)))) Q) : ∀ (n i : Nat), i + n = s 0 19 → zm_wp (d + 1) 87 38 [.ref 194, .int (nI f), .int (nI i)] [] (zmh h0 (zwr (zup (zup (zup s 8 (s 0 10) (s 0 17)) 9 (s 0 10) f) 10 (s 0 10) (s 0 19)) 11 (255 * s 0 10) i (fun i => s 12 (s 0 18 + i)))) Q := by
  have hB := zMIb hI
  intro n
  induction n with
  | zero =>
    intro i hi
    refine wx_iload_n kc87_38 rfl rfl ?_
    refine wx_aload_n kc87_39 rfl rfl ?_
    refine wm_getf (.int (nI (s 0 19))) hS kc87_40 rfl ?_
    have hb43_1 := hB 0 19
    refine wn_icmp_ge kc87_43 (by omega) (hB _ _) (fun hq43 => ?_) (fun hq43 => ?_)
    · skip
      obtain rfl : i = s 0 19 := by omega
      exact hq
    · skip
      exact absurd hq43 (by omega)
  | succ n ih =>
    intro i hi
    refine wx_iload_n kc87_38 rfl rfl ?_
    refine wx_aload_n kc87_39 rfl rfl ?_
    refine wm_getf (.int (nI (s 0 19))) hS kc87_40 rfl ?_
    have hb43_1 := hB 0 19
    refine wn_icmp_ge kc87_43 (by omega) (hB _ _) (fun hq43 => ?_) (fun hq43 => ?_)
    · skip
      exact absurd hq43 (by omega)
    · skip
      refine wx_aload_n kc87_46 rfl rfl ?_
      refine wm_getf (.ref 205) hS kc87_47 rfl ?_
      refine wx_sipush (nI 255) kc87_50 (by decide) ?_
      refine wx_aload_n kc87_53 rfl rfl ?_
      refine wm_getf (.int (nI (s 0 10))) hS kc87_54 rfl ?_
      have hb57_2 := hB 0 10
      refine wn_imul (255 * (s 0 10)) kc87_57 rfl ?_
      refine wx_iload_n kc87_58 rfl rfl ?_
      refine wn_iadd ((255 * (s 0 10)) + i) kc87_59 rfl ?_
      refine wx_aload_n kc87_60 rfl rfl ?_
      refine wm_getf (.ref 206) hS kc87_61 rfl ?_
      refine wx_aload_n kc87_64 rfl rfl ?_
      refine wm_getf (.int (nI (s 0 18))) hS kc87_65 rfl ?_
      have hb68_3 := hB 0 18
      refine wx_iload_n kc87_68 rfl rfl ?_
      refine wn_iadd ((s 0 18) + i) kc87_69 rfl ?_
      refine wm_iald 206 42000 (s 12 ((s 0 18) + i)) hS kc87_70 rfl rfl rfl rfl (by omega) (fun _ => rfl) rfl ?_
      have hb71_4 := hB 12 ((s 0 18) + i)
      refine wx_i2b kc87_71 ?_
      refine wm_bast (v := (s 12 ((s 0 18) + i))) 205 15300 hS kc87_72 rfl rfl rfl rfl (by omega) (zsg_ii _) rfl ?_
      refine wn_iinc (i + 1) (ls' := [.ref 194, .int (nI f), .int (nI (i + 1))]) kc87_73 rfl rfl rfl rfl rfl ?_
      refine wx_goto kc87_76 ?_
      have e1 := zwr_s (zup (zup (zup s 8 (s 0 10) (s 0 17)) 9 (s 0 10) f) 10 (s 0 10) (s 0 19)) 11 (255 * s 0 10) i (fun i => s 12 (s 0 18 + i))
      show zm_wp _ 87 38 [.ref 194, .int (nI f), .int (nI (i + 1))] [] (zmh h0 (zup (zwr (zup (zup (zup s 8 (s 0 10) (s 0 17)) 9 (s 0 10) f) 10 (s 0 10) (s 0 19)) 11 (255 * s 0 10) i (fun i => s 12 (s 0 18 + i))) 11 ((255 * (s 0 10)) + i) (s 12 ((s 0 18) + i)))) _
      refine Eq.mp (congrArg (fun z => zm_wp _ 87 38 [.ref 194, .int (nI f), .int (nI (i + 1))] [] (zmh h0 z) Q) e1.symm) ?_
      exact ih (i + 1) (by omega)
theorem cM_addName {d : Nat} {h0 : zm_H} {s : Nat → Nat → Nat} {Q : Option Value → zm_H → Prop} {f : Nat} (hS : zMS h0) (hI : zMI s) (hN : s 0 10 < 60) (hl : s 0 19 ≤ 255) (hp : s 0 18 + s 0 19 ≤ 42000) (hf : f ≤ 40) (hq : Q none (zmh h0 (zadd s (s 0 17) (s 0 19) (fun i => s 12 (s 0 18 + i)) f))) : zm_wc (d + 2) mM_addName [.ref 194, .int (nI f)] (zmh h0 s) Q := by
  refine zm_enter (Nat.le_of_ble_eq_true rfl) ?_
  show zm_wp _ 87 0 [.ref 194, .int (nI f), zm_un] [] (zmh h0 s) Q
  have hB := zMIb hI
  refine wx_aload_n kc87_0 rfl rfl ?_
  refine wm_getf (.ref 202) hS kc87_1 rfl ?_
  refine wx_aload_n kc87_4 rfl rfl ?_
  refine wm_getf (.int (nI (s 0 10))) hS kc87_5 rfl ?_
  have hb8_1 := hB 0 10
  refine wx_aload_n kc87_8 rfl rfl ?_
  refine wm_getf (.int (nI (s 0 17))) hS kc87_9 rfl ?_
  have hb12_2 := hB 0 17
  refine wm_iast (v := s 0 17) 202 60 hS kc87_12 rfl rfl rfl rfl (by omega) rfl ?_
  refine wx_aload_n kc87_13 rfl rfl ?_
  refine wm_getf (.ref 203) hS kc87_14 rfl ?_
  refine wx_aload_n kc87_17 rfl rfl ?_
  refine wm_getf (.int (nI (s 0 10))) hS kc87_18 rfl ?_
  refine wx_iload_n kc87_21 rfl rfl ?_
  refine wm_iast (v := f) 203 60 hS kc87_22 rfl rfl rfl rfl (by omega) rfl ?_
  refine wx_aload_n kc87_23 rfl rfl ?_
  refine wm_getf (.ref 204) hS kc87_24 rfl ?_
  refine wx_aload_n kc87_27 rfl rfl ?_
  refine wm_getf (.int (nI (s 0 10))) hS kc87_28 rfl ?_
  refine wx_aload_n kc87_31 rfl rfl ?_
  refine wm_getf (.int (nI (s 0 19))) hS kc87_32 rfl ?_
  have hb35_3 := hB 0 19
  refine wm_iast (v := s 0 19) 204 60 hS kc87_35 rfl rfl rfl rfl (by omega) rfl ?_
  refine wx_iconst (nI 0) kc87_36 (by decide) ?_
  refine wx_istore_n (ls' := [.ref 194, .int (nI f), .int (nI 0)]) kc87_37 rfl rfl rfl rfl ?_
  show zm_wp _ 87 38 [.ref 194, .int (nI f), .int (nI 0)] [] (zmh h0 (zup (zup (zup s 8 (s 0 10) (s 0 17)) 9 (s 0 10) f) 10 (s 0 10) (s 0 19))) _
  rw [← zwr_0 (zup (zup (zup s 8 (s 0 10) (s 0 17)) 9 (s 0 10) f) 10 (s 0 10) (s 0 19)) 11 (255 * s 0 10) (fun i => s 12 (s 0 18 + i))]
  refine lM_addName hS hI hN hl hp hf ?_ (s 0 19) 0 (by omega)
  refine wx_aload_n kc87_79 rfl rfl ?_
  refine wx_dup kc87_80 rfl ?_
  refine wm_getf (.int (nI (s 0 10))) hS kc87_81 rfl ?_
  refine wx_iconst (nI 1) kc87_84 (by decide) ?_
  refine wn_iadd ((s 0 10) + 1) kc87_85 rfl ?_
  refine wm_putf (v := ((s 0 10) + 1)) hS kc87_86 rfl rfl ?_
  show zm_wp _ 87 89 [.ref 194, .int (nI f), .int (nI (s 0 19))] [] (zmh h0 (zup (zwr (zup (zup (zup s 8 (s 0 10) (s 0 17)) 9 (s 0 10) f) 10 (s 0 10) (s 0 19)) 11 (255 * s 0 10) (s 0 19) (fun i => s 12 (s 0 18 + i))) 0 10 ((s 0 10) + 1))) _
  have hI2 := zMI_ad1 hI (dd := s 0 17) (n := s 0 19) (g := (fun i => s 12 (s 0 18 + i))) (f := f) (hI 0 17) hl (fun i => hI 12 _) hf hN
  obtain ⟨t, ht⟩ : ∃ z, z = zad1 s (s 0 17) (s 0 19) (fun i => s 12 (s 0 18 + i)) f := ⟨_, rfl⟩
  have t17 : t 0 17 = s 0 17 := by rw [ht]; rfl
  have t10 : t 0 10 = s 0 10 + 1 := by rw [ht]; rfl
  have t4 : t 4 (s 0 17) = s 4 (s 0 17) := by rw [ht]; rfl
  rw [← ht] at hI2
  have hB2 := zMIb hI2
  have h17 : s 0 17 ≤ 40 := hI 0 17
  show zm_wp _ 87 89 _ _ (zmh h0 (zad1 s (s 0 17) (s 0 19) (fun i => s 12 (s 0 18 + i)) f)) _
  rw [← ht]
  refine wx_aload_n kc87_89 rfl rfl ?_
  refine wx_aload_n kc87_90 rfl rfl ?_
  refine wm_getf (.int (nI (t 0 17))) hS kc87_91 rfl ?_
  have hb94_4 := hB2 0 17
  have hn := zmni_le (s := t) (t 0 17) (t 0 10)
  refine wx_virtual kc87_94 rfl (zmh_is hS 194 8 (by decide) (by decide) rfl) rfl ?_
  refine cM_namesIn hS hI2 (by omega) ?_
  show zm_wp _ 87 97 [.ref 194, .int (nI f), .int (nI (s 0 19))] [.int (nI (zmni t (t 0 17) (t 0 10)))] (zmh h0 t) _
  refine wx_istore_n (ls' := [.ref 194, .int (nI f), .int (nI (zmni t (t 0 17) (t 0 10)))]) kc87_97 rfl rfl rfl rfl ?_
  refine wx_aload_n kc87_98 rfl rfl ?_
  refine wm_getf (.ref 198) hS kc87_99 rfl ?_
  refine wx_aload_n kc87_102 rfl rfl ?_
  refine wm_getf (.int (nI (t 0 17))) hS kc87_103 rfl ?_
  refine wx_iload_n kc87_106 rfl rfl ?_
  refine wx_aload_n kc87_107 rfl rfl ?_
  refine wm_getf (.ref 198) hS kc87_108 rfl ?_
  refine wx_aload_n kc87_111 rfl rfl ?_
  refine wm_getf (.int (nI (t 0 17))) hS kc87_112 rfl ?_
  refine wm_iald 198 41 (t 4 (t 0 17)) hS kc87_115 rfl rfl rfl rfl (by omega) (fun _ => rfl) rfl ?_
  have hb116_5 := hB2 4 (t 0 17)
  refine wn_icmp_le kc87_116 (by omega) (hB2 _ _) (fun hq116 => ?_) (fun hq116 => ?_)
  · skip
    refine wx_aload_n kc87_123 rfl rfl ?_
    refine wm_getf (.ref 198) hS kc87_124 rfl ?_
    refine wx_aload_n kc87_127 rfl rfl ?_
    refine wm_getf (.int (nI (t 0 17))) hS kc87_128 rfl ?_
    have hb131_6 := hB2 0 17
    refine wm_iald 198 41 (t 4 (t 0 17)) hS kc87_131 rfl rfl rfl rfl (by omega) (fun _ => rfl) rfl ?_
    have hb132_7 := hB2 4 (t 0 17)
    refine wm_iast (v := (t 4 (t 0 17))) 198 41 hS kc87_132 rfl rfl rfl rfl (by omega) rfl ?_
    refine wx_return kc87_133 rfl ?_
    have e : zadd s (s 0 17) (s 0 19) (fun i => s 12 (s 0 18 + i)) f = (zup t 4 (t 0 17) (t 4 (t 0 17))) := by
      unfold zadd
      rw [← ht, ← t10, ← t4, ← t17]
      first | rw [if_pos (by omega)] | rw [if_neg (by omega)]
    rw [← e]
    exact hq
  · skip
    refine wx_iload_n kc87_119 rfl rfl ?_
    refine wx_goto kc87_120 ?_
    refine wm_iast (v := (zmni t (t 0 17) (t 0 10))) 198 41 hS kc87_132 rfl rfl rfl rfl (by omega) rfl ?_
    refine wx_return kc87_133 rfl ?_
    have e : zadd s (s 0 17) (s 0 19) (fun i => s 12 (s 0 18 + i)) f = (zup t 4 (t 0 17) (zmni t (t 0 17) (t 0 10))) := by
      unfold zadd
      rw [← ht, ← t10, ← t4, ← t17]
      first | rw [if_pos (by omega)] | rw [if_neg (by omega)]
    rw [← e]
    exact hq
def zrm1 (s : Nat → Nat → Nat) (k : Nat) : Nat → Nat → Nat := zwr (zup (zup (zup (zup s 0 10 (s 0 10 - 1)) 8 k (s 8 (s 0 10 - 1))) 9 k (s 9 (s 0 10 - 1))) 10 k (s 10 (s 0 10 - 1))) 11 (255 * k) 255 (fun i => s 11 (255 * (s 0 10 - 1) + i))
def zrem (s : Nat → Nat → Nat) (k : Nat) : Nat → Nat → Nat := if zmno (zrm1 s k) (s 9 k) (s 0 10 - 1) = 0 ∧ s 5 (s 9 k) = 0 then zup (zrm1 s k) 3 (s 9 k) 0 else zrm1 s k
theorem zMI_rm1 {s : Nat → Nat → Nat} (hI : zMI s) (k : Nat) : zMI (zrm1 s k) :=
  zMI_wr (zMI_up (zMI_up (zMI_up (zMI_up hI (show s 0 10 - 1 ≤ 60 by have : s 0 10 ≤ 60 := hI 0 10; omega)) (show s 8 _ ≤ 40 from hI 8 _)) (show s 9 _ ≤ 40 from hI 9 _)) (show s 10 _ ≤ 255 from hI 10 _)) (fun i _ => show s 11 _ ≤ 255 from hI 11 _)
theorem zMI_rem {s : Nat → Nat → Nat} (hI : zMI s) (k : Nat) : zMI (zrem s k) := by
  unfold zrem
  split
  · exact zMI_up (zMI_rm1 hI k) (Nat.zero_le _)
  · exact zMI_rm1 hI k
theorem lM_removeName {d : Nat} {h0 : zm_H} {s : Nat → Nat → Nat} {Q : Option Value → zm_H → Prop} {k : Nat} (hS : zMS h0) (hI : zMI s) (hk : k < s 0 10) (hq : zm_wp (d + 1) 88 104 [.ref 194, .int (nI k), .int (nI (s 9 k)), .int (nI 255)] [] (zmh h0 (zwr (zup (zup (zup (zup s 0 10 (s 0 10 - 1)) 8 k (s 8 (s 0 10 - 1))) 9 k (s 9 (s 0 10 - 1))) 10 k (s 10 (s 0 10 - 1))) 11 (255 * k) 255 (fun i => s 11 (255 * (s 0 10 - 1) + i)))) Q) : ∀ (n i : Nat), i + n = 255 → zm_wp (d + 1) 88 64 [.ref 194, .int (nI k), .int (nI (s 9 k)), .int (nI i)] [] (zmh h0 (zwr (zup (zup (zup (zup s 0 10 (s 0 10 - 1)) 8 k (s 8 (s 0 10 - 1))) 9 k (s 9 (s 0 10 - 1))) 10 k (s 10 (s 0 10 - 1))) 11 (255 * k) i (fun i => s 11 (255 * (s 0 10 - 1) + i)))) Q := by
  have hB := zMIb hI
  have h10 : s 0 10 ≤ 60 := hI 0 10
  intro n
  induction n with
  | zero =>
    intro i hi
    refine wx_iload_n kc88_64 rfl rfl ?_
    refine wx_sipush (nI 255) kc88_65 (by decide) ?_
    refine wn_icmp_ge kc88_68 (by omega) (by decide) (fun hq68 => ?_) (fun hq68 => ?_)
    · skip
      obtain rfl : i = 255 := by omega
      exact hq
    · skip
      exact absurd hq68 (by omega)
  | succ n ih =>
    intro i hi
    refine wx_iload_n kc88_64 rfl rfl ?_
    refine wx_sipush (nI 255) kc88_65 (by decide) ?_
    refine wn_icmp_ge kc88_68 (by omega) (by decide) (fun hq68 => ?_) (fun hq68 => ?_)
    · skip
      exact absurd hq68 (by omega)
    · skip
      refine wx_aload_n kc88_71 rfl rfl ?_
      refine wm_getf (.ref 205) hS kc88_72 rfl ?_
      refine wx_sipush (nI 255) kc88_75 (by decide) ?_
      refine wx_iload_n kc88_78 rfl rfl ?_
      refine wn_imul (255 * k) kc88_79 rfl ?_
      refine wx_iload_n kc88_80 rfl rfl ?_
      refine wn_iadd ((255 * k) + i) kc88_81 rfl ?_
      refine wx_aload_n kc88_82 rfl rfl ?_
      refine wm_getf (.ref 205) hS kc88_83 rfl ?_
      refine wx_sipush (nI 255) kc88_86 (by decide) ?_
      refine wx_aload_n kc88_89 rfl rfl ?_
      refine wm_getf (.int (nI (s 0 10 - 1))) hS kc88_90 rfl ?_
      refine wn_imul (255 * (s 0 10 - 1)) kc88_93 rfl ?_
      refine wx_iload_n kc88_94 rfl rfl ?_
      refine wn_iadd ((255 * (s 0 10 - 1)) + i) kc88_95 rfl ?_
      refine wm_bald 205 15300 (s 11 (255 * (s 0 10 - 1) + i)) hS kc88_96 rfl rfl rfl rfl (by omega) (fun _ => rfl) (zwr_out _ _ (by omega)) ?_
      refine wm_bast (v := (s 11 (255 * (s 0 10 - 1) + i))) 205 15300 hS kc88_97 rfl rfl rfl rfl (by omega) (zsg_sg (Nat.lt_succ_of_le (hI 11 _))) rfl ?_
      refine wn_iinc (i + 1) (ls' := [.ref 194, .int (nI k), .int (nI (s 9 k)), .int (nI (i + 1))]) kc88_98 rfl rfl rfl rfl rfl ?_
      refine wx_goto kc88_101 ?_
      have e1 := zwr_s (zup (zup (zup (zup s 0 10 (s 0 10 - 1)) 8 k (s 8 (s 0 10 - 1))) 9 k (s 9 (s 0 10 - 1))) 10 k (s 10 (s 0 10 - 1))) 11 (255 * k) i (fun i => s 11 (255 * (s 0 10 - 1) + i))
      show zm_wp _ 88 64 [.ref 194, .int (nI k), .int (nI (s 9 k)), .int (nI (i + 1))] [] (zmh h0 (zup (zwr (zup (zup (zup (zup s 0 10 (s 0 10 - 1)) 8 k (s 8 (s 0 10 - 1))) 9 k (s 9 (s 0 10 - 1))) 10 k (s 10 (s 0 10 - 1))) 11 (255 * k) i (fun i => s 11 (255 * (s 0 10 - 1) + i))) 11 ((255 * k) + i) (s 11 (255 * (s 0 10 - 1) + i)))) _
      refine Eq.mp (congrArg (fun z => zm_wp _ 88 64 [.ref 194, .int (nI k), .int (nI (s 9 k)), .int (nI (i + 1))] [] (zmh h0 z) Q) e1.symm) ?_
      exact ih (i + 1) (by omega)
theorem cM_removeName {d : Nat} {h0 : zm_H} {s : Nat → Nat → Nat} {Q : Option Value → zm_H → Prop} {k : Nat} (hS : zMS h0) (hI : zMI s) (hk : k < s 0 10) (hq : Q none (zmh h0 (zrem s k))) : zm_wc (d + 2) mM_removeName [.ref 194, .int (nI k)] (zmh h0 s) Q := by
  refine zm_enter (Nat.le_of_ble_eq_true rfl) ?_
  show zm_wp _ 88 0 [.ref 194, .int (nI k), zm_un, zm_un] [] (zmh h0 s) Q
  have hB := zMIb hI
  have h10 : s 0 10 ≤ 60 := hI 0 10
  refine wx_aload_n kc88_0 rfl rfl ?_
  refine wm_getf (.ref 203) hS kc88_1 rfl ?_
  refine wx_iload_n kc88_4 rfl rfl ?_
  refine wm_iald 203 60 (s 9 k) hS kc88_5 rfl rfl rfl rfl (by omega) (fun _ => rfl) rfl ?_
  have hb6_1 := hB 9 k
  refine wx_istore_n (ls' := [.ref 194, .int (nI k), .int (nI (s 9 k)), zm_un]) kc88_6 rfl rfl rfl rfl ?_
  refine wx_aload_n kc88_7 rfl rfl ?_
  refine wx_dup kc88_8 rfl ?_
  refine wm_getf (.int (nI (s 0 10))) hS kc88_9 rfl ?_
  have hb12_2 := hB 0 10
  refine wx_iconst (nI 1) kc88_12 (by decide) ?_
  refine wn_isub ((s 0 10) - 1) kc88_13 (by omega) ?_
  refine wm_putf (v := ((s 0 10) - 1)) hS kc88_14 rfl rfl ?_
  refine wx_aload_n kc88_17 rfl rfl ?_
  refine wm_getf (.ref 202) hS kc88_18 rfl ?_
  refine wx_iload_n kc88_21 rfl rfl ?_
  refine wx_aload_n kc88_22 rfl rfl ?_
  refine wm_getf (.ref 202) hS kc88_23 rfl ?_
  refine wx_aload_n kc88_26 rfl rfl ?_
  refine wm_getf (.int (nI ((s 0 10) - 1))) hS kc88_27 rfl ?_
  refine wm_iald 202 60 (s 8 ((s 0 10) - 1)) hS kc88_30 rfl rfl rfl rfl (by omega) (fun _ => rfl) rfl ?_
  have hb31_3 := hB 8 ((s 0 10) - 1)
  refine wm_iast (v := (s 8 ((s 0 10) - 1))) 202 60 hS kc88_31 rfl rfl rfl rfl (by omega) rfl ?_
  refine wx_aload_n kc88_32 rfl rfl ?_
  refine wm_getf (.ref 203) hS kc88_33 rfl ?_
  refine wx_iload_n kc88_36 rfl rfl ?_
  refine wx_aload_n kc88_37 rfl rfl ?_
  refine wm_getf (.ref 203) hS kc88_38 rfl ?_
  refine wx_aload_n kc88_41 rfl rfl ?_
  refine wm_getf (.int (nI ((s 0 10) - 1))) hS kc88_42 rfl ?_
  refine wm_iald 203 60 (s 9 ((s 0 10) - 1)) hS kc88_45 rfl rfl rfl rfl (by omega) (fun _ => rfl) rfl ?_
  have hb46_4 := hB 9 ((s 0 10) - 1)
  refine wm_iast (v := (s 9 ((s 0 10) - 1))) 203 60 hS kc88_46 rfl rfl rfl rfl (by omega) rfl ?_
  refine wx_aload_n kc88_47 rfl rfl ?_
  refine wm_getf (.ref 204) hS kc88_48 rfl ?_
  refine wx_iload_n kc88_51 rfl rfl ?_
  refine wx_aload_n kc88_52 rfl rfl ?_
  refine wm_getf (.ref 204) hS kc88_53 rfl ?_
  refine wx_aload_n kc88_56 rfl rfl ?_
  refine wm_getf (.int (nI ((s 0 10) - 1))) hS kc88_57 rfl ?_
  refine wm_iald 204 60 (s 10 ((s 0 10) - 1)) hS kc88_60 rfl rfl rfl rfl (by omega) (fun _ => rfl) rfl ?_
  have hb61_5 := hB 10 ((s 0 10) - 1)
  refine wm_iast (v := (s 10 ((s 0 10) - 1))) 204 60 hS kc88_61 rfl rfl rfl rfl (by omega) rfl ?_
  refine wx_iconst (nI 0) kc88_62 (by decide) ?_
  refine wx_istore_n (ls' := [.ref 194, .int (nI k), .int (nI (s 9 k)), .int (nI 0)]) kc88_63 rfl rfl rfl rfl ?_
  show zm_wp _ 88 64 [.ref 194, .int (nI k), .int (nI (s 9 k)), .int (nI 0)] [] (zmh h0 (zup (zup (zup (zup s 0 10 ((s 0 10) - 1)) 8 k (s 8 ((s 0 10) - 1))) 9 k (s 9 ((s 0 10) - 1))) 10 k (s 10 ((s 0 10) - 1)))) _
  rw [← zwr_0 (zup (zup (zup (zup s 0 10 (s 0 10 - 1)) 8 k (s 8 (s 0 10 - 1))) 9 k (s 9 (s 0 10 - 1))) 10 k (s 10 (s 0 10 - 1))) 11 (255 * k) (fun i => s 11 (255 * (s 0 10 - 1) + i))]
  refine lM_removeName hS hI hk ?_ 255 0 (by omega)
  show zm_wp _ 88 104 [.ref 194, .int (nI k), .int (nI (s 9 k)), .int (nI 255)] [] (zmh h0 (zwr (zup (zup (zup (zup s 0 10 (s 0 10 - 1)) 8 k (s 8 (s 0 10 - 1))) 9 k (s 9 (s 0 10 - 1))) 10 k (s 10 (s 0 10 - 1))) 11 (255 * k) 255 (fun i => s 11 (255 * (s 0 10 - 1) + i)))) _
  have hI2 := zMI_rm1 hI k
  obtain ⟨t, ht⟩ : ∃ z, z = zrm1 s k := ⟨_, rfl⟩
  have t10 : t 0 10 = s 0 10 - 1 := by rw [ht]; rfl
  have t5 : t 5 (s 9 k) = s 5 (s 9 k) := by rw [ht]; rfl
  rw [← ht] at hI2
  have hB2 := zMIb hI2
  have h9 : s 9 k ≤ 40 := hI 9 k
  show zm_wp _ 88 104 _ _ (zmh h0 (zrm1 s k)) _
  rw [← ht]
  refine wx_aload_n kc88_104 rfl rfl ?_
  refine wx_iload_n kc88_105 rfl rfl ?_
  have hn := zmno_le (s := t) (s 9 k) (t 0 10)
  refine wx_virtual kc88_106 rfl (zmh_is hS 194 8 (by decide) (by decide) rfl) rfl ?_
  refine cM_namesOf hS hI2 (by omega) ?_
  show zm_wp _ 88 109 [.ref 194, .int (nI k), .int (nI (s 9 k)), .int (nI 255)] [.int (nI (zmno t (s 9 k) (t 0 10)))] (zmh h0 t) _
  refine wn_if_ne kc88_109 (by omega) (fun hq109 => ?_) (fun hq109 => ?_)
  · skip
    refine wx_return kc88_128 rfl ?_
    have e : zrem s k = t := by
      unfold zrem
      rw [← ht, ← t10, ← t5]
      first | rw [if_pos ⟨by omega, by omega⟩] | rw [if_neg (by omega)]
    rw [← e]
    exact hq
  · skip
    refine wx_aload_n kc88_112 rfl rfl ?_
    refine wm_getf (.ref 199) hS kc88_113 rfl ?_
    refine wx_iload_n kc88_116 rfl rfl ?_
    refine wm_iald 199 41 (t 5 (s 9 k)) hS kc88_117 rfl rfl rfl rfl (by omega) (fun _ => rfl) rfl ?_
    have hb118_6 := hB2 5 (s 9 k)
    refine wn_if_ne kc88_118 (hB2 _ _) (fun hq118 => ?_) (fun hq118 => ?_)
    · skip
      refine wx_return kc88_128 rfl ?_
      have e : zrem s k = t := by
        unfold zrem
        rw [← ht, ← t10, ← t5]
        first | rw [if_pos ⟨by omega, by omega⟩] | rw [if_neg (by omega)]
      rw [← e]
      exact hq
    · skip
      refine wx_aload_n kc88_121 rfl rfl ?_
      refine wm_getf (.ref 197) hS kc88_122 rfl ?_
      refine wx_iload_n kc88_125 rfl rfl ?_
      refine wx_iconst (nI 0) kc88_126 (by decide) ?_
      refine wm_iast (v := 0) 197 41 hS kc88_127 rfl rfl rfl rfl (by omega) rfl ?_
      refine wx_return kc88_128 rfl ?_
      have e : zrem s k = (zup t 3 (s 9 k) 0) := by
        unfold zrem
        rw [← ht, ← t10, ← t5]
        first | rw [if_pos ⟨by omega, by omega⟩] | rw [if_neg (by omega)]
      rw [← e]
      exact hq
/-- the least number that no file has -/
def zfx (s : Nat → Nat → Nat) : Nat → Nat → Nat
  | 0, f => f
  | n + 1, f => if s 3 f = 0 then f else zfx s n (f + 1)
theorem zfx_le {s : Nat → Nat → Nat} : ∀ n f, f ≤ zfx s n f ∧ zfx s n f ≤ f + n
  | 0, f => ⟨Nat.le_refl _, Nat.le_refl _⟩
  | n + 1, f => by
    unfold zfx
    have := zfx_le (s := s) n (f + 1)
    split <;> omega
theorem lM_newFile {d : Nat} {h0 : zm_H} {s : Nat → Nat → Nat} {Q : Option Value → zm_H → Prop} {kind more : Nat} (hS : zMS h0) (hI : zMI s) (hq : zm_wp (d + 3) 94 23 [.ref 194, .int (nI kind), .int (nI more), .int (nI (zfx s 39 2))] [] (zmh h0 s) Q) : ∀ (n i : Nat), i + n = 39 → zfx s n (i + 2) = zfx s 39 2 → zm_wp (d + 3) 94 2 [.ref 194, .int (nI kind), .int (nI more), .int (nI (i + 2))] [] (zmh h0 s) Q := by
  have hB := zMIb hI
  intro n
  induction n with
  | zero =>
    intro i hi
    intro he
    refine wx_iload_n kc94_2 rfl rfl ?_
    refine wx_bipush (nI 40) kc94_3 (by decide) ?_
    refine wn_icmp_gt kc94_5 (by omega) (by decide) (fun hq5 => ?_) (fun hq5 => ?_)
    · skip
      rw [show i + 2 = zfx s 39 2 by rw [← he]; rfl]
      exact hq
    · skip
      exact absurd hq5 (by omega)
  | succ n ih =>
    intro i hi
    intro he
    refine wx_iload_n kc94_2 rfl rfl ?_
    refine wx_bipush (nI 40) kc94_3 (by decide) ?_
    refine wn_icmp_gt kc94_5 (by omega) (by decide) (fun hq5 => ?_) (fun hq5 => ?_)
    · skip
      exact absurd hq5 (by omega)
    · skip
      refine wx_aload_n kc94_8 rfl rfl ?_
      refine wm_getf (.ref 197) hS kc94_9 rfl ?_
      refine wx_iload_n kc94_12 rfl rfl ?_
      refine wm_iald 197 41 (s 3 (i + 2)) hS kc94_13 rfl rfl rfl rfl (by omega) (fun _ => rfl) rfl ?_
      have hb14_1 := hB 3 (i + 2)
      refine wn_if_le kc94_14 (hB _ _) (fun hq14 => ?_) (fun hq14 => ?_)
      · skip
        rw [show i + 2 = zfx s 39 2 by rw [← he]; show _ = (if s 3 (i + 2) = 0 then _ else _); rw [if_pos (by omega)]]
        exact hq
      · skip
        refine wn_iinc ((i + 2) + 1) (ls' := [.ref 194, .int (nI kind), .int (nI more), .int (nI ((i + 2) + 1))]) kc94_17 rfl rfl rfl rfl rfl ?_
        refine wx_goto kc94_20 ?_
        refine ih (i + 1) (by omega) ?_
        rw [← he]
        show _ = (if s 3 (i + 2) = 0 then _ else _)
        rw [if_neg (by omega)]
theorem cM_newFile {d : Nat} {h0 : zm_H} {s : Nat → Nat → Nat} {Q : Option Value → zm_H → Prop} {kind more : Nat} (hS : zMS h0) (hI : zMI s) (hkind : kind ≤ 3) (hmore : more ≤ 1) (hl : s 0 19 ≤ 255) (hp : s 0 18 + s 0 19 ≤ 42000) (hfull : (40 < zfx s 39 2 ∨ s 0 10 = 60 ∨ s 0 0 < zmat s + more + zmgr s (s 0 17) (zmni s (s 0 17) (s 0 10) + 1)) → Q (some (.int (-7))) (zmh h0 s)) (hgood : zfx s 39 2 ≤ 40 → s 0 10 < 60 → zmat s + more + zmgr s (s 0 17) (zmni s (s 0 17) (s 0 10) + 1) ≤ s 0 0 → Q (some (.int (nI (zfx s 39 2)))) (zmh h0 (zadd (zup (zup (zup s 3 (zfx s 39 2) kind) 4 (zfx s 39 2) 0) 5 (zfx s 39 2) 0) (s 0 17) (s 0 19) (fun i => s 12 (s 0 18 + i)) (zfx s 39 2)))) : zm_wc (d + 4) mM_newFile [.ref 194, .int (nI kind), .int (nI more)] (zmh h0 s) Q := by
  refine zm_enter (Nat.le_of_ble_eq_true rfl) ?_
  show zm_wp _ 94 0 [.ref 194, .int (nI kind), .int (nI more), zm_un] [] (zmh h0 s) Q
  have hB := zMIb hI
  refine wx_iconst (nI 2) kc94_0 (by decide) ?_
  refine wx_istore_n (ls' := [.ref 194, .int (nI kind), .int (nI more), .int (nI 2)]) kc94_1 rfl rfl rfl rfl ?_
  show zm_wp _ 94 2 [.ref 194, .int (nI kind), .int (nI more), .int (nI 2)] [] (zmh h0 s) _
  refine lM_newFile hS hI ?_ 39 0 (by omega) rfl
  have hz := zfx_le (s := s) 39 2
  have hm := zmat_le hI
  have h10 : s 0 10 ≤ 60 := hI 0 10
  have h17 : s 0 17 ≤ 40 := hI 0 17
  have hn := zmni_le (s := s) (s 0 17) (s 0 10)
  have hgr : zmgr s (s 0 17) (zmni s (s 0 17) (s 0 10) + 1) ≤ 100 := by
    unfold zmgr
    split
    · have : zft (zmni s (s 0 17) (s 0 10) + 1) ≤ 61 := by unfold zft; split <;> omega
      omega
    · omega
  refine wx_iload_n kc94_23 rfl rfl ?_
  refine wx_bipush (nI 40) kc94_24 (by decide) ?_
  refine wn_icmp_gt kc94_26 (by omega) (by decide) (fun hq26 => ?_) (fun hq26 => ?_)
  · skip
    refine wx_bipush (-7) kc94_70 (by decide) ?_
    refine wx_ireturn kc94_72 rfl rfl ?_
    exact hfull (by omega)
  · skip
    refine wx_aload_n kc94_29 rfl rfl ?_
    refine wm_getf (.int (nI (s 0 10))) hS kc94_30 rfl ?_
    have hb33_1 := hB 0 10
    refine wx_bipush (nI 60) kc94_33 (by decide) ?_
    refine wn_icmp_eq kc94_35 (hB _ _) (by decide) (fun hq35 => ?_) (fun hq35 => ?_)
    · skip
      refine wx_bipush (-7) kc94_70 (by decide) ?_
      refine wx_ireturn kc94_72 rfl rfl ?_
      exact hfull (by omega)
    · skip
      refine wx_aload_n kc94_38 rfl rfl ?_
      refine wx_virtual kc94_39 rfl (zmh_is hS 194 8 (by decide) (by decide) rfl) rfl ?_
      refine cM_allTake hS hI ?_
      show zm_wp _ 94 42 [.ref 194, .int (nI kind), .int (nI more), .int (nI (zfx s 39 2))] [.int (nI (zmat s))] (zmh h0 s) _
      refine wx_iload_n kc94_42 rfl rfl ?_
      refine wn_iadd ((zmat s) + more) kc94_43 rfl ?_
      refine wx_aload_n kc94_44 rfl rfl ?_
      refine wx_aload_n kc94_45 rfl rfl ?_
      refine wm_getf (.int (nI (s 0 17))) hS kc94_46 rfl ?_
      have hb49_2 := hB 0 17
      refine wx_aload_n kc94_49 rfl rfl ?_
      refine wx_aload_n kc94_50 rfl rfl ?_
      refine wm_getf (.int (nI (s 0 17))) hS kc94_51 rfl ?_
      refine wx_virtual kc94_54 rfl (zmh_is hS 194 8 (by decide) (by decide) rfl) rfl ?_
      refine cM_namesIn hS hI (by omega) ?_
      show zm_wp _ 94 57 [.ref 194, .int (nI kind), .int (nI more), .int (nI (zfx s 39 2))] [.int (nI (zmni s (s 0 17) (s 0 10))), .int (nI (s 0 17)), .ref 194, .int (nI ((zmat s) + more))] (zmh h0 s) _
      refine wx_iconst (nI 1) kc94_57 (by decide) ?_
      refine wn_iadd ((zmni s (s 0 17) (s 0 10)) + 1) kc94_58 rfl ?_
      refine wx_virtual kc94_59 rfl (zmh_is hS 194 8 (by decide) (by decide) rfl) rfl ?_
      refine cM_growth hS hI (by omega) (by omega) ?_
      show zm_wp _ 94 62 [.ref 194, .int (nI kind), .int (nI more), .int (nI (zfx s 39 2))] [.int (nI (zmgr s (s 0 17) (zmni s (s 0 17) (s 0 10) + 1))), .int (nI ((zmat s) + more))] (zmh h0 s) _
      refine wn_iadd (((zmat s) + more) + (zmgr s (s 0 17) (zmni s (s 0 17) (s 0 10) + 1))) kc94_62 rfl ?_
      refine wx_aload_n kc94_63 rfl rfl ?_
      refine wm_getf (.int (nI (s 0 0))) hS kc94_64 rfl ?_
      have hb67_3 := hB 0 0
      refine wn_icmp_le kc94_67 (by omega) (hB _ _) (fun hq67 => ?_) (fun hq67 => ?_)
      · skip
        refine wx_aload_n kc94_73 rfl rfl ?_
        refine wm_getf (.ref 197) hS kc94_74 rfl ?_
        refine wx_iload_n kc94_77 rfl rfl ?_
        refine wx_iload_n kc94_78 rfl rfl ?_
        refine wm_iast (v := kind) 197 41 hS kc94_79 rfl rfl rfl rfl (by omega) rfl ?_
        refine wx_aload_n kc94_80 rfl rfl ?_
        refine wm_getf (.ref 198) hS kc94_81 rfl ?_
        refine wx_iload_n kc94_84 rfl rfl ?_
        refine wx_iconst (nI 0) kc94_85 (by decide) ?_
        refine wm_iast (v := 0) 198 41 hS kc94_86 rfl rfl rfl rfl (by omega) rfl ?_
        refine wx_aload_n kc94_87 rfl rfl ?_
        refine wm_getf (.ref 199) hS kc94_88 rfl ?_
        refine wx_iload_n kc94_91 rfl rfl ?_
        refine wx_iconst (nI 0) kc94_92 (by decide) ?_
        refine wm_iast (v := 0) 199 41 hS kc94_93 rfl rfl rfl rfl (by omega) rfl ?_
        refine wx_aload_n kc94_94 rfl rfl ?_
        refine wx_iload_n kc94_95 rfl rfl ?_
        show zm_wp _ 94 96 [.ref 194, .int (nI kind), .int (nI more), .int (nI (zfx s 39 2))] [.int (nI (zfx s 39 2)), .ref 194] (zmh h0 (zup (zup (zup s 3 (zfx s 39 2) kind) 4 (zfx s 39 2) 0) 5 (zfx s 39 2) 0)) _
        have hI2 := zMI_up (zMI_up (zMI_up hI (a := 3) (j := zfx s 39 2) (v := kind) (show kind ≤ 3 from hkind)) (a := 4) (j := zfx s 39 2) (v := 0) (Nat.zero_le _)) (a := 5) (j := zfx s 39 2) (v := 0) (Nat.zero_le _)
        refine wx_virtual kc94_96 rfl (zmh_is hS 194 8 (by decide) (by decide) rfl) rfl ?_
        refine cM_addName hS hI2 (show s 0 10 < 60 by omega) hl hp (by omega) ?_
        show zm_wp _ 94 99 [.ref 194, .int (nI kind), .int (nI more), .int (nI (zfx s 39 2))] [] (zmh h0 (zadd (zup (zup (zup s 3 (zfx s 39 2) kind) 4 (zfx s 39 2) 0) 5 (zfx s 39 2) 0) (s 0 17) (s 0 19) (fun i => s 12 (s 0 18 + i)) (zfx s 39 2))) _
        refine wx_iload_n kc94_99 rfl rfl ?_
        refine wx_ireturn kc94_100 rfl rfl ?_
        exact hgood (by omega) (by omega) (by omega)
      · skip
        refine wx_bipush (-7) kc94_70 (by decide) ?_
        refine wx_ireturn kc94_72 rfl rfl ?_
        exact hfull (by omega)
/-- the folders above -/
def zit (s : Nat → Nat → Nat) : Nat → Nat → Nat
  | 0, f => f
  | m + 1, f => zit s m (zmpa s f (s 0 10))
def zwi (s : Nat → Nat → Nat) (o : Nat) : Nat → Nat → Nat
  | 0, f => if f = o then 1 else 0
  | m + 1, f => if f = o then 1 else if f = 1 then 0 else zwi s o m (zmpa s f (s 0 10))
theorem lM_isWithin {d : Nat} {h0 : zm_H} {s : Nat → Nat → Nat} {Q : Option Value → zm_H → Prop} {o : Nat} {v1 : Value} (hS : zMS h0) (hI : zMI s) (ho : o < 2147483648) : ∀ (m f : Nat), f < 2147483648 → zit s m f = 1 → Q (some (.int (nI (zwi s o m f)))) (zmh h0 s) → zm_wp (d + 1) 100 2 [.ref 194, v1, .int (nI o), .int (nI f)] [] (zmh h0 s) Q := by
  have hB := zMIb hI
  intro m
  induction m with
  | zero =>
    intro f hf hz hq
    have hz : f = 1 := hz
    refine wx_iload_n kc100_2 rfl rfl ?_
    refine wx_iload_n kc100_3 rfl rfl ?_
    refine wn_icmp_eq kc100_4 (by omega) (by omega) (fun hq4 => ?_) (fun hq4 => ?_)
    · skip
      refine wx_iload_n kc100_21 rfl rfl ?_
      refine wx_iload_n kc100_22 rfl rfl ?_
      refine wn_icmp_ne kc100_23 (by omega) (by omega) (fun hq23 => ?_) (fun hq23 => ?_)
      · skip
        refine wx_iconst (nI 0) kc100_30 (by decide) ?_
        refine wx_ireturn kc100_31 rfl (by decide) ?_
        have e : zwi s o 0 f = 0 := by
          unfold zwi
          first | omega | (rw [if_pos (by omega)]; done) | (rw [if_neg (by omega), if_pos (by omega)]; done) | (rw [if_neg (by omega)]; done)
        rw [e] at hq
        exact hq
      · skip
        refine wx_iconst (nI 1) kc100_26 (by decide) ?_
        refine wx_goto kc100_27 ?_
        refine wx_ireturn kc100_31 rfl (by decide) ?_
        have e : zwi s o 0 f = 1 := by
          unfold zwi
          first | omega | (rw [if_pos (by omega)]; done) | (rw [if_neg (by omega), if_pos (by omega)]; done) | (rw [if_neg (by omega)]; done)
        rw [e] at hq
        exact hq
    · skip
      refine wx_iload_n kc100_7 rfl rfl ?_
      refine wx_iconst (nI 1) kc100_8 (by decide) ?_
      refine wn_icmp_eq kc100_9 (by omega) (by decide) (fun hq9 => ?_) (fun hq9 => ?_)
      · skip
        refine wx_iload_n kc100_21 rfl rfl ?_
        refine wx_iload_n kc100_22 rfl rfl ?_
        refine wn_icmp_ne kc100_23 (by omega) (by omega) (fun hq23 => ?_) (fun hq23 => ?_)
        · skip
          refine wx_iconst (nI 0) kc100_30 (by decide) ?_
          refine wx_ireturn kc100_31 rfl (by decide) ?_
          have e : zwi s o 0 f = 0 := by
            unfold zwi
            first | omega | (rw [if_pos (by omega)]; done) | (rw [if_neg (by omega), if_pos (by omega)]; done) | (rw [if_neg (by omega)]; done)
          rw [e] at hq
          exact hq
        · skip
          refine wx_iconst (nI 1) kc100_26 (by decide) ?_
          refine wx_goto kc100_27 ?_
          refine wx_ireturn kc100_31 rfl (by decide) ?_
          have e : zwi s o 0 f = 1 := by
            unfold zwi
            first | omega | (rw [if_pos (by omega)]; done) | (rw [if_neg (by omega), if_pos (by omega)]; done) | (rw [if_neg (by omega)]; done)
          rw [e] at hq
          exact hq
      · skip
        exact absurd hz hq9
  | succ m ih =>
    intro f hf hz hq
    refine wx_iload_n kc100_2 rfl rfl ?_
    refine wx_iload_n kc100_3 rfl rfl ?_
    refine wn_icmp_eq kc100_4 (by omega) (by omega) (fun hq4 => ?_) (fun hq4 => ?_)
    · skip
      refine wx_iload_n kc100_21 rfl rfl ?_
      refine wx_iload_n kc100_22 rfl rfl ?_
      refine wn_icmp_ne kc100_23 (by omega) (by omega) (fun hq23 => ?_) (fun hq23 => ?_)
      · skip
        refine wx_iconst (nI 0) kc100_30 (by decide) ?_
        refine wx_ireturn kc100_31 rfl (by decide) ?_
        have e : zwi s o (m + 1) f = 0 := by
          unfold zwi
          first | omega | (rw [if_pos (by omega)]; done) | (rw [if_neg (by omega), if_pos (by omega)]; done) | (rw [if_neg (by omega)]; done)
        rw [e] at hq
        exact hq
      · skip
        refine wx_iconst (nI 1) kc100_26 (by decide) ?_
        refine wx_goto kc100_27 ?_
        refine wx_ireturn kc100_31 rfl (by decide) ?_
        have e : zwi s o (m + 1) f = 1 := by
          unfold zwi
          first | omega | (rw [if_pos (by omega)]; done) | (rw [if_neg (by omega), if_pos (by omega)]; done) | (rw [if_neg (by omega)]; done)
        rw [e] at hq
        exact hq
    · skip
      refine wx_iload_n kc100_7 rfl rfl ?_
      refine wx_iconst (nI 1) kc100_8 (by decide) ?_
      refine wn_icmp_eq kc100_9 (by omega) (by decide) (fun hq9 => ?_) (fun hq9 => ?_)
      · skip
        refine wx_iload_n kc100_21 rfl rfl ?_
        refine wx_iload_n kc100_22 rfl rfl ?_
        refine wn_icmp_ne kc100_23 (by omega) (by omega) (fun hq23 => ?_) (fun hq23 => ?_)
        · skip
          refine wx_iconst (nI 0) kc100_30 (by decide) ?_
          refine wx_ireturn kc100_31 rfl (by decide) ?_
          have e : zwi s o (m + 1) f = 0 := by
            unfold zwi
            first | omega | (rw [if_pos (by omega)]; done) | (rw [if_neg (by omega), if_pos (by omega)]; done) | (rw [if_neg (by omega)]; done)
          rw [e] at hq
          exact hq
        · skip
          refine wx_iconst (nI 1) kc100_26 (by decide) ?_
          refine wx_goto kc100_27 ?_
          refine wx_ireturn kc100_31 rfl (by decide) ?_
          have e : zwi s o (m + 1) f = 1 := by
            unfold zwi
            first | omega | (rw [if_pos (by omega)]; done) | (rw [if_neg (by omega), if_pos (by omega)]; done) | (rw [if_neg (by omega)]; done)
          rw [e] at hq
          exact hq
      · skip
        refine wx_aload_n kc100_12 rfl rfl ?_
        refine wx_iload_n kc100_13 rfl rfl ?_
        have hp := zmpa_le hI f (s 0 10)
        refine wx_virtual kc100_14 rfl (zmh_is hS 194 8 (by decide) (by decide) rfl) rfl ?_
        refine cM_parent hS hI hf ?_
        show zm_wp _ 100 17 [.ref 194, v1, .int (nI o), .int (nI f)] [.int (nI (zmpa s f (s 0 10)))] (zmh h0 s) _
        refine wx_istore_n (ls' := [.ref 194, v1, .int (nI o), .int (nI (zmpa s f (s 0 10)))]) kc100_17 rfl rfl rfl rfl ?_
        refine wx_goto kc100_18 ?_
        refine ih _ (by omega) hz ?_
        have e : zwi s o (m + 1) f = zwi s o m (zmpa s f (s 0 10)) := by
          show (if f = o then 1 else if f = 1 then 0 else _) = _
          rw [if_neg hq4, if_neg hq9]
        rw [← e]
        exact hq
theorem cM_isWithin {d : Nat} {h0 : zm_H} {s : Nat → Nat → Nat} {Q : Option Value → zm_H → Prop} {f o m : Nat} (hS : zMS h0) (hI : zMI s) (ho : o < 2147483648) (hf : f ≤ 40) (hz : zit s m f = 1) (hq : Q (some (.int (nI (zwi s o m f)))) (zmh h0 s)) : zm_wc (d + 2) mM_isWithin [.ref 194, .int (nI f), .int (nI o)] (zmh h0 s) Q := by
  refine zm_enter (Nat.le_of_ble_eq_true rfl) ?_
  show zm_wp _ 100 0 [.ref 194, .int (nI f), .int (nI o), zm_un] [] (zmh h0 s) Q
  refine wx_iload_n kc100_0 rfl rfl ?_
  refine wx_istore_n (ls' := [.ref 194, .int (nI f), .int (nI o), .int (nI f)]) kc100_1 rfl rfl rfl rfl ?_
  exact lM_isWithin hS hI ho m f (by omega) hz hq
def zmab (s : Nat → Nat → Nat) (f w : Nat) : Nat := if w = 0 then s 3 f else if w = 1 then (if s 3 f = 2 then 2 + zmfi s f (s 0 10) else zmno s f (s 0 10)) else if w = 2 then (if s 3 f = 2 then zmni s f (s 0 10) else if s 3 f = 3 then s 6 f else s 5 f) else if w = 3 then zmt s f else (if s 3 f = 2 then zmpa s f (s 0 10) else 0)
theorem cM_about {d : Nat} {h0 : zm_H} {s : Nat → Nat → Nat} {Q : Option Value → zm_H → Prop} {x y : Int32} (hS : zMS h0) (hI : zMI s) (hgood : ∀ f w : Nat, 1 ≤ f → f ≤ 40 → 0 < s 3 f → w ≤ 4 → x = nI f → y = nI w → Q (some (.int (nI (zmab s f w)))) (zmh h0 s)) (hbad : (∀ f w : Nat, 1 ≤ f → f ≤ 40 → 0 < s 3 f → w ≤ 4 → ¬ (x = nI f ∧ y = nI w)) → Q (some (.int (-1))) (zmh h0 s)) : zm_wc (d + 3) mM_about [.ref 194, .int x, .int y] (zmh h0 s) Q := by
  refine zm_enter (Nat.le_of_ble_eq_true rfl) ?_
  show zm_wp _ 107 0 [.ref 194, .int x, .int y, zm_un] [] (zmh h0 s) Q
  have hB := zMIb hI
  refine wx_aload_n kc107_0 rfl rfl ?_
  refine wx_iload_n kc107_1 rfl rfl ?_
  refine wx_virtual kc107_2 rfl (zmh_is hS 194 8 (by decide) (by decide) rfl) rfl ?_
  refine cM_isFile hS hI (fun f hf1 hf2 hf3 hxf => ?_) (fun hnf => ?_)
  · skip
    subst hxf
    show zm_wp _ 107 5 [.ref 194, .int (nI f), .int y, zm_un] [.int (nI 1)] (zmh h0 s) _
    refine wn_if_eq kc107_5 (by decide) (fun z => absurd z (by decide)) (fun _ => ?_)
    refine wx_iload_n kc107_8 rfl rfl ?_
    refine wx_if_lt kc107_9 (fun hq9 => ?_) (fun hq9 => ?_)
    · skip
      refine wx_iconst (-1) kc107_17 (by decide) ?_
      refine wx_ireturn kc107_18 rfl rfl ?_
      refine hbad (fun g w h1 h2 h3 h4 hh => ?_)
      obtain ⟨e1, e2⟩ := hh
      subst e2
      first | exact hnf g h1 h2 (by omega) e1 | exact absurd hq9 (nI_pos (by omega)) | exact hq14 ((nI_leI (by omega) (by omega)).mpr h4)
    · skip
      refine wx_iload_n kc107_12 rfl rfl ?_
      refine wx_iconst (nI 4) kc107_13 (by decide) ?_
      refine wx_icmp_le kc107_14 (fun hq14 => ?_) (fun hq14 => ?_)
      · skip
        obtain ⟨w, hw1, hw2, rfl⟩ := zi_of 0 4 (by decide) (by decide) (by rw [nI_0]; exact hq9) (Int32.not_lt.mpr hq14)
        refine wx_aload_n kc107_19 rfl rfl ?_
        refine wm_getf (.ref 197) hS kc107_20 rfl ?_
        refine wx_iload_n kc107_23 rfl rfl ?_
        refine wm_iald 197 41 (s 3 f) hS kc107_24 rfl rfl rfl rfl (by omega) (fun _ => rfl) rfl ?_
        have hb25_1 := hB 3 f
        refine wx_iconst (nI 2) kc107_25 (by decide) ?_
        refine wn_icmp_ne kc107_26 (hB _ _) (by decide) (fun hq26 => ?_) (fun hq26 => ?_)
        · skip
          refine wx_iconst (nI 0) kc107_33 (by decide) ?_
          refine wx_istore_n (ls' := [.ref 194, .int (nI f), .int (nI w), .int (nI 0)]) kc107_34 rfl rfl rfl rfl ?_
          refine wx_iload_n kc107_35 rfl rfl ?_
          rcases (show w = 0 ∨ w = 1 ∨ w = 2 ∨ w = 3 ∨ w = 4 by omega) with rfl | rfl | rfl | rfl | rfl
          · skip
            refine wx_tableswitch (tgt := 68) kc107_36 (by decide) ?_
            refine wx_aload_n kc107_68 rfl rfl ?_
            refine wm_getf (.ref 197) hS kc107_69 rfl ?_
            refine wx_iload_n kc107_72 rfl rfl ?_
            refine wm_iald 197 41 (s 3 f) hS kc107_73 rfl rfl rfl rfl (by omega) (fun _ => rfl) rfl ?_
            have hb74_2 := hB 3 f
            refine wx_ireturn kc107_74 rfl rfl ?_
            have hg := hgood f 0 hf1 hf2 hf3 (by decide) rfl rfl
            have e : zmab s f 0 = (s 3 f) := by
              show (s 3 f) = _
              first | rfl | (rw [if_pos (by omega)]; done) | (rw [if_neg (by omega), if_pos (by omega)]; done) | (rw [if_neg (by omega), if_neg (by omega)]; done) | (rw [if_neg (by omega)]; done)
            rw [e] at hg
            exact hg
          · skip
            refine wx_tableswitch (tgt := 75) kc107_36 (by decide) ?_
            refine wx_iload_n kc107_75 rfl rfl ?_
            refine wn_if_eq kc107_76 (by decide) (fun _ => ?_) (fun z => absurd z (by decide))
            refine wx_aload_n kc107_89 rfl rfl ?_
            refine wx_iload_n kc107_90 rfl rfl ?_
            refine wx_virtual kc107_91 rfl (zmh_is hS 194 8 (by decide) (by decide) rfl) rfl ?_
            refine cM_namesOf hS hI (by omega) ?_
            show zm_wp _ 107 94 [.ref 194, .int (nI f), .int (nI 1), .int (nI 0)] [.int (nI (zmno s f (s 0 10)))] (zmh h0 s) _
            refine wx_ireturn kc107_94 rfl rfl ?_
            have hg := hgood f 1 hf1 hf2 hf3 (by decide) rfl rfl
            have e : zmab s f 1 = (zmno s f (s 0 10)) := by
              show (if s 3 f = 2 then 2 + zmfi s f (s 0 10) else zmno s f (s 0 10)) = _
              first | rfl | (rw [if_pos (by omega)]; done) | (rw [if_neg (by omega), if_pos (by omega)]; done) | (rw [if_neg (by omega), if_neg (by omega)]; done) | (rw [if_neg (by omega)]; done)
            rw [e] at hg
            exact hg
          · skip
            refine wx_tableswitch (tgt := 95) kc107_36 (by decide) ?_
            refine wx_iload_n kc107_95 rfl rfl ?_
            refine wn_if_eq kc107_96 (by decide) (fun _ => ?_) (fun z => absurd z (by decide))
            refine wx_aload_n kc107_107 rfl rfl ?_
            refine wm_getf (.ref 197) hS kc107_108 rfl ?_
            refine wx_iload_n kc107_111 rfl rfl ?_
            refine wm_iald 197 41 (s 3 f) hS kc107_112 rfl rfl rfl rfl (by omega) (fun _ => rfl) rfl ?_
            have hb113_2 := hB 3 f
            refine wx_iconst (nI 3) kc107_113 (by decide) ?_
            refine wn_icmp_ne kc107_114 (hB _ _) (by decide) (fun hq114 => ?_) (fun hq114 => ?_)
            · skip
              refine wx_aload_n kc107_126 rfl rfl ?_
              refine wm_getf (.ref 199) hS kc107_127 rfl ?_
              refine wx_iload_n kc107_130 rfl rfl ?_
              refine wm_iald 199 41 (s 5 f) hS kc107_131 rfl rfl rfl rfl (by omega) (fun _ => rfl) rfl ?_
              have hb132_3 := hB 5 f
              refine wx_ireturn kc107_132 rfl rfl ?_
              have hg := hgood f 2 hf1 hf2 hf3 (by decide) rfl rfl
              have e : zmab s f 2 = (s 5 f) := by
                show (if s 3 f = 2 then zmni s f (s 0 10) else if s 3 f = 3 then s 6 f else s 5 f) = _
                first | rfl | (rw [if_pos (by omega)]; done) | (rw [if_neg (by omega), if_pos (by omega)]; done) | (rw [if_neg (by omega), if_neg (by omega)]; done) | (rw [if_neg (by omega)]; done)
              rw [e] at hg
              exact hg
            · skip
              refine wx_aload_n kc107_117 rfl rfl ?_
              refine wm_getf (.ref 200) hS kc107_118 rfl ?_
              refine wx_iload_n kc107_121 rfl rfl ?_
              refine wm_iald 200 41 (s 6 f) hS kc107_122 rfl rfl rfl rfl (by omega) (fun _ => rfl) rfl ?_
              have hb123_3 := hB 6 f
              refine wx_goto kc107_123 ?_
              refine wx_ireturn kc107_132 rfl rfl ?_
              have hg := hgood f 2 hf1 hf2 hf3 (by decide) rfl rfl
              have e : zmab s f 2 = (s 6 f) := by
                show (if s 3 f = 2 then zmni s f (s 0 10) else if s 3 f = 3 then s 6 f else s 5 f) = _
                first | rfl | (rw [if_pos (by omega)]; done) | (rw [if_neg (by omega), if_pos (by omega)]; done) | (rw [if_neg (by omega), if_neg (by omega)]; done) | (rw [if_neg (by omega)]; done)
              rw [e] at hg
              exact hg
          · skip
            refine wx_tableswitch (tgt := 133) kc107_36 (by decide) ?_
            refine wx_aload_n kc107_133 rfl rfl ?_
            refine wx_iload_n kc107_134 rfl rfl ?_
            refine wx_virtual kc107_135 rfl (zmh_is hS 194 8 (by decide) (by decide) rfl) rfl ?_
            refine cM_takes hS hI (by omega) ?_
            show zm_wp _ 107 138 [.ref 194, .int (nI f), .int (nI 3), .int (nI 0)] [.int (nI (zmt s f))] (zmh h0 s) _
            refine wx_ireturn kc107_138 rfl rfl ?_
            have hg := hgood f 3 hf1 hf2 hf3 (by decide) rfl rfl
            have e : zmab s f 3 = (zmt s f) := by
              show (zmt s f) = _
              first | rfl | (rw [if_pos (by omega)]; done) | (rw [if_neg (by omega), if_pos (by omega)]; done) | (rw [if_neg (by omega), if_neg (by omega)]; done) | (rw [if_neg (by omega)]; done)
            rw [e] at hg
            exact hg
          · skip
            refine wx_tableswitch (tgt := 139) kc107_36 (by decide) ?_
            refine wx_iload_n kc107_139 rfl rfl ?_
            refine wn_if_eq kc107_140 (by decide) (fun _ => ?_) (fun z => absurd z (by decide))
            refine wx_iconst (nI 0) kc107_151 (by decide) ?_
            refine wx_ireturn kc107_152 rfl rfl ?_
            have hg := hgood f 4 hf1 hf2 hf3 (by decide) rfl rfl
            have e : zmab s f 4 = 0 := by
              show (if s 3 f = 2 then zmpa s f (s 0 10) else 0) = _
              first | rfl | (rw [if_pos (by omega)]; done) | (rw [if_neg (by omega), if_pos (by omega)]; done) | (rw [if_neg (by omega), if_neg (by omega)]; done) | (rw [if_neg (by omega)]; done)
            rw [e] at hg
            exact hg
        · skip
          refine wx_iconst (nI 1) kc107_29 (by decide) ?_
          refine wx_goto kc107_30 ?_
          refine wx_istore_n (ls' := [.ref 194, .int (nI f), .int (nI w), .int (nI 1)]) kc107_34 rfl rfl rfl rfl ?_
          refine wx_iload_n kc107_35 rfl rfl ?_
          rcases (show w = 0 ∨ w = 1 ∨ w = 2 ∨ w = 3 ∨ w = 4 by omega) with rfl | rfl | rfl | rfl | rfl
          · skip
            refine wx_tableswitch (tgt := 68) kc107_36 (by decide) ?_
            refine wx_aload_n kc107_68 rfl rfl ?_
            refine wm_getf (.ref 197) hS kc107_69 rfl ?_
            refine wx_iload_n kc107_72 rfl rfl ?_
            refine wm_iald 197 41 (s 3 f) hS kc107_73 rfl rfl rfl rfl (by omega) (fun _ => rfl) rfl ?_
            have hb74_2 := hB 3 f
            refine wx_ireturn kc107_74 rfl rfl ?_
            have hg := hgood f 0 hf1 hf2 hf3 (by decide) rfl rfl
            have e : zmab s f 0 = (s 3 f) := by
              show (s 3 f) = _
              first | rfl | (rw [if_pos (by omega)]; done) | (rw [if_neg (by omega), if_pos (by omega)]; done) | (rw [if_neg (by omega), if_neg (by omega)]; done) | (rw [if_neg (by omega)]; done)
            rw [e] at hg
            exact hg
          · skip
            refine wx_tableswitch (tgt := 75) kc107_36 (by decide) ?_
            refine wx_iload_n kc107_75 rfl rfl ?_
            refine wn_if_eq kc107_76 (by decide) (fun z => absurd z (by decide)) (fun _ => ?_)
            refine wx_iconst (nI 2) kc107_79 (by decide) ?_
            refine wx_aload_n kc107_80 rfl rfl ?_
            refine wx_iload_n kc107_81 rfl rfl ?_
            refine wx_virtual kc107_82 rfl (zmh_is hS 194 8 (by decide) (by decide) rfl) rfl ?_
            refine cM_foldersIn hS hI (by omega) ?_
            show zm_wp _ 107 85 [.ref 194, .int (nI f), .int (nI 1), .int (nI 1)] [.int (nI (zmfi s f (s 0 10))), .int (nI 2)] (zmh h0 s) _
            refine wn_iadd (2 + (zmfi s f (s 0 10))) kc107_85 rfl ?_
            refine wx_goto kc107_86 ?_
            refine wx_ireturn kc107_94 rfl rfl ?_
            have hg := hgood f 1 hf1 hf2 hf3 (by decide) rfl rfl
            have e : zmab s f 1 = (2 + (zmfi s f (s 0 10))) := by
              show (if s 3 f = 2 then 2 + zmfi s f (s 0 10) else zmno s f (s 0 10)) = _
              first | rfl | (rw [if_pos (by omega)]; done) | (rw [if_neg (by omega), if_pos (by omega)]; done) | (rw [if_neg (by omega), if_neg (by omega)]; done) | (rw [if_neg (by omega)]; done)
            rw [e] at hg
            exact hg
          · skip
            refine wx_tableswitch (tgt := 95) kc107_36 (by decide) ?_
            refine wx_iload_n kc107_95 rfl rfl ?_
            refine wn_if_eq kc107_96 (by decide) (fun z => absurd z (by decide)) (fun _ => ?_)
            refine wx_aload_n kc107_99 rfl rfl ?_
            refine wx_iload_n kc107_100 rfl rfl ?_
            refine wx_virtual kc107_101 rfl (zmh_is hS 194 8 (by decide) (by decide) rfl) rfl ?_
            refine cM_namesIn hS hI (by omega) ?_
            show zm_wp _ 107 104 [.ref 194, .int (nI f), .int (nI 2), .int (nI 1)] [.int (nI (zmni s f (s 0 10)))] (zmh h0 s) _
            refine wx_goto kc107_104 ?_
            refine wx_ireturn kc107_132 rfl rfl ?_
            have hg := hgood f 2 hf1 hf2 hf3 (by decide) rfl rfl
            have e : zmab s f 2 = (zmni s f (s 0 10)) := by
              show (if s 3 f = 2 then zmni s f (s 0 10) else if s 3 f = 3 then s 6 f else s 5 f) = _
              first | rfl | (rw [if_pos (by omega)]; done) | (rw [if_neg (by omega), if_pos (by omega)]; done) | (rw [if_neg (by omega), if_neg (by omega)]; done) | (rw [if_neg (by omega)]; done)
            rw [e] at hg
            exact hg
          · skip
            refine wx_tableswitch (tgt := 133) kc107_36 (by decide) ?_
            refine wx_aload_n kc107_133 rfl rfl ?_
            refine wx_iload_n kc107_134 rfl rfl ?_
            refine wx_virtual kc107_135 rfl (zmh_is hS 194 8 (by decide) (by decide) rfl) rfl ?_
            refine cM_takes hS hI (by omega) ?_
            show zm_wp _ 107 138 [.ref 194, .int (nI f), .int (nI 3), .int (nI 1)] [.int (nI (zmt s f))] (zmh h0 s) _
            refine wx_ireturn kc107_138 rfl rfl ?_
            have hg := hgood f 3 hf1 hf2 hf3 (by decide) rfl rfl
            have e : zmab s f 3 = (zmt s f) := by
              show (zmt s f) = _
              first | rfl | (rw [if_pos (by omega)]; done) | (rw [if_neg (by omega), if_pos (by omega)]; done) | (rw [if_neg (by omega), if_neg (by omega)]; done) | (rw [if_neg (by omega)]; done)
            rw [e] at hg
            exact hg
          · skip
            refine wx_tableswitch (tgt := 139) kc107_36 (by decide) ?_
            refine wx_iload_n kc107_139 rfl rfl ?_
            refine wn_if_eq kc107_140 (by decide) (fun z => absurd z (by decide)) (fun _ => ?_)
            refine wx_aload_n kc107_143 rfl rfl ?_
            refine wx_iload_n kc107_144 rfl rfl ?_
            refine wx_virtual kc107_145 rfl (zmh_is hS 194 8 (by decide) (by decide) rfl) rfl ?_
            refine cM_parent hS hI (by omega) ?_
            show zm_wp _ 107 148 [.ref 194, .int (nI f), .int (nI 4), .int (nI 1)] [.int (nI (zmpa s f (s 0 10)))] (zmh h0 s) _
            refine wx_goto kc107_148 ?_
            refine wx_ireturn kc107_152 rfl rfl ?_
            have hg := hgood f 4 hf1 hf2 hf3 (by decide) rfl rfl
            have e : zmab s f 4 = (zmpa s f (s 0 10)) := by
              show (if s 3 f = 2 then zmpa s f (s 0 10) else 0) = _
              first | rfl | (rw [if_pos (by omega)]; done) | (rw [if_neg (by omega), if_pos (by omega)]; done) | (rw [if_neg (by omega), if_neg (by omega)]; done) | (rw [if_neg (by omega)]; done)
            rw [e] at hg
            exact hg
      · skip
        refine wx_iconst (-1) kc107_17 (by decide) ?_
        refine wx_ireturn kc107_18 rfl rfl ?_
        refine hbad (fun g w h1 h2 h3 h4 hh => ?_)
        obtain ⟨e1, e2⟩ := hh
        subst e2
        first | exact hnf g h1 h2 (by omega) e1 | exact absurd hq9 (nI_pos (by omega)) | exact hq14 ((nI_leI (by omega) (by omega)).mpr h4)
  · skip
    show zm_wp _ 107 5 [.ref 194, .int x, .int y, zm_un] [.int (nI 0)] (zmh h0 s) _
    refine wn_if_eq kc107_5 (by decide) (fun _ => ?_) (fun z => absurd rfl z)
    refine wx_iconst (-1) kc107_17 (by decide) ?_
    refine wx_ireturn kc107_18 rfl rfl ?_
    refine hbad (fun g w h1 h2 h3 h4 hh => ?_)
    obtain ⟨e1, e2⟩ := hh
    subst e2
    first | exact hnf g h1 h2 (by omega) e1 | exact absurd hq9 (nI_pos (by omega)) | exact hq14 ((nI_leI (by omega) (by omega)).mpr h4)
