theorem lM_wk0 {d : Nat} {h0 : zm_H} {s : Nat → Nat → Nat} {Q : Option Value → zm_H → Prop} {f k fo : Nat} (hS : zMS h0) (hI : zMI s) (hk : k ≤ 1200) (hf : f + k ≤ 1200) (hq : zm_wp (d + 2) 90 44 [.ref 194, .int (nI f), .int (nI k), .int (nI fo), .int (nI k), zm_un, zm_un] [] (zmh h0 (zwr (zup s 0 16 (42000 - k)) 12 (42000 - k) k (fun i => s 2 (f + i)))) Q) : ∀ (n i : Nat), i + n = k → zm_wp (d + 2) 90 11 [.ref 194, .int (nI f), .int (nI k), .int (nI fo), .int (nI i), zm_un, zm_un] [] (zmh h0 (zwr (zup s 0 16 (42000 - k)) 12 (42000 - k) i (fun i => s 2 (f + i)))) Q := by
  have hB := zMIb hI
  intro n
  induction n with
  | zero =>
    intro i hi
    refine wx_iload kc90_11 rfl rfl ?_
    refine wx_iload_n kc90_13 rfl rfl ?_
    refine wn_icmp_ge kc90_14 (by omega) (by omega) (fun hq14 => ?_) (fun hq14 => ?_)
    · skip
      obtain rfl : i = k := by omega
      exact hq
    · skip
      exact absurd hq14 (by omega)
  | succ n ih =>
    intro i hi
    refine wx_iload kc90_11 rfl rfl ?_
    refine wx_iload_n kc90_13 rfl rfl ?_
    refine wn_icmp_ge kc90_14 (by omega) (by omega) (fun hq14 => ?_) (fun hq14 => ?_)
    · skip
      exact absurd hq14 (by omega)
    · skip
      refine wx_aload_n kc90_17 rfl rfl ?_
      refine wm_getf (.ref 206) hS kc90_18 rfl ?_
      refine wx_aload_n kc90_21 rfl rfl ?_
      refine wm_getf (.int (nI (42000 - k))) hS kc90_22 rfl ?_
      refine wx_iload kc90_25 rfl rfl ?_
      refine wn_iadd ((42000 - k) + i) kc90_27 rfl ?_
      refine wx_aload_n kc90_28 rfl rfl ?_
      refine wm_getf (.ref 196) hS kc90_29 rfl ?_
      refine wx_iload_n kc90_32 rfl rfl ?_
      refine wx_iload kc90_33 rfl rfl ?_
      refine wn_iadd (f + i) kc90_35 rfl ?_
      refine wm_iald 196 1200 (s 2 (f + i)) hS kc90_36 rfl rfl rfl rfl (by omega) (fun _ => rfl) rfl ?_
      have hb37_1 := hB 2 (f + i)
      refine wm_iast (v := (s 2 (f + i))) 206 42000 hS kc90_37 rfl rfl rfl rfl (by omega) rfl ?_
      refine wn_iinc (i + 1) (ls' := [.ref 194, .int (nI f), .int (nI k), .int (nI fo), .int (nI (i + 1)), zm_un, zm_un]) kc90_38 rfl rfl rfl rfl rfl ?_
      refine wx_goto kc90_41 ?_
      show zm_wp _ 90 11 [.ref 194, .int (nI f), .int (nI k), .int (nI fo), .int (nI (i + 1)), zm_un, zm_un] [] (zmh h0 (zup (zwr (zup s 0 16 (42000 - k)) 12 (42000 - k) i (fun i => s 2 (f + i))) 12 ((42000 - k) + i) (s 2 (f + i)))) _
      have e1 := zwr_s (zup s 0 16 (42000 - k)) 12 (42000 - k) i (fun i => s 2 (f + i))
      rw [e1]
      exact ih (i + 1) (by omega)
/-- a walk from the root on, over the bytes f .. f + k of what was taken -/
def zwo (s : Nat → Nat → Nat) (f k fo : Nat) : Int32 × Nat × Nat × List Nat × Nat := zwm s (fo == 1) 50000 1 0 (zpt (zls (s 2) f (f + k))) 0 [] 1
theorem cM_walk {d : Nat} {h0 : zm_H} {s : Nat → Nat → Nat} {Q : Option Value → zm_H → Prop} {f k fo : Nat} (hS : zMS h0) (hI : zMI s) (hk : k ≤ 1200) (hf : f + k ≤ 1200) (hfo : fo ≤ 1) (hlinks : ∀ g, g ≤ 40 → s 3 g = 3 → 1 ≤ s 6 g) (hq : ∀ t, zZW s t (zwo s f k fo) → Q (some (.int (zwo s f k fo).1)) (zmh h0 t)) : zm_wc (d + 3) mM_walk [.ref 194, .int (nI f), .int (nI k), .int (nI fo)] (zmh h0 s) Q := by
  refine zm_enter (Nat.le_of_ble_eq_true rfl) ?_
  show zm_wp _ 90 0 [.ref 194, .int (nI f), .int (nI k), .int (nI fo), zm_un, zm_un, zm_un] [] (zmh h0 s) Q
  have hB := zMIb hI
  refine wx_aload_n kc90_0 rfl rfl ?_
  refine wx_ldc (nI 42000) kc90_1 (by decide) ?_
  refine wx_iload_n kc90_3 rfl rfl ?_
  refine wn_isub (42000 - k) kc90_4 (by omega) ?_
  refine wm_putf (v := (42000 - k)) hS kc90_5 rfl rfl ?_
  refine wx_iconst (nI 0) kc90_8 (by decide) ?_
  refine wx_istore (ls' := [.ref 194, .int (nI f), .int (nI k), .int (nI fo), .int (nI 0), zm_un, zm_un]) kc90_9 rfl rfl rfl rfl ?_
  show zm_wp _ 90 11 [.ref 194, .int (nI f), .int (nI k), .int (nI fo), .int (nI 0), zm_un, zm_un] [] (zmh h0 (zup s 0 16 (42000 - k))) _
  rw [← zwr_0 (zup s 0 16 (42000 - k)) 12 (42000 - k) (fun i => s 2 (f + i))]
  refine lM_wk0 hS hI hk hf ?_ k 0 (by omega)
  refine wx_iconst (nI 0) kc90_44 (by decide) ?_
  refine wx_istore (ls' := [.ref 194, .int (nI f), .int (nI k), .int (nI fo), .int (nI 0), zm_un, zm_un]) kc90_45 rfl rfl rfl rfl ?_
  refine wx_aload_n kc90_47 rfl rfl ?_
  refine wx_iconst (nI 1) kc90_48 (by decide) ?_
  refine wm_putf (v := 1) hS kc90_49 rfl rfl ?_
  refine wx_aload_n kc90_52 rfl rfl ?_
  refine wx_iconst (nI 1) kc90_53 (by decide) ?_
  refine wm_putf (v := 1) hS kc90_54 rfl rfl ?_
  show zm_wp _ 90 57 [.ref 194, .int (nI f), .int (nI k), .int (nI fo), .int (nI 0), zm_un, zm_un] [] (zmh h0 (zup (zup (zwr (zup s 0 16 (42000 - k)) 12 (42000 - k) k (fun i => s 2 (f + i))) 0 20 1) 0 21 1)) _
  obtain ⟨t, ht⟩ : ∃ z, z = (zup (zup (zwr (zup s 0 16 (42000 - k)) 12 (42000 - k) k (fun i => s 2 (f + i))) 0 20 1) 0 21 1) := ⟨_, rfl⟩
  rw [← ht]
  have t16 : t 0 16 = 42000 - k := by rw [ht]; rfl
  have t20 : t 0 20 = 1 := by rw [ht]; rfl
  have t21 : t 0 21 = 1 := by rw [ht]; rfl
  have tF : zZF s t := by rw [ht]; exact zZF_up (zZF_up (zZF_w (zZF_up (zZF_rf s) (by decide))) (by decide)) (by decide)
  have tI : zMI t := by
    rw [ht]
    exact zMI_up (zMI_up (zMI_wr (zMI_up hI (show 42000 - k ≤ 42000 by omega)) (fun i _ => show s 2 (f + i) ≤ 255 from hI 2 (f + i))) (show 1 ≤ 40 by decide)) (show 1 ≤ 1 by decide)
  have tP : zls (t 12) (t 0 16) 42000 = zls (s 2) f (f + k) := by
    rw [t16]
    have e := zls_shift (f := t 12) (g := s 2) (a := 42000 - k) (b := f) (n := k) (fun i hi => by
      rw [ht]
      show zwr (zup s 0 16 (42000 - k)) 12 (42000 - k) k (fun i => s 2 (f + i)) 12 (42000 - k + i) = _
      rw [zwr_in _ _ (by omega) (by omega), Nat.add_sub_cancel_left])
    rw [show 42000 - k + k = 42000 by omega] at e
    exact e
  have hl := zpt_le (zls (s 2) f (f + k))
  rw [zls_len] at hl
  refine lM_walk hS hI hfo hlinks 90000 t 50000 0 _ 0 [] 1 _ _ _ _ tF tI rfl (by omega) (by omega) (by omega) ?_ ⟨t21, fun _ z => absurd z (by decide)⟩ ?_
  · rw [tP]
    omega
  · rw [tP, t20]
    exact hq
def zwn (s : Nat → Nat → Nat) (f k : Nat) : Int32 := if (zwo s f k 0).1 < 0 then (zwo s f k 0).1 else if (zwo s f k 0).2.2.2.2 = 0 then 0 else -1
theorem zwk_code {K G : Nat → Nat} {L : Nat → List Nat → Option Nat} {T : Nat → List Nat} {fo : Bool} : ∀ (n cur lk : Nat) (ps : List (List Nat)) (f : Nat) (q : List Nat) (u : Nat), (zwk K G L T fo n cur lk ps f q u).1 = 0 ∨ (zwk K G L T fo n cur lk ps f q u).1 < 0
  | 0, _, _, _, _, _, _ => Or.inl rfl
  | n + 1, _, _, [], _, _, _ => Or.inl rfl
  | n + 1, cur, lk, w :: ps, f, q, u => by
    simp only [zwk]
    split
    · exact Or.inr (show (-9 : Int32) < 0 by decide)
    · split
      · exact Or.inr (show (-4 : Int32) < 0 by decide)
      · split
        · exact zwk_code n _ _ _ _ _ _
        · split
          · show (if ps = [] then (0 : Int32) else -2) = 0 ∨ (if ps = [] then (0 : Int32) else -2) < 0
            split
            · exact Or.inl rfl
            · exact Or.inr (by decide)
          · split
            · split
              · exact Or.inr (show (-8 : Int32) < 0 by decide)
              · exact zwk_code n _ _ _ _ _ _
            · exact zwk_code n _ _ _ _ _ _
theorem zwo_code (s : Nat → Nat → Nat) (f k fo : Nat) : (zwo s f k fo).1 = 0 ∨ (zwo s f k fo).1 < 0 := zwk_code _ _ _ _ _ _ _
theorem cM_walkToName {d : Nat} {h0 : zm_H} {s : Nat → Nat → Nat} {Q : Option Value → zm_H → Prop} {f k : Nat} (hS : zMS h0) (hI : zMI s) (hk : k ≤ 1200) (hf : f + k ≤ 1200) (hlinks : ∀ g, g ≤ 40 → s 3 g = 3 → 1 ≤ s 6 g) (hq : ∀ t, zZW s t (zwo s f k 0) → Q (some (.int (zwn s f k))) (zmh h0 t)) : zm_wc (d + 4) mM_walkToName [.ref 194, .int (nI f), .int (nI k)] (zmh h0 s) Q := by
  refine zm_enter (Nat.le_of_ble_eq_true rfl) ?_
  show zm_wp _ 92 0 [.ref 194, .int (nI f), .int (nI k), zm_un] [] (zmh h0 s) Q
  have hB := zMIb hI
  refine wx_aload_n kc92_0 rfl rfl ?_
  refine wx_iload_n kc92_1 rfl rfl ?_
  refine wx_iload_n kc92_2 rfl rfl ?_
  refine wx_iconst (nI 0) kc92_3 (by decide) ?_
  refine wx_virtual kc92_4 rfl (zmh_is hS 194 8 (by decide) (by decide) rfl) rfl ?_
  refine cM_walk hS hI hk hf (by decide) hlinks ?_
  intro t ht
  show zm_wp _ 92 7 [.ref 194, .int (nI f), .int (nI k), zm_un] [.int ((zwo s f k 0).1)] (zmh h0 t) _
  have hB2 := zMIb ht.2.1
  have hz := zwo_code s f k 0
  refine wx_istore_n (ls' := [.ref 194, .int (nI f), .int (nI k), .int ((zwo s f k 0).1)]) kc92_7 rfl rfl rfl rfl ?_
  refine wx_iload_n kc92_8 rfl rfl ?_
  refine wx_if_ge kc92_9 (fun hq9 => ?_) (fun hq9 => ?_)
  · skip
    have h0 : (zwo s f k 0).1 = 0 := by rcases hz with z | z; exact z; exact absurd z (Int32.not_lt.mpr hq9)
    have hu := (ht.2.2 h0).2.1
    refine wx_aload_n kc92_16 rfl rfl ?_
    refine wm_getf (.int (nI (t 0 21))) hS kc92_17 rfl ?_
    have hb20_1 := hB2 0 21
    refine wn_if_eq kc92_20 (hB2 _ _) (fun hq20 => ?_) (fun hq20 => ?_)
    · skip
      refine wx_iconst (nI 0) kc92_27 (by decide) ?_
      refine wx_ireturn kc92_28 rfl rfl ?_
      have e : zwn s f k = (nI 0) := by
        unfold zwn
        first | rw [if_pos (Int32.not_le.mp hq9)] | (rw [if_neg (Int32.not_lt.mpr hq9)]; first | (rw [if_pos (by omega)]; exact nI_0.symm) | rw [if_neg (by omega)])
      rw [← e]
      exact hq t ht
    · skip
      refine wx_iconst (-1) kc92_23 (by decide) ?_
      refine wx_goto kc92_24 ?_
      refine wx_ireturn kc92_28 rfl rfl ?_
      have e : zwn s f k = (-1) := by
        unfold zwn
        first | rw [if_pos (Int32.not_le.mp hq9)] | (rw [if_neg (Int32.not_lt.mpr hq9)]; first | (rw [if_pos (by omega)]; exact nI_0.symm) | rw [if_neg (by omega)])
      rw [← e]
      exact hq t ht
  · skip
    refine wx_iload_n kc92_12 rfl rfl ?_
    refine wx_goto kc92_13 ?_
    refine wx_ireturn kc92_28 rfl rfl ?_
    have e : zwn s f k = ((zwo s f k 0).1) := by
      unfold zwn
      first | rw [if_pos (Int32.not_le.mp hq9)] | (rw [if_neg (Int32.not_lt.mpr hq9)]; first | (rw [if_pos (by omega)]; exact nI_0.symm) | rw [if_neg (by omega)])
    rw [← e]
    exact hq t ht
