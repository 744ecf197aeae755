/-! names and walks of the class -/
/-- the bytes of the name in row r; of the part a walk has taken; of a target -/
def zcn (c : Nat → Nat → Nat) (r : Nat) : List Nat := zls (fun j => c 19 (1200 * c 13 r + j)) 0 (0 + c 14 r)
def zpw (c : Nat → Nat → Nat) (w : Nat) : List Nat := zls (fun j => c 19 (1200 * c 17 w + j)) (c 18 w) (c 18 w + c 20 w)
def zctg (c : Nat → Nat → Nat) (g : Nat) : List Nat := zls (fun j => c 19 (1200 * c 8 g + j)) 0 (0 + c 9 g)
/-- the row of a name -/
def zck1 (c : Nat → Nat → Nat) (dd : Nat) (q : List Nat) : Nat → Nat → Option Nat
  | 0, _ => none
  | n + 1, i => if c 11 (c 10 i) = dd ∧ zcn c (c 10 i) = q then some (c 10 i) else zck1 c dd q n (i + 1)
def zclk (c : Nat → Nat → Nat) (dd : Nat) (q : List Nat) : Option Nat := zck1 c dd q (c 0 2) 0
/-- nothing, or a row -/
def zon : Option Nat → Nat
  | none => 0
  | some r => r
theorem zcn_eq {c : Nat → Nat → Nat} {r b k n : Nat} : zcn c r = zls (fun j => c 19 (1200 * b + j)) k (k + n) ↔ (n = c 14 r ∧ ∀ i, i < n → c 19 (1200 * c 13 r + i) = c 19 (1200 * b + (k + i))) := by
  unfold zcn
  rw [zls_eq]
  constructor
  · rintro ⟨rfl, h⟩
    refine ⟨rfl, fun i hi => ?_⟩
    have := h i hi
    simpa using this
  · rintro ⟨rfl, h⟩
    refine ⟨rfl, fun i hi => ?_⟩
    have := h i hi
    simpa using this
/-- the rows in use -/
def zCR (h0 : zm_H) (c : Nat → Nat → Nat) : Prop := ∀ i, i < c 0 2 → 1 ≤ c 10 i ∧ zga h0 (c 13 (c 10 i)) 255
theorem lQ_lookUp {d : Nat} {h0 : zm_H} {c : Nat → Nat → Nat} {Q : Option Value → zm_H → Prop} {dd b nb k nn : Nat} (hS : zCS h0) (hI : zCI c) (hR : zCR h0 c) (gb : zga h0 b nb) (hf : k + nn ≤ nb) (hq : Q (some (zrR (zon (zclk c dd (zls (fun j => c 19 (1200 * b + j)) k (k + nn)))))) (zch h0 c)) : ∀ (n i : Nat), i + n = c 0 2 → ∀ v : Value, zck1 c dd (zls (fun j => c 19 (1200 * b + j)) k (k + nn)) n i = zclk c dd (zls (fun j => c 19 (1200 * b + j)) k (k + nn)) → zm_wp (d + 1) 11 3 [.ref 46, zrF dd, zrA b, .int (nI k), .int (nI nn), .int (nI i), v] [] (zch h0 c) Q := by
  intro n
  induction n with
  | zero =>
    intro i hi
    intro v he
    have hb1 := gb.2.2.2
    have hb2 : c 0 2 ≤ 60 := hI 0 2
    refine wx_iload kc11_3 rfl rfl ?_
    refine wx_aload_n kc11_5 rfl rfl ?_
    refine wc_get 46 2 (.int (nI (c 0 2))) hS kc11_6 rfl rfl rfl rfl ?_
    have hb9_1 : c 0 2 ≤ 60 := hI 0 2
    refine wn_icmp_ge kc11_9 (by omega) (by omega) (fun hq9 => ?_) (fun hq9 => ?_)
    · skip
      refine wx_aconst_null kc11_66 ?_
      refine wx_areturn kc11_67 rfl rfl rfl ?_
      rw [← he] at hq
      exact hq
    · skip
      exact absurd hq9 (by omega)
  | succ n ih =>
    intro i hi
    intro v he
    have hb1 := gb.2.2.2
    have hb2 : c 0 2 ≤ 60 := hI 0 2
    refine wx_iload kc11_3 rfl rfl ?_
    refine wx_aload_n kc11_5 rfl rfl ?_
    refine wc_get 46 2 (.int (nI (c 0 2))) hS kc11_6 rfl rfl rfl rfl ?_
    have hb9_1 : c 0 2 ≤ 60 := hI 0 2
    refine wn_icmp_ge kc11_9 (by omega) (by omega) (fun hq9 => ?_) (fun hq9 => ?_)
    · skip
      first | exact absurd hq9 (by omega) | exact absurd hq19 (by omega)
    · skip
      obtain ⟨r1, r2⟩ := hR i (by omega)
      have r3 : c 10 i ≤ 60 := hI 10 i
      have he2 : (if c 11 (c 10 i) = dd ∧ zcn c (c 10 i) = zls (fun j => c 19 (1200 * b + j)) k (k + nn) then some (c 10 i) else zck1 c dd (zls (fun j => c 19 (1200 * b + j)) k (k + nn)) n (i + 1)) = zclk c dd (zls (fun j => c 19 (1200 * b + j)) k (k + nn)) := he
      refine wx_iload kc11_12 rfl rfl ?_
      refine wx_aload_n kc11_14 rfl rfl ?_
      refine wc_get 46 2 (.ref 47) hS kc11_15 rfl rfl rfl rfl ?_
      refine wc_len 47 201 60 hS kc11_18 rfl rfl rfl rfl ?_
      refine wn_icmp_ge kc11_19 (by omega) (by decide) (fun hq19 => ?_) (fun hq19 => ?_)
      · skip
        first | exact absurd hq9 (by omega) | exact absurd hq19 (by omega)
      · skip
        refine wx_aload_n kc11_22 rfl rfl ?_
        refine wc_get 46 2 (.ref 47) hS kc11_23 rfl rfl rfl rfl ?_
        refine wx_iload kc11_26 rfl rfl ?_
        refine wc_rows (c 10 i) hS kc11_28 (by omega) rfl ?_
        have hb29_2 : c 10 i ≤ 60 := hI 10 i
        refine wx_astore (ls' := [.ref 46, zrF dd, zrA b, .int (nI k), .int (nI nn), .int (nI i), zrR (c 10 i)]) kc11_29 (zrR_k _) rfl rfl rfl ?_
        refine wx_aload kc11_31 rfl (zrR_k _) ?_
        refine wcR_null kc11_33 (fun z => absurd z (by omega)) (fun _ => ?_)
        refine wx_aload kc11_36 rfl (zrR_k _) ?_
        refine wcR_get (zrF (c 11 (c 10 i))) hS kc11_38 (by omega) (by omega) rfl ?_
        have hb41_3 : c 11 (c 10 i) ≤ 40 := hI 11 (c 10 i)
        refine wx_aload_n kc11_41 rfl (zrF_k _) ?_
        refine wcF_ne kc11_42 (fun hq42 => ?_) (fun hq42 => ?_)
        · skip
          refine wn_iinc (i + 1) (ls' := [.ref 46, zrF dd, zrA b, .int (nI k), .int (nI nn), .int (nI (i + 1)), zrR (c 10 i)]) kc11_60 rfl rfl rfl rfl rfl ?_
          refine wx_goto kc11_63 ?_
          refine ih (i + 1) (by omega) _ ?_
          rw [← he2]
          first | (rw [if_neg (fun z => hq42 z.1)]; done) | (rw [if_neg (fun z => y1 (zcn_eq.mp z.2))]; done)
        · skip
          refine wx_aload kc11_45 rfl (zrR_k _) ?_
          refine wx_aload_n kc11_47 rfl (zrA_k _) ?_
          refine wx_iload_n kc11_48 rfl rfl ?_
          refine wx_iload kc11_49 rfl rfl ?_
          refine wcR_call hS kc11_51 rfl rfl (by omega) (by omega) rfl ?_
          refine cR_is (r := c 10 i) hS hI r1 r3 r2 gb hf (fun y1 y2 => ?_) (fun y1 => ?_)
          · skip
            show zm_wp _ 11 54 [.ref 46, zrF dd, zrA b, .int (nI k), .int (nI nn), .int (nI i), zrR (c 10 i)] [.int (nI 1)] (zch h0 c) _
            refine wn_if_eq kc11_54 (by decide) (fun z => absurd z (by decide)) (fun _ => ?_)
            refine wx_aload kc11_57 rfl (zrR_k _) ?_
            refine wx_areturn kc11_59 (zrR_k _) rfl (zrR_fo _ _) ?_
            rw [if_pos ⟨hq42, zcn_eq.mpr ⟨y1, y2⟩⟩] at he2
            rw [← he2] at hq
            exact hq
          · skip
            show zm_wp _ 11 54 [.ref 46, zrF dd, zrA b, .int (nI k), .int (nI nn), .int (nI i), zrR (c 10 i)] [.int (nI 0)] (zch h0 c) _
            refine wn_if_eq kc11_54 (by decide) (fun _ => ?_) (fun z => absurd z (by decide))
            refine wn_iinc (i + 1) (ls' := [.ref 46, zrF dd, zrA b, .int (nI k), .int (nI nn), .int (nI (i + 1)), zrR (c 10 i)]) kc11_60 rfl rfl rfl rfl rfl ?_
            refine wx_goto kc11_63 ?_
            refine ih (i + 1) (by omega) _ ?_
            rw [← he2]
            first | (rw [if_neg (fun z => hq42 z.1)]; done) | (rw [if_neg (fun z => y1 (zcn_eq.mp z.2))]; done)
theorem cQ_lookUp {d : Nat} {h0 : zm_H} {c : Nat → Nat → Nat} {Q : Option Value → zm_H → Prop} {dd b nb k nn : Nat} (hS : zCS h0) (hI : zCI c) (hR : zCR h0 c) (gb : zga h0 b nb) (hf : k + nn ≤ nb) (hq : Q (some (zrR (zon (zclk c dd (zls (fun j => c 19 (1200 * b + j)) k (k + nn)))))) (zch h0 c)) : zm_wc (d + 2) mQ_lookUp [.ref 46, zrF dd, zrA b, .int (nI k), .int (nI nn)] (zch h0 c) Q := by
  refine zm_enter2 (zfl_cons rfl (zfl_cons (zrF_c1 _) (zfl_cons (zrA_c1 _) (zfl_cons rfl (zfl_cons rfl zfl_nil))))) rfl ?_
  show zm_wp _ 11 0 [.ref 46, zrF dd, zrA b, .int (nI k), .int (nI nn), zm_un, zm_un] [] (zch h0 c) Q
  refine wx_iconst (nI 0) kc11_0 (by decide) ?_
  refine wx_istore (ls' := [.ref 46, zrF dd, zrA b, .int (nI k), .int (nI nn), .int (nI 0), zm_un]) kc11_1 rfl rfl rfl rfl ?_
  exact lQ_lookUp hS hI hR gb hf hq (c 0 2) 0 (by omega) _ rfl
theorem cW_topSpan {d : Nat} {h0 : zm_H} {c : Nat → Nat → Nat} {Q : Option Value → zm_H → Prop} {w : Nat} (hS : zCS h0) (hI : zCI c) (hw : w ≤ 1) (hd : 1 ≤ c 15 w) (hq : Q (some (.ref (110 + 43 * w + (c 15 w - 1)))) (zch h0 c)) : zm_wc (d + 1) mW_topSpan [.ref (108 + 43 * w)] (zch h0 c) Q := by
  refine zm_enter2 (zfl_cons rfl zfl_nil) rfl ?_
  show zm_wp _ 40 0 [.ref (108 + 43 * w)] [] (zch h0 c) Q
  have hb0 : c 15 w ≤ 41 := hI 15 w
  refine wx_aload_n kc40_0 rfl rfl ?_
  refine wcW_get (.int (nI (c 15 w))) hS kc40_1 hw rfl ?_
  have hb4_1 : c 15 w ≤ 41 := hI 15 w
  refine wn_if_le kc40_4 (by omega) (fun hq4 => ?_) (fun hq4 => ?_)
  · skip
    first | exact absurd hq4 (by omega) | exact absurd hq16 (by omega)
  · skip
    refine wx_aload_n kc40_7 rfl rfl ?_
    refine wcW_get (.int (nI (c 15 w))) hS kc40_8 hw rfl ?_
    have hb11_2 : c 15 w ≤ 41 := hI 15 w
    refine wx_aload_n kc40_11 rfl rfl ?_
    refine wcW_get (.ref (109 + 43 * w)) hS kc40_12 hw rfl ?_
    refine wc_spln hS kc40_15 hw ?_
    refine wn_icmp_gt kc40_16 (by omega) (by decide) (fun hq16 => ?_) (fun hq16 => ?_)
    · skip
      first | exact absurd hq4 (by omega) | exact absurd hq16 (by omega)
    · skip
      refine wx_aload_n kc40_19 rfl rfl ?_
      refine wcW_get (.ref (109 + 43 * w)) hS kc40_20 hw rfl ?_
      refine wx_aload_n kc40_23 rfl rfl ?_
      refine wcW_get (.int (nI (c 15 w))) hS kc40_24 hw rfl ?_
      have hb27_3 : c 15 w ≤ 41 := hI 15 w
      refine wx_iconst (nI 1) kc40_27 (by decide) ?_
      refine wn_isub ((c 15 w) - 1) kc40_28 (by omega) ?_
      refine wc_spans hS kc40_29 hw (by omega) ?_
      refine wx_goto kc40_30 ?_
      refine wx_areturn kc40_34 rfl rfl rfl ?_
      exact hq
theorem cW_push {d : Nat} {h0 : zm_H} {c : Nat → Nat → Nat} {Q : Option Value → zm_H → Prop} {w b k e : Nat} (hS : zCS h0) (hI : zCI c) (hw : w ≤ 1) (hd : c 15 w < 41) (hq : Q none (zch h0 (zup (zup (zup (zup c 24 (41 * w + c 15 w) b) 25 (41 * w + c 15 w) k) 26 (41 * w + c 15 w) e) 15 w (c 15 w + 1)))) : zm_wc (d + 1) mW_push [.ref (108 + 43 * w), zrA b, .int (nI k), .int (nI e)] (zch h0 c) Q := by
  refine zm_enter2 (zfl_cons rfl (zfl_cons (zrA_c1 _) (zfl_cons rfl (zfl_cons rfl zfl_nil)))) rfl ?_
  show zm_wp _ 38 0 [.ref (108 + 43 * w), zrA b, .int (nI k), .int (nI e), zm_un] [] (zch h0 c) Q
  have hb0 : c 15 w ≤ 41 := hI 15 w
  refine wx_aload_n kc38_0 rfl rfl ?_
  refine wcW_get (.int (nI (c 15 w))) hS kc38_1 hw rfl ?_
  have hb4_1 : c 15 w ≤ 41 := hI 15 w
  refine wn_if_lt kc38_4 (by omega) ?_
  refine wx_aload_n kc38_7 rfl rfl ?_
  refine wcW_get (.int (nI (c 15 w))) hS kc38_8 hw rfl ?_
  refine wx_aload_n kc38_11 rfl rfl ?_
  refine wcW_get (.ref (109 + 43 * w)) hS kc38_12 hw rfl ?_
  refine wc_spln hS kc38_15 hw ?_
  refine wn_icmp_ge kc38_16 (by omega) (by decide) (fun hq16 => ?_) (fun hq16 => ?_)
  · skip
    exact absurd hq16 (by omega)
  · skip
    refine wx_aload_n kc38_19 rfl rfl ?_
    refine wcW_get (.ref (109 + 43 * w)) hS kc38_20 hw rfl ?_
    refine wx_aload_n kc38_23 rfl rfl ?_
    refine wcW_get (.int (nI (c 15 w))) hS kc38_24 hw rfl ?_
    have hb27_2 : c 15 w ≤ 41 := hI 15 w
    refine wc_spans hS kc38_27 hw (by omega) ?_
    refine wx_ifnonnullR kc38_28 ?_
    refine wx_aload_n kc38_32 rfl rfl ?_
    refine wcW_get (.ref (109 + 43 * w)) hS kc38_33 hw rfl ?_
    refine wx_aload_n kc38_36 rfl rfl ?_
    refine wcW_get (.int (nI (c 15 w))) hS kc38_37 hw rfl ?_
    refine wc_spans hS kc38_40 hw (by omega) ?_
    refine wx_astore (ls' := [.ref (108 + 43 * w), zrA b, .int (nI k), .int (nI e), .ref (110 + 43 * w + (c 15 w))]) kc38_41 rfl rfl rfl rfl ?_
    refine wx_aload kc38_43 rfl rfl ?_
    refine wx_aload_n kc38_45 rfl (zrA_k _) ?_
    refine wcS_put (v := b) 24 hS kc38_46 hw (by omega) rfl rfl (zrA_fa _ _) ?_
    refine wx_aload kc38_49 rfl rfl ?_
    refine wx_iload_n kc38_51 rfl rfl ?_
    refine wcS_put (v := k) 25 hS kc38_52 hw (by omega) rfl rfl rfl ?_
    refine wx_aload kc38_55 rfl rfl ?_
    refine wx_iload_n kc38_57 rfl rfl ?_
    refine wcS_put (v := e) 26 hS kc38_58 hw (by omega) rfl rfl rfl ?_
    refine wx_aload_n kc38_61 rfl rfl ?_
    refine wx_dup kc38_62 rfl ?_
    refine wcW_get (.int (nI (c 15 w))) hS kc38_63 hw rfl ?_
    refine wx_iconst (nI 1) kc38_66 (by decide) ?_
    refine wn_iadd ((c 15 w) + 1) kc38_67 rfl ?_
    refine wcW_put (v := ((c 15 w) + 1)) 15 hS kc38_68 hw rfl rfl rfl ?_
    refine wx_return kc38_71 rfl ?_
    exact hq
theorem cW_begin {d : Nat} {h0 : zm_H} {c : Nat → Nat → Nat} {Q : Option Value → zm_H → Prop} {w : Nat} (hS : zCS h0) (hI : zCI c) (hw : w ≤ 1) (hq : Q none (zch h0 (zup (zup (zup (zup (zup (zup (zup (zup c 15 w 0) 16 w 0) 17 w 0) 18 w 0) 20 w 0) 21 w 1) 22 w 0) 23 w 1))) : zm_wc (d + 1) mW_begin [.ref (108 + 43 * w)] (zch h0 c) Q := by
  refine zm_enter2 (zfl_cons rfl zfl_nil) rfl ?_
  show zm_wp _ 37 0 [.ref (108 + 43 * w)] [] (zch h0 c) Q
  refine wx_aload_n kc37_0 rfl rfl ?_
  refine wx_iconst (nI 0) kc37_1 (by decide) ?_
  refine wcW_put (v := 0) 15 hS kc37_2 hw rfl rfl rfl ?_
  refine wx_aload_n kc37_5 rfl rfl ?_
  refine wx_iconst (nI 0) kc37_6 (by decide) ?_
  refine wcW_put (v := 0) 16 hS kc37_7 hw rfl rfl rfl ?_
  refine wx_aload_n kc37_10 rfl rfl ?_
  refine wx_aconst_null kc37_11 ?_
  refine wcW_put (v := 0) 17 hS kc37_12 hw rfl rfl rfl ?_
  refine wx_aload_n kc37_15 rfl rfl ?_
  refine wx_iconst (nI 0) kc37_16 (by decide) ?_
  refine wcW_put (v := 0) 18 hS kc37_17 hw rfl rfl rfl ?_
  refine wx_aload_n kc37_20 rfl rfl ?_
  refine wx_iconst (nI 0) kc37_21 (by decide) ?_
  refine wcW_put (v := 0) 20 hS kc37_22 hw rfl rfl rfl ?_
  refine wx_aload_n kc37_25 rfl rfl ?_
  refine wx_aload_n kc37_26 rfl rfl ?_
  refine wcW_get (zrF 1) hS kc37_27 hw rfl ?_
  refine wcW_put (v := 1) 21 hS kc37_30 hw rfl rfl (zrF_fo _ _) ?_
  refine wx_aload_n kc37_33 rfl rfl ?_
  refine wx_aconst_null kc37_34 ?_
  refine wcW_put (v := 0) 22 hS kc37_35 hw rfl rfl rfl ?_
  refine wx_aload_n kc37_38 rfl rfl ?_
  refine wx_aload_n kc37_39 rfl rfl ?_
  refine wcW_get (zrF 1) hS kc37_40 hw rfl ?_
  refine wcW_put (v := 1) 23 hS kc37_43 hw rfl rfl (zrF_fo _ _) ?_
  refine wx_return kc37_46 rfl ?_
  exact hq
/-- a row of bytes that a walk may read: the tape, or the target of a link -/
def zOK (c : Nat → Nat → Nat) (b : Nat) : Prop := b = 3 ∨ ∃ x, x ≤ 40 ∧ c 2 x = 3 ∧ c 8 x = b
def zgk (h0 : zm_H) (c : Nat → Nat → Nat) (b n : Nat) : Prop := zga h0 b n ∧ zOK c b
theorem zgk_cg {h0 : zm_H} {c c2 : Nat → Nat → Nat} {b n : Nat} (h2 : c2 2 = c 2) (h8 : c2 8 = c 8) (k : zgk h0 c b n) : zgk h0 c2 b n := by
  unfold zgk zOK at k ⊢
  rw [h2, h8]
  exact k
/-- the part that a walk holds lies in a byte row -/
def zPG (h0 : zm_H) (c : Nat → Nat → Nat) (w : Nat) : Prop := (c 17 w = 0 → c 20 w = 0) ∧ (c 17 w ≠ 0 → ∃ n, zgk h0 c (c 17 w) n ∧ c 18 w + c 20 w ≤ n)
theorem zpw_len (c : Nat → Nat → Nat) (w : Nat) : (zpw c w).length = c 20 w := by
  unfold zpw
  rw [zls_len, Nat.add_sub_cancel_left]
theorem cW_isUp {d : Nat} {h0 : zm_H} {c : Nat → Nat → Nat} {Q : Option Value → zm_H → Prop} {w : Nat} (hS : zCS h0) (hI : zCI c) (hw : w ≤ 1) (hp : zPG h0 c w) (hq : Q (some (.int (nI (if zpw c w = [46, 46] then 1 else 0)))) (zch h0 c)) : zm_wc (d + 1) mW_isUp [.ref (108 + 43 * w)] (zch h0 c) Q := by
  refine zm_enter2 (zfl_cons rfl zfl_nil) rfl ?_
  show zm_wp _ 44 0 [.ref (108 + 43 * w)] [] (zch h0 c) Q
  refine wx_aload_n kc44_0 rfl rfl ?_
  refine wcW_get (.int (nI (c 20 w))) hS kc44_1 hw rfl ?_
  have hb4_1 : c 20 w ≤ 1200 := hI 20 w
  refine wx_iconst (nI 2) kc44_4 (by decide) ?_
  refine wn_icmp_ne kc44_5 (by omega) (by decide) (fun hq5 => ?_) (fun hq5 => ?_)
  · skip
    refine wx_iconst (nI 0) kc44_70 (by decide) ?_
    refine wx_ireturn kc44_71 rfl (by decide) ?_
    have e : (if zpw c w = [46, 46] then 1 else 0) = 0 := by
      refine if_neg (fun z => ?_)
      obtain ⟨z1, z2, z3⟩ := zls_dd.mp z
      first | exact hq5 z1 | exact hq47 z2 | exact hq63 z3 | (have := hp.1 (by omega); omega) | omega
    rw [e] at hq
    exact hq
  · skip
    refine wx_aload_n kc44_8 rfl rfl ?_
    refine wcW_get (zrA (c 17 w)) hS kc44_9 hw rfl ?_
    have hb12_2 : c 17 w ≤ 2147483647 := hI 17 w
    refine wcA_null kc44_12 (fun hq12 => ?_) (fun hq12 => ?_)
    · skip
      refine wx_iconst (nI 0) kc44_70 (by decide) ?_
      refine wx_ireturn kc44_71 rfl (by decide) ?_
      have e : (if zpw c w = [46, 46] then 1 else 0) = 0 := by
        refine if_neg (fun z => ?_)
        obtain ⟨z1, z2, z3⟩ := zls_dd.mp z
        first | exact hq5 z1 | exact hq47 z2 | exact hq63 z3 | (have := hp.1 (by omega); omega) | omega
      rw [e] at hq
      exact hq
    · skip
      obtain ⟨n, gn, gl⟩ := hp.2 (by omega)
      have hb2 := gn.1.2.2.2
      refine wx_aload_n kc44_15 rfl rfl ?_
      refine wcW_get (.int (nI (c 18 w))) hS kc44_16 hw rfl ?_
      have hb19_3 : c 18 w ≤ 1200 := hI 18 w
      refine wn_if_lt kc44_19 (by omega) ?_
      refine wx_aload_n kc44_22 rfl rfl ?_
      refine wcW_get (.int (nI (c 18 w))) hS kc44_23 hw rfl ?_
      refine wx_aload_n kc44_26 rfl rfl ?_
      refine wcW_get (zrA (c 17 w)) hS kc44_27 hw rfl ?_
      have hb30_4 : c 17 w ≤ 2147483647 := hI 17 w
      refine wcA_len gn.1 kc44_30 ?_
      refine wx_iconst (nI 1) kc44_31 (by decide) ?_
      refine wn_isub (n - 1) kc44_32 (by omega) ?_
      refine wn_icmp_ge kc44_33 (by omega) (by omega) (fun hq33 => ?_) (fun hq33 => ?_)
      · skip
        refine wx_iconst (nI 0) kc44_70 (by decide) ?_
        refine wx_ireturn kc44_71 rfl (by decide) ?_
        have e : (if zpw c w = [46, 46] then 1 else 0) = 0 := by
          refine if_neg (fun z => ?_)
          obtain ⟨z1, z2, z3⟩ := zls_dd.mp z
          first | exact hq5 z1 | exact hq47 z2 | exact hq63 z3 | (have := hp.1 (by omega); omega) | omega
        rw [e] at hq
        exact hq
      · skip
        refine wx_aload_n kc44_36 rfl rfl ?_
        refine wcW_get (zrA (c 17 w)) hS kc44_37 hw rfl ?_
        have hb40_5 : c 17 w ≤ 2147483647 := hI 17 w
        refine wx_aload_n kc44_40 rfl rfl ?_
        refine wcW_get (.int (nI (c 18 w))) hS kc44_41 hw rfl ?_
        have hb44_6 : c 18 w ≤ 1200 := hI 18 w
        refine wcA_ld (c 19 (1200 * (c 17 w) + (c 18 w))) gn.1 kc44_44 (by omega) rfl ?_
        refine wx_bipush (nI 46) kc44_45 (by decide) ?_
        refine wh_icmp_ne kc44_47 (Nat.lt_succ_of_le (hI 19 _)) (by decide) (fun hq47 => ?_) (fun hq47 => ?_)
        · skip
          refine wx_iconst (nI 0) kc44_70 (by decide) ?_
          refine wx_ireturn kc44_71 rfl (by decide) ?_
          have e : (if zpw c w = [46, 46] then 1 else 0) = 0 := by
            refine if_neg (fun z => ?_)
            obtain ⟨z1, z2, z3⟩ := zls_dd.mp z
            first | exact hq5 z1 | exact hq47 z2 | exact hq63 z3 | (have := hp.1 (by omega); omega) | omega
          rw [e] at hq
          exact hq
        · skip
          refine wx_aload_n kc44_50 rfl rfl ?_
          refine wcW_get (zrA (c 17 w)) hS kc44_51 hw rfl ?_
          have hb54_7 : c 17 w ≤ 2147483647 := hI 17 w
          refine wx_aload_n kc44_54 rfl rfl ?_
          refine wcW_get (.int (nI (c 18 w))) hS kc44_55 hw rfl ?_
          have hb58_8 : c 18 w ≤ 1200 := hI 18 w
          refine wx_iconst (nI 1) kc44_58 (by decide) ?_
          refine wn_iadd ((c 18 w) + 1) kc44_59 rfl ?_
          refine wcA_ld (c 19 (1200 * (c 17 w) + ((c 18 w) + 1))) gn.1 kc44_60 (by omega) rfl ?_
          refine wx_bipush (nI 46) kc44_61 (by decide) ?_
          refine wh_icmp_ne kc44_63 (Nat.lt_succ_of_le (hI 19 _)) (by decide) (fun hq63 => ?_) (fun hq63 => ?_)
          · skip
            refine wx_iconst (nI 0) kc44_70 (by decide) ?_
            refine wx_ireturn kc44_71 rfl (by decide) ?_
            have e : (if zpw c w = [46, 46] then 1 else 0) = 0 := by
              refine if_neg (fun z => ?_)
              obtain ⟨z1, z2, z3⟩ := zls_dd.mp z
              first | exact hq5 z1 | exact hq47 z2 | exact hq63 z3 | (have := hp.1 (by omega); omega) | omega
            rw [e] at hq
            exact hq
          · skip
            refine wx_iconst (nI 1) kc44_66 (by decide) ?_
            refine wx_goto kc44_67 ?_
            refine wx_ireturn kc44_71 rfl (by decide) ?_
            have e : (if zpw c w = [46, 46] then 1 else 0) = 1 := by
              exact if_pos ((zls_dd (f := fun j => c 19 (1200 * c 17 w + j)) (a := c 18 w) (n := c 20 w)).mpr ⟨by omega, hq47, hq63⟩)
            rw [e] at hq
            exact hq
/-- the spans of a walk, and the parts that are left in them -/
def zsb (c : Nat → Nat → Nat) (n : Nat) : Nat → Nat := fun j => c 19 (1200 * c 24 n + j)
def zrs (c : Nat → Nat → Nat) (w : Nat) : Nat → List (List Nat)
  | 0 => []
  | D + 1 => zpt (zls (zsb c (41 * w + D)) (c 25 (41 * w + D)) (c 26 (41 * w + D))) ++ zrs c w D
def zsv (h0 : zm_H) (c : Nat → Nat → Nat) (w D : Nat) : Prop := ∀ i, i < D → ∃ n, zgk h0 c (c 24 (41 * w + i)) n ∧ c 26 (41 * w + i) ≤ n ∧ c 25 (41 * w + i) ≤ c 26 (41 * w + i)
theorem zrs_cg {c c2 : Nat → Nat → Nat} {w : Nat} : ∀ D, (∀ i, i < D → c2 24 (41 * w + i) = c 24 (41 * w + i) ∧ c2 25 (41 * w + i) = c 25 (41 * w + i) ∧ c2 26 (41 * w + i) = c 26 (41 * w + i)) → (∀ j, c2 19 j = c 19 j) → zrs c2 w D = zrs c w D
  | 0, _, _ => rfl
  | D + 1, h, k => by
    obtain ⟨h1, h2, h3⟩ := h D (by omega)
    have e : zsb c2 (41 * w + D) = zsb c (41 * w + D) := by
      funext j
      unfold zsb
      rw [h1, k]
    show zpt (zls (zsb c2 (41 * w + D)) (c2 25 (41 * w + D)) (c2 26 (41 * w + D))) ++ zrs c2 w D = _
    rw [e, h2, h3, zrs_cg D (fun i hi => h i (by omega)) k]
    rfl
/-- a part stands at the top of the spans -/
def zTP (c : Nat → Nat → Nat) (n : Nat) : Prop := c 25 n < c 26 n ∧ zsb c n (c 25 n) ≠ 47 ∧ ¬ (zsb c n (c 25 n) = 46 ∧ (c 25 n + 1 = c 26 n ∨ zsb c n (c 25 n + 1) = 47))
def zHF (w : Nat) (c c2 : Nat → Nat → Nat) : Prop := ∀ A j, A ≠ 25 → ¬ (A = 15 ∧ j = w) → c2 A j = c A j
def zHY (h0 : zm_H) (w : Nat) (c c2 : Nat → Nat → Nat) : Prop := zHF w c c2 ∧ zCI c2 ∧ 1 ≤ c2 15 w ∧ c2 15 w ≤ c 15 w ∧ zsv h0 c2 w (c2 15 w) ∧ zrs c2 w (c2 15 w) = zrs c w (c 15 w) ∧ zTP c2 (41 * w + (c2 15 w - 1))
def zHN (w : Nat) (c c2 : Nat → Nat → Nat) : Prop := zHF w c c2 ∧ zCI c2 ∧ c2 15 w = 0 ∧ zrs c w (c 15 w) = []
theorem zHF_tr {w : Nat} {a b c : Nat → Nat → Nat} (h : zHF w a b) (k : zHF w b c) : zHF w a c := fun A j h1 h2 => (k A j h1 h2).trans (h A j h1 h2)
theorem lW_hasPart {d : Nat} {h0 : zm_H} {Q : Option Value → zm_H → Prop} {w : Nat} (hS : zCS h0) (hw : w ≤ 1) : ∀ (D : Nat) (c : Nat → Nat → Nat) (v : Value), c 15 w = D → zCI c → zsv h0 c w D → (∀ c2, zHY h0 w c c2 → Q (some (.int (nI 1))) (zch h0 c2)) → (∀ c2, zHN w c c2 → Q (some (.int (nI 0))) (zch h0 c2)) → zm_wp (d + 2) 39 0 [.ref (108 + 43 * w), v] [] (zch h0 c) Q := by
  intro D
  induction D with
  | zero =>
    intro c v hD hI hv hyes hno
    have hb0 : c 15 w ≤ 41 := hI 15 w
    refine wx_aload_n kc39_0 rfl rfl ?_
    refine wcW_get (.int (nI (c 15 w))) hS kc39_1 hw rfl ?_
    have hb4_1 : c 15 w ≤ 41 := hI 15 w
    refine wn_if_le kc39_4 (by omega) (fun hq4 => ?_) (fun hq4 => ?_)
    · skip
      refine wx_iconst (nI 0) kc39_38 (by decide) ?_
      refine wx_ireturn kc39_39 rfl (by decide) ?_
      refine hno c ⟨fun _ _ _ _ => rfl, hI, hD, ?_⟩
      rw [hD]
      rfl
    · skip
      exact absurd hq4 (by omega)
  | succ D ih =>
    intro c v hD hI hv hyes hno
    have hb0 : c 15 w ≤ 41 := hI 15 w
    refine wx_aload_n kc39_0 rfl rfl ?_
    refine wcW_get (.int (nI (c 15 w))) hS kc39_1 hw rfl ?_
    have hb4_1 : c 15 w ≤ 41 := hI 15 w
    refine wn_if_le kc39_4 (by omega) (fun hq4 => ?_) (fun hq4 => ?_)
    · skip
      exact absurd hq4 (by omega)
    · skip
      refine wx_aload_n kc39_7 rfl rfl ?_
      refine wcW_call hS kc39_8 rfl rfl hw rfl ?_
      refine cW_topSpan hS hI hw (by omega) ?_
      show zm_wp _ 39 11 [.ref (108 + 43 * w), v] [.ref (110 + 43 * w + (c 15 w - 1))] (zch h0 c) _
      obtain ⟨nb, g1, g2, g3⟩ := hv D (by omega)
      have eD : c 15 w - 1 = D := by omega
      rw [eD]
      show zm_wp _ 39 11 [.ref (108 + 43 * w), v] [.ref (110 + 43 * w + D)] (zch h0 c) _
      refine wx_astore_n (ls' := [.ref (108 + 43 * w), .ref (110 + 43 * w + D)]) kc39_11 rfl rfl rfl rfl ?_
      refine wx_aload_n kc39_12 rfl rfl ?_
      refine wx_ifnullR kc39_13 ?_
      refine wx_aload_n kc39_16 rfl rfl ?_
      refine wcS_call hS kc39_17 rfl rfl hw (by omega) rfl ?_
      refine cS_goToPart hS hI hw (by omega) g1.1 g2 g3 (fun a a1 a2 a3 a4 a5 => ?_) (fun a1 => ?_)
      · skip
        show zm_wp _ 39 20 [.ref (108 + 43 * w), .ref (110 + 43 * w + D)] [.int (nI 1)] (zch h0 (zup c 25 (41 * w + D) a)) _
        refine wn_if_eq kc39_20 (by decide) (fun z => absurd z (by decide)) (fun _ => ?_)
        refine wx_iconst (nI 1) kc39_23 (by decide) ?_
        refine wx_ireturn kc39_24 rfl (by decide) ?_
        have e1 : zup c 25 (41 * w + D) a 25 (41 * w + D) = a := zup_same _ _ _ _
        have e2 : ∀ i, i ≠ D → zup c 25 (41 * w + D) a 25 (41 * w + i) = c 25 (41 * w + i) := fun i hi => zup_nj _ _ (by omega)
        have hb26 : c 26 (41 * w + D) ≤ 1200 := hI 26 _
        refine hyes _ ⟨fun A j h1 h2 => zup_na _ _ h1, zCI_up hI (show a ≤ 1200 by omega), ?_, ?_, ?_, ?_, ?_⟩
        · show 1 ≤ c 15 w
          omega
        · exact Nat.le_refl (c 15 w)
        · show zsv h0 _ w (c 15 w)
          rw [hD]
          intro i hi
          by_cases hiD : i = D
          · subst hiD
            exact ⟨nb, g1, g2, by rw [e1]; exact Nat.le_of_lt a2⟩
          · obtain ⟨n2, y1, y2, y3⟩ := hv i hi
            exact ⟨n2, y1, y2, by rw [e2 i hiD]; exact y3⟩
        · show zrs _ w (c 15 w) = zrs c w (c 15 w)
          rw [hD]
          show zpt (zls (zsb c (41 * w + D)) (zup c 25 (41 * w + D) a 25 (41 * w + D)) (c 26 (41 * w + D))) ++ zrs _ w D = zpt (zls (zsb c (41 * w + D)) (c 25 (41 * w + D)) (c 26 (41 * w + D))) ++ zrs c w D
          rw [e1, zrs_cg (c2 := zup c 25 (41 * w + D) a) (c := c) D (fun i hi => ⟨rfl, e2 i (by omega), rfl⟩) (fun j => rfl)]
          rw [show zpt (zls (zsb c (41 * w + D)) (c 25 (41 * w + D)) (c 26 (41 * w + D))) = zpt (zls (zsb c (41 * w + D)) a (c 26 (41 * w + D))) from a5]
        · show zTP _ (41 * w + (c 15 w - 1))
          rw [eD]
          unfold zTP
          rw [e1]
          exact ⟨a2, a3, a4⟩
      · skip
        show zm_wp _ 39 20 [.ref (108 + 43 * w), .ref (110 + 43 * w + D)] [.int (nI 0)] (zch h0 (zup c 25 (41 * w + D) (c 26 (41 * w + D)))) _
        refine wn_if_eq kc39_20 (by decide) (fun _ => ?_) (fun z => absurd z (by decide))
        refine wx_aload_n kc39_25 rfl rfl ?_
        refine wx_dup kc39_26 rfl ?_
        refine wcW_get (.int (nI (c 15 w))) hS kc39_27 hw rfl ?_
        have hb30_2 : c 15 w ≤ 41 := hI 15 w
        refine wx_iconst (nI 1) kc39_30 (by decide) ?_
        refine wn_isub ((c 15 w) - 1) kc39_31 (by omega) ?_
        refine wcW_put (v := ((c 15 w) - 1)) 15 hS kc39_32 hw rfl rfl rfl ?_
        refine wx_goto kc39_35 ?_
        show zm_wp _ 39 0 [.ref (108 + 43 * w), .ref (110 + 43 * w + D)] [] (zch h0 (zup (zup c 25 (41 * w + D) (c 26 (41 * w + D))) 15 w ((c 15 w) - 1))) _
        obtain ⟨c2, hc2⟩ : ∃ y, y = (zup (zup c 25 (41 * w + D) (c 26 (41 * w + D))) 15 w ((c 15 w) - 1)) := ⟨_, rfl⟩
        rw [← hc2]
        have hF : zHF w c c2 := fun A j h1 h2 => by rw [hc2, zup_ne _ _ h2, zup_na _ _ h1]
        have hI2 : zCI c2 := by rw [hc2]; exact zCI_up (zCI_up hI (show c 26 (41 * w + D) ≤ 1200 from hI 26 _)) (show c 15 w - 1 ≤ 41 by omega)
        have e15 : c2 15 w = D := by rw [hc2, zup_same]; omega
        have e25 : ∀ i, i ≠ D → c2 25 (41 * w + i) = c 25 (41 * w + i) := fun i hi => by
          rw [hc2, zup_na _ _ (by decide)]
          exact zup_nj _ _ (by omega)
        have e24 : ∀ n, c2 24 n = c 24 n := fun n => hF 24 n (by decide) (by omega)
        have e26 : ∀ n, c2 26 n = c 26 n := fun n => hF 26 n (by decide) (by omega)
        have eR : zrs c2 w D = zrs c w (c 15 w) := by
          rw [hD]
          show _ = zpt (zls (zsb c (41 * w + D)) (c 25 (41 * w + D)) (c 26 (41 * w + D))) ++ zrs c w D
          rw [show zpt (zls (zsb c (41 * w + D)) (c 25 (41 * w + D)) (c 26 (41 * w + D))) = [] from a1, zrs_cg (c2 := c2) (c := c) D (fun i hi => ⟨e24 _, e25 i (by omega), e26 _⟩) (fun j => hF 19 j (by decide) (by omega))]
          rfl
        refine ih c2 _ e15 hI2 (fun i hi => ?_) (fun c3 h3 => hyes c3 ?_) (fun c3 h3 => hno c3 ?_)
        · obtain ⟨n2, y1, y2, y3⟩ := hv i (by omega)
          exact ⟨n2, by rw [e24]; exact zgk_cg (funext (fun j => hF 2 j (by decide) (by omega))) (funext (fun j => hF 8 j (by decide) (by omega))) y1, by rw [e26]; exact y2, by rw [e25 i (by omega), e26]; exact y3⟩
        · obtain ⟨y1, y2, y3, y4, y5, y6, y7⟩ := h3
          exact ⟨zHF_tr hF y1, y2, y3, by omega, y5, by rw [y6, e15, eR], y7⟩
        · obtain ⟨y1, y2, y3, y4⟩ := h3
          exact ⟨zHF_tr hF y1, y2, y3, by rw [← eR, ← e15]; exact y4⟩
theorem cW_hasPart {d : Nat} {h0 : zm_H} {c : Nat → Nat → Nat} {Q : Option Value → zm_H → Prop} {w : Nat} (hS : zCS h0) (hI : zCI c) (hw : w ≤ 1) (hv : zsv h0 c w (c 15 w)) (hyes : ∀ c2, zHY h0 w c c2 → Q (some (.int (nI 1))) (zch h0 c2)) (hno : ∀ c2, zHN w c c2 → Q (some (.int (nI 0))) (zch h0 c2)) : zm_wc (d + 3) mW_hasPart [.ref (108 + 43 * w)] (zch h0 c) Q := by
  refine zm_enter2 (zfl_cons rfl zfl_nil) rfl ?_
  exact lW_hasPart hS hw (c 15 w) c zm_un rfl hI hv hyes hno
theorem cW_takePart {d : Nat} {h0 : zm_H} {c : Nat → Nat → Nat} {Q : Option Value → zm_H → Prop} {w : Nat} (hS : zCS h0) (hI : zCI c) (hw : w ≤ 1) (hd : 1 ≤ c 15 w) (hv : zsv h0 c w (c 15 w)) (hq : ∀ e, c 25 (41 * w + (c 15 w - 1)) ≤ e → e ≤ c 26 (41 * w + (c 15 w - 1)) → (∀ j, c 25 (41 * w + (c 15 w - 1)) ≤ j → j < e → zsb c (41 * w + (c 15 w - 1)) j ≠ 47) → (e = c 26 (41 * w + (c 15 w - 1)) ∨ zsb c (41 * w + (c 15 w - 1)) e = 47) → Q none (zch h0 (zup (zup (zup (zup c 17 w (c 24 (41 * w + (c 15 w - 1)))) 18 w (c 25 (41 * w + (c 15 w - 1)))) 25 (41 * w + (c 15 w - 1)) e) 20 w (e - c 25 (41 * w + (c 15 w - 1)))))) : zm_wc (d + 3) mW_takePart [.ref (108 + 43 * w)] (zch h0 c) Q := by
  refine zm_enter2 (zfl_cons rfl zfl_nil) rfl ?_
  show zm_wp _ 41 0 [.ref (108 + 43 * w), zm_un] [] (zch h0 c) Q
  have hb0 : c 15 w ≤ 41 := hI 15 w
  refine wx_aload_n kc41_0 rfl rfl ?_
  refine wcW_call hS kc41_1 rfl rfl hw rfl ?_
  refine cW_topSpan hS hI hw (by omega) ?_
  show zm_wp _ 41 4 [.ref (108 + 43 * w), zm_un] [.ref (110 + 43 * w + (c 15 w - 1))] (zch h0 c) _
  obtain ⟨nb, g1, g2, g3⟩ := hv (c 15 w - 1) (by omega)
  obtain ⟨D, hD⟩ : ∃ D, D = c 15 w - 1 := ⟨_, rfl⟩
  rw [← hD] at g1 g2 g3 hq ⊢
  show zm_wp _ 41 4 [.ref (108 + 43 * w), zm_un] [.ref (110 + 43 * w + D)] (zch h0 c) _
  refine wx_astore_n (ls' := [.ref (108 + 43 * w), .ref (110 + 43 * w + D)]) kc41_4 rfl rfl rfl rfl ?_
  refine wx_aload_n kc41_5 rfl rfl ?_
  refine wx_ifnullR kc41_6 ?_
  refine wx_aload_n kc41_9 rfl rfl ?_
  refine wx_aload_n kc41_10 rfl rfl ?_
  refine wcS_get (zrA (c 24 (41 * w + D))) hS kc41_11 hw (by omega) rfl ?_
  have hb14_1 : c 24 (41 * w + D) ≤ 2147483647 := hI 24 (41 * w + D)
  refine wcW_put (v := (c 24 (41 * w + D))) 17 hS kc41_14 hw rfl rfl (zrA_fa _ _) ?_
  refine wx_aload_n kc41_17 rfl rfl ?_
  refine wx_aload_n kc41_18 rfl rfl ?_
  refine wcS_get (.int (nI (c 25 (41 * w + D)))) hS kc41_19 hw (by omega) rfl ?_
  have hb22_2 : c 25 (41 * w + D) ≤ 1200 := hI 25 (41 * w + D)
  refine wcW_put (v := (c 25 (41 * w + D))) 18 hS kc41_22 hw rfl rfl rfl ?_
  refine wx_aload_n kc41_25 rfl rfl ?_
  refine wx_aload_n kc41_26 rfl rfl ?_
  show zm_wp _ 41 27 [.ref (108 + 43 * w), .ref (110 + 43 * w + D)] [.ref (110 + 43 * w + D), .ref (108 + 43 * w)] (zch h0 (zup (zup c 17 w (c 24 (41 * w + D))) 18 w (c 25 (41 * w + D)))) _
  have hb24 : c 24 (41 * w + D) ≤ 2147483647 := hI 24 _
  have hb25 : c 25 (41 * w + D) ≤ 1200 := hI 25 _
  refine wcS_call hS kc41_27 rfl rfl hw (by omega) rfl ?_
  refine cS_passPart hS (zCI_up (zCI_up hI (a := 17) (j := w) (v := c 24 (41 * w + D)) hb24) (a := 18) (j := w) (v := c 25 (41 * w + D)) hb25) hw (by omega) g1.1 g2 g3 (fun e e1 e2 e3 e4 => ?_)
  have e1 : c 25 (41 * w + D) ≤ e := e1
  have e2 : e ≤ c 26 (41 * w + D) := e2
  have hb26 : c 26 (41 * w + D) ≤ 1200 := hI 26 _
  show zm_wp _ 41 30 [.ref (108 + 43 * w), .ref (110 + 43 * w + D)] [.int (nI e), .ref (108 + 43 * w)] (zch h0 (zup (zup (zup c 17 w (c 24 (41 * w + D))) 18 w (c 25 (41 * w + D))) 25 (41 * w + D) e)) _
  refine wx_aload_n kc41_30 rfl rfl ?_
  refine wcW_get (.int (nI (c 25 (41 * w + D)))) hS kc41_31 hw (congrArg (fun z => Value.int (nI z)) (show (zup (zup c 17 w (c 24 (41 * w + D))) 18 w (c 25 (41 * w + D))) 18 w = (c 25 (41 * w + D)) from zup_same _ _ _ _)) ?_
  refine wn_isub (e - (c 25 (41 * w + D))) kc41_34 (by omega) ?_
  refine wcW_put (v := (e - (c 25 (41 * w + D)))) 20 hS kc41_35 hw rfl rfl rfl ?_
  refine wx_return kc41_38 rfl ?_
  exact hq e e1 e2 e3 e4
