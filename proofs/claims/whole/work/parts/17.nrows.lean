/-! rows over numbers: ints that are nI of a natural number -/
section
variable {d M pc np x y : Nat} {sw : List (Int × Nat)} {ls st : List Value} {h : zm_H} {Q : Option Value → zm_H → Prop}
theorem wn_iadd {a b : Nat} (c : Nat) (hc : zt_code M pc = some (.iadd, np, x, y, sw)) (e : a + b = c) (kk : zm_wp d M np ls (.int (nI c) :: st) h Q) : zm_wp d M pc ls (.int (nI b) :: .int (nI a) :: st) h Q := by
  subst e
  refine wx_iadd hc ?_
  rw [nI_add]
  exact kk
theorem wn_isub {a b : Nat} (c : Nat) (hc : zt_code M pc = some (.isub, np, x, y, sw)) (e : b + c = a) (kk : zm_wp d M np ls (.int (nI c) :: st) h Q) : zm_wp d M pc ls (.int (nI b) :: .int (nI a) :: st) h Q := by
  subst e
  refine wx_isub hc ?_
  rw [pk_sub (Nat.le_add_right b c), Nat.add_sub_cancel_left]
  exact kk
theorem wn_imul {a b : Nat} (c : Nat) (hc : zt_code M pc = some (.imul, np, x, y, sw)) (e : a * b = c) (kk : zm_wp d M np ls (.int (nI c) :: st) h Q) : zm_wp d M pc ls (.int (nI b) :: .int (nI a) :: st) h Q := by
  subst e
  refine wx_imul hc ?_
  rw [pk_mul]
  exact kk
theorem wn_iinc {j a : Nat} (c : Nat) {ls' : List Value} (hc : zt_code M pc = some (.iinc j 1, np, x, y, sw)) (hv : ls[j]? = some (.int (nI a))) (hj : Nat.blt j ls.length = true) (hn : zm_nl ls j = true) (e : a + 1 = c) (hs : ls.set j (.int (nI c)) = ls') (kk : zm_wp d M np ls' st h Q) : zm_wp d M pc ls st h Q := by
  subst e
  exact wx_iinc hc hv hj hn (nI_1 a) hs kk
theorem wn_idec {j a : Nat} (c : Nat) {ls' : List Value} (hc : zt_code M pc = some (.iinc j (-1), np, x, y, sw)) (hv : ls[j]? = some (.int (nI a))) (hj : Nat.blt j ls.length = true) (hn : zm_nl ls j = true) (e : c + 1 = a) (hs : ls.set j (.int (nI c)) = ls') (kk : zm_wp d M np ls' st h Q) : zm_wp d M pc ls st h Q := by
  subst e
  exact wx_iinc hc hv hj hn (pk_m1 c) hs kk
theorem wn_icmp_eq {a b : Nat} {o : Int} (hc : zt_code M pc = some (.if_icmp .eq o, np, x, y, sw)) (ha : a < 2147483648) (hb : b < 2147483648) (kt : a = b → zm_wp d M x ls st h Q) (kf : a ≠ b → zm_wp d M np ls st h Q) : zm_wp d M pc ls (.int (nI b) :: .int (nI a) :: st) h Q :=
  wx_icmp_eq hc (fun q => kt ((nI_eq ha hb).mp q)) (fun q => kf (fun z => q ((nI_eq ha hb).mpr z)))
theorem wn_icmp_ne {a b : Nat} {o : Int} (hc : zt_code M pc = some (.if_icmp .ne o, np, x, y, sw)) (ha : a < 2147483648) (hb : b < 2147483648) (kt : a ≠ b → zm_wp d M x ls st h Q) (kf : a = b → zm_wp d M np ls st h Q) : zm_wp d M pc ls (.int (nI b) :: .int (nI a) :: st) h Q :=
  wx_icmp_ne hc (fun q => kt (fun z => q ((nI_eq ha hb).mpr z))) (fun q => kf ((nI_eq ha hb).mp q))
theorem wn_icmp_lt {a b : Nat} {o : Int} (hc : zt_code M pc = some (.if_icmp .lt o, np, x, y, sw)) (ha : a < 2147483648) (hb : b < 2147483648) (kt : a < b → zm_wp d M x ls st h Q) (kf : b ≤ a → zm_wp d M np ls st h Q) : zm_wp d M pc ls (.int (nI b) :: .int (nI a) :: st) h Q :=
  wx_icmp_lt hc (fun q => kt ((nI_ltI ha hb).mp q)) (fun q => kf (Nat.not_lt.mp (fun z => q ((nI_ltI ha hb).mpr z))))
theorem wn_icmp_ge {a b : Nat} {o : Int} (hc : zt_code M pc = some (.if_icmp .ge o, np, x, y, sw)) (ha : a < 2147483648) (hb : b < 2147483648) (kt : b ≤ a → zm_wp d M x ls st h Q) (kf : a < b → zm_wp d M np ls st h Q) : zm_wp d M pc ls (.int (nI b) :: .int (nI a) :: st) h Q :=
  wx_icmp_ge hc (fun q => kt ((nI_leI hb ha).mp q)) (fun q => kf (Nat.not_le.mp (fun z => q ((nI_leI hb ha).mpr z))))
theorem wn_icmp_gt {a b : Nat} {o : Int} (hc : zt_code M pc = some (.if_icmp .gt o, np, x, y, sw)) (ha : a < 2147483648) (hb : b < 2147483648) (kt : b < a → zm_wp d M x ls st h Q) (kf : a ≤ b → zm_wp d M np ls st h Q) : zm_wp d M pc ls (.int (nI b) :: .int (nI a) :: st) h Q :=
  wx_icmp_gt hc (fun q => kt ((nI_ltI hb ha).mp q)) (fun q => kf (Nat.not_lt.mp (fun z => q ((nI_ltI hb ha).mpr z))))
theorem wn_icmp_le {a b : Nat} {o : Int} (hc : zt_code M pc = some (.if_icmp .le o, np, x, y, sw)) (ha : a < 2147483648) (hb : b < 2147483648) (kt : a ≤ b → zm_wp d M x ls st h Q) (kf : b < a → zm_wp d M np ls st h Q) : zm_wp d M pc ls (.int (nI b) :: .int (nI a) :: st) h Q :=
  wx_icmp_le hc (fun q => kt ((nI_leI ha hb).mp q)) (fun q => kf (Nat.not_le.mp (fun z => q ((nI_leI ha hb).mpr z))))
theorem nI_z {a : Nat} (ha : a < 2147483648) : nI a = 0 ↔ a = 0 := by rw [← nI_0]; exact nI_eq ha (by decide)
theorem wn_if_eq {a : Nat} {o : Int} (hc : zt_code M pc = some (.ifCond .eq o, np, x, y, sw)) (ha : a < 2147483648) (kt : a = 0 → zm_wp d M x ls st h Q) (kf : a ≠ 0 → zm_wp d M np ls st h Q) : zm_wp d M pc ls (.int (nI a) :: st) h Q :=
  wx_if_eq hc (fun q => kt ((nI_z ha).mp q)) (fun q => kf (fun z => q ((nI_z ha).mpr z)))
theorem wn_if_ne {a : Nat} {o : Int} (hc : zt_code M pc = some (.ifCond .ne o, np, x, y, sw)) (ha : a < 2147483648) (kt : a ≠ 0 → zm_wp d M x ls st h Q) (kf : a = 0 → zm_wp d M np ls st h Q) : zm_wp d M pc ls (.int (nI a) :: st) h Q :=
  wx_if_ne hc (fun q => kt (fun z => q ((nI_z ha).mpr z))) (fun q => kf ((nI_z ha).mp q))
theorem wn_if_lt {a : Nat} {o : Int} (hc : zt_code M pc = some (.ifCond .lt o, np, x, y, sw)) (ha : a < 2147483648) (kf : zm_wp d M np ls st h Q) : zm_wp d M pc ls (.int (nI a) :: st) h Q :=
  wx_if_lt hc (fun q => absurd q (nI_pos ha)) (fun _ => kf)
theorem wn_if_ge {a : Nat} {o : Int} (hc : zt_code M pc = some (.ifCond .ge o, np, x, y, sw)) (ha : a < 2147483648) (kt : zm_wp d M x ls st h Q) : zm_wp d M pc ls (.int (nI a) :: st) h Q :=
  wx_if_ge hc (fun _ => kt) (fun q => absurd (nI_pos' ha) q)
theorem wn_if_gt {a : Nat} {o : Int} (hc : zt_code M pc = some (.ifCond .gt o, np, x, y, sw)) (ha : a < 2147483648) (kt : 0 < a → zm_wp d M x ls st h Q) (kf : a = 0 → zm_wp d M np ls st h Q) : zm_wp d M pc ls (.int (nI a) :: st) h Q :=
  wx_if_gt hc (fun q => kt (by rw [← nI_0] at q; exact (nI_ltI (by decide) ha).mp q)) (fun q => kf (Nat.eq_zero_of_not_pos (fun z => q (by rw [← nI_0]; exact (nI_ltI (by decide) ha).mpr z))))
theorem wn_if_le {a : Nat} {o : Int} (hc : zt_code M pc = some (.ifCond .le o, np, x, y, sw)) (ha : a < 2147483648) (kt : a = 0 → zm_wp d M x ls st h Q) (kf : 0 < a → zm_wp d M np ls st h Q) : zm_wp d M pc ls (.int (nI a) :: st) h Q :=
  wx_if_le hc (fun q => kt (by rw [← nI_0] at q; exact Nat.le_zero.mp ((nI_leI ha (by decide)).mp q))) (fun q => kf (Nat.pos_of_ne_zero (fun z => q (by rw [← nI_0]; exact (nI_leI ha (by decide)).mpr (Nat.le_of_eq z)))))
end
/-- a byte as an array keeps it -/
def zsg (v : Nat) : Int32 := (nI v).toInt8.toInt32
theorem zsg_and_t : ∀ v, v < 256 → zsg v &&& 255 = nI v := by decide +kernel
theorem zsg_and {v : Nat} (h : v < 256) : zsg v &&& nI 255 = nI v := zsg_and_t v h
theorem zsg_inj_t : ∀ v, v < 256 → (zsg v).toInt8.toInt32 = zsg v ∧ fits .byte (.int (zsg v)) = true := by decide +kernel
theorem zsg_ii (v : Nat) : ((nI v).toInt8.toInt32).toInt8.toInt32 = zsg v := by
  show ((nI v).toInt8.toInt32).toInt8.toInt32 = (nI v).toInt8.toInt32
  rw [Int8.toInt8_toInt32]
theorem zsg_inj {a b : Nat} (ha : a < 256) (hb : b < 256) (h : zsg a = zsg b) : a = b := by
  have e : nI a = nI b := by rw [← zsg_and ha, ← zsg_and hb, h]
  exact (nI_eq (by omega) (by omega)).mp e
theorem zsg_fit {v : Nat} (h : v < 256) : zm_fit .byte (.int (zsg v)) = true := by
  obtain ⟨h1, h2⟩ := zsg_inj_t v h
  show ((zsg v).toInt8.toInt32 == zsg v && fits .byte (.int (zsg v))) = true
  rw [h1, h2]
  simp
/-! the reference's heap: its object at 194, its arrays behind it, as numbers -/
def zup (s : Nat → Nat → Nat) (a j v : Nat) : Nat → Nat → Nat := fun b i => bif Nat.beq b a && Nat.beq i j then v else s b i
theorem zup_same (s : Nat → Nat → Nat) (a j v : Nat) : zup s a j v a j = v := by simp [zup]
theorem zup_ne (s : Nat → Nat → Nat) {a j b i : Nat} (v : Nat) (h : ¬ (b = a ∧ i = j)) : zup s a j v b i = s b i := by
  unfold zup
  cases h1 : Nat.beq b a with
  | false => rfl
  | true =>
    cases h2 : Nat.beq i j with
    | false => rfl
    | true => exact absurd ⟨Nat.eq_of_beq_eq_true h1, Nat.eq_of_beq_eq_true h2⟩ h
theorem zup_na (s : Nat → Nat → Nat) {a j b i : Nat} (v : Nat) (h : b ≠ a) : zup s a j v b i = s b i := zup_ne s v (fun z => h z.1)
theorem zup_nj (s : Nat → Nat → Nat) {a j i : Nat} (v : Nat) (h : i ≠ j) : zup s a j v a i = s a i := zup_ne s v (fun z => h z.2)
def zmk : Nat → Nat × Nat
  | 194 => (8, 22)
  | 195 => (101, 1200)
  | 196 => (101, 1200)
  | 197 => (101, 41)
  | 198 => (101, 41)
  | 199 => (101, 41)
  | 200 => (101, 41)
  | 201 => (100, 41000)
  | 202 => (101, 60)
  | 203 => (101, 60)
  | 204 => (101, 60)
  | 205 => (100, 15300)
  | 206 => (101, 42000)
  | _ => (0, 0)
def zme0 : Nat → Option Nat
  | 2 => some 195
  | 4 => some 196
  | 5 => some 197
  | 6 => some 198
  | 7 => some 199
  | 8 => some 200
  | 9 => some 201
  | 11 => some 202
  | 12 => some 203
  | 13 => some 204
  | 14 => some 205
  | 15 => some 206
  | _ => none
def zme (a j v : Nat) : Value := bif Nat.beq a 194 then (match zme0 j with
    | some q => .ref q
    | none => .int (nI v)) else (bif Nat.beq a 201 || Nat.beq a 205 then .int (zsg v) else .int (nI v))
def zmh (h0 : zm_H) (s : Nat → Nat → Nat) : zm_H := (h0.1, h0.2.1, h0.2.2.1, fun a j => bif Nat.ble 194 a && Nat.blt a 207 then zme a j (s (a - 194) j) else h0.2.2.2 a j)
/-- the reference's cells are there -/
def zMS (h0 : zm_H) : Prop := 207 ≤ h0.1 ∧ ∀ a, 194 ≤ a → a < 207 → h0.2.2.1 a = zmk a
theorem zmh_is {h0 : zm_H} {s : Nat → Nat → Nat} (hS : zMS h0) (a t : Nat) (h1 : 194 ≤ a) (h2 : a < 207) (h3 : (zmk a).1 = t) : zm_is (zmh h0 s) a t := by
  refine ⟨by omega, ?_, ?_⟩
  · show a < h0.1
    have := hS.1
    omega
  · show (h0.2.2.1 a).1 = t
    rw [hS.2 a h1 h2]
    exact h3
theorem zmh_ln {h0 : zm_H} {s : Nat → Nat → Nat} (hS : zMS h0) (a n : Nat) (h1 : 194 ≤ a) (h2 : a < 207) (h3 : (zmk a).2 = n) : zm_ln (zmh h0 s) a = n := by
  show (h0.2.2.1 a).2 = n
  rw [hS.2 a h1 h2]
  exact h3
theorem zmh_at {h0 : zm_H} {s : Nat → Nat → Nat} (a j : Nat) (h1 : 194 ≤ a) (h2 : a < 207) : zm_at (zmh h0 s) a j = zme a j (s (a - 194) j) := by
  show (bif Nat.ble 194 a && Nat.blt a 207 then zme a j (s (a - 194) j) else h0.2.2.2 a j) = _
  rw [Nat.ble_eq_true_of_le h1, Nat.blt_eq.mpr h2]
  rfl
theorem zmh_put {h0 : zm_H} {s : Nat → Nat → Nat} (a j v : Nat) (w : Value) (h1 : 194 ≤ a) (h2 : a < 207) (hw : zme a j v = w) : zm_put (zmh h0 s) a j w = zmh h0 (zup s (a - 194) j v) := by
  show (h0.1, h0.2.1, h0.2.2.1, fun b i => if b = a ∧ i = j then w else zm_at (zmh h0 s) b i) = (h0.1, h0.2.1, h0.2.2.1, _)
  congr 3
  funext b i
  by_cases hb : b = a ∧ i = j
  · obtain ⟨rfl, rfl⟩ := hb
    rw [if_pos ⟨rfl, rfl⟩]
    show w = zm_at (zmh h0 (zup s (b - 194) i v)) b i
    rw [zmh_at b i h1 h2, zup_same, hw]
  · rw [if_neg hb]
    show zm_at (zmh h0 s) b i = zm_at (zmh h0 (zup s (a - 194) j v)) b i
    by_cases hr : 194 ≤ b ∧ b < 207
    · rw [zmh_at b i hr.1 hr.2, zmh_at b i hr.1 hr.2, zup_ne]
      intro z
      exact hb ⟨by omega, z.2⟩
    · have hf : (Nat.ble 194 b && Nat.blt b 207) = false := by
        cases h : (Nat.ble 194 b && Nat.blt b 207) with
        | false => rfl
        | true =>
          simp only [Bool.and_eq_true] at h
          exact absurd ⟨Nat.le_of_ble_eq_true h.1, Nat.blt_eq.mp h.2⟩ hr
      have g : ∀ t : Nat → Nat → Nat, zm_at (zmh h0 t) b i = h0.2.2.2 b i := fun t => by
        show (bif Nat.ble 194 b && Nat.blt b 207 then zme b i (t (b - 194) i) else h0.2.2.2 b i) = h0.2.2.2 b i
        rw [hf, cond_false]
      rw [g, g]
section
variable {d M pc np y o : Nat} {sw : List (Int × Nat)} {ls st : List Value} {h0 : zm_H} {s : Nat → Nat → Nat} {Q : Option Value → zm_H → Prop}
theorem wm_getf {k : Nat} (v : Value) (hS : zMS h0) (hc : zt_code M pc = some (.getfield o, np, 8, k, sw)) (hv : zme 194 k (s 0 k) = v) (kk : zm_wp d M np ls (v :: st) (zmh h0 s) Q) : zm_wp d M pc ls (.ref 194 :: st) (zmh h0 s) Q :=
  wx_getfield hc (zmh_is hS 194 8 (by decide) (by decide) rfl) ((zmh_at 194 k (by decide) (by decide)).trans hv) kk
theorem wm_putf {k v : Nat} {w : Value} (hS : zMS h0) (hc : zt_code M pc = some (.putfield o, np, 8, k, sw)) (hw : zme 194 k v = w) (hf : zm_fit (zt_ty 8 k) w = true) (kk : zm_wp d M np ls st (zmh h0 (zup s 0 k v)) Q) : zm_wp d M pc ls (w :: .ref 194 :: st) (zmh h0 s) Q := by
  refine wx_putfield hc (zmh_is hS 194 8 (by decide) (by decide) rfl) hf ?_
  rw [zmh_put 194 k v w (by decide) (by decide) hw]
  exact kk
theorem wm_iald {x j : Nat} (a n v : Nat) (hS : zMS h0) (hc : zt_code M pc = some (.iaload, np, x, y, sw)) (h1 : Nat.ble 194 a = true) (h2 : Nat.blt a 207 = true) (hk : zmk a = (101, n)) (hn : Nat.blt n 100000 = true) (hj : j < n) (hz : ∀ w, zme a j w = .int (nI w)) (hv : s (a - 194) j = v) (kk : zm_wp d M np ls (.int (nI v) :: st) (zmh h0 s) Q) : zm_wp d M pc ls (.int (nI j) :: .ref a :: st) (zmh h0 s) Q := by
  have g1 := Nat.le_of_ble_eq_true h1
  have g2 := Nat.blt_eq.mp h2
  have g3 := Nat.blt_eq.mp hn
  have hi := zmh_is (s := s) hS a 101 g1 g2 (by rw [hk])
  have hl := zmh_ln (s := s) hS a n g1 g2 (by rw [hk])
  exact wx_iaload hc hi.2.1 hi.2.2 (by rw [hl]; exact hj) (by rw [hl]; omega) (by rw [zmh_at a j g1 g2, hz, hv]) kk
theorem wm_bald {x j : Nat} (a n v : Nat) (hS : zMS h0) (hc : zt_code M pc = some (.baload, np, x, y, sw)) (h1 : Nat.ble 194 a = true) (h2 : Nat.blt a 207 = true) (hk : zmk a = (100, n)) (hn : Nat.blt n 100000 = true) (hj : j < n) (hz : ∀ w, zme a j w = .int (zsg w)) (hv : s (a - 194) j = v) (kk : zm_wp d M np ls (.int (zsg v) :: st) (zmh h0 s) Q) : zm_wp d M pc ls (.int (nI j) :: .ref a :: st) (zmh h0 s) Q := by
  have g1 := Nat.le_of_ble_eq_true h1
  have g2 := Nat.blt_eq.mp h2
  have g3 := Nat.blt_eq.mp hn
  have hi := zmh_is (s := s) hS a 100 g1 g2 (by rw [hk])
  have hl := zmh_ln (s := s) hS a n g1 g2 (by rw [hk])
  exact wx_baload hc hi.2.1 hi.2.2 (by rw [hl]; exact hj) (by rw [hl]; omega) (by rw [zmh_at a j g1 g2, hz, hv]) kk
theorem wm_iast {x j v : Nat} (a n : Nat) (hS : zMS h0) (hc : zt_code M pc = some (.iastore, np, x, y, sw)) (h1 : Nat.ble 194 a = true) (h2 : Nat.blt a 207 = true) (hk : zmk a = (101, n)) (hn : Nat.blt n 100000 = true) (hj : j < n) (hz : zme a j v = .int (nI v)) (kk : zm_wp d M np ls st (zmh h0 (zup s (a - 194) j v)) Q) : zm_wp d M pc ls (.int (nI v) :: .int (nI j) :: .ref a :: st) (zmh h0 s) Q := by
  have g1 := Nat.le_of_ble_eq_true h1
  have g2 := Nat.blt_eq.mp h2
  have g3 := Nat.blt_eq.mp hn
  have hi := zmh_is (s := s) hS a 101 g1 g2 (by rw [hk])
  have hl := zmh_ln (s := s) hS a n g1 g2 (by rw [hk])
  refine wx_iastore hc hi (by rw [hl]; exact hj) (by rw [hl]; omega) ?_
  rw [zmh_put a j v _ g1 g2 hz]
  exact kk
theorem wm_bast {x j v : Nat} {w : Int32} (a n : Nat) (hS : zMS h0) (hc : zt_code M pc = some (.bastore, np, x, y, sw)) (h1 : Nat.ble 194 a = true) (h2 : Nat.blt a 207 = true) (hk : zmk a = (100, n)) (hn : Nat.blt n 100000 = true) (hj : j < n) (hw : w.toInt8.toInt32 = zsg v) (hz : zme a j v = .int (zsg v)) (kk : zm_wp d M np ls st (zmh h0 (zup s (a - 194) j v)) Q) : zm_wp d M pc ls (.int w :: .int (nI j) :: .ref a :: st) (zmh h0 s) Q := by
  have g1 := Nat.le_of_ble_eq_true h1
  have g2 := Nat.blt_eq.mp h2
  have g3 := Nat.blt_eq.mp hn
  have hi := zmh_is (s := s) hS a 100 g1 g2 (by rw [hk])
  have hl := zmh_ln (s := s) hS a n g1 g2 (by rw [hk])
  refine wx_bastore hc hi (by rw [hl]; exact hj) (by rw [hl]; omega) ?_
  rw [hw, zmh_put a j v _ g1 g2 hz]
  exact kk
end
