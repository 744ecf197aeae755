/-! the constructors: cells in the making -/
def zqc (A j : Nat) : Nat := if A = 0 ∧ j = 0 then 40 else if A = 2 ∧ j = 1 then 2 else if A = 7 ∧ j = 1 then 1 else if A = 10 ∧ j < 60 then j + 1 else 0
def zqs (A j : Nat) : Nat := if A = 0 ∧ j = 0 then 40 else if A = 3 ∧ j = 1 then 2 else 0
def zkV (xs : Nat → Int32) (a j : Nat) : Value := if a = 0 then .int (xs j) else if a < 194 then zcv zqc a j else if a < 207 then zme a j (zqs (a - 194) j) else .int 0
def zkT (L a : Nat) : Nat × Nat := if a = 0 then (101, L) else if a < 194 then zck a else if a < 207 then zmk a else (101, L)
def zkR (xs : Nat → Int32) (e : Nat → Option (Nat → Value)) (N a j : Nat) : Value := match e a with
  | some f => f j
  | none => if a < N then zkV xs a j else .int 0
def zkH (L : Nat) (xs : Nat → Int32) (e : Nat → Option (Nat → Value)) (N sl : Nat) : zm_H := (N, sl, fun a => if a < N then zkT L a else (101, L), zkR xs e N)
def eu (e : Nat → Option (Nat → Value)) (a : Nat) (f : Nat → Value) : Nat → Option (Nat → Value) := fun b => if b = a then some f else e b
def en (e : Nat → Option (Nat → Value)) (a : Nat) : Nat → Option (Nat → Value) := fun b => if b = a then none else e b
def fu (f : Nat → Value) (i : Nat) (v : Value) : Nat → Value := fun j => if j = i then v else f j
def e0 : Nat → Option (Nat → Value) := fun _ => none
theorem eu_s (e : Nat → Option (Nat → Value)) (a : Nat) (f : Nat → Value) : eu e a f a = some f := if_pos rfl
theorem eu_n (e : Nat → Option (Nat → Value)) {a b : Nat} (f : Nat → Value) (h : b ≠ a) : eu e a f b = e b := if_neg h
theorem eu_eu (e : Nat → Option (Nat → Value)) (a : Nat) (f g : Nat → Value) : eu (eu e a f) a g = eu e a g := by
  funext b
  simp only [eu]
  split <;> rfl
theorem en_eu (e : Nat → Option (Nat → Value)) (a : Nat) (f : Nat → Value) (h : e a = none) : en (eu e a f) a = e := by
  funext b
  simp only [en, eu]
  by_cases hb : b = a
  · rw [if_pos hb, hb, h]
  · rw [if_neg hb, if_neg hb]
section
variable {L N sl : Nat} {xs : Nat → Int32} {e : Nat → Option (Nat → Value)}
theorem zk_put {a i : Nat} {v : Value} {f : Nat → Value} (h : e a = some f) : zm_put (zkH L xs e N sl) a i v = zkH L xs (eu e a (fu f i v)) N sl := by
  have k : (fun b j => if b = a ∧ j = i then v else zkR xs e N b j) = zkR xs (eu e a (fu f i v)) N := by
    funext b j
    unfold zkR eu
    by_cases hb : b = a
    · subst hb
      rw [if_pos rfl, h]
      show (if b = b ∧ j = i then v else f j) = if j = i then v else f j
      by_cases hj : j = i
      · rw [if_pos ⟨rfl, hj⟩, if_pos hj]
      · rw [if_neg (fun z => hj z.2), if_neg hj]
    · rw [if_neg (fun z => hb z.1), if_neg hb]
  show (N, sl, (fun a => if a < N then zkT L a else (101, L)), (fun b j => if b = a ∧ j = i then v else zkR xs e N b j)) = _
  rw [k]
  rfl
theorem zk_mk {t n : Nat} {f : Nat → Value} (hT : zkT L N = (t, n)) : zm_mk (zkH L xs e N sl) t n f = zkH L xs (eu e N f) (N + 1) (sl + n) := by
  have k1 : (fun b => if b = N then (t, n) else (if b < N then zkT L b else (101, L))) = (fun a => if a < N + 1 then zkT L a else (101, L)) := by
    funext b
    by_cases hb : b = N
    · rw [if_pos hb, if_pos (by omega), hb, hT]
    · rw [if_neg hb]
      by_cases h2 : b < N
      · rw [if_pos h2, if_pos (by omega)]
      · rw [if_neg h2, if_neg (by omega)]
  have k2 : (fun b j => if b = N then f j else zkR xs e N b j) = zkR xs (eu e N f) (N + 1) := by
    funext b j
    unfold zkR eu
    by_cases hb : b = N
    · rw [if_pos hb, if_pos hb]
    · rw [if_neg hb, if_neg hb]
      cases e b with
      | some g => rfl
      | none =>
        show (if b < N then zkV xs b j else .int 0) = if b < N + 1 then zkV xs b j else .int 0
        by_cases h2 : b < N
        · rw [if_pos h2, if_pos (by omega)]
        · rw [if_neg h2, if_neg (by omega)]
  show (N + 1, sl + n, (fun b => if b = N then (t, n) else (if b < N then zkT L b else (101, L))), (fun b j => if b = N then f j else zkR xs e N b j)) = _
  rw [k1, k2]
  rfl
theorem zk_cm {a : Nat} {f : Nat → Value} (h : e a = some f) (ha : a < N) (hv : ∀ j, f j = zkV xs a j) : zkH L xs e N sl = zkH L xs (en e a) N sl := by
  have k : zkR xs e N = zkR xs (en e a) N := by
    funext b j
    unfold zkR en
    by_cases hb : b = a
    · subst hb
      rw [if_pos rfl, h]
      show f j = if b < N then zkV xs b j else .int 0
      rw [if_pos ha, hv]
    · rw [if_neg hb]
  unfold zkH
  rw [k]
theorem zk_new {t n : Nat} {f : Nat → Value} (hN : e N = none) (hT : zkT L N = (t, n)) (hv : ∀ j, f j = zkV xs N j) : zm_mk (zkH L xs e N sl) t n f = zkH L xs e (N + 1) (sl + n) := by
  rw [zk_mk hT, zk_cm (eu_s e N f) (by omega) hv, en_eu e N f hN]
theorem zk_is {a t : Nat} (h1 : 0 < a) (h2 : a < N) (h3 : (zkT L a).1 = t) : zm_is (zkH L xs e N sl) a t := by
  refine ⟨h1, h2, ?_⟩
  show (if a < N then zkT L a else (101, L)).1 = t
  rw [if_pos h2]
  exact h3
theorem zk_at {a : Nat} {f : Nat → Value} (h : e a = some f) (i : Nat) : zm_at (zkH L xs e N sl) a i = f i := by
  show zkR xs e N a i = f i
  unfold zkR
  rw [h]
theorem zk_ln {a n : Nat} (h : a < N) (h2 : (zkT L a).2 = n) : zm_ln (zkH L xs e N sl) a = n := by
  show (if a < N then zkT L a else (101, L)).2 = n
  rw [if_pos h]
  exact h2
theorem zk_tg {a n : Nat} (h : a < N) (h2 : (zkT L a).1 = n) : zm_tg (zkH L xs e N sl) a = n := by
  show (if a < N then zkT L a else (101, L)).1 = n
  rw [if_pos h]
  exact h2
end
section
variable {d M pc np x y N sl L : Nat} {sw : List (Int × Nat)} {ls st : List Value} {xs : Nat → Int32} {e : Nat → Option (Nat → Value)} {Q : Option Value → zm_H → Prop}
theorem wk_put {o a : Nat} {v : Value} {f : Nat → Value} (hc : zt_code M pc = some (.putfield o, np, x, y, sw)) (he : e a = some f) (h1 : 0 < a) (h2 : a < N) (h3 : (zkT L a).1 = x) (hf : zm_fit (zt_ty x y) v = true) (kk : zm_wp d M np ls st (zkH L xs (eu e a (fu f y v)) N sl) Q) : zm_wp d M pc ls (v :: .ref a :: st) (zkH L xs e N sl) Q := by
  refine wx_putfield hc (zk_is h1 h2 h3) hf ?_
  rw [zk_put he]
  exact kk
theorem wk_get {o a : Nat} {v : Value} {f : Nat → Value} (hc : zt_code M pc = some (.getfield o, np, x, y, sw)) (he : e a = some f) (h1 : 0 < a) (h2 : a < N) (h3 : (zkT L a).1 = x) (hv : f y = v) (kk : zm_wp d M np ls (v :: st) (zkH L xs e N sl) Q) : zm_wp d M pc ls (.ref a :: st) (zkH L xs e N sl) Q :=
  wx_getfield hc (zk_is h1 h2 h3) ((zk_at he y).trans hv) kk
theorem wk_ast {a b j t n : Nat} {f : Nat → Value} (hc : zt_code M pc = some (.aastore, np, x, y, sw)) (he : e a = some f) (h1 : 0 < a) (h2 : a < N) (h3 : zkT L a = (t, n)) (ht : zm_ro t = true) (hb1 : 0 < b) (hb2 : b < N) (hb3 : (zkT L b).1 = t - 200) (hj : j < n) (hn : n < 2 ^ 31) (kk : zm_wp d M np ls st (zkH L xs (eu e a (fu f j (.ref b))) N sl) Q) : zm_wp d M pc ls (.ref b :: .int (nI j) :: .ref a :: st) (zkH L xs e N sl) Q := by
  have hl : zm_ln (zkH L xs e N sl) a = n := zk_ln h2 (by rw [h3])
  refine wx_aastore hc (zk_is h1 h2 (by rw [h3])) ht (zk_is hb1 hb2 hb3) (by rw [hl]; exact hj) (by rw [hl]; exact hn) ?_
  rw [zk_put he]
  exact kk
theorem wk_len {a t n : Nat} (hc : zt_code M pc = some (.arraylength, np, x, y, sw)) (h2 : a < N) (h3 : zkT L a = (t, n)) (ht : (zt_at t).isSome = true) (kk : zm_wp d M np ls (.int (nI n) :: st) (zkH L xs e N sl) Q) : zm_wp d M pc ls (.ref a :: st) (zkH L xs e N sl) Q :=
  wx_arraylength hc h2 (by rw [zk_tg h2 (by rw [h3])]; exact ht) (zk_ln h2 (by rw [h3])) kk
theorem wk_mk {o : Nat} (hc : zt_code M pc = some (.new o, np, x, y, sw)) (hT : zkT L N = (x, y)) (kk : zm_wp d M np ls (.ref N :: st) (zkH L xs (eu e N (zt_df x)) (N + 1) (sl + y)) Q) : zm_wp d M pc ls st (zkH L xs e N sl) Q := by
  refine wx_new hc ?_
  rw [zk_mk hT]
  exact kk
theorem wk_new {o : Nat} (hc : zt_code M pc = some (.new o, np, x, y, sw)) (hN : e N = none) (hT : zkT L N = (x, y)) (hv : ∀ j, zt_df x j = zkV xs N j) (kk : zm_wp d M np ls (.ref N :: st) (zkH L xs e (N + 1) (sl + y)) Q) : zm_wp d M pc ls st (zkH L xs e N sl) Q := by
  refine wx_new hc ?_
  rw [zk_new hN hT hv]
  exact kk
theorem wk_ana {o k : Nat} (hc : zt_code M pc = some (.anewarray o, np, x, y, sw)) (hk : k ≤ 60000000) (hT : zkT L N = (x, k)) (kk : zm_wp d M np ls (.ref N :: st) (zkH L xs (eu e N (fun _ => zm_df x)) (N + 1) (sl + k)) Q) : zm_wp d M pc ls (.int (nI k) :: st) (zkH L xs e N sl) Q := by
  refine wx_anewarray k hc (znI_ge (by omega)) (nI_clamp (by omega)) hk ?_
  rw [zk_mk hT]
  exact kk
theorem wk_na {o : ArrayType} {k : Nat} (hc : zt_code M pc = some (.newarray o, np, x, y, sw)) (hk : k ≤ 60000000) (hN : e N = none) (hT : zkT L N = (x, k)) (hv : ∀ j : Nat, zm_df x = zkV xs N j) (kk : zm_wp d M np ls (.ref N :: st) (zkH L xs e (N + 1) (sl + k)) Q) : zm_wp d M pc ls (.int (nI k) :: st) (zkH L xs e N sl) Q := by
  refine wx_newarray k hc (znI_ge (by omega)) (nI_clamp (by omega)) hk ?_
  rw [zk_new hN hT hv]
  exact kk
theorem wk_nx {o : ArrayType} {k : Nat} (hc : zt_code M pc = some (.newarray o, np, x, y, sw)) (hk : k ≤ 60000000) (hT : zkT L N = (x, k)) (kk : zm_wp d M np ls (.ref N :: st) (zkH L xs (eu e N (fun _ => zm_df x)) (N + 1) (sl + k)) Q) : zm_wp d M pc ls (.int (nI k) :: st) (zkH L xs e N sl) Q := by
  refine wx_newarray k hc (znI_ge (by omega)) (nI_clamp (by omega)) hk ?_
  rw [zk_mk hT]
  exact kk
end
theorem cI_R {d a : Nat} {h : zm_H} {Q : Option Value → zm_H → Prop} (hq : Q none h) : zm_wc (d + 1) mR_init [.ref a] h Q := by
  refine zm_enter (Nat.le_of_ble_eq_true rfl) ?_
  show zm_wp _ 7 0 [.ref a] [] h Q
  refine wx_aload_n kc7_0 rfl rfl ?_
  refine wx_objinit kc7_1 rfl ?_
  exact wx_return kc7_4 rfl hq
theorem cI_S {d a : Nat} {h : zm_H} {Q : Option Value → zm_H → Prop} (hq : Q none h) : zm_wc (d + 1) mS_init [.ref a] h Q := by
  refine zm_enter (Nat.le_of_ble_eq_true rfl) ?_
  show zm_wp _ 15 0 [.ref a] [] h Q
  refine wx_aload_n kc15_0 rfl rfl ?_
  refine wx_objinit kc15_1 rfl ?_
  exact wx_return kc15_4 rfl hq
theorem cI_F {d a : Nat} {v : Int32} {h : zm_H} {Q : Option Value → zm_H → Prop} (hi : zm_is h a 5) (hq : Q none (zm_put h a 0 (.int v))) : zm_wc (d + 1) mF_init [.ref a, .int v] h Q := by
  refine zm_enter (Nat.le_of_ble_eq_true rfl) ?_
  show zm_wp _ 26 0 [.ref a, .int v] [] h Q
  refine wx_aload_n kc26_0 rfl rfl ?_
  refine wx_objinit kc26_1 rfl ?_
  refine wx_aload_n kc26_4 rfl rfl ?_
  refine wx_iload_n kc26_5 rfl rfl ?_
  refine wx_putfield kc26_6 hi rfl ?_
  exact wx_return kc26_9 rfl hq
theorem zkT_c (L : Nat) {a : Nat} (h1 : 1 ≤ a) (h2 : a < 194) : zkT L a = zck a := by
  unfold zkT
  rw [if_neg (by omega), if_pos h2]
theorem zkV_c (xs : Nat → Int32) {a : Nat} (h1 : 1 ≤ a) (h2 : a < 194) (j : Nat) : zkV xs a j = zcv zqc a j := by
  unfold zkV
  rw [if_neg (by omega), if_pos h2]
theorem cI_T {d L sl : Nat} {xs : Nat → Int32} {e : Nat → Option (Nat → Value)} {Q : Option Value → zm_H → Prop} {f : Nat → Value} (he : e 2 = some f) (hn : e 3 = none) (hq : Q none (zkH L xs (eu e 2 (fu f 0 (.ref 3))) 4 (sl + 1200))) : zm_wc (d + 1) mT_init [.ref 2] (zkH L xs e 3 sl) Q := by
  refine zm_enter (Nat.le_of_ble_eq_true rfl) ?_
  show zm_wp _ 19 0 [.ref 2] [] _ Q
  refine wx_aload_n kc19_0 rfl rfl ?_
  refine wx_objinit kc19_1 rfl ?_
  refine wx_aload_n kc19_4 rfl rfl ?_
  refine wx_sipush (nI 1200) kc19_5 (by decide) ?_
  refine wk_na kc19_8 (by decide) hn rfl (fun j => ?_) ?_
  · show Value.int 0 = zcv zqc 3 j
    unfold zcv
    by_cases hj : j < 1200
    · rw [show zia 3 j = some (19, 1200 * 3 + j) from if_pos hj]
      rfl
    · rw [show zia 3 j = none from if_neg hj]
      rfl
  refine wk_put kc19_10 he (by decide) (by decide) rfl rfl ?_
  exact wx_return kc19_13 rfl hq
def zgA (i : Nat) : Nat → Value := fun j => if j < i then .ref (6 + j) else .null
theorem zgA_s (i : Nat) : fu (zgA i) i (.ref (6 + i)) = zgA (i + 1) := by
  funext j
  unfold fu zgA
  by_cases h1 : j = i
  · rw [if_pos h1, if_pos (by omega), h1]
  · rw [if_neg h1]
    by_cases h2 : j < i
    · rw [if_pos h2, if_pos (by omega)]
    · rw [if_neg h2, if_neg (by omega)]
theorem zkF_v (xs : Nat → Int32) {f : Nat} (h1 : 2 ≤ f) (h2 : f ≤ 40) (j : Nat) : fu (zt_df 5) 0 (.int (nI f)) j = zkV xs (5 + f) j := by
  rw [zkV_c xs (by omega) (by omega)]
  unfold zcv zia
  rw [if_neg (by omega), if_neg (by omega), if_pos (by omega), Nat.add_sub_cancel_left]
  have c2 : zqc 2 f = 0 := by
    unfold zqc
    rw [if_neg (by omega), if_neg (by omega), if_neg (by omega), if_neg (by omega)]
  have c7 : zqc 7 f = 0 := by
    unfold zqc
    rw [if_neg (by omega), if_neg (by omega), if_neg (by omega), if_neg (by omega)]
  have cc : zcc (5 + f) 0 = .int (nI f) := by
    unfold zcc
    rw [if_neg (by omega), if_neg (by omega), if_pos (by omega), Nat.add_sub_cancel_left]
    rfl
  have cn : ∀ n, zcc (5 + f) (n + 9) = .int 0 := fun n => by
    unfold zcc
    rw [if_neg (by omega), if_neg (by omega), if_pos (by omega)]
    rfl
  match j with
  | 0 => exact cc.symm
  | 1 =>
    show Value.int 0 = zdc 2 (zqc 2 f)
    rw [c2]
    rfl
  | 2 => rfl
  | 3 => rfl
  | 4 => rfl
  | 5 => rfl
  | 6 =>
    show Value.null = zdc 7 (zqc 7 f)
    rw [c7]
    rfl
  | 7 => rfl
  | 8 => rfl
  | n + 9 => exact (cn n).symm
theorem lI_L {d L : Nat} {xs : Nat → Int32} {Q : Option Value → zm_H → Prop} {F4 : Nat → Value} (h4 : F4 0 = .ref 5) : ∀ (n i sl : Nat) (e : Nat → Option (Nat → Value)), i + n = 40 → 1 ≤ i → e 4 = some F4 → e 5 = some (zgA i) → (∀ a, 6 ≤ a → e a = none) → Q none (zkH L xs (eu e 5 (zgA 40)) 46 (sl + 9 * n)) → zm_wp (d + 1) 1 56 [.ref 4, .int (nI i)] [] (zkH L xs e (6 + i) sl) Q := by
  intro n
  induction n with
  | zero =>
    intro i sl e hi h1 he4 he5 hn hq
    obtain rfl : i = 40 := by omega
    refine wx_iload_n kc1_56 rfl rfl ?_
    refine wx_aload_n kc1_57 rfl rfl ?_
    refine wk_get kc1_58 he4 (by decide) (by decide) rfl h4 ?_
    refine wk_len (t := 205) (n := 40) kc1_61 (by decide) rfl rfl ?_
    refine wn_icmp_ge kc1_62 (by decide) (by decide) (fun _ => ?_) (fun z => absurd z (by omega))
    refine wx_return kc1_87 rfl ?_
    have ee : eu e 5 (zgA 40) = e := by
      funext b
      unfold eu
      by_cases hb : b = 5
      · rw [if_pos hb, hb, he5]
      · rw [if_neg hb]
    rw [ee] at hq
    exact hq
  | succ n ih =>
    intro i sl e hi h1 he4 he5 hn hq
    refine wx_iload_n kc1_56 rfl rfl ?_
    refine wx_aload_n kc1_57 rfl rfl ?_
    refine wk_get kc1_58 he4 (by decide) (by omega) rfl h4 ?_
    refine wk_len (t := 205) (n := 40) kc1_61 (by omega) rfl rfl ?_
    refine wn_icmp_ge kc1_62 (by omega) (by decide) (fun z => absurd z (by omega)) (fun _ => ?_)
    refine wx_aload_n kc1_65 rfl rfl ?_
    refine wk_get kc1_66 he4 (by decide) (by omega) rfl h4 ?_
    refine wx_iload_n kc1_69 rfl rfl ?_
    have hT : zkT L (6 + i) = (5, 9) := by
      rw [zkT_c L (by omega) (by omega)]
      unfold zck
      rw [if_neg (by omega), if_pos (by omega)]
    refine wk_mk kc1_70 hT ?_
    refine wx_dup kc1_73 rfl ?_
    refine wx_iload_n kc1_74 rfl rfl ?_
    refine wx_iconst (nI 1) kc1_75 (by decide) ?_
    refine wn_iadd (i + 1) kc1_76 rfl ?_
    refine wx_special kc1_77 rfl rfl rfl ?_
    refine cI_F (zk_is (by omega) (by omega) (by rw [hT])) ?_
    rw [zk_put (eu_s e (6 + i) (zt_df 5)), eu_eu, zk_cm (eu_s e (6 + i) _) (by omega) (fun j => (zkF_v xs (f := i + 1) (by omega) (by omega) j).trans (by rw [show 5 + (i + 1) = 6 + i by omega])), en_eu e (6 + i) _ (hn _ (by omega))]
    show zm_wp _ 1 80 _ [.ref (6 + i), .int (nI i), .ref 5] _ _
    refine wk_ast (t := 205) (n := 40) kc1_80 he5 (by decide) (by omega) rfl rfl (by omega) (by omega) (by rw [hT]) (by omega) (by decide) ?_
    rw [zgA_s]
    refine wn_iinc (i + 1) (ls' := [.ref 4, .int (nI (i + 1))]) kc1_81 rfl rfl rfl rfl rfl ?_
    refine wx_goto kc1_84 ?_
    have hne : ∀ a, 6 ≤ a → eu e 5 (zgA (i + 1)) a = none := fun a ha => by
      rw [eu_n e _ (by omega)]
      exact hn a ha
    have hk := ih (i + 1) (sl + 9) (eu e 5 (zgA (i + 1))) (by omega) (by omega) ((eu_n e _ (by decide)).trans he4) (eu_s e 5 _) hne
    rw [eu_eu, show sl + 9 + 9 * n = sl + 9 * (n + 1) by omega] at hk
    exact hk hq
theorem zkF_1 (xs : Nat → Int32) (j : Nat) : fu (fu (fu (fu (fu (fu (fu (fu (fu (zt_df 5) 0 (.int (nI 1))) 1 (.int (nI 2))) 2 (.int (nI 0))) 3 (.int (nI 0))) 4 (.int (nI 0))) 5 (.int (nI 0))) 6 .null) 8 (.int (nI 0))) 6 (.ref 6) j = zkV xs 6 j := by
  match j with
  | 0 => rfl
  | 1 => rfl
  | 2 => rfl
  | 3 => rfl
  | 4 => rfl
  | 5 => rfl
  | 6 => rfl
  | 7 => rfl
  | 8 => rfl
  | n + 9 => rfl
theorem zkL_5 (xs : Nat → Int32) (j : Nat) : zgA 40 j = zkV xs 5 j := rfl
theorem cI_B {d L sl : Nat} {xs : Nat → Int32} {e : Nat → Option (Nat → Value)} {Q : Option Value → zm_H → Prop} {N : Nat} {f : Nat → Value} (he : e 6 = some f) (hN : 6 < N) (hq : Q none (zkH L xs (eu e 6 (fu (fu (fu (fu (fu (fu (fu f 1 (.int (nI 2))) 2 (.int (nI 0))) 3 (.int (nI 0))) 4 (.int (nI 0))) 5 (.int (nI 0))) 6 .null) 8 (.int (nI 0)))) N sl)) : zm_wc (d + 1) mF_begin [.ref 6, .int (nI 2)] (zkH L xs e N sl) Q := by
  refine zm_enter (Nat.le_of_ble_eq_true rfl) ?_
  show zm_wp _ 27 0 [.ref 6, .int (nI 2)] [] _ Q
  refine wx_aload_n kc27_0 rfl rfl ?_
  refine wx_iload_n kc27_1 rfl rfl ?_
  refine wk_put kc27_2 he (by decide) hN rfl rfl ?_
  refine wx_aload_n kc27_5 rfl rfl ?_
  refine wx_iconst (nI 0) kc27_6 (by decide) ?_
  refine wk_put kc27_7 (eu_s e 6 _) (by decide) hN rfl rfl ?_
  rw [eu_eu]
  refine wx_aload_n kc27_10 rfl rfl ?_
  refine wx_iconst (nI 0) kc27_11 (by decide) ?_
  refine wk_put kc27_12 (eu_s e 6 _) (by decide) hN rfl rfl ?_
  rw [eu_eu]
  refine wx_aload_n kc27_15 rfl rfl ?_
  refine wx_iconst (nI 0) kc27_16 (by decide) ?_
  refine wk_put kc27_17 (eu_s e 6 _) (by decide) hN rfl rfl ?_
  rw [eu_eu]
  refine wx_aload_n kc27_20 rfl rfl ?_
  refine wx_iconst (nI 0) kc27_21 (by decide) ?_
  refine wk_put kc27_22 (eu_s e 6 _) (by decide) hN rfl rfl ?_
  rw [eu_eu]
  refine wx_aload_n kc27_25 rfl rfl ?_
  refine wx_aconst_null kc27_26 ?_
  refine wk_put kc27_27 (eu_s e 6 _) (by decide) hN rfl rfl ?_
  rw [eu_eu]
  refine wx_aload_n kc27_30 rfl rfl ?_
  refine wx_iconst (nI 0) kc27_31 (by decide) ?_
  refine wk_put kc27_32 (eu_s e 6 _) (by decide) hN rfl rfl ?_
  rw [eu_eu]
  exact wx_return kc27_35 rfl hq
theorem cI_L {d L sl : Nat} {xs : Nat → Int32} {e : Nat → Option (Nat → Value)} {Q : Option Value → zm_H → Prop} (he : e 4 = some (zt_df 0)) (hn : ∀ a, 5 ≤ a → e a = none) (hq : Q none (zkH L xs (eu e 4 (fu (fu (zt_df 0) 0 (.ref 5)) 1 (.ref 6))) 46 (sl + 400))) : zm_wc (d + 2) mL_init [.ref 4] (zkH L xs e 5 sl) Q := by
  refine zm_enter (Nat.le_of_ble_eq_true rfl) ?_
  show zm_wp _ 1 0 [.ref 4, zm_un] [] _ Q
  refine wx_aload_n kc1_0 rfl rfl ?_
  refine wx_objinit kc1_1 rfl ?_
  refine wx_aload_n kc1_4 rfl rfl ?_
  refine wx_bipush (nI 40) kc1_5 (by decide) ?_
  refine wk_ana kc1_7 (by decide) rfl ?_
  refine wk_put kc1_10 ((eu_n e _ (by decide)).trans he) (by decide) (by decide) rfl rfl ?_
  obtain ⟨e1, h1⟩ : ∃ e1, e1 = eu (eu e 5 (fun _ => zm_df 205)) 4 (fu (zt_df 0) 0 (.ref 5)) := ⟨_, rfl⟩
  rw [← h1]
  have k4 : e1 4 = some (fu (zt_df 0) 0 (.ref 5)) := by rw [h1]; exact eu_s _ _ _
  have k5 : e1 5 = some (zgA 0) := by
    rw [h1, eu_n _ _ (by decide), eu_s]
    exact congrArg some (funext (fun j => (if_neg (Nat.not_lt_zero j)).symm))
  have kn : ∀ a, 6 ≤ a → e1 a = none := fun a ha => by
    rw [h1, eu_n _ _ (by omega), eu_n _ _ (by omega)]
    exact hn a (by omega)
  refine wx_aload_n kc1_13 rfl rfl ?_
  refine wk_mk kc1_14 rfl ?_
  refine wx_dup kc1_17 rfl ?_
  refine wx_iconst (nI 1) kc1_18 (by decide) ?_
  refine wx_special kc1_19 rfl rfl rfl ?_
  refine cI_F (zk_is (by decide) (by decide) rfl) ?_
  rw [zk_put (eu_s e1 6 (zt_df 5)), eu_eu]
  show zm_wp _ 1 22 _ [.ref 6, .ref 4] _ _
  refine wk_put kc1_22 ((eu_n e1 _ (by decide)).trans k4) (by decide) (by decide) rfl rfl ?_
  obtain ⟨e2, h2⟩ : ∃ e2, e2 = eu e1 4 (fu (fu (zt_df 0) 0 (.ref 5)) 1 (.ref 6)) := ⟨_, rfl⟩
  have hcm : eu (eu e1 6 (fu (zt_df 5) 0 (.int (nI 1)))) 4 (fu (fu (zt_df 0) 0 (.ref 5)) 1 (.ref 6)) = eu e2 6 (fu (zt_df 5) 0 (.int (nI 1))) := by
    rw [h2]
    funext b
    simp only [eu]
    by_cases hb : b = 4
    · rw [if_pos hb, if_neg (by omega), if_pos hb]
    · rw [if_neg hb, if_neg hb]
  rw [hcm]
  have m4 : e2 4 = some (fu (fu (zt_df 0) 0 (.ref 5)) 1 (.ref 6)) := by rw [h2]; exact eu_s _ _ _
  have m5 : e2 5 = some (zgA 0) := by rw [h2, eu_n _ _ (by decide)]; exact k5
  have mn : ∀ a, 6 ≤ a → e2 a = none := fun a ha => by
    rw [h2, eu_n _ _ (by omega)]
    exact kn a ha
  refine wx_aload_n kc1_25 rfl rfl ?_
  refine wk_get (v := .ref 6) kc1_26 ((eu_n e2 _ (by decide)).trans m4) (by decide) (by decide) rfl rfl ?_
  refine wx_iconst (nI 2) kc1_29 (by decide) ?_
  refine wx_virtual kc1_30 rfl (zk_is (by decide) (by decide) rfl) rfl ?_
  refine cI_B (eu_s e2 6 _) (by decide) ?_
  rw [eu_eu]
  show zm_wp _ 1 33 _ [] _ _
  refine wx_aload_n kc1_33 rfl rfl ?_
  refine wk_get (v := .ref 6) kc1_34 ((eu_n e2 _ (by decide)).trans m4) (by decide) (by decide) rfl rfl ?_
  refine wx_aload_n kc1_37 rfl rfl ?_
  refine wk_get (v := .ref 6) kc1_38 ((eu_n e2 _ (by decide)).trans m4) (by decide) (by decide) rfl rfl ?_
  refine wk_put kc1_41 (eu_s e2 6 _) (by decide) (by decide) rfl rfl ?_
  rw [eu_eu, zk_cm (eu_s e2 6 _) (by decide) (zkF_1 xs), en_eu e2 6 _ (mn 6 (by decide))]
  refine wx_aload_n kc1_44 rfl rfl ?_
  refine wk_get (v := .ref 5) kc1_45 m4 (by decide) (by decide) rfl rfl ?_
  refine wx_iconst (nI 0) kc1_48 (by decide) ?_
  refine wx_aload_n kc1_49 rfl rfl ?_
  refine wk_get (v := .ref 6) kc1_50 m4 (by decide) (by decide) rfl rfl ?_
  refine wk_ast (t := 205) (n := 40) kc1_53 m5 (by decide) (by decide) rfl rfl (by decide) (by decide) rfl (by decide) (by decide) ?_
  rw [zgA_s 0]
  refine wx_iconst (nI 1) kc1_54 (by decide) ?_
  refine wx_istore_n (ls' := [.ref 4, .int (nI 1)]) kc1_55 rfl rfl rfl rfl ?_
  refine lI_L (F4 := fu (fu (zt_df 0) 0 (.ref 5)) 1 (.ref 6)) rfl 39 1 _ (eu e2 5 (zgA 1)) rfl (by decide) ((eu_n e2 _ (by decide)).trans m4) (eu_s e2 5 _) (fun a ha => (eu_n e2 _ (by omega)).trans (mn a ha)) ?_
  rw [eu_eu, zk_cm (eu_s e2 5 _) (by decide) (zkL_5 xs)]
  have hend : en (eu e2 5 (zgA 40)) 5 = eu e 4 (fu (fu (zt_df 0) 0 (.ref 5)) 1 (.ref 6)) := by
    rw [h2, h1]
    funext b
    simp only [en, eu]
    by_cases hb : b = 5
    · rw [if_pos hb, if_neg (by omega), hb, hn 5 (by decide)]
    · rw [if_neg hb, if_neg hb]
      by_cases hb4 : b = 4
      · rw [if_pos hb4, if_pos hb4]
      · rw [if_neg hb4, if_neg hb4, if_neg hb4, if_neg hb]
  rw [hend]
  exact hq
def zgR (i : Nat) : Nat → Value := fun j => if j < i then .ref (48 + j) else .null
theorem zgR_s (i : Nat) : fu (zgR i) i (.ref (48 + i)) = zgR (i + 1) := by
  funext j
  unfold fu zgR
  by_cases h1 : j = i
  · rw [if_pos h1, if_pos (by omega), h1]
  · rw [if_neg h1]
    by_cases h2 : j < i
    · rw [if_pos h2, if_pos (by omega)]
    · rw [if_neg h2, if_neg (by omega)]
theorem zkR_v (xs : Nat → Int32) {r : Nat} (h1 : 1 ≤ r) (h2 : r ≤ 60) (j : Nat) : zt_df 1 j = zkV xs (47 + r) j := by
  rw [zkV_c xs (by omega) (by omega)]
  unfold zcv zia
  rw [if_neg (by omega), if_neg (by omega), if_neg (by omega), if_neg (by omega), if_pos (by omega), Nat.add_sub_cancel_left]
  have cn : ∀ n, zcc (47 + r) (n + 4) = .int 0 := fun n => by
    unfold zcc
    rw [if_neg (by omega), if_neg (by omega), if_neg (by omega), if_neg (by omega), if_pos (by omega)]
  match j with
  | 0 => rfl
  | 1 => rfl
  | 2 => rfl
  | 3 => rfl
  | n + 4 => exact (cn n).symm
theorem zkQ_47 (xs : Nat → Int32) (j : Nat) : zgR 60 j = zkV xs 47 j := by
  rw [zkV_c xs (by decide) (by decide)]
  unfold zgR zcv
  by_cases hj : j < 60
  · rw [if_pos hj, show zia 47 j = some (10, j) from if_pos hj]
    show Value.ref (48 + j) = zrR (zqc 10 j)
    have : zqc 10 j = j + 1 := by
      unfold zqc
      rw [if_neg (by omega), if_neg (by omega), if_neg (by omega), if_pos ⟨rfl, hj⟩]
    rw [this]
    show Value.ref (48 + j) = Value.ref (j + 48)
    rw [Nat.add_comm]
  · rw [if_neg hj, show zia 47 j = none from if_neg hj]
    rfl
theorem lI_Q {d L : Nat} {xs : Nat → Int32} {Q : Option Value → zm_H → Prop} {F : Nat → Value} (h4 : F 0 = .ref 47) : ∀ (n i sl : Nat) (e : Nat → Option (Nat → Value)), i + n = 60 → e 46 = some F → e 47 = some (zgR i) → (∀ a, 48 ≤ a → e a = none) → Q none (zkH L xs (eu e 47 (zgR 60)) 108 (sl + 4 * n)) → zm_wp (d + 1) 10 15 [.ref 46, .int (nI i)] [] (zkH L xs e (48 + i) sl) Q := by
  intro n
  induction n with
  | zero =>
    intro i sl e hi he4 he5 hn hq
    obtain rfl : i = 60 := by omega
    refine wx_iload_n kc10_15 rfl rfl ?_
    refine wx_aload_n kc10_16 rfl rfl ?_
    refine wk_get kc10_17 he4 (by decide) (by decide) rfl h4 ?_
    refine wk_len (t := 201) (n := 60) kc10_20 (by decide) rfl rfl ?_
    refine wn_icmp_ge kc10_21 (by decide) (by decide) (fun _ => ?_) (fun z => absurd z (by omega))
    refine wx_return kc10_43 rfl ?_
    have ee : eu e 47 (zgR 60) = e := by
      funext b
      unfold eu
      by_cases hb : b = 47
      · rw [if_pos hb, hb, he5]
      · rw [if_neg hb]
    rw [ee] at hq
    exact hq
  | succ n ih =>
    intro i sl e hi he4 he5 hn hq
    refine wx_iload_n kc10_15 rfl rfl ?_
    refine wx_aload_n kc10_16 rfl rfl ?_
    refine wk_get kc10_17 he4 (by decide) (by omega) rfl h4 ?_
    refine wk_len (t := 201) (n := 60) kc10_20 (by omega) rfl rfl ?_
    refine wn_icmp_ge kc10_21 (by omega) (by decide) (fun z => absurd z (by omega)) (fun _ => ?_)
    refine wx_aload_n kc10_24 rfl rfl ?_
    refine wk_get kc10_25 he4 (by decide) (by omega) rfl h4 ?_
    refine wx_iload_n kc10_28 rfl rfl ?_
    have hT : zkT L (48 + i) = (1, 4) := by
      rw [zkT_c L (by omega) (by omega)]
      unfold zck
      rw [if_neg (by omega), if_neg (by omega), if_pos (by omega)]
    refine wk_new kc10_29 (hn _ (by omega)) hT (fun j => (zkR_v xs (r := i + 1) (by omega) (by omega) j).trans (by rw [show 47 + (i + 1) = 48 + i by omega])) ?_
    refine wx_dup kc10_32 rfl ?_
    refine wx_special kc10_33 rfl rfl rfl ?_
    refine cI_R ?_
    show zm_wp _ 10 36 _ [.ref (48 + i), .int (nI i), .ref 47] _ _
    refine wk_ast (t := 201) (n := 60) kc10_36 he5 (by decide) (by omega) rfl rfl (by omega) (by omega) (by rw [hT]) (by omega) (by decide) ?_
    rw [zgR_s]
    refine wn_iinc (i + 1) (ls' := [.ref 46, .int (nI (i + 1))]) kc10_37 rfl rfl rfl rfl rfl ?_
    refine wx_goto kc10_40 ?_
    have hne : ∀ a, 48 ≤ a → eu e 47 (zgR (i + 1)) a = none := fun a ha => by
      rw [eu_n e _ (by omega)]
      exact hn a ha
    have hk := ih (i + 1) (sl + 4) (eu e 47 (zgR (i + 1))) (by omega) ((eu_n e _ (by decide)).trans he4) (eu_s e 47 _) hne
    rw [eu_eu, show sl + 4 + 4 * n = sl + 4 * (n + 1) by omega] at hk
    exact hk hq
theorem cI_Q {d L sl : Nat} {xs : Nat → Int32} {e : Nat → Option (Nat → Value)} {Q : Option Value → zm_H → Prop} (he : e 46 = some (zt_df 2)) (hn : ∀ a, 47 ≤ a → e a = none) (hq : Q none (zkH L xs (eu e 46 (fu (zt_df 2) 0 (.ref 47))) 108 (sl + 300))) : zm_wc (d + 2) mQ_init [.ref 46] (zkH L xs e 47 sl) Q := by
  refine zm_enter (Nat.le_of_ble_eq_true rfl) ?_
  show zm_wp _ 10 0 [.ref 46, zm_un] [] _ Q
  refine wx_aload_n kc10_0 rfl rfl ?_
  refine wx_objinit kc10_1 rfl ?_
  refine wx_aload_n kc10_4 rfl rfl ?_
  refine wx_bipush (nI 60) kc10_5 (by decide) ?_
  refine wk_ana kc10_7 (by decide) rfl ?_
  refine wk_put kc10_10 ((eu_n e _ (by decide)).trans he) (by decide) (by decide) rfl rfl ?_
  obtain ⟨e1, h1⟩ : ∃ e1, e1 = eu (eu e 47 (fun _ => zm_df 201)) 46 (fu (zt_df 2) 0 (.ref 47)) := ⟨_, rfl⟩
  rw [← h1]
  have k4 : e1 46 = some (fu (zt_df 2) 0 (.ref 47)) := by rw [h1]; exact eu_s _ _ _
  have k5 : e1 47 = some (zgR 0) := by
    rw [h1, eu_n _ _ (by decide), eu_s]
    exact congrArg some (funext (fun j => (if_neg (Nat.not_lt_zero j)).symm))
  have kn : ∀ a, 48 ≤ a → e1 a = none := fun a ha => by
    rw [h1, eu_n _ _ (by omega), eu_n _ _ (by omega)]
    exact hn a (by omega)
  refine wx_iconst (nI 0) kc10_13 (by decide) ?_
  refine wx_istore_n (ls' := [.ref 46, .int (nI 0)]) kc10_14 rfl rfl rfl rfl ?_
  refine lI_Q (F := fu (zt_df 2) 0 (.ref 47)) rfl 60 0 _ e1 rfl k4 k5 kn ?_
  rw [zk_cm (eu_s e1 47 _) (by decide) (zkQ_47 xs)]
  have hend : en (eu e1 47 (zgR 60)) 47 = eu e 46 (fu (zt_df 2) 0 (.ref 47)) := by
    rw [h1]
    funext b
    simp only [en, eu]
    by_cases hb : b = 47
    · rw [if_pos hb, if_neg (by omega), hb, hn 47 (by decide)]
    · rw [if_neg hb, if_neg hb]
      by_cases hb4 : b = 46
      · rw [if_pos hb4, if_pos hb4]
      · rw [if_neg hb4, if_neg hb4, if_neg hb]
  rw [hend]
  exact hq
def zgS (w i : Nat) : Nat → Value := fun j => if j < i then .ref (110 + 43 * w + j) else .null
theorem zgS_s (w i : Nat) : fu (zgS w i) i (.ref (110 + 43 * w + i)) = zgS w (i + 1) := by
  funext j
  unfold fu zgS
  by_cases h1 : j = i
  · rw [if_pos h1, if_pos (by omega), h1]
  · rw [if_neg h1]
    by_cases h2 : j < i
    · rw [if_pos h2, if_pos (by omega)]
    · rw [if_neg h2, if_neg (by omega)]
theorem zkS_v (xs : Nat → Int32) {w i : Nat} (hw : w ≤ 1) (hi : i < 41) (j : Nat) : zt_df 3 j = zkV xs (110 + 43 * w + i) j := by
  rw [zkV_c xs (by omega) (by omega)]
  unfold zcv zia
  rw [if_neg (by omega), if_neg (by omega), if_neg (by omega), if_neg (by omega), if_neg (by omega), if_neg (by omega), if_neg (by omega)]
  have cn : ∀ n, zcc (110 + 43 * w + i) (n + 3) = .int 0 := fun n => by
    unfold zcc
    rw [if_neg (by omega), if_neg (by omega), if_neg (by omega), if_neg (by omega), if_neg (by omega), if_neg (by omega), if_neg (by omega)]
  match j with
  | 0 => rfl
  | 1 => rfl
  | 2 => rfl
  | n + 3 => exact (cn n).symm
theorem zkS_T (L : Nat) {w i : Nat} (hw : w ≤ 1) (hi : i < 41) : zkT L (110 + 43 * w + i) = (3, 3) := by
  rw [zkT_c L (by omega) (by omega)]
  unfold zck
  rw [if_neg (by omega), if_neg (by omega), if_neg (by omega), if_neg (by omega), if_neg (by omega)]
theorem zkP_T (L : Nat) {w : Nat} (hw : w ≤ 1) : zkT L (109 + 43 * w) = (203, 41) := by
  rw [zkT_c L (by omega) (by omega)]
  unfold zck
  rw [if_neg (by omega), if_neg (by omega), if_neg (by omega), if_neg (by omega), if_pos (by omega)]
theorem zkW_T (L : Nat) {w : Nat} (hw : w ≤ 1) : zkT L (108 + 43 * w) = (6, 11) := by
  rw [zkT_c L (by omega) (by omega)]
  unfold zck
  rw [if_neg (by omega), if_neg (by omega), if_neg (by omega), if_pos (by omega)]
theorem zkP_v (xs : Nat → Int32) {w : Nat} (hw : w ≤ 1) (j : Nat) : zgS w 41 j = zkV xs (109 + 43 * w) j := by
  rw [zkV_c xs (by omega) (by omega)]
  unfold zgS zcv zia
  rw [if_neg (show ¬ (109 + 43 * w = 3 ∨ 207 ≤ 109 + 43 * w) by omega), if_neg (show ¬ (109 + 43 * w ≤ 5 ∨ 109 + 43 * w = 46) by omega), if_neg (show ¬ 109 + 43 * w ≤ 45 by omega), if_neg (show ¬ 109 + 43 * w = 47 by omega), if_neg (show ¬ 109 + 43 * w ≤ 107 by omega), if_neg (show ¬ (109 + 43 * w - 108) % 43 = 0 by omega), if_pos (show (109 + 43 * w - 108) % 43 = 1 by omega)]
  show _ = zcc (109 + 43 * w) j
  unfold zcc
  rw [if_neg (show ¬ (109 + 43 * w = 3 ∨ 207 ≤ 109 + 43 * w) by omega), if_neg (show ¬ (109 + 43 * w ≤ 5 ∨ 109 + 43 * w = 46) by omega), if_neg (show ¬ 109 + 43 * w ≤ 45 by omega), if_neg (show ¬ 109 + 43 * w = 47 by omega), if_neg (show ¬ 109 + 43 * w ≤ 107 by omega), if_neg (show ¬ (109 + 43 * w - 108) % 43 = 0 by omega), if_pos (show (109 + 43 * w - 108) % 43 = 1 by omega), show 109 + 43 * w + 1 + j = 110 + 43 * w + j by omega]
theorem zkW_v (xs : Nat → Int32) {w : Nat} (hw : w ≤ 1) (j : Nat) : fu (fu (fu (zt_df 6) 2 (.ref (109 + 43 * w))) 0 (.ref 6)) 1 (.ref 46) j = zkV xs (108 + 43 * w) j := by
  have hw2 : w = 0 ∨ w = 1 := by omega
  rcases hw2 with rfl | rfl
  · match j with
    | 0 => rfl
    | 1 => rfl
    | 2 => rfl
    | 3 => rfl
    | 4 => rfl
    | 5 => rfl
    | 6 => rfl
    | 7 => rfl
    | 8 => rfl
    | 9 => rfl
    | 10 => rfl
    | n + 11 => rfl
  · match j with
    | 0 => rfl
    | 1 => rfl
    | 2 => rfl
    | 3 => rfl
    | 4 => rfl
    | 5 => rfl
    | 6 => rfl
    | 7 => rfl
    | 8 => rfl
    | 9 => rfl
    | 10 => rfl
    | n + 11 => rfl
theorem lI_W {d L w : Nat} {xs : Nat → Int32} {Q : Option Value → zm_H → Prop} {F : Nat → Value} (hw : w ≤ 1) (h4 : F 2 = .ref (109 + 43 * w)) : ∀ (n i sl : Nat) (e : Nat → Option (Nat → Value)), i + n = 41 → e (108 + 43 * w) = some F → e (109 + 43 * w) = some (zgS w i) → (∀ a, 110 + 43 * w ≤ a → e a = none) → Q none (zkH L xs (eu e (109 + 43 * w) (zgS w 41)) (151 + 43 * w) (sl + 3 * n)) → zm_wp (d + 1) 34 25 [.ref (108 + 43 * w), .ref 6, .ref 46, .int (nI i)] [] (zkH L xs e (110 + 43 * w + i) sl) Q := by
  intro n
  induction n with
  | zero =>
    intro i sl e hi he4 he5 hn hq
    obtain rfl : i = 41 := by omega
    refine wx_iload_n kc34_25 rfl rfl ?_
    refine wx_aload_n kc34_26 rfl rfl ?_
    refine wk_get kc34_27 he4 (by omega) (by omega) (by rw [zkW_T L hw]) h4 ?_
    refine wk_len (t := 203) (n := 41) kc34_30 (by omega) (zkP_T L hw) rfl ?_
    refine wn_icmp_ge kc34_31 (by decide) (by decide) (fun _ => ?_) (fun z => absurd z (by omega))
    refine wx_return kc34_53 rfl ?_
    have ee : eu e (109 + 43 * w) (zgS w 41) = e := by
      funext b
      unfold eu
      by_cases hb : b = 109 + 43 * w
      · rw [if_pos hb, hb, he5]
      · rw [if_neg hb]
    rw [ee, show 151 + 43 * w = 110 + 43 * w + 41 by omega] at hq
    exact hq
  | succ n ih =>
    intro i sl e hi he4 he5 hn hq
    refine wx_iload_n kc34_25 rfl rfl ?_
    refine wx_aload_n kc34_26 rfl rfl ?_
    refine wk_get kc34_27 he4 (by omega) (by omega) (by rw [zkW_T L hw]) h4 ?_
    refine wk_len (t := 203) (n := 41) kc34_30 (by omega) (zkP_T L hw) rfl ?_
    refine wn_icmp_ge kc34_31 (by omega) (by decide) (fun z => absurd z (by omega)) (fun _ => ?_)
    refine wx_aload_n kc34_34 rfl rfl ?_
    refine wk_get kc34_35 he4 (by omega) (by omega) (by rw [zkW_T L hw]) h4 ?_
    refine wx_iload_n kc34_38 rfl rfl ?_
    refine wk_new kc34_39 (hn _ (by omega)) (zkS_T L hw (by omega)) (zkS_v xs hw (by omega)) ?_
    refine wx_dup kc34_42 rfl ?_
    refine wx_special kc34_43 rfl rfl rfl ?_
    refine cI_S ?_
    show zm_wp _ 34 46 _ [.ref (110 + 43 * w + i), .int (nI i), .ref (109 + 43 * w)] _ _
    refine wk_ast (t := 203) (n := 41) kc34_46 he5 (by omega) (by omega) (zkP_T L hw) rfl (by omega) (by omega) (by rw [zkS_T L hw (by omega)]) (by omega) (by decide) ?_
    rw [zgS_s]
    refine wn_iinc (i + 1) (ls' := [.ref (108 + 43 * w), .ref 6, .ref 46, .int (nI (i + 1))]) kc34_47 rfl rfl rfl rfl rfl ?_
    refine wx_goto kc34_50 ?_
    have hne : ∀ a, 110 + 43 * w ≤ a → eu e (109 + 43 * w) (zgS w (i + 1)) a = none := fun a ha => by
      rw [eu_n e _ (by omega)]
      exact hn a ha
    have hk := ih (i + 1) (sl + 3) (eu e (109 + 43 * w) (zgS w (i + 1))) (by omega) ((eu_n e _ (by omega)).trans he4) (eu_s e _ _) hne
    rw [eu_eu, show sl + 3 + 3 * n = sl + 3 * (n + 1) by omega] at hk
    exact hk hq
theorem cI_W {d L sl : Nat} {xs : Nat → Int32} {e : Nat → Option (Nat → Value)} {Q : Option Value → zm_H → Prop} {w : Nat} (hw : w ≤ 1) (he : e (108 + 43 * w) = some (zt_df 6)) (hn : ∀ a, 109 + 43 * w ≤ a → e a = none) (hq : Q none (zkH L xs (eu e (108 + 43 * w) (fu (fu (fu (zt_df 6) 2 (.ref (109 + 43 * w))) 0 (.ref 6)) 1 (.ref 46))) (151 + 43 * w) (sl + 41 + 3 * 41))) (hN6 : True) : zm_wc (d + 2) mW_init [.ref (108 + 43 * w), .ref 6, .ref 46] (zkH L xs e (109 + 43 * w) sl) Q := by
  refine zm_enter (Nat.le_of_ble_eq_true rfl) ?_
  show zm_wp _ 34 0 [.ref (108 + 43 * w), .ref 6, .ref 46, zm_un] [] _ Q
  refine wx_aload_n kc34_0 rfl rfl ?_
  refine wx_objinit kc34_1 rfl ?_
  refine wx_aload_n kc34_4 rfl rfl ?_
  refine wx_bipush (nI 41) kc34_5 (by decide) ?_
  refine wk_ana kc34_7 (by decide) (zkP_T L hw) ?_
  refine wk_put kc34_10 ((eu_n e _ (by omega)).trans he) (by omega) (by omega) (by rw [zkW_T L hw]) rfl ?_
  refine wx_aload_n kc34_13 rfl rfl ?_
  refine wx_aload_n kc34_14 rfl rfl ?_
  refine wk_put kc34_15 (eu_s _ _ _) (by omega) (by omega) (by rw [zkW_T L hw]) rfl ?_
  rw [eu_eu]
  refine wx_aload_n kc34_18 rfl rfl ?_
  refine wx_aload_n kc34_19 rfl rfl ?_
  refine wk_put kc34_20 (eu_s _ _ _) (by omega) (by omega) (by rw [zkW_T L hw]) rfl ?_
  rw [eu_eu]
  obtain ⟨F, hF⟩ : ∃ F, F = fu (fu (fu (zt_df 6) 2 (.ref (109 + 43 * w))) 0 (.ref 6)) 1 (.ref 46) := ⟨_, rfl⟩
  have hF2 : F 2 = .ref (109 + 43 * w) := by rw [hF]; rfl
  show zm_wp _ 34 23 _ [] (zkH L xs (eu (eu e (109 + 43 * w) (fun _ => zm_df 203)) (108 + 43 * w) (fu (fu (fu (zt_df 6) 2 (.ref (109 + 43 * w))) 0 (.ref 6)) 1 (.ref 46))) _ _) _
  rw [← hF] at hq ⊢
  obtain ⟨e1, h1⟩ : ∃ e1, e1 = eu (eu e (109 + 43 * w) (fun _ => zm_df 203)) (108 + 43 * w) F := ⟨_, rfl⟩
  rw [← h1]
  have k4 : e1 (108 + 43 * w) = some F := by rw [h1]; exact eu_s _ _ _
  have k5 : e1 (109 + 43 * w) = some (zgS w 0) := by
    rw [h1, eu_n _ _ (by omega), eu_s]
    exact congrArg some (funext (fun j => (if_neg (Nat.not_lt_zero j)).symm))
  have kn : ∀ a, 110 + 43 * w ≤ a → e1 a = none := fun a ha => by
    rw [h1, eu_n _ _ (by omega), eu_n _ _ (by omega)]
    exact hn a (by omega)
  refine wx_iconst (nI 0) kc34_23 (by decide) ?_
  refine wx_istore_n (ls' := [.ref (108 + 43 * w), .ref 6, .ref 46, .int (nI 0)]) kc34_24 rfl rfl rfl rfl ?_
  rw [show 109 + 43 * w + 1 = 110 + 43 * w + 0 by omega]
  refine lI_W (F := F) hw hF2 41 0 _ e1 rfl k4 k5 kn ?_
  rw [zk_cm (eu_s e1 _ _) (by omega) (zkP_v xs hw)]
  have hend : en (eu e1 (109 + 43 * w) (zgS w 41)) (109 + 43 * w) = eu e (108 + 43 * w) F := by
    rw [h1]
    funext b
    simp only [en, eu]
    by_cases hb : b = 109 + 43 * w
    · rw [if_pos hb, if_neg (by omega), hb, hn _ (Nat.le_refl _)]
    · rw [if_neg hb, if_neg hb]
      by_cases hb4 : b = 108 + 43 * w
      · rw [if_pos hb4, if_pos hb4]
      · rw [if_neg hb4, if_neg hb4, if_neg hb]
  rw [hend]
  exact hq
theorem zkN_v (xs : Nat → Int32) (j : Nat) : fu (fu (fu (fu (fu (fu (zt_df 7) 0 (.ref 2)) 1 (.ref 4)) 2 (.ref 46)) 3 (.ref 108)) 4 (.ref 151)) 5 (.int (nI 40)) j = zkV xs 1 j := by
  match j with
  | 0 => rfl
  | 1 => rfl
  | 2 => rfl
  | 3 => rfl
  | 4 => rfl
  | 5 => rfl
  | n + 6 => rfl
theorem zkT_v (xs : Nat → Int32) (j : Nat) : fu (zt_df 4) 0 (.ref 3) j = zkV xs 2 j := by
  match j with
  | 0 => rfl
  | 1 => rfl
  | n + 2 => rfl
theorem zkL_v (xs : Nat → Int32) (j : Nat) : fu (fu (zt_df 0) 0 (.ref 5)) 1 (.ref 6) j = zkV xs 4 j := by
  match j with
  | 0 => rfl
  | 1 => rfl
  | n + 2 => rfl
theorem zkQ_v (xs : Nat → Int32) (j : Nat) : fu (zt_df 2) 0 (.ref 47) j = zkV xs 46 j := by
  match j with
  | 0 => rfl
  | 1 => rfl
  | n + 2 => rfl
theorem e0_1 (f : Nat → Value) {a : Nat} (h : 2 ≤ a) : eu e0 1 f a = none := if_neg (by omega)
theorem cI_N {d L sl : Nat} {xs : Nat → Int32} {Q : Option Value → zm_H → Prop} (hq : Q none (zkH L xs e0 194 (sl + 2256))) : zm_wc (d + 3) mN_init [.ref 1] (zkH L xs (eu e0 1 (zt_df 7)) 2 sl) Q := by
  refine zm_enter (Nat.le_of_ble_eq_true rfl) ?_
  show zm_wp _ 45 0 [.ref 1] [] _ Q
  refine wx_aload_n kc45_0 rfl rfl ?_
  refine wx_objinit kc45_1 rfl ?_
  refine wx_aload_n kc45_4 rfl rfl ?_
  refine wk_mk kc45_5 rfl ?_
  refine wx_dup kc45_8 rfl ?_
  refine wx_special kc45_9 rfl rfl rfl ?_
  refine cI_T (f := zt_df 4) (eu_s _ _ _) ((eu_n _ _ (by decide)).trans (e0_1 _ (by decide))) ?_
  rw [eu_eu, zk_cm (eu_s _ 2 _) (by decide) (zkT_v xs), en_eu _ 2 _ (e0_1 _ (by decide))]
  show zm_wp _ 45 12 _ [.ref 2, .ref 1] _ _
  refine wk_put kc45_12 (eu_s _ _ _) (by decide) (by decide) rfl rfl ?_
  rw [eu_eu]
  refine wx_aload_n kc45_15 rfl rfl ?_
  refine wk_mk kc45_16 rfl ?_
  refine wx_dup kc45_19 rfl ?_
  refine wx_special kc45_20 rfl rfl rfl ?_
  refine cI_L (eu_s _ _ _) (fun a ha => (eu_n _ _ (by omega)).trans (e0_1 _ (by omega))) ?_
  rw [eu_eu, zk_cm (eu_s _ 4 _) (by decide) (zkL_v xs), en_eu _ 4 _ (e0_1 _ (by decide))]
  show zm_wp _ 45 23 _ [.ref 4, .ref 1] _ _
  refine wk_put kc45_23 (eu_s _ _ _) (by decide) (by decide) rfl rfl ?_
  rw [eu_eu]
  refine wx_aload_n kc45_26 rfl rfl ?_
  refine wk_mk kc45_27 rfl ?_
  refine wx_dup kc45_30 rfl ?_
  refine wx_special kc45_31 rfl rfl rfl ?_
  refine cI_Q (eu_s _ _ _) (fun a ha => (eu_n _ _ (by omega)).trans (e0_1 _ (by omega))) ?_
  rw [eu_eu, zk_cm (eu_s _ 46 _) (by decide) (zkQ_v xs), en_eu _ 46 _ (e0_1 _ (by decide))]
  show zm_wp _ 45 34 _ [.ref 46, .ref 1] _ _
  refine wk_put kc45_34 (eu_s _ _ _) (by decide) (by decide) rfl rfl ?_
  rw [eu_eu]
  refine wx_aload_n kc45_37 rfl rfl ?_
  refine wk_mk kc45_38 rfl ?_
  refine wx_dup kc45_41 rfl ?_
  refine wx_aload_n kc45_42 rfl rfl ?_
  refine wk_get (v := .ref 4) kc45_43 ((eu_n _ _ (by decide)).trans (eu_s _ 1 _)) (by decide) (by decide) rfl rfl ?_
  refine wx_getfield kc45_46 (v := .ref 6) (zk_is (by decide) (by decide) rfl) rfl ?_
  refine wx_aload_n kc45_49 rfl rfl ?_
  refine wk_get (v := .ref 46) kc45_50 ((eu_n _ _ (by decide)).trans (eu_s _ 1 _)) (by decide) (by decide) rfl rfl ?_
  refine wx_special kc45_53 rfl rfl rfl ?_
  refine cI_W (w := 0) (by decide) (eu_s _ _ _) (fun a ha => (eu_n _ _ (by omega)).trans (e0_1 _ (by omega))) ?_ trivial
  rw [eu_eu, zk_cm (eu_s _ 108 _) (by decide) (zkW_v xs (w := 0) (by decide)), en_eu _ 108 _ (e0_1 _ (by decide))]
  show zm_wp _ 45 56 _ [.ref 108, .ref 1] _ _
  refine wk_put kc45_56 (eu_s _ _ _) (by decide) (by decide) rfl rfl ?_
  rw [eu_eu]
  refine wx_aload_n kc45_59 rfl rfl ?_
  refine wk_mk kc45_60 rfl ?_
  refine wx_dup kc45_63 rfl ?_
  refine wx_aload_n kc45_64 rfl rfl ?_
  refine wk_get (v := .ref 4) kc45_65 ((eu_n _ _ (by decide)).trans (eu_s _ 1 _)) (by decide) (by decide) rfl rfl ?_
  refine wx_getfield kc45_68 (v := .ref 6) (zk_is (by decide) (by decide) rfl) rfl ?_
  refine wx_aload_n kc45_71 rfl rfl ?_
  refine wk_get (v := .ref 46) kc45_72 ((eu_n _ _ (by decide)).trans (eu_s _ 1 _)) (by decide) (by decide) rfl rfl ?_
  refine wx_special kc45_75 rfl rfl rfl ?_
  refine cI_W (w := 1) (by decide) (eu_s _ _ _) (fun a ha => (eu_n _ _ (by omega)).trans (e0_1 _ (by omega))) ?_ trivial
  rw [eu_eu, zk_cm (eu_s _ 151 _) (by decide) (zkW_v xs (w := 1) (by decide)), en_eu _ 151 _ (e0_1 _ (by decide))]
  show zm_wp _ 45 78 _ [.ref 151, .ref 1] _ _
  refine wk_put kc45_78 (eu_s _ _ _) (by decide) (by decide) rfl rfl ?_
  rw [eu_eu]
  refine wx_aload_n kc45_81 rfl rfl ?_
  refine wx_bipush (nI 40) kc45_82 (by decide) ?_
  refine wk_put kc45_84 (eu_s _ _ _) (by decide) (by decide) rfl rfl ?_
  rw [eu_eu, zk_cm (eu_s _ 1 _) (by decide) (zkN_v xs), en_eu _ 1 _ rfl]
  exact wx_return kc45_87 rfl hq
